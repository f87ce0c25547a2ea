/-! THE REFERENCE, 27: a sentence; what is said; images -/
variable {Bm : Nat → Nat → Int}
set_option maxRecDepth 100000 in
set_option maxHeartbeats 4000000 in
theorem mm_leftOf (l : Launch) (d : Nat) (F : Nat → Int) (A : Nat → Nat → Int) (e : Int) (h : 0 ≤ e ∧ e ≤ 7) : kk_Ctr l (d + 1) en_t_X11_leftOf [(4, 0), (0, e)] (mm_w F A) (mm_Rd F A) := by
  refine kk_ctr en_hM (List.mem_of_getElem? (i := 280) rfl) rfl (Nat.le_of_ble_eq_true rfl) (fun K hC => ?_)
  have k4 : ∀ (n : Nat) (i : Int) (x : Int), (5 - i).toNat < n → (0 ≤ i ∧ i ≤ 4) → K 4 [(0, (4, 0)), (1, (0, e)), (2, (0, x)), (3, (0, i))] [] (mm_w F A) := by
    intro n
    induction n with
    | zero => intro i x hz; exact absurd hz (Nat.not_lt_zero _)
    | succ n ih =>
      intro i x hn h0
      refine hC.go [] _ rfl rfl ?_
      repeat' first | refine hC.gn [4] _ rfl rfl ?_ | refine And.intro ?_ ?_ | exact True.intro | refine hC.iadd [4] rfl rfl (by first | omega | (simp only [Int.reduceToNat] at *; omega)) ?_ | refine hC.isub [4] rfl rfl (by first | omega | (simp only [Int.reduceToNat] at *; omega)) ?_ | refine hC.imul [4] rfl rfl (by first | omega | (simp only [Int.reduceToNat] at *; omega)) ?_ | refine hC.iinc [4] rfl rfl rfl rfl (by first | omega | (simp only [Int.reduceToNat] at *; omega)) ?_ | refine hC.go [4] _ rfl rfl ?_ | (intro h; first | exact (h rfl).elim | (exfalso; cases h; done) | (dsimp only [kk_cP, kk_cN] at h) | skip) | (refine hC.same (mm_workOf l _ _ _ i e (by omega) (by omega) (by omega) (by omega)) rfl rfl rfl rfl (Nat.le_refl _) ?_; rintro rs w' ⟨rfl, rfl⟩)
      all_goals first | rfl | omega | exact ⟨_, rfl⟩ | exact Or.inl rfl | exact Or.inr rfl | (simp only [Int.reduceToNat] at *; omega) | exact hC.sub [(0, (4, 0)), (1, (0, _)), (2, (0, _)), (3, (0, _))] ⟨rfl, rfl, rfl, rfl, trivial⟩ (ih _ _ (by omega) (by omega))
  repeat' first | refine hC.gn [4] _ rfl rfl ?_ | refine And.intro ?_ ?_ | exact True.intro | refine hC.iadd [4] rfl rfl (by first | omega | (simp only [Int.reduceToNat] at *; omega)) ?_ | refine hC.isub [4] rfl rfl (by first | omega | (simp only [Int.reduceToNat] at *; omega)) ?_ | refine hC.imul [4] rfl rfl (by first | omega | (simp only [Int.reduceToNat] at *; omega)) ?_ | refine hC.iinc [4] rfl rfl rfl rfl (by first | omega | (simp only [Int.reduceToNat] at *; omega)) ?_ | refine hC.go [4] _ rfl rfl ?_ | (intro h; first | exact (h rfl).elim | (exfalso; cases h; done) | (dsimp only [kk_cP, kk_cN] at h) | skip)
  exact hC.sub [(0, (4, 0)), (1, (0, _)), (2, (0, _)), (3, (0, _))] ⟨rfl, rfl, rfl, rfl, trivial⟩ (k4 _ _ _ (Nat.lt_succ_self _) (by omega))
set_option maxRecDepth 100000 in
set_option maxHeartbeats 4000000 in
theorem mm_mustsOf (l : Launch) (d : Nat) (F : Nat → Int) (A : Nat → Nat → Int) (e : Int) (hc : mm_cn (A 2)) : kk_Ctr l (d + 1) en_t_X11_mustsOf [(4, 0), (0, e)] (mm_w F A) (mm_Rd F A) := by
  obtain ⟨c1, c2, c3, c4, c5, c6⟩ := hc
  refine kk_ctr en_hM (List.mem_of_getElem? (i := 281) rfl) rfl (Nat.le_of_ble_eq_true rfl) (fun K hC => ?_)
  have k4 : ∀ (n : Nat) (i : Int) (x : Int), (11 - i).toNat < n → (0 ≤ i ∧ i ≤ 10 ∧ -20 ≤ x ∧ x ≤ i) → K 4 [(0, (4, 0)), (1, (0, e)), (2, (0, x)), (3, (0, i))] [] (mm_w F A) := by
    intro n
    induction n with
    | zero => intro i x hz; exact absurd hz (Nat.not_lt_zero _)
    | succ n ih =>
      intro i x hn h0
      refine hC.go [] _ rfl rfl ?_
      repeat' first | refine hC.gn [4] _ rfl rfl ?_ | refine And.intro ?_ ?_ | exact True.intro | refine hC.iadd [4] rfl rfl (by first | omega | (simp only [Int.reduceToNat] at *; omega)) ?_ | refine hC.isub [4] rfl rfl (by first | omega | (simp only [Int.reduceToNat] at *; omega)) ?_ | refine hC.imul [4] rfl rfl (by first | omega | (simp only [Int.reduceToNat] at *; omega)) ?_ | refine hC.iinc [4] rfl rfl rfl rfl (by first | omega | (simp only [Int.reduceToNat] at *; omega)) ?_ | refine hC.go [4] _ rfl rfl ?_ | (intro h; first | exact (h rfl).elim | (exfalso; cases h; done) | (dsimp only [kk_cP, kk_cN] at h) | skip) | (refine hC.call (mm_has l _ _ _) [] rfl rfl rfl rfl rfl rfl trivial (Nat.le_refl _) ?_; rintro rs w' ⟨rfl, rfl | rfl⟩)
      all_goals first | rfl | omega | exact ⟨_, rfl⟩ | exact Or.inl rfl | exact Or.inr rfl | (simp only [Int.reduceToNat] at *; omega) | exact hC.sub [(0, (4, 0)), (1, (0, _)), (2, (0, _)), (3, (0, _))] ⟨rfl, rfl, rfl, rfl, trivial⟩ (ih _ _ (by omega) (by first | omega | (simp only [Int.reduceToNat] at *; omega)))
  repeat' first | refine hC.gn [4] _ rfl rfl ?_ | refine And.intro ?_ ?_ | exact True.intro | refine hC.iadd [4] rfl rfl (by first | omega | (simp only [Int.reduceToNat] at *; omega)) ?_ | refine hC.isub [4] rfl rfl (by first | omega | (simp only [Int.reduceToNat] at *; omega)) ?_ | refine hC.imul [4] rfl rfl (by first | omega | (simp only [Int.reduceToNat] at *; omega)) ?_ | refine hC.iinc [4] rfl rfl rfl rfl (by first | omega | (simp only [Int.reduceToNat] at *; omega)) ?_ | refine hC.go [4] _ rfl rfl ?_ | (intro h; first | exact (h rfl).elim | (exfalso; cases h; done) | (dsimp only [kk_cP, kk_cN] at h) | skip)
  exact hC.sub [(0, (4, 0)), (1, (0, _)), (2, (0, _)), (3, (0, _))] ⟨rfl, rfl, rfl, rfl, trivial⟩ (k4 _ _ _ (Nat.lt_succ_self _) (by omega))
set_option maxRecDepth 100000 in
set_option maxHeartbeats 4000000 in
theorem mm_holds2 (l : Launch) (F : Nat → Int) (A : Nat → Nat → Int) (hG : mm_Gd (A 2)) (p : Int) (hp : 0 ≤ p ∧ p ≤ 7) : ∀ (n d : Nat) (k : Int), k < n → 0 ≤ k ∧ k < 60 → kk_Ctr l (d + n + 2) en_t_X11_holds_ [(4, 0), (0, k), (0, p)] (mm_w F A) (fun rs w' => w' = mm_w F A ∧ (rs = [(0, 1)] ∨ rs = [(0, 0)])) := by
  have hv := hG.2.1
  have hcn := hG.1.1
  intro n
  induction n with
  | zero => intro d k h1 h2; omega
  | succ n ih =>
    intro d k hk k0
    obtain ⟨t1, t2, t3⟩ := hG.2.2.2.2 k.toNat (by omega)
    dsimp only at t1 t2 t3
    have x0 : (152 + 4 * k).toNat = 152 + 4 * k.toNat := by omega
    have x1 : (152 + 4 * k + 1).toNat = 152 + (4 * k.toNat + 1) := by omega
    have x2 : (152 + 4 * k + 2).toNat = 152 + (4 * k.toNat + 2) := by omega
    rw [← x0, ← x1] at t1 t3
    rw [← x0, ← x2] at t2
    refine kk_ctr en_hM (List.mem_of_getElem? (i := 253) rfl) rfl (Nat.le_of_ble_eq_true rfl) (fun K hC => ?_)
    repeat' first | refine hC.gn [] _ rfl rfl ?_ | refine And.intro ?_ ?_ | exact True.intro | refine hC.iadd [] rfl rfl (by first | omega | (simp only [Int.reduceToNat] at *; omega)) ?_ | refine hC.isub [] rfl rfl (by first | omega | (simp only [Int.reduceToNat] at *; omega)) ?_ | refine hC.imul [] rfl rfl (by first | omega | (simp only [Int.reduceToNat] at *; omega)) ?_ | refine hC.iinc [] rfl rfl rfl rfl (by first | omega | (simp only [Int.reduceToNat] at *; omega)) ?_ | refine hC.go [] _ rfl rfl ?_ | (intro h; first | exact (h rfl).elim | (exfalso; cases h; done) | (dsimp only [kk_cP, kk_cN] at h) | skip) | (refine hC.same (ih d (A 2 (152 + 4 * k + 1).toNat) (by omega) (by omega)) rfl rfl rfl rfl (by omega) ?_; rintro rs w' ⟨rfl, rfl | rfl⟩) | (refine hC.same (ih d (A 2 (152 + 4 * k + 2).toNat) (by omega) (by omega)) rfl rfl rfl rfl (by omega) ?_; rintro rs w' ⟨rfl, rfl | rfl⟩) | (refine hC.same (mm_mustNow l (d + n + 1) _ _ hv) rfl rfl rfl rfl (by omega) ?_; rintro rs w' ⟨rfl, xm, rfl⟩) | (refine hC.same (mm_barredNow l (d + n + 1) _ _ hv) rfl rfl rfl rfl (by omega) ?_; rintro rs w' ⟨rfl, xm, rfl⟩) | (refine hC.same (mm_barredEver l (d + n + 2) _ _ hcn) rfl rfl rfl rfl (by omega) ?_; rintro rs w' ⟨rfl, xm, rfl⟩) | (refine hC.same (mm_workOf l (d + n + 2) _ _ (A 2 (152 + 4 * k + 1).toNat) p (by omega) (by omega) (by omega) (by omega)) rfl rfl rfl rfl (by omega) ?_; rintro rs w' ⟨rfl, rfl⟩) | (refine hC.same (mm_leftOf l (d + n + 1) _ _ p hp) rfl rfl rfl rfl (by omega) ?_; rintro rs w' ⟨rfl, xm, rfl⟩) | (refine hC.same (mm_mustsOf l (d + n + 1) _ _ p hcn) rfl rfl rfl rfl (by omega) ?_; rintro rs w' ⟨rfl, xm, rfl⟩) | (refine hC.call (mm_has l (d + n + 2) _ _) [] rfl rfl rfl rfl rfl rfl trivial (by omega) ?_; rintro rs w' ⟨rfl, rfl | rfl⟩)
    all_goals first | omega | rfl | exact Or.inl rfl | exact Or.inr rfl
set_option maxRecDepth 100000 in
set_option maxHeartbeats 4000000 in
theorem mm_saidI (l : Launch) (d : Nat) (F : Nat → Int) (A : Nat → Nat → Int) (k : Int) (hI : mm_I Bm F A) : kk_Ctr l (d + 63) en_t_X11_said [(4, 0), (0, k)] (mm_w F A) (mm_Po Bm (F 2) (A 10) 0) := by
  refine kk_ctr en_hM (List.mem_of_getElem? (i := 202) rfl) rfl (Nat.le_of_ble_eq_true rfl) (fun K hC => ?_)
  repeat' first | refine hC.gn [5] _ rfl rfl ?_ | refine And.intro ?_ ?_ | exact True.intro | refine hC.iadd [5] rfl rfl (by first | omega | (simp only [Int.reduceToNat] at *; omega)) ?_ | refine hC.isub [5] rfl rfl (by first | omega | (simp only [Int.reduceToNat] at *; omega)) ?_ | refine hC.imul [5] rfl rfl (by first | omega | (simp only [Int.reduceToNat] at *; omega)) ?_ | refine hC.iinc [5] rfl rfl rfl rfl (by first | omega | (simp only [Int.reduceToNat] at *; omega)) ?_ | refine hC.go [5] _ rfl rfl ?_ | (intro h; first | exact (h rfl).elim | (exfalso; cases h; done) | (dsimp only [kk_cP, kk_cN] at h) | skip)
  refine (show ∀ F1 : Nat → Int, F1 2 = F 2 → mm_I Bm F1 A → K 5 [(0, (4, 0)), (1, (0, k))] [] (mm_w F1 A) from ?_) (kk_up F 0 0) rfl hI
  clear hI
  intro F1 e2 hI
  obtain ⟨c1, c2, c3, c4, c5, c6⟩ := hI.cn
  have t0 : 0 ≤ A 2 (Int.toNat 151) := hI.gd.2.2.1
  have t1 : A 2 (Int.toNat 151) < 60 := hI.gd.2.2.2.1
  have k22 : ∀ (n : Nat) (p : Int) (y : Int), (9 - p).toNat < n → (0 ≤ p ∧ p ≤ 8 ∧ 0 ≤ y ∧ y ≤ p) → K 22 [(0, (4, 0)), (1, (0, k)), (2, (0, y)), (3, (0, p))] [] (mm_w F1 A) := by
    intro n
    induction n with
    | zero => intro p y hz; exact absurd hz (Nat.not_lt_zero _)
    | succ n ih =>
      intro p y hn p0
      refine hC.go [] _ rfl rfl ?_
      repeat' first | refine hC.gn [22] _ rfl rfl ?_ | refine And.intro ?_ ?_ | exact True.intro | refine hC.iadd [22] rfl rfl (by first | omega | (simp only [Int.reduceToNat] at *; omega)) ?_ | refine hC.isub [22] rfl rfl (by first | omega | (simp only [Int.reduceToNat] at *; omega)) ?_ | refine hC.imul [22] rfl rfl (by first | omega | (simp only [Int.reduceToNat] at *; omega)) ?_ | refine hC.iinc [22] rfl rfl rfl rfl (by first | omega | (simp only [Int.reduceToNat] at *; omega)) ?_ | refine hC.go [22] _ rfl rfl ?_ | (intro h; first | exact (h rfl).elim | (exfalso; cases h; done) | (dsimp only [kk_cP, kk_cN] at h) | skip)
      all_goals first | omega | exact ⟨F1, A, _, rfl, rfl, hI, e2, rfl⟩ | skip
      have hp8 : p < A 2 0 := by assumption
      refine hC.same (mm_holds2 l F1 A hI.gd p (by omega) 60 d (A 2 (Int.toNat 151)) (by omega) (by omega)) rfl rfl rfl rfl (Nat.le_refl _) ?_
      rintro rs w' ⟨rfl, rfl | rfl⟩
      · repeat' first | refine hC.gn [22] _ rfl rfl ?_ | refine And.intro ?_ ?_ | exact True.intro | refine hC.iadd [22] rfl rfl (by first | omega | (simp only [Int.reduceToNat] at *; omega)) ?_ | refine hC.isub [22] rfl rfl (by first | omega | (simp only [Int.reduceToNat] at *; omega)) ?_ | refine hC.imul [22] rfl rfl (by first | omega | (simp only [Int.reduceToNat] at *; omega)) ?_ | refine hC.iinc [22] rfl rfl rfl rfl (by first | omega | (simp only [Int.reduceToNat] at *; omega)) ?_ | refine hC.go [22] _ rfl rfl ?_ | (intro h; first | exact (h rfl).elim | (exfalso; cases h; done) | (dsimp only [kk_cP, kk_cN] at h) | skip)
        all_goals first | omega | exact ⟨F1, A, _, rfl, rfl, hI, e2, rfl⟩ | exact hC.sub [(0, (4, 0)), (1, (0, _)), (2, (0, _)), (3, (0, _))] ⟨rfl, rfl, rfl, rfl, trivial⟩ (ih _ _ (by omega) (by omega))
      · repeat' first | refine hC.gn [22] _ rfl rfl ?_ | refine And.intro ?_ ?_ | exact True.intro | refine hC.iadd [22] rfl rfl (by first | omega | (simp only [Int.reduceToNat] at *; omega)) ?_ | refine hC.isub [22] rfl rfl (by first | omega | (simp only [Int.reduceToNat] at *; omega)) ?_ | refine hC.imul [22] rfl rfl (by first | omega | (simp only [Int.reduceToNat] at *; omega)) ?_ | refine hC.iinc [22] rfl rfl rfl rfl (by first | omega | (simp only [Int.reduceToNat] at *; omega)) ?_ | refine hC.go [22] _ rfl rfl ?_ | (intro h; first | exact (h rfl).elim | (exfalso; cases h; done) | (dsimp only [kk_cP, kk_cN] at h) | skip)
        all_goals first | omega | exact ⟨F1, A, _, rfl, rfl, hI, e2, rfl⟩ | exact hC.sub [(0, (4, 0)), (1, (0, _)), (2, (0, _)), (3, (0, _))] ⟨rfl, rfl, rfl, rfl, trivial⟩ (ih _ _ (by omega) (by omega))
  repeat' first | refine hC.gn [22] _ rfl rfl ?_ | refine And.intro ?_ ?_ | exact True.intro | refine hC.iadd [22] rfl rfl (by first | omega | (simp only [Int.reduceToNat] at *; omega)) ?_ | refine hC.isub [22] rfl rfl (by first | omega | (simp only [Int.reduceToNat] at *; omega)) ?_ | refine hC.imul [22] rfl rfl (by first | omega | (simp only [Int.reduceToNat] at *; omega)) ?_ | refine hC.iinc [22] rfl rfl rfl rfl (by first | omega | (simp only [Int.reduceToNat] at *; omega)) ?_ | refine hC.go [22] _ rfl rfl ?_ | (intro h; first | exact (h rfl).elim | (exfalso; cases h; done) | (dsimp only [kk_cP, kk_cN] at h) | skip)
  all_goals first | omega | exact ⟨F1, A, _, rfl, rfl, hI, e2, rfl⟩ | exact hC.sub [(0, (4, 0)), (1, (0, _)), (2, (0, _)), (3, (0, _))] ⟨rfl, rfl, rfl, rfl, trivial⟩ (k22 _ _ _ (Nat.lt_succ_self _) (by omega))
/-- the arrays of A, with the numbers of Bm -/
def sb (Bm A : Nat → Nat → Int) : Nat → Nat → Int := mm_up A 20 (Bm 20)
set_option maxRecDepth 100000 in
set_option maxHeartbeats 4000000 in
theorem mm_fr.sb {cv wa fa : Int} {A A' : Nat → Nat → Int} (h : mm_fr Bm cv wa fa A) : mm_fr (sb Bm A') cv wa fa A' := ⟨fun _ _ => rfl, rfl, rfl, rfl, rfl, h.2.2.2.2.2⟩
/-- with another fault -/
def fu (Bm : Nat → Nat → Int) (v : Int) : Nat → Nat → Int := mm_up Bm 20 (kk_up (Bm 20) 0 v)
set_option maxRecDepth 100000 in
set_option maxHeartbeats 4000000 in
theorem mm_fr.fu {cv wa fa v : Int} {A : Nat → Nat → Int} (h : mm_fr Bm cv wa fa A) : mm_fr (fu Bm v) cv wa v A := ⟨h.1, h.2.1, h.2.2.1, h.2.2.2.1, h.2.2.2.2.1, h.2.2.2.2.2.1, h.2.2.2.2.2.2.1, rfl⟩
set_option maxRecDepth 100000 in
set_option maxHeartbeats 4000000 in
theorem mm_I.self {F : Nat → Int} {A : Nat → Nat → Int} (h : mm_I Bm F A) : mm_I (sb Bm A) F A := by
  obtain ⟨h0, h1, h2, h3, h4, h5, h6, h7, h8, h9, h10, h11⟩ := h
  exact ⟨h0, h1, h2, h3, h4, h5, h6, h7, h8, h9, h10, h11.sb⟩
/-- what image writes -/
def mm_im (k : Int) (A A' : Nat → Nat → Int) : Prop := (∀ p, p ≠ 4 → p ≠ 9 → p ≠ 10 → A' p = A p) ∧ (∀ z : Nat, z < 392 → A' 4 (392 * k.toNat + z) = A 2 z) ∧ (∀ j : Nat, j < 2 → (j : Int) ≠ k → ∀ z, z < 392 → A' 4 (392 * j + z) = A 4 (392 * j + z)) ∧ (∀ z : Nat, z < 22 → A' 9 (22 * k.toNat + z) = A 7 z) ∧ (∀ j : Nat, j < 2 → (j : Int) ≠ k → ∀ z, z < 22 → A' 9 (22 * j + z) = A 9 (22 * j + z))
set_option maxRecDepth 100000 in
set_option maxHeartbeats 4000000 in
theorem mm_imageI (l : Launch) (d : Nat) (F : Nat → Int) (A : Nat → Nat → Int) (k : Int) (hI : mm_I Bm F A) : kk_Ctr l (d + 1) en_t_X11_image [(4, 0), (0, k)] (mm_w F A) (fun rs w' => ∃ F' A', w' = mm_w F' A' ∧ mm_I (sb Bm A') F' A' ∧ F' 2 = F 2 ∧ ((0 ≤ k ∧ k ≤ 1 ∧ rs = [(0, 1)] ∧ A' 10 = kk_up (A 10) k.toNat 1 ∧ mm_im k A A') ∨ (¬ (0 ≤ k ∧ k ≤ 1) ∧ rs = [(0, 0)] ∧ A' = A))) := by
  refine kk_ctr en_hM (List.mem_of_getElem? (i := 203) rfl) rfl (Nat.le_of_ble_eq_true rfl) (fun K hC => ?_)
  repeat' first | refine hC.gn [5] _ rfl rfl ?_ | refine And.intro ?_ ?_ | exact True.intro | refine hC.iadd [5] rfl rfl (by first | omega | (simp only [Int.reduceToNat] at *; omega)) ?_ | refine hC.isub [5] rfl rfl (by first | omega | (simp only [Int.reduceToNat] at *; omega)) ?_ | refine hC.imul [5] rfl rfl (by first | omega | (simp only [Int.reduceToNat] at *; omega)) ?_ | refine hC.iinc [5] rfl rfl rfl rfl (by first | omega | (simp only [Int.reduceToNat] at *; omega)) ?_ | refine hC.go [5] _ rfl rfl ?_ | (intro h; first | exact (h rfl).elim | (exfalso; cases h; done) | (dsimp only [kk_cP, kk_cN] at h) | skip)
  refine (show ∀ F1 : Nat → Int, F1 2 = F 2 → mm_I Bm F1 A → K 5 [(0, (4, 0)), (1, (0, k))] [] (mm_w F1 A) from ?_) (kk_up F 0 0) rfl hI
  clear hI
  intro F1 e2 hI
  have k51 : ∀ (n : Nat) (i : Int) (g : Nat → Int) (u : Nat → Int), (22 - i).toNat < n → (0 ≤ i ∧ i ≤ 22) → (0 ≤ k ∧ k ≤ 1) → (∀ j : Nat, j < 392 → g ((392 * k).toNat + j) = A 2 j) → (∀ j : Nat, j < 2 → (j : Int) ≠ k → ∀ z, z < 392 → g (392 * j + z) = A 4 (392 * j + z)) → (mm_nb 44 u) → (∀ j : Nat, (j : Int) < i → u ((22 * k).toNat + j) = A 7 j) → (∀ j : Nat, j < 2 → (j : Int) ≠ k → ∀ z, z < 22 → u (22 * j + z) = A 9 (22 * j + z)) → K 51 [(0, (4, 0)), (1, (0, k)), (2, (0, i))] [] (mm_w F1 (mm_up (mm_up A 4 g) 9 u)) := by
    intro n
    induction n with
    | zero => intro i g u hz; exact absurd hz (Nat.not_lt_zero _)
    | succ n ih =>
      intro i g u hn i0 k1 q1 q2 q3 q4 q5
      refine hC.go [] _ rfl rfl ?_
      repeat' first | refine hC.gn [51] _ rfl rfl ?_ | refine And.intro ?_ ?_ | exact True.intro | refine hC.iadd [51] rfl rfl (by first | omega | (simp only [Int.reduceToNat] at *; omega)) ?_ | refine hC.isub [51] rfl rfl (by first | omega | (simp only [Int.reduceToNat] at *; omega)) ?_ | refine hC.imul [51] rfl rfl (by first | omega | (simp only [Int.reduceToNat] at *; omega)) ?_ | refine hC.iinc [51] rfl rfl rfl rfl (by first | omega | (simp only [Int.reduceToNat] at *; omega)) ?_ | refine hC.go [51] _ rfl rfl ?_ | (intro h; first | exact (h rfl).elim | (exfalso; cases h; done) | (dsimp only [kk_cP, kk_cN] at h) | skip)
      all_goals first | omega | exact Or.inl rfl | exact Or.inr rfl | skip
      · have ek : 392 * k.toNat = (392 * k).toNat := by omega
        have eu : 22 * k.toNat = (22 * k).toNat := by omega
        refine ⟨F1, mm_up (mm_up (mm_up A 4 g) 9 u) 10 (kk_up (A 10) k.toNat 1), rfl, ⟨hI.1, ?_⟩, e2, Or.inl ⟨k1.1, k1.2, rfl, rfl, fun p h4 h9 h10 => by rw [mm_up_ne h10, mm_up_ne h9, mm_up_ne h4], fun z hz => by rw [ek]; exact q1 z hz, q2, fun z hz => by rw [eu]; exact q4 z (by omega), q5⟩⟩
        obtain ⟨z1, z2, z3, z4, z5, z6, z7, z8, z9, z10, z11⟩ := hI.2
        refine ⟨z1, z2, z3, z4, z5, q3, z7, z8, fun j hj hne => ?_, z10, z11.sb⟩
        show mm_Gd (fun z => g (392 * j + z))
        by_cases hq : (j : Int) = k
        · exact z7.eq (fun z hz => by show g (392 * j + z) = A 2 z; rw [show 392 * j = (392 * k).toNat by omega]; exact q1 z hz)
        · exact (z9 j hj (by have h9 : kk_up (A 10) k.toNat 1 j ≠ 0 := hne; rw [kk_up_ne (by omega)] at h9; exact h9)).eq (fun z hz => q2 j hj hq z hz)
      · refine hC.sub [(0, (4, 0)), (1, (0, _)), (2, (0, _))] ⟨rfl, rfl, rfl, trivial⟩ (ih _ g (kk_up u (22 * k + i).toNat (A 7 i.toNat)) (by omega) (by omega) k1 q1 q2 (q3.up (hI.2.2.2.2.1 i.toNat (by omega))) (fun j hj => ?_) (fun j hj hne z hz => (kk_up_ne (by omega)).trans (q5 j hj hne z hz)))
        by_cases hq : (j : Int) = i
        · rw [show (22 * k).toNat + j = (22 * k + i).toNat by omega, kk_up_eq, show i.toNat = j by omega]
        · rw [kk_up_ne (by omega)]
          exact q4 j (by omega)
  have k18 : ∀ (n : Nat) (i : Int) (g : Nat → Int), (392 - i).toNat < n → (0 ≤ i ∧ i ≤ 392) → (0 ≤ k ∧ k ≤ 1) → (∀ j : Nat, (j : Int) < i → g ((392 * k).toNat + j) = A 2 j) → (∀ j : Nat, j < 2 → (j : Int) ≠ k → ∀ z, z < 392 → g (392 * j + z) = A 4 (392 * j + z)) → K 18 [(0, (4, 0)), (1, (0, k)), (2, (0, i))] [] (mm_w F1 (mm_up A 4 g)) := by
    intro n
    induction n with
    | zero => intro i g hz; exact absurd hz (Nat.not_lt_zero _)
    | succ n ih =>
      intro i g hn i0 k1 q1 q2
      refine hC.go [] _ rfl rfl ?_
      repeat' first | refine hC.gn [18, 51] _ rfl rfl ?_ | refine And.intro ?_ ?_ | exact True.intro | refine hC.iadd [18, 51] rfl rfl (by first | omega | (simp only [Int.reduceToNat] at *; omega)) ?_ | refine hC.isub [18, 51] rfl rfl (by first | omega | (simp only [Int.reduceToNat] at *; omega)) ?_ | refine hC.imul [18, 51] rfl rfl (by first | omega | (simp only [Int.reduceToNat] at *; omega)) ?_ | refine hC.iinc [18, 51] rfl rfl rfl rfl (by first | omega | (simp only [Int.reduceToNat] at *; omega)) ?_ | refine hC.go [18, 51] _ rfl rfl ?_ | (intro h; first | exact (h rfl).elim | (exfalso; cases h; done) | (dsimp only [kk_cP, kk_cN] at h) | skip)
      all_goals first | omega | skip
      · exact hC.sub [(0, (4, 0)), (1, (0, _)), (2, (0, _))] ⟨rfl, rfl, rfl, trivial⟩ (k51 _ _ g (A 9) (Nat.lt_succ_self _) (by omega) k1 (fun z hz => q1 z (by omega)) q2 hI.2.2.2.2.2.2.1 (fun j hj => absurd hj (by omega)) (fun j _ _ z _ => rfl))
      · refine hC.sub [(0, (4, 0)), (1, (0, _)), (2, (0, _))] ⟨rfl, rfl, rfl, trivial⟩ (ih _ (kk_up g (392 * k + i).toNat (A 2 i.toNat)) (by omega) (by omega) k1 (fun j hj => ?_) (fun j hj hne z hz => (kk_up_ne (by omega)).trans (q2 j hj hne z hz)))
        by_cases hq : (j : Int) = i
        · rw [show (392 * k).toNat + j = (392 * k + i).toNat by omega, kk_up_eq, show i.toNat = j by omega]
        · rw [kk_up_ne (by omega)]
          exact q1 j (by omega)
  repeat' first | refine hC.gn [18] _ rfl rfl ?_ | refine And.intro ?_ ?_ | exact True.intro | refine hC.iadd [18] rfl rfl (by first | omega | (simp only [Int.reduceToNat] at *; omega)) ?_ | refine hC.isub [18] rfl rfl (by first | omega | (simp only [Int.reduceToNat] at *; omega)) ?_ | refine hC.imul [18] rfl rfl (by first | omega | (simp only [Int.reduceToNat] at *; omega)) ?_ | refine hC.iinc [18] rfl rfl rfl rfl (by first | omega | (simp only [Int.reduceToNat] at *; omega)) ?_ | refine hC.go [18] _ rfl rfl ?_ | (intro h; first | exact (h rfl).elim | (exfalso; cases h; done) | (dsimp only [kk_cP, kk_cN] at h) | skip) | (refine hC.call (mm_isIn l _ _ _ _) [] rfl rfl rfl rfl rfl rfl trivial (Nat.le_refl _) ?_; rintro rs w' ⟨rfl, ⟨rfl, h1, h2⟩ | ⟨rfl, h1⟩⟩)
  all_goals first | omega | exact Or.inl rfl | exact Or.inr rfl | exact ⟨F1, A, rfl, hI.self, e2, Or.inr ⟨by omega, rfl, rfl⟩⟩ | exact hC.sub [(0, (4, 0)), (1, (0, _)), (2, (0, _))] ⟨rfl, rfl, rfl, trivial⟩ (k18 _ _ (A 4) (Nat.lt_succ_self _) (by omega) (by omega) (fun j hj => absurd hj (by omega)) (fun j _ _ z _ => rfl))
/-- what restore writes -/
def mm_rs (k : Int) (A A' : Nat → Nat → Int) : Prop := (∀ p, p ≠ 2 → p ≠ 7 → A' p = A p) ∧ (∀ z : Nat, z < 392 → A' 2 z = A 4 (392 * k.toNat + z)) ∧ (∀ z : Nat, z < 22 → A' 7 z = A 9 (22 * k.toNat + z))
set_option maxRecDepth 100000 in
set_option maxHeartbeats 4000000 in
theorem mm_restoreI (l : Launch) (d : Nat) (F : Nat → Int) (A : Nat → Nat → Int) (k : Int) (hI : mm_I Bm F A) : kk_Ctr l (d + 1) en_t_X11_restore [(4, 0), (0, k)] (mm_w F A) (fun rs w' => ∃ F' A', w' = mm_w F' A' ∧ mm_I (sb Bm A') F' A' ∧ F' 2 = F 2 ∧ ((0 ≤ k ∧ k ≤ 1 ∧ A 10 k.toNat ≠ 0 ∧ rs = [(0, 1)] ∧ mm_rs k A A') ∨ (¬ (0 ≤ k ∧ k ≤ 1 ∧ A 10 k.toNat ≠ 0) ∧ rs = [(0, 0)] ∧ A' = A))) := by
  refine kk_ctr en_hM (List.mem_of_getElem? (i := 204) rfl) rfl (Nat.le_of_ble_eq_true rfl) (fun K hC => ?_)
  repeat' first | refine hC.gn [5] _ rfl rfl ?_ | refine And.intro ?_ ?_ | exact True.intro | refine hC.iadd [5] rfl rfl (by first | omega | (simp only [Int.reduceToNat] at *; omega)) ?_ | refine hC.isub [5] rfl rfl (by first | omega | (simp only [Int.reduceToNat] at *; omega)) ?_ | refine hC.imul [5] rfl rfl (by first | omega | (simp only [Int.reduceToNat] at *; omega)) ?_ | refine hC.iinc [5] rfl rfl rfl rfl (by first | omega | (simp only [Int.reduceToNat] at *; omega)) ?_ | refine hC.go [5] _ rfl rfl ?_ | (intro h; first | exact (h rfl).elim | (exfalso; cases h; done) | (dsimp only [kk_cP, kk_cN] at h) | skip)
  refine (show ∀ F1 : Nat → Int, F1 2 = F 2 → mm_I Bm F1 A → K 5 [(0, (4, 0)), (1, (0, k))] [] (mm_w F1 A) from ?_) (kk_up F 0 0) rfl hI
  clear hI
  intro F1 e2 hI
  have k60 : ∀ (n : Nat) (i : Int) (N : Nat → Int) (u : Nat → Int), (22 - i).toNat < n → (0 ≤ i ∧ i ≤ 22) → (0 ≤ k ∧ k ≤ 1 ∧ A 10 k.toNat ≠ 0) → (∀ j : Nat, j < 392 → N j = A 4 (392 * k.toNat + j)) → (∀ j : Nat, (j : Int) < i → u j = A 9 (22 * k.toNat + j)) → K 60 [(0, (4, 0)), (1, (0, k)), (2, (0, i))] [] (mm_w F1 (mm_up (mm_up A 2 N) 7 u)) := by
    intro n
    induction n with
    | zero => intro i N u hz; exact absurd hz (Nat.not_lt_zero _)
    | succ n ih =>
      intro i N u hn i0 k1 q1 q3
      refine hC.go [] _ rfl rfl ?_
      repeat' first | refine hC.gn [60] _ rfl rfl ?_ | refine And.intro ?_ ?_ | exact True.intro | refine hC.iadd [60] rfl rfl (by first | omega | (simp only [Int.reduceToNat] at *; omega)) ?_ | refine hC.isub [60] rfl rfl (by first | omega | (simp only [Int.reduceToNat] at *; omega)) ?_ | refine hC.imul [60] rfl rfl (by first | omega | (simp only [Int.reduceToNat] at *; omega)) ?_ | refine hC.iinc [60] rfl rfl rfl rfl (by first | omega | (simp only [Int.reduceToNat] at *; omega)) ?_ | refine hC.go [60] _ rfl rfl ?_ | (intro h; first | exact (h rfl).elim | (exfalso; cases h; done) | (dsimp only [kk_cP, kk_cN] at h) | skip)
      all_goals first | omega | exact Or.inl rfl | exact Or.inr rfl | skip
      · refine ⟨kk_up F1 23 0, mm_up (mm_up A 2 N) 7 u, rfl, ⟨hI.1, ?_⟩, e2, Or.inl ⟨k1.1, k1.2.1, k1.2.2, rfl, fun p h2 h7 => by rw [mm_up_ne h7, mm_up_ne h2], q1, fun z hz => q3 z (by omega)⟩⟩
        obtain ⟨z1, z2, z3, z4, z5, z6, z7, z8, z9, z10, z11⟩ := hI.2
        exact ⟨(show (0 : Int) ≤ 0 ∧ (0 : Int) ≤ 8 by decide), z2, z3, fun j hj => by show u j ≤ 10460353202; rw [q3 j (by omega)]; exact z6 _ (by omega), z5, z6, (z9 k.toNat (by omega) k1.2.2).eq q1, fun j hj => absurd (show (j : Int) < 0 from hj) (by omega), z9, z10, z11.sb⟩
      · refine hC.sub [(0, (4, 0)), (1, (0, _)), (2, (0, _))] ⟨rfl, rfl, rfl, trivial⟩ (ih _ N (kk_up u i.toNat (A 9 (22 * k + i).toNat)) (by omega) (by omega) k1 q1 (fun j hj => ?_))
        by_cases hq : (j : Int) = i
        · rw [show j = i.toNat by omega, kk_up_eq, show (22 * k + i).toNat = 22 * k.toNat + i.toNat by omega]
        · rw [kk_up_ne (by omega)]
          exact q3 j (by omega)
  have k27 : ∀ (n : Nat) (i : Int) (N : Nat → Int), (392 - i).toNat < n → (0 ≤ i ∧ i ≤ 392) → (0 ≤ k ∧ k ≤ 1 ∧ A 10 k.toNat ≠ 0) → (∀ j : Nat, (j : Int) < i → N j = A 4 (392 * k.toNat + j)) → K 27 [(0, (4, 0)), (1, (0, k)), (2, (0, i))] [] (mm_w F1 (mm_up A 2 N)) := by
    intro n
    induction n with
    | zero => intro i N hz; exact absurd hz (Nat.not_lt_zero _)
    | succ n ih =>
      intro i N hn i0 k1 q1
      refine hC.go [] _ rfl rfl ?_
      repeat' first | refine hC.gn [27, 60] _ rfl rfl ?_ | refine And.intro ?_ ?_ | exact True.intro | refine hC.iadd [27, 60] rfl rfl (by first | omega | (simp only [Int.reduceToNat] at *; omega)) ?_ | refine hC.isub [27, 60] rfl rfl (by first | omega | (simp only [Int.reduceToNat] at *; omega)) ?_ | refine hC.imul [27, 60] rfl rfl (by first | omega | (simp only [Int.reduceToNat] at *; omega)) ?_ | refine hC.iinc [27, 60] rfl rfl rfl rfl (by first | omega | (simp only [Int.reduceToNat] at *; omega)) ?_ | refine hC.go [27, 60] _ rfl rfl ?_ | (intro h; first | exact (h rfl).elim | (exfalso; cases h; done) | (dsimp only [kk_cP, kk_cN] at h) | skip)
      all_goals first | omega | skip
      · exact hC.sub [(0, (4, 0)), (1, (0, _)), (2, (0, _))] ⟨rfl, rfl, rfl, trivial⟩ (k60 _ _ N (A 7) (Nat.lt_succ_self _) (by omega) k1 (fun z hz => q1 z (by omega)) (fun j hj => absurd hj (by omega)))
      · refine hC.sub [(0, (4, 0)), (1, (0, _)), (2, (0, _))] ⟨rfl, rfl, rfl, trivial⟩ (ih _ (kk_up N i.toNat (A 4 (392 * k + i).toNat)) (by omega) (by omega) k1 (fun j hj => ?_))
        by_cases hq : (j : Int) = i
        · rw [show j = i.toNat by omega, kk_up_eq, show (392 * k + i).toNat = 392 * k.toNat + i.toNat by omega]
        · rw [kk_up_ne (by omega)]
          exact q1 j (by omega)
  repeat' first | refine hC.gn [27] _ rfl rfl ?_ | refine And.intro ?_ ?_ | exact True.intro | refine hC.iadd [27] rfl rfl (by first | omega | (simp only [Int.reduceToNat] at *; omega)) ?_ | refine hC.isub [27] rfl rfl (by first | omega | (simp only [Int.reduceToNat] at *; omega)) ?_ | refine hC.imul [27] rfl rfl (by first | omega | (simp only [Int.reduceToNat] at *; omega)) ?_ | refine hC.iinc [27] rfl rfl rfl rfl (by first | omega | (simp only [Int.reduceToNat] at *; omega)) ?_ | refine hC.go [27] _ rfl rfl ?_ | (intro h; first | exact (h rfl).elim | (exfalso; cases h; done) | (dsimp only [kk_cP, kk_cN] at h) | skip) | (refine hC.call (mm_isIn l _ _ _ _) [] rfl rfl rfl rfl rfl rfl trivial (Nat.le_refl _) ?_; rintro rs w' ⟨rfl, ⟨rfl, h1, h2⟩ | ⟨rfl, h1⟩⟩)
  all_goals first | omega | exact Or.inl rfl | exact Or.inr rfl | exact ⟨F1, A, rfl, hI.self, e2, Or.inr ⟨fun g => by omega, rfl, rfl⟩⟩ | exact ⟨F1, A, rfl, hI.self, e2, Or.inr ⟨fun g => g.2.2 (by assumption), rfl, rfl⟩⟩ | exact hC.sub [(0, (4, 0)), (1, (0, _)), (2, (0, _))] ⟨rfl, rfl, rfl, trivial⟩ (k27 _ _ (A 2) (Nat.lt_succ_self _) (by omega) ⟨by omega, by omega, by assumption⟩ (fun j hj => absurd hj (by omega)))
-- behind house, all is well
set_option maxRecDepth 100000 in
set_option maxHeartbeats 4000000 in
theorem mm_houseI {F F' : Nat → Int} {A A' : Nat → Nat → Int} (hI : mm_I Bm F A) (f2 : F' 2 = 0) (fr : ∀ k, 13 < k → k ≠ 24 → k ≠ 23 → F' k = F k) (ar : ∀ k, k ≠ 2 → k ≠ 3 → k ≠ 7 → k ≠ 8 → A' k = A k) (n8 : mm_nb 22 (A' 8)) (hq : (A' 2 = A 2 ∧ A' 7 = A 7 ∧ F' 23 = F 23) ∨ (mm_nb 22 (A' 7) ∧ mm_rH (A' 2) ∧ mm_vS (A' 2) ∧ (∀ k, 150 ≤ k → k < 392 → A' 2 k = 0) ∧ F' 23 = 0)) : mm_I (fu (sb Bm A') (F' 10)) F' A' := by
  refine ⟨by rw [f2]; decide, ?_⟩
  rw [fr 31 (by decide) (by decide) (by decide), fr 37 (by decide) (by decide) (by decide), fr 26 (by decide) (by decide) (by decide), fr 35 (by decide) (by decide) (by decide)]
  obtain ⟨z1, z2, z3, z4, z5, z6, z7, z8, z9, z10, z11⟩ := hI.2
  have a9 : A' 9 = A 9 := ar 9 (by decide) (by decide) (by decide) (by decide)
  have a10 : A' 10 = A 10 := ar 10 (by decide) (by decide) (by decide) (by decide)
  have a4 : A' 4 = A 4 := ar 4 (by decide) (by decide) (by decide) (by decide)
  have a5 : A' 5 = A 5 := ar 5 (by decide) (by decide) (by decide) (by decide)
  have a16 : A' 16 = A 16 := ar 16 (by decide) (by decide) (by decide) (by decide)
  rcases hq with ⟨e2, e7, e23⟩ | ⟨n7, r2, v2, s2, e23⟩
  · rw [e23]
    refine ⟨z1, z2, z3, by rw [e7]; exact z4, n8, by rw [a9]; exact z6, by rw [e2]; exact z7, by rw [e2, a5]; exact z8, by rw [a10, a4]; exact z9, by rw [a16]; exact z10, z11.sb.fu⟩
  · rw [e23]
    refine ⟨by decide, z2, z3, n7, n8, by rw [a9]; exact z6, ⟨r2, v2, by rw [s2 151 (by decide) (by decide)]; decide, by rw [s2 151 (by decide) (by decide)]; decide, fun k hk => ?_⟩, fun j hj => absurd hj (by omega), by rw [a10, a4]; exact z9, by rw [a16]; exact z10, z11.sb.fu⟩
    have e0 : A' 2 (152 + 4 * k) = 0 := s2 _ (by omega) (by omega)
    refine ⟨fun q => ?_, fun q => ?_, fun q => ?_⟩
    · have q : A' 2 (152 + 4 * k) = 1 ∨ A' 2 (152 + 4 * k) = 2 ∨ A' 2 (152 + 4 * k) = 3 := q
      omega
    · have q : A' 2 (152 + 4 * k) = 2 ∨ A' 2 (152 + 4 * k) = 3 := q
      omega
    · have q : A' 2 (152 + 4 * k) = 69 ∨ A' 2 (152 + 4 * k) = 70 := q
      omega
