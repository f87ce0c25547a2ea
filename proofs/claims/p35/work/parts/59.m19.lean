/-! THE REFERENCE, 19: finish, most, fair, fits, waits -/
variable {Bm : Nat → Nat → Int}
set_option maxRecDepth 100000 in
set_option maxHeartbeats 4000000 in
theorem mm_sm_g {N : Nat → Int} {b : Nat} (h : ∀ c, c < 10 → 0 ≤ N (b + c) ∧ N (b + c) ≤ 9) : ∀ n, n ≤ 10 → 0 ≤ mm_sm N b n ∧ mm_sm N b n ≤ 9 * n ∧ (n < 10 → mm_sm N b (n + 1) = mm_sm N b n + N (b + n)) := by
  intro n
  induction n with
  | zero =>
    intro _
    refine ⟨Int.le_refl _, Int.le_refl _, fun _ => ?_⟩
    have := h 0 (by decide)
    exact kk_add (x := 0) (y := N (b + 0)) (by omega)
  | succ n ih =>
    intro hn
    obtain ⟨h1, h2, h3⟩ := ih (by omega)
    have e := h3 (by omega)
    have b1 := h n (by omega)
    refine ⟨by omega, by omega, fun hl => ?_⟩
    have b' := h (n + 1) hl
    exact kk_add (x := mm_sm N b (n + 1)) (y := N (b + (n + 1))) (by omega)
set_option maxRecDepth 100000 in
set_option maxHeartbeats 4000000 in
theorem mm_sm_gp {N : Nat → Int} {b : Nat} (h : ∀ c, c < 10 → 0 ≤ N (b + c) ∧ N (b + c) ≤ 9) {c : Nat} (hc : c < 10) (h1 : 1 ≤ N (b + c)) : ∀ n, c < n → n ≤ 10 → 1 ≤ mm_sm N b n := by
  intro n
  induction n with
  | zero => intro h _; omega
  | succ n ih =>
    intro hn hl
    obtain ⟨g1, g2, g3⟩ := mm_sm_g h n (by omega)
    have e := g3 (by omega)
    have b1 := h n (by omega)
    by_cases hq : c = n
    · subst hq; omega
    · have := ih (by omega) (by omega); omega
set_option maxRecDepth 100000 in
set_option maxHeartbeats 4000000 in
theorem mm_I.fal {F : Nat → Int} {A : Nat → Nat → Int} (h : mm_I Bm F A) (h2 : A 2 2 ≠ 0) : 1 ≤ mm_sm (A 2) 5 10 ∧ mm_sm (A 2) 5 10 ≤ 90 := by
  have h20 := h.cn.2.2.2.2.1
  have s1 := mm_sm_gp (b := 5) h.rH.2.1 (c := 0) (by decide) (h.rH.2.2.1 (by omega)) 10 (by decide) (Nat.le_refl _)
  have s2 := (mm_sm_g (b := 5) h.rH.2.1 10 (Nat.le_refl _)).2.1
  exact ⟨s1, by omega⟩
set_option maxRecDepth 100000 in
set_option maxHeartbeats 4000000 in
theorem mm_waysOf (l : Launch) (F : Nat → Int) (A : Nat → Nat → Int) (h4 : A 2 4 = 0 ∨ A 2 4 = 1) (hf : 1 ≤ F 28 ∧ F 28 ≤ 90) : ∀ (n d : Nat) (k g a e : Int), 0 ≤ k → k ≤ 8 → 0 ≤ a → a ≤ 90 → (2 * k < n ∧ (a = 0 → 2 * k + 1 < n)) → kk_Ctr l (d + n) en_t_X11_waysOf [(4, 0), (0, k), (0, g), (0, a), (0, e)] (mm_w F A) (fun rs w' => w' = mm_w F A ∧ ∃ x, rs = [(2, x)]) := by
  intro n
  induction n with
  | zero => intro d k g a e _ _ _ _ h; omega
  | succ n ih =>
    intro d k g a e k0 k8 a0 a9 hn
    have h4' : A 2 (Int.toNat 4) = 0 ∨ A 2 (Int.toNat 4) = 1 := h4
    refine kk_ctr en_hM (List.mem_of_getElem? (i := 237) rfl) rfl (Nat.le_of_ble_eq_true rfl) (fun K hC => ?_)
    have k77 : ∀ (x : Int), (1 ≤ k ∧ 1 ≤ a) → K 77 [(0, (4, 0)), (1, (0, k)), (2, (0, g)), (3, (0, a)), (4, (0, e)), (5, (0, A 2 (Int.toNat 4))), (6, (2, x))] [] (mm_w F A) := by
      intro x q0
      repeat' first | refine hC.gn [] _ rfl rfl ?_ | refine And.intro ?_ ?_ | exact True.intro | refine hC.iadd [] rfl rfl (by first | omega | (simp only [Int.reduceToNat] at *; omega)) ?_ | refine hC.isub [] rfl rfl (by first | omega | (simp only [Int.reduceToNat] at *; omega)) ?_ | refine hC.imul [] rfl rfl (by first | omega | (simp only [Int.reduceToNat] at *; omega)) ?_ | refine hC.iinc [] rfl rfl rfl rfl (by first | omega | (simp only [Int.reduceToNat] at *; omega)) ?_ | refine hC.go [] _ rfl rfl ?_ | (intro h; first | exact (h rfl).elim | (exfalso; cases h; done) | (dsimp only [kk_cP, kk_cN] at h) | skip) | (refine hC.same (ih d _ _ _ _ (by omega) (by omega) (by omega) (by omega) (by omega)) rfl rfl rfl rfl (Nat.le_refl _) ?_; rintro rs w' ⟨rfl, xx, rfl⟩)
      all_goals first | rfl | omega | exact ⟨_, rfl⟩ | exact Or.inl rfl | exact Or.inr rfl | (simp only [Int.reduceToNat] at *; omega)
    repeat' first | refine hC.gn [77] _ rfl rfl ?_ | refine And.intro ?_ ?_ | exact True.intro | refine hC.iadd [77] rfl rfl (by first | omega | (simp only [Int.reduceToNat] at *; omega)) ?_ | refine hC.isub [77] rfl rfl (by first | omega | (simp only [Int.reduceToNat] at *; omega)) ?_ | refine hC.imul [77] rfl rfl (by first | omega | (simp only [Int.reduceToNat] at *; omega)) ?_ | refine hC.iinc [77] rfl rfl rfl rfl (by first | omega | (simp only [Int.reduceToNat] at *; omega)) ?_ | refine hC.go [77] _ rfl rfl ?_ | (intro h; first | exact (h rfl).elim | (exfalso; cases h; done) | (dsimp only [kk_cP, kk_cN] at h) | skip) | (refine hC.same (ih d _ _ _ _ (by omega) (by omega) (by omega) (by omega) (by omega)) rfl rfl rfl rfl (Nat.le_refl _) ?_; rintro rs w' ⟨rfl, xx, rfl⟩)
    all_goals first | rfl | omega | exact ⟨_, rfl⟩ | exact Or.inl rfl | exact Or.inr rfl | (simp only [Int.reduceToNat] at *; omega) | exact hC.sub [(0, (4, 0)), (1, (0, _)), (2, (0, _)), (3, (0, _)), (4, (0, _)), (5, (0, _)), (6, (2, _))] ⟨rfl, rfl, rfl, rfl, rfl, rfl, rfl, trivial⟩ (k77 _ (by omega)) | exact hC.sub [(0, (4, 0)), (1, (0, k)), (2, (0, g)), (3, (0, a)), (4, (0, e)), (5, (0, A 2 (Int.toNat 4))), (6, (2, _))] ⟨rfl, rfl, rfl, rfl, rfl, rfl, rfl, trivial⟩ (k77 _ (by omega))
def mm_P9 (n : Nat) : Int := match n with
  | 0 => 1
  | 1 => 90
  | 2 => 8100
  | 3 => 729000
  | 4 => 65610000
  | 5 => 5904900000
  | 6 => 531441000000
  | 7 => 47829690000000
  | _ => 4304672100000000
set_option maxRecDepth 100000 in
set_option maxHeartbeats 4000000 in
theorem mm_P9_s {k : Nat} (h : k < 8) : mm_P9 (k + 1) = mm_P9 k * 90 ∧ 1 ≤ mm_P9 k ∧ mm_P9 k ≤ 47829690000000 := by
  match k, h with
  | 0, _ => decide
  | 1, _ => decide
  | 2, _ => decide
  | 3, _ => decide
  | 4, _ => decide
  | 5, _ => decide
  | 6, _ => decide
  | 7, _ => decide
  | n + 8, h => omega
set_option maxRecDepth 100000 in
set_option maxHeartbeats 4000000 in
theorem mm_pw {i : Nat} (hi : i < 8) {x a : Int} (h1 : 1 ≤ x) (h2 : x ≤ mm_P9 i) (h3 : 1 ≤ a) (h4 : a ≤ 90) : 1 ≤ kk_l2 2 x a ∧ kk_l2 2 x a ≤ mm_P9 (i + 1) := by
  obtain ⟨e1, e2, e3⟩ := mm_P9_s hi
  have b1 : x * a ≤ mm_P9 i * 90 := Int.mul_le_mul h2 h4 (by omega) (by omega)
  have b2 : 1 * 1 ≤ x * a := Int.mul_le_mul h1 h3 (by omega) (by omega)
  rw [kk_lmul (by omega), e1]
  omega
set_option maxRecDepth 100000 in
set_option maxHeartbeats 4000000 in
theorem mm_finishI (l : Launch) (d : Nat) (F : Nat → Int) (A : Nat → Nat → Int) (m e k q : Int) (hI : mm_I Bm F A) : kk_Ctr l (d + 19) en_t_X11_finish [(4, 0), (0, m), (0, e), (0, k), (0, q)] (mm_w F A) (mm_Po Bm (F 2) (A 10) 2) := by
  refine kk_ctr en_hM (List.mem_of_getElem? (i := 187) rfl) rfl (Nat.le_of_ble_eq_true rfl) (fun K hC => ?_)
  repeat' first | refine hC.gn [5] _ rfl rfl ?_ | refine And.intro ?_ ?_ | exact True.intro | refine hC.iadd [5] rfl rfl (by first | omega | (simp only [Int.reduceToNat] at *; omega)) ?_ | refine hC.isub [5] rfl rfl (by first | omega | (simp only [Int.reduceToNat] at *; omega)) ?_ | refine hC.imul [5] rfl rfl (by first | omega | (simp only [Int.reduceToNat] at *; omega)) ?_ | refine hC.iinc [5] rfl rfl rfl rfl (by first | omega | (simp only [Int.reduceToNat] at *; omega)) ?_ | refine hC.go [5] _ rfl rfl ?_ | (intro h; first | exact (h rfl).elim | (exfalso; cases h; done) | (dsimp only [kk_cP, kk_cN] at h) | skip)
  refine (show ∀ F1 : Nat → Int, F1 2 = F 2 → mm_I Bm F1 A → K 5 [(0, (4, 0)), (1, (0, m)), (2, (0, e)), (3, (0, k)), (4, (0, q))] [] (mm_w F1 A) from ?_) (kk_up F 0 0) rfl hI
  clear hI
  intro F1 e2 hI
  have c8 := hI.cn.2.1
  have h4' : A 2 (Int.toNat 4) = 0 ∨ A 2 (Int.toNat 4) = 1 := hI.rH.2.2.2
  have fin : ∀ (G : Nat → Int) (bl : Int) (z : Int), (∀ j, j ≠ 27 → j ≠ 28 → G j = F1 j) → 1 ≤ G 28 → G 28 ≤ 90 → 1 ≤ bl → 0 ≤ m → m ≤ 3 → 0 ≤ e → e < A 2 0 → 1 ≤ k → k ≤ 8 → A 2 2 ≠ 0 → K 131 [(0, (4, 0)), (1, (0, m)), (2, (0, e)), (3, (0, k)), (4, (0, q)), (5, (2, bl))] [] (mm_w G A) := by
    intro G bl z hG g1 g2 b1 m0 m3 e0 e8 k1 k8 h2n
    have hJ : mm_I Bm G A := hI.fs (hG 2 (by decide) (by decide)) (hG 23 (by decide) (by decide)) (hG 31 (by decide) (by decide)) (hG 37 (by decide) (by decide)) (hG 26 (by decide) (by decide)) (hG 35 (by decide) (by decide)) (hG 10 (by decide) (by decide))
    have hb := hI.inb h2n
    repeat' first | refine hC.gn [] _ rfl rfl ?_ | refine And.intro ?_ ?_ | exact True.intro | refine hC.iadd [] rfl rfl (by first | omega | (simp only [Int.reduceToNat] at *; omega)) ?_ | refine hC.isub [] rfl rfl (by first | omega | (simp only [Int.reduceToNat] at *; omega)) ?_ | refine hC.imul [] rfl rfl (by first | omega | (simp only [Int.reduceToNat] at *; omega)) ?_ | refine hC.iinc [] rfl rfl rfl rfl (by first | omega | (simp only [Int.reduceToNat] at *; omega)) ?_ | refine hC.go [] _ rfl rfl ?_ | (intro h; first | exact (h rfl).elim | (exfalso; cases h; done) | (dsimp only [kk_cP, kk_cN] at h) | skip)
    refine hC.same (mm_goodSlips l _ G A e 69 hI.cn (by decide) hI.box) rfl rfl rfl rfl (Nat.le_refl _) ?_
    rintro rs w' ⟨rfl, x, rfl, x0, x1⟩
    repeat' first | refine hC.gn [] _ rfl rfl ?_ | refine And.intro ?_ ?_ | exact True.intro | refine hC.iadd [] rfl rfl (by first | omega | (simp only [Int.reduceToNat] at *; omega)) ?_ | refine hC.isub [] rfl rfl (by first | omega | (simp only [Int.reduceToNat] at *; omega)) ?_ | refine hC.imul [] rfl rfl (by first | omega | (simp only [Int.reduceToNat] at *; omega)) ?_ | refine hC.iinc [] rfl rfl rfl rfl (by first | omega | (simp only [Int.reduceToNat] at *; omega)) ?_ | refine hC.go [] _ rfl rfl ?_ | (intro h; first | exact (h rfl).elim | (exfalso; cases h; done) | (dsimp only [kk_cP, kk_cN] at h) | skip) | (refine hC.same (mm_inBox l _ _ _) rfl rfl rfl rfl (Nat.le_refl _) ?_; rintro rs w' ⟨rfl, rfl⟩)
    refine hC.same (mm_workOf l _ G A m e (by omega) (by omega) (by omega) (by omega)) rfl rfl rfl rfl (Nat.le_refl _) ?_
    rintro rs w' ⟨rfl, rfl⟩
    repeat' first | refine hC.gn [] _ rfl rfl ?_ | refine And.intro ?_ ?_ | exact True.intro | refine hC.iadd [] rfl rfl (by first | omega | (simp only [Int.reduceToNat] at *; omega)) ?_ | refine hC.isub [] rfl rfl (by first | omega | (simp only [Int.reduceToNat] at *; omega)) ?_ | refine hC.imul [] rfl rfl (by first | omega | (simp only [Int.reduceToNat] at *; omega)) ?_ | refine hC.iinc [] rfl rfl rfl rfl (by first | omega | (simp only [Int.reduceToNat] at *; omega)) ?_ | refine hC.go [] _ rfl rfl ?_ | (intro h; first | exact (h rfl).elim | (exfalso; cases h; done) | (dsimp only [kk_cP, kk_cN] at h) | skip)
    refine hC.same (mm_waysOf l G A hI.rH.2.2.2 ⟨g1, g2⟩ 18 d k x (mm_sm (A 2) 69 10) _ (by omega) (by omega) (by omega) (by omega) (by omega)) rfl rfl rfl rfl (Nat.le_refl _) ?_
    rintro rs w' ⟨rfl, y, rfl⟩
    repeat' first | refine hC.gn [] _ rfl rfl ?_ | refine And.intro ?_ ?_ | exact True.intro | refine hC.iadd [] rfl rfl (by first | omega | (simp only [Int.reduceToNat] at *; omega)) ?_ | refine hC.isub [] rfl rfl (by first | omega | (simp only [Int.reduceToNat] at *; omega)) ?_ | refine hC.imul [] rfl rfl (by first | omega | (simp only [Int.reduceToNat] at *; omega)) ?_ | refine hC.iinc [] rfl rfl rfl rfl (by first | omega | (simp only [Int.reduceToNat] at *; omega)) ?_ | refine hC.go [] _ rfl rfl ?_ | (intro h; first | exact (h rfl).elim | (exfalso; cases h; done) | (dsimp only [kk_cP, kk_cN] at h) | skip)
    refine hC.call (mm_tellPart l _ _ _ _ (Or.inl ?_)) [] rfl rfl rfl rfl rfl rfl trivial (Nat.le_refl _) ?_
    · omega
    rintro rs w' ⟨rfl, y, rfl⟩
    repeat' first | refine hC.gn [] _ rfl rfl ?_ | refine And.intro ?_ ?_ | exact True.intro | refine hC.iadd [] rfl rfl (by first | omega | (simp only [Int.reduceToNat] at *; omega)) ?_ | refine hC.isub [] rfl rfl (by first | omega | (simp only [Int.reduceToNat] at *; omega)) ?_ | refine hC.imul [] rfl rfl (by first | omega | (simp only [Int.reduceToNat] at *; omega)) ?_ | refine hC.iinc [] rfl rfl rfl rfl (by first | omega | (simp only [Int.reduceToNat] at *; omega)) ?_ | refine hC.go [] _ rfl rfl ?_ | (intro h; first | exact (h rfl).elim | (exfalso; cases h; done) | (dsimp only [kk_cP, kk_cN] at h) | skip)
    exact ⟨G, A, _, rfl, rfl, hJ, (hG 2 (by decide) (by decide)).trans e2, rfl⟩
  have k89 : ∀ (n : Nat) (i : Int) (bl : Int) (al : Int) (G : Nat → Int), (9 - i).toNat < n → (0 ≤ i ∧ i ≤ 8 ∧ i ≤ k) → (∀ j, j ≠ 27 → j ≠ 28 → G j = F1 j) → (1 ≤ G 28 ∧ G 28 ≤ 90) → (1 ≤ bl ∧ bl ≤ mm_P9 i.toNat) → (1 ≤ al ∧ al ≤ 90) → (0 ≤ m ∧ m ≤ 3 ∧ 0 ≤ e ∧ e < A 2 0 ∧ 1 ≤ k ∧ k ≤ 8 ∧ A 2 2 ≠ 0) → K 89 [(0, (4, 0)), (1, (0, m)), (2, (0, e)), (3, (0, k)), (4, (0, q)), (5, (2, bl)), (7, (0, al)), (8, (0, i))] [] (mm_w G A) := by
    intro n
    induction n with
    | zero => intro i bl al G hz; exact absurd hz (Nat.not_lt_zero _)
    | succ n ih =>
      intro i bl al G hn g0 hG g1 b1 a1 hh
      refine hC.go [] _ rfl rfl ?_
      repeat' first | refine hC.gn [89, 131] _ rfl rfl ?_ | refine And.intro ?_ ?_ | exact True.intro | refine hC.iadd [89, 131] rfl rfl (by first | omega | (simp only [Int.reduceToNat] at *; omega)) ?_ | refine hC.isub [89, 131] rfl rfl (by first | omega | (simp only [Int.reduceToNat] at *; omega)) ?_ | refine hC.imul [89, 131] rfl rfl (by first | omega | (simp only [Int.reduceToNat] at *; omega)) ?_ | refine hC.iinc [89, 131] rfl rfl rfl rfl (by first | omega | (simp only [Int.reduceToNat] at *; omega)) ?_ | refine hC.go [89, 131] _ rfl rfl ?_ | (intro h; first | exact (h rfl).elim | (exfalso; cases h; done) | (dsimp only [kk_cP, kk_cN] at h) | skip)
      all_goals first | omega | exact hC.sub [(0, (4, 0)), (1, (0, m)), (2, (0, e)), (3, (0, k)), (4, (0, q)), (5, (2, bl))] ⟨rfl, rfl, rfl, rfl, rfl, rfl, trivial⟩ (fin G bl 0 hG g1.1 g1.2 b1.1 hh.1 hh.2.1 hh.2.2.1 hh.2.2.2.1 hh.2.2.2.2.1 hh.2.2.2.2.2.1 hh.2.2.2.2.2.2) | skip
      all_goals
        have pw := mm_pw (i := i.toNat) (by omega) b1.1 b1.2 a1.1 a1.2
        rw [show i.toNat + 1 = (i + 1).toNat by omega] at pw
        first | exact hC.sub [(0, (4, 0)), (1, (0, _)), (2, (0, _)), (3, (0, _)), (4, (0, _)), (5, (2, _)), (7, (0, _)), (8, (0, _))] ⟨rfl, rfl, rfl, rfl, rfl, rfl, rfl, rfl, trivial⟩ (ih _ _ _ G (by omega) (by omega) hG g1 pw (by omega) hh) | exact hC.sub [(0, (4, 0)), (1, (0, _)), (2, (0, _)), (3, (0, _)), (4, (0, _)), (5, (2, _)), (7, (0, _)), (8, (0, _))] ⟨rfl, rfl, rfl, rfl, rfl, rfl, rfl, rfl, trivial⟩ (ih _ _ _ G (by omega) (by omega) hG g1 pw g1 hh)
  repeat' first | refine hC.gn [] _ rfl rfl ?_ | refine And.intro ?_ ?_ | exact True.intro | refine hC.iadd [] rfl rfl (by first | omega | (simp only [Int.reduceToNat] at *; omega)) ?_ | refine hC.isub [] rfl rfl (by first | omega | (simp only [Int.reduceToNat] at *; omega)) ?_ | refine hC.imul [] rfl rfl (by first | omega | (simp only [Int.reduceToNat] at *; omega)) ?_ | refine hC.iinc [] rfl rfl rfl rfl (by first | omega | (simp only [Int.reduceToNat] at *; omega)) ?_ | refine hC.go [] _ rfl rfl ?_ | (intro h; first | exact (h rfl).elim | (exfalso; cases h; done) | (dsimp only [kk_cP, kk_cN] at h) | skip) | (refine hC.same (mm_isMonk l _ _ _ hI.cn) rfl rfl rfl rfl (Nat.le_refl _) ?_; rintro rs w' ⟨rfl, ⟨rfl, o1, o2, o3⟩ | rfl⟩) | (refine hC.same (mm_isDeed l _ _ _ ⟨hI.cn.1, hI.cn.2.1⟩) rfl rfl rfl rfl (Nat.le_refl _) ?_; rintro rs w' ⟨rfl, ⟨rfl, v1, v2⟩ | ⟨rfl, v1⟩⟩) | (refine hC.call (mm_isIn l _ _ _ _) [] rfl rfl rfl rfl rfl rfl trivial (Nat.le_refl _) ?_; rintro rs w' ⟨rfl, ⟨rfl, h1, h2⟩ | ⟨rfl, h1⟩⟩) | (refine hC.same (mm_refuse l _ F1 A) rfl rfl rfl rfl (Nat.le_refl _) ?_; rintro rs w' ⟨rfl, rfl⟩)
  all_goals first | rfl | omega | exact ⟨_, rfl⟩ | exact Or.inl rfl | exact Or.inr rfl | (simp only [Int.reduceToNat] at *; omega) | exact ⟨kk_up F1 0 1, A, _, rfl, rfl, hI, e2, rfl⟩ | skip
  have h2n : A 2 2 ≠ 0 := by assumption
  have hb := hI.inb h2n
  have hfa := hI.fal h2n
  refine hC.same (mm_goodSlips l _ F1 A e 5 hI.cn (by decide) hI.slp) rfl rfl rfl rfl (Nat.le_refl _) ?_
  rintro rs w' ⟨rfl, x, rfl, x0, x1⟩
  repeat' first | refine hC.gn [] _ rfl rfl ?_ | refine And.intro ?_ ?_ | exact True.intro | refine hC.iadd [] rfl rfl (by first | omega | (simp only [Int.reduceToNat] at *; omega)) ?_ | refine hC.isub [] rfl rfl (by first | omega | (simp only [Int.reduceToNat] at *; omega)) ?_ | refine hC.imul [] rfl rfl (by first | omega | (simp only [Int.reduceToNat] at *; omega)) ?_ | refine hC.iinc [] rfl rfl rfl rfl (by first | omega | (simp only [Int.reduceToNat] at *; omega)) ?_ | refine hC.go [] _ rfl rfl ?_ | (intro h; first | exact (h rfl).elim | (exfalso; cases h; done) | (dsimp only [kk_cP, kk_cN] at h) | skip)
  refine hC.same (mm_sum l _ (kk_up F1 27 x) A 5 10 (by decide)) rfl rfl rfl rfl (Nat.le_refl _) ?_
  rintro rs w' ⟨rfl, rfl⟩
  repeat' first | refine hC.gn [89] _ rfl rfl ?_ | refine And.intro ?_ ?_ | exact True.intro | refine hC.iadd [89] rfl rfl (by first | omega | (simp only [Int.reduceToNat] at *; omega)) ?_ | refine hC.isub [89] rfl rfl (by first | omega | (simp only [Int.reduceToNat] at *; omega)) ?_ | refine hC.imul [89] rfl rfl (by first | omega | (simp only [Int.reduceToNat] at *; omega)) ?_ | refine hC.iinc [89] rfl rfl rfl rfl (by first | omega | (simp only [Int.reduceToNat] at *; omega)) ?_ | refine hC.go [89] _ rfl rfl ?_ | (intro h; first | exact (h rfl).elim | (exfalso; cases h; done) | (dsimp only [kk_cP, kk_cN] at h) | skip)
  refine hC.same (mm_inBox l _ (kk_up (kk_up F1 27 x) 28 (mm_sm (A 2) 5 10)) A) rfl rfl rfl rfl (Nat.le_refl _) ?_
  rintro rs w' ⟨rfl, rfl⟩
  repeat' first | refine hC.gn [89] _ rfl rfl ?_ | refine And.intro ?_ ?_ | exact True.intro | refine hC.iadd [89] rfl rfl (by first | omega | (simp only [Int.reduceToNat] at *; omega)) ?_ | refine hC.isub [89] rfl rfl (by first | omega | (simp only [Int.reduceToNat] at *; omega)) ?_ | refine hC.imul [89] rfl rfl (by first | omega | (simp only [Int.reduceToNat] at *; omega)) ?_ | refine hC.iinc [89] rfl rfl rfl rfl (by first | omega | (simp only [Int.reduceToNat] at *; omega)) ?_ | refine hC.go [89] _ rfl rfl ?_ | (intro h; first | exact (h rfl).elim | (exfalso; cases h; done) | (dsimp only [kk_cP, kk_cN] at h) | skip)
  exact hC.sub [(0, (4, 0)), (1, (0, _)), (2, (0, _)), (3, (0, _)), (4, (0, _)), (5, (2, _)), (7, (0, _)), (8, (0, _))] ⟨rfl, rfl, rfl, rfl, rfl, rfl, rfl, rfl, trivial⟩ (k89 _ _ _ _ (kk_up (kk_up F1 27 x) 28 (mm_sm (A 2) 5 10)) (Nat.lt_succ_self _) (by omega) (fun j j1 j2 => (kk_up_ne j2).trans (kk_up_ne j1)) hfa (show (1 : Int) ≤ 1 ∧ (1 : Int) ≤ mm_P9 (Int.toNat 0) from ⟨by decide, by decide⟩) hb (by omega))
set_option maxRecDepth 100000 in
set_option maxHeartbeats 4000000 in
theorem mm_workBy (l : Launch) (d : Nat) (F : Nat → Int) (A : Nat → Nat → Int) (k : Int) (hc : mm_cn (A 2)) (k4 : k ≤ 4) (hl : ∀ j : Nat, (j : Int) < k → 0 ≤ A 11 j ∧ A 11 j ≤ 9) : kk_Ctr l (d + 1) en_t_X11_workBy [(4, 0), (0, k)] (mm_w F A) (mm_Rd F A) := by
  obtain ⟨c1, c2, c3, c4, c5, c6⟩ := hc
  refine kk_ctr en_hM (List.mem_of_getElem? (i := 268) rfl) rfl (Nat.le_of_ble_eq_true rfl) (fun K hC => ?_)
  have k4 : ∀ (n : Nat) (e : Int) (x : Int), (9 - e).toNat < n → (0 ≤ e ∧ e ≤ 8) → K 4 [(0, (4, 0)), (1, (0, k)), (2, (0, x)), (3, (0, e))] [] (mm_w F A) := by
    intro n
    induction n with
    | zero => intro e x hz; exact absurd hz (Nat.not_lt_zero _)
    | succ n ih =>
      intro e x hn h0
      have ih4 := ih
      have k60 : ∀ (n : Nat) (m : Int) (x : Int) (y : Int), (5 - m).toNat < n → (0 ≤ m ∧ m ≤ 4) → (e < 8) → K 60 [(0, (4, 0)), (1, (0, k)), (2, (0, x)), (3, (0, e)), (4, (0, y)), (5, (0, m))] [] (mm_w F A) := by
        intro n
        induction n with
        | zero => intro m x y hz; exact absurd hz (Nat.not_lt_zero _)
        | succ n ih =>
          intro m x y hn m0 e7
          refine hC.go [] _ rfl rfl ?_
          repeat' first | refine hC.gn [60, 4] _ rfl rfl ?_ | refine And.intro ?_ ?_ | exact True.intro | refine hC.iadd [60, 4] rfl rfl (by first | omega | (simp only [Int.reduceToNat] at *; omega)) ?_ | refine hC.isub [60, 4] rfl rfl (by first | omega | (simp only [Int.reduceToNat] at *; omega)) ?_ | refine hC.imul [60, 4] rfl rfl (by first | omega | (simp only [Int.reduceToNat] at *; omega)) ?_ | refine hC.iinc [60, 4] rfl rfl rfl rfl (by first | omega | (simp only [Int.reduceToNat] at *; omega)) ?_ | refine hC.go [60, 4] _ rfl rfl ?_ | (intro h; first | exact (h rfl).elim | (exfalso; cases h; done) | (dsimp only [kk_cP, kk_cN] at h) | skip) | (refine hC.same (mm_workOf l _ _ _ m e (by omega) (by first | omega | (simp only [Int.reduceToNat] at *; omega)) (by omega) (by omega)) rfl rfl rfl rfl (Nat.le_refl _) ?_; rintro rs w' ⟨rfl, rfl⟩) | (refine hC.call (mm_least l _ _ _) [] rfl rfl rfl rfl rfl rfl trivial (Nat.le_refl _) ?_; rintro rs w' ⟨rfl, rfl⟩)
          all_goals first | rfl | omega | exact ⟨_, rfl⟩ | exact Or.inl rfl | exact Or.inr rfl | (simp only [Int.reduceToNat] at *; omega) | exact hC.sub [(0, (4, 0)), (1, (0, _)), (2, (0, _)), (3, (0, _)), (4, (0, _)), (5, (0, _))] ⟨rfl, rfl, rfl, rfl, rfl, rfl, trivial⟩ (ih _ _ _ (by omega) (by first | omega | (simp only [Int.reduceToNat] at *; omega)) e7) | exact hC.sub [(0, (4, 0)), (1, (0, _)), (2, (0, _)), (3, (0, _))] ⟨rfl, rfl, rfl, rfl, trivial⟩ (ih4 _ _ (by omega) (by omega))
      have k20 : ∀ (n : Nat) (i : Int) (x : Int) (y : Int), (5 - i).toNat < n → (0 ≤ i ∧ i ≤ 4) → (e < 8) → K 20 [(0, (4, 0)), (1, (0, k)), (2, (0, x)), (3, (0, e)), (4, (0, y)), (5, (0, i))] [] (mm_w F A) := by
        intro n
        induction n with
        | zero => intro i x y hz; exact absurd hz (Nat.not_lt_zero _)
        | succ n ih =>
          intro i x y hn m0 e7
          have hli : i < k → 0 ≤ A 11 i.toNat ∧ A 11 i.toNat ≤ 9 := fun q => hl i.toNat (by omega)
          refine hC.go [] _ rfl rfl ?_
          repeat' first | refine hC.gn [20, 60] _ rfl rfl ?_ | refine And.intro ?_ ?_ | exact True.intro | refine hC.iadd [20, 60] rfl rfl (by first | omega | (simp only [Int.reduceToNat] at *; omega)) ?_ | refine hC.isub [20, 60] rfl rfl (by first | omega | (simp only [Int.reduceToNat] at *; omega)) ?_ | refine hC.imul [20, 60] rfl rfl (by first | omega | (simp only [Int.reduceToNat] at *; omega)) ?_ | refine hC.iinc [20, 60] rfl rfl rfl rfl (by first | omega | (simp only [Int.reduceToNat] at *; omega)) ?_ | refine hC.go [20, 60] _ rfl rfl ?_ | (intro h; first | exact (h rfl).elim | (exfalso; cases h; done) | (dsimp only [kk_cP, kk_cN] at h) | skip) | (refine hC.call (mm_has l _ _ _) [] rfl rfl rfl rfl rfl rfl trivial (Nat.le_refl _) ?_; rintro rs w' ⟨rfl, rfl | rfl⟩)
          all_goals first | rfl | omega | exact ⟨_, rfl⟩ | exact Or.inl rfl | exact Or.inr rfl | (simp only [Int.reduceToNat] at *; omega) | exact hC.sub [(0, (4, 0)), (1, (0, _)), (2, (0, _)), (3, (0, _)), (4, (0, _)), (5, (0, _))] ⟨rfl, rfl, rfl, rfl, rfl, rfl, trivial⟩ (ih _ _ _ (by omega) (by omega) e7) | exact hC.sub [(0, (4, 0)), (1, (0, _)), (2, (0, _)), (3, (0, _)), (4, (0, _)), (5, (0, _))] ⟨rfl, rfl, rfl, rfl, rfl, rfl, trivial⟩ (k60 _ _ _ _ (Nat.lt_succ_self _) (by omega) e7)
      refine hC.go [] _ rfl rfl ?_
      repeat' first | refine hC.gn [4, 20] _ rfl rfl ?_ | refine And.intro ?_ ?_ | exact True.intro | refine hC.iadd [4, 20] rfl rfl (by first | omega | (simp only [Int.reduceToNat] at *; omega)) ?_ | refine hC.isub [4, 20] rfl rfl (by first | omega | (simp only [Int.reduceToNat] at *; omega)) ?_ | refine hC.imul [4, 20] rfl rfl (by first | omega | (simp only [Int.reduceToNat] at *; omega)) ?_ | refine hC.iinc [4, 20] rfl rfl rfl rfl (by first | omega | (simp only [Int.reduceToNat] at *; omega)) ?_ | refine hC.go [4, 20] _ rfl rfl ?_ | (intro h; first | exact (h rfl).elim | (exfalso; cases h; done) | (dsimp only [kk_cP, kk_cN] at h) | skip)
      all_goals first | rfl | omega | exact ⟨_, rfl⟩ | exact Or.inl rfl | exact Or.inr rfl | (simp only [Int.reduceToNat] at *; omega) | exact hC.sub [(0, (4, 0)), (1, (0, _)), (2, (0, _)), (3, (0, _)), (4, (0, _)), (5, (0, _))] ⟨rfl, rfl, rfl, rfl, rfl, rfl, trivial⟩ (k20 _ _ _ _ (Nat.lt_succ_self _) (by omega) (by first | omega | (simp only [Int.reduceToNat] at *; omega)))
  repeat' first | refine hC.gn [4] _ rfl rfl ?_ | refine And.intro ?_ ?_ | exact True.intro | refine hC.iadd [4] rfl rfl (by first | omega | (simp only [Int.reduceToNat] at *; omega)) ?_ | refine hC.isub [4] rfl rfl (by first | omega | (simp only [Int.reduceToNat] at *; omega)) ?_ | refine hC.imul [4] rfl rfl (by first | omega | (simp only [Int.reduceToNat] at *; omega)) ?_ | refine hC.iinc [4] rfl rfl rfl rfl (by first | omega | (simp only [Int.reduceToNat] at *; omega)) ?_ | refine hC.go [4] _ rfl rfl ?_ | (intro h; first | exact (h rfl).elim | (exfalso; cases h; done) | (dsimp only [kk_cP, kk_cN] at h) | skip)
  exact hC.sub [(0, (4, 0)), (1, (0, _)), (2, (0, _)), (3, (0, _))] ⟨rfl, rfl, rfl, rfl, trivial⟩ (k4 _ _ _ (Nat.lt_succ_self _) (by omega))
