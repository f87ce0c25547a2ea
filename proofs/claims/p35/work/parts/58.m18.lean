/-! THE REFERENCE, 18: what follows from the house; likelihoods -/
variable {Bm : Nat → Nat → Int}
set_option maxRecDepth 100000 in
set_option maxHeartbeats 4000000 in
theorem mm_barredEver (l : Launch) (d : Nat) (F : Nat → Int) (A : Nat → Nat → Int) (hc : mm_cn (A 2)) : kk_Ctr l d en_t_X11_barredEver [(4, 0)] (mm_w F A) (mm_Rd F A) := by
  obtain ⟨c1, c2, c3, c4, c5, c6⟩ := hc
  refine kk_ctr en_hM (List.mem_of_getElem? (i := 232) rfl) rfl (Nat.le_of_ble_eq_true rfl) (fun K hC => ?_)
  have k4 : ∀ (n : Nat) (i : Int) (x : Int), (11 - i).toNat < n → (0 ≤ i ∧ i ≤ 10) → K 4 [(0, (4, 0)), (1, (0, x)), (2, (0, i))] [] (mm_w F A) := by
    intro n
    induction n with
    | zero => intro i x hz; exact absurd hz (Nat.not_lt_zero _)
    | succ n ih =>
      intro i x hn h0
      refine hC.go [] _ rfl rfl ?_
      repeat' first | refine hC.gn [4] _ rfl rfl ?_ | refine And.intro ?_ ?_ | exact True.intro | refine hC.iadd [4] rfl rfl (by first | omega | (simp only [Int.reduceToNat] at *; omega)) ?_ | refine hC.isub [4] rfl rfl (by first | omega | (simp only [Int.reduceToNat] at *; omega)) ?_ | refine hC.imul [4] rfl rfl (by first | omega | (simp only [Int.reduceToNat] at *; omega)) ?_ | refine hC.iinc [4] rfl rfl rfl rfl (by first | omega | (simp only [Int.reduceToNat] at *; omega)) ?_ | refine hC.go [4] _ rfl rfl ?_ | (intro h; first | exact (h rfl).elim | (exfalso; cases h; done) | (dsimp only [kk_cP, kk_cN] at h) | skip)
      all_goals first | rfl | omega | exact ⟨_, rfl⟩ | exact Or.inl rfl | exact Or.inr rfl | (simp only [Int.reduceToNat] at *; omega) | exact hC.sub [(0, (4, 0)), (1, (0, _)), (2, (0, _))] ⟨rfl, rfl, rfl, trivial⟩ (ih _ _ (by omega) (by first | omega | (simp only [Int.reduceToNat] at *; omega)))
  repeat' first | refine hC.gn [4] _ rfl rfl ?_ | refine And.intro ?_ ?_ | exact True.intro | refine hC.iadd [4] rfl rfl (by first | omega | (simp only [Int.reduceToNat] at *; omega)) ?_ | refine hC.isub [4] rfl rfl (by first | omega | (simp only [Int.reduceToNat] at *; omega)) ?_ | refine hC.imul [4] rfl rfl (by first | omega | (simp only [Int.reduceToNat] at *; omega)) ?_ | refine hC.iinc [4] rfl rfl rfl rfl (by first | omega | (simp only [Int.reduceToNat] at *; omega)) ?_ | refine hC.go [4] _ rfl rfl ?_ | (intro h; first | exact (h rfl).elim | (exfalso; cases h; done) | (dsimp only [kk_cP, kk_cN] at h) | skip)
  exact hC.sub [(0, (4, 0)), (1, (0, _)), (2, (0, _))] ⟨rfl, rfl, rfl, trivial⟩ (k4 _ _ _ (Nat.lt_succ_self _) (by omega))
set_option maxRecDepth 100000 in
set_option maxHeartbeats 4000000 in
theorem mm_allDeeds (l : Launch) (d : Nat) (F : Nat → Int) (A : Nat → Nat → Int) : kk_Ctr l d en_t_X11_allDeeds [(4, 0)] (mm_w F A) (mm_Rd F A) := by
  refine kk_ctr en_hM (List.mem_of_getElem? (i := 231) rfl) rfl (Nat.le_of_ble_eq_true rfl) (fun K hC => ?_)
  repeat' first | refine hC.gn [] _ rfl rfl ?_ | refine And.intro ?_ ?_ | exact True.intro | refine hC.iadd [] rfl rfl (by first | omega | (simp only [Int.reduceToNat] at *; omega)) ?_ | refine hC.isub [] rfl rfl (by first | omega | (simp only [Int.reduceToNat] at *; omega)) ?_ | refine hC.imul [] rfl rfl (by first | omega | (simp only [Int.reduceToNat] at *; omega)) ?_ | refine hC.iinc [] rfl rfl rfl rfl (by first | omega | (simp only [Int.reduceToNat] at *; omega)) ?_ | refine hC.go [] _ rfl rfl ?_ | (intro h; first | exact (h rfl).elim | (exfalso; cases h; done) | (dsimp only [kk_cP, kk_cN] at h) | skip)
  all_goals first | rfl | omega | exact ⟨_, rfl⟩ | exact Or.inl rfl | exact Or.inr rfl | (simp only [Int.reduceToNat] at *; omega)
set_option maxRecDepth 100000 in
set_option maxHeartbeats 4000000 in
theorem mm_freeI (l : Launch) (d : Nat) (F : Nat → Int) (A : Nat → Nat → Int) (hI : mm_I Bm F A) : kk_Ctr l (d + 1) en_t_X11_free [(4, 0)] (mm_w F A) (mm_Po Bm (F 2) (A 10) 0) := by
  refine kk_ctr en_hM (List.mem_of_getElem? (i := 182) rfl) rfl (Nat.le_of_ble_eq_true rfl) (fun K hC => ?_)
  repeat' first | refine hC.gn [5] _ rfl rfl ?_ | refine And.intro ?_ ?_ | exact True.intro | refine hC.iadd [5] rfl rfl (by first | omega | (simp only [Int.reduceToNat] at *; omega)) ?_ | refine hC.isub [5] rfl rfl (by first | omega | (simp only [Int.reduceToNat] at *; omega)) ?_ | refine hC.imul [5] rfl rfl (by first | omega | (simp only [Int.reduceToNat] at *; omega)) ?_ | refine hC.iinc [5] rfl rfl rfl rfl (by first | omega | (simp only [Int.reduceToNat] at *; omega)) ?_ | refine hC.go [5] _ rfl rfl ?_ | (intro h; first | exact (h rfl).elim | (exfalso; cases h; done) | (dsimp only [kk_cP, kk_cN] at h) | skip)
  refine (show ∀ F1 : Nat → Int, F1 2 = F 2 → mm_I Bm F1 A → K 5 [(0, (4, 0))] [] (mm_w F1 A) from ?_) (kk_up F 0 0) rfl hI
  clear hI
  intro F1 e2 hI
  have hcn := hI.cn
  repeat' first | refine hC.gn [] _ rfl rfl ?_ | refine And.intro ?_ ?_ | exact True.intro | refine hC.iadd [] rfl rfl (by first | omega | (simp only [Int.reduceToNat] at *; omega)) ?_ | refine hC.isub [] rfl rfl (by first | omega | (simp only [Int.reduceToNat] at *; omega)) ?_ | refine hC.imul [] rfl rfl (by first | omega | (simp only [Int.reduceToNat] at *; omega)) ?_ | refine hC.iinc [] rfl rfl rfl rfl (by first | omega | (simp only [Int.reduceToNat] at *; omega)) ?_ | refine hC.go [] _ rfl rfl ?_ | (intro h; first | exact (h rfl).elim | (exfalso; cases h; done) | (dsimp only [kk_cP, kk_cN] at h) | skip) | (refine hC.same (mm_allDeeds l _ _ _) rfl rfl rfl rfl (Nat.le_refl _) ?_; rintro rs w' ⟨rfl, xw, rfl⟩) | (refine hC.same (mm_barredEver l _ _ _ hcn) rfl rfl rfl rfl (Nat.le_refl _) ?_; rintro rs w' ⟨rfl, xv, rfl⟩)
  all_goals first | rfl | omega | exact ⟨_, rfl⟩ | exact Or.inl rfl | exact Or.inr rfl | (simp only [Int.reduceToNat] at *; omega) | exact ⟨F1, A, _, rfl, rfl, hI, e2, rfl⟩
set_option maxRecDepth 100000 in
set_option maxHeartbeats 4000000 in
theorem mm_quarrelsI (l : Launch) (d : Nat) (F : Nat → Int) (A : Nat → Nat → Int) (c : Int) (hI : mm_I Bm F A) : kk_Ctr l (d + 2) en_t_X11_quarrels [(4, 0), (0, c)] (mm_w F A) (mm_Po Bm (F 2) (A 10) 0) := by
  refine kk_ctr en_hM (List.mem_of_getElem? (i := 183) rfl) rfl (Nat.le_of_ble_eq_true rfl) (fun K hC => ?_)
  repeat' first | refine hC.gn [5] _ rfl rfl ?_ | refine And.intro ?_ ?_ | exact True.intro | refine hC.iadd [5] rfl rfl (by first | omega | (simp only [Int.reduceToNat] at *; omega)) ?_ | refine hC.isub [5] rfl rfl (by first | omega | (simp only [Int.reduceToNat] at *; omega)) ?_ | refine hC.imul [5] rfl rfl (by first | omega | (simp only [Int.reduceToNat] at *; omega)) ?_ | refine hC.iinc [5] rfl rfl rfl rfl (by first | omega | (simp only [Int.reduceToNat] at *; omega)) ?_ | refine hC.go [5] _ rfl rfl ?_ | (intro h; first | exact (h rfl).elim | (exfalso; cases h; done) | (dsimp only [kk_cP, kk_cN] at h) | skip)
  refine (show ∀ F1 : Nat → Int, F1 2 = F 2 → mm_I Bm F1 A → K 5 [(0, (4, 0)), (1, (0, c))] [] (mm_w F1 A) from ?_) (kk_up F 0 0) rfl hI
  clear hI
  intro F1 e2 hI
  obtain ⟨c1, c2, c3, c4, c5, c6⟩ := hI.cn
  have k19 : ∀ (n : Nat) (i : Int) (x : Int), (11 - i).toNat < n → (0 ≤ i ∧ i ≤ 10 ∧ 0 ≤ c ∧ c ≤ 9) → K 19 [(0, (4, 0)), (1, (0, c)), (2, (0, x)), (3, (0, i))] [] (mm_w F1 A) := by
    intro n
    induction n with
    | zero => intro i x hz; exact absurd hz (Nat.not_lt_zero _)
    | succ n ih =>
      intro i x hn h0
      refine hC.go [] _ rfl rfl ?_
      repeat' first | refine hC.gn [19] _ rfl rfl ?_ | refine And.intro ?_ ?_ | exact True.intro | refine hC.iadd [19] rfl rfl (by first | omega | (simp only [Int.reduceToNat] at *; omega)) ?_ | refine hC.isub [19] rfl rfl (by first | omega | (simp only [Int.reduceToNat] at *; omega)) ?_ | refine hC.imul [19] rfl rfl (by first | omega | (simp only [Int.reduceToNat] at *; omega)) ?_ | refine hC.iinc [19] rfl rfl rfl rfl (by first | omega | (simp only [Int.reduceToNat] at *; omega)) ?_ | refine hC.go [19] _ rfl rfl ?_ | (intro h; first | exact (h rfl).elim | (exfalso; cases h; done) | (dsimp only [kk_cP, kk_cN] at h) | skip)
      all_goals first | rfl | omega | exact ⟨_, rfl⟩ | exact Or.inl rfl | exact Or.inr rfl | (simp only [Int.reduceToNat] at *; omega) | exact ⟨F1, A, _, rfl, rfl, hI, e2, rfl⟩ | exact hC.sub [(0, (4, 0)), (1, (0, _)), (2, (0, _)), (3, (0, _))] ⟨rfl, rfl, rfl, rfl, trivial⟩ (ih _ _ (by omega) (by first | omega | (simp only [Int.reduceToNat] at *; omega)))
  repeat' first | refine hC.gn [19] _ rfl rfl ?_ | refine And.intro ?_ ?_ | exact True.intro | refine hC.iadd [19] rfl rfl (by first | omega | (simp only [Int.reduceToNat] at *; omega)) ?_ | refine hC.isub [19] rfl rfl (by first | omega | (simp only [Int.reduceToNat] at *; omega)) ?_ | refine hC.imul [19] rfl rfl (by first | omega | (simp only [Int.reduceToNat] at *; omega)) ?_ | refine hC.iinc [19] rfl rfl rfl rfl (by first | omega | (simp only [Int.reduceToNat] at *; omega)) ?_ | refine hC.go [19] _ rfl rfl ?_ | (intro h; first | exact (h rfl).elim | (exfalso; cases h; done) | (dsimp only [kk_cP, kk_cN] at h) | skip) | (refine hC.same (mm_isChapter l _ _ _ hI.cn) rfl rfl rfl rfl (Nat.le_refl _) ?_; rintro rs w' ⟨rfl, ⟨rfl, u1, u2, u3⟩ | rfl⟩)
  all_goals first | rfl | omega | exact ⟨_, rfl⟩ | exact Or.inl rfl | exact Or.inr rfl | (simp only [Int.reduceToNat] at *; omega) | exact ⟨F1, A, _, rfl, rfl, hI, e2, rfl⟩ | exact hC.sub [(0, (4, 0)), (1, (0, _)), (2, (0, _)), (3, (0, _))] ⟨rfl, rfl, rfl, rfl, trivial⟩ (k19 _ _ _ (Nat.lt_succ_self _) (by omega))
set_option maxRecDepth 100000 in
set_option maxHeartbeats 4000000 in
theorem mm_mustBy (l : Launch) (d : Nat) (F : Nat → Int) (A : Nat → Nat → Int) (s : Int) : kk_Ctr l (d + 1) en_t_X11_mustBy [(4, 0), (0, s)] (mm_w F A) (mm_Rd F A) := by
  refine kk_ctr en_hM (List.mem_of_getElem? (i := 233) rfl) rfl (Nat.le_of_ble_eq_true rfl) (fun K hC => ?_)
  have k4 : ∀ (n : Nat) (i : Int) (x : Int), (11 - i).toNat < n → (0 ≤ i ∧ i ≤ 10) → K 4 [(0, (4, 0)), (1, (0, s)), (2, (0, x)), (3, (0, i))] [] (mm_w F A) := by
    intro n
    induction n with
    | zero => intro i x hz; exact absurd hz (Nat.not_lt_zero _)
    | succ n ih =>
      intro i x hn h0
      refine hC.go [] _ rfl rfl ?_
      repeat' first | refine hC.gn [4] _ rfl rfl ?_ | refine And.intro ?_ ?_ | exact True.intro | refine hC.iadd [4] rfl rfl (by first | omega | (simp only [Int.reduceToNat] at *; omega)) ?_ | refine hC.isub [4] rfl rfl (by first | omega | (simp only [Int.reduceToNat] at *; omega)) ?_ | refine hC.imul [4] rfl rfl (by first | omega | (simp only [Int.reduceToNat] at *; omega)) ?_ | refine hC.iinc [4] rfl rfl rfl rfl (by first | omega | (simp only [Int.reduceToNat] at *; omega)) ?_ | refine hC.go [4] _ rfl rfl ?_ | (intro h; first | exact (h rfl).elim | (exfalso; cases h; done) | (dsimp only [kk_cP, kk_cN] at h) | skip) | (refine hC.call (mm_has l _ _ _) [] rfl rfl rfl rfl rfl rfl trivial (Nat.le_refl _) ?_; rintro rs w' ⟨rfl, rfl | rfl⟩)
      all_goals first | rfl | omega | exact ⟨_, rfl⟩ | exact Or.inl rfl | exact Or.inr rfl | (simp only [Int.reduceToNat] at *; omega) | exact hC.sub [(0, (4, 0)), (1, (0, _)), (2, (0, _)), (3, (0, _))] ⟨rfl, rfl, rfl, rfl, trivial⟩ (ih _ _ (by omega) (by omega))
  repeat' first | refine hC.gn [4] _ rfl rfl ?_ | refine And.intro ?_ ?_ | exact True.intro | refine hC.iadd [4] rfl rfl (by first | omega | (simp only [Int.reduceToNat] at *; omega)) ?_ | refine hC.isub [4] rfl rfl (by first | omega | (simp only [Int.reduceToNat] at *; omega)) ?_ | refine hC.imul [4] rfl rfl (by first | omega | (simp only [Int.reduceToNat] at *; omega)) ?_ | refine hC.iinc [4] rfl rfl rfl rfl (by first | omega | (simp only [Int.reduceToNat] at *; omega)) ?_ | refine hC.go [4] _ rfl rfl ?_ | (intro h; first | exact (h rfl).elim | (exfalso; cases h; done) | (dsimp only [kk_cP, kk_cN] at h) | skip)
  exact hC.sub [(0, (4, 0)), (1, (0, _)), (2, (0, _)), (3, (0, _))] ⟨rfl, rfl, rfl, rfl, trivial⟩ (k4 _ _ _ (Nat.lt_succ_self _) (by omega))
set_option maxRecDepth 100000 in
set_option maxHeartbeats 4000000 in
theorem mm_goodSlips (l : Launch) (d : Nat) (F : Nat → Int) (A : Nat → Nat → Int) (e b : Int) (hc : mm_cn (A 2)) (hb : 0 ≤ b ∧ b ≤ 200) (hs : ∀ c : Nat, c < 10 → 0 ≤ A 2 (b + c).toNat ∧ A 2 (b + c).toNat ≤ 9) : kk_Ctr l (d + 1) en_t_X11_goodSlips [(4, 0), (0, e), (0, b)] (mm_w F A) (fun rs w' => w' = mm_w F A ∧ ∃ x, rs = [(0, x)] ∧ 0 ≤ x ∧ x ≤ 90) := by
  obtain ⟨c1, c2, c3, c4, c5, c6⟩ := hc
  refine kk_ctr en_hM (List.mem_of_getElem? (i := 235) rfl) rfl (Nat.le_of_ble_eq_true rfl) (fun K hC => ?_)
  have k5 : ∀ (n : Nat) (i : Int) (x : Int), (11 - i).toNat < n → (0 ≤ i ∧ i ≤ 10 ∧ 0 ≤ x ∧ x ≤ 9 * i) → K 5 [(0, (4, 0)), (1, (0, e)), (2, (0, b)), (3, (0, x)), (4, (0, i))] [] (mm_w F A) := by
    intro n
    induction n with
    | zero => intro i x hz; exact absurd hz (Nat.not_lt_zero _)
    | succ n ih =>
      intro i x hn h0
      have hsi : i < 10 → 0 ≤ A 2 (b + i).toNat ∧ A 2 (b + i).toNat ≤ 9 := fun q => by have := hs i.toNat (by omega); rw [show b + ((i.toNat : Nat) : Int) = b + i by omega] at this; exact this
      refine hC.go [] _ rfl rfl ?_
      repeat' first | refine hC.gn [5] _ rfl rfl ?_ | refine And.intro ?_ ?_ | exact True.intro | refine hC.iadd [5] rfl rfl (by first | omega | (simp only [Int.reduceToNat] at *; omega)) ?_ | refine hC.isub [5] rfl rfl (by first | omega | (simp only [Int.reduceToNat] at *; omega)) ?_ | refine hC.imul [5] rfl rfl (by first | omega | (simp only [Int.reduceToNat] at *; omega)) ?_ | refine hC.iinc [5] rfl rfl rfl rfl (by first | omega | (simp only [Int.reduceToNat] at *; omega)) ?_ | refine hC.go [5] _ rfl rfl ?_ | (intro h; first | exact (h rfl).elim | (exfalso; cases h; done) | (dsimp only [kk_cP, kk_cN] at h) | skip) | (refine hC.call (mm_has l _ _ _) [] rfl rfl rfl rfl rfl rfl trivial (Nat.le_refl _) ?_; rintro rs w' ⟨rfl, rfl | rfl⟩)
      all_goals first | rfl | omega | exact ⟨_, rfl⟩ | exact Or.inl rfl | exact Or.inr rfl | (simp only [Int.reduceToNat] at *; omega) | exact ⟨_, rfl, by omega, by omega⟩ | exact hC.sub [(0, (4, 0)), (1, (0, _)), (2, (0, _)), (3, (0, _)), (4, (0, _))] ⟨rfl, rfl, rfl, rfl, rfl, trivial⟩ (ih _ _ (by omega) (by first | omega | (simp only [Int.reduceToNat] at *; omega)))
  repeat' first | refine hC.gn [5] _ rfl rfl ?_ | refine And.intro ?_ ?_ | exact True.intro | refine hC.iadd [5] rfl rfl (by first | omega | (simp only [Int.reduceToNat] at *; omega)) ?_ | refine hC.isub [5] rfl rfl (by first | omega | (simp only [Int.reduceToNat] at *; omega)) ?_ | refine hC.imul [5] rfl rfl (by first | omega | (simp only [Int.reduceToNat] at *; omega)) ?_ | refine hC.iinc [5] rfl rfl rfl rfl (by first | omega | (simp only [Int.reduceToNat] at *; omega)) ?_ | refine hC.go [5] _ rfl rfl ?_ | (intro h; first | exact (h rfl).elim | (exfalso; cases h; done) | (dsimp only [kk_cP, kk_cN] at h) | skip)
  exact hC.sub [(0, (4, 0)), (1, (0, _)), (2, (0, _)), (3, (0, _)), (4, (0, _))] ⟨rfl, rfl, rfl, rfl, rfl, trivial⟩ (k5 _ _ _ (Nat.lt_succ_self _) (by omega))
set_option maxRecDepth 100000 in
set_option maxHeartbeats 4000000 in
theorem mm_I.box {F : Nat → Int} {A : Nat → Nat → Int} (h : mm_I Bm F A) : ∀ c : Nat, c < 10 → 0 ≤ A 2 ((69 : Int) + c).toNat ∧ A 2 ((69 : Int) + c).toNat ≤ 9 := fun c hc => by
  have := h.vS.2.2.1 c hc
  rw [show ((69 : Int) + c).toNat = 69 + c by omega]
  exact this
set_option maxRecDepth 100000 in
set_option maxHeartbeats 4000000 in
theorem mm_I.slp {F : Nat → Int} {A : Nat → Nat → Int} (h : mm_I Bm F A) : ∀ c : Nat, c < 10 → 0 ≤ A 2 ((5 : Int) + c).toNat ∧ A 2 ((5 : Int) + c).toNat ≤ 9 := fun c hc => by
  have := h.rH.2.1 c hc
  rw [show ((5 : Int) + c).toNat = 5 + c by omega]
  exact this
set_option maxRecDepth 100000 in
set_option maxHeartbeats 4000000 in
theorem mm_I.inb {F : Nat → Int} {A : Nat → Nat → Int} (h : mm_I Bm F A) (h2 : A 2 2 ≠ 0) : 1 ≤ mm_sm (A 2) 69 10 ∧ mm_sm (A 2) 69 10 ≤ 90 := by
  have hv := h.vS
  have h20 := h.cn.2.2.2.2.1
  obtain ⟨c0, c1, c2⟩ := hv.2.2.2.1 (by omega)
  have s1 := mm_sm_p hv.2.2.1 c1 c2 10 c1 (Nat.le_refl _)
  have s2 := (mm_sm_s hv.2.2.1 10 (Nat.le_refl _)).2.1
  exact ⟨s1, by omega⟩
set_option maxRecDepth 100000 in
set_option maxHeartbeats 4000000 in
theorem mm_allowedI (l : Launch) (d : Nat) (F : Nat → Int) (A : Nat → Nat → Int) (e q : Int) (hI : mm_I Bm F A) : kk_Ctr l (d + 2) en_t_X11_allowed [(4, 0), (0, e), (0, q)] (mm_w F A) (mm_Po Bm (F 2) (A 10) 2) := by
  refine kk_ctr en_hM (List.mem_of_getElem? (i := 186) rfl) rfl (Nat.le_of_ble_eq_true rfl) (fun K hC => ?_)
  repeat' first | refine hC.gn [5] _ rfl rfl ?_ | refine And.intro ?_ ?_ | exact True.intro | refine hC.iadd [5] rfl rfl (by first | omega | (simp only [Int.reduceToNat] at *; omega)) ?_ | refine hC.isub [5] rfl rfl (by first | omega | (simp only [Int.reduceToNat] at *; omega)) ?_ | refine hC.imul [5] rfl rfl (by first | omega | (simp only [Int.reduceToNat] at *; omega)) ?_ | refine hC.iinc [5] rfl rfl rfl rfl (by first | omega | (simp only [Int.reduceToNat] at *; omega)) ?_ | refine hC.go [5] _ rfl rfl ?_ | (intro h; first | exact (h rfl).elim | (exfalso; cases h; done) | (dsimp only [kk_cP, kk_cN] at h) | skip)
  refine (show ∀ F1 : Nat → Int, F1 2 = F 2 → mm_I Bm F1 A → K 5 [(0, (4, 0)), (1, (0, e)), (2, (0, q))] [] (mm_w F1 A) from ?_) (kk_up F 0 0) rfl hI
  clear hI
  intro F1 e2 hI
  repeat' first | refine hC.gn [] _ rfl rfl ?_ | refine And.intro ?_ ?_ | exact True.intro | refine hC.iadd [] rfl rfl (by first | omega | (simp only [Int.reduceToNat] at *; omega)) ?_ | refine hC.isub [] rfl rfl (by first | omega | (simp only [Int.reduceToNat] at *; omega)) ?_ | refine hC.imul [] rfl rfl (by first | omega | (simp only [Int.reduceToNat] at *; omega)) ?_ | refine hC.iinc [] rfl rfl rfl rfl (by first | omega | (simp only [Int.reduceToNat] at *; omega)) ?_ | refine hC.go [] _ rfl rfl ?_ | (intro h; first | exact (h rfl).elim | (exfalso; cases h; done) | (dsimp only [kk_cP, kk_cN] at h) | skip) | (refine hC.same (mm_isDeed l _ _ _ ⟨hI.cn.1, hI.cn.2.1⟩) rfl rfl rfl rfl (Nat.le_refl _) ?_; rintro rs w' ⟨rfl, ⟨rfl, v1, v2⟩ | ⟨rfl, v1⟩⟩) | (refine hC.call (mm_isIn l _ _ _ _) [] rfl rfl rfl rfl rfl rfl trivial (Nat.le_refl _) ?_; rintro rs w' ⟨rfl, ⟨rfl, h1, h2⟩ | ⟨rfl, h1⟩⟩) | (refine hC.same (mm_refuse l _ F1 A) rfl rfl rfl rfl (Nat.le_refl _) ?_; rintro rs w' ⟨rfl, rfl⟩)
  all_goals first | rfl | omega | exact ⟨_, rfl⟩ | exact Or.inl rfl | exact Or.inr rfl | (simp only [Int.reduceToNat] at *; omega) | exact ⟨kk_up F1 0 1, A, _, rfl, rfl, hI, e2, rfl⟩ | skip
  have h2n : A 2 2 ≠ 0 := by assumption
  have hb := hI.inb h2n
  refine hC.same (mm_goodSlips l _ F1 A e 69 hI.cn (by decide) hI.box) rfl rfl rfl rfl (Nat.le_refl _) ?_
  rintro rs w' ⟨rfl, x, rfl, x0, x1⟩
  repeat' first | refine hC.gn [] _ rfl rfl ?_ | refine And.intro ?_ ?_ | exact True.intro | refine hC.iadd [] rfl rfl (by first | omega | (simp only [Int.reduceToNat] at *; omega)) ?_ | refine hC.isub [] rfl rfl (by first | omega | (simp only [Int.reduceToNat] at *; omega)) ?_ | refine hC.imul [] rfl rfl (by first | omega | (simp only [Int.reduceToNat] at *; omega)) ?_ | refine hC.iinc [] rfl rfl rfl rfl (by first | omega | (simp only [Int.reduceToNat] at *; omega)) ?_ | refine hC.go [] _ rfl rfl ?_ | (intro h; first | exact (h rfl).elim | (exfalso; cases h; done) | (dsimp only [kk_cP, kk_cN] at h) | skip) | (refine hC.same (mm_inBox l _ _ _) rfl rfl rfl rfl (Nat.le_refl _) ?_; rintro rs w' ⟨rfl, rfl⟩)
  refine hC.call (mm_tellPart l _ _ _ _ (Or.inl ?_)) [] rfl rfl rfl rfl rfl rfl trivial (Nat.le_refl _) ?_
  · omega
  rintro rs w' ⟨rfl, y, rfl⟩
  repeat' first | refine hC.gn [] _ rfl rfl ?_ | refine And.intro ?_ ?_ | exact True.intro | refine hC.iadd [] rfl rfl (by first | omega | (simp only [Int.reduceToNat] at *; omega)) ?_ | refine hC.isub [] rfl rfl (by first | omega | (simp only [Int.reduceToNat] at *; omega)) ?_ | refine hC.imul [] rfl rfl (by first | omega | (simp only [Int.reduceToNat] at *; omega)) ?_ | refine hC.iinc [] rfl rfl rfl rfl (by first | omega | (simp only [Int.reduceToNat] at *; omega)) ?_ | refine hC.go [] _ rfl rfl ?_ | (intro h; first | exact (h rfl).elim | (exfalso; cases h; done) | (dsimp only [kk_cP, kk_cN] at h) | skip)
  exact ⟨F1, A, _, rfl, rfl, hI, e2, rfl⟩
