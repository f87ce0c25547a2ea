/-! THE CLASS, 5: a house, read alone -/
def hh_c (A : Nat → Nat → Int) : Prop := (0 ≤ A 1 0 ∧ A 1 0 ≤ 8) ∧ (0 ≤ A 1 1 ∧ A 1 1 ≤ 4) ∧ (0 ≤ A 1 2 ∧ A 1 2 ≤ 10)
def hh_Rd (O A : Nat → Nat → Int) : List en_V → List kk_C → Prop := fun rs w' => w' = cx_H O A ∧ ∃ x, rs = [(0, x)]
set_option maxRecDepth 100000 in
set_option maxHeartbeats 4000000 in
theorem hh_at {A : Nat → Nat → Int} (h : hh_c A) {s : Int} (h0 : 0 ≤ s) (h2 : s ≤ 2) : 0 ≤ A 1 s.toNat ∧ A 1 s.toNat ≤ 10 := by
  obtain ⟨a, b, c⟩ := h
  rcases (show s = 0 ∨ s = 1 ∨ s = 2 by omega) with rfl | rfl | rfl
  · exact ⟨a.1, by have := a.2; show A 1 0 ≤ 10; omega⟩
  · exact ⟨b.1, by have := b.2; show A 1 1 ≤ 10; omega⟩
  · exact c
set_option maxRecDepth 100000 in
set_option maxHeartbeats 4000000 in
theorem hh_has (l : Launch) (d : Nat) (O A : Nat → Nat → Int) (s n : Int) (h : hh_c A) (h0 : 0 ≤ s) (h2 : s ≤ 2) : kk_Ctr l d en_t_X2_has [(4, 0), (0, s), (0, n)] (cx_H O A) (fun rs w' => w' = cx_H O A ∧ ((rs = [(0, 1)] ∧ 0 ≤ n ∧ n < A 1 s.toNat) ∨ (rs = [(0, 0)] ∧ ¬ (0 ≤ n ∧ n < A 1 s.toNat)))) := by
  refine kk_ctr en_hM (List.mem_of_getElem? (i := 60) rfl) rfl (Nat.le_of_ble_eq_true rfl) (fun K hC => ?_)
  repeat' first | refine hC.gw [] _ rfl rfl ?_ | refine And.intro ?_ ?_ | exact True.intro | refine hC.iadd [] rfl rfl (by first | omega | (simp only [Int.reduceToNat] at *; omega)) ?_ | refine hC.isub [] rfl rfl (by first | omega | (simp only [Int.reduceToNat] at *; omega)) ?_ | refine hC.imul [] rfl rfl (by first | omega | (simp only [Int.reduceToNat] at *; omega)) ?_ | refine hC.iinc [] rfl rfl rfl rfl (by first | omega | (simp only [Int.reduceToNat] at *; omega)) ?_ | refine hC.pfw (W := cx_H) [] rfl rfl rfl rfl rfl rfl ?_ ?_ | refine hC.iaw (W := cx_H) [] rfl rfl rfl rfl ?_ ?_ | refine hC.law (W := cx_H) [] rfl rfl rfl rfl ?_ ?_ | refine hC.cpw (W := cx_H) [] rfl rfl rfl rfl rfl rfl ?_ | refine hC.cpl (W := cx_H) [] rfl rfl rfl rfl rfl rfl ?_ | refine hC.go [] _ rfl rfl ?_ | (intro h; first | exact (h rfl).elim | (exfalso; cases h; done) | (dsimp only [kk_cP, kk_cN] at h) | skip)
  all_goals first | rfl | omega | exact Or.inl rfl | exact Or.inr rfl | exact Or.inl ⟨rfl, by omega, by omega⟩ | exact Or.inr ⟨rfl, by omega⟩
set_option maxRecDepth 100000 in
set_option maxHeartbeats 4000000 in
theorem hh_hasNo (l : Launch) (d : Nat) (O A : Nat → Nat → Int) : kk_Ctr l d en_t_X2_hasNoChapters [(4, 0)] (cx_H O A) (fun rs w' => w' = cx_H O A ∧ ((rs = [(0, 1)] ∧ A 1 2 = 0) ∨ (rs = [(0, 0)] ∧ A 1 2 ≠ 0))) := by
  refine kk_ctr en_hM (List.mem_of_getElem? (i := 61) rfl) rfl (Nat.le_of_ble_eq_true rfl) (fun K hC => ?_)
  repeat' first | refine hC.gw [] _ rfl rfl ?_ | refine And.intro ?_ ?_ | exact True.intro | refine hC.iadd [] rfl rfl (by first | omega | (simp only [Int.reduceToNat] at *; omega)) ?_ | refine hC.isub [] rfl rfl (by first | omega | (simp only [Int.reduceToNat] at *; omega)) ?_ | refine hC.imul [] rfl rfl (by first | omega | (simp only [Int.reduceToNat] at *; omega)) ?_ | refine hC.iinc [] rfl rfl rfl rfl (by first | omega | (simp only [Int.reduceToNat] at *; omega)) ?_ | refine hC.pfw (W := cx_H) [] rfl rfl rfl rfl rfl rfl ?_ ?_ | refine hC.iaw (W := cx_H) [] rfl rfl rfl rfl ?_ ?_ | refine hC.law (W := cx_H) [] rfl rfl rfl rfl ?_ ?_ | refine hC.cpw (W := cx_H) [] rfl rfl rfl rfl rfl rfl ?_ | refine hC.cpl (W := cx_H) [] rfl rfl rfl rfl rfl rfl ?_ | refine hC.go [] _ rfl rfl ?_ | (intro h; first | exact (h rfl).elim | (exfalso; cases h; done) | (dsimp only [kk_cP, kk_cN] at h) | skip)
  all_goals first | rfl | omega | exact Or.inl rfl | exact Or.inr rfl | exact Or.inl ⟨rfl, by assumption⟩ | exact Or.inr ⟨rfl, by assumption⟩
set_option maxRecDepth 100000 in
set_option maxHeartbeats 4000000 in
theorem hh_nameOf (l : Launch) (d : Nat) (O A : Nat → Nat → Int) (s n : Int) (h : hh_c A) (h0 : 0 ≤ s) (h2 : s ≤ 2) : kk_Ctr l (d + 1) en_t_X2_nameOf [(4, 0), (0, s), (0, n)] (cx_H O A) (fun rs w' => w' = cx_H O A ∧ ∃ x, rs = [(2, x)]) := by
  have hb := hh_at h h0 h2
  refine kk_ctr en_hM (List.mem_of_getElem? (i := 68) rfl) rfl (Nat.le_of_ble_eq_true rfl) (fun K hC => ?_)
  repeat' first | refine hC.gw [] _ rfl rfl ?_ | refine And.intro ?_ ?_ | exact True.intro | refine hC.iadd [] rfl rfl (by first | omega | (simp only [Int.reduceToNat] at *; omega)) ?_ | refine hC.isub [] rfl rfl (by first | omega | (simp only [Int.reduceToNat] at *; omega)) ?_ | refine hC.imul [] rfl rfl (by first | omega | (simp only [Int.reduceToNat] at *; omega)) ?_ | refine hC.iinc [] rfl rfl rfl rfl (by first | omega | (simp only [Int.reduceToNat] at *; omega)) ?_ | refine hC.pfw (W := cx_H) [] rfl rfl rfl rfl rfl rfl ?_ ?_ | refine hC.iaw (W := cx_H) [] rfl rfl rfl rfl ?_ ?_ | refine hC.law (W := cx_H) [] rfl rfl rfl rfl ?_ ?_ | refine hC.cpw (W := cx_H) [] rfl rfl rfl rfl rfl rfl ?_ | refine hC.cpl (W := cx_H) [] rfl rfl rfl rfl rfl rfl ?_ | refine hC.go [] _ rfl rfl ?_ | (intro h; first | exact (h rfl).elim | (exfalso; cases h; done) | (dsimp only [kk_cP, kk_cN] at h) | skip) | (refine hC.same (hh_has l _ _ _ _ _ (by assumption) (by omega) (by omega)) rfl rfl rfl rfl (Nat.le_refl _) ?_; rintro rs w' ⟨rfl, ⟨rfl, q1, q2⟩ | ⟨rfl, q1⟩⟩)
  all_goals first | rfl | omega | exact ⟨_, rfl⟩ | exact Or.inl rfl | exact Or.inr rfl | (simp only [Int.reduceToNat] at *; omega)
set_option maxRecDepth 100000 in
set_option maxHeartbeats 4000000 in
theorem hh_placeOf (l : Launch) (d : Nat) (O A : Nat → Nat → Int) (s x : Int) (h : hh_c A) (h0 : 0 ≤ s) (h2 : s ≤ 2) : kk_Ctr l d en_t_X2_placeOf [(4, 0), (0, s), (2, x)] (cx_H O A) (fun rs w' => w' = cx_H O A ∧ ∃ y, rs = [(0, y)] ∧ -1 ≤ y ∧ y < A 1 s.toNat) := by
  have hb := hh_at h h0 h2
  refine kk_ctr en_hM (List.mem_of_getElem? (i := 82) rfl) rfl (Nat.le_of_ble_eq_true rfl) (fun K hC => ?_)
  have k3 : ∀ (n : Nat) (i : Int), (11 - i).toNat < n → (0 ≤ i ∧ i ≤ 10) → K 3 [(0, (4, 0)), (1, (0, s)), (2, (2, x)), (4, (0, i))] [] (cx_H O A) := by
    intro n
    induction n with
    | zero => intro i hz; exact absurd hz (Nat.not_lt_zero _)
    | succ n ih =>
      intro i hn g0
      refine hC.go [] _ rfl rfl ?_
      repeat' first | refine hC.gw [3] _ rfl rfl ?_ | refine And.intro ?_ ?_ | exact True.intro | refine hC.iadd [3] rfl rfl (by first | omega | (simp only [Int.reduceToNat] at *; omega)) ?_ | refine hC.isub [3] rfl rfl (by first | omega | (simp only [Int.reduceToNat] at *; omega)) ?_ | refine hC.imul [3] rfl rfl (by first | omega | (simp only [Int.reduceToNat] at *; omega)) ?_ | refine hC.iinc [3] rfl rfl rfl rfl (by first | omega | (simp only [Int.reduceToNat] at *; omega)) ?_ | refine hC.pfw (W := cx_H) [3] rfl rfl rfl rfl rfl rfl ?_ ?_ | refine hC.iaw (W := cx_H) [3] rfl rfl rfl rfl ?_ ?_ | refine hC.law (W := cx_H) [3] rfl rfl rfl rfl ?_ ?_ | refine hC.cpw (W := cx_H) [3] rfl rfl rfl rfl rfl rfl ?_ | refine hC.cpl (W := cx_H) [3] rfl rfl rfl rfl rfl rfl ?_ | refine hC.go [3] _ rfl rfl ?_ | (intro h; first | exact (h rfl).elim | (exfalso; cases h; done) | (dsimp only [kk_cP, kk_cN] at h) | skip)
      all_goals first | rfl | omega | exact ⟨_, rfl, by omega, by omega⟩ | exact hC.sub [(0, (4, 0)), (1, (0, _)), (2, (2, _)), (4, (0, _))] ⟨rfl, rfl, rfl, rfl, trivial⟩ (ih _ (by omega) (by omega))
  repeat' first | refine hC.gw [3] _ rfl rfl ?_ | refine And.intro ?_ ?_ | exact True.intro | refine hC.iadd [3] rfl rfl (by first | omega | (simp only [Int.reduceToNat] at *; omega)) ?_ | refine hC.isub [3] rfl rfl (by first | omega | (simp only [Int.reduceToNat] at *; omega)) ?_ | refine hC.imul [3] rfl rfl (by first | omega | (simp only [Int.reduceToNat] at *; omega)) ?_ | refine hC.iinc [3] rfl rfl rfl rfl (by first | omega | (simp only [Int.reduceToNat] at *; omega)) ?_ | refine hC.pfw (W := cx_H) [3] rfl rfl rfl rfl rfl rfl ?_ ?_ | refine hC.iaw (W := cx_H) [3] rfl rfl rfl rfl ?_ ?_ | refine hC.law (W := cx_H) [3] rfl rfl rfl rfl ?_ ?_ | refine hC.cpw (W := cx_H) [3] rfl rfl rfl rfl rfl rfl ?_ | refine hC.cpl (W := cx_H) [3] rfl rfl rfl rfl rfl rfl ?_ | refine hC.go [3] _ rfl rfl ?_ | (intro h; first | exact (h rfl).elim | (exfalso; cases h; done) | (dsimp only [kk_cP, kk_cN] at h) | skip)
  exact hC.sub [(0, (4, 0)), (1, (0, _)), (2, (2, _)), (4, (0, _))] ⟨rfl, rfl, rfl, rfl, trivial⟩ (k3 _ _ (Nat.lt_succ_self _) (by omega))
set_option maxRecDepth 100000 in
set_option maxHeartbeats 4000000 in
theorem hh_isTold (l : Launch) (d : Nat) (O A : Nat → Nat → Int) (x : Int) (h : hh_c A) : kk_Ctr l (d + 1) en_t_X2_isTold [(4, 0), (2, x)] (cx_H O A) (fun rs w' => w' = cx_H O A ∧ (rs = [(0, 1)] ∨ rs = [(0, 0)])) := by
  refine kk_ctr en_hM (List.mem_of_getElem? (i := 81) rfl) rfl (Nat.le_of_ble_eq_true rfl) (fun K hC => ?_)
  repeat' first | refine hC.gw [] _ rfl rfl ?_ | refine And.intro ?_ ?_ | exact True.intro | refine hC.iadd [] rfl rfl (by first | omega | (simp only [Int.reduceToNat] at *; omega)) ?_ | refine hC.isub [] rfl rfl (by first | omega | (simp only [Int.reduceToNat] at *; omega)) ?_ | refine hC.imul [] rfl rfl (by first | omega | (simp only [Int.reduceToNat] at *; omega)) ?_ | refine hC.iinc [] rfl rfl rfl rfl (by first | omega | (simp only [Int.reduceToNat] at *; omega)) ?_ | refine hC.pfw (W := cx_H) [] rfl rfl rfl rfl rfl rfl ?_ ?_ | refine hC.iaw (W := cx_H) [] rfl rfl rfl rfl ?_ ?_ | refine hC.law (W := cx_H) [] rfl rfl rfl rfl ?_ ?_ | refine hC.cpw (W := cx_H) [] rfl rfl rfl rfl rfl rfl ?_ | refine hC.cpl (W := cx_H) [] rfl rfl rfl rfl rfl rfl ?_ | refine hC.go [] _ rfl rfl ?_ | (intro h; first | exact (h rfl).elim | (exfalso; cases h; done) | (dsimp only [kk_cP, kk_cN] at h) | skip) | (refine hC.same (hh_placeOf l _ _ _ _ _ (by assumption) (by omega) (by omega)) rfl rfl rfl rfl (Nat.le_refl _) ?_; rintro rs w' ⟨rfl, y, rfl, y1, y2⟩)
  all_goals first | rfl | omega | exact ⟨_, rfl⟩ | exact Or.inl rfl | exact Or.inr rfl | (simp only [Int.reduceToNat] at *; omega)
set_option maxRecDepth 100000 in
set_option maxHeartbeats 4000000 in
theorem hh_allSlips (l : Launch) (d : Nat) (O A : Nat → Nat → Int) (h : hh_c A) : kk_Ctr l d en_t_X2_allSlips [(4, 0)] (cx_H O A) (hh_Rd O A) := by
  have h2 := h.2.2
  refine kk_ctr en_hM (List.mem_of_getElem? (i := 73) rfl) rfl (Nat.le_of_ble_eq_true rfl) (fun K hC => ?_)
  have k4 : ∀ (n : Nat) (i : Int) (x : Int), (11 - i).toNat < n → (0 ≤ i ∧ i ≤ 10) → K 4 [(0, (4, 0)), (1, (0, x)), (2, (0, i))] [] (cx_H O A) := by
    intro n
    induction n with
    | zero => intro i x hz; exact absurd hz (Nat.not_lt_zero _)
    | succ n ih =>
      intro i x hn g0
      refine hC.go [] _ rfl rfl ?_
      repeat' first | refine hC.gw [4] _ rfl rfl ?_ | refine And.intro ?_ ?_ | exact True.intro | refine hC.iadd [4] rfl rfl (by first | omega | (simp only [Int.reduceToNat] at *; omega)) ?_ | refine hC.isub [4] rfl rfl (by first | omega | (simp only [Int.reduceToNat] at *; omega)) ?_ | refine hC.imul [4] rfl rfl (by first | omega | (simp only [Int.reduceToNat] at *; omega)) ?_ | refine hC.iinc [4] rfl rfl rfl rfl (by first | omega | (simp only [Int.reduceToNat] at *; omega)) ?_ | refine hC.pfw (W := cx_H) [4] rfl rfl rfl rfl rfl rfl ?_ ?_ | refine hC.iaw (W := cx_H) [4] rfl rfl rfl rfl ?_ ?_ | refine hC.law (W := cx_H) [4] rfl rfl rfl rfl ?_ ?_ | refine hC.cpw (W := cx_H) [4] rfl rfl rfl rfl rfl rfl ?_ | refine hC.cpl (W := cx_H) [4] rfl rfl rfl rfl rfl rfl ?_ | refine hC.go [4] _ rfl rfl ?_ | (intro h; first | exact (h rfl).elim | (exfalso; cases h; done) | (dsimp only [kk_cP, kk_cN] at h) | skip)
      all_goals first | rfl | omega | exact ⟨_, rfl⟩ | exact Or.inl rfl | exact Or.inr rfl | (simp only [Int.reduceToNat] at *; omega) | exact hC.sub [(0, (4, 0)), (1, (0, _)), (2, (0, _))] ⟨rfl, rfl, rfl, trivial⟩ (ih _ _ (by omega) (by first | omega | (simp only [Int.reduceToNat] at *; omega)))
  repeat' first | refine hC.gw [4] _ rfl rfl ?_ | refine And.intro ?_ ?_ | exact True.intro | refine hC.iadd [4] rfl rfl (by first | omega | (simp only [Int.reduceToNat] at *; omega)) ?_ | refine hC.isub [4] rfl rfl (by first | omega | (simp only [Int.reduceToNat] at *; omega)) ?_ | refine hC.imul [4] rfl rfl (by first | omega | (simp only [Int.reduceToNat] at *; omega)) ?_ | refine hC.iinc [4] rfl rfl rfl rfl (by first | omega | (simp only [Int.reduceToNat] at *; omega)) ?_ | refine hC.pfw (W := cx_H) [4] rfl rfl rfl rfl rfl rfl ?_ ?_ | refine hC.iaw (W := cx_H) [4] rfl rfl rfl rfl ?_ ?_ | refine hC.law (W := cx_H) [4] rfl rfl rfl rfl ?_ ?_ | refine hC.cpw (W := cx_H) [4] rfl rfl rfl rfl rfl rfl ?_ | refine hC.cpl (W := cx_H) [4] rfl rfl rfl rfl rfl rfl ?_ | refine hC.go [4] _ rfl rfl ?_ | (intro h; first | exact (h rfl).elim | (exfalso; cases h; done) | (dsimp only [kk_cP, kk_cN] at h) | skip)
  exact hC.sub [(0, (4, 0)), (1, (0, _)), (2, (0, _))] ⟨rfl, rfl, rfl, trivial⟩ (k4 _ _ _ (Nat.lt_succ_self _) (by omega))
set_option maxRecDepth 100000 in
set_option maxHeartbeats 4000000 in
theorem hh_slipsA3 (l : Launch) (d : Nat) (O A : Nat → Nat → Int) (e : Int) (h : hh_c A) : kk_Ctr l (d + 1) en_t_X2_slipsAllowing [(4, 0), (0, e), (4, 3)] (cx_H O A) (hh_Rd O A) := by
  have h2 := h.2.2
  refine kk_ctr en_hM (List.mem_of_getElem? (i := 72) rfl) rfl (Nat.le_of_ble_eq_true rfl) (fun K hC => ?_)
  have k5 : ∀ (n : Nat) (i : Int) (x : Int), (11 - i).toNat < n → (0 ≤ i ∧ i ≤ 10) → K 5 [(0, (4, 0)), (1, (0, e)), (2, (4, 3)), (3, (0, x)), (4, (0, i))] [] (cx_H O A) := by
    intro n
    induction n with
    | zero => intro i x hz; exact absurd hz (Nat.not_lt_zero _)
    | succ n ih =>
      intro i x hn g0
      refine hC.go [] _ rfl rfl ?_
      repeat' first | refine hC.gw [5] _ rfl rfl ?_ | refine And.intro ?_ ?_ | exact True.intro | refine hC.iadd [5] rfl rfl (by first | omega | (simp only [Int.reduceToNat] at *; omega)) ?_ | refine hC.isub [5] rfl rfl (by first | omega | (simp only [Int.reduceToNat] at *; omega)) ?_ | refine hC.imul [5] rfl rfl (by first | omega | (simp only [Int.reduceToNat] at *; omega)) ?_ | refine hC.iinc [5] rfl rfl rfl rfl (by first | omega | (simp only [Int.reduceToNat] at *; omega)) ?_ | refine hC.pfw (W := cx_H) [5] rfl rfl rfl rfl rfl rfl ?_ ?_ | refine hC.iaw (W := cx_H) [5] rfl rfl rfl rfl ?_ ?_ | refine hC.law (W := cx_H) [5] rfl rfl rfl rfl ?_ ?_ | refine hC.cpw (W := cx_H) [5] rfl rfl rfl rfl rfl rfl ?_ | refine hC.cpl (W := cx_H) [5] rfl rfl rfl rfl rfl rfl ?_ | refine hC.go [5] _ rfl rfl ?_ | (intro h; first | exact (h rfl).elim | (exfalso; cases h; done) | (dsimp only [kk_cP, kk_cN] at h) | skip) | (refine hC.call (xx_hasBit l _ _ _) [] rfl rfl rfl rfl rfl rfl trivial (Nat.le_refl _) ?_; rintro rs w' ⟨rfl, rfl | rfl⟩)
      all_goals first | rfl | omega | exact ⟨_, rfl⟩ | exact Or.inl rfl | exact Or.inr rfl | (simp only [Int.reduceToNat] at *; omega) | exact hC.sub [(0, (4, 0)), (1, (0, _)), (2, (4, 3)), (3, (0, _)), (4, (0, _))] ⟨rfl, rfl, rfl, rfl, rfl, trivial⟩ (ih _ _ (by omega) (by first | omega | (simp only [Int.reduceToNat] at *; omega)))
  repeat' first | refine hC.gw [5] _ rfl rfl ?_ | refine And.intro ?_ ?_ | exact True.intro | refine hC.iadd [5] rfl rfl (by first | omega | (simp only [Int.reduceToNat] at *; omega)) ?_ | refine hC.isub [5] rfl rfl (by first | omega | (simp only [Int.reduceToNat] at *; omega)) ?_ | refine hC.imul [5] rfl rfl (by first | omega | (simp only [Int.reduceToNat] at *; omega)) ?_ | refine hC.iinc [5] rfl rfl rfl rfl (by first | omega | (simp only [Int.reduceToNat] at *; omega)) ?_ | refine hC.pfw (W := cx_H) [5] rfl rfl rfl rfl rfl rfl ?_ ?_ | refine hC.iaw (W := cx_H) [5] rfl rfl rfl rfl ?_ ?_ | refine hC.law (W := cx_H) [5] rfl rfl rfl rfl ?_ ?_ | refine hC.cpw (W := cx_H) [5] rfl rfl rfl rfl rfl rfl ?_ | refine hC.cpl (W := cx_H) [5] rfl rfl rfl rfl rfl rfl ?_ | refine hC.go [5] _ rfl rfl ?_ | (intro h; first | exact (h rfl).elim | (exfalso; cases h; done) | (dsimp only [kk_cP, kk_cN] at h) | skip)
  exact hC.sub [(0, (4, 0)), (1, (0, _)), (2, (4, 3)), (3, (0, _)), (4, (0, _))] ⟨rfl, rfl, rfl, rfl, rfl, trivial⟩ (k5 _ _ _ (Nat.lt_succ_self _) (by omega))
set_option maxRecDepth 100000 in
set_option maxHeartbeats 4000000 in
theorem hh_slipsA7 (l : Launch) (d : Nat) (O A : Nat → Nat → Int) (e : Int) (h : hh_c A) : kk_Ctr l (d + 1) en_t_X2_slipsAllowing [(4, 0), (0, e), (4, 7)] (cx_HX O A) (fun rs w' => w' = cx_HX O A ∧ ∃ x, rs = [(0, x)]) := by
  have h2 := h.2.2
  refine kk_ctr en_hM (List.mem_of_getElem? (i := 72) rfl) rfl (Nat.le_of_ble_eq_true rfl) (fun K hC => ?_)
  have k5 : ∀ (n : Nat) (i : Int) (x : Int), (11 - i).toNat < n → (0 ≤ i ∧ i ≤ 10) → K 5 [(0, (4, 0)), (1, (0, e)), (2, (4, 7)), (3, (0, x)), (4, (0, i))] [] (cx_HX O A) := by
    intro n
    induction n with
    | zero => intro i x hz; exact absurd hz (Nat.not_lt_zero _)
    | succ n ih =>
      intro i x hn g0
      refine hC.go [] _ rfl rfl ?_
      repeat' first | refine hC.gw [5] _ rfl rfl ?_ | refine And.intro ?_ ?_ | exact True.intro | refine hC.iadd [5] rfl rfl (by first | omega | (simp only [Int.reduceToNat] at *; omega)) ?_ | refine hC.isub [5] rfl rfl (by first | omega | (simp only [Int.reduceToNat] at *; omega)) ?_ | refine hC.imul [5] rfl rfl (by first | omega | (simp only [Int.reduceToNat] at *; omega)) ?_ | refine hC.iinc [5] rfl rfl rfl rfl (by first | omega | (simp only [Int.reduceToNat] at *; omega)) ?_ | refine hC.pfw (W := cx_HX) [5] rfl rfl rfl rfl rfl rfl ?_ ?_ | refine hC.iaw (W := cx_HX) [5] rfl rfl rfl rfl ?_ ?_ | refine hC.law (W := cx_HX) [5] rfl rfl rfl rfl ?_ ?_ | refine hC.cpw (W := cx_HX) [5] rfl rfl rfl rfl rfl rfl ?_ | refine hC.cpl (W := cx_HX) [5] rfl rfl rfl rfl rfl rfl ?_ | refine hC.go [5] _ rfl rfl ?_ | (intro h; first | exact (h rfl).elim | (exfalso; cases h; done) | (dsimp only [kk_cP, kk_cN] at h) | skip) | (refine hC.call (xx_hasBit l _ _ _) [] rfl rfl rfl rfl rfl rfl trivial (Nat.le_refl _) ?_; rintro rs w' ⟨rfl, rfl | rfl⟩)
      all_goals first | rfl | omega | exact ⟨_, rfl⟩ | exact Or.inl rfl | exact Or.inr rfl | (simp only [Int.reduceToNat] at *; omega) | exact hC.sub [(0, (4, 0)), (1, (0, _)), (2, (4, 7)), (3, (0, _)), (4, (0, _))] ⟨rfl, rfl, rfl, rfl, rfl, trivial⟩ (ih _ _ (by omega) (by first | omega | (simp only [Int.reduceToNat] at *; omega)))
  repeat' first | refine hC.gw [5] _ rfl rfl ?_ | refine And.intro ?_ ?_ | exact True.intro | refine hC.iadd [5] rfl rfl (by first | omega | (simp only [Int.reduceToNat] at *; omega)) ?_ | refine hC.isub [5] rfl rfl (by first | omega | (simp only [Int.reduceToNat] at *; omega)) ?_ | refine hC.imul [5] rfl rfl (by first | omega | (simp only [Int.reduceToNat] at *; omega)) ?_ | refine hC.iinc [5] rfl rfl rfl rfl (by first | omega | (simp only [Int.reduceToNat] at *; omega)) ?_ | refine hC.pfw (W := cx_HX) [5] rfl rfl rfl rfl rfl rfl ?_ ?_ | refine hC.iaw (W := cx_HX) [5] rfl rfl rfl rfl ?_ ?_ | refine hC.law (W := cx_HX) [5] rfl rfl rfl rfl ?_ ?_ | refine hC.cpw (W := cx_HX) [5] rfl rfl rfl rfl rfl rfl ?_ | refine hC.cpl (W := cx_HX) [5] rfl rfl rfl rfl rfl rfl ?_ | refine hC.go [5] _ rfl rfl ?_ | (intro h; first | exact (h rfl).elim | (exfalso; cases h; done) | (dsimp only [kk_cP, kk_cN] at h) | skip)
  exact hC.sub [(0, (4, 0)), (1, (0, _)), (2, (4, 7)), (3, (0, _)), (4, (0, _))] ⟨rfl, rfl, rfl, rfl, rfl, trivial⟩ (k5 _ _ _ (Nat.lt_succ_self _) (by omega))
set_option maxRecDepth 100000 in
set_option maxHeartbeats 4000000 in
theorem hh_freeDeeds (l : Launch) (d : Nat) (O A : Nat → Nat → Int) (h : hh_c A) : kk_Ctr l d en_t_X2_freeDeeds [(4, 0)] (cx_H O A) (hh_Rd O A) := by
  have h2 := h.2.2
  refine kk_ctr en_hM (List.mem_of_getElem? (i := 62) rfl) rfl (Nat.le_of_ble_eq_true rfl) (fun K hC => ?_)
  have k4 : ∀ (n : Nat) (i : Int) (x : Int), (11 - i).toNat < n → (0 ≤ i ∧ i ≤ 10) → K 4 [(0, (4, 0)), (1, (0, x)), (2, (0, i))] [] (cx_H O A) := by
    intro n
    induction n with
    | zero => intro i x hz; exact absurd hz (Nat.not_lt_zero _)
    | succ n ih =>
      intro i x hn g0
      refine hC.go [] _ rfl rfl ?_
      repeat' first | refine hC.gw [4] _ rfl rfl ?_ | refine And.intro ?_ ?_ | exact True.intro | refine hC.iadd [4] rfl rfl (by first | omega | (simp only [Int.reduceToNat] at *; omega)) ?_ | refine hC.isub [4] rfl rfl (by first | omega | (simp only [Int.reduceToNat] at *; omega)) ?_ | refine hC.imul [4] rfl rfl (by first | omega | (simp only [Int.reduceToNat] at *; omega)) ?_ | refine hC.iinc [4] rfl rfl rfl rfl (by first | omega | (simp only [Int.reduceToNat] at *; omega)) ?_ | refine hC.pfw (W := cx_H) [4] rfl rfl rfl rfl rfl rfl ?_ ?_ | refine hC.iaw (W := cx_H) [4] rfl rfl rfl rfl ?_ ?_ | refine hC.law (W := cx_H) [4] rfl rfl rfl rfl ?_ ?_ | refine hC.cpw (W := cx_H) [4] rfl rfl rfl rfl rfl rfl ?_ | refine hC.cpl (W := cx_H) [4] rfl rfl rfl rfl rfl rfl ?_ | refine hC.go [4] _ rfl rfl ?_ | (intro h; first | exact (h rfl).elim | (exfalso; cases h; done) | (dsimp only [kk_cP, kk_cN] at h) | skip)
      all_goals first | rfl | omega | exact ⟨_, rfl⟩ | exact Or.inl rfl | exact Or.inr rfl | (simp only [Int.reduceToNat] at *; omega) | exact hC.sub [(0, (4, 0)), (1, (0, _)), (2, (0, _))] ⟨rfl, rfl, rfl, trivial⟩ (ih _ _ (by omega) (by first | omega | (simp only [Int.reduceToNat] at *; omega)))
  repeat' first | refine hC.gw [4] _ rfl rfl ?_ | refine And.intro ?_ ?_ | exact True.intro | refine hC.iadd [4] rfl rfl (by first | omega | (simp only [Int.reduceToNat] at *; omega)) ?_ | refine hC.isub [4] rfl rfl (by first | omega | (simp only [Int.reduceToNat] at *; omega)) ?_ | refine hC.imul [4] rfl rfl (by first | omega | (simp only [Int.reduceToNat] at *; omega)) ?_ | refine hC.iinc [4] rfl rfl rfl rfl (by first | omega | (simp only [Int.reduceToNat] at *; omega)) ?_ | refine hC.pfw (W := cx_H) [4] rfl rfl rfl rfl rfl rfl ?_ ?_ | refine hC.iaw (W := cx_H) [4] rfl rfl rfl rfl ?_ ?_ | refine hC.law (W := cx_H) [4] rfl rfl rfl rfl ?_ ?_ | refine hC.cpw (W := cx_H) [4] rfl rfl rfl rfl rfl rfl ?_ | refine hC.cpl (W := cx_H) [4] rfl rfl rfl rfl rfl rfl ?_ | refine hC.go [4] _ rfl rfl ?_ | (intro h; first | exact (h rfl).elim | (exfalso; cases h; done) | (dsimp only [kk_cP, kk_cN] at h) | skip)
  exact hC.sub [(0, (4, 0)), (1, (0, _)), (2, (0, _))] ⟨rfl, rfl, rfl, trivial⟩ (k4 _ _ _ (Nat.lt_succ_self _) (by omega))
set_option maxRecDepth 100000 in
set_option maxHeartbeats 4000000 in
theorem hh_quarrels (l : Launch) (d : Nat) (O A : Nat → Nat → Int) (c : Int) (h : hh_c A) (h0 : 0 ≤ c) (h9 : c ≤ 9) : kk_Ctr l d en_t_X2_quarrelsWith [(4, 0), (0, c)] (cx_H O A) (hh_Rd O A) := by
  have h2 := h.2.2
  refine kk_ctr en_hM (List.mem_of_getElem? (i := 63) rfl) rfl (Nat.le_of_ble_eq_true rfl) (fun K hC => ?_)
  have k4 : ∀ (n : Nat) (i : Int) (x : Int), (11 - i).toNat < n → (0 ≤ i ∧ i ≤ 10) → K 4 [(0, (4, 0)), (1, (0, c)), (2, (0, x)), (3, (0, i))] [] (cx_H O A) := by
    intro n
    induction n with
    | zero => intro i x hz; exact absurd hz (Nat.not_lt_zero _)
    | succ n ih =>
      intro i x hn g0
      refine hC.go [] _ rfl rfl ?_
      repeat' first | refine hC.gw [4] _ rfl rfl ?_ | refine And.intro ?_ ?_ | exact True.intro | refine hC.iadd [4] rfl rfl (by first | omega | (simp only [Int.reduceToNat] at *; omega)) ?_ | refine hC.isub [4] rfl rfl (by first | omega | (simp only [Int.reduceToNat] at *; omega)) ?_ | refine hC.imul [4] rfl rfl (by first | omega | (simp only [Int.reduceToNat] at *; omega)) ?_ | refine hC.iinc [4] rfl rfl rfl rfl (by first | omega | (simp only [Int.reduceToNat] at *; omega)) ?_ | refine hC.pfw (W := cx_H) [4] rfl rfl rfl rfl rfl rfl ?_ ?_ | refine hC.iaw (W := cx_H) [4] rfl rfl rfl rfl ?_ ?_ | refine hC.law (W := cx_H) [4] rfl rfl rfl rfl ?_ ?_ | refine hC.cpw (W := cx_H) [4] rfl rfl rfl rfl rfl rfl ?_ | refine hC.cpl (W := cx_H) [4] rfl rfl rfl rfl rfl rfl ?_ | refine hC.go [4] _ rfl rfl ?_ | (intro h; first | exact (h rfl).elim | (exfalso; cases h; done) | (dsimp only [kk_cP, kk_cN] at h) | skip)
      all_goals first | rfl | omega | exact ⟨_, rfl⟩ | exact Or.inl rfl | exact Or.inr rfl | (simp only [Int.reduceToNat] at *; omega) | exact hC.sub [(0, (4, 0)), (1, (0, _)), (2, (0, _)), (3, (0, _))] ⟨rfl, rfl, rfl, rfl, trivial⟩ (ih _ _ (by omega) (by first | omega | (simp only [Int.reduceToNat] at *; omega)))
  repeat' first | refine hC.gw [4] _ rfl rfl ?_ | refine And.intro ?_ ?_ | exact True.intro | refine hC.iadd [4] rfl rfl (by first | omega | (simp only [Int.reduceToNat] at *; omega)) ?_ | refine hC.isub [4] rfl rfl (by first | omega | (simp only [Int.reduceToNat] at *; omega)) ?_ | refine hC.imul [4] rfl rfl (by first | omega | (simp only [Int.reduceToNat] at *; omega)) ?_ | refine hC.iinc [4] rfl rfl rfl rfl (by first | omega | (simp only [Int.reduceToNat] at *; omega)) ?_ | refine hC.pfw (W := cx_H) [4] rfl rfl rfl rfl rfl rfl ?_ ?_ | refine hC.iaw (W := cx_H) [4] rfl rfl rfl rfl ?_ ?_ | refine hC.law (W := cx_H) [4] rfl rfl rfl rfl ?_ ?_ | refine hC.cpw (W := cx_H) [4] rfl rfl rfl rfl rfl rfl ?_ | refine hC.cpl (W := cx_H) [4] rfl rfl rfl rfl rfl rfl ?_ | refine hC.go [4] _ rfl rfl ?_ | (intro h; first | exact (h rfl).elim | (exfalso; cases h; done) | (dsimp only [kk_cP, kk_cN] at h) | skip)
  exact hC.sub [(0, (4, 0)), (1, (0, _)), (2, (0, _)), (3, (0, _))] ⟨rfl, rfl, rfl, rfl, trivial⟩ (k4 _ _ _ (Nat.lt_succ_self _) (by omega))
set_option maxRecDepth 100000 in
set_option maxHeartbeats 4000000 in
theorem hh_musts (l : Launch) (d : Nat) (O A : Nat → Nat → Int) (e : Int) (h : hh_c A) : kk_Ctr l (d + 1) en_t_X2_chaptersWithMust [(4, 0), (0, e)] (cx_H O A) (hh_Rd O A) := by
  have h2 := h.2.2
  refine kk_ctr en_hM (List.mem_of_getElem? (i := 83) rfl) rfl (Nat.le_of_ble_eq_true rfl) (fun K hC => ?_)
  have k4 : ∀ (n : Nat) (i : Int) (x : Int), (11 - i).toNat < n → (0 ≤ i ∧ i ≤ 10) → K 4 [(0, (4, 0)), (1, (0, e)), (2, (0, x)), (3, (0, i))] [] (cx_H O A) := by
    intro n
    induction n with
    | zero => intro i x hz; exact absurd hz (Nat.not_lt_zero _)
    | succ n ih =>
      intro i x hn g0
      refine hC.go [] _ rfl rfl ?_
      repeat' first | refine hC.gw [4] _ rfl rfl ?_ | refine And.intro ?_ ?_ | exact True.intro | refine hC.iadd [4] rfl rfl (by first | omega | (simp only [Int.reduceToNat] at *; omega)) ?_ | refine hC.isub [4] rfl rfl (by first | omega | (simp only [Int.reduceToNat] at *; omega)) ?_ | refine hC.imul [4] rfl rfl (by first | omega | (simp only [Int.reduceToNat] at *; omega)) ?_ | refine hC.iinc [4] rfl rfl rfl rfl (by first | omega | (simp only [Int.reduceToNat] at *; omega)) ?_ | refine hC.pfw (W := cx_H) [4] rfl rfl rfl rfl rfl rfl ?_ ?_ | refine hC.iaw (W := cx_H) [4] rfl rfl rfl rfl ?_ ?_ | refine hC.law (W := cx_H) [4] rfl rfl rfl rfl ?_ ?_ | refine hC.cpw (W := cx_H) [4] rfl rfl rfl rfl rfl rfl ?_ | refine hC.cpl (W := cx_H) [4] rfl rfl rfl rfl rfl rfl ?_ | refine hC.go [4] _ rfl rfl ?_ | (intro h; first | exact (h rfl).elim | (exfalso; cases h; done) | (dsimp only [kk_cP, kk_cN] at h) | skip) | (refine hC.call (xx_hasBit l _ _ _) [] rfl rfl rfl rfl rfl rfl trivial (Nat.le_refl _) ?_; rintro rs w' ⟨rfl, rfl | rfl⟩)
      all_goals first | rfl | omega | exact ⟨_, rfl⟩ | exact Or.inl rfl | exact Or.inr rfl | (simp only [Int.reduceToNat] at *; omega) | exact hC.sub [(0, (4, 0)), (1, (0, _)), (2, (0, _)), (3, (0, _))] ⟨rfl, rfl, rfl, rfl, trivial⟩ (ih _ _ (by omega) (by first | omega | (simp only [Int.reduceToNat] at *; omega)))
  repeat' first | refine hC.gw [4] _ rfl rfl ?_ | refine And.intro ?_ ?_ | exact True.intro | refine hC.iadd [4] rfl rfl (by first | omega | (simp only [Int.reduceToNat] at *; omega)) ?_ | refine hC.isub [4] rfl rfl (by first | omega | (simp only [Int.reduceToNat] at *; omega)) ?_ | refine hC.imul [4] rfl rfl (by first | omega | (simp only [Int.reduceToNat] at *; omega)) ?_ | refine hC.iinc [4] rfl rfl rfl rfl (by first | omega | (simp only [Int.reduceToNat] at *; omega)) ?_ | refine hC.pfw (W := cx_H) [4] rfl rfl rfl rfl rfl rfl ?_ ?_ | refine hC.iaw (W := cx_H) [4] rfl rfl rfl rfl ?_ ?_ | refine hC.law (W := cx_H) [4] rfl rfl rfl rfl ?_ ?_ | refine hC.cpw (W := cx_H) [4] rfl rfl rfl rfl rfl rfl ?_ | refine hC.cpl (W := cx_H) [4] rfl rfl rfl rfl rfl rfl ?_ | refine hC.go [4] _ rfl rfl ?_ | (intro h; first | exact (h rfl).elim | (exfalso; cases h; done) | (dsimp only [kk_cP, kk_cN] at h) | skip)
  exact hC.sub [(0, (4, 0)), (1, (0, _)), (2, (0, _)), (3, (0, _))] ⟨rfl, rfl, rfl, rfl, trivial⟩ (k4 _ _ _ (Nat.lt_succ_self _) (by omega))
set_option maxRecDepth 100000 in
set_option maxHeartbeats 4000000 in
theorem hh_mustBy (l : Launch) (d : Nat) (O A : Nat → Nat → Int) (e : Int) (h : hh_c A) : kk_Ctr l (d + 1) en_t_X2_mustByAny [(4, 0), (0, e)] (cx_H O A) (hh_Rd O A) := by
  have h2 := h.2.2
  refine kk_ctr en_hM (List.mem_of_getElem? (i := 71) rfl) rfl (Nat.le_of_ble_eq_true rfl) (fun K hC => ?_)
  have k4 : ∀ (n : Nat) (i : Int) (x : Int), (11 - i).toNat < n → (0 ≤ i ∧ i ≤ 10) → K 4 [(0, (4, 0)), (1, (0, e)), (2, (0, x)), (3, (0, i))] [] (cx_H O A) := by
    intro n
    induction n with
    | zero => intro i x hz; exact absurd hz (Nat.not_lt_zero _)
    | succ n ih =>
      intro i x hn g0
      refine hC.go [] _ rfl rfl ?_
      repeat' first | refine hC.gw [4] _ rfl rfl ?_ | refine And.intro ?_ ?_ | exact True.intro | refine hC.iadd [4] rfl rfl (by first | omega | (simp only [Int.reduceToNat] at *; omega)) ?_ | refine hC.isub [4] rfl rfl (by first | omega | (simp only [Int.reduceToNat] at *; omega)) ?_ | refine hC.imul [4] rfl rfl (by first | omega | (simp only [Int.reduceToNat] at *; omega)) ?_ | refine hC.iinc [4] rfl rfl rfl rfl (by first | omega | (simp only [Int.reduceToNat] at *; omega)) ?_ | refine hC.pfw (W := cx_H) [4] rfl rfl rfl rfl rfl rfl ?_ ?_ | refine hC.iaw (W := cx_H) [4] rfl rfl rfl rfl ?_ ?_ | refine hC.law (W := cx_H) [4] rfl rfl rfl rfl ?_ ?_ | refine hC.cpw (W := cx_H) [4] rfl rfl rfl rfl rfl rfl ?_ | refine hC.cpl (W := cx_H) [4] rfl rfl rfl rfl rfl rfl ?_ | refine hC.go [4] _ rfl rfl ?_ | (intro h; first | exact (h rfl).elim | (exfalso; cases h; done) | (dsimp only [kk_cP, kk_cN] at h) | skip) | (refine hC.call (xx_hasBit l _ _ _) [] rfl rfl rfl rfl rfl rfl trivial (Nat.le_refl _) ?_; rintro rs w' ⟨rfl, rfl | rfl⟩)
      all_goals first | rfl | omega | exact ⟨_, rfl⟩ | exact Or.inl rfl | exact Or.inr rfl | (simp only [Int.reduceToNat] at *; omega) | exact hC.sub [(0, (4, 0)), (1, (0, _)), (2, (0, _)), (3, (0, _))] ⟨rfl, rfl, rfl, rfl, trivial⟩ (ih _ _ (by omega) (by first | omega | (simp only [Int.reduceToNat] at *; omega)))
  repeat' first | refine hC.gw [4] _ rfl rfl ?_ | refine And.intro ?_ ?_ | exact True.intro | refine hC.iadd [4] rfl rfl (by first | omega | (simp only [Int.reduceToNat] at *; omega)) ?_ | refine hC.isub [4] rfl rfl (by first | omega | (simp only [Int.reduceToNat] at *; omega)) ?_ | refine hC.imul [4] rfl rfl (by first | omega | (simp only [Int.reduceToNat] at *; omega)) ?_ | refine hC.iinc [4] rfl rfl rfl rfl (by first | omega | (simp only [Int.reduceToNat] at *; omega)) ?_ | refine hC.pfw (W := cx_H) [4] rfl rfl rfl rfl rfl rfl ?_ ?_ | refine hC.iaw (W := cx_H) [4] rfl rfl rfl rfl ?_ ?_ | refine hC.law (W := cx_H) [4] rfl rfl rfl rfl ?_ ?_ | refine hC.cpw (W := cx_H) [4] rfl rfl rfl rfl rfl rfl ?_ | refine hC.cpl (W := cx_H) [4] rfl rfl rfl rfl rfl rfl ?_ | refine hC.go [4] _ rfl rfl ?_ | (intro h; first | exact (h rfl).elim | (exfalso; cases h; done) | (dsimp only [kk_cP, kk_cN] at h) | skip)
  exact hC.sub [(0, (4, 0)), (1, (0, _)), (2, (0, _)), (3, (0, _))] ⟨rfl, rfl, rfl, rfl, trivial⟩ (k4 _ _ _ (Nat.lt_succ_self _) (by omega))
theorem kk_shl1 {c : Int} (h0 : 0 ≤ c) (h1 : c ≤ 10) : 1 ≤ kk_i2 6 1 c ∧ kk_i2 6 1 c ≤ 1024 := by
  rcases (show c = 0 ∨ c = 1 ∨ c = 2 ∨ c = 3 ∨ c = 4 ∨ c = 5 ∨ c = 6 ∨ c = 7 ∨ c = 8 ∨ c = 9 ∨ c = 10 by omega) with rfl | rfl | rfl | rfl | rfl | rfl | rfl | rfl | rfl | rfl | rfl <;> decide +kernel
set_option maxRecDepth 100000 in
set_option maxHeartbeats 4000000 in
theorem hh_leastCover (l : Launch) (d : Nat) (O A : Nat → Nat → Int) (h : hh_c A) : kk_Ctr l (d + 2) en_t_X2_leastCover [(4, 0)] (cx_H O A) (hh_Rd O A) := by
  have h2 := h.2.2
  have hs := kk_shl1 h2.1 h2.2
  have hs' : 1 ≤ kk_i2 6 1 (A 1 (Int.toNat 2)) ∧ kk_i2 6 1 (A 1 (Int.toNat 2)) ≤ 1024 := hs
  refine kk_ctr en_hM (List.mem_of_getElem? (i := 64) rfl) rfl (Nat.le_of_ble_eq_true rfl) (fun K hC => ?_)
  have k22 : ∀ (n : Nat) (i : Int) (a : Int) (b : Int) (c : Int), (1025 - i).toNat < n → (0 ≤ i ∧ i ≤ 1024 ∧ a ≤ 1023) → K 22 [(0, (4, 0)), (1, (0, a)), (2, (0, b)), (3, (0, c)), (4, (0, i))] [] (cx_H O A) := by
    intro n
    induction n with
    | zero => intro i a b c hz; exact absurd hz (Nat.not_lt_zero _)
    | succ n ih =>
      intro i a b c hn g0
      refine hC.go [] _ rfl rfl ?_
      repeat' first | refine hC.gw [22] _ rfl rfl ?_ | refine And.intro ?_ ?_ | exact True.intro | refine hC.iadd [22] rfl rfl (by first | omega | (simp only [Int.reduceToNat] at *; omega)) ?_ | refine hC.isub [22] rfl rfl (by first | omega | (simp only [Int.reduceToNat] at *; omega)) ?_ | refine hC.imul [22] rfl rfl (by first | omega | (simp only [Int.reduceToNat] at *; omega)) ?_ | refine hC.iinc [22] rfl rfl rfl rfl (by first | omega | (simp only [Int.reduceToNat] at *; omega)) ?_ | refine hC.pfw (W := cx_H) [22] rfl rfl rfl rfl rfl rfl ?_ ?_ | refine hC.iaw (W := cx_H) [22] rfl rfl rfl rfl ?_ ?_ | refine hC.law (W := cx_H) [22] rfl rfl rfl rfl ?_ ?_ | refine hC.cpw (W := cx_H) [22] rfl rfl rfl rfl rfl rfl ?_ | refine hC.cpl (W := cx_H) [22] rfl rfl rfl rfl rfl rfl ?_ | refine hC.go [22] _ rfl rfl ?_ | (intro h; first | exact (h rfl).elim | (exfalso; cases h; done) | (dsimp only [kk_cP, kk_cN] at h) | skip) | (refine hC.same (hh_mustBy l _ _ _ _ (by assumption)) rfl rfl rfl rfl (Nat.le_refl _) ?_; rintro rs w' ⟨rfl, xw, rfl⟩) | (refine hC.call (jj_bits l _ _) [] rfl rfl rfl rfl rfl rfl trivial (Nat.le_refl _) ?_; rintro rs w' ⟨rfl, xb, rfl⟩)
      all_goals first | rfl | omega | exact ⟨_, rfl⟩ | exact Or.inl rfl | exact Or.inr rfl | (simp only [Int.reduceToNat] at *; omega) | exact hC.sub [(0, (4, 0)), (1, (0, _)), (2, (0, _)), (3, (0, _)), (4, (0, _))] ⟨rfl, rfl, rfl, rfl, rfl, trivial⟩ (ih _ _ _ _ (by omega) (by omega))
  repeat' first | refine hC.gw [22] _ rfl rfl ?_ | refine And.intro ?_ ?_ | exact True.intro | refine hC.iadd [22] rfl rfl (by first | omega | (simp only [Int.reduceToNat] at *; omega)) ?_ | refine hC.isub [22] rfl rfl (by first | omega | (simp only [Int.reduceToNat] at *; omega)) ?_ | refine hC.imul [22] rfl rfl (by first | omega | (simp only [Int.reduceToNat] at *; omega)) ?_ | refine hC.iinc [22] rfl rfl rfl rfl (by first | omega | (simp only [Int.reduceToNat] at *; omega)) ?_ | refine hC.pfw (W := cx_H) [22] rfl rfl rfl rfl rfl rfl ?_ ?_ | refine hC.iaw (W := cx_H) [22] rfl rfl rfl rfl ?_ ?_ | refine hC.law (W := cx_H) [22] rfl rfl rfl rfl ?_ ?_ | refine hC.cpw (W := cx_H) [22] rfl rfl rfl rfl rfl rfl ?_ | refine hC.cpl (W := cx_H) [22] rfl rfl rfl rfl rfl rfl ?_ | refine hC.go [22] _ rfl rfl ?_ | (intro h; first | exact (h rfl).elim | (exfalso; cases h; done) | (dsimp only [kk_cP, kk_cN] at h) | skip) | (refine hC.same (hh_mustBy l _ _ _ _ (by assumption)) rfl rfl rfl rfl (Nat.le_refl _) ?_; rintro rs w' ⟨rfl, xw, rfl⟩)
  all_goals first | rfl | omega | exact ⟨_, rfl⟩ | exact Or.inl rfl | exact Or.inr rfl | (simp only [Int.reduceToNat] at *; omega) | exact hC.sub [(0, (4, 0)), (1, (0, _)), (2, (0, _)), (3, (0, _)), (4, (0, _))] ⟨rfl, rfl, rfl, rfl, rfl, trivial⟩ (k22 _ _ _ _ _ (Nat.lt_succ_self _) (by omega))
set_option maxRecDepth 100000 in
set_option maxHeartbeats 4000000 in
theorem hh_mostLeft (l : Launch) (d : Nat) (O A : Nat → Nat → Int) (e c : Int) (h : hh_c A) : kk_Ctr l (d + 1) en_t_X2_mostLeftBySeeing [(4, 0), (0, e), (0, c)] (cx_H O A) (hh_Rd O A) := by
  have h2 := h.2.2
  refine kk_ctr en_hM (List.mem_of_getElem? (i := 74) rfl) rfl (Nat.le_of_ble_eq_true rfl) (fun K hC => ?_)
  have k8 : ∀ (n : Nat) (i : Int) (x : Int) (y : Int), (11 - i).toNat < n → (0 ≤ i ∧ i ≤ 10) → K 8 [(0, (4, 0)), (1, (0, e)), (2, (0, c)), (3, (0, x)), (4, (0, y)), (5, (0, i))] [] (cx_H O A) := by
    intro n
    induction n with
    | zero => intro i x y hz; exact absurd hz (Nat.not_lt_zero _)
    | succ n ih =>
      intro i x y hn g0
      refine hC.go [] _ rfl rfl ?_
      repeat' first | refine hC.gw [8, 64] _ rfl rfl ?_ | refine And.intro ?_ ?_ | exact True.intro | refine hC.iadd [8, 64] rfl rfl (by first | omega | (simp only [Int.reduceToNat] at *; omega)) ?_ | refine hC.isub [8, 64] rfl rfl (by first | omega | (simp only [Int.reduceToNat] at *; omega)) ?_ | refine hC.imul [8, 64] rfl rfl (by first | omega | (simp only [Int.reduceToNat] at *; omega)) ?_ | refine hC.iinc [8, 64] rfl rfl rfl rfl (by first | omega | (simp only [Int.reduceToNat] at *; omega)) ?_ | refine hC.pfw (W := cx_H) [8, 64] rfl rfl rfl rfl rfl rfl ?_ ?_ | refine hC.iaw (W := cx_H) [8, 64] rfl rfl rfl rfl ?_ ?_ | refine hC.law (W := cx_H) [8, 64] rfl rfl rfl rfl ?_ ?_ | refine hC.cpw (W := cx_H) [8, 64] rfl rfl rfl rfl rfl rfl ?_ | refine hC.cpl (W := cx_H) [8, 64] rfl rfl rfl rfl rfl rfl ?_ | refine hC.go [8, 64] _ rfl rfl ?_ | (intro h; first | exact (h rfl).elim | (exfalso; cases h; done) | (dsimp only [kk_cP, kk_cN] at h) | skip) | (refine hC.call (xx_hasBit l _ _ _) [] rfl rfl rfl rfl rfl rfl trivial (Nat.le_refl _) ?_; rintro rs w' ⟨rfl, rfl | rfl⟩)
      all_goals first | omega | (simp only [Int.reduceToNat] at *; omega) | exact hC.sub [(0, (4, 0)), (1, (0, _)), (2, (0, _)), (3, (0, _)), (4, (0, _)), (5, (0, _))] ⟨rfl, rfl, rfl, rfl, rfl, rfl, trivial⟩ (ih _ _ _ (by omega) (by first | omega | (simp only [Int.reduceToNat] at *; omega))) | skip
      repeat' first | refine hC.gw [] _ rfl rfl ?_ | refine And.intro ?_ ?_ | exact True.intro | refine hC.iadd [] rfl rfl (by first | omega | (simp only [Int.reduceToNat] at *; omega)) ?_ | refine hC.isub [] rfl rfl (by first | omega | (simp only [Int.reduceToNat] at *; omega)) ?_ | refine hC.imul [] rfl rfl (by first | omega | (simp only [Int.reduceToNat] at *; omega)) ?_ | refine hC.iinc [] rfl rfl rfl rfl (by first | omega | (simp only [Int.reduceToNat] at *; omega)) ?_ | refine hC.pfw (W := cx_H) [] rfl rfl rfl rfl rfl rfl ?_ ?_ | refine hC.iaw (W := cx_H) [] rfl rfl rfl rfl ?_ ?_ | refine hC.law (W := cx_H) [] rfl rfl rfl rfl ?_ ?_ | refine hC.cpw (W := cx_H) [] rfl rfl rfl rfl rfl rfl ?_ | refine hC.cpl (W := cx_H) [] rfl rfl rfl rfl rfl rfl ?_ | refine hC.go [] _ rfl rfl ?_ | (intro h; first | exact (h rfl).elim | (exfalso; cases h; done) | (dsimp only [kk_cP, kk_cN] at h) | skip) | (refine hC.call (jj_bits l _ _) [] rfl rfl rfl rfl rfl rfl trivial (Nat.le_refl _) ?_; rintro rs w' ⟨rfl, xb, rfl⟩)
      all_goals first | rfl | omega | exact ⟨_, rfl⟩ | exact Or.inl rfl | exact Or.inr rfl | (simp only [Int.reduceToNat] at *; omega)
  repeat' first | refine hC.gw [8] _ rfl rfl ?_ | refine And.intro ?_ ?_ | exact True.intro | refine hC.iadd [8] rfl rfl (by first | omega | (simp only [Int.reduceToNat] at *; omega)) ?_ | refine hC.isub [8] rfl rfl (by first | omega | (simp only [Int.reduceToNat] at *; omega)) ?_ | refine hC.imul [8] rfl rfl (by first | omega | (simp only [Int.reduceToNat] at *; omega)) ?_ | refine hC.iinc [8] rfl rfl rfl rfl (by first | omega | (simp only [Int.reduceToNat] at *; omega)) ?_ | refine hC.pfw (W := cx_H) [8] rfl rfl rfl rfl rfl rfl ?_ ?_ | refine hC.iaw (W := cx_H) [8] rfl rfl rfl rfl ?_ ?_ | refine hC.law (W := cx_H) [8] rfl rfl rfl rfl ?_ ?_ | refine hC.cpw (W := cx_H) [8] rfl rfl rfl rfl rfl rfl ?_ | refine hC.cpl (W := cx_H) [8] rfl rfl rfl rfl rfl rfl ?_ | refine hC.go [8] _ rfl rfl ?_ | (intro h; first | exact (h rfl).elim | (exfalso; cases h; done) | (dsimp only [kk_cP, kk_cN] at h) | skip)
  exact hC.sub [(0, (4, 0)), (1, (0, _)), (2, (0, _)), (3, (0, _)), (4, (0, _)), (5, (0, _))] ⟨rfl, rfl, rfl, rfl, rfl, rfl, trivial⟩ (k8 _ _ _ _ (Nat.lt_succ_self _) (by omega))
set_option maxRecDepth 100000 in
set_option maxHeartbeats 4000000 in
theorem hh_deedToWatch (l : Launch) (d : Nat) (O A : Nat → Nat → Int) (c : Int) (h : hh_c A) : kk_Ctr l (d + 2) en_t_X2_deedToWatch [(4, 0), (0, c)] (cx_H O A) (hh_Rd O A) := by
  have h2 := h.1
  refine kk_ctr en_hM (List.mem_of_getElem? (i := 67) rfl) rfl (Nat.le_of_ble_eq_true rfl) (fun K hC => ?_)
  have k8 : ∀ (n : Nat) (i : Int) (x : Int) (y : Int), (9 - i).toNat < n → (0 ≤ i ∧ i ≤ 8) → K 8 [(0, (4, 0)), (1, (0, c)), (2, (0, x)), (3, (0, y)), (4, (0, i))] [] (cx_H O A) := by
    intro n
    induction n with
    | zero => intro i x y hz; exact absurd hz (Nat.not_lt_zero _)
    | succ n ih =>
      intro i x y hn g0
      refine hC.go [] _ rfl rfl ?_
      repeat' first | refine hC.gw [8] _ rfl rfl ?_ | refine And.intro ?_ ?_ | exact True.intro | refine hC.iadd [8] rfl rfl (by first | omega | (simp only [Int.reduceToNat] at *; omega)) ?_ | refine hC.isub [8] rfl rfl (by first | omega | (simp only [Int.reduceToNat] at *; omega)) ?_ | refine hC.imul [8] rfl rfl (by first | omega | (simp only [Int.reduceToNat] at *; omega)) ?_ | refine hC.iinc [8] rfl rfl rfl rfl (by first | omega | (simp only [Int.reduceToNat] at *; omega)) ?_ | refine hC.pfw (W := cx_H) [8] rfl rfl rfl rfl rfl rfl ?_ ?_ | refine hC.iaw (W := cx_H) [8] rfl rfl rfl rfl ?_ ?_ | refine hC.law (W := cx_H) [8] rfl rfl rfl rfl ?_ ?_ | refine hC.cpw (W := cx_H) [8] rfl rfl rfl rfl rfl rfl ?_ | refine hC.cpl (W := cx_H) [8] rfl rfl rfl rfl rfl rfl ?_ | refine hC.go [8] _ rfl rfl ?_ | (intro h; first | exact (h rfl).elim | (exfalso; cases h; done) | (dsimp only [kk_cP, kk_cN] at h) | skip) | (refine hC.same (hh_mostLeft l _ _ _ _ _ (by assumption)) rfl rfl rfl rfl (Nat.le_refl _) ?_; rintro rs w' ⟨rfl, xw, rfl⟩)
      all_goals first | rfl | omega | exact ⟨_, rfl⟩ | exact Or.inl rfl | exact Or.inr rfl | (simp only [Int.reduceToNat] at *; omega) | exact hC.sub [(0, (4, 0)), (1, (0, _)), (2, (0, _)), (3, (0, _)), (4, (0, _))] ⟨rfl, rfl, rfl, rfl, rfl, trivial⟩ (ih _ _ _ (by omega) (by first | omega | (simp only [Int.reduceToNat] at *; omega)))
  repeat' first | refine hC.gw [8] _ rfl rfl ?_ | refine And.intro ?_ ?_ | exact True.intro | refine hC.iadd [8] rfl rfl (by first | omega | (simp only [Int.reduceToNat] at *; omega)) ?_ | refine hC.isub [8] rfl rfl (by first | omega | (simp only [Int.reduceToNat] at *; omega)) ?_ | refine hC.imul [8] rfl rfl (by first | omega | (simp only [Int.reduceToNat] at *; omega)) ?_ | refine hC.iinc [8] rfl rfl rfl rfl (by first | omega | (simp only [Int.reduceToNat] at *; omega)) ?_ | refine hC.pfw (W := cx_H) [8] rfl rfl rfl rfl rfl rfl ?_ ?_ | refine hC.iaw (W := cx_H) [8] rfl rfl rfl rfl ?_ ?_ | refine hC.law (W := cx_H) [8] rfl rfl rfl rfl ?_ ?_ | refine hC.cpw (W := cx_H) [8] rfl rfl rfl rfl rfl rfl ?_ | refine hC.cpl (W := cx_H) [8] rfl rfl rfl rfl rfl rfl ?_ | refine hC.go [8] _ rfl rfl ?_ | (intro h; first | exact (h rfl).elim | (exfalso; cases h; done) | (dsimp only [kk_cP, kk_cN] at h) | skip)
  exact hC.sub [(0, (4, 0)), (1, (0, _)), (2, (0, _)), (3, (0, _)), (4, (0, _))] ⟨rfl, rfl, rfl, rfl, rfl, trivial⟩ (k8 _ _ _ _ (Nat.lt_succ_self _) (by omega))
