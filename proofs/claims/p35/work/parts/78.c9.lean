/-! THE CLASS, 9: a life, read alone -/
abbrev ll_h : List Nat := [8, 9, 10, 11, 12, 13, 14]
def ll_d (day holds pd : Int) : Prop := 0 ≤ pd ∧ 0 ≤ day ∧ ((holds = -1 ∧ pd ≤ day ∧ day ≤ 400) ∨ (holds ≠ -1 ∧ pd ≤ day + 1 ∧ day ≤ 399))
def ll_I (O A : Nat → Nat → Int) : Prop := hh_c (cc_in [8, 9, 10, 11, 12, 13, 14] A) ∧ (O 8 7 = 0 ∨ O 8 7 = 1) ∧ (∀ j, j < 32 → 0 ≤ A 6 j) ∧ ll_d (O 0 9) (O 0 10) (O 0 8)
set_option maxRecDepth 100000 in
set_option maxHeartbeats 4000000 in
theorem ll_I.c {O A : Nat → Nat → Int} (h : ll_I O A) : (0 ≤ A 9 0 ∧ A 9 0 ≤ 8) ∧ (0 ≤ A 9 1 ∧ A 9 1 ≤ 4) ∧ (0 ≤ A 9 2 ∧ A 9 2 ≤ 10) := h.1
def ll_Rd (O A : Nat → Nat → Int) : List en_V → List kk_C → Prop := fun rs w' => w' = cx_L O A ∧ ∃ x, rs = [(0, x)]
set_option maxRecDepth 100000 in
set_option maxHeartbeats 4000000 in
theorem ll_slips (l : Launch) (d : Nat) (O A : Nat → Nat → Int) (hI : ll_I O A) : kk_Ctr l d en_t_X4_slipsInBox [(4, 0)] (cx_L O A) (ll_Rd O A) := by
  obtain ⟨⟨c1, c2⟩, ⟨c3, c4⟩, c5, c6⟩ := hI.c
  refine kk_ctr en_hM (List.mem_of_getElem? (i := 89) rfl) rfl (Nat.le_of_ble_eq_true rfl) (fun K hC => ?_)
  have k4 : ∀ (n : Nat) (i : Int) (x : Int), (11 - i).toNat < n → (0 ≤ i ∧ i ≤ 10) → K 4 [(0, (4, 0)), (1, (0, x)), (2, (0, i))] [] (cx_L O A) := by
    intro n
    induction n with
    | zero => intro i x hz; exact absurd hz (Nat.not_lt_zero _)
    | succ n ih =>
      intro i x hn g0
      refine hC.go [] _ rfl rfl ?_
      repeat' first | refine hC.gw [4] _ rfl rfl ?_ | refine And.intro ?_ ?_ | exact True.intro | refine hC.iadd [4] rfl rfl (by first | omega | (simp only [Int.reduceToNat] at *; omega)) ?_ | refine hC.isub [4] rfl rfl (by first | omega | (simp only [Int.reduceToNat] at *; omega)) ?_ | refine hC.imul [4] rfl rfl (by first | omega | (simp only [Int.reduceToNat] at *; omega)) ?_ | refine hC.iinc [4] rfl rfl rfl rfl (by first | omega | (simp only [Int.reduceToNat] at *; omega)) ?_ | refine hC.pfw (W := cx_L) [4] rfl rfl rfl rfl rfl rfl ?_ ?_ | refine hC.iaw (W := cx_L) [4] rfl rfl rfl rfl ?_ ?_ | refine hC.law (W := cx_L) [4] rfl rfl rfl rfl ?_ ?_ | refine hC.cpw (W := cx_L) [4] rfl rfl rfl rfl rfl rfl ?_ | refine hC.cpl (W := cx_L) [4] rfl rfl rfl rfl rfl rfl ?_ | refine hC.go [4] _ rfl rfl ?_ | (intro h; first | exact (h rfl).elim | (exfalso; cases h; done) | (dsimp only [kk_cP, kk_cN] at h) | skip)
      all_goals first | rfl | omega | exact ⟨_, rfl⟩ | exact Or.inl rfl | exact Or.inr rfl | (simp only [Int.reduceToNat] at *; omega) | exact hC.sub [(0, (4, 0)), (1, (0, _)), (2, (0, _))] ⟨rfl, rfl, rfl, trivial⟩ (ih _ _ (by omega) (by first | omega | (simp only [Int.reduceToNat] at *; omega)))
  repeat' first | refine hC.gw [4] _ rfl rfl ?_ | refine And.intro ?_ ?_ | exact True.intro | refine hC.iadd [4] rfl rfl (by first | omega | (simp only [Int.reduceToNat] at *; omega)) ?_ | refine hC.isub [4] rfl rfl (by first | omega | (simp only [Int.reduceToNat] at *; omega)) ?_ | refine hC.imul [4] rfl rfl (by first | omega | (simp only [Int.reduceToNat] at *; omega)) ?_ | refine hC.iinc [4] rfl rfl rfl rfl (by first | omega | (simp only [Int.reduceToNat] at *; omega)) ?_ | refine hC.pfw (W := cx_L) [4] rfl rfl rfl rfl rfl rfl ?_ ?_ | refine hC.iaw (W := cx_L) [4] rfl rfl rfl rfl ?_ ?_ | refine hC.law (W := cx_L) [4] rfl rfl rfl rfl ?_ ?_ | refine hC.cpw (W := cx_L) [4] rfl rfl rfl rfl rfl rfl ?_ | refine hC.cpl (W := cx_L) [4] rfl rfl rfl rfl rfl rfl ?_ | refine hC.go [4] _ rfl rfl ?_ | (intro h; first | exact (h rfl).elim | (exfalso; cases h; done) | (dsimp only [kk_cP, kk_cN] at h) | skip)
  exact hC.sub [(0, (4, 0)), (1, (0, _)), (2, (0, _))] ⟨rfl, rfl, rfl, trivial⟩ (k4 _ _ _ (Nat.lt_succ_self _) (by omega))
set_option maxRecDepth 100000 in
set_option maxHeartbeats 4000000 in
theorem ll_must (l : Launch) (d : Nat) (O A : Nat → Nat → Int) : kk_Ctr l d en_t_X4_mustToday [(4, 0)] (cx_L O A) (ll_Rd O A) := by
  refine kk_ctr en_hM (List.mem_of_getElem? (i := 87) rfl) rfl (Nat.le_of_ble_eq_true rfl) (fun K hC => ?_)
  repeat' first | refine hC.gw [] _ rfl rfl ?_ | refine And.intro ?_ ?_ | exact True.intro | refine hC.iadd [] rfl rfl (by first | omega | (simp only [Int.reduceToNat] at *; omega)) ?_ | refine hC.isub [] rfl rfl (by first | omega | (simp only [Int.reduceToNat] at *; omega)) ?_ | refine hC.imul [] rfl rfl (by first | omega | (simp only [Int.reduceToNat] at *; omega)) ?_ | refine hC.iinc [] rfl rfl rfl rfl (by first | omega | (simp only [Int.reduceToNat] at *; omega)) ?_ | refine hC.pfw (W := cx_L) [] rfl rfl rfl rfl rfl rfl ?_ ?_ | refine hC.iaw (W := cx_L) [] rfl rfl rfl rfl ?_ ?_ | refine hC.law (W := cx_L) [] rfl rfl rfl rfl ?_ ?_ | refine hC.cpw (W := cx_L) [] rfl rfl rfl rfl rfl rfl ?_ | refine hC.cpl (W := cx_L) [] rfl rfl rfl rfl rfl rfl ?_ | refine hC.go [] _ rfl rfl ?_ | (intro h; first | exact (h rfl).elim | (exfalso; cases h; done) | (dsimp only [kk_cP, kk_cN] at h) | skip)
  all_goals first | rfl | omega | exact ⟨_, rfl⟩ | exact Or.inl rfl | exact Or.inr rfl | (simp only [Int.reduceToNat] at *; omega)
set_option maxRecDepth 100000 in
set_option maxHeartbeats 4000000 in
theorem ll_barred (l : Launch) (d : Nat) (O A : Nat → Nat → Int) : kk_Ctr l d en_t_X4_barredToday [(4, 0)] (cx_L O A) (ll_Rd O A) := by
  refine kk_ctr en_hM (List.mem_of_getElem? (i := 88) rfl) rfl (Nat.le_of_ble_eq_true rfl) (fun K hC => ?_)
  repeat' first | refine hC.gw [] _ rfl rfl ?_ | refine And.intro ?_ ?_ | exact True.intro | refine hC.iadd [] rfl rfl (by first | omega | (simp only [Int.reduceToNat] at *; omega)) ?_ | refine hC.isub [] rfl rfl (by first | omega | (simp only [Int.reduceToNat] at *; omega)) ?_ | refine hC.imul [] rfl rfl (by first | omega | (simp only [Int.reduceToNat] at *; omega)) ?_ | refine hC.iinc [] rfl rfl rfl rfl (by first | omega | (simp only [Int.reduceToNat] at *; omega)) ?_ | refine hC.pfw (W := cx_L) [] rfl rfl rfl rfl rfl rfl ?_ ?_ | refine hC.iaw (W := cx_L) [] rfl rfl rfl rfl ?_ ?_ | refine hC.law (W := cx_L) [] rfl rfl rfl rfl ?_ ?_ | refine hC.cpw (W := cx_L) [] rfl rfl rfl rfl rfl rfl ?_ | refine hC.cpl (W := cx_L) [] rfl rfl rfl rfl rfl rfl ?_ | refine hC.go [] _ rfl rfl ?_ | (intro h; first | exact (h rfl).elim | (exfalso; cases h; done) | (dsimp only [kk_cP, kk_cN] at h) | skip)
  all_goals first | rfl | omega | exact ⟨_, rfl⟩ | exact Or.inl rfl | exact Or.inr rfl | (simp only [Int.reduceToNat] at *; omega)
set_option maxRecDepth 100000 in
set_option maxHeartbeats 4000000 in
theorem ll_deedsLeft (l : Launch) (d : Nat) (O A : Nat → Nat → Int) (m : Int) (hI : ll_I O A) (m0 : 0 ≤ m) (m3 : m ≤ 3) : kk_Ctr l d en_t_X4_deedsLeft [(4, 0), (0, m)] (cx_L O A) (ll_Rd O A) := by
  obtain ⟨⟨c1, c2⟩, ⟨c3, c4⟩, c5, c6⟩ := hI.c
  refine kk_ctr en_hM (List.mem_of_getElem? (i := 105) rfl) rfl (Nat.le_of_ble_eq_true rfl) (fun K hC => ?_)
  have k4 : ∀ (n : Nat) (i : Int) (x : Int), (9 - i).toNat < n → (0 ≤ i ∧ i ≤ 8) → K 4 [(0, (4, 0)), (1, (0, m)), (2, (0, x)), (3, (0, i))] [] (cx_L O A) := by
    intro n
    induction n with
    | zero => intro i x hz; exact absurd hz (Nat.not_lt_zero _)
    | succ n ih =>
      intro i x hn g0
      refine hC.go [] _ rfl rfl ?_
      repeat' first | refine hC.gw [4] _ rfl rfl ?_ | refine And.intro ?_ ?_ | exact True.intro | refine hC.iadd [4] rfl rfl (by first | omega | (simp only [Int.reduceToNat] at *; omega)) ?_ | refine hC.isub [4] rfl rfl (by first | omega | (simp only [Int.reduceToNat] at *; omega)) ?_ | refine hC.imul [4] rfl rfl (by first | omega | (simp only [Int.reduceToNat] at *; omega)) ?_ | refine hC.iinc [4] rfl rfl rfl rfl (by first | omega | (simp only [Int.reduceToNat] at *; omega)) ?_ | refine hC.pfw (W := cx_L) [4] rfl rfl rfl rfl rfl rfl ?_ ?_ | refine hC.iaw (W := cx_L) [4] rfl rfl rfl rfl ?_ ?_ | refine hC.law (W := cx_L) [4] rfl rfl rfl rfl ?_ ?_ | refine hC.cpw (W := cx_L) [4] rfl rfl rfl rfl rfl rfl ?_ | refine hC.cpl (W := cx_L) [4] rfl rfl rfl rfl rfl rfl ?_ | refine hC.go [4] _ rfl rfl ?_ | (intro h; first | exact (h rfl).elim | (exfalso; cases h; done) | (dsimp only [kk_cP, kk_cN] at h) | skip)
      all_goals first | rfl | omega | exact ⟨_, rfl⟩ | exact Or.inl rfl | exact Or.inr rfl | (simp only [Int.reduceToNat] at *; omega) | exact hC.sub [(0, (4, 0)), (1, (0, _)), (2, (0, _)), (3, (0, _))] ⟨rfl, rfl, rfl, rfl, trivial⟩ (ih _ _ (by omega) (by first | omega | (simp only [Int.reduceToNat] at *; omega)))
  repeat' first | refine hC.gw [4] _ rfl rfl ?_ | refine And.intro ?_ ?_ | exact True.intro | refine hC.iadd [4] rfl rfl (by first | omega | (simp only [Int.reduceToNat] at *; omega)) ?_ | refine hC.isub [4] rfl rfl (by first | omega | (simp only [Int.reduceToNat] at *; omega)) ?_ | refine hC.imul [4] rfl rfl (by first | omega | (simp only [Int.reduceToNat] at *; omega)) ?_ | refine hC.iinc [4] rfl rfl rfl rfl (by first | omega | (simp only [Int.reduceToNat] at *; omega)) ?_ | refine hC.pfw (W := cx_L) [4] rfl rfl rfl rfl rfl rfl ?_ ?_ | refine hC.iaw (W := cx_L) [4] rfl rfl rfl rfl ?_ ?_ | refine hC.law (W := cx_L) [4] rfl rfl rfl rfl ?_ ?_ | refine hC.cpw (W := cx_L) [4] rfl rfl rfl rfl rfl rfl ?_ | refine hC.cpl (W := cx_L) [4] rfl rfl rfl rfl rfl rfl ?_ | refine hC.go [4] _ rfl rfl ?_ | (intro h; first | exact (h rfl).elim | (exfalso; cases h; done) | (dsimp only [kk_cP, kk_cN] at h) | skip)
  exact hC.sub [(0, (4, 0)), (1, (0, _)), (2, (0, _)), (3, (0, _))] ⟨rfl, rfl, rfl, rfl, trivial⟩ (k4 _ _ _ (Nat.lt_succ_self _) (by omega))
set_option maxRecDepth 100000 in
set_option maxHeartbeats 4000000 in
theorem ll_workLeft (l : Launch) (d : Nat) (O A : Nat → Nat → Int) (m : Int) (hI : ll_I O A) (m0 : 0 ≤ m) (m3 : m ≤ 3) : kk_Ctr l d en_t_X4_workLeft [(4, 0), (0, m)] (cx_L O A) (ll_Rd O A) := by
  obtain ⟨⟨c1, c2⟩, ⟨c3, c4⟩, c5, c6⟩ := hI.c
  refine kk_ctr en_hM (List.mem_of_getElem? (i := 106) rfl) rfl (Nat.le_of_ble_eq_true rfl) (fun K hC => ?_)
  have k4 : ∀ (n : Nat) (i : Int) (x : Int), (9 - i).toNat < n → (0 ≤ i ∧ i ≤ 8) → K 4 [(0, (4, 0)), (1, (0, m)), (2, (0, x)), (3, (0, i))] [] (cx_L O A) := by
    intro n
    induction n with
    | zero => intro i x hz; exact absurd hz (Nat.not_lt_zero _)
    | succ n ih =>
      intro i x hn g0
      refine hC.go [] _ rfl rfl ?_
      repeat' first | refine hC.gw [4] _ rfl rfl ?_ | refine And.intro ?_ ?_ | exact True.intro | refine hC.iadd [4] rfl rfl (by first | omega | (simp only [Int.reduceToNat] at *; omega)) ?_ | refine hC.isub [4] rfl rfl (by first | omega | (simp only [Int.reduceToNat] at *; omega)) ?_ | refine hC.imul [4] rfl rfl (by first | omega | (simp only [Int.reduceToNat] at *; omega)) ?_ | refine hC.iinc [4] rfl rfl rfl rfl (by first | omega | (simp only [Int.reduceToNat] at *; omega)) ?_ | refine hC.pfw (W := cx_L) [4] rfl rfl rfl rfl rfl rfl ?_ ?_ | refine hC.iaw (W := cx_L) [4] rfl rfl rfl rfl ?_ ?_ | refine hC.law (W := cx_L) [4] rfl rfl rfl rfl ?_ ?_ | refine hC.cpw (W := cx_L) [4] rfl rfl rfl rfl rfl rfl ?_ | refine hC.cpl (W := cx_L) [4] rfl rfl rfl rfl rfl rfl ?_ | refine hC.go [4] _ rfl rfl ?_ | (intro h; first | exact (h rfl).elim | (exfalso; cases h; done) | (dsimp only [kk_cP, kk_cN] at h) | skip)
      all_goals first | rfl | omega | exact ⟨_, rfl⟩ | exact Or.inl rfl | exact Or.inr rfl | (simp only [Int.reduceToNat] at *; omega) | exact hC.sub [(0, (4, 0)), (1, (0, _)), (2, (0, _)), (3, (0, _))] ⟨rfl, rfl, rfl, rfl, trivial⟩ (ih _ _ (by omega) (by first | omega | (simp only [Int.reduceToNat] at *; omega)))
  repeat' first | refine hC.gw [4] _ rfl rfl ?_ | refine And.intro ?_ ?_ | exact True.intro | refine hC.iadd [4] rfl rfl (by first | omega | (simp only [Int.reduceToNat] at *; omega)) ?_ | refine hC.isub [4] rfl rfl (by first | omega | (simp only [Int.reduceToNat] at *; omega)) ?_ | refine hC.imul [4] rfl rfl (by first | omega | (simp only [Int.reduceToNat] at *; omega)) ?_ | refine hC.iinc [4] rfl rfl rfl rfl (by first | omega | (simp only [Int.reduceToNat] at *; omega)) ?_ | refine hC.pfw (W := cx_L) [4] rfl rfl rfl rfl rfl rfl ?_ ?_ | refine hC.iaw (W := cx_L) [4] rfl rfl rfl rfl ?_ ?_ | refine hC.law (W := cx_L) [4] rfl rfl rfl rfl ?_ ?_ | refine hC.cpw (W := cx_L) [4] rfl rfl rfl rfl rfl rfl ?_ | refine hC.cpl (W := cx_L) [4] rfl rfl rfl rfl rfl rfl ?_ | refine hC.go [4] _ rfl rfl ?_ | (intro h; first | exact (h rfl).elim | (exfalso; cases h; done) | (dsimp only [kk_cP, kk_cN] at h) | skip)
  exact hC.sub [(0, (4, 0)), (1, (0, _)), (2, (0, _)), (3, (0, _))] ⟨rfl, rfl, rfl, rfl, trivial⟩ (k4 _ _ _ (Nat.lt_succ_self _) (by omega))
set_option maxRecDepth 100000 in
set_option maxHeartbeats 4000000 in
theorem ll_workLeftOf (l : Launch) (d : Nat) (O A : Nat → Nat → Int) (e : Int) (hI : ll_I O A) (m0 : 0 ≤ e) (m3 : e ≤ 7) : kk_Ctr l d en_t_X4_workLeftOf [(4, 0), (0, e)] (cx_L O A) (ll_Rd O A) := by
  obtain ⟨⟨c1, c2⟩, ⟨c3, c4⟩, c5, c6⟩ := hI.c
  refine kk_ctr en_hM (List.mem_of_getElem? (i := 109) rfl) rfl (Nat.le_of_ble_eq_true rfl) (fun K hC => ?_)
  have k4 : ∀ (n : Nat) (i : Int) (x : Int), (5 - i).toNat < n → (0 ≤ i ∧ i ≤ 4) → K 4 [(0, (4, 0)), (1, (0, e)), (2, (0, x)), (3, (0, i))] [] (cx_L O A) := by
    intro n
    induction n with
    | zero => intro i x hz; exact absurd hz (Nat.not_lt_zero _)
    | succ n ih =>
      intro i x hn g0
      refine hC.go [] _ rfl rfl ?_
      repeat' first | refine hC.gw [4] _ rfl rfl ?_ | refine And.intro ?_ ?_ | exact True.intro | refine hC.iadd [4] rfl rfl (by first | omega | (simp only [Int.reduceToNat] at *; omega)) ?_ | refine hC.isub [4] rfl rfl (by first | omega | (simp only [Int.reduceToNat] at *; omega)) ?_ | refine hC.imul [4] rfl rfl (by first | omega | (simp only [Int.reduceToNat] at *; omega)) ?_ | refine hC.iinc [4] rfl rfl rfl rfl (by first | omega | (simp only [Int.reduceToNat] at *; omega)) ?_ | refine hC.pfw (W := cx_L) [4] rfl rfl rfl rfl rfl rfl ?_ ?_ | refine hC.iaw (W := cx_L) [4] rfl rfl rfl rfl ?_ ?_ | refine hC.law (W := cx_L) [4] rfl rfl rfl rfl ?_ ?_ | refine hC.cpw (W := cx_L) [4] rfl rfl rfl rfl rfl rfl ?_ | refine hC.cpl (W := cx_L) [4] rfl rfl rfl rfl rfl rfl ?_ | refine hC.go [4] _ rfl rfl ?_ | (intro h; first | exact (h rfl).elim | (exfalso; cases h; done) | (dsimp only [kk_cP, kk_cN] at h) | skip)
      all_goals first | rfl | omega | exact ⟨_, rfl⟩ | exact Or.inl rfl | exact Or.inr rfl | (simp only [Int.reduceToNat] at *; omega) | exact hC.sub [(0, (4, 0)), (1, (0, _)), (2, (0, _)), (3, (0, _))] ⟨rfl, rfl, rfl, rfl, trivial⟩ (ih _ _ (by omega) (by first | omega | (simp only [Int.reduceToNat] at *; omega)))
  repeat' first | refine hC.gw [4] _ rfl rfl ?_ | refine And.intro ?_ ?_ | exact True.intro | refine hC.iadd [4] rfl rfl (by first | omega | (simp only [Int.reduceToNat] at *; omega)) ?_ | refine hC.isub [4] rfl rfl (by first | omega | (simp only [Int.reduceToNat] at *; omega)) ?_ | refine hC.imul [4] rfl rfl (by first | omega | (simp only [Int.reduceToNat] at *; omega)) ?_ | refine hC.iinc [4] rfl rfl rfl rfl (by first | omega | (simp only [Int.reduceToNat] at *; omega)) ?_ | refine hC.pfw (W := cx_L) [4] rfl rfl rfl rfl rfl rfl ?_ ?_ | refine hC.iaw (W := cx_L) [4] rfl rfl rfl rfl ?_ ?_ | refine hC.law (W := cx_L) [4] rfl rfl rfl rfl ?_ ?_ | refine hC.cpw (W := cx_L) [4] rfl rfl rfl rfl rfl rfl ?_ | refine hC.cpl (W := cx_L) [4] rfl rfl rfl rfl rfl rfl ?_ | refine hC.go [4] _ rfl rfl ?_ | (intro h; first | exact (h rfl).elim | (exfalso; cases h; done) | (dsimp only [kk_cP, kk_cN] at h) | skip)
  exact hC.sub [(0, (4, 0)), (1, (0, _)), (2, (0, _)), (3, (0, _))] ⟨rfl, rfl, rfl, rfl, trivial⟩ (k4 _ _ _ (Nat.lt_succ_self _) (by omega))
set_option maxRecDepth 100000 in
set_option maxHeartbeats 4000000 in
theorem ll_allWorkLeft (l : Launch) (d : Nat) (O A : Nat → Nat → Int) (hI : ll_I O A) : kk_Ctr l (d + 1) en_t_X4_allWorkLeft [(4, 0)] (cx_L O A) (ll_Rd O A) := by
  obtain ⟨⟨c1, c2⟩, ⟨c3, c4⟩, c5, c6⟩ := hI.c
  refine kk_ctr en_hM (List.mem_of_getElem? (i := 91) rfl) rfl (Nat.le_of_ble_eq_true rfl) (fun K hC => ?_)
  have k4 : ∀ (n : Nat) (i : Int) (x : Int), (5 - i).toNat < n → (0 ≤ i ∧ i ≤ 4) → K 4 [(0, (4, 0)), (1, (0, x)), (2, (0, i))] [] (cx_L O A) := by
    intro n
    induction n with
    | zero => intro i x hz; exact absurd hz (Nat.not_lt_zero _)
    | succ n ih =>
      intro i x hn g0
      refine hC.go [] _ rfl rfl ?_
      repeat' first | refine hC.gw [4] _ rfl rfl ?_ | refine And.intro ?_ ?_ | exact True.intro | refine hC.iadd [4] rfl rfl (by first | omega | (simp only [Int.reduceToNat] at *; omega)) ?_ | refine hC.isub [4] rfl rfl (by first | omega | (simp only [Int.reduceToNat] at *; omega)) ?_ | refine hC.imul [4] rfl rfl (by first | omega | (simp only [Int.reduceToNat] at *; omega)) ?_ | refine hC.iinc [4] rfl rfl rfl rfl (by first | omega | (simp only [Int.reduceToNat] at *; omega)) ?_ | refine hC.pfw (W := cx_L) [4] rfl rfl rfl rfl rfl rfl ?_ ?_ | refine hC.iaw (W := cx_L) [4] rfl rfl rfl rfl ?_ ?_ | refine hC.law (W := cx_L) [4] rfl rfl rfl rfl ?_ ?_ | refine hC.cpw (W := cx_L) [4] rfl rfl rfl rfl rfl rfl ?_ | refine hC.cpl (W := cx_L) [4] rfl rfl rfl rfl rfl rfl ?_ | refine hC.go [4] _ rfl rfl ?_ | (intro h; first | exact (h rfl).elim | (exfalso; cases h; done) | (dsimp only [kk_cP, kk_cN] at h) | skip) | (refine hC.same (ll_workLeft l _ _ _ _ (by assumption) (by omega) (by first | omega | (simp only [Int.reduceToNat] at *; omega))) rfl rfl rfl rfl (Nat.le_refl _) ?_; rintro rs w' ⟨rfl, xw, rfl⟩)
      all_goals first | rfl | omega | exact ⟨_, rfl⟩ | exact Or.inl rfl | exact Or.inr rfl | (simp only [Int.reduceToNat] at *; omega) | exact hC.sub [(0, (4, 0)), (1, (0, _)), (2, (0, _))] ⟨rfl, rfl, rfl, trivial⟩ (ih _ _ (by omega) (by first | omega | (simp only [Int.reduceToNat] at *; omega)))
  repeat' first | refine hC.gw [4] _ rfl rfl ?_ | refine And.intro ?_ ?_ | exact True.intro | refine hC.iadd [4] rfl rfl (by first | omega | (simp only [Int.reduceToNat] at *; omega)) ?_ | refine hC.isub [4] rfl rfl (by first | omega | (simp only [Int.reduceToNat] at *; omega)) ?_ | refine hC.imul [4] rfl rfl (by first | omega | (simp only [Int.reduceToNat] at *; omega)) ?_ | refine hC.iinc [4] rfl rfl rfl rfl (by first | omega | (simp only [Int.reduceToNat] at *; omega)) ?_ | refine hC.pfw (W := cx_L) [4] rfl rfl rfl rfl rfl rfl ?_ ?_ | refine hC.iaw (W := cx_L) [4] rfl rfl rfl rfl ?_ ?_ | refine hC.law (W := cx_L) [4] rfl rfl rfl rfl ?_ ?_ | refine hC.cpw (W := cx_L) [4] rfl rfl rfl rfl rfl rfl ?_ | refine hC.cpl (W := cx_L) [4] rfl rfl rfl rfl rfl rfl ?_ | refine hC.go [4] _ rfl rfl ?_ | (intro h; first | exact (h rfl).elim | (exfalso; cases h; done) | (dsimp only [kk_cP, kk_cN] at h) | skip)
  exact hC.sub [(0, (4, 0)), (1, (0, _)), (2, (0, _))] ⟨rfl, rfl, rfl, trivial⟩ (k4 _ _ _ (Nat.lt_succ_self _) (by omega))
set_option maxRecDepth 100000 in
set_option maxHeartbeats 4000000 in
theorem ll_allPenances (l : Launch) (d : Nat) (O A : Nat → Nat → Int) (hI : ll_I O A) : kk_Ctr l d en_t_X4_allPenances [(4, 0)] (cx_L O A) (ll_Rd O A) := by
  obtain ⟨⟨c1, c2⟩, ⟨c3, c4⟩, c5, c6⟩ := hI.c
  refine kk_ctr en_hM (List.mem_of_getElem? (i := 90) rfl) rfl (Nat.le_of_ble_eq_true rfl) (fun K hC => ?_)
  have k4 : ∀ (n : Nat) (i : Int) (x : Int), (5 - i).toNat < n → (0 ≤ i ∧ i ≤ 4) → K 4 [(0, (4, 0)), (1, (0, x)), (2, (0, i))] [] (cx_L O A) := by
    intro n
    induction n with
    | zero => intro i x hz; exact absurd hz (Nat.not_lt_zero _)
    | succ n ih =>
      intro i x hn g0
      refine hC.go [] _ rfl rfl ?_
      repeat' first | refine hC.gw [4] _ rfl rfl ?_ | refine And.intro ?_ ?_ | exact True.intro | refine hC.iadd [4] rfl rfl (by first | omega | (simp only [Int.reduceToNat] at *; omega)) ?_ | refine hC.isub [4] rfl rfl (by first | omega | (simp only [Int.reduceToNat] at *; omega)) ?_ | refine hC.imul [4] rfl rfl (by first | omega | (simp only [Int.reduceToNat] at *; omega)) ?_ | refine hC.iinc [4] rfl rfl rfl rfl (by first | omega | (simp only [Int.reduceToNat] at *; omega)) ?_ | refine hC.pfw (W := cx_L) [4] rfl rfl rfl rfl rfl rfl ?_ ?_ | refine hC.iaw (W := cx_L) [4] rfl rfl rfl rfl ?_ ?_ | refine hC.law (W := cx_L) [4] rfl rfl rfl rfl ?_ ?_ | refine hC.cpw (W := cx_L) [4] rfl rfl rfl rfl rfl rfl ?_ | refine hC.cpl (W := cx_L) [4] rfl rfl rfl rfl rfl rfl ?_ | refine hC.go [4] _ rfl rfl ?_ | (intro h; first | exact (h rfl).elim | (exfalso; cases h; done) | (dsimp only [kk_cP, kk_cN] at h) | skip)
      all_goals first | rfl | omega | exact ⟨_, rfl⟩ | exact Or.inl rfl | exact Or.inr rfl | (simp only [Int.reduceToNat] at *; omega) | exact hC.sub [(0, (4, 0)), (1, (0, _)), (2, (0, _))] ⟨rfl, rfl, rfl, trivial⟩ (ih _ _ (by omega) (by first | omega | (simp only [Int.reduceToNat] at *; omega)))
  repeat' first | refine hC.gw [4] _ rfl rfl ?_ | refine And.intro ?_ ?_ | exact True.intro | refine hC.iadd [4] rfl rfl (by first | omega | (simp only [Int.reduceToNat] at *; omega)) ?_ | refine hC.isub [4] rfl rfl (by first | omega | (simp only [Int.reduceToNat] at *; omega)) ?_ | refine hC.imul [4] rfl rfl (by first | omega | (simp only [Int.reduceToNat] at *; omega)) ?_ | refine hC.iinc [4] rfl rfl rfl rfl (by first | omega | (simp only [Int.reduceToNat] at *; omega)) ?_ | refine hC.pfw (W := cx_L) [4] rfl rfl rfl rfl rfl rfl ?_ ?_ | refine hC.iaw (W := cx_L) [4] rfl rfl rfl rfl ?_ ?_ | refine hC.law (W := cx_L) [4] rfl rfl rfl rfl ?_ ?_ | refine hC.cpw (W := cx_L) [4] rfl rfl rfl rfl rfl rfl ?_ | refine hC.cpl (W := cx_L) [4] rfl rfl rfl rfl rfl rfl ?_ | refine hC.go [4] _ rfl rfl ?_ | (intro h; first | exact (h rfl).elim | (exfalso; cases h; done) | (dsimp only [kk_cP, kk_cN] at h) | skip)
  exact hC.sub [(0, (4, 0)), (1, (0, _)), (2, (0, _))] ⟨rfl, rfl, rfl, trivial⟩ (k4 _ _ _ (Nat.lt_succ_self _) (by omega))
theorem kk_rem16 {x : Int} (h0 : 0 ≤ x) (h1 : x ≤ 2147483647) : 0 ≤ kk_i2 10 x 16 ∧ kk_i2 10 x 16 < 16 := by
  rw [kk_irem (x := x) (y := 16) ⟨by omega, by omega⟩ ⟨by omega, by omega⟩]
  exact ⟨Int.tmod_nonneg _ h0, Int.tmod_lt_of_pos _ (by omega)⟩
set_option maxRecDepth 100000 in
set_option maxHeartbeats 4000000 in
theorem ll_drawnAgo (l : Launch) (d : Nat) (O A : Nat → Nat → Int) (k : Int) (hI : ll_I O A) : kk_Ctr l (d + 1) en_t_X4_drawnAgo [(4, 0), (0, k)] (cx_L O A) (ll_Rd O A) := by
  obtain ⟨d1, d2, d3⟩ := hI.2.2.2
  refine kk_ctr en_hM (List.mem_of_getElem? (i := 102) rfl) rfl (Nat.le_of_ble_eq_true rfl) (fun K hC => ?_)
  repeat' first | refine hC.gw [] _ rfl rfl ?_ | refine And.intro ?_ ?_ | exact True.intro | refine hC.iadd [] rfl rfl (by first | omega | (simp only [Int.reduceToNat] at *; omega)) ?_ | refine hC.isub [] rfl rfl (by first | omega | (simp only [Int.reduceToNat] at *; omega)) ?_ | refine hC.imul [] rfl rfl (by first | omega | (simp only [Int.reduceToNat] at *; omega)) ?_ | refine hC.iinc [] rfl rfl rfl rfl (by first | omega | (simp only [Int.reduceToNat] at *; omega)) ?_ | refine hC.pfw (W := cx_L) [] rfl rfl rfl rfl rfl rfl ?_ ?_ | refine hC.iaw (W := cx_L) [] rfl rfl rfl rfl ?_ ?_ | refine hC.law (W := cx_L) [] rfl rfl rfl rfl ?_ ?_ | refine hC.cpw (W := cx_L) [] rfl rfl rfl rfl rfl rfl ?_ | refine hC.cpl (W := cx_L) [] rfl rfl rfl rfl rfl rfl ?_ | refine hC.go [] _ rfl rfl ?_ | (intro h; first | exact (h rfl).elim | (exfalso; cases h; done) | (dsimp only [kk_cP, kk_cN] at h) | skip) | (refine hC.call (xx_isWithin l _ _ _ _) [] rfl rfl rfl rfl rfl rfl trivial (Nat.le_refl _) ?_; rintro rs w' ⟨rfl, ⟨rfl, w1, w2⟩ | ⟨rfl, w1⟩⟩)
  all_goals first | rfl | omega | exact ⟨_, rfl⟩ | skip
  all_goals
    have hq := kk_rem16 (x := O 0 8 - 1 - k) (by omega) (by omega)
    omega
set_option maxRecDepth 100000 in
set_option maxHeartbeats 4000000 in
theorem ll_whyNoDraw (l : Launch) (d : Nat) (O A : Nat → Nat → Int) : kk_Ctr l (d + 1) en_t_X4_whyNoDraw [(4, 0)] (cx_L O A) (fun rs w' => w' = cx_L O A ∧ ∃ x, rs = [(0, x)] ∧ (x = 0 → O 0 10 = -1 ∧ O 0 9 < 400)) := by
  refine kk_ctr en_hM (List.mem_of_getElem? (i := 92) rfl) rfl (Nat.le_of_ble_eq_true rfl) (fun K hC => ?_)
  repeat' first | refine hC.gw [] _ rfl rfl ?_ | refine And.intro ?_ ?_ | exact True.intro | refine hC.iadd [] rfl rfl (by first | omega | (simp only [Int.reduceToNat] at *; omega)) ?_ | refine hC.isub [] rfl rfl (by first | omega | (simp only [Int.reduceToNat] at *; omega)) ?_ | refine hC.imul [] rfl rfl (by first | omega | (simp only [Int.reduceToNat] at *; omega)) ?_ | refine hC.iinc [] rfl rfl rfl rfl (by first | omega | (simp only [Int.reduceToNat] at *; omega)) ?_ | refine hC.pfw (W := cx_L) [] rfl rfl rfl rfl rfl rfl ?_ ?_ | refine hC.iaw (W := cx_L) [] rfl rfl rfl rfl ?_ ?_ | refine hC.law (W := cx_L) [] rfl rfl rfl rfl ?_ ?_ | refine hC.cpw (W := cx_L) [] rfl rfl rfl rfl rfl rfl ?_ | refine hC.cpl (W := cx_L) [] rfl rfl rfl rfl rfl rfl ?_ | refine hC.go [] _ rfl rfl ?_ | (intro h; first | exact (h rfl).elim | (exfalso; cases h; done) | (dsimp only [kk_cP, kk_cN] at h) | skip) | (refine hC.rd ce_L_H (hh_hasNo l _ _ _) rfl rfl rfl rfl rfl rfl (Nat.le_refl _) ?_; rintro rs (⟨rfl, q1⟩ | ⟨rfl, q1⟩))
  all_goals first | rfl | exact ⟨_, rfl, fun q => absurd q (by decide)⟩ | exact ⟨_, rfl, fun _ => ⟨by omega, by omega⟩⟩
set_option maxRecDepth 100000 in
set_option maxHeartbeats 4000000 in
theorem ll_whyNoFold (l : Launch) (d : Nat) (O A : Nat → Nat → Int) (c : Int) (c0 : 0 ≤ c) (c9 : c ≤ 9) : kk_Ctr l d en_t_X4_whyNoFold [(4, 0), (0, c)] (cx_L O A) (fun rs w' => w' = cx_L O A ∧ ∃ x, rs = [(0, x)] ∧ (x = 0 → O 0 10 = -1 ∧ O 0 9 < 400)) := by
  refine kk_ctr en_hM (List.mem_of_getElem? (i := 95) rfl) rfl (Nat.le_of_ble_eq_true rfl) (fun K hC => ?_)
  repeat' first | refine hC.gw [] _ rfl rfl ?_ | refine And.intro ?_ ?_ | exact True.intro | refine hC.iadd [] rfl rfl (by first | omega | (simp only [Int.reduceToNat] at *; omega)) ?_ | refine hC.isub [] rfl rfl (by first | omega | (simp only [Int.reduceToNat] at *; omega)) ?_ | refine hC.imul [] rfl rfl (by first | omega | (simp only [Int.reduceToNat] at *; omega)) ?_ | refine hC.iinc [] rfl rfl rfl rfl (by first | omega | (simp only [Int.reduceToNat] at *; omega)) ?_ | refine hC.pfw (W := cx_L) [] rfl rfl rfl rfl rfl rfl ?_ ?_ | refine hC.iaw (W := cx_L) [] rfl rfl rfl rfl ?_ ?_ | refine hC.law (W := cx_L) [] rfl rfl rfl rfl ?_ ?_ | refine hC.cpw (W := cx_L) [] rfl rfl rfl rfl rfl rfl ?_ | refine hC.cpl (W := cx_L) [] rfl rfl rfl rfl rfl rfl ?_ | refine hC.go [] _ rfl rfl ?_ | (intro h; first | exact (h rfl).elim | (exfalso; cases h; done) | (dsimp only [kk_cP, kk_cN] at h) | skip)
  all_goals first | rfl | omega | exact ⟨_, rfl, fun q => absurd q (by decide)⟩ | exact ⟨_, rfl, fun _ => ⟨by omega, by omega⟩⟩
set_option maxRecDepth 100000 in
set_option maxHeartbeats 4000000 in
theorem ll_whyNoDeed (l : Launch) (d : Nat) (O A : Nat → Nat → Int) (m e : Int) (m0 : 0 ≤ m) (m3 : m ≤ 3) : kk_Ctr l (d + 1) en_t_X4_whyNoDeed [(4, 0), (0, m), (0, e)] (cx_L O A) (ll_Rd O A) := by
  refine kk_ctr en_hM (List.mem_of_getElem? (i := 96) rfl) rfl (Nat.le_of_ble_eq_true rfl) (fun K hC => ?_)
  repeat' first | refine hC.gw [] _ rfl rfl ?_ | refine And.intro ?_ ?_ | exact True.intro | refine hC.iadd [] rfl rfl (by first | omega | (simp only [Int.reduceToNat] at *; omega)) ?_ | refine hC.isub [] rfl rfl (by first | omega | (simp only [Int.reduceToNat] at *; omega)) ?_ | refine hC.imul [] rfl rfl (by first | omega | (simp only [Int.reduceToNat] at *; omega)) ?_ | refine hC.iinc [] rfl rfl rfl rfl (by first | omega | (simp only [Int.reduceToNat] at *; omega)) ?_ | refine hC.pfw (W := cx_L) [] rfl rfl rfl rfl rfl rfl ?_ ?_ | refine hC.iaw (W := cx_L) [] rfl rfl rfl rfl ?_ ?_ | refine hC.law (W := cx_L) [] rfl rfl rfl rfl ?_ ?_ | refine hC.cpw (W := cx_L) [] rfl rfl rfl rfl rfl rfl ?_ | refine hC.cpl (W := cx_L) [] rfl rfl rfl rfl rfl rfl ?_ | refine hC.go [] _ rfl rfl ?_ | (intro h; first | exact (h rfl).elim | (exfalso; cases h; done) | (dsimp only [kk_cP, kk_cN] at h) | skip) | (refine hC.same (ll_barred l _ _ _) rfl rfl rfl rfl (Nat.le_refl _) ?_; rintro rs w' ⟨rfl, xb, rfl⟩) | (refine hC.call (xx_hasBit l _ _ _) [] rfl rfl rfl rfl rfl rfl trivial (Nat.le_refl _) ?_; rintro rs w' ⟨rfl, rfl | rfl⟩)
  all_goals first | rfl | omega | exact ⟨_, rfl⟩ | exact Or.inl rfl | exact Or.inr rfl | (simp only [Int.reduceToNat] at *; omega)
theorem kk_remp {x y : Int} (hx : 0 ≤ x) (hx2 : x ≤ 2147483647) (h0 : 0 < y) (h1 : y ≤ 2147483647) : 0 ≤ kk_i2 10 x y := by
  rw [kk_irem (x := x) (y := y) ⟨by omega, by omega⟩ ⟨by omega, by omega⟩]
  exact Int.tmod_nonneg _ hx
set_option maxRecDepth 100000 in
set_option maxHeartbeats 4000000 in
theorem ll_chapterBy (l : Launch) (d : Nat) (O A : Nat → Nat → Int) (x : Int) (hI : ll_I O A) : kk_Ctr l (d + 1) en_t_X4_chapterBy [(4, 0), (0, x)] (cx_L O A) (ll_Rd O A) := by
  obtain ⟨⟨c1, c2⟩, ⟨c3, c4⟩, c5, c6⟩ := hI.c
  refine kk_ctr en_hM (List.mem_of_getElem? (i := 93) rfl) rfl (Nat.le_of_ble_eq_true rfl) (fun K hC => ?_)
  have k21 : ∀ (n : Nat) (i : Int) (y : Int), (11 - i).toNat < n → (0 ≤ i ∧ i ≤ 10) → K 21 [(0, (4, 0)), (3, (0, y)), (4, (0, i))] [] (cx_L O A) := by
    intro n
    induction n with
    | zero => intro i y hz; exact absurd hz (Nat.not_lt_zero _)
    | succ n ih =>
      intro i y hn g0
      refine hC.go [] _ rfl rfl ?_
      repeat' first | refine hC.gw [21] _ rfl rfl ?_ | refine And.intro ?_ ?_ | exact True.intro | refine hC.iadd [21] rfl rfl (by first | omega | (simp only [Int.reduceToNat] at *; omega)) ?_ | refine hC.isub [21] rfl rfl (by first | omega | (simp only [Int.reduceToNat] at *; omega)) ?_ | refine hC.imul [21] rfl rfl (by first | omega | (simp only [Int.reduceToNat] at *; omega)) ?_ | refine hC.iinc [21] rfl rfl rfl rfl (by first | omega | (simp only [Int.reduceToNat] at *; omega)) ?_ | refine hC.pfw (W := cx_L) [21] rfl rfl rfl rfl rfl rfl ?_ ?_ | refine hC.iaw (W := cx_L) [21] rfl rfl rfl rfl ?_ ?_ | refine hC.law (W := cx_L) [21] rfl rfl rfl rfl ?_ ?_ | refine hC.cpw (W := cx_L) [21] rfl rfl rfl rfl rfl rfl ?_ | refine hC.cpl (W := cx_L) [21] rfl rfl rfl rfl rfl rfl ?_ | refine hC.go [21] _ rfl rfl ?_ | (intro h; first | exact (h rfl).elim | (exfalso; cases h; done) | (dsimp only [kk_cP, kk_cN] at h) | skip)
      all_goals first | rfl | omega | exact ⟨_, rfl⟩ | exact Or.inl rfl | exact Or.inr rfl | (simp only [Int.reduceToNat] at *; omega) | exact hC.sub [(0, (4, 0)), (3, (0, _)), (4, (0, _))] ⟨rfl, rfl, rfl, trivial⟩ (ih _ _ (by omega) (by first | omega | (simp only [Int.reduceToNat] at *; omega)))
  repeat' first | refine hC.gw [21] _ rfl rfl ?_ | refine And.intro ?_ ?_ | exact True.intro | refine hC.iadd [21] rfl rfl (by first | omega | (simp only [Int.reduceToNat] at *; omega)) ?_ | refine hC.isub [21] rfl rfl (by first | omega | (simp only [Int.reduceToNat] at *; omega)) ?_ | refine hC.imul [21] rfl rfl (by first | omega | (simp only [Int.reduceToNat] at *; omega)) ?_ | refine hC.iinc [21] rfl rfl rfl rfl (by first | omega | (simp only [Int.reduceToNat] at *; omega)) ?_ | refine hC.pfw (W := cx_L) [21] rfl rfl rfl rfl rfl rfl ?_ ?_ | refine hC.iaw (W := cx_L) [21] rfl rfl rfl rfl ?_ ?_ | refine hC.law (W := cx_L) [21] rfl rfl rfl rfl ?_ ?_ | refine hC.cpw (W := cx_L) [21] rfl rfl rfl rfl rfl rfl ?_ | refine hC.cpl (W := cx_L) [21] rfl rfl rfl rfl rfl rfl ?_ | refine hC.go [21] _ rfl rfl ?_ | (intro h; first | exact (h rfl).elim | (exfalso; cases h; done) | (dsimp only [kk_cP, kk_cN] at h) | skip) | (refine hC.same (ll_slips l _ _ _ (by assumption)) rfl rfl rfl rfl (Nat.le_refl _) ?_; rintro rs w' ⟨rfl, xs, rfl⟩)
  all_goals first | rfl | omega | exact ⟨_, rfl⟩ | exact hC.sub [(0, (4, 0)), (3, (0, _)), (4, (0, _))] ⟨rfl, rfl, rfl, trivial⟩ (k21 _ _ _ (Nat.lt_succ_self _) (by omega))
set_option maxRecDepth 100000 in
set_option maxHeartbeats 4000000 in
theorem ll_hasDay (l : Launch) (d : Nat) (O A : Nat → Nat → Int) : kk_Ctr l (d + 2) en_t_X4_hasDay [(4, 0)] (cx_L O A) (fun rs w' => w' = cx_L O A ∧ ((rs = [(0, 1)] ∧ (O 0 10 = -1 → O 0 9 < 400)) ∨ rs = [(0, 0)])) := by
  refine kk_ctr en_hM (List.mem_of_getElem? (i := 99) rfl) rfl (Nat.le_of_ble_eq_true rfl) (fun K hC => ?_)
  repeat' first | refine hC.gw [] _ rfl rfl ?_ | refine And.intro ?_ ?_ | exact True.intro | refine hC.iadd [] rfl rfl (by first | omega | (simp only [Int.reduceToNat] at *; omega)) ?_ | refine hC.isub [] rfl rfl (by first | omega | (simp only [Int.reduceToNat] at *; omega)) ?_ | refine hC.imul [] rfl rfl (by first | omega | (simp only [Int.reduceToNat] at *; omega)) ?_ | refine hC.iinc [] rfl rfl rfl rfl (by first | omega | (simp only [Int.reduceToNat] at *; omega)) ?_ | refine hC.pfw (W := cx_L) [] rfl rfl rfl rfl rfl rfl ?_ ?_ | refine hC.iaw (W := cx_L) [] rfl rfl rfl rfl ?_ ?_ | refine hC.law (W := cx_L) [] rfl rfl rfl rfl ?_ ?_ | refine hC.cpw (W := cx_L) [] rfl rfl rfl rfl rfl rfl ?_ | refine hC.cpl (W := cx_L) [] rfl rfl rfl rfl rfl rfl ?_ | refine hC.go [] _ rfl rfl ?_ | (intro h; first | exact (h rfl).elim | (exfalso; cases h; done) | (dsimp only [kk_cP, kk_cN] at h) | skip) | (refine hC.same (ll_whyNoDraw l _ _ _) rfl rfl rfl rfl (Nat.le_refl _) ?_; rintro rs w' ⟨rfl, xw, rfl, hw0⟩)
  all_goals first | rfl | exact Or.inl rfl | exact Or.inr rfl | exact Or.inl ⟨rfl, fun q => by omega⟩
set_option maxRecDepth 100000 in
set_option maxHeartbeats 4000000 in
theorem ll_longestWait (l : Launch) (d : Nat) (O A : Nat → Nat → Int) (c : Int) (hI : ll_I O A) (c0 : 0 ≤ c) (c9 : c ≤ 9) : kk_Ctr l (d + 1) en_t_X4_longestWait [(4, 0), (0, c)] (cx_L O A) (ll_Rd O A) := by
  refine kk_ctr en_hM (List.mem_of_getElem? (i := 101) rfl) rfl (Nat.le_of_ble_eq_true rfl) (fun K hC => ?_)
  repeat' first | refine hC.gw [] _ rfl rfl ?_ | refine And.intro ?_ ?_ | exact True.intro | refine hC.iadd [] rfl rfl (by first | omega | (simp only [Int.reduceToNat] at *; omega)) ?_ | refine hC.isub [] rfl rfl (by first | omega | (simp only [Int.reduceToNat] at *; omega)) ?_ | refine hC.imul [] rfl rfl (by first | omega | (simp only [Int.reduceToNat] at *; omega)) ?_ | refine hC.iinc [] rfl rfl rfl rfl (by first | omega | (simp only [Int.reduceToNat] at *; omega)) ?_ | refine hC.pfw (W := cx_L) [] rfl rfl rfl rfl rfl rfl ?_ ?_ | refine hC.iaw (W := cx_L) [] rfl rfl rfl rfl ?_ ?_ | refine hC.law (W := cx_L) [] rfl rfl rfl rfl ?_ ?_ | refine hC.cpw (W := cx_L) [] rfl rfl rfl rfl rfl rfl ?_ | refine hC.cpl (W := cx_L) [] rfl rfl rfl rfl rfl rfl ?_ | refine hC.go [] _ rfl rfl ?_ | (intro h; first | exact (h rfl).elim | (exfalso; cases h; done) | (dsimp only [kk_cP, kk_cN] at h) | skip) | (refine hC.same (ll_slips l _ _ _ (by assumption)) rfl rfl rfl rfl (Nat.le_refl _) ?_; rintro rs w' ⟨rfl, xs, rfl⟩) | (refine hC.rd ce_L_H (hh_allSlips l _ _ _ hI.1) rfl rfl rfl rfl rfl rfl (Nat.le_refl _) ?_; rintro rs ⟨xa, rfl⟩)
  all_goals first | rfl | omega | exact ⟨_, rfl⟩ | exact Or.inl rfl | exact Or.inr rfl | (simp only [Int.reduceToNat] at *; omega)
