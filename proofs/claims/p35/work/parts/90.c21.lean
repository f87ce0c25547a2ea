/-! THE CLASS, 21: an act is undone -/
set_option maxRecDepth 100000 in
set_option maxHeartbeats 4000000 in
theorem uu_giveBack (l : Launch) (d : Nat) (O A : Nat → Nat → Int) (hI : uu_I O A) : kk_Ctr l (d + 1) en_t_X9_giveBack [(4, 0), (4, 66)] (cx_U O A) (fun rs w' => ∃ O' A', w' = cx_U O' A' ∧ (rs = [(0, 1)] ∨ rs = [(0, 0)]) ∧ uu_I O' A' ∧ (∀ p, 74 ≤ p → O' p = O p ∧ A' p = A p)) := by
  have hn := hI.1
  have hs := hI.2.1
  refine kk_ctr en_hM (List.mem_of_getElem? (i := 161) rfl) rfl (Nat.le_of_ble_eq_true rfl) (fun K hC => ?_)
  have k22 : ∀ x : Int, 0 ≤ x ∧ x ≤ 7 → 1 ≤ O 0 2 → K 22 [(0, (4, 0)), (1, (4, 66))] [(0, x), (4, 0)] (cx_U O A) := by
    intro x hx hs1
    rcases (show x = 0 ∨ x = 1 ∨ x = 2 ∨ x = 3 ∨ x = 4 ∨ x = 5 ∨ x = 6 ∨ x = 7 by omega) with rfl | rfl | rfl | rfl | rfl | rfl | rfl | rfl
    · have e2 : mm_up O (Int.toNat 0) (kk_up (O (Int.toNat 0)) 1 0) 0 2 = O 0 2 := rfl
      repeat' first | refine hC.gw [] _ rfl rfl ?_ | refine And.intro ?_ ?_ | exact True.intro | refine hC.iadd [] rfl rfl (by first | omega | (simp only [Int.reduceToNat] at *; omega)) ?_ | refine hC.isub [] rfl rfl (by first | omega | (simp only [Int.reduceToNat] at *; omega)) ?_ | refine hC.imul [] rfl rfl (by first | omega | (simp only [Int.reduceToNat] at *; omega)) ?_ | refine hC.iinc [] rfl rfl rfl rfl (by first | omega | (simp only [Int.reduceToNat] at *; omega)) ?_ | refine hC.pfw (W := cx_U) [] rfl rfl rfl rfl rfl rfl ?_ ?_ | refine hC.iaw (W := cx_U) [] rfl rfl rfl rfl ?_ ?_ | refine hC.law (W := cx_U) [] rfl rfl rfl rfl ?_ ?_ | refine hC.cpw (W := cx_U) [] rfl rfl rfl rfl rfl rfl ?_ | refine hC.cpl (W := cx_U) [] rfl rfl rfl rfl rfl rfl ?_ | refine hC.go [] _ rfl rfl ?_ | (intro h; first | exact (h rfl).elim | (exfalso; cases h; done) | (dsimp only [kk_cP, kk_cN] at h) | skip)
      all_goals first | omega | (show (0 : Int) ≤ 0; decide) | (show (0 : Int) < 8; decide) | skip
      have h9 : some ((4, 2) : en_V) = some _ := h
      cases h9
      repeat' first | refine hC.gw [] _ rfl rfl ?_ | refine And.intro ?_ ?_ | exact True.intro | refine hC.iadd [] rfl rfl (by first | omega | (simp only [Int.reduceToNat] at *; omega)) ?_ | refine hC.isub [] rfl rfl (by first | omega | (simp only [Int.reduceToNat] at *; omega)) ?_ | refine hC.imul [] rfl rfl (by first | omega | (simp only [Int.reduceToNat] at *; omega)) ?_ | refine hC.iinc [] rfl rfl rfl rfl (by first | omega | (simp only [Int.reduceToNat] at *; omega)) ?_ | refine hC.pfw (W := cx_U) [] rfl rfl rfl rfl rfl rfl ?_ ?_ | refine hC.iaw (W := cx_U) [] rfl rfl rfl rfl ?_ ?_ | refine hC.law (W := cx_U) [] rfl rfl rfl rfl ?_ ?_ | refine hC.cpw (W := cx_U) [] rfl rfl rfl rfl rfl rfl ?_ | refine hC.cpl (W := cx_U) [] rfl rfl rfl rfl rfl rfl ?_ | refine hC.go [] _ rfl rfl ?_ | (intro h; first | exact (h rfl).elim | (exfalso; cases h; done) | (dsimp only [kk_cP, kk_cN] at h) | skip)
      refine hC.at ce_U_LLg0 (ll_copyFrom l _ _ _) rfl rfl rfl rfl rfl rfl (Nat.le_refl _) ?_
      rintro rs O2 A2 ⟨rfl, q1, ⟨q2, q3, q4⟩, q5⟩
      repeat' first | refine hC.gw [] _ rfl rfl ?_ | refine And.intro ?_ ?_ | exact True.intro | refine hC.iadd [] rfl rfl (by first | omega | (simp only [Int.reduceToNat] at *; omega)) ?_ | refine hC.isub [] rfl rfl (by first | omega | (simp only [Int.reduceToNat] at *; omega)) ?_ | refine hC.imul [] rfl rfl (by first | omega | (simp only [Int.reduceToNat] at *; omega)) ?_ | refine hC.iinc [] rfl rfl rfl rfl (by first | omega | (simp only [Int.reduceToNat] at *; omega)) ?_ | refine hC.pfw (W := cx_U) [] rfl rfl rfl rfl rfl rfl ?_ ?_ | refine hC.iaw (W := cx_U) [] rfl rfl rfl rfl ?_ ?_ | refine hC.law (W := cx_U) [] rfl rfl rfl rfl ?_ ?_ | refine hC.cpw (W := cx_U) [] rfl rfl rfl rfl rfl rfl ?_ | refine hC.cpl (W := cx_U) [] rfl rfl rfl rfl rfl rfl ?_ | refine hC.go [] _ rfl rfl ?_ | (intro h; first | exact (h rfl).elim | (exfalso; cases h; done) | (dsimp only [kk_cP, kk_cN] at h) | skip)
      all_goals first | exact Or.inl rfl | exact Or.inr rfl | skip
      refine ⟨_, _, rfl, Or.inl rfl, ⟨(show (0 : Int) ≤ 0 ∧ (0 : Int) ≤ 7 by decide), (show 0 ≤ O 0 2 - 1 ∧ O 0 2 - 1 ≤ 8 by omega), fun i hi => ?_, ?_⟩, fun p hp => ?_⟩
      · match i, hi with
        | 0, _ =>
          refine ⟨?_, ?_⟩
          · show ll_d (O2 8 9) (O2 8 10) (O2 8 8)
            rw [(q5 8 (by decide) (by decide)).1]
            exact (hI.2.2.1 0 (by decide)).1
          · show ∀ j, j < 32 → 0 ≤ A2 14 j
            rw [(q5 14 (by decide) (by decide)).2]
            exact (hI.2.2.1 0 (by decide)).2
        | 1, _ => exact hI.2.2.1 1 (by decide)
        | 2, _ => exact hI.2.2.1 2 (by decide)
        | 3, _ => exact hI.2.2.1 3 (by decide)
        | 4, _ => exact hI.2.2.1 4 (by decide)
        | 5, _ => exact hI.2.2.1 5 (by decide)
        | 6, _ => exact hI.2.2.1 6 (by decide)
        | 7, _ => exact hI.2.2.1 7 (by decide)
      · refine ⟨?_, ?_⟩
        · show ll_d (O2 0 9) (O2 0 10) (O2 0 8)
          rw [q2, q3, q4]
          exact (hI.2.2.1 0 (by decide)).1
        · show ∀ j, j < 32 → 0 ≤ A2 6 j
          rw [q1]
          exact (hI.2.2.1 0 (by decide)).2
      · match p, hp with
        | 74, _ => exact q5 16 (by decide) (by decide)
        | 75, _ => exact q5 17 (by decide) (by decide)
        | 76, _ => exact q5 18 (by decide) (by decide)
        | 77, _ => exact q5 19 (by decide) (by decide)
        | 78, _ => exact q5 20 (by decide) (by decide)
        | 79, _ => exact q5 21 (by decide) (by decide)
        | 80, _ => exact q5 22 (by decide) (by decide)
        | n + 81, _ =>
          rw [cc_out_out (by simp <;> omega), cc_out_out (by simp <;> omega)]
          exact ⟨(mm_up_ne (by have : Int.toNat 0 = 0 := rfl; omega)).trans (mm_up_ne (by have : Int.toNat 0 = 0 := rfl; omega)), rfl⟩
    · have e2 : mm_up O (Int.toNat 0) (kk_up (O (Int.toNat 0)) 1 1) 0 2 = O 0 2 := rfl
      repeat' first | refine hC.gw [] _ rfl rfl ?_ | refine And.intro ?_ ?_ | exact True.intro | refine hC.iadd [] rfl rfl (by first | omega | (simp only [Int.reduceToNat] at *; omega)) ?_ | refine hC.isub [] rfl rfl (by first | omega | (simp only [Int.reduceToNat] at *; omega)) ?_ | refine hC.imul [] rfl rfl (by first | omega | (simp only [Int.reduceToNat] at *; omega)) ?_ | refine hC.iinc [] rfl rfl rfl rfl (by first | omega | (simp only [Int.reduceToNat] at *; omega)) ?_ | refine hC.pfw (W := cx_U) [] rfl rfl rfl rfl rfl rfl ?_ ?_ | refine hC.iaw (W := cx_U) [] rfl rfl rfl rfl ?_ ?_ | refine hC.law (W := cx_U) [] rfl rfl rfl rfl ?_ ?_ | refine hC.cpw (W := cx_U) [] rfl rfl rfl rfl rfl rfl ?_ | refine hC.cpl (W := cx_U) [] rfl rfl rfl rfl rfl rfl ?_ | refine hC.go [] _ rfl rfl ?_ | (intro h; first | exact (h rfl).elim | (exfalso; cases h; done) | (dsimp only [kk_cP, kk_cN] at h) | skip)
      all_goals first | omega | (show (0 : Int) ≤ 1; decide) | (show (1 : Int) < 8; decide) | skip
      have h9 : some ((4, 10) : en_V) = some _ := h
      cases h9
      repeat' first | refine hC.gw [] _ rfl rfl ?_ | refine And.intro ?_ ?_ | exact True.intro | refine hC.iadd [] rfl rfl (by first | omega | (simp only [Int.reduceToNat] at *; omega)) ?_ | refine hC.isub [] rfl rfl (by first | omega | (simp only [Int.reduceToNat] at *; omega)) ?_ | refine hC.imul [] rfl rfl (by first | omega | (simp only [Int.reduceToNat] at *; omega)) ?_ | refine hC.iinc [] rfl rfl rfl rfl (by first | omega | (simp only [Int.reduceToNat] at *; omega)) ?_ | refine hC.pfw (W := cx_U) [] rfl rfl rfl rfl rfl rfl ?_ ?_ | refine hC.iaw (W := cx_U) [] rfl rfl rfl rfl ?_ ?_ | refine hC.law (W := cx_U) [] rfl rfl rfl rfl ?_ ?_ | refine hC.cpw (W := cx_U) [] rfl rfl rfl rfl rfl rfl ?_ | refine hC.cpl (W := cx_U) [] rfl rfl rfl rfl rfl rfl ?_ | refine hC.go [] _ rfl rfl ?_ | (intro h; first | exact (h rfl).elim | (exfalso; cases h; done) | (dsimp only [kk_cP, kk_cN] at h) | skip)
      refine hC.at ce_U_LLg1 (ll_copyFrom l _ _ _) rfl rfl rfl rfl rfl rfl (Nat.le_refl _) ?_
      rintro rs O2 A2 ⟨rfl, q1, ⟨q2, q3, q4⟩, q5⟩
      repeat' first | refine hC.gw [] _ rfl rfl ?_ | refine And.intro ?_ ?_ | exact True.intro | refine hC.iadd [] rfl rfl (by first | omega | (simp only [Int.reduceToNat] at *; omega)) ?_ | refine hC.isub [] rfl rfl (by first | omega | (simp only [Int.reduceToNat] at *; omega)) ?_ | refine hC.imul [] rfl rfl (by first | omega | (simp only [Int.reduceToNat] at *; omega)) ?_ | refine hC.iinc [] rfl rfl rfl rfl (by first | omega | (simp only [Int.reduceToNat] at *; omega)) ?_ | refine hC.pfw (W := cx_U) [] rfl rfl rfl rfl rfl rfl ?_ ?_ | refine hC.iaw (W := cx_U) [] rfl rfl rfl rfl ?_ ?_ | refine hC.law (W := cx_U) [] rfl rfl rfl rfl ?_ ?_ | refine hC.cpw (W := cx_U) [] rfl rfl rfl rfl rfl rfl ?_ | refine hC.cpl (W := cx_U) [] rfl rfl rfl rfl rfl rfl ?_ | refine hC.go [] _ rfl rfl ?_ | (intro h; first | exact (h rfl).elim | (exfalso; cases h; done) | (dsimp only [kk_cP, kk_cN] at h) | skip)
      all_goals first | exact Or.inl rfl | exact Or.inr rfl | skip
      refine ⟨_, _, rfl, Or.inl rfl, ⟨(show (0 : Int) ≤ 1 ∧ (1 : Int) ≤ 7 by decide), (show 0 ≤ O 0 2 - 1 ∧ O 0 2 - 1 ≤ 8 by omega), fun i hi => ?_, ?_⟩, fun p hp => ?_⟩
      · match i, hi with
        | 0, _ => exact hI.2.2.1 0 (by decide)
        | 1, _ =>
          refine ⟨?_, ?_⟩
          · show ll_d (O2 8 9) (O2 8 10) (O2 8 8)
            rw [(q5 8 (by decide) (by decide)).1]
            exact (hI.2.2.1 1 (by decide)).1
          · show ∀ j, j < 32 → 0 ≤ A2 14 j
            rw [(q5 14 (by decide) (by decide)).2]
            exact (hI.2.2.1 1 (by decide)).2
        | 2, _ => exact hI.2.2.1 2 (by decide)
        | 3, _ => exact hI.2.2.1 3 (by decide)
        | 4, _ => exact hI.2.2.1 4 (by decide)
        | 5, _ => exact hI.2.2.1 5 (by decide)
        | 6, _ => exact hI.2.2.1 6 (by decide)
        | 7, _ => exact hI.2.2.1 7 (by decide)
      · refine ⟨?_, ?_⟩
        · show ll_d (O2 0 9) (O2 0 10) (O2 0 8)
          rw [q2, q3, q4]
          exact (hI.2.2.1 1 (by decide)).1
        · show ∀ j, j < 32 → 0 ≤ A2 6 j
          rw [q1]
          exact (hI.2.2.1 1 (by decide)).2
      · match p, hp with
        | 74, _ => exact q5 16 (by decide) (by decide)
        | 75, _ => exact q5 17 (by decide) (by decide)
        | 76, _ => exact q5 18 (by decide) (by decide)
        | 77, _ => exact q5 19 (by decide) (by decide)
        | 78, _ => exact q5 20 (by decide) (by decide)
        | 79, _ => exact q5 21 (by decide) (by decide)
        | 80, _ => exact q5 22 (by decide) (by decide)
        | n + 81, _ =>
          rw [cc_out_out (by simp <;> omega), cc_out_out (by simp <;> omega)]
          exact ⟨(mm_up_ne (by have : Int.toNat 0 = 0 := rfl; omega)).trans (mm_up_ne (by have : Int.toNat 0 = 0 := rfl; omega)), rfl⟩
    · have e2 : mm_up O (Int.toNat 0) (kk_up (O (Int.toNat 0)) 1 2) 0 2 = O 0 2 := rfl
      repeat' first | refine hC.gw [] _ rfl rfl ?_ | refine And.intro ?_ ?_ | exact True.intro | refine hC.iadd [] rfl rfl (by first | omega | (simp only [Int.reduceToNat] at *; omega)) ?_ | refine hC.isub [] rfl rfl (by first | omega | (simp only [Int.reduceToNat] at *; omega)) ?_ | refine hC.imul [] rfl rfl (by first | omega | (simp only [Int.reduceToNat] at *; omega)) ?_ | refine hC.iinc [] rfl rfl rfl rfl (by first | omega | (simp only [Int.reduceToNat] at *; omega)) ?_ | refine hC.pfw (W := cx_U) [] rfl rfl rfl rfl rfl rfl ?_ ?_ | refine hC.iaw (W := cx_U) [] rfl rfl rfl rfl ?_ ?_ | refine hC.law (W := cx_U) [] rfl rfl rfl rfl ?_ ?_ | refine hC.cpw (W := cx_U) [] rfl rfl rfl rfl rfl rfl ?_ | refine hC.cpl (W := cx_U) [] rfl rfl rfl rfl rfl rfl ?_ | refine hC.go [] _ rfl rfl ?_ | (intro h; first | exact (h rfl).elim | (exfalso; cases h; done) | (dsimp only [kk_cP, kk_cN] at h) | skip)
      all_goals first | omega | (show (0 : Int) ≤ 2; decide) | (show (2 : Int) < 8; decide) | skip
      have h9 : some ((4, 18) : en_V) = some _ := h
      cases h9
      repeat' first | refine hC.gw [] _ rfl rfl ?_ | refine And.intro ?_ ?_ | exact True.intro | refine hC.iadd [] rfl rfl (by first | omega | (simp only [Int.reduceToNat] at *; omega)) ?_ | refine hC.isub [] rfl rfl (by first | omega | (simp only [Int.reduceToNat] at *; omega)) ?_ | refine hC.imul [] rfl rfl (by first | omega | (simp only [Int.reduceToNat] at *; omega)) ?_ | refine hC.iinc [] rfl rfl rfl rfl (by first | omega | (simp only [Int.reduceToNat] at *; omega)) ?_ | refine hC.pfw (W := cx_U) [] rfl rfl rfl rfl rfl rfl ?_ ?_ | refine hC.iaw (W := cx_U) [] rfl rfl rfl rfl ?_ ?_ | refine hC.law (W := cx_U) [] rfl rfl rfl rfl ?_ ?_ | refine hC.cpw (W := cx_U) [] rfl rfl rfl rfl rfl rfl ?_ | refine hC.cpl (W := cx_U) [] rfl rfl rfl rfl rfl rfl ?_ | refine hC.go [] _ rfl rfl ?_ | (intro h; first | exact (h rfl).elim | (exfalso; cases h; done) | (dsimp only [kk_cP, kk_cN] at h) | skip)
      refine hC.at ce_U_LLg2 (ll_copyFrom l _ _ _) rfl rfl rfl rfl rfl rfl (Nat.le_refl _) ?_
      rintro rs O2 A2 ⟨rfl, q1, ⟨q2, q3, q4⟩, q5⟩
      repeat' first | refine hC.gw [] _ rfl rfl ?_ | refine And.intro ?_ ?_ | exact True.intro | refine hC.iadd [] rfl rfl (by first | omega | (simp only [Int.reduceToNat] at *; omega)) ?_ | refine hC.isub [] rfl rfl (by first | omega | (simp only [Int.reduceToNat] at *; omega)) ?_ | refine hC.imul [] rfl rfl (by first | omega | (simp only [Int.reduceToNat] at *; omega)) ?_ | refine hC.iinc [] rfl rfl rfl rfl (by first | omega | (simp only [Int.reduceToNat] at *; omega)) ?_ | refine hC.pfw (W := cx_U) [] rfl rfl rfl rfl rfl rfl ?_ ?_ | refine hC.iaw (W := cx_U) [] rfl rfl rfl rfl ?_ ?_ | refine hC.law (W := cx_U) [] rfl rfl rfl rfl ?_ ?_ | refine hC.cpw (W := cx_U) [] rfl rfl rfl rfl rfl rfl ?_ | refine hC.cpl (W := cx_U) [] rfl rfl rfl rfl rfl rfl ?_ | refine hC.go [] _ rfl rfl ?_ | (intro h; first | exact (h rfl).elim | (exfalso; cases h; done) | (dsimp only [kk_cP, kk_cN] at h) | skip)
      all_goals first | exact Or.inl rfl | exact Or.inr rfl | skip
      refine ⟨_, _, rfl, Or.inl rfl, ⟨(show (0 : Int) ≤ 2 ∧ (2 : Int) ≤ 7 by decide), (show 0 ≤ O 0 2 - 1 ∧ O 0 2 - 1 ≤ 8 by omega), fun i hi => ?_, ?_⟩, fun p hp => ?_⟩
      · match i, hi with
        | 0, _ => exact hI.2.2.1 0 (by decide)
        | 1, _ => exact hI.2.2.1 1 (by decide)
        | 2, _ =>
          refine ⟨?_, ?_⟩
          · show ll_d (O2 8 9) (O2 8 10) (O2 8 8)
            rw [(q5 8 (by decide) (by decide)).1]
            exact (hI.2.2.1 2 (by decide)).1
          · show ∀ j, j < 32 → 0 ≤ A2 14 j
            rw [(q5 14 (by decide) (by decide)).2]
            exact (hI.2.2.1 2 (by decide)).2
        | 3, _ => exact hI.2.2.1 3 (by decide)
        | 4, _ => exact hI.2.2.1 4 (by decide)
        | 5, _ => exact hI.2.2.1 5 (by decide)
        | 6, _ => exact hI.2.2.1 6 (by decide)
        | 7, _ => exact hI.2.2.1 7 (by decide)
      · refine ⟨?_, ?_⟩
        · show ll_d (O2 0 9) (O2 0 10) (O2 0 8)
          rw [q2, q3, q4]
          exact (hI.2.2.1 2 (by decide)).1
        · show ∀ j, j < 32 → 0 ≤ A2 6 j
          rw [q1]
          exact (hI.2.2.1 2 (by decide)).2
      · match p, hp with
        | 74, _ => exact q5 16 (by decide) (by decide)
        | 75, _ => exact q5 17 (by decide) (by decide)
        | 76, _ => exact q5 18 (by decide) (by decide)
        | 77, _ => exact q5 19 (by decide) (by decide)
        | 78, _ => exact q5 20 (by decide) (by decide)
        | 79, _ => exact q5 21 (by decide) (by decide)
        | 80, _ => exact q5 22 (by decide) (by decide)
        | n + 81, _ =>
          rw [cc_out_out (by simp <;> omega), cc_out_out (by simp <;> omega)]
          exact ⟨(mm_up_ne (by have : Int.toNat 0 = 0 := rfl; omega)).trans (mm_up_ne (by have : Int.toNat 0 = 0 := rfl; omega)), rfl⟩
    · have e2 : mm_up O (Int.toNat 0) (kk_up (O (Int.toNat 0)) 1 3) 0 2 = O 0 2 := rfl
      repeat' first | refine hC.gw [] _ rfl rfl ?_ | refine And.intro ?_ ?_ | exact True.intro | refine hC.iadd [] rfl rfl (by first | omega | (simp only [Int.reduceToNat] at *; omega)) ?_ | refine hC.isub [] rfl rfl (by first | omega | (simp only [Int.reduceToNat] at *; omega)) ?_ | refine hC.imul [] rfl rfl (by first | omega | (simp only [Int.reduceToNat] at *; omega)) ?_ | refine hC.iinc [] rfl rfl rfl rfl (by first | omega | (simp only [Int.reduceToNat] at *; omega)) ?_ | refine hC.pfw (W := cx_U) [] rfl rfl rfl rfl rfl rfl ?_ ?_ | refine hC.iaw (W := cx_U) [] rfl rfl rfl rfl ?_ ?_ | refine hC.law (W := cx_U) [] rfl rfl rfl rfl ?_ ?_ | refine hC.cpw (W := cx_U) [] rfl rfl rfl rfl rfl rfl ?_ | refine hC.cpl (W := cx_U) [] rfl rfl rfl rfl rfl rfl ?_ | refine hC.go [] _ rfl rfl ?_ | (intro h; first | exact (h rfl).elim | (exfalso; cases h; done) | (dsimp only [kk_cP, kk_cN] at h) | skip)
      all_goals first | omega | (show (0 : Int) ≤ 3; decide) | (show (3 : Int) < 8; decide) | skip
      have h9 : some ((4, 26) : en_V) = some _ := h
      cases h9
      repeat' first | refine hC.gw [] _ rfl rfl ?_ | refine And.intro ?_ ?_ | exact True.intro | refine hC.iadd [] rfl rfl (by first | omega | (simp only [Int.reduceToNat] at *; omega)) ?_ | refine hC.isub [] rfl rfl (by first | omega | (simp only [Int.reduceToNat] at *; omega)) ?_ | refine hC.imul [] rfl rfl (by first | omega | (simp only [Int.reduceToNat] at *; omega)) ?_ | refine hC.iinc [] rfl rfl rfl rfl (by first | omega | (simp only [Int.reduceToNat] at *; omega)) ?_ | refine hC.pfw (W := cx_U) [] rfl rfl rfl rfl rfl rfl ?_ ?_ | refine hC.iaw (W := cx_U) [] rfl rfl rfl rfl ?_ ?_ | refine hC.law (W := cx_U) [] rfl rfl rfl rfl ?_ ?_ | refine hC.cpw (W := cx_U) [] rfl rfl rfl rfl rfl rfl ?_ | refine hC.cpl (W := cx_U) [] rfl rfl rfl rfl rfl rfl ?_ | refine hC.go [] _ rfl rfl ?_ | (intro h; first | exact (h rfl).elim | (exfalso; cases h; done) | (dsimp only [kk_cP, kk_cN] at h) | skip)
      refine hC.at ce_U_LLg3 (ll_copyFrom l _ _ _) rfl rfl rfl rfl rfl rfl (Nat.le_refl _) ?_
      rintro rs O2 A2 ⟨rfl, q1, ⟨q2, q3, q4⟩, q5⟩
      repeat' first | refine hC.gw [] _ rfl rfl ?_ | refine And.intro ?_ ?_ | exact True.intro | refine hC.iadd [] rfl rfl (by first | omega | (simp only [Int.reduceToNat] at *; omega)) ?_ | refine hC.isub [] rfl rfl (by first | omega | (simp only [Int.reduceToNat] at *; omega)) ?_ | refine hC.imul [] rfl rfl (by first | omega | (simp only [Int.reduceToNat] at *; omega)) ?_ | refine hC.iinc [] rfl rfl rfl rfl (by first | omega | (simp only [Int.reduceToNat] at *; omega)) ?_ | refine hC.pfw (W := cx_U) [] rfl rfl rfl rfl rfl rfl ?_ ?_ | refine hC.iaw (W := cx_U) [] rfl rfl rfl rfl ?_ ?_ | refine hC.law (W := cx_U) [] rfl rfl rfl rfl ?_ ?_ | refine hC.cpw (W := cx_U) [] rfl rfl rfl rfl rfl rfl ?_ | refine hC.cpl (W := cx_U) [] rfl rfl rfl rfl rfl rfl ?_ | refine hC.go [] _ rfl rfl ?_ | (intro h; first | exact (h rfl).elim | (exfalso; cases h; done) | (dsimp only [kk_cP, kk_cN] at h) | skip)
      all_goals first | exact Or.inl rfl | exact Or.inr rfl | skip
      refine ⟨_, _, rfl, Or.inl rfl, ⟨(show (0 : Int) ≤ 3 ∧ (3 : Int) ≤ 7 by decide), (show 0 ≤ O 0 2 - 1 ∧ O 0 2 - 1 ≤ 8 by omega), fun i hi => ?_, ?_⟩, fun p hp => ?_⟩
      · match i, hi with
        | 0, _ => exact hI.2.2.1 0 (by decide)
        | 1, _ => exact hI.2.2.1 1 (by decide)
        | 2, _ => exact hI.2.2.1 2 (by decide)
        | 3, _ =>
          refine ⟨?_, ?_⟩
          · show ll_d (O2 8 9) (O2 8 10) (O2 8 8)
            rw [(q5 8 (by decide) (by decide)).1]
            exact (hI.2.2.1 3 (by decide)).1
          · show ∀ j, j < 32 → 0 ≤ A2 14 j
            rw [(q5 14 (by decide) (by decide)).2]
            exact (hI.2.2.1 3 (by decide)).2
        | 4, _ => exact hI.2.2.1 4 (by decide)
        | 5, _ => exact hI.2.2.1 5 (by decide)
        | 6, _ => exact hI.2.2.1 6 (by decide)
        | 7, _ => exact hI.2.2.1 7 (by decide)
      · refine ⟨?_, ?_⟩
        · show ll_d (O2 0 9) (O2 0 10) (O2 0 8)
          rw [q2, q3, q4]
          exact (hI.2.2.1 3 (by decide)).1
        · show ∀ j, j < 32 → 0 ≤ A2 6 j
          rw [q1]
          exact (hI.2.2.1 3 (by decide)).2
      · match p, hp with
        | 74, _ => exact q5 16 (by decide) (by decide)
        | 75, _ => exact q5 17 (by decide) (by decide)
        | 76, _ => exact q5 18 (by decide) (by decide)
        | 77, _ => exact q5 19 (by decide) (by decide)
        | 78, _ => exact q5 20 (by decide) (by decide)
        | 79, _ => exact q5 21 (by decide) (by decide)
        | 80, _ => exact q5 22 (by decide) (by decide)
        | n + 81, _ =>
          rw [cc_out_out (by simp <;> omega), cc_out_out (by simp <;> omega)]
          exact ⟨(mm_up_ne (by have : Int.toNat 0 = 0 := rfl; omega)).trans (mm_up_ne (by have : Int.toNat 0 = 0 := rfl; omega)), rfl⟩
    · have e2 : mm_up O (Int.toNat 0) (kk_up (O (Int.toNat 0)) 1 4) 0 2 = O 0 2 := rfl
      repeat' first | refine hC.gw [] _ rfl rfl ?_ | refine And.intro ?_ ?_ | exact True.intro | refine hC.iadd [] rfl rfl (by first | omega | (simp only [Int.reduceToNat] at *; omega)) ?_ | refine hC.isub [] rfl rfl (by first | omega | (simp only [Int.reduceToNat] at *; omega)) ?_ | refine hC.imul [] rfl rfl (by first | omega | (simp only [Int.reduceToNat] at *; omega)) ?_ | refine hC.iinc [] rfl rfl rfl rfl (by first | omega | (simp only [Int.reduceToNat] at *; omega)) ?_ | refine hC.pfw (W := cx_U) [] rfl rfl rfl rfl rfl rfl ?_ ?_ | refine hC.iaw (W := cx_U) [] rfl rfl rfl rfl ?_ ?_ | refine hC.law (W := cx_U) [] rfl rfl rfl rfl ?_ ?_ | refine hC.cpw (W := cx_U) [] rfl rfl rfl rfl rfl rfl ?_ | refine hC.cpl (W := cx_U) [] rfl rfl rfl rfl rfl rfl ?_ | refine hC.go [] _ rfl rfl ?_ | (intro h; first | exact (h rfl).elim | (exfalso; cases h; done) | (dsimp only [kk_cP, kk_cN] at h) | skip)
      all_goals first | omega | (show (0 : Int) ≤ 4; decide) | (show (4 : Int) < 8; decide) | skip
      have h9 : some ((4, 34) : en_V) = some _ := h
      cases h9
      repeat' first | refine hC.gw [] _ rfl rfl ?_ | refine And.intro ?_ ?_ | exact True.intro | refine hC.iadd [] rfl rfl (by first | omega | (simp only [Int.reduceToNat] at *; omega)) ?_ | refine hC.isub [] rfl rfl (by first | omega | (simp only [Int.reduceToNat] at *; omega)) ?_ | refine hC.imul [] rfl rfl (by first | omega | (simp only [Int.reduceToNat] at *; omega)) ?_ | refine hC.iinc [] rfl rfl rfl rfl (by first | omega | (simp only [Int.reduceToNat] at *; omega)) ?_ | refine hC.pfw (W := cx_U) [] rfl rfl rfl rfl rfl rfl ?_ ?_ | refine hC.iaw (W := cx_U) [] rfl rfl rfl rfl ?_ ?_ | refine hC.law (W := cx_U) [] rfl rfl rfl rfl ?_ ?_ | refine hC.cpw (W := cx_U) [] rfl rfl rfl rfl rfl rfl ?_ | refine hC.cpl (W := cx_U) [] rfl rfl rfl rfl rfl rfl ?_ | refine hC.go [] _ rfl rfl ?_ | (intro h; first | exact (h rfl).elim | (exfalso; cases h; done) | (dsimp only [kk_cP, kk_cN] at h) | skip)
      refine hC.at ce_U_LLg4 (ll_copyFrom l _ _ _) rfl rfl rfl rfl rfl rfl (Nat.le_refl _) ?_
      rintro rs O2 A2 ⟨rfl, q1, ⟨q2, q3, q4⟩, q5⟩
      repeat' first | refine hC.gw [] _ rfl rfl ?_ | refine And.intro ?_ ?_ | exact True.intro | refine hC.iadd [] rfl rfl (by first | omega | (simp only [Int.reduceToNat] at *; omega)) ?_ | refine hC.isub [] rfl rfl (by first | omega | (simp only [Int.reduceToNat] at *; omega)) ?_ | refine hC.imul [] rfl rfl (by first | omega | (simp only [Int.reduceToNat] at *; omega)) ?_ | refine hC.iinc [] rfl rfl rfl rfl (by first | omega | (simp only [Int.reduceToNat] at *; omega)) ?_ | refine hC.pfw (W := cx_U) [] rfl rfl rfl rfl rfl rfl ?_ ?_ | refine hC.iaw (W := cx_U) [] rfl rfl rfl rfl ?_ ?_ | refine hC.law (W := cx_U) [] rfl rfl rfl rfl ?_ ?_ | refine hC.cpw (W := cx_U) [] rfl rfl rfl rfl rfl rfl ?_ | refine hC.cpl (W := cx_U) [] rfl rfl rfl rfl rfl rfl ?_ | refine hC.go [] _ rfl rfl ?_ | (intro h; first | exact (h rfl).elim | (exfalso; cases h; done) | (dsimp only [kk_cP, kk_cN] at h) | skip)
      all_goals first | exact Or.inl rfl | exact Or.inr rfl | skip
      refine ⟨_, _, rfl, Or.inl rfl, ⟨(show (0 : Int) ≤ 4 ∧ (4 : Int) ≤ 7 by decide), (show 0 ≤ O 0 2 - 1 ∧ O 0 2 - 1 ≤ 8 by omega), fun i hi => ?_, ?_⟩, fun p hp => ?_⟩
      · match i, hi with
        | 0, _ => exact hI.2.2.1 0 (by decide)
        | 1, _ => exact hI.2.2.1 1 (by decide)
        | 2, _ => exact hI.2.2.1 2 (by decide)
        | 3, _ => exact hI.2.2.1 3 (by decide)
        | 4, _ =>
          refine ⟨?_, ?_⟩
          · show ll_d (O2 8 9) (O2 8 10) (O2 8 8)
            rw [(q5 8 (by decide) (by decide)).1]
            exact (hI.2.2.1 4 (by decide)).1
          · show ∀ j, j < 32 → 0 ≤ A2 14 j
            rw [(q5 14 (by decide) (by decide)).2]
            exact (hI.2.2.1 4 (by decide)).2
        | 5, _ => exact hI.2.2.1 5 (by decide)
        | 6, _ => exact hI.2.2.1 6 (by decide)
        | 7, _ => exact hI.2.2.1 7 (by decide)
      · refine ⟨?_, ?_⟩
        · show ll_d (O2 0 9) (O2 0 10) (O2 0 8)
          rw [q2, q3, q4]
          exact (hI.2.2.1 4 (by decide)).1
        · show ∀ j, j < 32 → 0 ≤ A2 6 j
          rw [q1]
          exact (hI.2.2.1 4 (by decide)).2
      · match p, hp with
        | 74, _ => exact q5 16 (by decide) (by decide)
        | 75, _ => exact q5 17 (by decide) (by decide)
        | 76, _ => exact q5 18 (by decide) (by decide)
        | 77, _ => exact q5 19 (by decide) (by decide)
        | 78, _ => exact q5 20 (by decide) (by decide)
        | 79, _ => exact q5 21 (by decide) (by decide)
        | 80, _ => exact q5 22 (by decide) (by decide)
        | n + 81, _ =>
          rw [cc_out_out (by simp <;> omega), cc_out_out (by simp <;> omega)]
          exact ⟨(mm_up_ne (by have : Int.toNat 0 = 0 := rfl; omega)).trans (mm_up_ne (by have : Int.toNat 0 = 0 := rfl; omega)), rfl⟩
    · have e2 : mm_up O (Int.toNat 0) (kk_up (O (Int.toNat 0)) 1 5) 0 2 = O 0 2 := rfl
      repeat' first | refine hC.gw [] _ rfl rfl ?_ | refine And.intro ?_ ?_ | exact True.intro | refine hC.iadd [] rfl rfl (by first | omega | (simp only [Int.reduceToNat] at *; omega)) ?_ | refine hC.isub [] rfl rfl (by first | omega | (simp only [Int.reduceToNat] at *; omega)) ?_ | refine hC.imul [] rfl rfl (by first | omega | (simp only [Int.reduceToNat] at *; omega)) ?_ | refine hC.iinc [] rfl rfl rfl rfl (by first | omega | (simp only [Int.reduceToNat] at *; omega)) ?_ | refine hC.pfw (W := cx_U) [] rfl rfl rfl rfl rfl rfl ?_ ?_ | refine hC.iaw (W := cx_U) [] rfl rfl rfl rfl ?_ ?_ | refine hC.law (W := cx_U) [] rfl rfl rfl rfl ?_ ?_ | refine hC.cpw (W := cx_U) [] rfl rfl rfl rfl rfl rfl ?_ | refine hC.cpl (W := cx_U) [] rfl rfl rfl rfl rfl rfl ?_ | refine hC.go [] _ rfl rfl ?_ | (intro h; first | exact (h rfl).elim | (exfalso; cases h; done) | (dsimp only [kk_cP, kk_cN] at h) | skip)
      all_goals first | omega | (show (0 : Int) ≤ 5; decide) | (show (5 : Int) < 8; decide) | skip
      have h9 : some ((4, 42) : en_V) = some _ := h
      cases h9
      repeat' first | refine hC.gw [] _ rfl rfl ?_ | refine And.intro ?_ ?_ | exact True.intro | refine hC.iadd [] rfl rfl (by first | omega | (simp only [Int.reduceToNat] at *; omega)) ?_ | refine hC.isub [] rfl rfl (by first | omega | (simp only [Int.reduceToNat] at *; omega)) ?_ | refine hC.imul [] rfl rfl (by first | omega | (simp only [Int.reduceToNat] at *; omega)) ?_ | refine hC.iinc [] rfl rfl rfl rfl (by first | omega | (simp only [Int.reduceToNat] at *; omega)) ?_ | refine hC.pfw (W := cx_U) [] rfl rfl rfl rfl rfl rfl ?_ ?_ | refine hC.iaw (W := cx_U) [] rfl rfl rfl rfl ?_ ?_ | refine hC.law (W := cx_U) [] rfl rfl rfl rfl ?_ ?_ | refine hC.cpw (W := cx_U) [] rfl rfl rfl rfl rfl rfl ?_ | refine hC.cpl (W := cx_U) [] rfl rfl rfl rfl rfl rfl ?_ | refine hC.go [] _ rfl rfl ?_ | (intro h; first | exact (h rfl).elim | (exfalso; cases h; done) | (dsimp only [kk_cP, kk_cN] at h) | skip)
      refine hC.at ce_U_LLg5 (ll_copyFrom l _ _ _) rfl rfl rfl rfl rfl rfl (Nat.le_refl _) ?_
      rintro rs O2 A2 ⟨rfl, q1, ⟨q2, q3, q4⟩, q5⟩
      repeat' first | refine hC.gw [] _ rfl rfl ?_ | refine And.intro ?_ ?_ | exact True.intro | refine hC.iadd [] rfl rfl (by first | omega | (simp only [Int.reduceToNat] at *; omega)) ?_ | refine hC.isub [] rfl rfl (by first | omega | (simp only [Int.reduceToNat] at *; omega)) ?_ | refine hC.imul [] rfl rfl (by first | omega | (simp only [Int.reduceToNat] at *; omega)) ?_ | refine hC.iinc [] rfl rfl rfl rfl (by first | omega | (simp only [Int.reduceToNat] at *; omega)) ?_ | refine hC.pfw (W := cx_U) [] rfl rfl rfl rfl rfl rfl ?_ ?_ | refine hC.iaw (W := cx_U) [] rfl rfl rfl rfl ?_ ?_ | refine hC.law (W := cx_U) [] rfl rfl rfl rfl ?_ ?_ | refine hC.cpw (W := cx_U) [] rfl rfl rfl rfl rfl rfl ?_ | refine hC.cpl (W := cx_U) [] rfl rfl rfl rfl rfl rfl ?_ | refine hC.go [] _ rfl rfl ?_ | (intro h; first | exact (h rfl).elim | (exfalso; cases h; done) | (dsimp only [kk_cP, kk_cN] at h) | skip)
      all_goals first | exact Or.inl rfl | exact Or.inr rfl | skip
      refine ⟨_, _, rfl, Or.inl rfl, ⟨(show (0 : Int) ≤ 5 ∧ (5 : Int) ≤ 7 by decide), (show 0 ≤ O 0 2 - 1 ∧ O 0 2 - 1 ≤ 8 by omega), fun i hi => ?_, ?_⟩, fun p hp => ?_⟩
      · match i, hi with
        | 0, _ => exact hI.2.2.1 0 (by decide)
        | 1, _ => exact hI.2.2.1 1 (by decide)
        | 2, _ => exact hI.2.2.1 2 (by decide)
        | 3, _ => exact hI.2.2.1 3 (by decide)
        | 4, _ => exact hI.2.2.1 4 (by decide)
        | 5, _ =>
          refine ⟨?_, ?_⟩
          · show ll_d (O2 8 9) (O2 8 10) (O2 8 8)
            rw [(q5 8 (by decide) (by decide)).1]
            exact (hI.2.2.1 5 (by decide)).1
          · show ∀ j, j < 32 → 0 ≤ A2 14 j
            rw [(q5 14 (by decide) (by decide)).2]
            exact (hI.2.2.1 5 (by decide)).2
        | 6, _ => exact hI.2.2.1 6 (by decide)
        | 7, _ => exact hI.2.2.1 7 (by decide)
      · refine ⟨?_, ?_⟩
        · show ll_d (O2 0 9) (O2 0 10) (O2 0 8)
          rw [q2, q3, q4]
          exact (hI.2.2.1 5 (by decide)).1
        · show ∀ j, j < 32 → 0 ≤ A2 6 j
          rw [q1]
          exact (hI.2.2.1 5 (by decide)).2
      · match p, hp with
        | 74, _ => exact q5 16 (by decide) (by decide)
        | 75, _ => exact q5 17 (by decide) (by decide)
        | 76, _ => exact q5 18 (by decide) (by decide)
        | 77, _ => exact q5 19 (by decide) (by decide)
        | 78, _ => exact q5 20 (by decide) (by decide)
        | 79, _ => exact q5 21 (by decide) (by decide)
        | 80, _ => exact q5 22 (by decide) (by decide)
        | n + 81, _ =>
          rw [cc_out_out (by simp <;> omega), cc_out_out (by simp <;> omega)]
          exact ⟨(mm_up_ne (by have : Int.toNat 0 = 0 := rfl; omega)).trans (mm_up_ne (by have : Int.toNat 0 = 0 := rfl; omega)), rfl⟩
    · have e2 : mm_up O (Int.toNat 0) (kk_up (O (Int.toNat 0)) 1 6) 0 2 = O 0 2 := rfl
      repeat' first | refine hC.gw [] _ rfl rfl ?_ | refine And.intro ?_ ?_ | exact True.intro | refine hC.iadd [] rfl rfl (by first | omega | (simp only [Int.reduceToNat] at *; omega)) ?_ | refine hC.isub [] rfl rfl (by first | omega | (simp only [Int.reduceToNat] at *; omega)) ?_ | refine hC.imul [] rfl rfl (by first | omega | (simp only [Int.reduceToNat] at *; omega)) ?_ | refine hC.iinc [] rfl rfl rfl rfl (by first | omega | (simp only [Int.reduceToNat] at *; omega)) ?_ | refine hC.pfw (W := cx_U) [] rfl rfl rfl rfl rfl rfl ?_ ?_ | refine hC.iaw (W := cx_U) [] rfl rfl rfl rfl ?_ ?_ | refine hC.law (W := cx_U) [] rfl rfl rfl rfl ?_ ?_ | refine hC.cpw (W := cx_U) [] rfl rfl rfl rfl rfl rfl ?_ | refine hC.cpl (W := cx_U) [] rfl rfl rfl rfl rfl rfl ?_ | refine hC.go [] _ rfl rfl ?_ | (intro h; first | exact (h rfl).elim | (exfalso; cases h; done) | (dsimp only [kk_cP, kk_cN] at h) | skip)
      all_goals first | omega | (show (0 : Int) ≤ 6; decide) | (show (6 : Int) < 8; decide) | skip
      have h9 : some ((4, 50) : en_V) = some _ := h
      cases h9
      repeat' first | refine hC.gw [] _ rfl rfl ?_ | refine And.intro ?_ ?_ | exact True.intro | refine hC.iadd [] rfl rfl (by first | omega | (simp only [Int.reduceToNat] at *; omega)) ?_ | refine hC.isub [] rfl rfl (by first | omega | (simp only [Int.reduceToNat] at *; omega)) ?_ | refine hC.imul [] rfl rfl (by first | omega | (simp only [Int.reduceToNat] at *; omega)) ?_ | refine hC.iinc [] rfl rfl rfl rfl (by first | omega | (simp only [Int.reduceToNat] at *; omega)) ?_ | refine hC.pfw (W := cx_U) [] rfl rfl rfl rfl rfl rfl ?_ ?_ | refine hC.iaw (W := cx_U) [] rfl rfl rfl rfl ?_ ?_ | refine hC.law (W := cx_U) [] rfl rfl rfl rfl ?_ ?_ | refine hC.cpw (W := cx_U) [] rfl rfl rfl rfl rfl rfl ?_ | refine hC.cpl (W := cx_U) [] rfl rfl rfl rfl rfl rfl ?_ | refine hC.go [] _ rfl rfl ?_ | (intro h; first | exact (h rfl).elim | (exfalso; cases h; done) | (dsimp only [kk_cP, kk_cN] at h) | skip)
      refine hC.at ce_U_LLg6 (ll_copyFrom l _ _ _) rfl rfl rfl rfl rfl rfl (Nat.le_refl _) ?_
      rintro rs O2 A2 ⟨rfl, q1, ⟨q2, q3, q4⟩, q5⟩
      repeat' first | refine hC.gw [] _ rfl rfl ?_ | refine And.intro ?_ ?_ | exact True.intro | refine hC.iadd [] rfl rfl (by first | omega | (simp only [Int.reduceToNat] at *; omega)) ?_ | refine hC.isub [] rfl rfl (by first | omega | (simp only [Int.reduceToNat] at *; omega)) ?_ | refine hC.imul [] rfl rfl (by first | omega | (simp only [Int.reduceToNat] at *; omega)) ?_ | refine hC.iinc [] rfl rfl rfl rfl (by first | omega | (simp only [Int.reduceToNat] at *; omega)) ?_ | refine hC.pfw (W := cx_U) [] rfl rfl rfl rfl rfl rfl ?_ ?_ | refine hC.iaw (W := cx_U) [] rfl rfl rfl rfl ?_ ?_ | refine hC.law (W := cx_U) [] rfl rfl rfl rfl ?_ ?_ | refine hC.cpw (W := cx_U) [] rfl rfl rfl rfl rfl rfl ?_ | refine hC.cpl (W := cx_U) [] rfl rfl rfl rfl rfl rfl ?_ | refine hC.go [] _ rfl rfl ?_ | (intro h; first | exact (h rfl).elim | (exfalso; cases h; done) | (dsimp only [kk_cP, kk_cN] at h) | skip)
      all_goals first | exact Or.inl rfl | exact Or.inr rfl | skip
      refine ⟨_, _, rfl, Or.inl rfl, ⟨(show (0 : Int) ≤ 6 ∧ (6 : Int) ≤ 7 by decide), (show 0 ≤ O 0 2 - 1 ∧ O 0 2 - 1 ≤ 8 by omega), fun i hi => ?_, ?_⟩, fun p hp => ?_⟩
      · match i, hi with
        | 0, _ => exact hI.2.2.1 0 (by decide)
        | 1, _ => exact hI.2.2.1 1 (by decide)
        | 2, _ => exact hI.2.2.1 2 (by decide)
        | 3, _ => exact hI.2.2.1 3 (by decide)
        | 4, _ => exact hI.2.2.1 4 (by decide)
        | 5, _ => exact hI.2.2.1 5 (by decide)
        | 6, _ =>
          refine ⟨?_, ?_⟩
          · show ll_d (O2 8 9) (O2 8 10) (O2 8 8)
            rw [(q5 8 (by decide) (by decide)).1]
            exact (hI.2.2.1 6 (by decide)).1
          · show ∀ j, j < 32 → 0 ≤ A2 14 j
            rw [(q5 14 (by decide) (by decide)).2]
            exact (hI.2.2.1 6 (by decide)).2
        | 7, _ => exact hI.2.2.1 7 (by decide)
      · refine ⟨?_, ?_⟩
        · show ll_d (O2 0 9) (O2 0 10) (O2 0 8)
          rw [q2, q3, q4]
          exact (hI.2.2.1 6 (by decide)).1
        · show ∀ j, j < 32 → 0 ≤ A2 6 j
          rw [q1]
          exact (hI.2.2.1 6 (by decide)).2
      · match p, hp with
        | 74, _ => exact q5 16 (by decide) (by decide)
        | 75, _ => exact q5 17 (by decide) (by decide)
        | 76, _ => exact q5 18 (by decide) (by decide)
        | 77, _ => exact q5 19 (by decide) (by decide)
        | 78, _ => exact q5 20 (by decide) (by decide)
        | 79, _ => exact q5 21 (by decide) (by decide)
        | 80, _ => exact q5 22 (by decide) (by decide)
        | n + 81, _ =>
          rw [cc_out_out (by simp <;> omega), cc_out_out (by simp <;> omega)]
          exact ⟨(mm_up_ne (by have : Int.toNat 0 = 0 := rfl; omega)).trans (mm_up_ne (by have : Int.toNat 0 = 0 := rfl; omega)), rfl⟩
    · have e2 : mm_up O (Int.toNat 0) (kk_up (O (Int.toNat 0)) 1 7) 0 2 = O 0 2 := rfl
      repeat' first | refine hC.gw [] _ rfl rfl ?_ | refine And.intro ?_ ?_ | exact True.intro | refine hC.iadd [] rfl rfl (by first | omega | (simp only [Int.reduceToNat] at *; omega)) ?_ | refine hC.isub [] rfl rfl (by first | omega | (simp only [Int.reduceToNat] at *; omega)) ?_ | refine hC.imul [] rfl rfl (by first | omega | (simp only [Int.reduceToNat] at *; omega)) ?_ | refine hC.iinc [] rfl rfl rfl rfl (by first | omega | (simp only [Int.reduceToNat] at *; omega)) ?_ | refine hC.pfw (W := cx_U) [] rfl rfl rfl rfl rfl rfl ?_ ?_ | refine hC.iaw (W := cx_U) [] rfl rfl rfl rfl ?_ ?_ | refine hC.law (W := cx_U) [] rfl rfl rfl rfl ?_ ?_ | refine hC.cpw (W := cx_U) [] rfl rfl rfl rfl rfl rfl ?_ | refine hC.cpl (W := cx_U) [] rfl rfl rfl rfl rfl rfl ?_ | refine hC.go [] _ rfl rfl ?_ | (intro h; first | exact (h rfl).elim | (exfalso; cases h; done) | (dsimp only [kk_cP, kk_cN] at h) | skip)
      all_goals first | omega | (show (0 : Int) ≤ 7; decide) | (show (7 : Int) < 8; decide) | skip
      have h9 : some ((4, 58) : en_V) = some _ := h
      cases h9
      repeat' first | refine hC.gw [] _ rfl rfl ?_ | refine And.intro ?_ ?_ | exact True.intro | refine hC.iadd [] rfl rfl (by first | omega | (simp only [Int.reduceToNat] at *; omega)) ?_ | refine hC.isub [] rfl rfl (by first | omega | (simp only [Int.reduceToNat] at *; omega)) ?_ | refine hC.imul [] rfl rfl (by first | omega | (simp only [Int.reduceToNat] at *; omega)) ?_ | refine hC.iinc [] rfl rfl rfl rfl (by first | omega | (simp only [Int.reduceToNat] at *; omega)) ?_ | refine hC.pfw (W := cx_U) [] rfl rfl rfl rfl rfl rfl ?_ ?_ | refine hC.iaw (W := cx_U) [] rfl rfl rfl rfl ?_ ?_ | refine hC.law (W := cx_U) [] rfl rfl rfl rfl ?_ ?_ | refine hC.cpw (W := cx_U) [] rfl rfl rfl rfl rfl rfl ?_ | refine hC.cpl (W := cx_U) [] rfl rfl rfl rfl rfl rfl ?_ | refine hC.go [] _ rfl rfl ?_ | (intro h; first | exact (h rfl).elim | (exfalso; cases h; done) | (dsimp only [kk_cP, kk_cN] at h) | skip)
      refine hC.at ce_U_LLg7 (ll_copyFrom l _ _ _) rfl rfl rfl rfl rfl rfl (Nat.le_refl _) ?_
      rintro rs O2 A2 ⟨rfl, q1, ⟨q2, q3, q4⟩, q5⟩
      repeat' first | refine hC.gw [] _ rfl rfl ?_ | refine And.intro ?_ ?_ | exact True.intro | refine hC.iadd [] rfl rfl (by first | omega | (simp only [Int.reduceToNat] at *; omega)) ?_ | refine hC.isub [] rfl rfl (by first | omega | (simp only [Int.reduceToNat] at *; omega)) ?_ | refine hC.imul [] rfl rfl (by first | omega | (simp only [Int.reduceToNat] at *; omega)) ?_ | refine hC.iinc [] rfl rfl rfl rfl (by first | omega | (simp only [Int.reduceToNat] at *; omega)) ?_ | refine hC.pfw (W := cx_U) [] rfl rfl rfl rfl rfl rfl ?_ ?_ | refine hC.iaw (W := cx_U) [] rfl rfl rfl rfl ?_ ?_ | refine hC.law (W := cx_U) [] rfl rfl rfl rfl ?_ ?_ | refine hC.cpw (W := cx_U) [] rfl rfl rfl rfl rfl rfl ?_ | refine hC.cpl (W := cx_U) [] rfl rfl rfl rfl rfl rfl ?_ | refine hC.go [] _ rfl rfl ?_ | (intro h; first | exact (h rfl).elim | (exfalso; cases h; done) | (dsimp only [kk_cP, kk_cN] at h) | skip)
      all_goals first | exact Or.inl rfl | exact Or.inr rfl | skip
      refine ⟨_, _, rfl, Or.inl rfl, ⟨(show (0 : Int) ≤ 7 ∧ (7 : Int) ≤ 7 by decide), (show 0 ≤ O 0 2 - 1 ∧ O 0 2 - 1 ≤ 8 by omega), fun i hi => ?_, ?_⟩, fun p hp => ?_⟩
      · match i, hi with
        | 0, _ => exact hI.2.2.1 0 (by decide)
        | 1, _ => exact hI.2.2.1 1 (by decide)
        | 2, _ => exact hI.2.2.1 2 (by decide)
        | 3, _ => exact hI.2.2.1 3 (by decide)
        | 4, _ => exact hI.2.2.1 4 (by decide)
        | 5, _ => exact hI.2.2.1 5 (by decide)
        | 6, _ => exact hI.2.2.1 6 (by decide)
        | 7, _ =>
          refine ⟨?_, ?_⟩
          · show ll_d (O2 8 9) (O2 8 10) (O2 8 8)
            rw [(q5 8 (by decide) (by decide)).1]
            exact (hI.2.2.1 7 (by decide)).1
          · show ∀ j, j < 32 → 0 ≤ A2 14 j
            rw [(q5 14 (by decide) (by decide)).2]
            exact (hI.2.2.1 7 (by decide)).2
      · refine ⟨?_, ?_⟩
        · show ll_d (O2 0 9) (O2 0 10) (O2 0 8)
          rw [q2, q3, q4]
          exact (hI.2.2.1 7 (by decide)).1
        · show ∀ j, j < 32 → 0 ≤ A2 6 j
          rw [q1]
          exact (hI.2.2.1 7 (by decide)).2
      · match p, hp with
        | 74, _ => exact q5 16 (by decide) (by decide)
        | 75, _ => exact q5 17 (by decide) (by decide)
        | 76, _ => exact q5 18 (by decide) (by decide)
        | 77, _ => exact q5 19 (by decide) (by decide)
        | 78, _ => exact q5 20 (by decide) (by decide)
        | 79, _ => exact q5 21 (by decide) (by decide)
        | 80, _ => exact q5 22 (by decide) (by decide)
        | n + 81, _ =>
          rw [cc_out_out (by simp <;> omega), cc_out_out (by simp <;> omega)]
          exact ⟨(mm_up_ne (by have : Int.toNat 0 = 0 := rfl; omega)).trans (mm_up_ne (by have : Int.toNat 0 = 0 := rfl; omega)), rfl⟩
  repeat' first | refine hC.gw [22] _ rfl rfl ?_ | refine And.intro ?_ ?_ | exact True.intro | refine hC.iadd [22] rfl rfl (by first | omega | (simp only [Int.reduceToNat] at *; omega)) ?_ | refine hC.isub [22] rfl rfl (by first | omega | (simp only [Int.reduceToNat] at *; omega)) ?_ | refine hC.imul [22] rfl rfl (by first | omega | (simp only [Int.reduceToNat] at *; omega)) ?_ | refine hC.iinc [22] rfl rfl rfl rfl (by first | omega | (simp only [Int.reduceToNat] at *; omega)) ?_ | refine hC.pfw (W := cx_U) [22] rfl rfl rfl rfl rfl rfl ?_ ?_ | refine hC.iaw (W := cx_U) [22] rfl rfl rfl rfl ?_ ?_ | refine hC.law (W := cx_U) [22] rfl rfl rfl rfl ?_ ?_ | refine hC.cpw (W := cx_U) [22] rfl rfl rfl rfl rfl rfl ?_ | refine hC.cpl (W := cx_U) [22] rfl rfl rfl rfl rfl rfl ?_ | refine hC.go [22] _ rfl rfl ?_ | (intro h; first | exact (h rfl).elim | (exfalso; cases h; done) | (dsimp only [kk_cP, kk_cN] at h) | skip)
  all_goals first | exact Or.inl rfl | exact Or.inr rfl | exact ⟨_, _, rfl, Or.inr rfl, hI, fun _ _ => ⟨rfl, rfl⟩⟩ | exact k22 _ (kk_rem8 (by omega) (by omega)) (by omega)
