/-! THE CLASS, 20: what is kept for undoing -/
def uu_I (O A : Nat → Nat → Int) : Prop := (0 ≤ O 0 1 ∧ O 0 1 ≤ 7) ∧ (0 ≤ O 0 2 ∧ O 0 2 ≤ 8) ∧ (∀ k, k < 8 → ll_d (O (2 + 8 * k) 9) (O (2 + 8 * k) 10) (O (2 + 8 * k) 8) ∧ ∀ j, j < 32 → 0 ≤ A (8 + 8 * k) j) ∧ (ll_d (O 66 9) (O 66 10) (O 66 8) ∧ ∀ j, j < 32 → 0 ≤ A 72 j)
set_option maxRecDepth 100000 in
set_option maxHeartbeats 4000000 in
theorem uu_forget (l : Launch) (d : Nat) (O A : Nat → Nat → Int) (hI : uu_I O A) : kk_Ctr l d en_t_X9_forget [(4, 0)] (cx_U O A) (fun rs w' => ∃ O' A', w' = cx_U O' A' ∧ rs = [] ∧ uu_I O' A' ∧ (∀ p, 0 < p → O' p = O p) ∧ A' = A) := by
  refine kk_ctr en_hM (List.mem_of_getElem? (i := 159) rfl) rfl (Nat.le_of_ble_eq_true rfl) (fun K hC => ?_)
  repeat' first | refine hC.gw [] _ rfl rfl ?_ | refine And.intro ?_ ?_ | exact True.intro | refine hC.iadd [] rfl rfl (by first | omega | (simp only [Int.reduceToNat] at *; omega)) ?_ | refine hC.isub [] rfl rfl (by first | omega | (simp only [Int.reduceToNat] at *; omega)) ?_ | refine hC.imul [] rfl rfl (by first | omega | (simp only [Int.reduceToNat] at *; omega)) ?_ | refine hC.iinc [] rfl rfl rfl rfl (by first | omega | (simp only [Int.reduceToNat] at *; omega)) ?_ | refine hC.pfw (W := cx_U) [] rfl rfl rfl rfl rfl rfl ?_ ?_ | refine hC.iaw (W := cx_U) [] rfl rfl rfl rfl ?_ ?_ | refine hC.law (W := cx_U) [] rfl rfl rfl rfl ?_ ?_ | refine hC.cpw (W := cx_U) [] rfl rfl rfl rfl rfl rfl ?_ | refine hC.cpl (W := cx_U) [] rfl rfl rfl rfl rfl rfl ?_ | refine hC.go [] _ rfl rfl ?_ | (intro h; first | exact (h rfl).elim | (exfalso; cases h; done) | (dsimp only [kk_cP, kk_cN] at h) | skip)
  refine ⟨_, _, rfl, rfl, ⟨hI.1, (show (0 : Int) ≤ 0 ∧ (0 : Int) ≤ 8 by decide), fun k hk => ?_, hI.2.2.2⟩, fun p hp => mm_up_ne (by have : Int.toNat 0 = 0 := rfl; omega), rfl⟩
  rw [mm_up_ne (by have : Int.toNat 0 = 0 := rfl; omega)]
  exact hI.2.2.1 k hk
theorem kk_rem8 {x : Int} (h0 : 0 ≤ x) (h1 : x ≤ 1000) : 0 ≤ kk_i2 10 x 8 ∧ kk_i2 10 x 8 ≤ 7 := by
  rw [kk_irem (x := x) (y := 8) ⟨by omega, by omega⟩ ⟨by omega, by omega⟩]
  have h2 := Int.tmod_nonneg (a := x) 8 h0
  have h3 := Int.tmod_lt_of_pos x (show (0 : Int) < 8 by decide)
  omega
set_option maxRecDepth 100000 in
set_option maxHeartbeats 4000000 in
theorem uu_keep (l : Launch) (d : Nat) (O A : Nat → Nat → Int) (hI : uu_I O A) : kk_Ctr l (d + 1) en_t_X9_keep [(4, 0), (4, 66)] (cx_U O A) (fun rs w' => ∃ O' A', w' = cx_U O' A' ∧ rs = [] ∧ uu_I O' A' ∧ (∀ p, 66 ≤ p → O' p = O p ∧ A' p = A p)) := by
  refine kk_ctr en_hM (List.mem_of_getElem? (i := 160) rfl) rfl (Nat.le_of_ble_eq_true rfl) (fun K hC => ?_)
  have k20 : ∀ (O1 A1 : Nat → Nat → Int) (v : Int), uu_I O1 A1 → (∀ p, 66 ≤ p → O1 p = O p ∧ A1 p = A p) → K 20 [(0, (4, 0)), (1, (4, 66)), (2, (4, v))] [] (cx_U O1 A1) := by
    intro O1 A1 v hJ hB
    have hn := hJ.1
    have hs := hJ.2.1
    have k30 : ∀ (x : Int), 0 ≤ x ∧ x ≤ 7 → K 30 [(0, (4, 0)), (1, (4, 66)), (2, (4, v))] [(0, x), (4, 0)] (cx_U O1 A1) := by
      intro x hx
      have e2 : mm_up O1 (Int.toNat 0) (kk_up (O1 (Int.toNat 0)) 1 x) 0 2 = O1 0 2 := rfl
      repeat' first | refine hC.gw [] _ rfl rfl ?_ | refine And.intro ?_ ?_ | exact True.intro | refine hC.iadd [] rfl rfl (by first | omega | (simp only [Int.reduceToNat] at *; omega)) ?_ | refine hC.isub [] rfl rfl (by first | omega | (simp only [Int.reduceToNat] at *; omega)) ?_ | refine hC.imul [] rfl rfl (by first | omega | (simp only [Int.reduceToNat] at *; omega)) ?_ | refine hC.iinc [] rfl rfl rfl rfl (by first | omega | (simp only [Int.reduceToNat] at *; omega)) ?_ | refine hC.pfw (W := cx_U) [] rfl rfl rfl rfl rfl rfl ?_ ?_ | refine hC.iaw (W := cx_U) [] rfl rfl rfl rfl ?_ ?_ | refine hC.law (W := cx_U) [] rfl rfl rfl rfl ?_ ?_ | refine hC.cpw (W := cx_U) [] rfl rfl rfl rfl rfl rfl ?_ | refine hC.cpl (W := cx_U) [] rfl rfl rfl rfl rfl rfl ?_ | refine hC.go [] _ rfl rfl ?_ | (intro h; first | exact (h rfl).elim | (exfalso; cases h; done) | (dsimp only [kk_cP, kk_cN] at h) | skip)
      refine ⟨_, _, rfl, rfl, ⟨hx, (show 0 ≤ min (O1 0 2 + 1) 8 ∧ min (O1 0 2 + 1) 8 ≤ 8 by omega), fun k hk => ?_, hJ.2.2.2⟩, fun p hp => ⟨?_, (hB p hp).2⟩⟩
      · rw [mm_up_ne (by have : Int.toNat 0 = 0 := rfl; omega), mm_up_ne (by have : Int.toNat 0 = 0 := rfl; omega)]
        exact hJ.2.2.1 k hk
      · rw [mm_up_ne (by have : Int.toNat 0 = 0 := rfl; omega), mm_up_ne (by have : Int.toNat 0 = 0 := rfl; omega)]
        exact (hB p hp).1
    repeat' first | refine hC.gw [30] _ rfl rfl ?_ | refine And.intro ?_ ?_ | exact True.intro | refine hC.iadd [30] rfl rfl (by first | omega | (simp only [Int.reduceToNat] at *; omega)) ?_ | refine hC.isub [30] rfl rfl (by first | omega | (simp only [Int.reduceToNat] at *; omega)) ?_ | refine hC.imul [30] rfl rfl (by first | omega | (simp only [Int.reduceToNat] at *; omega)) ?_ | refine hC.iinc [30] rfl rfl rfl rfl (by first | omega | (simp only [Int.reduceToNat] at *; omega)) ?_ | refine hC.pfw (W := cx_U) [30] rfl rfl rfl rfl rfl rfl ?_ ?_ | refine hC.iaw (W := cx_U) [30] rfl rfl rfl rfl ?_ ?_ | refine hC.law (W := cx_U) [30] rfl rfl rfl rfl ?_ ?_ | refine hC.cpw (W := cx_U) [30] rfl rfl rfl rfl rfl rfl ?_ | refine hC.cpl (W := cx_U) [30] rfl rfl rfl rfl rfl rfl ?_ | refine hC.go [30] _ rfl rfl ?_ | (intro h; first | exact (h rfl).elim | (exfalso; cases h; done) | (dsimp only [kk_cP, kk_cN] at h) | skip)
    exact k30 _ (kk_rem8 (by omega) (by omega))
  have hn := hI.1
  obtain ⟨lf1, lf2⟩ := hI.2.2.2
  rcases (show O 0 1 = 0 ∨ O 0 1 = 1 ∨ O 0 1 = 2 ∨ O 0 1 = 3 ∨ O 0 1 = 4 ∨ O 0 1 = 5 ∨ O 0 1 = 6 ∨ O 0 1 = 7 by omega) with hq | hq | hq | hq | hq | hq | hq | hq
  · repeat' first | refine hC.gw [20] _ rfl rfl ?_ | refine And.intro ?_ ?_ | exact True.intro | refine hC.iadd [20] rfl rfl (by first | omega | (simp only [Int.reduceToNat] at *; omega)) ?_ | refine hC.isub [20] rfl rfl (by first | omega | (simp only [Int.reduceToNat] at *; omega)) ?_ | refine hC.imul [20] rfl rfl (by first | omega | (simp only [Int.reduceToNat] at *; omega)) ?_ | refine hC.iinc [20] rfl rfl rfl rfl (by first | omega | (simp only [Int.reduceToNat] at *; omega)) ?_ | refine hC.pfw (W := cx_U) [20] rfl rfl rfl rfl rfl rfl ?_ ?_ | refine hC.iaw (W := cx_U) [20] rfl rfl rfl rfl ?_ ?_ | refine hC.law (W := cx_U) [20] rfl rfl rfl rfl ?_ ?_ | refine hC.cpw (W := cx_U) [20] rfl rfl rfl rfl rfl rfl ?_ | refine hC.cpl (W := cx_U) [20] rfl rfl rfl rfl rfl rfl ?_ | refine hC.go [20] _ rfl rfl ?_ | (intro h; first | exact (h rfl).elim | (exfalso; cases h; done) | (dsimp only [kk_cP, kk_cN] at h) | skip)
    all_goals first | omega | (show O 0 1 < 8; omega) | skip
    rw [hq] at h
    cases h
    repeat' first | refine hC.gw [20] _ rfl rfl ?_ | refine And.intro ?_ ?_ | exact True.intro | refine hC.iadd [20] rfl rfl (by first | omega | (simp only [Int.reduceToNat] at *; omega)) ?_ | refine hC.isub [20] rfl rfl (by first | omega | (simp only [Int.reduceToNat] at *; omega)) ?_ | refine hC.imul [20] rfl rfl (by first | omega | (simp only [Int.reduceToNat] at *; omega)) ?_ | refine hC.iinc [20] rfl rfl rfl rfl (by first | omega | (simp only [Int.reduceToNat] at *; omega)) ?_ | refine hC.pfw (W := cx_U) [20] rfl rfl rfl rfl rfl rfl ?_ ?_ | refine hC.iaw (W := cx_U) [20] rfl rfl rfl rfl ?_ ?_ | refine hC.law (W := cx_U) [20] rfl rfl rfl rfl ?_ ?_ | refine hC.cpw (W := cx_U) [20] rfl rfl rfl rfl rfl rfl ?_ | refine hC.cpl (W := cx_U) [20] rfl rfl rfl rfl rfl rfl ?_ | refine hC.go [20] _ rfl rfl ?_ | (intro h; first | exact (h rfl).elim | (exfalso; cases h; done) | (dsimp only [kk_cP, kk_cN] at h) | skip)
    refine hC.at ce_U_LLk0 (ll_copyFrom l _ _ _) rfl rfl rfl rfl rfl rfl (Nat.le_refl _) ?_
    rintro rs O2 A2 ⟨rfl, q1, ⟨q2, q3, q4⟩, q5⟩
    refine hC.sub [(0, (4, 0)), (1, (4, 66)), (2, (4, _))] ⟨rfl, rfl, rfl, trivial⟩ (k20 _ _ _ ⟨hI.1, hI.2.1, fun i hi => ?_, ?_⟩ (fun p hp => ?_))
    · match i, hi with
      | 0, _ =>
        refine ⟨?_, fun j hj => ?_⟩
        · show ll_d (O2 0 9) (O2 0 10) (O2 0 8)
          rw [q2, q3, q4]
          exact lf1
        · show 0 ≤ A2 6 j
          rw [q1]
          exact lf2 j hj
      | 1, _ => exact hI.2.2.1 1 (by decide)
      | 2, _ => exact hI.2.2.1 2 (by decide)
      | 3, _ => exact hI.2.2.1 3 (by decide)
      | 4, _ => exact hI.2.2.1 4 (by decide)
      | 5, _ => exact hI.2.2.1 5 (by decide)
      | 6, _ => exact hI.2.2.1 6 (by decide)
      | 7, _ => exact hI.2.2.1 7 (by decide)
    · refine ⟨?_, ?_⟩
      · show ll_d (O2 8 9) (O2 8 10) (O2 8 8)
        rw [(q5 8 (by decide) (by decide)).1]
        exact lf1
      · show ∀ j, j < 32 → 0 ≤ A2 14 j
        rw [(q5 14 (by decide) (by decide)).2]
        exact lf2
    · match p, hp with
      | 66, _ => exact q5 8 (by decide) (by decide)
      | 67, _ => exact q5 9 (by decide) (by decide)
      | 68, _ => exact q5 10 (by decide) (by decide)
      | 69, _ => exact q5 11 (by decide) (by decide)
      | 70, _ => exact q5 12 (by decide) (by decide)
      | 71, _ => exact q5 13 (by decide) (by decide)
      | 72, _ => exact q5 14 (by decide) (by decide)
      | 73, _ => exact q5 15 (by decide) (by decide)
      | 74, _ => exact q5 16 (by decide) (by decide)
      | 75, _ => exact q5 17 (by decide) (by decide)
      | 76, _ => exact q5 18 (by decide) (by decide)
      | 77, _ => exact q5 19 (by decide) (by decide)
      | 78, _ => exact q5 20 (by decide) (by decide)
      | 79, _ => exact q5 21 (by decide) (by decide)
      | 80, _ => exact q5 22 (by decide) (by decide)
      | n + 81, _ =>
        rw [cc_out_out (by simp <;> omega), cc_out_out (by simp <;> omega)]
        exact ⟨rfl, rfl⟩
  · repeat' first | refine hC.gw [20] _ rfl rfl ?_ | refine And.intro ?_ ?_ | exact True.intro | refine hC.iadd [20] rfl rfl (by first | omega | (simp only [Int.reduceToNat] at *; omega)) ?_ | refine hC.isub [20] rfl rfl (by first | omega | (simp only [Int.reduceToNat] at *; omega)) ?_ | refine hC.imul [20] rfl rfl (by first | omega | (simp only [Int.reduceToNat] at *; omega)) ?_ | refine hC.iinc [20] rfl rfl rfl rfl (by first | omega | (simp only [Int.reduceToNat] at *; omega)) ?_ | refine hC.pfw (W := cx_U) [20] rfl rfl rfl rfl rfl rfl ?_ ?_ | refine hC.iaw (W := cx_U) [20] rfl rfl rfl rfl ?_ ?_ | refine hC.law (W := cx_U) [20] rfl rfl rfl rfl ?_ ?_ | refine hC.cpw (W := cx_U) [20] rfl rfl rfl rfl rfl rfl ?_ | refine hC.cpl (W := cx_U) [20] rfl rfl rfl rfl rfl rfl ?_ | refine hC.go [20] _ rfl rfl ?_ | (intro h; first | exact (h rfl).elim | (exfalso; cases h; done) | (dsimp only [kk_cP, kk_cN] at h) | skip)
    all_goals first | omega | (show O 0 1 < 8; omega) | skip
    rw [hq] at h
    cases h
    repeat' first | refine hC.gw [20] _ rfl rfl ?_ | refine And.intro ?_ ?_ | exact True.intro | refine hC.iadd [20] rfl rfl (by first | omega | (simp only [Int.reduceToNat] at *; omega)) ?_ | refine hC.isub [20] rfl rfl (by first | omega | (simp only [Int.reduceToNat] at *; omega)) ?_ | refine hC.imul [20] rfl rfl (by first | omega | (simp only [Int.reduceToNat] at *; omega)) ?_ | refine hC.iinc [20] rfl rfl rfl rfl (by first | omega | (simp only [Int.reduceToNat] at *; omega)) ?_ | refine hC.pfw (W := cx_U) [20] rfl rfl rfl rfl rfl rfl ?_ ?_ | refine hC.iaw (W := cx_U) [20] rfl rfl rfl rfl ?_ ?_ | refine hC.law (W := cx_U) [20] rfl rfl rfl rfl ?_ ?_ | refine hC.cpw (W := cx_U) [20] rfl rfl rfl rfl rfl rfl ?_ | refine hC.cpl (W := cx_U) [20] rfl rfl rfl rfl rfl rfl ?_ | refine hC.go [20] _ rfl rfl ?_ | (intro h; first | exact (h rfl).elim | (exfalso; cases h; done) | (dsimp only [kk_cP, kk_cN] at h) | skip)
    refine hC.at ce_U_LLk1 (ll_copyFrom l _ _ _) rfl rfl rfl rfl rfl rfl (Nat.le_refl _) ?_
    rintro rs O2 A2 ⟨rfl, q1, ⟨q2, q3, q4⟩, q5⟩
    refine hC.sub [(0, (4, 0)), (1, (4, 66)), (2, (4, _))] ⟨rfl, rfl, rfl, trivial⟩ (k20 _ _ _ ⟨hI.1, hI.2.1, fun i hi => ?_, ?_⟩ (fun p hp => ?_))
    · match i, hi with
      | 0, _ => exact hI.2.2.1 0 (by decide)
      | 1, _ =>
        refine ⟨?_, fun j hj => ?_⟩
        · show ll_d (O2 0 9) (O2 0 10) (O2 0 8)
          rw [q2, q3, q4]
          exact lf1
        · show 0 ≤ A2 6 j
          rw [q1]
          exact lf2 j hj
      | 2, _ => exact hI.2.2.1 2 (by decide)
      | 3, _ => exact hI.2.2.1 3 (by decide)
      | 4, _ => exact hI.2.2.1 4 (by decide)
      | 5, _ => exact hI.2.2.1 5 (by decide)
      | 6, _ => exact hI.2.2.1 6 (by decide)
      | 7, _ => exact hI.2.2.1 7 (by decide)
    · refine ⟨?_, ?_⟩
      · show ll_d (O2 8 9) (O2 8 10) (O2 8 8)
        rw [(q5 8 (by decide) (by decide)).1]
        exact lf1
      · show ∀ j, j < 32 → 0 ≤ A2 14 j
        rw [(q5 14 (by decide) (by decide)).2]
        exact lf2
    · match p, hp with
      | 66, _ => exact q5 8 (by decide) (by decide)
      | 67, _ => exact q5 9 (by decide) (by decide)
      | 68, _ => exact q5 10 (by decide) (by decide)
      | 69, _ => exact q5 11 (by decide) (by decide)
      | 70, _ => exact q5 12 (by decide) (by decide)
      | 71, _ => exact q5 13 (by decide) (by decide)
      | 72, _ => exact q5 14 (by decide) (by decide)
      | 73, _ => exact q5 15 (by decide) (by decide)
      | 74, _ => exact q5 16 (by decide) (by decide)
      | 75, _ => exact q5 17 (by decide) (by decide)
      | 76, _ => exact q5 18 (by decide) (by decide)
      | 77, _ => exact q5 19 (by decide) (by decide)
      | 78, _ => exact q5 20 (by decide) (by decide)
      | 79, _ => exact q5 21 (by decide) (by decide)
      | 80, _ => exact q5 22 (by decide) (by decide)
      | n + 81, _ =>
        rw [cc_out_out (by simp <;> omega), cc_out_out (by simp <;> omega)]
        exact ⟨rfl, rfl⟩
  · repeat' first | refine hC.gw [20] _ rfl rfl ?_ | refine And.intro ?_ ?_ | exact True.intro | refine hC.iadd [20] rfl rfl (by first | omega | (simp only [Int.reduceToNat] at *; omega)) ?_ | refine hC.isub [20] rfl rfl (by first | omega | (simp only [Int.reduceToNat] at *; omega)) ?_ | refine hC.imul [20] rfl rfl (by first | omega | (simp only [Int.reduceToNat] at *; omega)) ?_ | refine hC.iinc [20] rfl rfl rfl rfl (by first | omega | (simp only [Int.reduceToNat] at *; omega)) ?_ | refine hC.pfw (W := cx_U) [20] rfl rfl rfl rfl rfl rfl ?_ ?_ | refine hC.iaw (W := cx_U) [20] rfl rfl rfl rfl ?_ ?_ | refine hC.law (W := cx_U) [20] rfl rfl rfl rfl ?_ ?_ | refine hC.cpw (W := cx_U) [20] rfl rfl rfl rfl rfl rfl ?_ | refine hC.cpl (W := cx_U) [20] rfl rfl rfl rfl rfl rfl ?_ | refine hC.go [20] _ rfl rfl ?_ | (intro h; first | exact (h rfl).elim | (exfalso; cases h; done) | (dsimp only [kk_cP, kk_cN] at h) | skip)
    all_goals first | omega | (show O 0 1 < 8; omega) | skip
    rw [hq] at h
    cases h
    repeat' first | refine hC.gw [20] _ rfl rfl ?_ | refine And.intro ?_ ?_ | exact True.intro | refine hC.iadd [20] rfl rfl (by first | omega | (simp only [Int.reduceToNat] at *; omega)) ?_ | refine hC.isub [20] rfl rfl (by first | omega | (simp only [Int.reduceToNat] at *; omega)) ?_ | refine hC.imul [20] rfl rfl (by first | omega | (simp only [Int.reduceToNat] at *; omega)) ?_ | refine hC.iinc [20] rfl rfl rfl rfl (by first | omega | (simp only [Int.reduceToNat] at *; omega)) ?_ | refine hC.pfw (W := cx_U) [20] rfl rfl rfl rfl rfl rfl ?_ ?_ | refine hC.iaw (W := cx_U) [20] rfl rfl rfl rfl ?_ ?_ | refine hC.law (W := cx_U) [20] rfl rfl rfl rfl ?_ ?_ | refine hC.cpw (W := cx_U) [20] rfl rfl rfl rfl rfl rfl ?_ | refine hC.cpl (W := cx_U) [20] rfl rfl rfl rfl rfl rfl ?_ | refine hC.go [20] _ rfl rfl ?_ | (intro h; first | exact (h rfl).elim | (exfalso; cases h; done) | (dsimp only [kk_cP, kk_cN] at h) | skip)
    refine hC.at ce_U_LLk2 (ll_copyFrom l _ _ _) rfl rfl rfl rfl rfl rfl (Nat.le_refl _) ?_
    rintro rs O2 A2 ⟨rfl, q1, ⟨q2, q3, q4⟩, q5⟩
    refine hC.sub [(0, (4, 0)), (1, (4, 66)), (2, (4, _))] ⟨rfl, rfl, rfl, trivial⟩ (k20 _ _ _ ⟨hI.1, hI.2.1, fun i hi => ?_, ?_⟩ (fun p hp => ?_))
    · match i, hi with
      | 0, _ => exact hI.2.2.1 0 (by decide)
      | 1, _ => exact hI.2.2.1 1 (by decide)
      | 2, _ =>
        refine ⟨?_, fun j hj => ?_⟩
        · show ll_d (O2 0 9) (O2 0 10) (O2 0 8)
          rw [q2, q3, q4]
          exact lf1
        · show 0 ≤ A2 6 j
          rw [q1]
          exact lf2 j hj
      | 3, _ => exact hI.2.2.1 3 (by decide)
      | 4, _ => exact hI.2.2.1 4 (by decide)
      | 5, _ => exact hI.2.2.1 5 (by decide)
      | 6, _ => exact hI.2.2.1 6 (by decide)
      | 7, _ => exact hI.2.2.1 7 (by decide)
    · refine ⟨?_, ?_⟩
      · show ll_d (O2 8 9) (O2 8 10) (O2 8 8)
        rw [(q5 8 (by decide) (by decide)).1]
        exact lf1
      · show ∀ j, j < 32 → 0 ≤ A2 14 j
        rw [(q5 14 (by decide) (by decide)).2]
        exact lf2
    · match p, hp with
      | 66, _ => exact q5 8 (by decide) (by decide)
      | 67, _ => exact q5 9 (by decide) (by decide)
      | 68, _ => exact q5 10 (by decide) (by decide)
      | 69, _ => exact q5 11 (by decide) (by decide)
      | 70, _ => exact q5 12 (by decide) (by decide)
      | 71, _ => exact q5 13 (by decide) (by decide)
      | 72, _ => exact q5 14 (by decide) (by decide)
      | 73, _ => exact q5 15 (by decide) (by decide)
      | 74, _ => exact q5 16 (by decide) (by decide)
      | 75, _ => exact q5 17 (by decide) (by decide)
      | 76, _ => exact q5 18 (by decide) (by decide)
      | 77, _ => exact q5 19 (by decide) (by decide)
      | 78, _ => exact q5 20 (by decide) (by decide)
      | 79, _ => exact q5 21 (by decide) (by decide)
      | 80, _ => exact q5 22 (by decide) (by decide)
      | n + 81, _ =>
        rw [cc_out_out (by simp <;> omega), cc_out_out (by simp <;> omega)]
        exact ⟨rfl, rfl⟩
  · repeat' first | refine hC.gw [20] _ rfl rfl ?_ | refine And.intro ?_ ?_ | exact True.intro | refine hC.iadd [20] rfl rfl (by first | omega | (simp only [Int.reduceToNat] at *; omega)) ?_ | refine hC.isub [20] rfl rfl (by first | omega | (simp only [Int.reduceToNat] at *; omega)) ?_ | refine hC.imul [20] rfl rfl (by first | omega | (simp only [Int.reduceToNat] at *; omega)) ?_ | refine hC.iinc [20] rfl rfl rfl rfl (by first | omega | (simp only [Int.reduceToNat] at *; omega)) ?_ | refine hC.pfw (W := cx_U) [20] rfl rfl rfl rfl rfl rfl ?_ ?_ | refine hC.iaw (W := cx_U) [20] rfl rfl rfl rfl ?_ ?_ | refine hC.law (W := cx_U) [20] rfl rfl rfl rfl ?_ ?_ | refine hC.cpw (W := cx_U) [20] rfl rfl rfl rfl rfl rfl ?_ | refine hC.cpl (W := cx_U) [20] rfl rfl rfl rfl rfl rfl ?_ | refine hC.go [20] _ rfl rfl ?_ | (intro h; first | exact (h rfl).elim | (exfalso; cases h; done) | (dsimp only [kk_cP, kk_cN] at h) | skip)
    all_goals first | omega | (show O 0 1 < 8; omega) | skip
    rw [hq] at h
    cases h
    repeat' first | refine hC.gw [20] _ rfl rfl ?_ | refine And.intro ?_ ?_ | exact True.intro | refine hC.iadd [20] rfl rfl (by first | omega | (simp only [Int.reduceToNat] at *; omega)) ?_ | refine hC.isub [20] rfl rfl (by first | omega | (simp only [Int.reduceToNat] at *; omega)) ?_ | refine hC.imul [20] rfl rfl (by first | omega | (simp only [Int.reduceToNat] at *; omega)) ?_ | refine hC.iinc [20] rfl rfl rfl rfl (by first | omega | (simp only [Int.reduceToNat] at *; omega)) ?_ | refine hC.pfw (W := cx_U) [20] rfl rfl rfl rfl rfl rfl ?_ ?_ | refine hC.iaw (W := cx_U) [20] rfl rfl rfl rfl ?_ ?_ | refine hC.law (W := cx_U) [20] rfl rfl rfl rfl ?_ ?_ | refine hC.cpw (W := cx_U) [20] rfl rfl rfl rfl rfl rfl ?_ | refine hC.cpl (W := cx_U) [20] rfl rfl rfl rfl rfl rfl ?_ | refine hC.go [20] _ rfl rfl ?_ | (intro h; first | exact (h rfl).elim | (exfalso; cases h; done) | (dsimp only [kk_cP, kk_cN] at h) | skip)
    refine hC.at ce_U_LLk3 (ll_copyFrom l _ _ _) rfl rfl rfl rfl rfl rfl (Nat.le_refl _) ?_
    rintro rs O2 A2 ⟨rfl, q1, ⟨q2, q3, q4⟩, q5⟩
    refine hC.sub [(0, (4, 0)), (1, (4, 66)), (2, (4, _))] ⟨rfl, rfl, rfl, trivial⟩ (k20 _ _ _ ⟨hI.1, hI.2.1, fun i hi => ?_, ?_⟩ (fun p hp => ?_))
    · match i, hi with
      | 0, _ => exact hI.2.2.1 0 (by decide)
      | 1, _ => exact hI.2.2.1 1 (by decide)
      | 2, _ => exact hI.2.2.1 2 (by decide)
      | 3, _ =>
        refine ⟨?_, fun j hj => ?_⟩
        · show ll_d (O2 0 9) (O2 0 10) (O2 0 8)
          rw [q2, q3, q4]
          exact lf1
        · show 0 ≤ A2 6 j
          rw [q1]
          exact lf2 j hj
      | 4, _ => exact hI.2.2.1 4 (by decide)
      | 5, _ => exact hI.2.2.1 5 (by decide)
      | 6, _ => exact hI.2.2.1 6 (by decide)
      | 7, _ => exact hI.2.2.1 7 (by decide)
    · refine ⟨?_, ?_⟩
      · show ll_d (O2 8 9) (O2 8 10) (O2 8 8)
        rw [(q5 8 (by decide) (by decide)).1]
        exact lf1
      · show ∀ j, j < 32 → 0 ≤ A2 14 j
        rw [(q5 14 (by decide) (by decide)).2]
        exact lf2
    · match p, hp with
      | 66, _ => exact q5 8 (by decide) (by decide)
      | 67, _ => exact q5 9 (by decide) (by decide)
      | 68, _ => exact q5 10 (by decide) (by decide)
      | 69, _ => exact q5 11 (by decide) (by decide)
      | 70, _ => exact q5 12 (by decide) (by decide)
      | 71, _ => exact q5 13 (by decide) (by decide)
      | 72, _ => exact q5 14 (by decide) (by decide)
      | 73, _ => exact q5 15 (by decide) (by decide)
      | 74, _ => exact q5 16 (by decide) (by decide)
      | 75, _ => exact q5 17 (by decide) (by decide)
      | 76, _ => exact q5 18 (by decide) (by decide)
      | 77, _ => exact q5 19 (by decide) (by decide)
      | 78, _ => exact q5 20 (by decide) (by decide)
      | 79, _ => exact q5 21 (by decide) (by decide)
      | 80, _ => exact q5 22 (by decide) (by decide)
      | n + 81, _ =>
        rw [cc_out_out (by simp <;> omega), cc_out_out (by simp <;> omega)]
        exact ⟨rfl, rfl⟩
  · repeat' first | refine hC.gw [20] _ rfl rfl ?_ | refine And.intro ?_ ?_ | exact True.intro | refine hC.iadd [20] rfl rfl (by first | omega | (simp only [Int.reduceToNat] at *; omega)) ?_ | refine hC.isub [20] rfl rfl (by first | omega | (simp only [Int.reduceToNat] at *; omega)) ?_ | refine hC.imul [20] rfl rfl (by first | omega | (simp only [Int.reduceToNat] at *; omega)) ?_ | refine hC.iinc [20] rfl rfl rfl rfl (by first | omega | (simp only [Int.reduceToNat] at *; omega)) ?_ | refine hC.pfw (W := cx_U) [20] rfl rfl rfl rfl rfl rfl ?_ ?_ | refine hC.iaw (W := cx_U) [20] rfl rfl rfl rfl ?_ ?_ | refine hC.law (W := cx_U) [20] rfl rfl rfl rfl ?_ ?_ | refine hC.cpw (W := cx_U) [20] rfl rfl rfl rfl rfl rfl ?_ | refine hC.cpl (W := cx_U) [20] rfl rfl rfl rfl rfl rfl ?_ | refine hC.go [20] _ rfl rfl ?_ | (intro h; first | exact (h rfl).elim | (exfalso; cases h; done) | (dsimp only [kk_cP, kk_cN] at h) | skip)
    all_goals first | omega | (show O 0 1 < 8; omega) | skip
    rw [hq] at h
    cases h
    repeat' first | refine hC.gw [20] _ rfl rfl ?_ | refine And.intro ?_ ?_ | exact True.intro | refine hC.iadd [20] rfl rfl (by first | omega | (simp only [Int.reduceToNat] at *; omega)) ?_ | refine hC.isub [20] rfl rfl (by first | omega | (simp only [Int.reduceToNat] at *; omega)) ?_ | refine hC.imul [20] rfl rfl (by first | omega | (simp only [Int.reduceToNat] at *; omega)) ?_ | refine hC.iinc [20] rfl rfl rfl rfl (by first | omega | (simp only [Int.reduceToNat] at *; omega)) ?_ | refine hC.pfw (W := cx_U) [20] rfl rfl rfl rfl rfl rfl ?_ ?_ | refine hC.iaw (W := cx_U) [20] rfl rfl rfl rfl ?_ ?_ | refine hC.law (W := cx_U) [20] rfl rfl rfl rfl ?_ ?_ | refine hC.cpw (W := cx_U) [20] rfl rfl rfl rfl rfl rfl ?_ | refine hC.cpl (W := cx_U) [20] rfl rfl rfl rfl rfl rfl ?_ | refine hC.go [20] _ rfl rfl ?_ | (intro h; first | exact (h rfl).elim | (exfalso; cases h; done) | (dsimp only [kk_cP, kk_cN] at h) | skip)
    refine hC.at ce_U_LLk4 (ll_copyFrom l _ _ _) rfl rfl rfl rfl rfl rfl (Nat.le_refl _) ?_
    rintro rs O2 A2 ⟨rfl, q1, ⟨q2, q3, q4⟩, q5⟩
    refine hC.sub [(0, (4, 0)), (1, (4, 66)), (2, (4, _))] ⟨rfl, rfl, rfl, trivial⟩ (k20 _ _ _ ⟨hI.1, hI.2.1, fun i hi => ?_, ?_⟩ (fun p hp => ?_))
    · match i, hi with
      | 0, _ => exact hI.2.2.1 0 (by decide)
      | 1, _ => exact hI.2.2.1 1 (by decide)
      | 2, _ => exact hI.2.2.1 2 (by decide)
      | 3, _ => exact hI.2.2.1 3 (by decide)
      | 4, _ =>
        refine ⟨?_, fun j hj => ?_⟩
        · show ll_d (O2 0 9) (O2 0 10) (O2 0 8)
          rw [q2, q3, q4]
          exact lf1
        · show 0 ≤ A2 6 j
          rw [q1]
          exact lf2 j hj
      | 5, _ => exact hI.2.2.1 5 (by decide)
      | 6, _ => exact hI.2.2.1 6 (by decide)
      | 7, _ => exact hI.2.2.1 7 (by decide)
    · refine ⟨?_, ?_⟩
      · show ll_d (O2 8 9) (O2 8 10) (O2 8 8)
        rw [(q5 8 (by decide) (by decide)).1]
        exact lf1
      · show ∀ j, j < 32 → 0 ≤ A2 14 j
        rw [(q5 14 (by decide) (by decide)).2]
        exact lf2
    · match p, hp with
      | 66, _ => exact q5 8 (by decide) (by decide)
      | 67, _ => exact q5 9 (by decide) (by decide)
      | 68, _ => exact q5 10 (by decide) (by decide)
      | 69, _ => exact q5 11 (by decide) (by decide)
      | 70, _ => exact q5 12 (by decide) (by decide)
      | 71, _ => exact q5 13 (by decide) (by decide)
      | 72, _ => exact q5 14 (by decide) (by decide)
      | 73, _ => exact q5 15 (by decide) (by decide)
      | 74, _ => exact q5 16 (by decide) (by decide)
      | 75, _ => exact q5 17 (by decide) (by decide)
      | 76, _ => exact q5 18 (by decide) (by decide)
      | 77, _ => exact q5 19 (by decide) (by decide)
      | 78, _ => exact q5 20 (by decide) (by decide)
      | 79, _ => exact q5 21 (by decide) (by decide)
      | 80, _ => exact q5 22 (by decide) (by decide)
      | n + 81, _ =>
        rw [cc_out_out (by simp <;> omega), cc_out_out (by simp <;> omega)]
        exact ⟨rfl, rfl⟩
  · repeat' first | refine hC.gw [20] _ rfl rfl ?_ | refine And.intro ?_ ?_ | exact True.intro | refine hC.iadd [20] rfl rfl (by first | omega | (simp only [Int.reduceToNat] at *; omega)) ?_ | refine hC.isub [20] rfl rfl (by first | omega | (simp only [Int.reduceToNat] at *; omega)) ?_ | refine hC.imul [20] rfl rfl (by first | omega | (simp only [Int.reduceToNat] at *; omega)) ?_ | refine hC.iinc [20] rfl rfl rfl rfl (by first | omega | (simp only [Int.reduceToNat] at *; omega)) ?_ | refine hC.pfw (W := cx_U) [20] rfl rfl rfl rfl rfl rfl ?_ ?_ | refine hC.iaw (W := cx_U) [20] rfl rfl rfl rfl ?_ ?_ | refine hC.law (W := cx_U) [20] rfl rfl rfl rfl ?_ ?_ | refine hC.cpw (W := cx_U) [20] rfl rfl rfl rfl rfl rfl ?_ | refine hC.cpl (W := cx_U) [20] rfl rfl rfl rfl rfl rfl ?_ | refine hC.go [20] _ rfl rfl ?_ | (intro h; first | exact (h rfl).elim | (exfalso; cases h; done) | (dsimp only [kk_cP, kk_cN] at h) | skip)
    all_goals first | omega | (show O 0 1 < 8; omega) | skip
    rw [hq] at h
    cases h
    repeat' first | refine hC.gw [20] _ rfl rfl ?_ | refine And.intro ?_ ?_ | exact True.intro | refine hC.iadd [20] rfl rfl (by first | omega | (simp only [Int.reduceToNat] at *; omega)) ?_ | refine hC.isub [20] rfl rfl (by first | omega | (simp only [Int.reduceToNat] at *; omega)) ?_ | refine hC.imul [20] rfl rfl (by first | omega | (simp only [Int.reduceToNat] at *; omega)) ?_ | refine hC.iinc [20] rfl rfl rfl rfl (by first | omega | (simp only [Int.reduceToNat] at *; omega)) ?_ | refine hC.pfw (W := cx_U) [20] rfl rfl rfl rfl rfl rfl ?_ ?_ | refine hC.iaw (W := cx_U) [20] rfl rfl rfl rfl ?_ ?_ | refine hC.law (W := cx_U) [20] rfl rfl rfl rfl ?_ ?_ | refine hC.cpw (W := cx_U) [20] rfl rfl rfl rfl rfl rfl ?_ | refine hC.cpl (W := cx_U) [20] rfl rfl rfl rfl rfl rfl ?_ | refine hC.go [20] _ rfl rfl ?_ | (intro h; first | exact (h rfl).elim | (exfalso; cases h; done) | (dsimp only [kk_cP, kk_cN] at h) | skip)
    refine hC.at ce_U_LLk5 (ll_copyFrom l _ _ _) rfl rfl rfl rfl rfl rfl (Nat.le_refl _) ?_
    rintro rs O2 A2 ⟨rfl, q1, ⟨q2, q3, q4⟩, q5⟩
    refine hC.sub [(0, (4, 0)), (1, (4, 66)), (2, (4, _))] ⟨rfl, rfl, rfl, trivial⟩ (k20 _ _ _ ⟨hI.1, hI.2.1, fun i hi => ?_, ?_⟩ (fun p hp => ?_))
    · match i, hi with
      | 0, _ => exact hI.2.2.1 0 (by decide)
      | 1, _ => exact hI.2.2.1 1 (by decide)
      | 2, _ => exact hI.2.2.1 2 (by decide)
      | 3, _ => exact hI.2.2.1 3 (by decide)
      | 4, _ => exact hI.2.2.1 4 (by decide)
      | 5, _ =>
        refine ⟨?_, fun j hj => ?_⟩
        · show ll_d (O2 0 9) (O2 0 10) (O2 0 8)
          rw [q2, q3, q4]
          exact lf1
        · show 0 ≤ A2 6 j
          rw [q1]
          exact lf2 j hj
      | 6, _ => exact hI.2.2.1 6 (by decide)
      | 7, _ => exact hI.2.2.1 7 (by decide)
    · refine ⟨?_, ?_⟩
      · show ll_d (O2 8 9) (O2 8 10) (O2 8 8)
        rw [(q5 8 (by decide) (by decide)).1]
        exact lf1
      · show ∀ j, j < 32 → 0 ≤ A2 14 j
        rw [(q5 14 (by decide) (by decide)).2]
        exact lf2
    · match p, hp with
      | 66, _ => exact q5 8 (by decide) (by decide)
      | 67, _ => exact q5 9 (by decide) (by decide)
      | 68, _ => exact q5 10 (by decide) (by decide)
      | 69, _ => exact q5 11 (by decide) (by decide)
      | 70, _ => exact q5 12 (by decide) (by decide)
      | 71, _ => exact q5 13 (by decide) (by decide)
      | 72, _ => exact q5 14 (by decide) (by decide)
      | 73, _ => exact q5 15 (by decide) (by decide)
      | 74, _ => exact q5 16 (by decide) (by decide)
      | 75, _ => exact q5 17 (by decide) (by decide)
      | 76, _ => exact q5 18 (by decide) (by decide)
      | 77, _ => exact q5 19 (by decide) (by decide)
      | 78, _ => exact q5 20 (by decide) (by decide)
      | 79, _ => exact q5 21 (by decide) (by decide)
      | 80, _ => exact q5 22 (by decide) (by decide)
      | n + 81, _ =>
        rw [cc_out_out (by simp <;> omega), cc_out_out (by simp <;> omega)]
        exact ⟨rfl, rfl⟩
  · repeat' first | refine hC.gw [20] _ rfl rfl ?_ | refine And.intro ?_ ?_ | exact True.intro | refine hC.iadd [20] rfl rfl (by first | omega | (simp only [Int.reduceToNat] at *; omega)) ?_ | refine hC.isub [20] rfl rfl (by first | omega | (simp only [Int.reduceToNat] at *; omega)) ?_ | refine hC.imul [20] rfl rfl (by first | omega | (simp only [Int.reduceToNat] at *; omega)) ?_ | refine hC.iinc [20] rfl rfl rfl rfl (by first | omega | (simp only [Int.reduceToNat] at *; omega)) ?_ | refine hC.pfw (W := cx_U) [20] rfl rfl rfl rfl rfl rfl ?_ ?_ | refine hC.iaw (W := cx_U) [20] rfl rfl rfl rfl ?_ ?_ | refine hC.law (W := cx_U) [20] rfl rfl rfl rfl ?_ ?_ | refine hC.cpw (W := cx_U) [20] rfl rfl rfl rfl rfl rfl ?_ | refine hC.cpl (W := cx_U) [20] rfl rfl rfl rfl rfl rfl ?_ | refine hC.go [20] _ rfl rfl ?_ | (intro h; first | exact (h rfl).elim | (exfalso; cases h; done) | (dsimp only [kk_cP, kk_cN] at h) | skip)
    all_goals first | omega | (show O 0 1 < 8; omega) | skip
    rw [hq] at h
    cases h
    repeat' first | refine hC.gw [20] _ rfl rfl ?_ | refine And.intro ?_ ?_ | exact True.intro | refine hC.iadd [20] rfl rfl (by first | omega | (simp only [Int.reduceToNat] at *; omega)) ?_ | refine hC.isub [20] rfl rfl (by first | omega | (simp only [Int.reduceToNat] at *; omega)) ?_ | refine hC.imul [20] rfl rfl (by first | omega | (simp only [Int.reduceToNat] at *; omega)) ?_ | refine hC.iinc [20] rfl rfl rfl rfl (by first | omega | (simp only [Int.reduceToNat] at *; omega)) ?_ | refine hC.pfw (W := cx_U) [20] rfl rfl rfl rfl rfl rfl ?_ ?_ | refine hC.iaw (W := cx_U) [20] rfl rfl rfl rfl ?_ ?_ | refine hC.law (W := cx_U) [20] rfl rfl rfl rfl ?_ ?_ | refine hC.cpw (W := cx_U) [20] rfl rfl rfl rfl rfl rfl ?_ | refine hC.cpl (W := cx_U) [20] rfl rfl rfl rfl rfl rfl ?_ | refine hC.go [20] _ rfl rfl ?_ | (intro h; first | exact (h rfl).elim | (exfalso; cases h; done) | (dsimp only [kk_cP, kk_cN] at h) | skip)
    refine hC.at ce_U_LLk6 (ll_copyFrom l _ _ _) rfl rfl rfl rfl rfl rfl (Nat.le_refl _) ?_
    rintro rs O2 A2 ⟨rfl, q1, ⟨q2, q3, q4⟩, q5⟩
    refine hC.sub [(0, (4, 0)), (1, (4, 66)), (2, (4, _))] ⟨rfl, rfl, rfl, trivial⟩ (k20 _ _ _ ⟨hI.1, hI.2.1, fun i hi => ?_, ?_⟩ (fun p hp => ?_))
    · match i, hi with
      | 0, _ => exact hI.2.2.1 0 (by decide)
      | 1, _ => exact hI.2.2.1 1 (by decide)
      | 2, _ => exact hI.2.2.1 2 (by decide)
      | 3, _ => exact hI.2.2.1 3 (by decide)
      | 4, _ => exact hI.2.2.1 4 (by decide)
      | 5, _ => exact hI.2.2.1 5 (by decide)
      | 6, _ =>
        refine ⟨?_, fun j hj => ?_⟩
        · show ll_d (O2 0 9) (O2 0 10) (O2 0 8)
          rw [q2, q3, q4]
          exact lf1
        · show 0 ≤ A2 6 j
          rw [q1]
          exact lf2 j hj
      | 7, _ => exact hI.2.2.1 7 (by decide)
    · refine ⟨?_, ?_⟩
      · show ll_d (O2 8 9) (O2 8 10) (O2 8 8)
        rw [(q5 8 (by decide) (by decide)).1]
        exact lf1
      · show ∀ j, j < 32 → 0 ≤ A2 14 j
        rw [(q5 14 (by decide) (by decide)).2]
        exact lf2
    · match p, hp with
      | 66, _ => exact q5 8 (by decide) (by decide)
      | 67, _ => exact q5 9 (by decide) (by decide)
      | 68, _ => exact q5 10 (by decide) (by decide)
      | 69, _ => exact q5 11 (by decide) (by decide)
      | 70, _ => exact q5 12 (by decide) (by decide)
      | 71, _ => exact q5 13 (by decide) (by decide)
      | 72, _ => exact q5 14 (by decide) (by decide)
      | 73, _ => exact q5 15 (by decide) (by decide)
      | 74, _ => exact q5 16 (by decide) (by decide)
      | 75, _ => exact q5 17 (by decide) (by decide)
      | 76, _ => exact q5 18 (by decide) (by decide)
      | 77, _ => exact q5 19 (by decide) (by decide)
      | 78, _ => exact q5 20 (by decide) (by decide)
      | 79, _ => exact q5 21 (by decide) (by decide)
      | 80, _ => exact q5 22 (by decide) (by decide)
      | n + 81, _ =>
        rw [cc_out_out (by simp <;> omega), cc_out_out (by simp <;> omega)]
        exact ⟨rfl, rfl⟩
  · repeat' first | refine hC.gw [20] _ rfl rfl ?_ | refine And.intro ?_ ?_ | exact True.intro | refine hC.iadd [20] rfl rfl (by first | omega | (simp only [Int.reduceToNat] at *; omega)) ?_ | refine hC.isub [20] rfl rfl (by first | omega | (simp only [Int.reduceToNat] at *; omega)) ?_ | refine hC.imul [20] rfl rfl (by first | omega | (simp only [Int.reduceToNat] at *; omega)) ?_ | refine hC.iinc [20] rfl rfl rfl rfl (by first | omega | (simp only [Int.reduceToNat] at *; omega)) ?_ | refine hC.pfw (W := cx_U) [20] rfl rfl rfl rfl rfl rfl ?_ ?_ | refine hC.iaw (W := cx_U) [20] rfl rfl rfl rfl ?_ ?_ | refine hC.law (W := cx_U) [20] rfl rfl rfl rfl ?_ ?_ | refine hC.cpw (W := cx_U) [20] rfl rfl rfl rfl rfl rfl ?_ | refine hC.cpl (W := cx_U) [20] rfl rfl rfl rfl rfl rfl ?_ | refine hC.go [20] _ rfl rfl ?_ | (intro h; first | exact (h rfl).elim | (exfalso; cases h; done) | (dsimp only [kk_cP, kk_cN] at h) | skip)
    all_goals first | omega | (show O 0 1 < 8; omega) | skip
    rw [hq] at h
    cases h
    repeat' first | refine hC.gw [20] _ rfl rfl ?_ | refine And.intro ?_ ?_ | exact True.intro | refine hC.iadd [20] rfl rfl (by first | omega | (simp only [Int.reduceToNat] at *; omega)) ?_ | refine hC.isub [20] rfl rfl (by first | omega | (simp only [Int.reduceToNat] at *; omega)) ?_ | refine hC.imul [20] rfl rfl (by first | omega | (simp only [Int.reduceToNat] at *; omega)) ?_ | refine hC.iinc [20] rfl rfl rfl rfl (by first | omega | (simp only [Int.reduceToNat] at *; omega)) ?_ | refine hC.pfw (W := cx_U) [20] rfl rfl rfl rfl rfl rfl ?_ ?_ | refine hC.iaw (W := cx_U) [20] rfl rfl rfl rfl ?_ ?_ | refine hC.law (W := cx_U) [20] rfl rfl rfl rfl ?_ ?_ | refine hC.cpw (W := cx_U) [20] rfl rfl rfl rfl rfl rfl ?_ | refine hC.cpl (W := cx_U) [20] rfl rfl rfl rfl rfl rfl ?_ | refine hC.go [20] _ rfl rfl ?_ | (intro h; first | exact (h rfl).elim | (exfalso; cases h; done) | (dsimp only [kk_cP, kk_cN] at h) | skip)
    refine hC.at ce_U_LLk7 (ll_copyFrom l _ _ _) rfl rfl rfl rfl rfl rfl (Nat.le_refl _) ?_
    rintro rs O2 A2 ⟨rfl, q1, ⟨q2, q3, q4⟩, q5⟩
    refine hC.sub [(0, (4, 0)), (1, (4, 66)), (2, (4, _))] ⟨rfl, rfl, rfl, trivial⟩ (k20 _ _ _ ⟨hI.1, hI.2.1, fun i hi => ?_, ?_⟩ (fun p hp => ?_))
    · match i, hi with
      | 0, _ => exact hI.2.2.1 0 (by decide)
      | 1, _ => exact hI.2.2.1 1 (by decide)
      | 2, _ => exact hI.2.2.1 2 (by decide)
      | 3, _ => exact hI.2.2.1 3 (by decide)
      | 4, _ => exact hI.2.2.1 4 (by decide)
      | 5, _ => exact hI.2.2.1 5 (by decide)
      | 6, _ => exact hI.2.2.1 6 (by decide)
      | 7, _ =>
        refine ⟨?_, fun j hj => ?_⟩
        · show ll_d (O2 0 9) (O2 0 10) (O2 0 8)
          rw [q2, q3, q4]
          exact lf1
        · show 0 ≤ A2 6 j
          rw [q1]
          exact lf2 j hj
    · refine ⟨?_, ?_⟩
      · show ll_d (O2 8 9) (O2 8 10) (O2 8 8)
        rw [(q5 8 (by decide) (by decide)).1]
        exact lf1
      · show ∀ j, j < 32 → 0 ≤ A2 14 j
        rw [(q5 14 (by decide) (by decide)).2]
        exact lf2
    · match p, hp with
      | 66, _ => exact q5 8 (by decide) (by decide)
      | 67, _ => exact q5 9 (by decide) (by decide)
      | 68, _ => exact q5 10 (by decide) (by decide)
      | 69, _ => exact q5 11 (by decide) (by decide)
      | 70, _ => exact q5 12 (by decide) (by decide)
      | 71, _ => exact q5 13 (by decide) (by decide)
      | 72, _ => exact q5 14 (by decide) (by decide)
      | 73, _ => exact q5 15 (by decide) (by decide)
      | 74, _ => exact q5 16 (by decide) (by decide)
      | 75, _ => exact q5 17 (by decide) (by decide)
      | 76, _ => exact q5 18 (by decide) (by decide)
      | 77, _ => exact q5 19 (by decide) (by decide)
      | 78, _ => exact q5 20 (by decide) (by decide)
      | 79, _ => exact q5 21 (by decide) (by decide)
      | 80, _ => exact q5 22 (by decide) (by decide)
      | n + 81, _ =>
        rw [cc_out_out (by simp <;> omega), cc_out_out (by simp <;> omega)]
        exact ⟨rfl, rfl⟩
