/-! THE CLASS, 14: a sentence is said -/
/-- only the row of open ones differs -/
def sl_o (O A O' A' : Nat → Nat → Int) : Prop := (O' 0 4 = O 0 4 ∧ O' 0 5 = O 0 5 ∧ (0 ≤ O' 0 6 ∧ O' 0 6 ≤ 40)) ∧ (∀ p, p < 4 → A' p = A p) ∧ (∀ p, 5 ≤ p → O' p = O p ∧ A' p = A p)
theorem sl_o.out {O A O1 A1 O2 A2 : Nat → Nat → Int} (h : sl_o O A O1 A1) (h2 : ss_o (cc_in [0, 1, 2, 3, 4] O1) (cc_in [0, 1, 2, 3, 4] A1) O2 A2) : sl_o O A (cc_out O2 O1 [0, 1, 2, 3, 4] 0) (cc_out A2 A1 [0, 1, 2, 3, 4] 0) := by
  obtain ⟨⟨e4, e5, e6⟩, ea, eb⟩ := h
  obtain ⟨f4, f5, f6, fa⟩ := h2
  refine ⟨⟨(show O2 0 4 = O 0 4 from f4.trans e4), (show O2 0 5 = O 0 5 from f5.trans e5), (show 0 ≤ O2 0 6 ∧ O2 0 6 ≤ 40 from f6)⟩, fun p hp => ?_, fun p hp => ?_⟩
  · match p, hp with
    | 0, _ => exact (fa 0 (by decide)).trans (ea 0 (by decide))
    | 1, _ => exact (fa 1 (by decide)).trans (ea 1 (by decide))
    | 2, _ => exact (fa 2 (by decide)).trans (ea 2 (by decide))
    | 3, _ => exact (fa 3 (by decide)).trans (ea 3 (by decide))
  · rw [cc_out_out (by simp; omega), cc_out_out (by simp; omega)]
    exact eb p hp
theorem sl_o.I {O A O' A' : Nat → Nat → Int} (h : sl_o O A O' A') (hI : sl_I O A) : sl_I O' A' := by
  obtain ⟨⟨e4, e5, e6⟩, ea, eb⟩ := h
  refine ⟨⟨by rw [e4]; exact hI.1.1, ?_⟩, ?_⟩
  · rw [e4, ea 1 (by decide), ea 3 (by decide)]
    exact hI.1.2
  · obtain ⟨g1, g2, g3, g4⟩ := hI.2
    refine ⟨?_, ?_, ?_, ?_⟩
    · show (0 ≤ A' 14 0 ∧ A' 14 0 ≤ 8) ∧ (0 ≤ A' 14 1 ∧ A' 14 1 ≤ 4) ∧ (0 ≤ A' 14 2 ∧ A' 14 2 ≤ 10)
      rw [(eb 14 (by decide)).2]
      exact g1
    · show O' 13 7 = 0 ∨ O' 13 7 = 1
      rw [(eb 13 (by decide)).1]
      exact g2
    · show ∀ j, j < 32 → 0 ≤ A' 11 j
      rw [(eb 11 (by decide)).2]
      exact g3
    · show ll_d (O' 5 9) (O' 5 10) (O' 5 8)
      rw [(eb 5 (by decide)).1]
      exact g4
set_option maxRecDepth 100000 in
set_option maxHeartbeats 4000000 in
theorem ss_deedsSaid (l : Launch) (d : Nat) (O A : Nat → Nat → Int) (hI : sl_I O A) : kk_Ctr l (d + 5) en_t_X7_deedsSaid [(4, 0), (4, 5)] (cx_SL O A) (fun rs w' => ∃ O' A', w' = cx_SL O' A' ∧ sl_o O A O' A' ∧ ∃ x, rs = [(0, x)]) := by
  have h40 := hI.1.1
  refine kk_ctr en_hM (List.mem_of_getElem? (i := 138) rfl) rfl (Nat.le_of_ble_eq_true rfl) (fun K hC => ?_)
  have k21 : ∀ (n : Nat) (i : Int) (al : Int) (O1 : Nat → Nat → Int) (A1 : Nat → Nat → Int), (41 - i).toNat < n → (0 ≤ i ∧ i ≤ 40) → (sl_o O A O1 A1) → K 21 [(0, (4, 0)), (1, (4, 5)), (2, (0, al)), (3, (0, i))] [] (cx_SL O1 A1) := by
    intro n
    induction n with
    | zero => intro i al O1 A1 hz; exact absurd hz (Nat.not_lt_zero _)
    | succ n ih =>
      intro i al O1 A1 hn g0 ho
      have hI1 := ho.I hI
      have e4 : O1 0 4 = O 0 4 := ho.1.1
      have psh : ∀ (pc nx : Nat) (v : Int) (O1 A1 : Nat → Nat → Int), (pc = 70 ∨ pc = 86 ∨ pc = 101 ∨ pc = 114) → i < 40 → sl_o O A O1 A1 → K pc [(0, (4, 0)), (1, (4, 5)), (2, (0, al)), (3, (0, i))] [(0, v), (4, 0)] (cx_SL O1 A1) := by
        intro pc nx v O1 A1 hpc hi ho
        rcases hpc with rfl | rfl | rfl | rfl
        all_goals
          refine hC.at ce_SL_S (ss_push l _ _ _ _ ho.1.2.2) rfl rfl rfl rfl rfl rfl (Nat.le_refl _) ?_
          rintro rs O2 A2 ⟨rfl, hs⟩
          have ho2 := ho.out hs
          repeat' first | refine hC.gw [21] _ rfl rfl ?_ | refine And.intro ?_ ?_ | exact True.intro | refine hC.iadd [21] rfl rfl (by first | omega | (simp only [Int.reduceToNat] at *; omega)) ?_ | refine hC.isub [21] rfl rfl (by first | omega | (simp only [Int.reduceToNat] at *; omega)) ?_ | refine hC.imul [21] rfl rfl (by first | omega | (simp only [Int.reduceToNat] at *; omega)) ?_ | refine hC.iinc [21] rfl rfl rfl rfl (by first | omega | (simp only [Int.reduceToNat] at *; omega)) ?_ | refine hC.pfw (W := cx_SL) [21] rfl rfl rfl rfl rfl rfl ?_ ?_ | refine hC.iaw (W := cx_SL) [21] rfl rfl rfl rfl ?_ ?_ | refine hC.law (W := cx_SL) [21] rfl rfl rfl rfl ?_ ?_ | refine hC.cpw (W := cx_SL) [21] rfl rfl rfl rfl rfl rfl ?_ | refine hC.cpl (W := cx_SL) [21] rfl rfl rfl rfl rfl rfl ?_ | refine hC.go [21] _ rfl rfl ?_ | (intro h; first | exact (h rfl).elim | (exfalso; cases h; done) | (dsimp only [kk_cP, kk_cN] at h) | skip)
          exact hC.sub [(0, (4, 0)), (1, (4, 5)), (2, (0, al)), (3, (0, _))] ⟨rfl, rfl, rfl, rfl, trivial⟩ (ih _ _ _ _ (by omega) (by omega) ho2)
      refine hC.go [] _ rfl rfl ?_
      repeat' first | refine hC.gw [21, 70, 86, 101, 114] _ rfl rfl ?_ | refine And.intro ?_ ?_ | exact True.intro | refine hC.iadd [21, 70, 86, 101, 114] rfl rfl (by first | omega | (simp only [Int.reduceToNat] at *; omega)) ?_ | refine hC.isub [21, 70, 86, 101, 114] rfl rfl (by first | omega | (simp only [Int.reduceToNat] at *; omega)) ?_ | refine hC.imul [21, 70, 86, 101, 114] rfl rfl (by first | omega | (simp only [Int.reduceToNat] at *; omega)) ?_ | refine hC.iinc [21, 70, 86, 101, 114] rfl rfl rfl rfl (by first | omega | (simp only [Int.reduceToNat] at *; omega)) ?_ | refine hC.pfw (W := cx_SL) [21, 70, 86, 101, 114] rfl rfl rfl rfl rfl rfl ?_ ?_ | refine hC.iaw (W := cx_SL) [21, 70, 86, 101, 114] rfl rfl rfl rfl ?_ ?_ | refine hC.law (W := cx_SL) [21, 70, 86, 101, 114] rfl rfl rfl rfl ?_ ?_ | refine hC.cpw (W := cx_SL) [21, 70, 86, 101, 114] rfl rfl rfl rfl rfl rfl ?_ | refine hC.cpl (W := cx_SL) [21, 70, 86, 101, 114] rfl rfl rfl rfl rfl rfl ?_ | refine hC.go [21, 70, 86, 101, 114] _ rfl rfl ?_ | (intro h; first | exact (h rfl).elim | (exfalso; cases h; done) | (dsimp only [kk_cP, kk_cN] at h) | skip)
      all_goals first | omega | skip
      · refine hC.at ce_SL_S (ss_pop l _ _ _ (by exact ho.1.2.2)) rfl rfl rfl rfl rfl rfl (Nat.le_refl _) ?_
        rintro rs O2 A2 ⟨⟨x, rfl⟩, hs2, -⟩
        have ho2 := ho.out hs2
        repeat' first | refine hC.gw [] _ rfl rfl ?_ | refine And.intro ?_ ?_ | exact True.intro | refine hC.iadd [] rfl rfl (by first | omega | (simp only [Int.reduceToNat] at *; omega)) ?_ | refine hC.isub [] rfl rfl (by first | omega | (simp only [Int.reduceToNat] at *; omega)) ?_ | refine hC.imul [] rfl rfl (by first | omega | (simp only [Int.reduceToNat] at *; omega)) ?_ | refine hC.iinc [] rfl rfl rfl rfl (by first | omega | (simp only [Int.reduceToNat] at *; omega)) ?_ | refine hC.pfw (W := cx_SL) [] rfl rfl rfl rfl rfl rfl ?_ ?_ | refine hC.iaw (W := cx_SL) [] rfl rfl rfl rfl ?_ ?_ | refine hC.law (W := cx_SL) [] rfl rfl rfl rfl ?_ ?_ | refine hC.cpw (W := cx_SL) [] rfl rfl rfl rfl rfl rfl ?_ | refine hC.cpl (W := cx_SL) [] rfl rfl rfl rfl rfl rfl ?_ | refine hC.go [] _ rfl rfl ?_ | (intro h; first | exact (h rfl).elim | (exfalso; cases h; done) | (dsimp only [kk_cP, kk_cN] at h) | skip)
        exact ⟨_, _, rfl, ho2, _, rfl⟩
      · refine hC.same (ss_deedsOfPlain l _ O1 A1 i hI1 (by omega) (by omega)) rfl rfl rfl rfl (Nat.le_refl _) ?_
        rintro rs w' ⟨rfl, x, rfl⟩
        exact psh 114 0 x O1 A1 (Or.inr (Or.inr (Or.inr rfl))) (by omega) ho
      · refine hC.at ce_SL_S (ss_pop l _ _ _ (by exact ho.1.2.2)) rfl rfl rfl rfl rfl rfl (Nat.le_refl _) ?_
        rintro rs O2 A2 ⟨⟨x, rfl⟩, hs2, -⟩
        have ho2 := ho.out hs2
        repeat' first | refine hC.gw [] _ rfl rfl ?_ | refine And.intro ?_ ?_ | exact True.intro | refine hC.iadd [] rfl rfl (by first | omega | (simp only [Int.reduceToNat] at *; omega)) ?_ | refine hC.isub [] rfl rfl (by first | omega | (simp only [Int.reduceToNat] at *; omega)) ?_ | refine hC.imul [] rfl rfl (by first | omega | (simp only [Int.reduceToNat] at *; omega)) ?_ | refine hC.iinc [] rfl rfl rfl rfl (by first | omega | (simp only [Int.reduceToNat] at *; omega)) ?_ | refine hC.pfw (W := cx_SL) [] rfl rfl rfl rfl rfl rfl ?_ ?_ | refine hC.iaw (W := cx_SL) [] rfl rfl rfl rfl ?_ ?_ | refine hC.law (W := cx_SL) [] rfl rfl rfl rfl ?_ ?_ | refine hC.cpw (W := cx_SL) [] rfl rfl rfl rfl rfl rfl ?_ | refine hC.cpl (W := cx_SL) [] rfl rfl rfl rfl rfl rfl ?_ | refine hC.go [] _ rfl rfl ?_ | (intro h; first | exact (h rfl).elim | (exfalso; cases h; done) | (dsimp only [kk_cP, kk_cN] at h) | skip)
        refine hC.at ce_SL_S (ss_pop l _ _ _ (by exact ho2.1.2.2)) rfl rfl rfl rfl rfl rfl (Nat.le_refl _) ?_
        rintro rs O3 A3 ⟨⟨y, rfl⟩, hs3, -⟩
        have ho3 := ho2.out hs3
        repeat' first | refine hC.gw [70] _ rfl rfl ?_ | refine And.intro ?_ ?_ | exact True.intro | refine hC.iadd [70] rfl rfl (by first | omega | (simp only [Int.reduceToNat] at *; omega)) ?_ | refine hC.isub [70] rfl rfl (by first | omega | (simp only [Int.reduceToNat] at *; omega)) ?_ | refine hC.imul [70] rfl rfl (by first | omega | (simp only [Int.reduceToNat] at *; omega)) ?_ | refine hC.iinc [70] rfl rfl rfl rfl (by first | omega | (simp only [Int.reduceToNat] at *; omega)) ?_ | refine hC.pfw (W := cx_SL) [70] rfl rfl rfl rfl rfl rfl ?_ ?_ | refine hC.iaw (W := cx_SL) [70] rfl rfl rfl rfl ?_ ?_ | refine hC.law (W := cx_SL) [70] rfl rfl rfl rfl ?_ ?_ | refine hC.cpw (W := cx_SL) [70] rfl rfl rfl rfl rfl rfl ?_ | refine hC.cpl (W := cx_SL) [70] rfl rfl rfl rfl rfl rfl ?_ | refine hC.go [70] _ rfl rfl ?_ | (intro h; first | exact (h rfl).elim | (exfalso; cases h; done) | (dsimp only [kk_cP, kk_cN] at h) | skip)
        exact psh 70 0 _ _ _ (Or.inl rfl) (by omega) ho3
      · refine hC.at ce_SL_S (ss_pop l _ _ _ (by exact ho.1.2.2)) rfl rfl rfl rfl rfl rfl (Nat.le_refl _) ?_
        rintro rs O2 A2 ⟨⟨x, rfl⟩, hs2, -⟩
        have ho2 := ho.out hs2
        repeat' first | refine hC.gw [] _ rfl rfl ?_ | refine And.intro ?_ ?_ | exact True.intro | refine hC.iadd [] rfl rfl (by first | omega | (simp only [Int.reduceToNat] at *; omega)) ?_ | refine hC.isub [] rfl rfl (by first | omega | (simp only [Int.reduceToNat] at *; omega)) ?_ | refine hC.imul [] rfl rfl (by first | omega | (simp only [Int.reduceToNat] at *; omega)) ?_ | refine hC.iinc [] rfl rfl rfl rfl (by first | omega | (simp only [Int.reduceToNat] at *; omega)) ?_ | refine hC.pfw (W := cx_SL) [] rfl rfl rfl rfl rfl rfl ?_ ?_ | refine hC.iaw (W := cx_SL) [] rfl rfl rfl rfl ?_ ?_ | refine hC.law (W := cx_SL) [] rfl rfl rfl rfl ?_ ?_ | refine hC.cpw (W := cx_SL) [] rfl rfl rfl rfl rfl rfl ?_ | refine hC.cpl (W := cx_SL) [] rfl rfl rfl rfl rfl rfl ?_ | refine hC.go [] _ rfl rfl ?_ | (intro h; first | exact (h rfl).elim | (exfalso; cases h; done) | (dsimp only [kk_cP, kk_cN] at h) | skip)
        refine hC.at ce_SL_S (ss_pop l _ _ _ (by exact ho2.1.2.2)) rfl rfl rfl rfl rfl rfl (Nat.le_refl _) ?_
        rintro rs O3 A3 ⟨⟨y, rfl⟩, hs3, -⟩
        have ho3 := ho2.out hs3
        repeat' first | refine hC.gw [86] _ rfl rfl ?_ | refine And.intro ?_ ?_ | exact True.intro | refine hC.iadd [86] rfl rfl (by first | omega | (simp only [Int.reduceToNat] at *; omega)) ?_ | refine hC.isub [86] rfl rfl (by first | omega | (simp only [Int.reduceToNat] at *; omega)) ?_ | refine hC.imul [86] rfl rfl (by first | omega | (simp only [Int.reduceToNat] at *; omega)) ?_ | refine hC.iinc [86] rfl rfl rfl rfl (by first | omega | (simp only [Int.reduceToNat] at *; omega)) ?_ | refine hC.pfw (W := cx_SL) [86] rfl rfl rfl rfl rfl rfl ?_ ?_ | refine hC.iaw (W := cx_SL) [86] rfl rfl rfl rfl ?_ ?_ | refine hC.law (W := cx_SL) [86] rfl rfl rfl rfl ?_ ?_ | refine hC.cpw (W := cx_SL) [86] rfl rfl rfl rfl rfl rfl ?_ | refine hC.cpl (W := cx_SL) [86] rfl rfl rfl rfl rfl rfl ?_ | refine hC.go [86] _ rfl rfl ?_ | (intro h; first | exact (h rfl).elim | (exfalso; cases h; done) | (dsimp only [kk_cP, kk_cN] at h) | skip)
        exact psh 86 0 _ _ _ (Or.inr (Or.inl rfl)) (by omega) ho3
      · refine hC.at ce_SL_S (ss_pop l _ _ _ (by exact ho.1.2.2)) rfl rfl rfl rfl rfl rfl (Nat.le_refl _) ?_
        rintro rs O2 A2 ⟨⟨x, rfl⟩, hs2, -⟩
        have ho2 := ho.out hs2
        repeat' first | refine hC.gw [101] _ rfl rfl ?_ | refine And.intro ?_ ?_ | exact True.intro | refine hC.iadd [101] rfl rfl (by first | omega | (simp only [Int.reduceToNat] at *; omega)) ?_ | refine hC.isub [101] rfl rfl (by first | omega | (simp only [Int.reduceToNat] at *; omega)) ?_ | refine hC.imul [101] rfl rfl (by first | omega | (simp only [Int.reduceToNat] at *; omega)) ?_ | refine hC.iinc [101] rfl rfl rfl rfl (by first | omega | (simp only [Int.reduceToNat] at *; omega)) ?_ | refine hC.pfw (W := cx_SL) [101] rfl rfl rfl rfl rfl rfl ?_ ?_ | refine hC.iaw (W := cx_SL) [101] rfl rfl rfl rfl ?_ ?_ | refine hC.law (W := cx_SL) [101] rfl rfl rfl rfl ?_ ?_ | refine hC.cpw (W := cx_SL) [101] rfl rfl rfl rfl rfl rfl ?_ | refine hC.cpl (W := cx_SL) [101] rfl rfl rfl rfl rfl rfl ?_ | refine hC.go [101] _ rfl rfl ?_ | (intro h; first | exact (h rfl).elim | (exfalso; cases h; done) | (dsimp only [kk_cP, kk_cN] at h) | skip)
        exact psh 101 0 _ _ _ (Or.inr (Or.inr (Or.inl rfl))) (by omega) ho2
  repeat' first | refine hC.gw [21] _ rfl rfl ?_ | refine And.intro ?_ ?_ | exact True.intro | refine hC.iadd [21] rfl rfl (by first | omega | (simp only [Int.reduceToNat] at *; omega)) ?_ | refine hC.isub [21] rfl rfl (by first | omega | (simp only [Int.reduceToNat] at *; omega)) ?_ | refine hC.imul [21] rfl rfl (by first | omega | (simp only [Int.reduceToNat] at *; omega)) ?_ | refine hC.iinc [21] rfl rfl rfl rfl (by first | omega | (simp only [Int.reduceToNat] at *; omega)) ?_ | refine hC.pfw (W := cx_SL) [21] rfl rfl rfl rfl rfl rfl ?_ ?_ | refine hC.iaw (W := cx_SL) [21] rfl rfl rfl rfl ?_ ?_ | refine hC.law (W := cx_SL) [21] rfl rfl rfl rfl ?_ ?_ | refine hC.cpw (W := cx_SL) [21] rfl rfl rfl rfl rfl rfl ?_ | refine hC.cpl (W := cx_SL) [21] rfl rfl rfl rfl rfl rfl ?_ | refine hC.go [21] _ rfl rfl ?_ | (intro h; first | exact (h rfl).elim | (exfalso; cases h; done) | (dsimp only [kk_cP, kk_cN] at h) | skip)
  all_goals first | omega | exact hC.sub [(0, (4, 0)), (1, (4, 5)), (2, (0, _)), (3, (0, _))] ⟨rfl, rfl, rfl, rfl, trivial⟩ (k21 _ _ _ _ A (Nat.lt_succ_self _) (by omega) ⟨⟨rfl, rfl, (show (0 : Int) ≤ 0 ∧ (0 : Int) ≤ 40 by decide)⟩, fun _ _ => rfl, fun p hp => ⟨mm_up_ne (by have : Int.toNat 0 = 0 := rfl; omega), rfl⟩⟩)
