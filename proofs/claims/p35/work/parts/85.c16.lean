/-! THE CLASS, 16: finish, fair -/
set_option maxRecDepth 100000 in
set_option maxHeartbeats 4000000 in
theorem oo_reckonFinish (l : Launch) (d : Nat) (O A : Nat → Nat → Int) (m e k : Int) (hI : lo_I O A) (m0 : 0 ≤ m) (m3 : m ≤ 3) (e0 : 0 ≤ e) (e7 : e ≤ 7) (k1 : 1 ≤ k) (k8 : k ≤ 8) : kk_Ctr l (d + 2) en_t_X5_reckonFinish [(4, 0), (0, m), (0, e), (0, k), (4, 20)] (cx_LoF O A) (fun rs w' => ∃ O' A', w' = cx_LoF O' A' ∧ rs = [] ∧ (∀ p, p ≠ 20 → p ≠ 1 → O' p = O p) ∧ (∀ p, p ≠ 1 → p ≠ 20 → A' p = A p)) := by
  refine kk_ctr en_hM (List.mem_of_getElem? (i := 114) rfl) rfl (Nat.le_of_ble_eq_true rfl) (fun K hC => ?_)
  have h11 := hI.2.2.1 (m * 8 + e).toNat (by omega)
  have h11' : 0 ≤ A 11 (m * 8 + e).toNat := h11
  have k143 : ∀ (n : Nat) (i : Int) (u : Int) (v : Int) (B : Nat → Nat → Int), (9 - i).toNat < n → (0 ≤ i) → (∀ p, p ≠ 1 → B p = A p) → K 143 [(0, (4, 0)), (3, (0, k)), (4, (4, 20)), (5, (2, u)), (9, (2, v)), (11, (0, i))] [] (cx_LoF O B) := by
    intro n
    induction n with
    | zero => intro i u v B hz; exact absurd hz (Nat.not_lt_zero _)
    | succ n ih =>
      intro i u v B hn i0 hB
      refine hC.go [] _ rfl rfl ?_
      repeat' first | refine hC.gw [143] _ rfl rfl ?_ | refine And.intro ?_ ?_ | exact True.intro | refine hC.iadd [143] rfl rfl (by first | omega | (simp only [Int.reduceToNat] at *; omega)) ?_ | refine hC.isub [143] rfl rfl (by first | omega | (simp only [Int.reduceToNat] at *; omega)) ?_ | refine hC.imul [143] rfl rfl (by first | omega | (simp only [Int.reduceToNat] at *; omega)) ?_ | refine hC.iinc [143] rfl rfl rfl rfl (by first | omega | (simp only [Int.reduceToNat] at *; omega)) ?_ | refine hC.pfw (W := cx_LoF) [143] rfl rfl rfl rfl rfl rfl ?_ ?_ | refine hC.iaw (W := cx_LoF) [143] rfl rfl rfl rfl ?_ ?_ | refine hC.law (W := cx_LoF) [143] rfl rfl rfl rfl ?_ ?_ | refine hC.cpw (W := cx_LoF) [143] rfl rfl rfl rfl rfl rfl ?_ | refine hC.cpl (W := cx_LoF) [143] rfl rfl rfl rfl rfl rfl ?_ | refine hC.go [143] _ rfl rfl ?_ | (intro h; first | exact (h rfl).elim | (exfalso; cases h; done) | (dsimp only [kk_cP, kk_cN] at h) | skip)
      all_goals first | omega | exact hC.sub [(0, (4, 0)), (3, (0, k)), (4, (4, 20)), (5, (2, u)), (9, (2, _)), (11, (0, _))] ⟨rfl, rfl, rfl, rfl, rfl, rfl, trivial⟩ (ih _ _ _ B (by omega) (by omega) hB) | skip
      refine hC.at ce_LoF_F (ff_become l _ _ _ _ _) rfl rfl rfl rfl rfl rfl (Nat.le_refl _) ?_
      rintro rs O2 A2 ⟨rfl, rfl⟩
      repeat' first | refine hC.gw [] _ rfl rfl ?_ | refine And.intro ?_ ?_ | exact True.intro | refine hC.iadd [] rfl rfl (by first | omega | (simp only [Int.reduceToNat] at *; omega)) ?_ | refine hC.isub [] rfl rfl (by first | omega | (simp only [Int.reduceToNat] at *; omega)) ?_ | refine hC.imul [] rfl rfl (by first | omega | (simp only [Int.reduceToNat] at *; omega)) ?_ | refine hC.iinc [] rfl rfl rfl rfl (by first | omega | (simp only [Int.reduceToNat] at *; omega)) ?_ | refine hC.pfw (W := cx_LoF) [] rfl rfl rfl rfl rfl rfl ?_ ?_ | refine hC.iaw (W := cx_LoF) [] rfl rfl rfl rfl ?_ ?_ | refine hC.law (W := cx_LoF) [] rfl rfl rfl rfl ?_ ?_ | refine hC.cpw (W := cx_LoF) [] rfl rfl rfl rfl rfl rfl ?_ | refine hC.cpl (W := cx_LoF) [] rfl rfl rfl rfl rfl rfl ?_ | refine hC.go [] _ rfl rfl ?_ | (intro h; first | exact (h rfl).elim | (exfalso; cases h; done) | (dsimp only [kk_cP, kk_cN] at h) | skip)
      exact ⟨_, _, rfl, rfl, fun p hp _ => cc_out_out (by simp; omega), fun p h1 h2 => (cc_out_out (by simp; omega)).trans (hB p h1)⟩
  have k124 : ∀ (u : Int) (B : Nat → Nat → Int), (∀ p, p ≠ 1 → B p = A p) → K 124 [(0, (4, 0)), (1, (0, m)), (2, (0, e)), (3, (0, k)), (4, (4, 20)), (5, (2, u))] [] (cx_LoF O B) := by
    intro u B hB
    have hb : 0 ≤ B 11 (m * 8 + e).toNat := by rw [hB 11 (by decide)]; exact h11'
    repeat' first | refine hC.gw [143] _ rfl rfl ?_ | refine And.intro ?_ ?_ | exact True.intro | refine hC.iadd [143] rfl rfl (by first | omega | (simp only [Int.reduceToNat] at *; omega)) ?_ | refine hC.isub [143] rfl rfl (by first | omega | (simp only [Int.reduceToNat] at *; omega)) ?_ | refine hC.imul [143] rfl rfl (by first | omega | (simp only [Int.reduceToNat] at *; omega)) ?_ | refine hC.iinc [143] rfl rfl rfl rfl (by first | omega | (simp only [Int.reduceToNat] at *; omega)) ?_ | refine hC.pfw (W := cx_LoF) [143] rfl rfl rfl rfl rfl rfl ?_ ?_ | refine hC.iaw (W := cx_LoF) [143] rfl rfl rfl rfl ?_ ?_ | refine hC.law (W := cx_LoF) [143] rfl rfl rfl rfl ?_ ?_ | refine hC.cpw (W := cx_LoF) [143] rfl rfl rfl rfl rfl rfl ?_ | refine hC.cpl (W := cx_LoF) [143] rfl rfl rfl rfl rfl rfl ?_ | refine hC.go [143] _ rfl rfl ?_ | (intro h; first | exact (h rfl).elim | (exfalso; cases h; done) | (dsimp only [kk_cP, kk_cN] at h) | skip)
    all_goals first | omega | exact hC.sub [(0, (4, 0)), (3, (0, k)), (4, (4, 20)), (5, (2, u)), (9, (2, _)), (11, (0, _))] ⟨rfl, rfl, rfl, rfl, rfl, rfl, trivial⟩ (k143 _ _ _ _ B (Nat.lt_succ_self _) hb hB)
  have k47 : ∀ (n : Nat) (i : Int) (u : Int) (s : Int) (al : Int) (B : Nat → Nat → Int), (9 - i).toNat < n → (0 ≤ i ∧ i ≤ 8) → (∀ p, p ≠ 1 → B p = A p) → K 47 [(0, (4, 0)), (1, (0, m)), (2, (0, e)), (3, (0, k)), (4, (4, 20)), (5, (2, u)), (7, (0, s)), (8, (0, al)), (9, (0, i))] [] (cx_LoF O B) := by
    intro n
    induction n with
    | zero => intro i u s al B hz; exact absurd hz (Nat.not_lt_zero _)
    | succ n ih =>
      intro i u s al B hn i0 hB
      refine hC.go [] _ rfl rfl ?_
      repeat' first | refine hC.gw [47, 124] _ rfl rfl ?_ | refine And.intro ?_ ?_ | exact True.intro | refine hC.iadd [47, 124] rfl rfl (by first | omega | (simp only [Int.reduceToNat] at *; omega)) ?_ | refine hC.isub [47, 124] rfl rfl (by first | omega | (simp only [Int.reduceToNat] at *; omega)) ?_ | refine hC.imul [47, 124] rfl rfl (by first | omega | (simp only [Int.reduceToNat] at *; omega)) ?_ | refine hC.iinc [47, 124] rfl rfl rfl rfl (by first | omega | (simp only [Int.reduceToNat] at *; omega)) ?_ | refine hC.pfw (W := cx_LoF) [47, 124] rfl rfl rfl rfl rfl rfl ?_ ?_ | refine hC.iaw (W := cx_LoF) [47, 124] rfl rfl rfl rfl ?_ ?_ | refine hC.law (W := cx_LoF) [47, 124] rfl rfl rfl rfl ?_ ?_ | refine hC.cpw (W := cx_LoF) [47, 124] rfl rfl rfl rfl rfl rfl ?_ | refine hC.cpl (W := cx_LoF) [47, 124] rfl rfl rfl rfl rfl rfl ?_ | refine hC.go [47, 124] _ rfl rfl ?_ | (intro h; first | exact (h rfl).elim | (exfalso; cases h; done) | (dsimp only [kk_cP, kk_cN] at h) | skip)
      all_goals first | omega | exact hC.sub [(0, (4, 0)), (1, (0, m)), (2, (0, e)), (3, (0, k)), (4, (4, 20)), (5, (2, u))] ⟨rfl, rfl, rfl, rfl, rfl, rfl, trivial⟩ (k124 u B hB) | skip
      refine hC.at ce_LoF_Lo (oo_spreadWays l _ _ _ i al s (by omega) (by omega)) rfl rfl rfl rfl rfl rfl (Nat.le_refl _) ?_
      rintro rs O2 A2 ⟨rfl, rfl, eA⟩
      show K _ _ _ (cx_LoF O (cc_out A2 B [0, 1, 2, 3, 4, 5, 6, 7, 8, 9, 10, 11, 12, 13, 14, 15, 16, 17, 18, 19] 0))
      have hB2 : ∀ p, p ≠ 1 → cc_out A2 B [0, 1, 2, 3, 4, 5, 6, 7, 8, 9, 10, 11, 12, 13, 14, 15, 16, 17, 18, 19] 0 p = A p := by
        intro p hp
        by_cases hm : p ∈ [0, 1, 2, 3, 4, 5, 6, 7, 8, 9, 10, 11, 12, 13, 14, 15, 16, 17, 18, 19]
        · have hp20 : p < 20 := by simp at hm; omega
          have hi : ([0, 1, 2, 3, 4, 5, 6, 7, 8, 9, 10, 11, 12, 13, 14, 15, 16, 17, 18, 19] : List Nat)[p]? = some p := by
            match p, hp20 with
            | 0, _ => rfl
            | 1, _ => rfl
            | 2, _ => rfl
            | 3, _ => rfl
            | 4, _ => rfl
            | 5, _ => rfl
            | 6, _ => rfl
            | 7, _ => rfl
            | 8, _ => rfl
            | 9, _ => rfl
            | 10, _ => rfl
            | 11, _ => rfl
            | 12, _ => rfl
            | 13, _ => rfl
            | 14, _ => rfl
            | 15, _ => rfl
            | 16, _ => rfl
            | 17, _ => rfl
            | 18, _ => rfl
            | 19, _ => rfl
            | n + 20, h => exact absurd h (by omega)
          rw [cc_out_in (by decide) hi, Nat.zero_add, eA p hp]
          show B (([0, 1, 2, 3, 4, 5, 6, 7, 8, 9, 10, 11, 12, 13, 14, 15, 16, 17, 18, 19] : List Nat).getD p 0) = A p
          rw [kk_getD hi]
          exact hB p hp
        · rw [cc_out_out hm]
          exact hB p hp
      refine (show ∀ B' : Nat → Nat → Int, (∀ p, p ≠ 1 → B' p = A p) → K 63 [(0, (4, 0)), (1, (0, m)), (2, (0, e)), (3, (0, k)), (4, (4, 20)), (5, (2, u)), (7, (0, s)), (8, (0, al)), (9, (0, i))] [] (cx_LoF O B') from ?_) _ hB2
      intro B' hB'
      have hc1 : hh_c (cc_in [13, 14, 15, 16, 17, 18, 19] B') := by
        show (0 ≤ B' 14 0 ∧ B' 14 0 ≤ 8) ∧ (0 ≤ B' 14 1 ∧ B' 14 1 ≤ 4) ∧ (0 ≤ B' 14 2 ∧ B' 14 2 ≤ 10)
        rw [hB' 14 (by decide)]
        exact hI.1
      have k118 : ∀ (u s al : Int), i < 8 → K 118 [(0, (4, 0)), (1, (0, m)), (2, (0, e)), (3, (0, k)), (4, (4, 20)), (5, (2, u)), (7, (0, s)), (8, (0, al)), (9, (0, i))] [] (cx_LoF O B') := by
        intro u s al hi
        repeat' first | refine hC.gw [47] _ rfl rfl ?_ | refine And.intro ?_ ?_ | exact True.intro | refine hC.iadd [47] rfl rfl (by first | omega | (simp only [Int.reduceToNat] at *; omega)) ?_ | refine hC.isub [47] rfl rfl (by first | omega | (simp only [Int.reduceToNat] at *; omega)) ?_ | refine hC.imul [47] rfl rfl (by first | omega | (simp only [Int.reduceToNat] at *; omega)) ?_ | refine hC.iinc [47] rfl rfl rfl rfl (by first | omega | (simp only [Int.reduceToNat] at *; omega)) ?_ | refine hC.pfw (W := cx_LoF) [47] rfl rfl rfl rfl rfl rfl ?_ ?_ | refine hC.iaw (W := cx_LoF) [47] rfl rfl rfl rfl ?_ ?_ | refine hC.law (W := cx_LoF) [47] rfl rfl rfl rfl ?_ ?_ | refine hC.cpw (W := cx_LoF) [47] rfl rfl rfl rfl rfl rfl ?_ | refine hC.cpl (W := cx_LoF) [47] rfl rfl rfl rfl rfl rfl ?_ | refine hC.go [47] _ rfl rfl ?_ | (intro h; first | exact (h rfl).elim | (exfalso; cases h; done) | (dsimp only [kk_cP, kk_cN] at h) | skip)
        exact hC.sub [(0, (4, 0)), (1, (0, m)), (2, (0, e)), (3, (0, k)), (4, (4, 20)), (5, (2, _)), (7, (0, _)), (8, (0, _)), (9, (0, _))] ⟨rfl, rfl, rfl, rfl, rfl, rfl, rfl, rfl, rfl, trivial⟩ (ih _ _ _ _ B' (by omega) (by omega) hB')
      have k84 : ∀ (u s : Int), i < 8 → K 84 [(0, (4, 0)), (1, (0, m)), (2, (0, e)), (3, (0, k)), (4, (4, 20)), (5, (2, u)), (7, (0, s)), (8, (0, al)), (9, (0, i))] [] (cx_LoF O B') := by
        intro u s hi
        repeat' first | refine hC.gw [118] _ rfl rfl ?_ | refine And.intro ?_ ?_ | exact True.intro | refine hC.iadd [118] rfl rfl (by first | omega | (simp only [Int.reduceToNat] at *; omega)) ?_ | refine hC.isub [118] rfl rfl (by first | omega | (simp only [Int.reduceToNat] at *; omega)) ?_ | refine hC.imul [118] rfl rfl (by first | omega | (simp only [Int.reduceToNat] at *; omega)) ?_ | refine hC.iinc [118] rfl rfl rfl rfl (by first | omega | (simp only [Int.reduceToNat] at *; omega)) ?_ | refine hC.pfw (W := cx_LoF) [118] rfl rfl rfl rfl rfl rfl ?_ ?_ | refine hC.iaw (W := cx_LoF) [118] rfl rfl rfl rfl ?_ ?_ | refine hC.law (W := cx_LoF) [118] rfl rfl rfl rfl ?_ ?_ | refine hC.cpw (W := cx_LoF) [118] rfl rfl rfl rfl rfl rfl ?_ | refine hC.cpl (W := cx_LoF) [118] rfl rfl rfl rfl rfl rfl ?_ | refine hC.go [118] _ rfl rfl ?_ | (intro h; first | exact (h rfl).elim | (exfalso; cases h; done) | (dsimp only [kk_cP, kk_cN] at h) | skip) | (refine hC.rd ce_LoF_H (hh_allSlips l _ _ _ (by assumption)) rfl rfl rfl rfl rfl rfl (Nat.le_refl _) ?_; rintro rs ⟨xa, rfl⟩) | (refine hC.rd ce_LoF_H (hh_slipsA3 l _ _ _ _ (by assumption)) rfl rfl rfl rfl rfl rfl (Nat.le_refl _) ?_; rintro rs ⟨xb, rfl⟩)
        all_goals exact hC.sub [(0, (4, 0)), (1, (0, m)), (2, (0, e)), (3, (0, k)), (4, (4, 20)), (5, (2, _)), (7, (0, _)), (8, (0, _)), (9, (0, _))] ⟨rfl, rfl, rfl, rfl, rfl, rfl, rfl, rfl, rfl, trivial⟩ (k118 _ _ _ hi)
      repeat' first | refine hC.gw [84, 118] _ rfl rfl ?_ | refine And.intro ?_ ?_ | exact True.intro | refine hC.iadd [84, 118] rfl rfl (by first | omega | (simp only [Int.reduceToNat] at *; omega)) ?_ | refine hC.isub [84, 118] rfl rfl (by first | omega | (simp only [Int.reduceToNat] at *; omega)) ?_ | refine hC.imul [84, 118] rfl rfl (by first | omega | (simp only [Int.reduceToNat] at *; omega)) ?_ | refine hC.iinc [84, 118] rfl rfl rfl rfl (by first | omega | (simp only [Int.reduceToNat] at *; omega)) ?_ | refine hC.pfw (W := cx_LoF) [84, 118] rfl rfl rfl rfl rfl rfl ?_ ?_ | refine hC.iaw (W := cx_LoF) [84, 118] rfl rfl rfl rfl ?_ ?_ | refine hC.law (W := cx_LoF) [84, 118] rfl rfl rfl rfl ?_ ?_ | refine hC.cpw (W := cx_LoF) [84, 118] rfl rfl rfl rfl rfl rfl ?_ | refine hC.cpl (W := cx_LoF) [84, 118] rfl rfl rfl rfl rfl rfl ?_ | refine hC.go [84, 118] _ rfl rfl ?_ | (intro h; first | exact (h rfl).elim | (exfalso; cases h; done) | (dsimp only [kk_cP, kk_cN] at h) | skip)
      all_goals first | omega | exact hC.sub [(0, (4, 0)), (1, (0, m)), (2, (0, e)), (3, (0, k)), (4, (4, 20)), (5, (2, _)), (7, (0, _)), (8, (0, _)), (9, (0, _))] ⟨rfl, rfl, rfl, rfl, rfl, rfl, rfl, rfl, rfl, trivial⟩ (k118 _ _ _ (by omega)) | exact hC.sub [(0, (4, 0)), (1, (0, m)), (2, (0, e)), (3, (0, k)), (4, (4, 20)), (5, (2, _)), (7, (0, _)), (8, (0, _)), (9, (0, _))] ⟨rfl, rfl, rfl, rfl, rfl, rfl, rfl, rfl, rfl, trivial⟩ (k84 _ _ (by omega))
  have k15 : ∀ (B : Nat → Nat → Int), (∀ p, p ≠ 1 → B p = A p) → K 15 [(0, (4, 0)), (1, (0, m)), (2, (0, e)), (3, (0, k)), (4, (4, 20))] [] (cx_LoF O B) := by
    intro B hB
    have hI1 : lo_I O B := hI.eq (fun p hp => ⟨rfl, hB p (by omega)⟩)
    have hI2 : ll_I (cc_in [5, 6, 7, 8, 9, 10, 11, 12, 13, 14, 15, 16, 17, 18, 19] O) (cc_in [5, 6, 7, 8, 9, 10, 11, 12, 13, 14, 15, 16, 17, 18, 19] B) := hI1
    have hc2 : hh_c (cc_in [13, 14, 15, 16, 17, 18, 19, 6] B) := hI1.1
    repeat' first | refine hC.gw [47] _ rfl rfl ?_ | refine And.intro ?_ ?_ | exact True.intro | refine hC.iadd [47] rfl rfl (by first | omega | (simp only [Int.reduceToNat] at *; omega)) ?_ | refine hC.isub [47] rfl rfl (by first | omega | (simp only [Int.reduceToNat] at *; omega)) ?_ | refine hC.imul [47] rfl rfl (by first | omega | (simp only [Int.reduceToNat] at *; omega)) ?_ | refine hC.iinc [47] rfl rfl rfl rfl (by first | omega | (simp only [Int.reduceToNat] at *; omega)) ?_ | refine hC.pfw (W := cx_LoF) [47] rfl rfl rfl rfl rfl rfl ?_ ?_ | refine hC.iaw (W := cx_LoF) [47] rfl rfl rfl rfl ?_ ?_ | refine hC.law (W := cx_LoF) [47] rfl rfl rfl rfl ?_ ?_ | refine hC.cpw (W := cx_LoF) [47] rfl rfl rfl rfl rfl rfl ?_ | refine hC.cpl (W := cx_LoF) [47] rfl rfl rfl rfl rfl rfl ?_ | refine hC.go [47] _ rfl rfl ?_ | (intro h; first | exact (h rfl).elim | (exfalso; cases h; done) | (dsimp only [kk_cP, kk_cN] at h) | skip) | (refine hC.rd ce_LoF_L (ll_slips l _ _ _ (by assumption)) rfl rfl rfl rfl rfl rfl (Nat.le_refl _) ?_; rintro rs ⟨xs, rfl⟩) | (refine hC.rd ce_LoF_HX (hh_slipsA7 l _ _ _ _ (by assumption)) rfl rfl rfl rfl rfl rfl (Nat.le_refl _) ?_; rintro rs ⟨xb, rfl⟩)
    exact hC.sub [(0, (4, 0)), (1, (0, m)), (2, (0, e)), (3, (0, k)), (4, (4, 20)), (5, (2, _)), (7, (0, _)), (8, (0, _)), (9, (0, _))] ⟨rfl, rfl, rfl, rfl, rfl, rfl, rfl, rfl, rfl, trivial⟩ (k47 _ _ _ _ _ B (Nat.lt_succ_self _) (by omega) hB)
  repeat' first | refine hC.gw [] _ rfl rfl ?_ | refine And.intro ?_ ?_ | exact True.intro | refine hC.iadd [] rfl rfl (by first | omega | (simp only [Int.reduceToNat] at *; omega)) ?_ | refine hC.isub [] rfl rfl (by first | omega | (simp only [Int.reduceToNat] at *; omega)) ?_ | refine hC.imul [] rfl rfl (by first | omega | (simp only [Int.reduceToNat] at *; omega)) ?_ | refine hC.iinc [] rfl rfl rfl rfl (by first | omega | (simp only [Int.reduceToNat] at *; omega)) ?_ | refine hC.pfw (W := cx_LoF) [] rfl rfl rfl rfl rfl rfl ?_ ?_ | refine hC.iaw (W := cx_LoF) [] rfl rfl rfl rfl ?_ ?_ | refine hC.law (W := cx_LoF) [] rfl rfl rfl rfl ?_ ?_ | refine hC.cpw (W := cx_LoF) [] rfl rfl rfl rfl rfl rfl ?_ | refine hC.cpl (W := cx_LoF) [] rfl rfl rfl rfl rfl rfl ?_ | refine hC.go [] _ rfl rfl ?_ | (intro h; first | exact (h rfl).elim | (exfalso; cases h; done) | (dsimp only [kk_cP, kk_cN] at h) | skip)
  refine hC.at ce_LoF_f1 (jj_fl9 l _ _ _ _) rfl rfl rfl rfl rfl rfl (Nat.le_refl _) ?_
  rintro rs O1 A1 rfl
  show K _ _ _ (cx_LoF O (cc_out A1 A [1] 0))
  repeat' first | refine hC.gw [15] _ rfl rfl ?_ | refine And.intro ?_ ?_ | exact True.intro | refine hC.iadd [15] rfl rfl (by first | omega | (simp only [Int.reduceToNat] at *; omega)) ?_ | refine hC.isub [15] rfl rfl (by first | omega | (simp only [Int.reduceToNat] at *; omega)) ?_ | refine hC.imul [15] rfl rfl (by first | omega | (simp only [Int.reduceToNat] at *; omega)) ?_ | refine hC.iinc [15] rfl rfl rfl rfl (by first | omega | (simp only [Int.reduceToNat] at *; omega)) ?_ | refine hC.pfw (W := cx_LoF) [15] rfl rfl rfl rfl rfl rfl ?_ ?_ | refine hC.iaw (W := cx_LoF) [15] rfl rfl rfl rfl ?_ ?_ | refine hC.law (W := cx_LoF) [15] rfl rfl rfl rfl ?_ ?_ | refine hC.cpw (W := cx_LoF) [15] rfl rfl rfl rfl rfl rfl ?_ | refine hC.cpl (W := cx_LoF) [15] rfl rfl rfl rfl rfl rfl ?_ | refine hC.go [15] _ rfl rfl ?_ | (intro h; first | exact (h rfl).elim | (exfalso; cases h; done) | (dsimp only [kk_cP, kk_cN] at h) | skip)
  all_goals first | omega | exact k15 _ (fun p hp => (mm_up_ne (by have : Int.toNat 1 = 1 := rfl; omega)).trans (cc_out_out (by simp; omega)))
