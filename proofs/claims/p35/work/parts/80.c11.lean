/-! THE CLASS, 11: lives begin and are copied; what is kept; fractions -/
set_option maxRecDepth 100000 in
set_option maxHeartbeats 4000000 in
theorem ll_begin (l : Launch) (d : Nat) (O A : Nat → Nat → Int) (hc : hh_c (cc_in [8, 9, 10, 11, 12, 13, 14] A)) (ho : O 8 7 = 0 ∨ O 8 7 = 1) (hw : ∀ j, j < 32 → 0 ≤ A 14 j) : kk_Ctr l (d + 1) en_t_X4_begin [(4, 0)] (cx_L O A) (fun rs w' => ∃ O' A', w' = cx_L O' A' ∧ rs = [] ∧ ll_I O' A' ∧ (∀ p, 8 ≤ p → p < 15 → O' p = O p ∧ A' p = A p)) := by
  refine kk_ctr en_hM (List.mem_of_getElem? (i := 86) rfl) rfl (Nat.le_of_ble_eq_true rfl) (fun K hC => ?_)
  repeat' first | refine hC.gw [] _ rfl rfl ?_ | refine And.intro ?_ ?_ | exact True.intro | refine hC.iadd [] rfl rfl (by first | omega | (simp only [Int.reduceToNat] at *; omega)) ?_ | refine hC.isub [] rfl rfl (by first | omega | (simp only [Int.reduceToNat] at *; omega)) ?_ | refine hC.imul [] rfl rfl (by first | omega | (simp only [Int.reduceToNat] at *; omega)) ?_ | refine hC.iinc [] rfl rfl rfl rfl (by first | omega | (simp only [Int.reduceToNat] at *; omega)) ?_ | refine hC.pfw (W := cx_L) [] rfl rfl rfl rfl rfl rfl ?_ ?_ | refine hC.iaw (W := cx_L) [] rfl rfl rfl rfl ?_ ?_ | refine hC.law (W := cx_L) [] rfl rfl rfl rfl ?_ ?_ | refine hC.cpw (W := cx_L) [] rfl rfl rfl rfl rfl rfl ?_ | refine hC.cpl (W := cx_L) [] rfl rfl rfl rfl rfl rfl ?_ | refine hC.go [] _ rfl rfl ?_ | (intro h; first | exact (h rfl).elim | (exfalso; cases h; done) | (dsimp only [kk_cP, kk_cN] at h) | skip)
  refine hC.at ce_L_f2 (jj_fi10 l _ _ _ _) rfl rfl rfl rfl rfl rfl (Nat.le_refl _) ?_
  rintro rs O1 A1 ⟨rfl, h1⟩
  repeat' first | refine hC.gw [] _ rfl rfl ?_ | refine And.intro ?_ ?_ | exact True.intro | refine hC.iadd [] rfl rfl (by first | omega | (simp only [Int.reduceToNat] at *; omega)) ?_ | refine hC.isub [] rfl rfl (by first | omega | (simp only [Int.reduceToNat] at *; omega)) ?_ | refine hC.imul [] rfl rfl (by first | omega | (simp only [Int.reduceToNat] at *; omega)) ?_ | refine hC.iinc [] rfl rfl rfl rfl (by first | omega | (simp only [Int.reduceToNat] at *; omega)) ?_ | refine hC.pfw (W := cx_L) [] rfl rfl rfl rfl rfl rfl ?_ ?_ | refine hC.iaw (W := cx_L) [] rfl rfl rfl rfl ?_ ?_ | refine hC.law (W := cx_L) [] rfl rfl rfl rfl ?_ ?_ | refine hC.cpw (W := cx_L) [] rfl rfl rfl rfl rfl rfl ?_ | refine hC.cpl (W := cx_L) [] rfl rfl rfl rfl rfl rfl ?_ | refine hC.go [] _ rfl rfl ?_ | (intro h; first | exact (h rfl).elim | (exfalso; cases h; done) | (dsimp only [kk_cP, kk_cN] at h) | skip)
  refine hC.at ce_L_f3 (jj_fi4 l _ _ _ _) rfl rfl rfl rfl rfl rfl (Nat.le_refl _) ?_
  rintro rs O2 A2 ⟨rfl, h2⟩
  repeat' first | refine hC.gw [] _ rfl rfl ?_ | refine And.intro ?_ ?_ | exact True.intro | refine hC.iadd [] rfl rfl (by first | omega | (simp only [Int.reduceToNat] at *; omega)) ?_ | refine hC.isub [] rfl rfl (by first | omega | (simp only [Int.reduceToNat] at *; omega)) ?_ | refine hC.imul [] rfl rfl (by first | omega | (simp only [Int.reduceToNat] at *; omega)) ?_ | refine hC.iinc [] rfl rfl rfl rfl (by first | omega | (simp only [Int.reduceToNat] at *; omega)) ?_ | refine hC.pfw (W := cx_L) [] rfl rfl rfl rfl rfl rfl ?_ ?_ | refine hC.iaw (W := cx_L) [] rfl rfl rfl rfl ?_ ?_ | refine hC.law (W := cx_L) [] rfl rfl rfl rfl ?_ ?_ | refine hC.cpw (W := cx_L) [] rfl rfl rfl rfl rfl rfl ?_ | refine hC.cpl (W := cx_L) [] rfl rfl rfl rfl rfl rfl ?_ | refine hC.go [] _ rfl rfl ?_ | (intro h; first | exact (h rfl).elim | (exfalso; cases h; done) | (dsimp only [kk_cP, kk_cN] at h) | skip)
  refine hC.at ce_L_f4 (jj_fi4 l _ _ _ _) rfl rfl rfl rfl rfl rfl (Nat.le_refl _) ?_
  rintro rs O3 A3 ⟨rfl, h3⟩
  repeat' first | refine hC.gw [] _ rfl rfl ?_ | refine And.intro ?_ ?_ | exact True.intro | refine hC.iadd [] rfl rfl (by first | omega | (simp only [Int.reduceToNat] at *; omega)) ?_ | refine hC.isub [] rfl rfl (by first | omega | (simp only [Int.reduceToNat] at *; omega)) ?_ | refine hC.imul [] rfl rfl (by first | omega | (simp only [Int.reduceToNat] at *; omega)) ?_ | refine hC.iinc [] rfl rfl rfl rfl (by first | omega | (simp only [Int.reduceToNat] at *; omega)) ?_ | refine hC.pfw (W := cx_L) [] rfl rfl rfl rfl rfl rfl ?_ ?_ | refine hC.iaw (W := cx_L) [] rfl rfl rfl rfl ?_ ?_ | refine hC.law (W := cx_L) [] rfl rfl rfl rfl ?_ ?_ | refine hC.cpw (W := cx_L) [] rfl rfl rfl rfl rfl rfl ?_ | refine hC.cpl (W := cx_L) [] rfl rfl rfl rfl rfl rfl ?_ | refine hC.go [] _ rfl rfl ?_ | (intro h; first | exact (h rfl).elim | (exfalso; cases h; done) | (dsimp only [kk_cP, kk_cN] at h) | skip)
  refine hC.at ce_L_f5 (jj_fi4 l _ _ _ _) rfl rfl rfl rfl rfl rfl (Nat.le_refl _) ?_
  rintro rs O4 A4 ⟨rfl, h4⟩
  repeat' first | refine hC.gw [] _ rfl rfl ?_ | refine And.intro ?_ ?_ | exact True.intro | refine hC.iadd [] rfl rfl (by first | omega | (simp only [Int.reduceToNat] at *; omega)) ?_ | refine hC.isub [] rfl rfl (by first | omega | (simp only [Int.reduceToNat] at *; omega)) ?_ | refine hC.imul [] rfl rfl (by first | omega | (simp only [Int.reduceToNat] at *; omega)) ?_ | refine hC.iinc [] rfl rfl rfl rfl (by first | omega | (simp only [Int.reduceToNat] at *; omega)) ?_ | refine hC.pfw (W := cx_L) [] rfl rfl rfl rfl rfl rfl ?_ ?_ | refine hC.iaw (W := cx_L) [] rfl rfl rfl rfl ?_ ?_ | refine hC.law (W := cx_L) [] rfl rfl rfl rfl ?_ ?_ | refine hC.cpw (W := cx_L) [] rfl rfl rfl rfl rfl rfl ?_ | refine hC.cpl (W := cx_L) [] rfl rfl rfl rfl rfl rfl ?_ | refine hC.go [] _ rfl rfl ?_ | (intro h; first | exact (h rfl).elim | (exfalso; cases h; done) | (dsimp only [kk_cP, kk_cN] at h) | skip)
  refine hC.at ce_L_f7 (jj_fi16 l _ _ _ _) rfl rfl rfl rfl rfl rfl (Nat.le_refl _) ?_
  rintro rs O5 A5 ⟨rfl, h5⟩
  repeat' first | refine hC.gw [] _ rfl rfl ?_ | refine And.intro ?_ ?_ | exact True.intro | refine hC.iadd [] rfl rfl (by first | omega | (simp only [Int.reduceToNat] at *; omega)) ?_ | refine hC.isub [] rfl rfl (by first | omega | (simp only [Int.reduceToNat] at *; omega)) ?_ | refine hC.imul [] rfl rfl (by first | omega | (simp only [Int.reduceToNat] at *; omega)) ?_ | refine hC.iinc [] rfl rfl rfl rfl (by first | omega | (simp only [Int.reduceToNat] at *; omega)) ?_ | refine hC.pfw (W := cx_L) [] rfl rfl rfl rfl rfl rfl ?_ ?_ | refine hC.iaw (W := cx_L) [] rfl rfl rfl rfl ?_ ?_ | refine hC.law (W := cx_L) [] rfl rfl rfl rfl ?_ ?_ | refine hC.cpw (W := cx_L) [] rfl rfl rfl rfl rfl rfl ?_ | refine hC.cpl (W := cx_L) [] rfl rfl rfl rfl rfl rfl ?_ | refine hC.go [] _ rfl rfl ?_ | (intro h; first | exact (h rfl).elim | (exfalso; cases h; done) | (dsimp only [kk_cP, kk_cN] at h) | skip)
  refine ⟨_, _, rfl, rfl, ⟨hc, ho, hw, (show ll_d 0 (-1) 0 from ⟨by decide, by decide, Or.inl ⟨rfl, by decide, by decide⟩⟩)⟩, fun p h1 h2 => ?_⟩
  match p, h1, h2 with
  | 8, _, _ => exact ⟨rfl, rfl⟩
  | 9, _, _ => exact ⟨rfl, rfl⟩
  | 10, _, _ => exact ⟨rfl, rfl⟩
  | 11, _, _ => exact ⟨rfl, rfl⟩
  | 12, _, _ => exact ⟨rfl, rfl⟩
  | 13, _, _ => exact ⟨rfl, rfl⟩
  | 14, _, _ => exact ⟨rfl, rfl⟩
set_option maxRecDepth 100000 in
set_option maxHeartbeats 4000000 in
theorem ll_copyFrom (l : Launch) (d : Nat) (O A : Nat → Nat → Int) : kk_Ctr l d en_t_X4_copyFrom [(4, 0), (4, 8)] (cx_LL O A) (fun rs w' => ∃ O' A', w' = cx_LL O' A' ∧ rs = [] ∧ A' 6 = A 14 ∧ (O' 0 8 = O 8 8 ∧ O' 0 9 = O 8 9 ∧ O' 0 10 = O 8 10) ∧ (∀ p, 8 ≤ p → p < 23 → O' p = O p ∧ A' p = A p)) := by
  refine kk_ctr en_hM (List.mem_of_getElem? (i := 103) rfl) rfl (Nat.le_of_ble_eq_true rfl) (fun K hC => ?_)
  repeat' first | refine hC.gw [] _ rfl rfl ?_ | refine And.intro ?_ ?_ | exact True.intro | refine hC.iadd [] rfl rfl (by first | omega | (simp only [Int.reduceToNat] at *; omega)) ?_ | refine hC.isub [] rfl rfl (by first | omega | (simp only [Int.reduceToNat] at *; omega)) ?_ | refine hC.imul [] rfl rfl (by first | omega | (simp only [Int.reduceToNat] at *; omega)) ?_ | refine hC.iinc [] rfl rfl rfl rfl (by first | omega | (simp only [Int.reduceToNat] at *; omega)) ?_ | refine hC.pfw (W := cx_LL) [] rfl rfl rfl rfl rfl rfl ?_ ?_ | refine hC.iaw (W := cx_LL) [] rfl rfl rfl rfl ?_ ?_ | refine hC.law (W := cx_LL) [] rfl rfl rfl rfl ?_ ?_ | refine hC.cpw (W := cx_LL) [] rfl rfl rfl rfl rfl rfl ?_ | refine hC.cpl (W := cx_LL) [] rfl rfl rfl rfl rfl rfl ?_ | refine hC.go [] _ rfl rfl ?_ | (intro h; first | exact (h rfl).elim | (exfalso; cases h; done) | (dsimp only [kk_cP, kk_cN] at h) | skip)
  refine ⟨_, _, rfl, rfl, rfl, ⟨rfl, rfl, rfl⟩, fun p h1 h2 => ?_⟩
  match p, h1, h2 with
  | 8, _, _ => exact ⟨rfl, rfl⟩
  | 9, _, _ => exact ⟨rfl, rfl⟩
  | 10, _, _ => exact ⟨rfl, rfl⟩
  | 11, _, _ => exact ⟨rfl, rfl⟩
  | 12, _, _ => exact ⟨rfl, rfl⟩
  | 13, _, _ => exact ⟨rfl, rfl⟩
  | 14, _, _ => exact ⟨rfl, rfl⟩
  | 15, _, _ => exact ⟨rfl, rfl⟩
  | 16, _, _ => exact ⟨rfl, rfl⟩
  | 17, _, _ => exact ⟨rfl, rfl⟩
  | 18, _, _ => exact ⟨rfl, rfl⟩
  | 19, _, _ => exact ⟨rfl, rfl⟩
  | 20, _, _ => exact ⟨rfl, rfl⟩
  | 21, _, _ => exact ⟨rfl, rfl⟩
  | 22, _, _ => exact ⟨rfl, rfl⟩
  | n + 23, _, h2 => exact absurd h2 (by omega)
set_option maxRecDepth 100000 in
set_option maxHeartbeats 4000000 in
theorem ff_become (l : Launch) (d : Nat) (O A : Nat → Nat → Int) (a b : Int) : kk_Ctr l d en_t_X1_become [(4, 0), (2, a), (2, b)] (cx_F O A) (fun rs w' => ∃ O' A', w' = cx_F O' A' ∧ rs = [] ∧ A' = A) := by
  refine kk_ctr en_hM (List.mem_of_getElem? (i := 55) rfl) rfl (Nat.le_of_ble_eq_true rfl) (fun K hC => ?_)
  have k64 : ∀ (u : Int) (O1 : Nat → Nat → Int), K 64 [(0, (4, 0)), (3, (2, b)), (5, (2, u))] [] (cx_F O1 A) := by
    intro u O1
    repeat' first | refine hC.gw [] _ rfl rfl ?_ | refine And.intro ?_ ?_ | exact True.intro | refine hC.iadd [] rfl rfl (by first | omega | (simp only [Int.reduceToNat] at *; omega)) ?_ | refine hC.isub [] rfl rfl (by first | omega | (simp only [Int.reduceToNat] at *; omega)) ?_ | refine hC.imul [] rfl rfl (by first | omega | (simp only [Int.reduceToNat] at *; omega)) ?_ | refine hC.iinc [] rfl rfl rfl rfl (by first | omega | (simp only [Int.reduceToNat] at *; omega)) ?_ | refine hC.pfw (W := cx_F) [] rfl rfl rfl rfl rfl rfl ?_ ?_ | refine hC.iaw (W := cx_F) [] rfl rfl rfl rfl ?_ ?_ | refine hC.law (W := cx_F) [] rfl rfl rfl rfl ?_ ?_ | refine hC.cpw (W := cx_F) [] rfl rfl rfl rfl rfl rfl ?_ | refine hC.cpl (W := cx_F) [] rfl rfl rfl rfl rfl rfl ?_ | refine hC.go [] _ rfl rfl ?_ | (intro h; first | exact (h rfl).elim | (exfalso; cases h; done) | (dsimp only [kk_cP, kk_cN] at h) | skip)
    all_goals first | exact ⟨_, _, rfl, rfl, rfl⟩ | skip
    exact (‹kk_cmp u 0 ≠ 0›) (kk_cmp0.mpr (by assumption))
  have k45 : ∀ (u : Int), K 45 [(0, (4, 0)), (1, (2, a)), (3, (2, b)), (5, (2, u))] [] (cx_F O A) := by
    intro u
    repeat' first | refine hC.gw [64] _ rfl rfl ?_ | refine And.intro ?_ ?_ | exact True.intro | refine hC.iadd [64] rfl rfl (by first | omega | (simp only [Int.reduceToNat] at *; omega)) ?_ | refine hC.isub [64] rfl rfl (by first | omega | (simp only [Int.reduceToNat] at *; omega)) ?_ | refine hC.imul [64] rfl rfl (by first | omega | (simp only [Int.reduceToNat] at *; omega)) ?_ | refine hC.iinc [64] rfl rfl rfl rfl (by first | omega | (simp only [Int.reduceToNat] at *; omega)) ?_ | refine hC.pfw (W := cx_F) [64] rfl rfl rfl rfl rfl rfl ?_ ?_ | refine hC.iaw (W := cx_F) [64] rfl rfl rfl rfl ?_ ?_ | refine hC.law (W := cx_F) [64] rfl rfl rfl rfl ?_ ?_ | refine hC.cpw (W := cx_F) [64] rfl rfl rfl rfl rfl rfl ?_ | refine hC.cpl (W := cx_F) [64] rfl rfl rfl rfl rfl rfl ?_ | refine hC.go [64] _ rfl rfl ?_ | (intro h; first | exact (h rfl).elim | (exfalso; cases h; done) | (dsimp only [kk_cP, kk_cN] at h) | skip)
    all_goals first | exact hC.sub [(0, (4, 0)), (3, (2, b)), (5, (2, u))] ⟨rfl, rfl, rfl, trivial⟩ (k64 u _) | skip
    exact (‹kk_cmp u 0 ≠ 0›) (kk_cmp0.mpr (by assumption))
  have k9 : ∀ (n : Nat) (i : Int) (u : Int) (v : Int), (129 - i).toNat < n → (0 ≤ i ∧ i ≤ 128) → K 9 [(0, (4, 0)), (1, (2, a)), (3, (2, b)), (5, (2, u)), (7, (2, v)), (9, (0, i))] [] (cx_F O A) := by
    intro n
    induction n with
    | zero => intro i u v hz; exact absurd hz (Nat.not_lt_zero _)
    | succ n ih =>
      intro i u v hn g0
      refine hC.go [] _ rfl rfl ?_
      repeat' first | refine hC.gw [9, 45] _ rfl rfl ?_ | refine And.intro ?_ ?_ | exact True.intro | refine hC.iadd [9, 45] rfl rfl (by first | omega | (simp only [Int.reduceToNat] at *; omega)) ?_ | refine hC.isub [9, 45] rfl rfl (by first | omega | (simp only [Int.reduceToNat] at *; omega)) ?_ | refine hC.imul [9, 45] rfl rfl (by first | omega | (simp only [Int.reduceToNat] at *; omega)) ?_ | refine hC.iinc [9, 45] rfl rfl rfl rfl (by first | omega | (simp only [Int.reduceToNat] at *; omega)) ?_ | refine hC.pfw (W := cx_F) [9, 45] rfl rfl rfl rfl rfl rfl ?_ ?_ | refine hC.iaw (W := cx_F) [9, 45] rfl rfl rfl rfl ?_ ?_ | refine hC.law (W := cx_F) [9, 45] rfl rfl rfl rfl ?_ ?_ | refine hC.cpw (W := cx_F) [9, 45] rfl rfl rfl rfl rfl rfl ?_ | refine hC.cpl (W := cx_F) [9, 45] rfl rfl rfl rfl rfl rfl ?_ | refine hC.go [9, 45] _ rfl rfl ?_ | (intro h; first | exact (h rfl).elim | (exfalso; cases h; done) | (dsimp only [kk_cP, kk_cN] at h) | skip)
      all_goals first | exact hC.sub [(0, (4, 0)), (1, (2, a)), (3, (2, b)), (5, (2, u))] ⟨rfl, rfl, rfl, rfl, trivial⟩ (k45 u) | exact hC.sub [(0, (4, 0)), (1, (2, _)), (3, (2, _)), (5, (2, _)), (7, (2, _)), (9, (0, _))] ⟨rfl, rfl, rfl, rfl, rfl, rfl, trivial⟩ (ih _ _ _ (by omega) (by omega)) | skip
      exact (‹kk_cmp v 0 ≠ 0›) (kk_cmp0.mpr (by assumption))
  repeat' first | refine hC.gw [9] _ rfl rfl ?_ | refine And.intro ?_ ?_ | exact True.intro | refine hC.iadd [9] rfl rfl (by first | omega | (simp only [Int.reduceToNat] at *; omega)) ?_ | refine hC.isub [9] rfl rfl (by first | omega | (simp only [Int.reduceToNat] at *; omega)) ?_ | refine hC.imul [9] rfl rfl (by first | omega | (simp only [Int.reduceToNat] at *; omega)) ?_ | refine hC.iinc [9] rfl rfl rfl rfl (by first | omega | (simp only [Int.reduceToNat] at *; omega)) ?_ | refine hC.pfw (W := cx_F) [9] rfl rfl rfl rfl rfl rfl ?_ ?_ | refine hC.iaw (W := cx_F) [9] rfl rfl rfl rfl ?_ ?_ | refine hC.law (W := cx_F) [9] rfl rfl rfl rfl ?_ ?_ | refine hC.cpw (W := cx_F) [9] rfl rfl rfl rfl rfl rfl ?_ | refine hC.cpl (W := cx_F) [9] rfl rfl rfl rfl rfl rfl ?_ | refine hC.go [9] _ rfl rfl ?_ | (intro h; first | exact (h rfl).elim | (exfalso; cases h; done) | (dsimp only [kk_cP, kk_cN] at h) | skip)
  exact hC.sub [(0, (4, 0)), (1, (2, _)), (3, (2, _)), (5, (2, _)), (7, (2, _)), (9, (0, _))] ⟨rfl, rfl, rfl, rfl, rfl, rfl, trivial⟩ (k9 _ _ _ _ (Nat.lt_succ_self _) (by omega))
set_option maxRecDepth 100000 in
set_option maxHeartbeats 4000000 in
theorem ff_part (l : Launch) (d : Nat) (O A : Nat → Nat → Int) (q : Int) : kk_Ctr l d en_t_X1_part [(4, 0), (0, q)] (cx_F O A) (fun rs w' => w' = cx_F O A ∧ ∃ x, rs = [(2, x)]) := by
  refine kk_ctr en_hM (List.mem_of_getElem? (i := 56) rfl) rfl (Nat.le_of_ble_eq_true rfl) (fun K hC => ?_)
  repeat' first | refine hC.gw [] _ rfl rfl ?_ | refine And.intro ?_ ?_ | exact True.intro | refine hC.iadd [] rfl rfl (by first | omega | (simp only [Int.reduceToNat] at *; omega)) ?_ | refine hC.isub [] rfl rfl (by first | omega | (simp only [Int.reduceToNat] at *; omega)) ?_ | refine hC.imul [] rfl rfl (by first | omega | (simp only [Int.reduceToNat] at *; omega)) ?_ | refine hC.iinc [] rfl rfl rfl rfl (by first | omega | (simp only [Int.reduceToNat] at *; omega)) ?_ | refine hC.pfw (W := cx_F) [] rfl rfl rfl rfl rfl rfl ?_ ?_ | refine hC.iaw (W := cx_F) [] rfl rfl rfl rfl ?_ ?_ | refine hC.law (W := cx_F) [] rfl rfl rfl rfl ?_ ?_ | refine hC.cpw (W := cx_F) [] rfl rfl rfl rfl rfl rfl ?_ | refine hC.cpl (W := cx_F) [] rfl rfl rfl rfl rfl rfl ?_ | refine hC.go [] _ rfl rfl ?_ | (intro h; first | exact (h rfl).elim | (exfalso; cases h; done) | (dsimp only [kk_cP, kk_cN] at h) | skip)
  all_goals first | rfl | omega | exact ⟨_, rfl⟩ | exact Or.inl rfl | exact Or.inr rfl | (simp only [Int.reduceToNat] at *; omega)
