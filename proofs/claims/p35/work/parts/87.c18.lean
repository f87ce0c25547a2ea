/-! THE CLASS, 18: a book is judged -/
def bl_ln (A : Nat → Nat → Int) (j : Nat) : Prop := (A 1 j = 9 → 0 ≤ A 3 j ∧ A 3 j ≤ 9) ∧ (A 1 j = 10 → 0 ≤ A 2 j ∧ A 2 j ≤ 3 ∧ 0 ≤ A 3 j ∧ A 3 j ≤ 7)
def bl_P (O A O' A' : Nat → Nat → Int) : Prop := lo_I O' A' ∧ O' 0 = O 0 ∧ (∀ p, p < 5 → A' p = A p) ∧ (∀ p, 13 ≤ p → O' p = O p ∧ A' p = A p)
theorem bl_P.out {O A O1 A1 O2 A2 : Nat → Nat → Int} (h : bl_P O A O1 A1) (h2 : ll_P (cc_in [5, 6, 7, 8, 9, 10, 11, 12, 13, 14, 15, 16, 17, 18, 19] O1) (cc_in [5, 6, 7, 8, 9, 10, 11, 12, 13, 14, 15, 16, 17, 18, 19] A1) O2 A2) : bl_P O A (cc_out O2 O1 [5, 6, 7, 8, 9, 10, 11, 12, 13, 14, 15, 16, 17, 18, 19] 0) (cc_out A2 A1 [5, 6, 7, 8, 9, 10, 11, 12, 13, 14, 15, 16, 17, 18, 19] 0) := by
  obtain ⟨-, e0, ea, eb⟩ := h
  obtain ⟨g, gb⟩ := h2
  refine ⟨g, e0, fun p hp => (cc_out_out (by simp; omega)).trans (ea p hp), fun p hp => ?_⟩
  match p, hp with
  | 13, _ => exact ⟨(gb 8 (by decide)).1.trans (eb 13 (by decide)).1, (gb 8 (by decide)).2.trans (eb 13 (by decide)).2⟩
  | 14, _ => exact ⟨(gb 9 (by decide)).1.trans (eb 14 (by decide)).1, (gb 9 (by decide)).2.trans (eb 14 (by decide)).2⟩
  | 15, _ => exact ⟨(gb 10 (by decide)).1.trans (eb 15 (by decide)).1, (gb 10 (by decide)).2.trans (eb 15 (by decide)).2⟩
  | 16, _ => exact ⟨(gb 11 (by decide)).1.trans (eb 16 (by decide)).1, (gb 11 (by decide)).2.trans (eb 16 (by decide)).2⟩
  | 17, _ => exact ⟨(gb 12 (by decide)).1.trans (eb 17 (by decide)).1, (gb 12 (by decide)).2.trans (eb 17 (by decide)).2⟩
  | 18, _ => exact ⟨(gb 13 (by decide)).1.trans (eb 18 (by decide)).1, (gb 13 (by decide)).2.trans (eb 18 (by decide)).2⟩
  | 19, _ => exact ⟨(gb 14 (by decide)).1.trans (eb 19 (by decide)).1, (gb 14 (by decide)).2.trans (eb 19 (by decide)).2⟩
  | n + 20, _ =>
    rw [cc_out_out (by simp), cc_out_out (by simp)]
    exact eb (n + 20) (by omega)
set_option maxRecDepth 100000 in
set_option maxHeartbeats 4000000 in
theorem bb_withKind (l : Launch) (d : Nat) (a b : Int) : kk_Ctr l d en_t_X0_withKind [(0, a), (0, b)] [] (fun rs w' => w' = [] ∧ ((rs = [(0, 0)] ∧ b = 0) ∨ ∃ x, rs = [(0, x)] ∧ (1 ≤ a → 1 ≤ b → b ≤ 9 → a ≤ 90 → x ≠ 0))) := by
  refine kk_ctr en_hM (List.mem_of_getElem? (i := 52) rfl) rfl (Nat.le_of_ble_eq_true rfl) (fun K hC => ?_)
  repeat' first | refine hC.gn [] _ rfl rfl ?_ | refine And.intro ?_ ?_ | exact True.intro | refine hC.iadd [] rfl rfl (by first | omega | (simp only [Int.reduceToNat] at *; omega)) ?_ | refine hC.isub [] rfl rfl (by first | omega | (simp only [Int.reduceToNat] at *; omega)) ?_ | refine hC.imul [] rfl rfl (by first | omega | (simp only [Int.reduceToNat] at *; omega)) ?_ | refine hC.iinc [] rfl rfl rfl rfl (by first | omega | (simp only [Int.reduceToNat] at *; omega)) ?_ | refine hC.go [] _ rfl rfl ?_ | (intro h; first | exact (h rfl).elim | (exfalso; cases h; done) | (dsimp only [kk_cP, kk_cN] at h) | skip)
  all_goals first | rfl | exact Or.inl ⟨rfl, by assumption⟩ | skip
  exact Or.inr ⟨_, rfl, fun h1 h2 h3 h4 => by rw [kk_add (by omega)]; omega⟩
set_option maxRecDepth 100000 in
set_option maxHeartbeats 4000000 in
theorem bb_whyNoDays (l : Launch) (d : Nat) (O A : Nat → Nat → Int) (x : Int) : kk_Ctr l (d + 1) en_t_X0_whyNoDays [(4, 0), (0, x)] (cx_L O A) (ll_Rd O A) := by
  refine kk_ctr en_hM (List.mem_of_getElem? (i := 53) rfl) rfl (Nat.le_of_ble_eq_true rfl) (fun K hC => ?_)
  repeat' first | refine hC.gw [] _ rfl rfl ?_ | refine And.intro ?_ ?_ | exact True.intro | refine hC.iadd [] rfl rfl (by first | omega | (simp only [Int.reduceToNat] at *; omega)) ?_ | refine hC.isub [] rfl rfl (by first | omega | (simp only [Int.reduceToNat] at *; omega)) ?_ | refine hC.imul [] rfl rfl (by first | omega | (simp only [Int.reduceToNat] at *; omega)) ?_ | refine hC.iinc [] rfl rfl rfl rfl (by first | omega | (simp only [Int.reduceToNat] at *; omega)) ?_ | refine hC.pfw (W := cx_L) [] rfl rfl rfl rfl rfl rfl ?_ ?_ | refine hC.iaw (W := cx_L) [] rfl rfl rfl rfl ?_ ?_ | refine hC.law (W := cx_L) [] rfl rfl rfl rfl ?_ ?_ | refine hC.cpw (W := cx_L) [] rfl rfl rfl rfl rfl rfl ?_ | refine hC.cpl (W := cx_L) [] rfl rfl rfl rfl rfl rfl ?_ | refine hC.go [] _ rfl rfl ?_ | (intro h; first | exact (h rfl).elim | (exfalso; cases h; done) | (dsimp only [kk_cP, kk_cN] at h) | skip) | (refine hC.rd ce_L_H (hh_hasNo l _ _ _) rfl rfl rfl rfl rfl rfl (Nat.le_refl _) ?_; rintro rs (⟨rfl, q1⟩ | ⟨rfl, q1⟩))
  all_goals first | rfl | omega | exact ⟨_, rfl⟩ | exact Or.inl rfl | exact Or.inr rfl | (simp only [Int.reduceToNat] at *; omega)
set_option maxRecDepth 100000 in
set_option maxHeartbeats 4000000 in
theorem ll_whyNoFold2 (l : Launch) (d : Nat) (O A : Nat → Nat → Int) (c : Int) (c0 : 0 ≤ c) (c9 : c ≤ 9) : kk_Ctr l d en_t_X4_whyNoFold [(4, 0), (0, c)] (cx_L O A) (fun rs w' => w' = cx_L O A ∧ ∃ x, rs = [(0, x)] ∧ 0 ≤ x ∧ x ≤ 3 ∧ (x = 0 → O 0 10 = -1 ∧ O 0 9 < 400)) := by
  refine kk_ctr en_hM (List.mem_of_getElem? (i := 95) rfl) rfl (Nat.le_of_ble_eq_true rfl) (fun K hC => ?_)
  repeat' first | refine hC.gw [] _ rfl rfl ?_ | refine And.intro ?_ ?_ | exact True.intro | refine hC.iadd [] rfl rfl (by first | omega | (simp only [Int.reduceToNat] at *; omega)) ?_ | refine hC.isub [] rfl rfl (by first | omega | (simp only [Int.reduceToNat] at *; omega)) ?_ | refine hC.imul [] rfl rfl (by first | omega | (simp only [Int.reduceToNat] at *; omega)) ?_ | refine hC.iinc [] rfl rfl rfl rfl (by first | omega | (simp only [Int.reduceToNat] at *; omega)) ?_ | refine hC.pfw (W := cx_L) [] rfl rfl rfl rfl rfl rfl ?_ ?_ | refine hC.iaw (W := cx_L) [] rfl rfl rfl rfl ?_ ?_ | refine hC.law (W := cx_L) [] rfl rfl rfl rfl ?_ ?_ | refine hC.cpw (W := cx_L) [] rfl rfl rfl rfl rfl rfl ?_ | refine hC.cpl (W := cx_L) [] rfl rfl rfl rfl rfl rfl ?_ | refine hC.go [] _ rfl rfl ?_ | (intro h; first | exact (h rfl).elim | (exfalso; cases h; done) | (dsimp only [kk_cP, kk_cN] at h) | skip)
  all_goals first | rfl | omega | exact ⟨_, rfl, by decide, by decide, fun q => absurd q (by decide)⟩ | exact ⟨_, rfl, by decide, by decide, fun _ => ⟨by omega, by omega⟩⟩
set_option maxRecDepth 100000 in
set_option maxHeartbeats 4000000 in
theorem bb_whyWrong (l : Launch) (d : Nat) (O A : Nat → Nat → Int) (i : Int) (i0 : 0 ≤ i) (i9 : i < 40) (hln : bl_ln A i.toNat) : kk_Ctr l (d + 2) en_t_X0_whyWrong [(4, 0), (0, i), (4, 5)] (cx_BL O A) (fun rs w' => w' = cx_BL O A ∧ ∃ x, rs = [(0, x)] ∧ (x = 0 → (A 1 i.toNat = 8 ∨ A 1 i.toNat = 9 → O 5 10 = -1 ∧ O 5 9 < 400) ∧ (A 1 i.toNat = 11 → O 5 10 ≠ -1))) := by
  obtain ⟨l1, l2⟩ := hln
  refine kk_ctr en_hM (List.mem_of_getElem? (i := 48) rfl) rfl (Nat.le_of_ble_eq_true rfl) (fun K hC => ?_)
  repeat' first | refine hC.gw [] _ rfl rfl ?_ | refine And.intro ?_ ?_ | exact True.intro | refine hC.iadd [] rfl rfl (by first | omega | (simp only [Int.reduceToNat] at *; omega)) ?_ | refine hC.isub [] rfl rfl (by first | omega | (simp only [Int.reduceToNat] at *; omega)) ?_ | refine hC.imul [] rfl rfl (by first | omega | (simp only [Int.reduceToNat] at *; omega)) ?_ | refine hC.iinc [] rfl rfl rfl rfl (by first | omega | (simp only [Int.reduceToNat] at *; omega)) ?_ | refine hC.pfw (W := cx_BL) [] rfl rfl rfl rfl rfl rfl ?_ ?_ | refine hC.iaw (W := cx_BL) [] rfl rfl rfl rfl ?_ ?_ | refine hC.law (W := cx_BL) [] rfl rfl rfl rfl ?_ ?_ | refine hC.cpw (W := cx_BL) [] rfl rfl rfl rfl rfl rfl ?_ | refine hC.cpl (W := cx_BL) [] rfl rfl rfl rfl rfl rfl ?_ | refine hC.go [] _ rfl rfl ?_ | (intro h; first | exact (h rfl).elim | (exfalso; cases h; done) | (dsimp only [kk_cP, kk_cN] at h) | skip) | (refine hC.rd ce_BL_L (ll_whyNoDraw l _ _ _) rfl rfl rfl rfl rfl rfl (Nat.le_refl _) ?_; rintro rs ⟨x, rfl, hx0⟩) | (refine hC.rd ce_BL_L (ll_whyNoFold2 l _ _ _ _ (by omega) (by omega)) rfl rfl rfl rfl rfl rfl (Nat.le_refl _) ?_; rintro rs ⟨x, rfl, x1, x2, hx0⟩) | (refine hC.rd ce_BL_L (ll_whyNoDeed l _ _ _ _ _ (by omega) (by omega)) rfl rfl rfl rfl rfl rfl (Nat.le_refl _) ?_; rintro rs ⟨x, rfl⟩) | (refine hC.rd ce_BL_L (bb_whyNoDays l _ _ _ _) rfl rfl rfl rfl rfl rfl (Nat.le_refl _) ?_; rintro rs ⟨x, rfl⟩) | (refine hC.call (bb_withKind l _ _ _) [] rfl rfl rfl rfl rfl rfl trivial (Nat.le_refl _) ?_; rintro rs w' ⟨rfl, ⟨rfl, b0⟩ | ⟨y, rfl, hy⟩⟩)
  all_goals first | rfl | omega | skip
  all_goals first
    | exact ⟨_, rfl, fun q => ⟨fun _ => hx0 q, fun g => by omega⟩⟩
    | exact ⟨_, rfl, fun _ => ⟨fun _ => hx0 b0, fun g => by omega⟩⟩
    | exact ⟨_, rfl, fun q => ⟨fun g => by omega, fun g => by omega⟩⟩
    | exact ⟨_, rfl, fun q => ⟨fun _ => hx0 (by by_cases hz : x = 0; exact hz; exact absurd q (hy (by decide) (by omega) (by omega) (by decide))), fun g => by omega⟩⟩
    | exact ⟨_, rfl, fun q => absurd q (by decide)⟩
