/-! THE CLASS, 24: a book is read -/
variable {Rs : Nat → Int}
def bh_J (T Bt Rs : Nat → Int) (H G O A : Nat → Nat → Int) : Prop := ((0 ≤ O 0 4 ∧ O 0 4 ≤ 40) ∧ ∀ j : Nat, (j : Int) < O 0 4 → bl_ln A j) ∧ hr_J T Bt Rs (cc_in [5, 6, 7, 8, 9, 10, 11, 12, 13, 14, 15] O) (cc_in [5, 6, 7, 8, 9, 10, 11, 12, 13, 14, 15] A) ∧ ∀ p, 5 ≤ p → p < 12 → O p = H p ∧ A p = G p
section BHJ
variable {T Bt : Nat → Int} {H G O A O2 A2 : Nat → Nat → Int}
set_option maxRecDepth 100000 in
set_option maxHeartbeats 4000000 in
theorem bh_J.len (h : bh_J T Bt Rs H G O A) : 0 ≤ cc_in [12, 13, 14, 15] O 2 1 ∧ cc_in [12, 13, 14, 15] O 2 1 ≤ 940 := hr_J.len h.2.1
set_option maxRecDepth 100000 in
set_option maxHeartbeats 4000000 in
theorem bh_J.out (h : bh_J T Bt Rs H G O A) (hk : O2 2 = cc_in [12, 13, 14, 15] O 2) : bh_J T Bt Rs H G (cc_out O2 O [12, 13, 14, 15] 0) A := by
  refine ⟨h.1, ⟨h.2.1.1, h.2.1.2.1, h.2.1.2.2.1, (show O2 2 = T from hk.trans h.2.1.2.2.2.1), h.2.1.2.2.2.2.1, h.2.1.2.2.2.2.2⟩, fun p h1 h2 => ?_⟩
  rw [cc_out_out (by simp; omega)]
  exact h.2.2 p h1 h2
set_option maxRecDepth 100000 in
set_option maxHeartbeats 4000000 in
theorem bh_J.find (h : bh_J T Bt Rs H G O A) (h3 : hr_J T Bt Rs O2 (cc_in [5, 6, 7, 8, 9, 10, 11, 12, 13, 14, 15] A)) (hO : ∀ p, p < 7 → O2 p = cc_in [5, 6, 7, 8, 9, 10, 11, 12, 13, 14, 15] O p) : bh_J T Bt Rs H G (cc_out O2 O [5, 6, 7, 8, 9, 10, 11, 12, 13, 14, 15] 0) A := by
  refine ⟨h.1, ⟨h3.1, h3.2.1, h3.2.2.1, h3.2.2.2.1, h3.2.2.2.2.1, h3.2.2.2.2.2⟩, fun p h1 h2 => ⟨?_, (h.2.2 p h1 h2).2⟩⟩
  have e := (h.2.2 p h1 h2).1
  match p, h1, h2, e with
  | 5, _, _, e => exact (hO 0 (by decide)).trans e
  | 6, _, _, e => exact (hO 1 (by decide)).trans e
  | 7, _, _, e => exact (hO 2 (by decide)).trans e
  | 8, _, _, e => exact (hO 3 (by decide)).trans e
  | 9, _, _, e => exact (hO 4 (by decide)).trans e
  | 10, _, _, e => exact (hO 5 (by decide)).trans e
  | 11, _, _, e => exact (hO 6 (by decide)).trans e
/-! a number is written behind the lines that are -/
set_option maxRecDepth 100000 in
set_option maxHeartbeats 4000000 in
theorem bh_J.put (h : bh_J T Bt Rs H G O A) {k : Nat} (hk : k < 5) {v : Int} : bh_J T Bt Rs H G O (mm_up A k (kk_up (A k) (O 0 4).toNat v)) := by
  have e : ∀ q, q ≠ k → mm_up A k (kk_up (A k) (O 0 4).toNat v) q = A q := fun q hq => mm_up_ne hq
  have e2 : ∀ q j, j ≠ (O 0 4).toNat → mm_up A k (kk_up (A k) (O 0 4).toNat v) q j = A q j := by
    intro q j hj
    by_cases hq : q = k
    · subst hq
      show mm_up A q (kk_up (A q) (O 0 4).toNat v) q j = A q j
      unfold mm_up
      rw [Nat.beq_refl]
      exact kk_up_ne hj
    · rw [e q hq]
  refine ⟨⟨h.1.1, fun j hj => ?_⟩, ⟨?_, ?_, h.2.1.2.2.1, h.2.1.2.2.2.1, ?_, h.2.1.2.2.2.2.2.1, (e 13 (by omega)).trans h.2.1.2.2.2.2.2.2⟩, fun p h1 h2 => ⟨(h.2.2 p h1 h2).1, (e p (by omega)).trans (h.2.2 p h1 h2).2⟩⟩
  · have q := h.1.2 j hj
    unfold bl_ln at q ⊢
    rw [e2 1 j (by omega), e2 2 j (by omega), e2 3 j (by omega)]
    exact q
  · have q := h.2.1.1
    unfold hh_c at q ⊢
    show (0 ≤ mm_up A k _ 6 0 ∧ mm_up A k _ 6 0 ≤ 8) ∧ (0 ≤ mm_up A k _ 6 1 ∧ mm_up A k _ 6 1 ≤ 4) ∧ (0 ≤ mm_up A k _ 6 2 ∧ mm_up A k _ 6 2 ≤ 10)
    rw [e 6 (by omega)]
    exact q
  · show ∀ j, j < 32 → 0 ≤ mm_up A k _ 11 j
    rw [e 11 (by omega)]
    exact h.2.1.2.1
  · show mm_up A k _ 15 = Bt
    rw [e 15 (by omega)]
    exact h.2.1.2.2.2.2.1
end BHJ
def bh_Q (T Bt Rs : Nat → Int) (H G O A : Nat → Nat → Int) : List en_V → List kk_C → Prop := fun rs w' => ∃ O' A', w' = cx_BHR O' A' ∧ bh_J T Bt Rs H G O' A' ∧ O' 0 4 = O 0 4 ∧ (A' 1 = A 1 ∧ A' 2 = A 2) ∧ (rs = [(0, 1)] ∨ rs = [(0, 0)])
set_option maxRecDepth 100000 in
set_option maxHeartbeats 4000000 in
theorem bh_readNumber (l : Launch) (d : Nat) (T Bt : Nat → Int) (H G O A : Nat → Nat → Int) (a b : Int) (hJ : bh_J T Bt Rs H G O A) (h40 : O 0 4 < 40) : kk_Ctr l (d + 3) en_t_X0_readNumber [(4, 0), (4, 12), (0, a), (0, b)] (cx_BHR O A) (bh_Q T Bt Rs H G O A) := by
  have h0 := hJ.1.1.1
  refine kk_ctr en_hM (List.mem_of_getElem? (i := 50) rfl) rfl (Nat.le_of_ble_eq_true rfl) (fun K hC => ?_)
  have k24 : ∀ (O1 A1 : Nat → Nat → Int), bh_J T Bt Rs H G O1 A1 → O1 0 4 = O 0 4 → A1 1 = A 1 ∧ A1 2 = A 2 → K 24 [(0, (4, 0)), (1, (4, 12))] [] (cx_BHR O1 A1) := by
    intro O1 A1 hJ1 e4 e12
    clear hJ
    repeat' first | refine hC.gw [] _ rfl rfl ?_ | refine And.intro ?_ ?_ | exact True.intro | refine hC.iadd [] rfl rfl (by first | omega | (simp only [Int.reduceToNat] at *; omega)) ?_ | refine hC.isub [] rfl rfl (by first | omega | (simp only [Int.reduceToNat] at *; omega)) ?_ | refine hC.imul [] rfl rfl (by first | omega | (simp only [Int.reduceToNat] at *; omega)) ?_ | refine hC.iinc [] rfl rfl rfl rfl (by first | omega | (simp only [Int.reduceToNat] at *; omega)) ?_ | refine hC.pfw (W := cx_BHR) [] rfl rfl rfl rfl rfl rfl ?_ ?_ | refine hC.iaw (W := cx_BHR) [] rfl rfl rfl rfl ?_ ?_ | refine hC.law (W := cx_BHR) [] rfl rfl rfl rfl ?_ ?_ | refine hC.cpw (W := cx_BHR) [] rfl rfl rfl rfl rfl rfl ?_ | refine hC.cpl (W := cx_BHR) [] rfl rfl rfl rfl rfl rfl ?_ | refine hC.go [] _ rfl rfl ?_ | (intro h; first | exact (h rfl).elim | (exfalso; cases h; done) | (dsimp only [kk_cP, kk_cN] at h) | skip) | (refine rw_step hC ce_BHR_R rfl (bh_J.len (by assumption)) (Nat.le_refl _) rfl rfl rfl rfl rfl ?_; intro O2 hk2; have hJ2 := bh_J.out (by assumption) hk2)
    all_goals first | exact ⟨_, _, rfl, hJ2, e4, e12, Or.inl rfl⟩ | exact Or.inl rfl | exact Or.inr rfl
  repeat' first | refine hC.gw [24] _ rfl rfl ?_ | refine And.intro ?_ ?_ | exact True.intro | refine hC.iadd [24] rfl rfl (by first | omega | (simp only [Int.reduceToNat] at *; omega)) ?_ | refine hC.isub [24] rfl rfl (by first | omega | (simp only [Int.reduceToNat] at *; omega)) ?_ | refine hC.imul [24] rfl rfl (by first | omega | (simp only [Int.reduceToNat] at *; omega)) ?_ | refine hC.iinc [24] rfl rfl rfl rfl (by first | omega | (simp only [Int.reduceToNat] at *; omega)) ?_ | refine hC.pfw (W := cx_BHR) [24] rfl rfl rfl rfl rfl rfl ?_ ?_ | refine hC.iaw (W := cx_BHR) [24] rfl rfl rfl rfl ?_ ?_ | refine hC.law (W := cx_BHR) [24] rfl rfl rfl rfl ?_ ?_ | refine hC.cpw (W := cx_BHR) [24] rfl rfl rfl rfl rfl rfl ?_ | refine hC.cpl (W := cx_BHR) [24] rfl rfl rfl rfl rfl rfl ?_ | refine hC.go [24] _ rfl rfl ?_ | (intro h; first | exact (h rfl).elim | (exfalso; cases h; done) | (dsimp only [kk_cP, kk_cN] at h) | skip) | (refine rw_number hC ce_BHR_R rfl _ _ (Nat.le_refl _) rfl rfl rfl rfl rfl ?_ ?_ <;> intro O2 hk2 <;> (try intro n1 n2) <;> (have hJ2 := bh_J.out (by assumption) hk2))
  all_goals first | omega | exact h0 | exact h40 | exact ⟨h0, h40⟩ | exact ⟨_, _, rfl, hJ2, rfl, ⟨rfl, rfl⟩, Or.inr rfl⟩ | exact Or.inl rfl | exact Or.inr rfl | exact hC.sub [(0, (4, 0)), (1, (4, 12))] ⟨rfl, rfl, trivial⟩ (k24 _ _ (hJ2.put (k := 3) (by decide)) rfl ⟨rfl, rfl⟩)
set_option maxRecDepth 100000 in
set_option maxHeartbeats 4000000 in
theorem bh_readName (l : Launch) (d : Nat) (T Bt : Nat → Int) (H G O A : Nat → Nat → Int) (s : Int) (s0 : 0 ≤ s) (s2 : s ≤ 2) (hJ : bh_J T Bt Rs H G O A) (h40 : O 0 4 < 40) : kk_Ctr l (d + 3) en_t_X0_readName [(4, 0), (4, 12), (4, 5), (0, s)] (cx_BHR O A) (fun rs w' => ∃ O' A', w' = cx_BHR O' A' ∧ bh_J T Bt Rs H G O' A' ∧ O' 0 4 = O 0 4 ∧ (A' 1 = A 1 ∧ A' 2 = A 2) ∧ ((rs = [(0, 1)] ∧ 0 ≤ A' 3 (O 0 4).toNat ∧ A' 3 (O 0 4).toNat < A 6 s.toNat) ∨ rs = [(0, 0)])) := by
  have h0 := hJ.1.1.1
  refine kk_ctr en_hM (List.mem_of_getElem? (i := 51) rfl) rfl (Nat.le_of_ble_eq_true rfl) (fun K hC => ?_)
  have k15 : ∀ (O1 A1 : Nat → Nat → Int), bh_J T Bt Rs H G O1 A1 → O1 0 4 = O 0 4 → A1 1 = A 1 ∧ A1 2 = A 2 → -1 ≤ A1 3 (O 0 4).toNat ∧ A1 3 (O 0 4).toNat < A 6 s.toNat → K 15 [(0, (4, 0)), (1, (4, 12))] [] (cx_BHR O1 A1) := by
    intro O1 A1 hJ1 e4 e12 hx
    clear hJ
    rw [← e4] at hx
    repeat' first | refine hC.gw [] _ rfl rfl ?_ | refine And.intro ?_ ?_ | exact True.intro | refine hC.iadd [] rfl rfl (by first | omega | (simp only [Int.reduceToNat] at *; omega)) ?_ | refine hC.isub [] rfl rfl (by first | omega | (simp only [Int.reduceToNat] at *; omega)) ?_ | refine hC.imul [] rfl rfl (by first | omega | (simp only [Int.reduceToNat] at *; omega)) ?_ | refine hC.iinc [] rfl rfl rfl rfl (by first | omega | (simp only [Int.reduceToNat] at *; omega)) ?_ | refine hC.pfw (W := cx_BHR) [] rfl rfl rfl rfl rfl rfl ?_ ?_ | refine hC.iaw (W := cx_BHR) [] rfl rfl rfl rfl ?_ ?_ | refine hC.law (W := cx_BHR) [] rfl rfl rfl rfl ?_ ?_ | refine hC.cpw (W := cx_BHR) [] rfl rfl rfl rfl rfl rfl ?_ | refine hC.cpl (W := cx_BHR) [] rfl rfl rfl rfl rfl rfl ?_ | refine hC.go [] _ rfl rfl ?_ | (intro h; first | exact (h rfl).elim | (exfalso; cases h; done) | (dsimp only [kk_cP, kk_cN] at h) | skip) | (refine rw_step hC ce_BHR_R rfl (bh_J.len (by assumption)) (Nat.le_refl _) rfl rfl rfl rfl rfl ?_; intro O2 hk2; have hJ2 := bh_J.out (by assumption) hk2)
    all_goals first | omega | exact ⟨_, _, rfl, hJ2, e4, e12, Or.inl ⟨rfl, by rw [← e4]; omega, by rw [← e4]; omega⟩⟩ | exact ⟨_, _, rfl, hJ1, e4, e12, Or.inr rfl⟩ | exact Or.inl rfl | exact Or.inr rfl
  repeat' first | refine hC.gw [] _ rfl rfl ?_ | refine And.intro ?_ ?_ | exact True.intro | refine hC.iadd [] rfl rfl (by first | omega | (simp only [Int.reduceToNat] at *; omega)) ?_ | refine hC.isub [] rfl rfl (by first | omega | (simp only [Int.reduceToNat] at *; omega)) ?_ | refine hC.imul [] rfl rfl (by first | omega | (simp only [Int.reduceToNat] at *; omega)) ?_ | refine hC.iinc [] rfl rfl rfl rfl (by first | omega | (simp only [Int.reduceToNat] at *; omega)) ?_ | refine hC.pfw (W := cx_BHR) [] rfl rfl rfl rfl rfl rfl ?_ ?_ | refine hC.iaw (W := cx_BHR) [] rfl rfl rfl rfl ?_ ?_ | refine hC.law (W := cx_BHR) [] rfl rfl rfl rfl ?_ ?_ | refine hC.cpw (W := cx_BHR) [] rfl rfl rfl rfl rfl rfl ?_ | refine hC.cpl (W := cx_BHR) [] rfl rfl rfl rfl rfl rfl ?_ | refine hC.go [] _ rfl rfl ?_ | (intro h; first | exact (h rfl).elim | (exfalso; cases h; done) | (dsimp only [kk_cP, kk_cN] at h) | skip)
  refine hC.ao ce_BHR_HR rfl (rr_findName l _ _ _ _ _ _ hJ.2.1 s0 s2) rfl rfl rfl rfl rfl rfl (Nat.le_refl _) ?_
  rintro rs O3 ⟨hJ3, hO3, x, rfl, x1, x2⟩
  have x2 : x < A 6 s.toNat := x2
  have hJ4 := hJ.find hJ3 hO3
  clear hJ hJ3 hO3
  repeat' first | refine hC.gw [15] _ rfl rfl ?_ | refine And.intro ?_ ?_ | exact True.intro | refine hC.iadd [15] rfl rfl (by first | omega | (simp only [Int.reduceToNat] at *; omega)) ?_ | refine hC.isub [15] rfl rfl (by first | omega | (simp only [Int.reduceToNat] at *; omega)) ?_ | refine hC.imul [15] rfl rfl (by first | omega | (simp only [Int.reduceToNat] at *; omega)) ?_ | refine hC.iinc [15] rfl rfl rfl rfl (by first | omega | (simp only [Int.reduceToNat] at *; omega)) ?_ | refine hC.pfw (W := cx_BHR) [15] rfl rfl rfl rfl rfl rfl ?_ ?_ | refine hC.iaw (W := cx_BHR) [15] rfl rfl rfl rfl ?_ ?_ | refine hC.law (W := cx_BHR) [15] rfl rfl rfl rfl ?_ ?_ | refine hC.cpw (W := cx_BHR) [15] rfl rfl rfl rfl rfl rfl ?_ | refine hC.cpl (W := cx_BHR) [15] rfl rfl rfl rfl rfl rfl ?_ | refine hC.go [15] _ rfl rfl ?_ | (intro h; first | exact (h rfl).elim | (exfalso; cases h; done) | (dsimp only [kk_cP, kk_cN] at h) | skip)
  all_goals first | omega | exact h0 | exact h40 | exact ⟨h0, h40⟩ | skip
  refine hC.sub [(0, (4, 0)), (1, (4, 12))] ⟨rfl, rfl, trivial⟩ (k15 _ _ (hJ4.put (k := 3) (by decide)) rfl ⟨rfl, rfl⟩ ?_)
  show -1 ≤ kk_up (A 3) (O 0 4).toNat x (O 0 4).toNat ∧ kk_up (A 3) (O 0 4).toNat x (O 0 4).toNat < A 6 s.toNat
  rw [kk_up_eq]
  exact ⟨x1, x2⟩
theorem bl_num {A A7 : Nat → Nat → Int} (a7 : A7 1 = A 1) {n : Nat} {c : Int} (ec : A 1 n = c) (h9 : c ≠ 9) (h10 : c ≠ 10) : bl_ln A7 n := by
  unfold bl_ln
  rw [a7, ec]
  exact ⟨fun q => absurd q h9, fun q => absurd q h10⟩
theorem bl_nam {A A7 : Nat → Nat → Int} (a7 : A7 1 = A 1) (b7 : A7 2 = A 2) {n : Nat} {c : Int} (ec : A 1 n = c) (hm : c = 10 → 0 ≤ A 2 n ∧ A 2 n ≤ 3) (q0 : 0 ≤ A7 3 n) (q9 : c = 9 → A7 3 n ≤ 9) (q7 : c = 10 → A7 3 n ≤ 7) : bl_ln A7 n := by
  unfold bl_ln
  rw [a7, b7, ec]
  exact ⟨fun q => ⟨q0, q9 q⟩, fun q => ⟨(hm q).1, (hm q).2, q0, q7 q⟩⟩
def bh_L (T Bt Rs : Nat → Int) (H G O : Nat → Nat → Int) : List en_V → List kk_C → Prop := fun rs w' => ∃ O' A', w' = cx_BHR O' A' ∧ bh_J T Bt Rs H G O' A' ∧ O' 0 4 = O 0 4 ∧ ((rs = [(0, 1)] ∧ O 0 4 < 40 ∧ bl_ln A' (O 0 4).toNat) ∨ rs = [(0, 0)])
set_option maxRecDepth 100000 in
set_option maxHeartbeats 4000000 in
theorem bh_readLine (l : Launch) (d : Nat) (T Bt : Nat → Int) (H G O A : Nat → Nat → Int) (hJ : bh_J T Bt Rs H G O A) : kk_Ctr l (d + 5) en_t_X0_readLine [(4, 0), (4, 12), (4, 5)] (cx_BHR O A) (bh_L T Bt Rs H G O) := by
  have h0 := hJ.1.1.1
  have c1 : A 6 1 ≤ 4 := hJ.2.1.1.2.1.2
  refine kk_ctr en_hM (List.mem_of_getElem? (i := 47) rfl) rfl (Nat.le_of_ble_eq_true rfl) (fun K hC => ?_)
  have k100 : ∀ (O1 A1 : Nat → Nat → Int) (c : Int), bh_J T Bt Rs H G O1 A1 → O1 0 4 = O 0 4 → O 0 4 < 40 → A1 1 (O1 0 4).toNat = c → (c = 10 → 0 ≤ A1 2 (O1 0 4).toNat ∧ A1 2 (O1 0 4).toNat ≤ 3) → K 100 [(0, (4, 0)), (1, (4, 12)), (2, (4, 5)), (3, (0, c))] [] (cx_BHR O1 A1) := by
    intro O1 A1 c hJ1 e4 h40 ec hm
    clear hJ
    have en : (O 0 4).toNat = (O1 0 4).toNat := by rw [e4]
    have c0 : A1 6 0 ≤ 8 := hJ1.2.1.1.1.2
    have c2 : A1 6 2 ≤ 10 := hJ1.2.1.1.2.2.2
    repeat' first | refine hC.gw [] _ rfl rfl ?_ | refine And.intro ?_ ?_ | exact True.intro | refine hC.iadd [] rfl rfl (by first | omega | (simp only [Int.reduceToNat] at *; omega)) ?_ | refine hC.isub [] rfl rfl (by first | omega | (simp only [Int.reduceToNat] at *; omega)) ?_ | refine hC.imul [] rfl rfl (by first | omega | (simp only [Int.reduceToNat] at *; omega)) ?_ | refine hC.iinc [] rfl rfl rfl rfl (by first | omega | (simp only [Int.reduceToNat] at *; omega)) ?_ | refine hC.pfw (W := cx_BHR) [] rfl rfl rfl rfl rfl rfl ?_ ?_ | refine hC.iaw (W := cx_BHR) [] rfl rfl rfl rfl ?_ ?_ | refine hC.law (W := cx_BHR) [] rfl rfl rfl rfl ?_ ?_ | refine hC.cpw (W := cx_BHR) [] rfl rfl rfl rfl rfl rfl ?_ | refine hC.cpl (W := cx_BHR) [] rfl rfl rfl rfl rfl rfl ?_ | refine hC.go [] _ rfl rfl ?_ | (intro h; first | exact (h rfl).elim | (exfalso; cases h; done) | (dsimp only [kk_cP, kk_cN] at h) | skip) | (refine rw_step hC ce_BHR_R rfl (bh_J.len (by assumption)) (Nat.le_refl _) rfl rfl rfl rfl rfl ?_; intro O2 hk2; have hJ2 := bh_J.out (by assumption) hk2) | (refine hC.same (bh_readNumber l _ T Bt H G _ _ _ _ (by assumption) (by show O1 0 4 < 40; omega)) rfl rfl rfl rfl (Nat.le_refl _) ?_; rintro rs w' ⟨O7, A7, rfl, hJ7, e7, ⟨a7, b7⟩, rfl | rfl⟩) | (refine hC.same (bh_readName l _ T Bt H G _ _ _ (by omega) (by omega) (by assumption) (by show O1 0 4 < 40; omega)) rfl rfl rfl rfl (Nat.le_refl _) ?_; rintro rs w' ⟨O7, A7, rfl, hJ7, e7, ⟨a7, b7⟩, ⟨rfl, q7, r7⟩ | rfl⟩) | (refine rw_takeWord hC ce_BHR_R rfl _ (bh_J.len (by assumption)) (Nat.le_refl _) rfl rfl rfl rfl rfl ?_ ?_ <;> intro O2 hk2 <;> (have hJ2 := bh_J.out (by assumption) hk2))
    all_goals first | exact Or.inl rfl | exact Or.inr rfl | exact ⟨_, _, rfl, hJ7, e7.trans e4, Or.inr rfl⟩ | exact ⟨_, _, rfl, hJ2, e4, Or.inr rfl⟩ | exact ⟨_, _, rfl, hJ7, e7.trans e4, Or.inl ⟨rfl, h40, by rw [en]; exact bl_num a7 ec (by omega) (by omega)⟩⟩ | exact ⟨_, _, rfl, hJ2, e4, Or.inl ⟨rfl, h40, by rw [en]; exact bl_num rfl ec (by omega) (by omega)⟩⟩ | exact ⟨_, _, rfl, hJ7, e7.trans e4, Or.inl ⟨rfl, h40, by rw [en]; exact bl_nam a7 b7 ec hm q7 (fun _ => by have r : A7 3 (O1 0 4).toNat < A1 6 2 := r7; omega) (fun q => absurd q (by omega))⟩⟩ | exact ⟨_, _, rfl, hJ7, e7.trans e4, Or.inl ⟨rfl, h40, by rw [en]; exact bl_nam a7 b7 ec hm q7 (fun q => absurd q (by omega)) (fun _ => by have r : A7 3 (O1 0 4).toNat < A1 6 0 := r7; omega)⟩⟩ | omega
  have k64 : ∀ (O1 : Nat → Nat → Int) (c m : Int), bh_J T Bt Rs H G O1 A → O1 0 4 = O 0 4 → (c = 10 → 0 ≤ m ∧ m ≤ 3) → K 64 [(0, (4, 0)), (1, (4, 12)), (2, (4, 5)), (3, (0, c)), (4, (0, m))] [] (cx_BHR O1 A) := by
    intro O1 c m hJ1 e4 hm
    clear hJ
    repeat' first | refine hC.gw [100] _ rfl rfl ?_ | refine And.intro ?_ ?_ | exact True.intro | refine hC.iadd [100] rfl rfl (by first | omega | (simp only [Int.reduceToNat] at *; omega)) ?_ | refine hC.isub [100] rfl rfl (by first | omega | (simp only [Int.reduceToNat] at *; omega)) ?_ | refine hC.imul [100] rfl rfl (by first | omega | (simp only [Int.reduceToNat] at *; omega)) ?_ | refine hC.iinc [100] rfl rfl rfl rfl (by first | omega | (simp only [Int.reduceToNat] at *; omega)) ?_ | refine hC.pfw (W := cx_BHR) [100] rfl rfl rfl rfl rfl rfl ?_ ?_ | refine hC.iaw (W := cx_BHR) [100] rfl rfl rfl rfl ?_ ?_ | refine hC.law (W := cx_BHR) [100] rfl rfl rfl rfl ?_ ?_ | refine hC.cpw (W := cx_BHR) [100] rfl rfl rfl rfl rfl rfl ?_ | refine hC.cpl (W := cx_BHR) [100] rfl rfl rfl rfl rfl rfl ?_ | refine hC.go [100] _ rfl rfl ?_ | (intro h; first | exact (h rfl).elim | (exfalso; cases h; done) | (dsimp only [kk_cP, kk_cN] at h) | skip) | (refine rw_refuse hC ce_BHR_R rfl _ (Nat.le_refl _) rfl rfl rfl rfl rfl ?_; intro O2 hk2; have hJ2 := bh_J.out (by assumption) hk2)
    all_goals first | omega | exact Or.inl rfl | exact Or.inr rfl | exact ⟨_, _, rfl, hJ2, e4, Or.inr rfl⟩ | skip
    refine hC.sub [(0, (4, 0)), (1, (4, 12)), (2, (4, 5)), (3, (0, c))] ⟨rfl, rfl, rfl, rfl, trivial⟩ (k100 _ _ c ((hJ1.put (k := 1) (by decide)).put (k := 2) (by decide)) e4 (by omega) ?_ ?_)
    · show kk_up (A 1) (O1 0 4).toNat c (O1 0 4).toNat = c
      rw [kk_up_eq]
    · show c = 10 → 0 ≤ kk_up (A 2) (O1 0 4).toNat m (O1 0 4).toNat ∧ kk_up (A 2) (O1 0 4).toNat m (O1 0 4).toNat ≤ 3
      rw [kk_up_eq]
      exact hm
  repeat' first | refine hC.gw [64] _ rfl rfl ?_ | refine And.intro ?_ ?_ | exact True.intro | refine hC.iadd [64] rfl rfl (by first | omega | (simp only [Int.reduceToNat] at *; omega)) ?_ | refine hC.isub [64] rfl rfl (by first | omega | (simp only [Int.reduceToNat] at *; omega)) ?_ | refine hC.imul [64] rfl rfl (by first | omega | (simp only [Int.reduceToNat] at *; omega)) ?_ | refine hC.iinc [64] rfl rfl rfl rfl (by first | omega | (simp only [Int.reduceToNat] at *; omega)) ?_ | refine hC.pfw (W := cx_BHR) [64] rfl rfl rfl rfl rfl rfl ?_ ?_ | refine hC.iaw (W := cx_BHR) [64] rfl rfl rfl rfl ?_ ?_ | refine hC.law (W := cx_BHR) [64] rfl rfl rfl rfl ?_ ?_ | refine hC.cpw (W := cx_BHR) [64] rfl rfl rfl rfl rfl rfl ?_ | refine hC.cpl (W := cx_BHR) [64] rfl rfl rfl rfl rfl rfl ?_ | refine hC.go [64] _ rfl rfl ?_ | (intro h; first | exact (h rfl).elim | (exfalso; cases h; done) | (dsimp only [kk_cP, kk_cN] at h) | skip) | (refine rw_isName hC ce_BHR_R (Nat.le_refl _) rfl rfl rfl rfl rfl ?_ ?_) | (refine hC.ao ce_BHR_HR rfl (rr_findName l _ _ _ _ _ _ (by exact hJ.2.1) (by omega) (by omega)) rfl rfl rfl rfl rfl rfl (Nat.le_refl _) ?_; rintro rs O3 ⟨hJ3, hO3, x, rfl, x1, x2⟩; have x2 : x < A 6 1 := x2; have hJ4 := hJ.find hJ3 hO3) | (refine rw_refuse hC ce_BHR_R rfl _ (Nat.le_refl _) rfl rfl rfl rfl rfl ?_; intro O2 hk2; have hJ2 := bh_J.out (by assumption) hk2)
  all_goals first | exact Or.inl rfl | exact Or.inr rfl | exact ⟨_, _, rfl, hJ2, rfl, Or.inr rfl⟩ | exact ⟨_, _, rfl, hJ4, rfl, Or.inr rfl⟩ | exact hC.sub [(0, (4, 0)), (1, (4, 12)), (2, (4, 5)), (3, (0, _)), (4, (0, _))] ⟨rfl, rfl, rfl, rfl, rfl, trivial⟩ (k64 _ _ _ hJ4 rfl (fun _ => by omega)) | exact hC.sub [(0, (4, 0)), (1, (4, 12)), (2, (4, 5)), (3, (0, _)), (4, (0, _))] ⟨rfl, rfl, rfl, rfl, rfl, trivial⟩ (k64 _ _ _ hJ rfl (fun q => absurd q (by omega)))
set_option maxRecDepth 100000 in
set_option maxHeartbeats 4000000 in
theorem bh_J.inc {T Bt : Nat → Int} {H G O A : Nat → Nat → Int} (h : bh_J T Bt Rs H G O A) (h40 : O 0 4 < 40) (hl : bl_ln A (O 0 4).toNat) : bh_J T Bt Rs H G (mm_up O 0 (kk_up (O 0) 4 (O 0 4 + 1))) A := by
  have h0 := h.1.1.1
  refine ⟨⟨(show 0 ≤ O 0 4 + 1 ∧ O 0 4 + 1 ≤ 40 by omega), fun j hj => ?_⟩, ⟨h.2.1.1, h.2.1.2.1, h.2.1.2.2.1, h.2.1.2.2.2.1, h.2.1.2.2.2.2.1, h.2.1.2.2.2.2.2⟩, fun p h1 h2 => ?_⟩
  · have hj : (j : Int) < O 0 4 + 1 := hj
    by_cases hq : j = (O 0 4).toNat
    · rw [hq]; exact hl
    · exact h.1.2 j (by omega)
  · rw [mm_up_ne (by omega)]
    exact h.2.2 p h1 h2
set_option maxRecDepth 100000 in
set_option maxHeartbeats 4000000 in
theorem bh_readFrom (l : Launch) (d : Nat) (T Bt : Nat → Int) (O A : Nat → Nat → Int) (hR : hr_J T Bt Rs (cc_in [5, 6, 7, 8, 9, 10, 11, 12, 13, 14, 15] O) (cc_in [5, 6, 7, 8, 9, 10, 11, 12, 13, 14, 15] A)) : kk_Ctr l (d + 6) en_t_X0_readFrom [(4, 0), (4, 12), (4, 5)] (cx_BHR O A) (fun rs w' => ∃ O' A', w' = cx_BHR O' A' ∧ bh_J T Bt Rs O A O' A' ∧ (rs = [(0, 1)] ∨ rs = [(0, 0)])) := by
  refine kk_ctr en_hM (List.mem_of_getElem? (i := 45) rfl) rfl (Nat.le_of_ble_eq_true rfl) (fun K hC => ?_)
  have k14 : ∀ (n : Nat) (i : Int) (O1 : Nat → Nat → Int) (A1 : Nat → Nat → Int), (42 - i).toNat < n → (0 ≤ i ∧ i ≤ 41) → (bh_J T Bt Rs O A O1 A1) → K 14 [(0, (4, 0)), (1, (4, 12)), (2, (4, 5)), (3, (0, i))] [] (cx_BHR O1 A1) := by
    intro n
    induction n with
    | zero => intro i O1 A1 hz; exact absurd hz (Nat.not_lt_zero _)
    | succ n ih =>
      intro i O1 A1 hn g0 hJ1
      refine hC.go [] _ rfl rfl ?_
      repeat' first | refine hC.gw [14, 50] _ rfl rfl ?_ | refine And.intro ?_ ?_ | exact True.intro | refine hC.iadd [14, 50] rfl rfl (by first | omega | (simp only [Int.reduceToNat] at *; omega)) ?_ | refine hC.isub [14, 50] rfl rfl (by first | omega | (simp only [Int.reduceToNat] at *; omega)) ?_ | refine hC.imul [14, 50] rfl rfl (by first | omega | (simp only [Int.reduceToNat] at *; omega)) ?_ | refine hC.iinc [14, 50] rfl rfl rfl rfl (by first | omega | (simp only [Int.reduceToNat] at *; omega)) ?_ | refine hC.pfw (W := cx_BHR) [14, 50] rfl rfl rfl rfl rfl rfl ?_ ?_ | refine hC.iaw (W := cx_BHR) [14, 50] rfl rfl rfl rfl ?_ ?_ | refine hC.law (W := cx_BHR) [14, 50] rfl rfl rfl rfl ?_ ?_ | refine hC.cpw (W := cx_BHR) [14, 50] rfl rfl rfl rfl rfl rfl ?_ | refine hC.cpl (W := cx_BHR) [14, 50] rfl rfl rfl rfl rfl rfl ?_ | refine hC.go [14, 50] _ rfl rfl ?_ | (intro h; first | exact (h rfl).elim | (exfalso; cases h; done) | (dsimp only [kk_cP, kk_cN] at h) | skip) | (refine hC.same (bh_readLine l _ T Bt O A _ _ (by assumption)) rfl rfl rfl rfl (Nat.le_refl _) ?_; rintro rs w' ⟨O7, A7, rfl, hJ7, e7, ⟨rfl, q40, b7⟩ | rfl⟩) | (refine rw_takeSign hC ce_BHR_R rfl _ (bh_J.len (by assumption)) (Nat.le_refl _) rfl rfl rfl rfl rfl ?_ ?_ <;> intro O2 hk2 <;> (have hJ2 := bh_J.out (by assumption) hk2))
      all_goals first | exact Or.inl rfl | exact Or.inr rfl | exact ⟨_, _, rfl, hJ1, Or.inl rfl⟩ | exact ⟨_, _, rfl, hJ1, Or.inr rfl⟩ | exact ⟨_, _, rfl, hJ2, Or.inr rfl⟩ | exact ⟨_, _, rfl, hJ7, Or.inr rfl⟩ | skip
      have q4 : O7 0 4 < 40 := by omega
      have b4 : bl_ln A7 (O7 0 4).toNat := by rw [e7]; exact b7
      have p4 : 0 ≤ O7 0 4 := hJ7.1.1.1
      refine (show ∀ O3 : Nat → Nat → Int, bh_J T Bt Rs O A O3 A7 → O3 0 4 < 40 → bl_ln A7 (O3 0 4).toNat → K 50 [(0, (4, 0)), (1, (4, 12)), (2, (4, 5)), (3, (0, i))] [] (cx_BHR O3 A7) from ?_) _ hJ2 q4 b4
      clear hJ2 hk2 q4 b4 p4 e7 hJ7 b7 q40
      intro O3 hJ3 q3 b3
      have p3 := hJ3.1.1.1
      repeat' first | refine hC.gw [14] _ rfl rfl ?_ | refine And.intro ?_ ?_ | exact True.intro | refine hC.iadd [14] rfl rfl (by first | omega | (simp only [Int.reduceToNat] at *; omega)) ?_ | refine hC.isub [14] rfl rfl (by first | omega | (simp only [Int.reduceToNat] at *; omega)) ?_ | refine hC.imul [14] rfl rfl (by first | omega | (simp only [Int.reduceToNat] at *; omega)) ?_ | refine hC.iinc [14] rfl rfl rfl rfl (by first | omega | (simp only [Int.reduceToNat] at *; omega)) ?_ | refine hC.pfw (W := cx_BHR) [14] rfl rfl rfl rfl rfl rfl ?_ ?_ | refine hC.iaw (W := cx_BHR) [14] rfl rfl rfl rfl ?_ ?_ | refine hC.law (W := cx_BHR) [14] rfl rfl rfl rfl ?_ ?_ | refine hC.cpw (W := cx_BHR) [14] rfl rfl rfl rfl rfl rfl ?_ | refine hC.cpl (W := cx_BHR) [14] rfl rfl rfl rfl rfl rfl ?_ | refine hC.go [14] _ rfl rfl ?_ | (intro h; first | exact (h rfl).elim | (exfalso; cases h; done) | (dsimp only [kk_cP, kk_cN] at h) | skip)
      all_goals first | omega | exact hC.sub [(0, (4, 0)), (1, (4, 12)), (2, (4, 5)), (3, (0, _))] ⟨rfl, rfl, rfl, rfl, trivial⟩ (ih _ _ _ (by omega) (by omega) (hJ3.inc q3 b3))
  repeat' first | refine hC.gw [] _ rfl rfl ?_ | refine And.intro ?_ ?_ | exact True.intro | refine hC.iadd [] rfl rfl (by first | omega | (simp only [Int.reduceToNat] at *; omega)) ?_ | refine hC.isub [] rfl rfl (by first | omega | (simp only [Int.reduceToNat] at *; omega)) ?_ | refine hC.imul [] rfl rfl (by first | omega | (simp only [Int.reduceToNat] at *; omega)) ?_ | refine hC.iinc [] rfl rfl rfl rfl (by first | omega | (simp only [Int.reduceToNat] at *; omega)) ?_ | refine hC.pfw (W := cx_BHR) [] rfl rfl rfl rfl rfl rfl ?_ ?_ | refine hC.iaw (W := cx_BHR) [] rfl rfl rfl rfl ?_ ?_ | refine hC.law (W := cx_BHR) [] rfl rfl rfl rfl ?_ ?_ | refine hC.cpw (W := cx_BHR) [] rfl rfl rfl rfl rfl rfl ?_ | refine hC.cpl (W := cx_BHR) [] rfl rfl rfl rfl rfl rfl ?_ | refine hC.go [] _ rfl rfl ?_ | (intro h; first | exact (h rfl).elim | (exfalso; cases h; done) | (dsimp only [kk_cP, kk_cN] at h) | skip)
  have hJ0 : bh_J T Bt Rs O A (mm_up O 0 (kk_up (O 0) 4 0)) A := ⟨⟨(show (0 : Int) ≤ 0 ∧ (0 : Int) ≤ 40 by decide), fun j hj => absurd (show (j : Int) < 0 from hj) (by omega)⟩, ⟨hR.1, hR.2.1, hR.2.2.1, hR.2.2.2.1, hR.2.2.2.2.1, hR.2.2.2.2.2⟩, fun p h1 h2 => ⟨mm_up_ne (by omega), rfl⟩⟩
  refine rw_begin hC ce_BHR_R rfl _ (bh_J.len hJ0) (Nat.le_refl _) rfl rfl rfl rfl rfl ?_
  intro O2 hk2
  have hJ2 := bh_J.out hJ0 hk2
  repeat' first | refine hC.gw [14] _ rfl rfl ?_ | refine And.intro ?_ ?_ | exact True.intro | refine hC.iadd [14] rfl rfl (by first | omega | (simp only [Int.reduceToNat] at *; omega)) ?_ | refine hC.isub [14] rfl rfl (by first | omega | (simp only [Int.reduceToNat] at *; omega)) ?_ | refine hC.imul [14] rfl rfl (by first | omega | (simp only [Int.reduceToNat] at *; omega)) ?_ | refine hC.iinc [14] rfl rfl rfl rfl (by first | omega | (simp only [Int.reduceToNat] at *; omega)) ?_ | refine hC.pfw (W := cx_BHR) [14] rfl rfl rfl rfl rfl rfl ?_ ?_ | refine hC.iaw (W := cx_BHR) [14] rfl rfl rfl rfl ?_ ?_ | refine hC.law (W := cx_BHR) [14] rfl rfl rfl rfl ?_ ?_ | refine hC.cpw (W := cx_BHR) [14] rfl rfl rfl rfl rfl rfl ?_ | refine hC.cpl (W := cx_BHR) [14] rfl rfl rfl rfl rfl rfl ?_ | refine hC.go [14] _ rfl rfl ?_ | (intro h; first | exact (h rfl).elim | (exfalso; cases h; done) | (dsimp only [kk_cP, kk_cN] at h) | skip)
  exact hC.sub [(0, (4, 0)), (1, (4, 12)), (2, (4, 5)), (3, (0, _))] ⟨rfl, rfl, rfl, rfl, trivial⟩ (k14 _ _ _ _ (Nat.lt_succ_self _) (by omega) hJ2)
