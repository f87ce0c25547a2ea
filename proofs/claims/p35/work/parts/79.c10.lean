/-! THE CLASS, 10: a life goes on -/
/-- all is well with the life, and the house stays -/
def ll_P (O A O' A' : Nat → Nat → Int) : Prop := ll_I O' A' ∧ (∀ p, 8 ≤ p → O' p = O p ∧ A' p = A p)
set_option maxRecDepth 100000 in
set_option maxHeartbeats 4000000 in
theorem ll_P.rf {O A : Nat → Nat → Int} (h : ll_I O A) : ll_P O A O A := ⟨h, fun _ _ => ⟨rfl, rfl⟩⟩
set_option maxRecDepth 100000 in
set_option maxHeartbeats 4000000 in
theorem ll_P.tr {O A O' A' O'' A'' : Nat → Nat → Int} (h : ll_P O A O' A') (h' : ll_P O' A' O'' A'') : ll_P O A O'' A'' := ⟨h'.1, fun p hp => ⟨(h'.2 p hp).1.trans (h.2 p hp).1, (h'.2 p hp).2.trans (h.2 p hp).2⟩⟩
set_option maxRecDepth 100000 in
set_option maxHeartbeats 4000000 in
theorem ll_I.eq {O A O' A' : Nat → Nat → Int} (h : ll_I O A) (e : ∀ p, 8 ≤ p → O' p = O p ∧ A' p = A p) (h6 : ∀ j, j < 32 → 0 ≤ A' 6 j) (hd : ll_d (O' 0 9) (O' 0 10) (O' 0 8)) : ll_I O' A' := by
  refine ⟨?_, ?_, h6, hd⟩
  · show (0 ≤ A' 9 0 ∧ A' 9 0 ≤ 8) ∧ (0 ≤ A' 9 1 ∧ A' 9 1 ≤ 4) ∧ (0 ≤ A' 9 2 ∧ A' 9 2 ≤ 10)
    rw [(e 9 (by decide)).2]
    exact h.1
  · rw [(e 8 (by decide)).1]
    exact h.2.1
set_option maxRecDepth 100000 in
set_option maxHeartbeats 4000000 in
theorem ll_P.arr {O A O' A' : Nat → Nat → Int} (h : ll_P O A O' A') {k : Nat} (f : Nat → Int) (hk : k < 8 ∧ k ≠ 6) : ll_P O A O' (mm_up A' k f) := by
  have e : ∀ p, 8 ≤ p → O' p = O' p ∧ mm_up A' k f p = A' p := fun p hp => ⟨rfl, mm_up_ne (by omega)⟩
  refine ⟨h.1.eq e (fun j hj => ?_) h.1.2.2.2, fun p hp => ⟨(h.2 p hp).1, (e p hp).2.trans (h.2 p hp).2⟩⟩
  rw [mm_up_ne (A := A') (f := f) (show 6 ≠ k by omega)]
  exact h.1.2.2.1 j hj
set_option maxRecDepth 100000 in
set_option maxHeartbeats 4000000 in
theorem ll_P.left {O A O' A' : Nat → Nat → Int} (h : ll_P O A O' A') {i : Nat} {v : Int} (hv : 0 ≤ v) : ll_P O A O' (mm_up A' 6 (kk_up (A' 6) i v)) := by
  have e : ∀ p, 8 ≤ p → O' p = O' p ∧ mm_up A' 6 (kk_up (A' 6) i v) p = A' p := fun p hp => ⟨rfl, mm_up_ne (by omega)⟩
  refine ⟨h.1.eq e (fun j hj => ?_) h.1.2.2.2, fun p hp => ⟨(h.2 p hp).1, (e p hp).2.trans (h.2 p hp).2⟩⟩
  show 0 ≤ kk_up (A' 6) i v j
  by_cases hq : j = i
  · rw [hq, kk_up_eq]; exact hv
  · rw [kk_up_ne hq]; exact h.1.2.2.1 j hj
set_option maxRecDepth 100000 in
set_option maxHeartbeats 4000000 in
theorem ll_P.fld {O A O' A' O'' : Nat → Nat → Int} (h : ll_P O A O' A') (e : ∀ p, 8 ≤ p → O'' p = O' p) (hd : ll_d (O'' 0 9) (O'' 0 10) (O'' 0 8)) : ll_P O A O'' A' := ⟨h.1.eq (fun p hp => ⟨e p hp, rfl⟩) h.1.2.2.1 hd, fun p hp => ⟨(e p hp).trans (h.2 p hp).1, (h.2 p hp).2⟩⟩
def ll_Q (O A : Nat → Nat → Int) : List en_V → List kk_C → Prop := fun rs w' => ∃ O' A', w' = cx_L O' A' ∧ ll_P O A O' A' ∧ rs = []
set_option maxRecDepth 100000 in
set_option maxHeartbeats 4000000 in
theorem ll_doDeed (l : Launch) (d : Nat) (O A : Nat → Nat → Int) (m e : Int) (hI : ll_I O A) (m0 : 0 ≤ m) (m3 : m ≤ 3) (e0 : 0 ≤ e) (e7 : e ≤ 7) : kk_Ctr l d en_t_X4_doDeed [(4, 0), (0, m), (0, e)] (cx_L O A) (fun rs w' => ∃ O' A', w' = cx_L O' A' ∧ ll_P O A O' A' ∧ rs = [] ∧ O' = O) := by
  refine kk_ctr en_hM (List.mem_of_getElem? (i := 97) rfl) rfl (Nat.le_of_ble_eq_true rfl) (fun K hC => ?_)
  have k51 : ∀ (B : Nat → Nat → Int), ll_P O A O B → K 51 [(0, (4, 0)), (1, (0, m)), (2, (0, e))] [] (cx_L O B) := by
    intro B hP
    repeat' first | refine hC.gw [] _ rfl rfl ?_ | refine And.intro ?_ ?_ | exact True.intro | refine hC.iadd [] rfl rfl (by first | omega | (simp only [Int.reduceToNat] at *; omega)) ?_ | refine hC.isub [] rfl rfl (by first | omega | (simp only [Int.reduceToNat] at *; omega)) ?_ | refine hC.imul [] rfl rfl (by first | omega | (simp only [Int.reduceToNat] at *; omega)) ?_ | refine hC.iinc [] rfl rfl rfl rfl (by first | omega | (simp only [Int.reduceToNat] at *; omega)) ?_ | refine hC.pfw (W := cx_L) [] rfl rfl rfl rfl rfl rfl ?_ ?_ | refine hC.iaw (W := cx_L) [] rfl rfl rfl rfl ?_ ?_ | refine hC.law (W := cx_L) [] rfl rfl rfl rfl ?_ ?_ | refine hC.cpw (W := cx_L) [] rfl rfl rfl rfl rfl rfl ?_ | refine hC.cpl (W := cx_L) [] rfl rfl rfl rfl rfl rfl ?_ | refine hC.go [] _ rfl rfl ?_ | (intro h; first | exact (h rfl).elim | (exfalso; cases h; done) | (dsimp only [kk_cP, kk_cN] at h) | skip)
    all_goals first | omega | exact ⟨_, _, rfl, hP, rfl, rfl⟩ | exact ⟨_, _, rfl, hP.arr _ (by decide), rfl, rfl⟩
  have k22 : ∀ (B : Nat → Nat → Int), ll_P O A O B → K 22 [(0, (4, 0)), (1, (0, m)), (2, (0, e))] [] (cx_L O B) := by
    intro B hP
    refine hC.inA 6 rfl (fun hA => ?_)
    have hx := (hA (m * 8 + e).toNat (by omega)).2
    repeat' first | refine hC.gw [51] _ rfl rfl ?_ | refine And.intro ?_ ?_ | exact True.intro | refine hC.iadd [51] rfl rfl (by first | omega | (simp only [Int.reduceToNat] at *; omega)) ?_ | refine hC.isub [51] rfl rfl (by first | omega | (simp only [Int.reduceToNat] at *; omega)) ?_ | refine hC.imul [51] rfl rfl (by first | omega | (simp only [Int.reduceToNat] at *; omega)) ?_ | refine hC.iinc [51] rfl rfl rfl rfl (by first | omega | (simp only [Int.reduceToNat] at *; omega)) ?_ | refine hC.pfw (W := cx_L) [51] rfl rfl rfl rfl rfl rfl ?_ ?_ | refine hC.iaw (W := cx_L) [51] rfl rfl rfl rfl ?_ ?_ | refine hC.law (W := cx_L) [51] rfl rfl rfl rfl ?_ ?_ | refine hC.cpw (W := cx_L) [51] rfl rfl rfl rfl rfl rfl ?_ | refine hC.cpl (W := cx_L) [51] rfl rfl rfl rfl rfl rfl ?_ | refine hC.go [51] _ rfl rfl ?_ | (intro h; first | exact (h rfl).elim | (exfalso; cases h; done) | (dsimp only [kk_cP, kk_cN] at h) | skip)
    all_goals first | omega | exact k51 B hP | exact k51 _ (hP.left (by omega))
  have k12 : ∀ (B : Nat → Nat → Int), ll_P O A O B → K 12 [(0, (4, 0)), (1, (0, m)), (2, (0, e))] [] (cx_L O B) := by
    intro B hP
    repeat' first | refine hC.gw [22] _ rfl rfl ?_ | refine And.intro ?_ ?_ | exact True.intro | refine hC.iadd [22] rfl rfl (by first | omega | (simp only [Int.reduceToNat] at *; omega)) ?_ | refine hC.isub [22] rfl rfl (by first | omega | (simp only [Int.reduceToNat] at *; omega)) ?_ | refine hC.imul [22] rfl rfl (by first | omega | (simp only [Int.reduceToNat] at *; omega)) ?_ | refine hC.iinc [22] rfl rfl rfl rfl (by first | omega | (simp only [Int.reduceToNat] at *; omega)) ?_ | refine hC.pfw (W := cx_L) [22] rfl rfl rfl rfl rfl rfl ?_ ?_ | refine hC.iaw (W := cx_L) [22] rfl rfl rfl rfl ?_ ?_ | refine hC.law (W := cx_L) [22] rfl rfl rfl rfl ?_ ?_ | refine hC.cpw (W := cx_L) [22] rfl rfl rfl rfl rfl rfl ?_ | refine hC.cpl (W := cx_L) [22] rfl rfl rfl rfl rfl rfl ?_ | refine hC.go [22] _ rfl rfl ?_ | (intro h; first | exact (h rfl).elim | (exfalso; cases h; done) | (dsimp only [kk_cP, kk_cN] at h) | skip)
    all_goals first | omega | exact k22 _ (hP.arr _ (by decide))
  repeat' first | refine hC.gw [12] _ rfl rfl ?_ | refine And.intro ?_ ?_ | exact True.intro | refine hC.iadd [12] rfl rfl (by first | omega | (simp only [Int.reduceToNat] at *; omega)) ?_ | refine hC.isub [12] rfl rfl (by first | omega | (simp only [Int.reduceToNat] at *; omega)) ?_ | refine hC.imul [12] rfl rfl (by first | omega | (simp only [Int.reduceToNat] at *; omega)) ?_ | refine hC.iinc [12] rfl rfl rfl rfl (by first | omega | (simp only [Int.reduceToNat] at *; omega)) ?_ | refine hC.pfw (W := cx_L) [12] rfl rfl rfl rfl rfl rfl ?_ ?_ | refine hC.iaw (W := cx_L) [12] rfl rfl rfl rfl ?_ ?_ | refine hC.law (W := cx_L) [12] rfl rfl rfl rfl ?_ ?_ | refine hC.cpw (W := cx_L) [12] rfl rfl rfl rfl rfl rfl ?_ | refine hC.cpl (W := cx_L) [12] rfl rfl rfl rfl rfl rfl ?_ | refine hC.go [12] _ rfl rfl ?_ | (intro h; first | exact (h rfl).elim | (exfalso; cases h; done) | (dsimp only [kk_cP, kk_cN] at h) | skip)
  all_goals first | omega | exact k12 _ ((ll_P.rf hI).arr _ (by decide))
set_option maxRecDepth 100000 in
set_option maxHeartbeats 4000000 in
theorem ll_hold (l : Launch) (d : Nat) (O A : Nat → Nat → Int) (c : Int) (hI : ll_I O A) (h1 : O 0 10 = -1) (h2 : O 0 9 < 400) : kk_Ctr l (d + 1) en_t_X4_hold [(4, 0), (0, c)] (cx_L O A) (fun rs w' => ∃ O' A', w' = cx_L O' A' ∧ ll_P O A O' A' ∧ rs = [] ∧ O' 0 9 = O 0 9) := by
  obtain ⟨d1, d2, d3⟩ := hI.2.2.2
  refine kk_ctr en_hM (List.mem_of_getElem? (i := 94) rfl) rfl (Nat.le_of_ble_eq_true rfl) (fun K hC => ?_)
  have k69 : ∀ (O1 B : Nat → Nat → Int), ll_P O A O1 B → O1 0 9 = O 0 9 → K 69 [(0, (4, 0)), (1, (0, c))] [] (cx_L O1 B) := by
    intro O1 B hP h9
    have hI1 := hP.1
    repeat' first | refine hC.gw [] _ rfl rfl ?_ | refine And.intro ?_ ?_ | exact True.intro | refine hC.iadd [] rfl rfl (by first | omega | (simp only [Int.reduceToNat] at *; omega)) ?_ | refine hC.isub [] rfl rfl (by first | omega | (simp only [Int.reduceToNat] at *; omega)) ?_ | refine hC.imul [] rfl rfl (by first | omega | (simp only [Int.reduceToNat] at *; omega)) ?_ | refine hC.iinc [] rfl rfl rfl rfl (by first | omega | (simp only [Int.reduceToNat] at *; omega)) ?_ | refine hC.pfw (W := cx_L) [] rfl rfl rfl rfl rfl rfl ?_ ?_ | refine hC.iaw (W := cx_L) [] rfl rfl rfl rfl ?_ ?_ | refine hC.law (W := cx_L) [] rfl rfl rfl rfl ?_ ?_ | refine hC.cpw (W := cx_L) [] rfl rfl rfl rfl rfl rfl ?_ | refine hC.cpl (W := cx_L) [] rfl rfl rfl rfl rfl rfl ?_ | refine hC.go [] _ rfl rfl ?_ | (intro h; first | exact (h rfl).elim | (exfalso; cases h; done) | (dsimp only [kk_cP, kk_cN] at h) | skip) | (refine hC.same (ll_slips l _ _ _ (by assumption)) rfl rfl rfl rfl (Nat.le_refl _) ?_; rintro rs w' ⟨rfl, xs, rfl⟩)
    all_goals first | exact ⟨_, _, rfl, hP, rfl, h9⟩ | exact ⟨_, _, rfl, hP.arr _ (by decide), rfl, h9⟩
  have k49 : ∀ (O1 B : Nat → Nat → Int), ll_P O A O1 B → O1 0 9 = O 0 9 → 0 ≤ c → c < 10 → K 49 [(0, (4, 0)), (1, (0, c))] [] (cx_L O1 B) := by
    intro O1 B hP h9 c0 c9
    repeat' first | refine hC.gw [69] _ rfl rfl ?_ | refine And.intro ?_ ?_ | exact True.intro | refine hC.iadd [69] rfl rfl (by first | omega | (simp only [Int.reduceToNat] at *; omega)) ?_ | refine hC.isub [69] rfl rfl (by first | omega | (simp only [Int.reduceToNat] at *; omega)) ?_ | refine hC.imul [69] rfl rfl (by first | omega | (simp only [Int.reduceToNat] at *; omega)) ?_ | refine hC.iinc [69] rfl rfl rfl rfl (by first | omega | (simp only [Int.reduceToNat] at *; omega)) ?_ | refine hC.pfw (W := cx_L) [69] rfl rfl rfl rfl rfl rfl ?_ ?_ | refine hC.iaw (W := cx_L) [69] rfl rfl rfl rfl ?_ ?_ | refine hC.law (W := cx_L) [69] rfl rfl rfl rfl ?_ ?_ | refine hC.cpw (W := cx_L) [69] rfl rfl rfl rfl rfl rfl ?_ | refine hC.cpl (W := cx_L) [69] rfl rfl rfl rfl rfl rfl ?_ | refine hC.go [69] _ rfl rfl ?_ | (intro h; first | exact (h rfl).elim | (exfalso; cases h; done) | (dsimp only [kk_cP, kk_cN] at h) | skip)
    all_goals first | omega | exact ⟨_, _, rfl, hP, rfl, h9⟩ | exact k69 _ _ (hP.arr _ (by decide)) h9
  have k26 : ∀ (B : Nat → Nat → Int), (∀ p, 8 ≤ p → B p = A p) → B 6 = A 6 → 0 ≤ c → c < 10 → K 26 [(0, (4, 0)), (1, (0, c))] [] (cx_L (mm_up O 0 (kk_up (O 0) 10 c)) B) := by
    intro B hB h6 c0 c9
    have hq := kk_rem16 (x := O 0 8) d1 (by omega)
    have e8 : mm_up O 0 (kk_up (O 0) 10 c) 0 8 = O 0 8 := rfl
    have hq' : 0 ≤ kk_i2 10 (mm_up O 0 (kk_up (O 0) 10 c) 0 8) 16 ∧ kk_i2 10 (mm_up O 0 (kk_up (O 0) 10 c) 0 8) 16 < 16 := hq
    repeat' first | refine hC.gw [49] _ rfl rfl ?_ | refine And.intro ?_ ?_ | exact True.intro | refine hC.iadd [49] rfl rfl (by first | omega | (simp only [Int.reduceToNat] at *; omega)) ?_ | refine hC.isub [49] rfl rfl (by first | omega | (simp only [Int.reduceToNat] at *; omega)) ?_ | refine hC.imul [49] rfl rfl (by first | omega | (simp only [Int.reduceToNat] at *; omega)) ?_ | refine hC.iinc [49] rfl rfl rfl rfl (by first | omega | (simp only [Int.reduceToNat] at *; omega)) ?_ | refine hC.pfw (W := cx_L) [49] rfl rfl rfl rfl rfl rfl ?_ ?_ | refine hC.iaw (W := cx_L) [49] rfl rfl rfl rfl ?_ ?_ | refine hC.law (W := cx_L) [49] rfl rfl rfl rfl ?_ ?_ | refine hC.cpw (W := cx_L) [49] rfl rfl rfl rfl rfl rfl ?_ | refine hC.cpl (W := cx_L) [49] rfl rfl rfl rfl rfl rfl ?_ | refine hC.go [49] _ rfl rfl ?_ | (intro h; first | exact (h rfl).elim | (exfalso; cases h; done) | (dsimp only [kk_cP, kk_cN] at h) | skip)
    all_goals first | omega | skip
    refine k49 _ _ ⟨?_, ?_⟩ rfl c0 c9
    · refine hI.eq (fun p hp => ⟨?_, ?_⟩) (fun j hj => ?_) ?_
      · rw [mm_up_ne (by omega), mm_up_ne (by omega)]
      · rw [mm_up_ne (by omega)]; exact hB p hp
      · rw [mm_up_ne (by decide), h6]; exact hI.2.2.1 j hj
      · show ll_d (O 0 9) c (O 0 8 + 1)
        exact ⟨by omega, d2, Or.inr ⟨by omega, by omega, by omega⟩⟩
    · intro p hp
      refine ⟨?_, ?_⟩
      · rw [mm_up_ne (by omega), mm_up_ne (by omega)]
      · rw [mm_up_ne (by omega)]; exact hB p hp
  repeat' first | refine hC.gw [26] _ rfl rfl ?_ | refine And.intro ?_ ?_ | exact True.intro | refine hC.iadd [26] rfl rfl (by first | omega | (simp only [Int.reduceToNat] at *; omega)) ?_ | refine hC.isub [26] rfl rfl (by first | omega | (simp only [Int.reduceToNat] at *; omega)) ?_ | refine hC.imul [26] rfl rfl (by first | omega | (simp only [Int.reduceToNat] at *; omega)) ?_ | refine hC.iinc [26] rfl rfl rfl rfl (by first | omega | (simp only [Int.reduceToNat] at *; omega)) ?_ | refine hC.pfw (W := cx_L) [26] rfl rfl rfl rfl rfl rfl ?_ ?_ | refine hC.iaw (W := cx_L) [26] rfl rfl rfl rfl ?_ ?_ | refine hC.law (W := cx_L) [26] rfl rfl rfl rfl ?_ ?_ | refine hC.cpw (W := cx_L) [26] rfl rfl rfl rfl rfl rfl ?_ | refine hC.cpl (W := cx_L) [26] rfl rfl rfl rfl rfl rfl ?_ | refine hC.go [26] _ rfl rfl ?_ | (intro h; first | exact (h rfl).elim | (exfalso; cases h; done) | (dsimp only [kk_cP, kk_cN] at h) | skip)
  all_goals first | omega | exact ⟨_, _, rfl, ll_P.rf hI, rfl, rfl⟩ | exact k26 _ (fun p hp => mm_up_ne (by omega)) rfl (by omega) (by omega)
set_option maxRecDepth 100000 in
set_option maxHeartbeats 4000000 in
theorem ll_passNight (l : Launch) (d : Nat) (O A : Nat → Nat → Int) (hI : ll_I O A) (h : O 0 10 = -1 → O 0 9 < 400) : kk_Ctr l (d + 1) en_t_X4_passNight [(4, 0)] (cx_L O A) (fun rs w' => ∃ O' A', w' = cx_L O' A' ∧ ll_P O A O' A' ∧ ∃ x, rs = [(0, x)]) := by
  obtain ⟨d1, d2, d3⟩ := hI.2.2.2
  obtain ⟨⟨c1, c2⟩, ⟨c3, c4⟩, c5, c6⟩ := hI.c
  refine kk_ctr en_hM (List.mem_of_getElem? (i := 98) rfl) rfl (Nat.le_of_ble_eq_true rfl) (fun K hC => ?_)
  have k86 : ∀ (x : Int) (B : Nat → Nat → Int), ll_P O A O B → K 86 [(0, (4, 0)), (2, (0, x))] [] (cx_L O B) := by
    intro x B hP
    have e99 : mm_up O (Int.toNat 0) (kk_up (O (Int.toNat 0)) 10 (-1)) 0 9 = O 0 9 := rfl
    repeat' first | refine hC.gw [] _ rfl rfl ?_ | refine And.intro ?_ ?_ | exact True.intro | refine hC.iadd [] rfl rfl (by first | omega | (simp only [Int.reduceToNat] at *; omega)) ?_ | refine hC.isub [] rfl rfl (by first | omega | (simp only [Int.reduceToNat] at *; omega)) ?_ | refine hC.imul [] rfl rfl (by first | omega | (simp only [Int.reduceToNat] at *; omega)) ?_ | refine hC.iinc [] rfl rfl rfl rfl (by first | omega | (simp only [Int.reduceToNat] at *; omega)) ?_ | refine hC.pfw (W := cx_L) [] rfl rfl rfl rfl rfl rfl ?_ ?_ | refine hC.iaw (W := cx_L) [] rfl rfl rfl rfl ?_ ?_ | refine hC.law (W := cx_L) [] rfl rfl rfl rfl ?_ ?_ | refine hC.cpw (W := cx_L) [] rfl rfl rfl rfl rfl rfl ?_ | refine hC.cpl (W := cx_L) [] rfl rfl rfl rfl rfl rfl ?_ | refine hC.go [] _ rfl rfl ?_ | (intro h; first | exact (h rfl).elim | (exfalso; cases h; done) | (dsimp only [kk_cP, kk_cN] at h) | skip)
    refine ⟨_, _, rfl, hP.fld (fun p hp => ?_) ?_, _, rfl⟩
    · rw [mm_up_ne (by omega), mm_up_ne (by omega)]
    · show ll_d (O 0 9 + 1) (-1) (O 0 8)
      exact ⟨d1, by omega, Or.inl ⟨rfl, by omega, by omega⟩⟩
  have k9 : ∀ (n : Nat) (i : Int) (w : Int) (x : Int) (B : Nat → Nat → Int), (5 - i).toNat < n → (0 ≤ i ∧ i ≤ 4) → (ll_P O A O B) → K 9 [(0, (4, 0)), (1, (0, w)), (2, (0, x)), (3, (0, i))] [] (cx_L O B) := by
    intro n
    induction n with
    | zero => intro i w x B hz; exact absurd hz (Nat.not_lt_zero _)
    | succ n ih =>
      intro i w x B hn g0 hP
      have e9 : B 9 = A 9 := (hP.2 9 (by decide)).2
      have e91 : B 9 1 = A 9 1 := by rw [e9]
      have k73 : ∀ (x : Int) (B : Nat → Nat → Int), i < 4 → ll_P O A O B → K 73 [(0, (4, 0)), (1, (0, w)), (2, (0, x)), (3, (0, i))] [] (cx_L O B) := by
        intro x B hi hP
        repeat' first | refine hC.gw [9] _ rfl rfl ?_ | refine And.intro ?_ ?_ | exact True.intro | refine hC.iadd [9] rfl rfl (by first | omega | (simp only [Int.reduceToNat] at *; omega)) ?_ | refine hC.isub [9] rfl rfl (by first | omega | (simp only [Int.reduceToNat] at *; omega)) ?_ | refine hC.imul [9] rfl rfl (by first | omega | (simp only [Int.reduceToNat] at *; omega)) ?_ | refine hC.iinc [9] rfl rfl rfl rfl (by first | omega | (simp only [Int.reduceToNat] at *; omega)) ?_ | refine hC.pfw (W := cx_L) [9] rfl rfl rfl rfl rfl rfl ?_ ?_ | refine hC.iaw (W := cx_L) [9] rfl rfl rfl rfl ?_ ?_ | refine hC.law (W := cx_L) [9] rfl rfl rfl rfl ?_ ?_ | refine hC.cpw (W := cx_L) [9] rfl rfl rfl rfl rfl rfl ?_ | refine hC.cpl (W := cx_L) [9] rfl rfl rfl rfl rfl rfl ?_ | refine hC.go [9] _ rfl rfl ?_ | (intro h; first | exact (h rfl).elim | (exfalso; cases h; done) | (dsimp only [kk_cP, kk_cN] at h) | skip)
        all_goals first | omega | exact hC.sub [(0, (4, 0)), (1, (0, _)), (2, (0, _)), (3, (0, _))] ⟨rfl, rfl, rfl, rfl, trivial⟩ (ih _ _ _ _ (by omega) (by omega) (hP.arr _ (by decide)))
      have k53 : ∀ (x y : Int), i < 4 → K 53 [(0, (4, 0)), (1, (0, w)), (2, (0, x)), (3, (0, i)), (5, (0, y))] [] (cx_L O B) := by
        intro x y hi
        repeat' first | refine hC.gw [73] _ rfl rfl ?_ | refine And.intro ?_ ?_ | exact True.intro | refine hC.iadd [73] rfl rfl (by first | omega | (simp only [Int.reduceToNat] at *; omega)) ?_ | refine hC.isub [73] rfl rfl (by first | omega | (simp only [Int.reduceToNat] at *; omega)) ?_ | refine hC.imul [73] rfl rfl (by first | omega | (simp only [Int.reduceToNat] at *; omega)) ?_ | refine hC.iinc [73] rfl rfl rfl rfl (by first | omega | (simp only [Int.reduceToNat] at *; omega)) ?_ | refine hC.pfw (W := cx_L) [73] rfl rfl rfl rfl rfl rfl ?_ ?_ | refine hC.iaw (W := cx_L) [73] rfl rfl rfl rfl ?_ ?_ | refine hC.law (W := cx_L) [73] rfl rfl rfl rfl ?_ ?_ | refine hC.cpw (W := cx_L) [73] rfl rfl rfl rfl rfl rfl ?_ | refine hC.cpl (W := cx_L) [73] rfl rfl rfl rfl rfl rfl ?_ | refine hC.go [73] _ rfl rfl ?_ | (intro h; first | exact (h rfl).elim | (exfalso; cases h; done) | (dsimp only [kk_cP, kk_cN] at h) | skip)
        all_goals first | omega | exact hC.sub [(0, (4, 0)), (1, (0, w)), (2, (0, _)), (3, (0, i))] ⟨rfl, rfl, rfl, rfl, trivial⟩ (k73 _ _ hi (hP.arr _ (by decide)))
      refine hC.go [] _ rfl rfl ?_
      repeat' first | refine hC.gw [9, 53, 86] _ rfl rfl ?_ | refine And.intro ?_ ?_ | exact True.intro | refine hC.iadd [9, 53, 86] rfl rfl (by first | omega | (simp only [Int.reduceToNat] at *; omega)) ?_ | refine hC.isub [9, 53, 86] rfl rfl (by first | omega | (simp only [Int.reduceToNat] at *; omega)) ?_ | refine hC.imul [9, 53, 86] rfl rfl (by first | omega | (simp only [Int.reduceToNat] at *; omega)) ?_ | refine hC.iinc [9, 53, 86] rfl rfl rfl rfl (by first | omega | (simp only [Int.reduceToNat] at *; omega)) ?_ | refine hC.pfw (W := cx_L) [9, 53, 86] rfl rfl rfl rfl rfl rfl ?_ ?_ | refine hC.iaw (W := cx_L) [9, 53, 86] rfl rfl rfl rfl ?_ ?_ | refine hC.law (W := cx_L) [9, 53, 86] rfl rfl rfl rfl ?_ ?_ | refine hC.cpw (W := cx_L) [9, 53, 86] rfl rfl rfl rfl rfl rfl ?_ | refine hC.cpl (W := cx_L) [9, 53, 86] rfl rfl rfl rfl rfl rfl ?_ | refine hC.go [9, 53, 86] _ rfl rfl ?_ | (intro h; first | exact (h rfl).elim | (exfalso; cases h; done) | (dsimp only [kk_cP, kk_cN] at h) | skip) | (refine hC.call (jj_bits l _ _) [] rfl rfl rfl rfl rfl rfl trivial (Nat.le_refl _) ?_; rintro rs w' ⟨rfl, xb, rfl⟩)
      all_goals first | omega | (simp only [Int.reduceToNat] at *; omega) | exact hC.sub [(0, (4, 0)), (2, (0, _))] ⟨rfl, rfl, trivial⟩ (k86 _ B hP) | exact hC.sub [(0, (4, 0)), (1, (0, w)), (2, (0, _)), (3, (0, i)), (5, (0, _))] ⟨rfl, rfl, rfl, rfl, rfl, trivial⟩ (k53 _ _ (by first | omega | (simp only [Int.reduceToNat] at *; omega)))
  repeat' first | refine hC.gw [9] _ rfl rfl ?_ | refine And.intro ?_ ?_ | exact True.intro | refine hC.iadd [9] rfl rfl (by first | omega | (simp only [Int.reduceToNat] at *; omega)) ?_ | refine hC.isub [9] rfl rfl (by first | omega | (simp only [Int.reduceToNat] at *; omega)) ?_ | refine hC.imul [9] rfl rfl (by first | omega | (simp only [Int.reduceToNat] at *; omega)) ?_ | refine hC.iinc [9] rfl rfl rfl rfl (by first | omega | (simp only [Int.reduceToNat] at *; omega)) ?_ | refine hC.pfw (W := cx_L) [9] rfl rfl rfl rfl rfl rfl ?_ ?_ | refine hC.iaw (W := cx_L) [9] rfl rfl rfl rfl ?_ ?_ | refine hC.law (W := cx_L) [9] rfl rfl rfl rfl ?_ ?_ | refine hC.cpw (W := cx_L) [9] rfl rfl rfl rfl rfl rfl ?_ | refine hC.cpl (W := cx_L) [9] rfl rfl rfl rfl rfl rfl ?_ | refine hC.go [9] _ rfl rfl ?_ | (intro h; first | exact (h rfl).elim | (exfalso; cases h; done) | (dsimp only [kk_cP, kk_cN] at h) | skip) | (refine hC.same (ll_must l _ _ _) rfl rfl rfl rfl (Nat.le_refl _) ?_; rintro rs w' ⟨rfl, xb, rfl⟩)
  exact hC.sub [(0, (4, 0)), (1, (0, _)), (2, (0, _)), (3, (0, _))] ⟨rfl, rfl, rfl, rfl, trivial⟩ (k9 _ _ _ _ _ (Nat.lt_succ_self _) (by omega) (ll_P.rf hI))
set_option maxRecDepth 100000 in
set_option maxHeartbeats 4000000 in
theorem ll_doWanted (l : Launch) (d : Nat) (O A : Nat → Nat → Int) (m : Int) (hI : ll_I O A) (m0 : 0 ≤ m) (m3 : m ≤ 3) : kk_Ctr l (d + 1) en_t_X4_doWanted [(4, 0), (0, m)] (cx_L O A) (fun rs w' => ∃ O' A', w' = cx_L O' A' ∧ ll_P O A O' A' ∧ rs = [] ∧ O' = O) := by
  obtain ⟨⟨c1, c2⟩, ⟨c3, c4⟩, c5, c6⟩ := hI.c
  refine kk_ctr en_hM (List.mem_of_getElem? (i := 108) rfl) rfl (Nat.le_of_ble_eq_true rfl) (fun K hC => ?_)
  have k64 : ∀ (n : Nat) (i : Int) (y : Int) (B : Nat → Nat → Int), (9 - i).toNat < n → (0 ≤ i ∧ i ≤ 8) → (ll_P O A O B) → K 64 [(0, (4, 0)), (1, (0, m)), (3, (0, y)), (4, (0, i))] [] (cx_L O B) := by
    intro n
    induction n with
    | zero => intro i y B hz; exact absurd hz (Nat.not_lt_zero _)
    | succ n ih =>
      intro i y B hn g0 hP
      have e9 : B 9 = A 9 := (hP.2 9 (by decide)).2
      have e90 : B 9 0 = A 9 0 := by rw [e9]
      refine hC.go [] _ rfl rfl ?_
      repeat' first | refine hC.gw [64] _ rfl rfl ?_ | refine And.intro ?_ ?_ | exact True.intro | refine hC.iadd [64] rfl rfl (by first | omega | (simp only [Int.reduceToNat] at *; omega)) ?_ | refine hC.isub [64] rfl rfl (by first | omega | (simp only [Int.reduceToNat] at *; omega)) ?_ | refine hC.imul [64] rfl rfl (by first | omega | (simp only [Int.reduceToNat] at *; omega)) ?_ | refine hC.iinc [64] rfl rfl rfl rfl (by first | omega | (simp only [Int.reduceToNat] at *; omega)) ?_ | refine hC.pfw (W := cx_L) [64] rfl rfl rfl rfl rfl rfl ?_ ?_ | refine hC.iaw (W := cx_L) [64] rfl rfl rfl rfl ?_ ?_ | refine hC.law (W := cx_L) [64] rfl rfl rfl rfl ?_ ?_ | refine hC.cpw (W := cx_L) [64] rfl rfl rfl rfl rfl rfl ?_ | refine hC.cpl (W := cx_L) [64] rfl rfl rfl rfl rfl rfl ?_ | refine hC.go [64] _ rfl rfl ?_ | (intro h; first | exact (h rfl).elim | (exfalso; cases h; done) | (dsimp only [kk_cP, kk_cN] at h) | skip) | (refine hC.call (xx_hasBit l _ _ _) [] rfl rfl rfl rfl rfl rfl trivial (Nat.le_refl _) ?_; rintro rs w' ⟨rfl, rfl | rfl⟩)
      all_goals first | omega | (simp only [Int.reduceToNat] at *; omega) | exact ⟨_, _, rfl, hP, rfl, rfl⟩ | exact hC.sub [(0, (4, 0)), (1, (0, _)), (3, (0, _)), (4, (0, _))] ⟨rfl, rfl, rfl, rfl, trivial⟩ (ih _ _ B (by omega) (by first | omega | (simp only [Int.reduceToNat] at *; omega)) hP) | skip
      have hi8 : i < 8 := by first | omega | (simp only [Int.reduceToNat] at *; omega)
      refine hC.same (ll_doDeed l _ O B m i hP.1 m0 m3 (by omega) (by omega)) rfl rfl rfl rfl (Nat.le_refl _) ?_
      rintro rs w' ⟨O2, A2, rfl, hP2, rfl, rfl⟩
      repeat' first | refine hC.gw [64] _ rfl rfl ?_ | refine And.intro ?_ ?_ | exact True.intro | refine hC.iadd [64] rfl rfl (by first | omega | (simp only [Int.reduceToNat] at *; omega)) ?_ | refine hC.isub [64] rfl rfl (by first | omega | (simp only [Int.reduceToNat] at *; omega)) ?_ | refine hC.imul [64] rfl rfl (by first | omega | (simp only [Int.reduceToNat] at *; omega)) ?_ | refine hC.iinc [64] rfl rfl rfl rfl (by first | omega | (simp only [Int.reduceToNat] at *; omega)) ?_ | refine hC.pfw (W := cx_L) [64] rfl rfl rfl rfl rfl rfl ?_ ?_ | refine hC.iaw (W := cx_L) [64] rfl rfl rfl rfl ?_ ?_ | refine hC.law (W := cx_L) [64] rfl rfl rfl rfl ?_ ?_ | refine hC.cpw (W := cx_L) [64] rfl rfl rfl rfl rfl rfl ?_ | refine hC.cpl (W := cx_L) [64] rfl rfl rfl rfl rfl rfl ?_ | refine hC.go [64] _ rfl rfl ?_ | (intro h; first | exact (h rfl).elim | (exfalso; cases h; done) | (dsimp only [kk_cP, kk_cN] at h) | skip)
      exact hC.sub [(0, (4, 0)), (1, (0, _)), (3, (0, _)), (4, (0, _))] ⟨rfl, rfl, rfl, rfl, trivial⟩ (ih _ _ A2 (by omega) (by omega) (hP.tr hP2))
  have k43 : ∀ (x : Int), K 43 [(0, (4, 0)), (1, (0, m)), (2, (0, x))] [] (cx_L O A) := by
    intro x
    repeat' first | refine hC.gw [64] _ rfl rfl ?_ | refine And.intro ?_ ?_ | exact True.intro | refine hC.iadd [64] rfl rfl (by first | omega | (simp only [Int.reduceToNat] at *; omega)) ?_ | refine hC.isub [64] rfl rfl (by first | omega | (simp only [Int.reduceToNat] at *; omega)) ?_ | refine hC.imul [64] rfl rfl (by first | omega | (simp only [Int.reduceToNat] at *; omega)) ?_ | refine hC.iinc [64] rfl rfl rfl rfl (by first | omega | (simp only [Int.reduceToNat] at *; omega)) ?_ | refine hC.pfw (W := cx_L) [64] rfl rfl rfl rfl rfl rfl ?_ ?_ | refine hC.iaw (W := cx_L) [64] rfl rfl rfl rfl ?_ ?_ | refine hC.law (W := cx_L) [64] rfl rfl rfl rfl ?_ ?_ | refine hC.cpw (W := cx_L) [64] rfl rfl rfl rfl rfl rfl ?_ | refine hC.cpl (W := cx_L) [64] rfl rfl rfl rfl rfl rfl ?_ | refine hC.go [64] _ rfl rfl ?_ | (intro h; first | exact (h rfl).elim | (exfalso; cases h; done) | (dsimp only [kk_cP, kk_cN] at h) | skip) | (refine hC.same (ll_barred l _ _ _) rfl rfl rfl rfl (Nat.le_refl _) ?_; rintro rs w' ⟨rfl, xb, rfl⟩)
    all_goals first | omega | exact hC.sub [(0, (4, 0)), (1, (0, _)), (3, (0, _)), (4, (0, _))] ⟨rfl, rfl, rfl, rfl, trivial⟩ (k64 _ _ _ A (Nat.lt_succ_self _) (by omega) (ll_P.rf hI))
  repeat' first | refine hC.gw [43] _ rfl rfl ?_ | refine And.intro ?_ ?_ | exact True.intro | refine hC.iadd [43] rfl rfl (by first | omega | (simp only [Int.reduceToNat] at *; omega)) ?_ | refine hC.isub [43] rfl rfl (by first | omega | (simp only [Int.reduceToNat] at *; omega)) ?_ | refine hC.imul [43] rfl rfl (by first | omega | (simp only [Int.reduceToNat] at *; omega)) ?_ | refine hC.iinc [43] rfl rfl rfl rfl (by first | omega | (simp only [Int.reduceToNat] at *; omega)) ?_ | refine hC.pfw (W := cx_L) [43] rfl rfl rfl rfl rfl rfl ?_ ?_ | refine hC.iaw (W := cx_L) [43] rfl rfl rfl rfl ?_ ?_ | refine hC.law (W := cx_L) [43] rfl rfl rfl rfl ?_ ?_ | refine hC.cpw (W := cx_L) [43] rfl rfl rfl rfl rfl rfl ?_ | refine hC.cpl (W := cx_L) [43] rfl rfl rfl rfl rfl rfl ?_ | refine hC.go [43] _ rfl rfl ?_ | (intro h; first | exact (h rfl).elim | (exfalso; cases h; done) | (dsimp only [kk_cP, kk_cN] at h) | skip) | (refine hC.same (ll_must l _ _ _) rfl rfl rfl rfl (Nat.le_refl _) ?_; rintro rs w' ⟨rfl, xb, rfl⟩)
  refine hC.same (ll_deedsLeft l _ _ _ m hI m0 m3) rfl rfl rfl rfl (Nat.le_refl _) ?_
  rintro rs w' ⟨rfl, xd, rfl⟩
  repeat' first | refine hC.gw [43] _ rfl rfl ?_ | refine And.intro ?_ ?_ | exact True.intro | refine hC.iadd [43] rfl rfl (by first | omega | (simp only [Int.reduceToNat] at *; omega)) ?_ | refine hC.isub [43] rfl rfl (by first | omega | (simp only [Int.reduceToNat] at *; omega)) ?_ | refine hC.imul [43] rfl rfl (by first | omega | (simp only [Int.reduceToNat] at *; omega)) ?_ | refine hC.iinc [43] rfl rfl rfl rfl (by first | omega | (simp only [Int.reduceToNat] at *; omega)) ?_ | refine hC.pfw (W := cx_L) [43] rfl rfl rfl rfl rfl rfl ?_ ?_ | refine hC.iaw (W := cx_L) [43] rfl rfl rfl rfl ?_ ?_ | refine hC.law (W := cx_L) [43] rfl rfl rfl rfl ?_ ?_ | refine hC.cpw (W := cx_L) [43] rfl rfl rfl rfl rfl rfl ?_ | refine hC.cpl (W := cx_L) [43] rfl rfl rfl rfl rfl rfl ?_ | refine hC.go [43] _ rfl rfl ?_ | (intro h; first | exact (h rfl).elim | (exfalso; cases h; done) | (dsimp only [kk_cP, kk_cN] at h) | skip)
  all_goals first | omega | exact hC.sub [(0, (4, 0)), (1, (0, m)), (2, (0, _))] ⟨rfl, rfl, rfl, trivial⟩ (k43 _)
set_option maxRecDepth 100000 in
set_option maxHeartbeats 4000000 in
theorem ll_passDay (l : Launch) (d : Nat) (O A : Nat → Nat → Int) (x : Int) (hI : ll_I O A) (hday : O 0 10 = -1 → O 0 9 < 400) : kk_Ctr l (d + 2) en_t_X4_passDay [(4, 0), (0, x)] (cx_L O A) (fun rs w' => ∃ O' A', w' = cx_L O' A' ∧ ll_P O A O' A' ∧ ∃ y, rs = [(0, y)]) := by
  refine kk_ctr en_hM (List.mem_of_getElem? (i := 107) rfl) rfl (Nat.le_of_ble_eq_true rfl) (fun K hC => ?_)
  have k26 : ∀ (n : Nat) (i : Int) (y : Int) (O1 : Nat → Nat → Int) (B : Nat → Nat → Int), (5 - i).toNat < n → (0 ≤ i ∧ i ≤ 4) → (ll_P O A O1 B) → (O1 0 10 = -1 → O1 0 9 < 400) → K 26 [(0, (4, 0)), (2, (0, y)), (3, (0, i))] [] (cx_L O1 B) := by
    intro n
    induction n with
    | zero => intro i y O1 B hz; exact absurd hz (Nat.not_lt_zero _)
    | succ n ih =>
      intro i y O1 B hn g0 hP hh
      obtain ⟨⟨c1, c2⟩, ⟨c3, c4⟩, c5, c6⟩ := hP.1.c
      refine hC.go [] _ rfl rfl ?_
      repeat' first | refine hC.gw [26] _ rfl rfl ?_ | refine And.intro ?_ ?_ | exact True.intro | refine hC.iadd [26] rfl rfl (by first | omega | (simp only [Int.reduceToNat] at *; omega)) ?_ | refine hC.isub [26] rfl rfl (by first | omega | (simp only [Int.reduceToNat] at *; omega)) ?_ | refine hC.imul [26] rfl rfl (by first | omega | (simp only [Int.reduceToNat] at *; omega)) ?_ | refine hC.iinc [26] rfl rfl rfl rfl (by first | omega | (simp only [Int.reduceToNat] at *; omega)) ?_ | refine hC.pfw (W := cx_L) [26] rfl rfl rfl rfl rfl rfl ?_ ?_ | refine hC.iaw (W := cx_L) [26] rfl rfl rfl rfl ?_ ?_ | refine hC.law (W := cx_L) [26] rfl rfl rfl rfl ?_ ?_ | refine hC.cpw (W := cx_L) [26] rfl rfl rfl rfl rfl rfl ?_ | refine hC.cpl (W := cx_L) [26] rfl rfl rfl rfl rfl rfl ?_ | refine hC.go [26] _ rfl rfl ?_ | (intro h; first | exact (h rfl).elim | (exfalso; cases h; done) | (dsimp only [kk_cP, kk_cN] at h) | skip)
      all_goals first | omega | (simp only [Int.reduceToNat] at *; omega) | skip
      · refine hC.same (ll_passNight l _ O1 B hP.1 hh) rfl rfl rfl rfl (Nat.le_refl _) ?_
        rintro rs w' ⟨O2, A2, rfl, hP2, z, rfl⟩
        repeat' first | refine hC.gw [] _ rfl rfl ?_ | refine And.intro ?_ ?_ | exact True.intro | refine hC.iadd [] rfl rfl (by first | omega | (simp only [Int.reduceToNat] at *; omega)) ?_ | refine hC.isub [] rfl rfl (by first | omega | (simp only [Int.reduceToNat] at *; omega)) ?_ | refine hC.imul [] rfl rfl (by first | omega | (simp only [Int.reduceToNat] at *; omega)) ?_ | refine hC.iinc [] rfl rfl rfl rfl (by first | omega | (simp only [Int.reduceToNat] at *; omega)) ?_ | refine hC.pfw (W := cx_L) [] rfl rfl rfl rfl rfl rfl ?_ ?_ | refine hC.iaw (W := cx_L) [] rfl rfl rfl rfl ?_ ?_ | refine hC.law (W := cx_L) [] rfl rfl rfl rfl ?_ ?_ | refine hC.cpw (W := cx_L) [] rfl rfl rfl rfl rfl rfl ?_ | refine hC.cpl (W := cx_L) [] rfl rfl rfl rfl rfl rfl ?_ | refine hC.go [] _ rfl rfl ?_ | (intro h; first | exact (h rfl).elim | (exfalso; cases h; done) | (dsimp only [kk_cP, kk_cN] at h) | skip)
        exact ⟨_, _, rfl, hP.tr hP2, _, rfl⟩
      · have hi4 : i < 4 := by first | omega | (simp only [Int.reduceToNat] at *; omega)
        refine hC.same (ll_doWanted l _ O1 B i hP.1 (by omega) (by omega)) rfl rfl rfl rfl (Nat.le_refl _) ?_
        rintro rs w' ⟨O2, A2, rfl, hP2, rfl, rfl⟩
        repeat' first | refine hC.gw [26] _ rfl rfl ?_ | refine And.intro ?_ ?_ | exact True.intro | refine hC.iadd [26] rfl rfl (by first | omega | (simp only [Int.reduceToNat] at *; omega)) ?_ | refine hC.isub [26] rfl rfl (by first | omega | (simp only [Int.reduceToNat] at *; omega)) ?_ | refine hC.imul [26] rfl rfl (by first | omega | (simp only [Int.reduceToNat] at *; omega)) ?_ | refine hC.iinc [26] rfl rfl rfl rfl (by first | omega | (simp only [Int.reduceToNat] at *; omega)) ?_ | refine hC.pfw (W := cx_L) [26] rfl rfl rfl rfl rfl rfl ?_ ?_ | refine hC.iaw (W := cx_L) [26] rfl rfl rfl rfl ?_ ?_ | refine hC.law (W := cx_L) [26] rfl rfl rfl rfl ?_ ?_ | refine hC.cpw (W := cx_L) [26] rfl rfl rfl rfl rfl rfl ?_ | refine hC.cpl (W := cx_L) [26] rfl rfl rfl rfl rfl rfl ?_ | refine hC.go [26] _ rfl rfl ?_ | (intro h; first | exact (h rfl).elim | (exfalso; cases h; done) | (dsimp only [kk_cP, kk_cN] at h) | skip)
        exact hC.sub [(0, (4, 0)), (2, (0, _)), (3, (0, _))] ⟨rfl, rfl, rfl, trivial⟩ (ih _ _ _ _ (by omega) (by omega) (hP.tr hP2) hh)
  repeat' first | refine hC.gw [26] _ rfl rfl ?_ | refine And.intro ?_ ?_ | exact True.intro | refine hC.iadd [26] rfl rfl (by first | omega | (simp only [Int.reduceToNat] at *; omega)) ?_ | refine hC.isub [26] rfl rfl (by first | omega | (simp only [Int.reduceToNat] at *; omega)) ?_ | refine hC.imul [26] rfl rfl (by first | omega | (simp only [Int.reduceToNat] at *; omega)) ?_ | refine hC.iinc [26] rfl rfl rfl rfl (by first | omega | (simp only [Int.reduceToNat] at *; omega)) ?_ | refine hC.pfw (W := cx_L) [26] rfl rfl rfl rfl rfl rfl ?_ ?_ | refine hC.iaw (W := cx_L) [26] rfl rfl rfl rfl ?_ ?_ | refine hC.law (W := cx_L) [26] rfl rfl rfl rfl ?_ ?_ | refine hC.cpw (W := cx_L) [26] rfl rfl rfl rfl rfl rfl ?_ | refine hC.cpl (W := cx_L) [26] rfl rfl rfl rfl rfl rfl ?_ | refine hC.go [26] _ rfl rfl ?_ | (intro h; first | exact (h rfl).elim | (exfalso; cases h; done) | (dsimp only [kk_cP, kk_cN] at h) | skip) | (refine hC.call (xx_nextSeed l _ _) [] rfl rfl rfl rfl rfl rfl trivial (Nat.le_refl _) ?_; rintro rs w' ⟨rfl, ys, rfl⟩)
  all_goals first | exact hC.sub [(0, (4, 0)), (2, (0, _)), (3, (0, _))] ⟨rfl, rfl, rfl, trivial⟩ (k26 _ _ _ O A (Nat.lt_succ_self _) (by omega) (ll_P.rf hI) hday) | skip
  refine hC.same (ll_chapterBy l _ O A _ hI) rfl rfl rfl rfl (Nat.le_refl _) ?_
  rintro rs w' ⟨rfl, c, rfl⟩
  have h10 : O 0 10 = -1 := by assumption
  repeat' first | refine hC.gw [26] _ rfl rfl ?_ | refine And.intro ?_ ?_ | exact True.intro | refine hC.iadd [26] rfl rfl (by first | omega | (simp only [Int.reduceToNat] at *; omega)) ?_ | refine hC.isub [26] rfl rfl (by first | omega | (simp only [Int.reduceToNat] at *; omega)) ?_ | refine hC.imul [26] rfl rfl (by first | omega | (simp only [Int.reduceToNat] at *; omega)) ?_ | refine hC.iinc [26] rfl rfl rfl rfl (by first | omega | (simp only [Int.reduceToNat] at *; omega)) ?_ | refine hC.pfw (W := cx_L) [26] rfl rfl rfl rfl rfl rfl ?_ ?_ | refine hC.iaw (W := cx_L) [26] rfl rfl rfl rfl ?_ ?_ | refine hC.law (W := cx_L) [26] rfl rfl rfl rfl ?_ ?_ | refine hC.cpw (W := cx_L) [26] rfl rfl rfl rfl rfl rfl ?_ | refine hC.cpl (W := cx_L) [26] rfl rfl rfl rfl rfl rfl ?_ | refine hC.go [26] _ rfl rfl ?_ | (intro h; first | exact (h rfl).elim | (exfalso; cases h; done) | (dsimp only [kk_cP, kk_cN] at h) | skip)
  refine hC.same (ll_hold l _ O A c hI h10 (hday h10)) rfl rfl rfl rfl (Nat.le_refl _) ?_
  rintro rs w' ⟨O2, A2, rfl, hP2, rfl, h9⟩
  repeat' first | refine hC.gw [26] _ rfl rfl ?_ | refine And.intro ?_ ?_ | exact True.intro | refine hC.iadd [26] rfl rfl (by first | omega | (simp only [Int.reduceToNat] at *; omega)) ?_ | refine hC.isub [26] rfl rfl (by first | omega | (simp only [Int.reduceToNat] at *; omega)) ?_ | refine hC.imul [26] rfl rfl (by first | omega | (simp only [Int.reduceToNat] at *; omega)) ?_ | refine hC.iinc [26] rfl rfl rfl rfl (by first | omega | (simp only [Int.reduceToNat] at *; omega)) ?_ | refine hC.pfw (W := cx_L) [26] rfl rfl rfl rfl rfl rfl ?_ ?_ | refine hC.iaw (W := cx_L) [26] rfl rfl rfl rfl ?_ ?_ | refine hC.law (W := cx_L) [26] rfl rfl rfl rfl ?_ ?_ | refine hC.cpw (W := cx_L) [26] rfl rfl rfl rfl rfl rfl ?_ | refine hC.cpl (W := cx_L) [26] rfl rfl rfl rfl rfl rfl ?_ | refine hC.go [26] _ rfl rfl ?_ | (intro h; first | exact (h rfl).elim | (exfalso; cases h; done) | (dsimp only [kk_cP, kk_cN] at h) | skip)
  exact hC.sub [(0, (4, 0)), (2, (0, _)), (3, (0, _))] ⟨rfl, rfl, rfl, trivial⟩ (k26 _ _ _ O2 A2 (Nat.lt_succ_self _) (by omega) hP2 (fun _ => by rw [h9]; exact hday h10))
set_option maxRecDepth 100000 in
set_option maxHeartbeats 4000000 in
theorem ll_passDays (l : Launch) (d : Nat) (O A : Nat → Nat → Int) (nn x : Int) (hI : ll_I O A) : kk_Ctr l (d + 3) en_t_X4_passDays [(4, 0), (0, nn), (0, x)] (cx_L O A) (fun rs w' => ∃ O' A', w' = cx_L O' A' ∧ ll_P O A O' A' ∧ ∃ y, rs = [(0, y)]) := by
  refine kk_ctr en_hM (List.mem_of_getElem? (i := 100) rfl) rfl (Nat.le_of_ble_eq_true rfl) (fun K hC => ?_)
  refine hC.inL 1 rfl (fun hni => ?_)
  obtain ⟨hn1, hn2⟩ := hni
  have k5 : ∀ (n : Nat) (i : Int) (y : Int) (O1 : Nat → Nat → Int) (B : Nat → Nat → Int), (nn - i).toNat < n → (0 ≤ i) → (ll_P O A O1 B) → K 5 [(0, (4, 0)), (1, (0, nn)), (3, (0, y)), (4, (0, i))] [] (cx_L O1 B) := by
    intro n
    induction n with
    | zero => intro i y O1 B hz; exact absurd hz (Nat.not_lt_zero _)
    | succ n ih =>
      intro i y O1 B hn g0 hP
      refine hC.go [] _ rfl rfl ?_
      repeat' first | refine hC.gw [5] _ rfl rfl ?_ | refine And.intro ?_ ?_ | exact True.intro | refine hC.iadd [5] rfl rfl (by first | omega | (simp only [Int.reduceToNat] at *; omega)) ?_ | refine hC.isub [5] rfl rfl (by first | omega | (simp only [Int.reduceToNat] at *; omega)) ?_ | refine hC.imul [5] rfl rfl (by first | omega | (simp only [Int.reduceToNat] at *; omega)) ?_ | refine hC.iinc [5] rfl rfl rfl rfl (by first | omega | (simp only [Int.reduceToNat] at *; omega)) ?_ | refine hC.pfw (W := cx_L) [5] rfl rfl rfl rfl rfl rfl ?_ ?_ | refine hC.iaw (W := cx_L) [5] rfl rfl rfl rfl ?_ ?_ | refine hC.law (W := cx_L) [5] rfl rfl rfl rfl ?_ ?_ | refine hC.cpw (W := cx_L) [5] rfl rfl rfl rfl rfl rfl ?_ | refine hC.cpl (W := cx_L) [5] rfl rfl rfl rfl rfl rfl ?_ | refine hC.go [5] _ rfl rfl ?_ | (intro h; first | exact (h rfl).elim | (exfalso; cases h; done) | (dsimp only [kk_cP, kk_cN] at h) | skip) | (refine hC.same (ll_hasDay l _ _ _) rfl rfl rfl rfl (Nat.le_refl _) ?_; rintro rs w' ⟨rfl, ⟨rfl, hd0⟩ | rfl⟩)
      all_goals first | omega | exact ⟨_, _, rfl, hP, _, rfl⟩ | skip
      refine hC.same (ll_passDay l _ O1 B y hP.1 hd0) rfl rfl rfl rfl (Nat.le_refl _) ?_
      rintro rs w' ⟨O2, A2, rfl, hP2, z, rfl⟩
      repeat' first | refine hC.gw [5] _ rfl rfl ?_ | refine And.intro ?_ ?_ | exact True.intro | refine hC.iadd [5] rfl rfl (by first | omega | (simp only [Int.reduceToNat] at *; omega)) ?_ | refine hC.isub [5] rfl rfl (by first | omega | (simp only [Int.reduceToNat] at *; omega)) ?_ | refine hC.imul [5] rfl rfl (by first | omega | (simp only [Int.reduceToNat] at *; omega)) ?_ | refine hC.iinc [5] rfl rfl rfl rfl (by first | omega | (simp only [Int.reduceToNat] at *; omega)) ?_ | refine hC.pfw (W := cx_L) [5] rfl rfl rfl rfl rfl rfl ?_ ?_ | refine hC.iaw (W := cx_L) [5] rfl rfl rfl rfl ?_ ?_ | refine hC.law (W := cx_L) [5] rfl rfl rfl rfl ?_ ?_ | refine hC.cpw (W := cx_L) [5] rfl rfl rfl rfl rfl rfl ?_ | refine hC.cpl (W := cx_L) [5] rfl rfl rfl rfl rfl rfl ?_ | refine hC.go [5] _ rfl rfl ?_ | (intro h; first | exact (h rfl).elim | (exfalso; cases h; done) | (dsimp only [kk_cP, kk_cN] at h) | skip)
      exact hC.sub [(0, (4, 0)), (1, (0, _)), (3, (0, _)), (4, (0, _))] ⟨rfl, rfl, rfl, rfl, trivial⟩ (ih _ _ _ _ (by omega) (by omega) (hP.tr hP2))
  repeat' first | refine hC.gw [5] _ rfl rfl ?_ | refine And.intro ?_ ?_ | exact True.intro | refine hC.iadd [5] rfl rfl (by first | omega | (simp only [Int.reduceToNat] at *; omega)) ?_ | refine hC.isub [5] rfl rfl (by first | omega | (simp only [Int.reduceToNat] at *; omega)) ?_ | refine hC.imul [5] rfl rfl (by first | omega | (simp only [Int.reduceToNat] at *; omega)) ?_ | refine hC.iinc [5] rfl rfl rfl rfl (by first | omega | (simp only [Int.reduceToNat] at *; omega)) ?_ | refine hC.pfw (W := cx_L) [5] rfl rfl rfl rfl rfl rfl ?_ ?_ | refine hC.iaw (W := cx_L) [5] rfl rfl rfl rfl ?_ ?_ | refine hC.law (W := cx_L) [5] rfl rfl rfl rfl ?_ ?_ | refine hC.cpw (W := cx_L) [5] rfl rfl rfl rfl rfl rfl ?_ | refine hC.cpl (W := cx_L) [5] rfl rfl rfl rfl rfl rfl ?_ | refine hC.go [5] _ rfl rfl ?_ | (intro h; first | exact (h rfl).elim | (exfalso; cases h; done) | (dsimp only [kk_cP, kk_cN] at h) | skip)
  exact hC.sub [(0, (4, 0)), (1, (0, _)), (3, (0, _)), (4, (0, _))] ⟨rfl, rfl, rfl, rfl, trivial⟩ (k5 _ _ _ O A (Nat.lt_succ_self _) (by omega) (ll_P.rf hI))
set_option maxRecDepth 100000 in
set_option maxHeartbeats 4000000 in
theorem ll_finishesWork (l : Launch) (d : Nat) (O A : Nat → Nat → Int) (m nn x : Int) (hI : ll_I O A) (m0 : 0 ≤ m) (m3 : m ≤ 3) : kk_Ctr l (d + 3) en_t_X4_finishesWork [(4, 0), (0, m), (0, nn), (0, x)] (cx_L O A) (fun rs w' => ∃ O' A', w' = cx_L O' A' ∧ ll_P O A O' A' ∧ (rs = [(0, 1)] ∨ rs = [(0, 0)])) := by
  refine kk_ctr en_hM (List.mem_of_getElem? (i := 104) rfl) rfl (Nat.le_of_ble_eq_true rfl) (fun K hC => ?_)
  refine hC.inL 2 rfl (fun hni => ?_)
  obtain ⟨hn1, hn2⟩ := hni
  have k41 : ∀ (O1 B : Nat → Nat → Int), ll_P O A O1 B → K 41 [(0, (4, 0)), (1, (0, m))] [] (cx_L O1 B) := by
    intro O1 B hP
    have hI1 := hP.1
    repeat' first | refine hC.gw [] _ rfl rfl ?_ | refine And.intro ?_ ?_ | exact True.intro | refine hC.iadd [] rfl rfl (by first | omega | (simp only [Int.reduceToNat] at *; omega)) ?_ | refine hC.isub [] rfl rfl (by first | omega | (simp only [Int.reduceToNat] at *; omega)) ?_ | refine hC.imul [] rfl rfl (by first | omega | (simp only [Int.reduceToNat] at *; omega)) ?_ | refine hC.iinc [] rfl rfl rfl rfl (by first | omega | (simp only [Int.reduceToNat] at *; omega)) ?_ | refine hC.pfw (W := cx_L) [] rfl rfl rfl rfl rfl rfl ?_ ?_ | refine hC.iaw (W := cx_L) [] rfl rfl rfl rfl ?_ ?_ | refine hC.law (W := cx_L) [] rfl rfl rfl rfl ?_ ?_ | refine hC.cpw (W := cx_L) [] rfl rfl rfl rfl rfl rfl ?_ | refine hC.cpl (W := cx_L) [] rfl rfl rfl rfl rfl rfl ?_ | refine hC.go [] _ rfl rfl ?_ | (intro h; first | exact (h rfl).elim | (exfalso; cases h; done) | (dsimp only [kk_cP, kk_cN] at h) | skip) | (refine hC.same (ll_workLeft l _ _ _ _ (by assumption) (by omega) (by first | omega | (simp only [Int.reduceToNat] at *; omega))) rfl rfl rfl rfl (Nat.le_refl _) ?_; rintro rs w' ⟨rfl, xw, rfl⟩)
    all_goals first | exact Or.inl rfl | exact Or.inr rfl | exact ⟨_, _, rfl, hP, Or.inl rfl⟩ | exact ⟨_, _, rfl, hP, Or.inr rfl⟩
  have k6 : ∀ (n : Nat) (i : Int) (y : Int) (O1 : Nat → Nat → Int) (B : Nat → Nat → Int), (nn - i).toNat < n → (0 ≤ i) → (ll_P O A O1 B) → K 6 [(0, (4, 0)), (1, (0, m)), (2, (0, nn)), (4, (0, y)), (5, (0, i))] [] (cx_L O1 B) := by
    intro n
    induction n with
    | zero => intro i y O1 B hz; exact absurd hz (Nat.not_lt_zero _)
    | succ n ih =>
      intro i y O1 B hn g0 hP
      have hI1 := hP.1
      refine hC.go [] _ rfl rfl ?_
      repeat' first | refine hC.gw [6, 41] _ rfl rfl ?_ | refine And.intro ?_ ?_ | exact True.intro | refine hC.iadd [6, 41] rfl rfl (by first | omega | (simp only [Int.reduceToNat] at *; omega)) ?_ | refine hC.isub [6, 41] rfl rfl (by first | omega | (simp only [Int.reduceToNat] at *; omega)) ?_ | refine hC.imul [6, 41] rfl rfl (by first | omega | (simp only [Int.reduceToNat] at *; omega)) ?_ | refine hC.iinc [6, 41] rfl rfl rfl rfl (by first | omega | (simp only [Int.reduceToNat] at *; omega)) ?_ | refine hC.pfw (W := cx_L) [6, 41] rfl rfl rfl rfl rfl rfl ?_ ?_ | refine hC.iaw (W := cx_L) [6, 41] rfl rfl rfl rfl ?_ ?_ | refine hC.law (W := cx_L) [6, 41] rfl rfl rfl rfl ?_ ?_ | refine hC.cpw (W := cx_L) [6, 41] rfl rfl rfl rfl rfl rfl ?_ | refine hC.cpl (W := cx_L) [6, 41] rfl rfl rfl rfl rfl rfl ?_ | refine hC.go [6, 41] _ rfl rfl ?_ | (intro h; first | exact (h rfl).elim | (exfalso; cases h; done) | (dsimp only [kk_cP, kk_cN] at h) | skip) | (refine hC.same (ll_hasDay l _ _ _) rfl rfl rfl rfl (Nat.le_refl _) ?_; rintro rs w' ⟨rfl, ⟨rfl, hd0⟩ | rfl⟩) | (refine hC.same (ll_workLeft l _ _ _ _ (by assumption) (by omega) (by first | omega | (simp only [Int.reduceToNat] at *; omega))) rfl rfl rfl rfl (Nat.le_refl _) ?_; rintro rs w' ⟨rfl, xw, rfl⟩)
      all_goals first | omega | exact hC.sub [(0, (4, 0)), (1, (0, m))] ⟨rfl, rfl, trivial⟩ (k41 O1 B hP) | skip
      refine hC.same (ll_passDay l _ O1 B y hP.1 hd0) rfl rfl rfl rfl (Nat.le_refl _) ?_
      rintro rs w' ⟨O2, A2, rfl, hP2, z, rfl⟩
      repeat' first | refine hC.gw [6] _ rfl rfl ?_ | refine And.intro ?_ ?_ | exact True.intro | refine hC.iadd [6] rfl rfl (by first | omega | (simp only [Int.reduceToNat] at *; omega)) ?_ | refine hC.isub [6] rfl rfl (by first | omega | (simp only [Int.reduceToNat] at *; omega)) ?_ | refine hC.imul [6] rfl rfl (by first | omega | (simp only [Int.reduceToNat] at *; omega)) ?_ | refine hC.iinc [6] rfl rfl rfl rfl (by first | omega | (simp only [Int.reduceToNat] at *; omega)) ?_ | refine hC.pfw (W := cx_L) [6] rfl rfl rfl rfl rfl rfl ?_ ?_ | refine hC.iaw (W := cx_L) [6] rfl rfl rfl rfl ?_ ?_ | refine hC.law (W := cx_L) [6] rfl rfl rfl rfl ?_ ?_ | refine hC.cpw (W := cx_L) [6] rfl rfl rfl rfl rfl rfl ?_ | refine hC.cpl (W := cx_L) [6] rfl rfl rfl rfl rfl rfl ?_ | refine hC.go [6] _ rfl rfl ?_ | (intro h; first | exact (h rfl).elim | (exfalso; cases h; done) | (dsimp only [kk_cP, kk_cN] at h) | skip)
      exact hC.sub [(0, (4, 0)), (1, (0, _)), (2, (0, _)), (4, (0, _)), (5, (0, _))] ⟨rfl, rfl, rfl, rfl, rfl, trivial⟩ (ih _ _ _ _ (by omega) (by omega) (hP.tr hP2))
  repeat' first | refine hC.gw [6] _ rfl rfl ?_ | refine And.intro ?_ ?_ | exact True.intro | refine hC.iadd [6] rfl rfl (by first | omega | (simp only [Int.reduceToNat] at *; omega)) ?_ | refine hC.isub [6] rfl rfl (by first | omega | (simp only [Int.reduceToNat] at *; omega)) ?_ | refine hC.imul [6] rfl rfl (by first | omega | (simp only [Int.reduceToNat] at *; omega)) ?_ | refine hC.iinc [6] rfl rfl rfl rfl (by first | omega | (simp only [Int.reduceToNat] at *; omega)) ?_ | refine hC.pfw (W := cx_L) [6] rfl rfl rfl rfl rfl rfl ?_ ?_ | refine hC.iaw (W := cx_L) [6] rfl rfl rfl rfl ?_ ?_ | refine hC.law (W := cx_L) [6] rfl rfl rfl rfl ?_ ?_ | refine hC.cpw (W := cx_L) [6] rfl rfl rfl rfl rfl rfl ?_ | refine hC.cpl (W := cx_L) [6] rfl rfl rfl rfl rfl rfl ?_ | refine hC.go [6] _ rfl rfl ?_ | (intro h; first | exact (h rfl).elim | (exfalso; cases h; done) | (dsimp only [kk_cP, kk_cN] at h) | skip)
  exact hC.sub [(0, (4, 0)), (1, (0, _)), (2, (0, _)), (4, (0, _)), (5, (0, _))] ⟨rfl, rfl, rfl, rfl, rfl, trivial⟩ (k6 _ _ _ O A (Nat.lt_succ_self _) (by omega) (ll_P.rf hI))
