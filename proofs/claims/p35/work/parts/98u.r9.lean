/-! READING, 9: the class's reader, exactly, in any world -/
set_option maxRecDepth 100000 in
set_option maxHeartbeats 4000000 in
theorem mm_up_eq {A : Nat → Nat → Int} {k : Nat} {f : Nat → Int} : mm_up A k f k = f := by unfold mm_up; rw [Nat.beq_refl]; rfl
set_option maxRecDepth 100000 in
set_option maxHeartbeats 4000000 in
theorem mm_up_n0 {O : Nat → Nat → Int} {f : Nat → Int} {p : Nat} (hp : p ≠ 0) : mm_up O (Int.toNat 0) f p = O p := mm_up_ne hp
set_option maxRecDepth 100000 in
set_option maxHeartbeats 4000000 in
theorem cc_first {O2 O : Nat → Nat → Int} {p0 p1 p2 p3 : Nat} (hn : va_nd [p0, p1, p2, p3] = true) (h : ∀ p, p ≠ 0 → O2 p = cc_in [p0, p1, p2, p3] O p) : cc_out O2 O [p0, p1, p2, p3] 0 = mm_up O p0 (O2 0) := by
  funext k
  by_cases hm : k ∈ [p0, p1, p2, p3]
  · obtain ⟨i, hi⟩ := List.getElem?_of_mem hm
    rw [cc_out_in hn hi, Nat.zero_add]
    by_cases e : k = p0
    · subst e
      have e0 : [k, p1, p2, p3][0]? = some k := rfl
      by_cases hi0 : i = 0
      · subst hi0; rw [mm_up_eq]
      · rw [mm_up_eq, h i hi0]
        have := cc_out_in (f := fun j _ => (j : Int)) (g := fun _ _ => 0) (j := 0) hn hi
        have this2 := cc_out_in (f := fun j _ => (j : Int)) (g := fun _ _ => 0) (j := 0) hn e0
        rw [this2] at this
        have := congrFun this 0
        omega
    · rw [mm_up_ne e]
      by_cases hi0 : i = 0
      · subst hi0
        have : p0 = k := by
          have e0 : some p0 = some k := hi
          exact Option.some.inj e0
        exact absurd this.symm e
      · rw [h i hi0]
        show O ([p0, p1, p2, p3].getD i 0) = O k
        rw [kk_getD hi]
  · rw [cc_out_out hm, mm_up_ne (fun e => hm (by rw [e]; exact List.mem_cons_self))]
theorem va_nd4 {p0 p1 p2 p3 : Nat} (hn : va_nd [p0, p1, p2, p3] = true) : p1 ≠ p0 ∧ p2 ≠ p0 ∧ p3 ≠ p0 := by
  have k : ∀ i x, [p0, p1, p2, p3][i]? = some x → x = p0 → i = 0 := by
    intro i x hi e
    subst e
    have e0 : [x, p1, p2, p3][0]? = some x := rfl
    have h1 := cc_out_in (f := fun j _ => (j : Int)) (g := fun _ _ => 0) (j := 0) hn hi
    have h2 := cc_out_in (f := fun j _ => (j : Int)) (g := fun _ _ => 0) (j := 0) hn e0
    rw [h2] at h1
    have := congrFun h1 0
    omega
  exact ⟨fun e => absurd (k 1 p1 rfl e) (by decide), fun e => absurd (k 2 p2 rfl e) (by decide), fun e => absurd (k 3 p3 rfl e) (by decide)⟩
set_option maxRecDepth 100000 in
set_option maxHeartbeats 4000000 in
theorem rr_xRefuse (l : Launch) (d : Nat) (O A : Nat → Nat → Int) (m : Int) : kk_Ctr l d en_t_X6_refuse [(4, 0), (0, m)] (cx_R O A) (fun rs w' => ∃ O' A', w' = cx_R O' A' ∧ rs = [(0, 0)] ∧ A' = A ∧ (∀ p, p ≠ 0 → O' p = O p) ∧ O' 0 = kk_up (kk_up (O 0) 9 m) 10 (O 0 4)) := by
  refine kk_ctr en_hM (List.mem_of_getElem? (i := 122) rfl) rfl (Nat.le_of_ble_eq_true rfl) (fun K hC => ?_)
  repeat' first | refine hC.gw [] _ rfl rfl ?_ | refine And.intro ?_ ?_ | exact True.intro | refine hC.iadd [] rfl rfl (by first | omega | (simp only [Int.reduceToNat] at *; omega)) ?_ | refine hC.isub [] rfl rfl (by first | omega | (simp only [Int.reduceToNat] at *; omega)) ?_ | refine hC.imul [] rfl rfl (by first | omega | (simp only [Int.reduceToNat] at *; omega)) ?_ | refine hC.iinc [] rfl rfl rfl rfl (by first | omega | (simp only [Int.reduceToNat] at *; omega)) ?_ | refine hC.pfw (W := cx_R) [] rfl rfl rfl rfl rfl rfl ?_ ?_ | refine hC.iaw (W := cx_R) [] rfl rfl rfl rfl ?_ ?_ | refine hC.law (W := cx_R) [] rfl rfl rfl rfl ?_ ?_ | refine hC.cpw (W := cx_R) [] rfl rfl rfl rfl rfl rfl ?_ | refine hC.cpl (W := cx_R) [] rfl rfl rfl rfl rfl rfl ?_ | refine hC.go [] _ rfl rfl ?_ | (intro h; first | exact (h rfl).elim | (exfalso; cases h; done) | (dsimp only [kk_cP, kk_cN] at h) | skip)
  all_goals first | exact Or.inl rfl | exact ⟨_, _, rfl, rfl, rfl, fun p hp => (mm_up_n0 hp).trans (mm_up_n0 hp), rfl⟩
set_option maxRecDepth 100000 in
set_option maxHeartbeats 4000000 in
theorem rr_xIsName (l : Launch) (d : Nat) (O A : Nat → Nat → Int) : kk_Ctr l d en_t_X6_isName [(4, 0)] (cx_R O A) (fun rs w' => w' = cx_R O A ∧ ((rs = [(0, 1)] ∧ O 0 3 = 2 ∧ O 0 6 = -1) ∨ (rs = [(0, 0)] ∧ ¬ (O 0 3 = 2 ∧ O 0 6 = -1)))) := by
  refine kk_ctr en_hM (List.mem_of_getElem? (i := 124) rfl) rfl (Nat.le_of_ble_eq_true rfl) (fun K hC => ?_)
  repeat' first | refine hC.gw [] _ rfl rfl ?_ | refine And.intro ?_ ?_ | exact True.intro | refine hC.iadd [] rfl rfl (by first | omega | (simp only [Int.reduceToNat] at *; omega)) ?_ | refine hC.isub [] rfl rfl (by first | omega | (simp only [Int.reduceToNat] at *; omega)) ?_ | refine hC.imul [] rfl rfl (by first | omega | (simp only [Int.reduceToNat] at *; omega)) ?_ | refine hC.iinc [] rfl rfl rfl rfl (by first | omega | (simp only [Int.reduceToNat] at *; omega)) ?_ | refine hC.pfw (W := cx_R) [] rfl rfl rfl rfl rfl rfl ?_ ?_ | refine hC.iaw (W := cx_R) [] rfl rfl rfl rfl ?_ ?_ | refine hC.law (W := cx_R) [] rfl rfl rfl rfl ?_ ?_ | refine hC.cpw (W := cx_R) [] rfl rfl rfl rfl rfl rfl ?_ | refine hC.cpl (W := cx_R) [] rfl rfl rfl rfl rfl rfl ?_ | refine hC.go [] _ rfl rfl ?_ | (intro h; first | exact (h rfl).elim | (exfalso; cases h; done) | (dsimp only [kk_cP, kk_cN] at h) | skip)
  all_goals first | rfl | omega | exact Or.inl ⟨rfl, by omega, by omega⟩ | exact Or.inr ⟨rfl, by omega⟩
/-- taken, or refused with the fault of a token -/
def ry_B (O A O' : Nat → Nat → Int) (rs : List en_V) (b : Prop) : Prop := (∀ p, p ≠ 0 → O' p = O p) ∧ ((b ∧ rs = [(0, 1)] ∧ (∀ k, (k < 3 ∨ 9 ≤ k) → O' 0 k = O 0 k) ∧ tk_T (O 2 1) (O 0 2) (rx_a O A) (A 1) (O 0 5) (tk_sk (rx_a O A) 940 (O 0 5)) (O' 0)) ∨ (¬ b ∧ rs = [(0, 0)] ∧ O' 0 = kk_up (kk_up (O 0) 9 1) 10 (O 0 4)))
set_option maxRecDepth 100000 in
set_option maxHeartbeats 4000000 in
theorem rr_xTakeSign (l : Launch) (d : Nat) (O A : Nat → Nat → Int) (c : Int) (h9 : 0 ≤ O 2 1 ∧ O 2 1 ≤ 940) (hp : 0 ≤ O 0 5 ∧ O 0 5 ≤ 940) : kk_Ctr l (d + 3) en_t_X6_takeSign [(4, 0), (0, c)] (cx_R O A) (fun rs w' => ∃ O' A', w' = cx_R O' A' ∧ A' = A ∧ ry_B O A O' rs (O 0 3 = c)) := by
  refine kk_ctr en_hM (List.mem_of_getElem? (i := 121) rfl) rfl (Nat.le_of_ble_eq_true rfl) (fun K hC => ?_)
  repeat' first | refine hC.gw [] _ rfl rfl ?_ | refine And.intro ?_ ?_ | exact True.intro | refine hC.iadd [] rfl rfl (by first | omega | (simp only [Int.reduceToNat] at *; omega)) ?_ | refine hC.isub [] rfl rfl (by first | omega | (simp only [Int.reduceToNat] at *; omega)) ?_ | refine hC.imul [] rfl rfl (by first | omega | (simp only [Int.reduceToNat] at *; omega)) ?_ | refine hC.iinc [] rfl rfl rfl rfl (by first | omega | (simp only [Int.reduceToNat] at *; omega)) ?_ | refine hC.pfw (W := cx_R) [] rfl rfl rfl rfl rfl rfl ?_ ?_ | refine hC.iaw (W := cx_R) [] rfl rfl rfl rfl ?_ ?_ | refine hC.law (W := cx_R) [] rfl rfl rfl rfl ?_ ?_ | refine hC.cpw (W := cx_R) [] rfl rfl rfl rfl rfl rfl ?_ | refine hC.cpl (W := cx_R) [] rfl rfl rfl rfl rfl rfl ?_ | refine hC.go [] _ rfl rfl ?_ | (intro h; first | exact (h rfl).elim | (exfalso; cases h; done) | (dsimp only [kk_cP, kk_cN] at h) | skip) | (refine hC.same (rr_xRefuse l _ _ _ _) rfl rfl rfl rfl (Nat.le_refl _) ?_; rintro rs w' ⟨O2, A2, rfl, rfl, rfl, hp2, hr2⟩) | (refine hC.same (rr_xStep l _ _ _ (by assumption) (by assumption)) rfl rfl rfl rfl (Nat.le_refl _) ?_; rintro rs w' ⟨O2, A2, rfl, rfl, rfl, ⟨hp2, hk2⟩, ht2⟩)
  all_goals first | exact Or.inl rfl | exact Or.inr rfl | exact ⟨_, _, rfl, rfl, hp2, Or.inl ⟨by omega, rfl, hk2, ht2⟩⟩ | exact ⟨_, _, rfl, rfl, hp2, Or.inr ⟨by omega, rfl, hr2⟩⟩
set_option maxRecDepth 100000 in
set_option maxHeartbeats 4000000 in
theorem rr_xTakeWord (l : Launch) (d : Nat) (O A : Nat → Nat → Int) (c : Int) (h9 : 0 ≤ O 2 1 ∧ O 2 1 ≤ 940) (hp : 0 ≤ O 0 5 ∧ O 0 5 ≤ 940) : kk_Ctr l (d + 3) en_t_X6_takeWord [(4, 0), (0, c)] (cx_R O A) (fun rs w' => ∃ O' A', w' = cx_R O' A' ∧ A' = A ∧ ry_B O A O' rs (O 0 6 = c)) := by
  refine kk_ctr en_hM (List.mem_of_getElem? (i := 126) rfl) rfl (Nat.le_of_ble_eq_true rfl) (fun K hC => ?_)
  repeat' first | refine hC.gw [] _ rfl rfl ?_ | refine And.intro ?_ ?_ | exact True.intro | refine hC.iadd [] rfl rfl (by first | omega | (simp only [Int.reduceToNat] at *; omega)) ?_ | refine hC.isub [] rfl rfl (by first | omega | (simp only [Int.reduceToNat] at *; omega)) ?_ | refine hC.imul [] rfl rfl (by first | omega | (simp only [Int.reduceToNat] at *; omega)) ?_ | refine hC.iinc [] rfl rfl rfl rfl (by first | omega | (simp only [Int.reduceToNat] at *; omega)) ?_ | refine hC.pfw (W := cx_R) [] rfl rfl rfl rfl rfl rfl ?_ ?_ | refine hC.iaw (W := cx_R) [] rfl rfl rfl rfl ?_ ?_ | refine hC.law (W := cx_R) [] rfl rfl rfl rfl ?_ ?_ | refine hC.cpw (W := cx_R) [] rfl rfl rfl rfl rfl rfl ?_ | refine hC.cpl (W := cx_R) [] rfl rfl rfl rfl rfl rfl ?_ | refine hC.go [] _ rfl rfl ?_ | (intro h; first | exact (h rfl).elim | (exfalso; cases h; done) | (dsimp only [kk_cP, kk_cN] at h) | skip) | (refine hC.same (rr_xRefuse l _ _ _ _) rfl rfl rfl rfl (Nat.le_refl _) ?_; rintro rs w' ⟨O2, A2, rfl, rfl, rfl, hp2, hr2⟩) | (refine hC.same (rr_xStep l _ _ _ (by assumption) (by assumption)) rfl rfl rfl rfl (Nat.le_refl _) ?_; rintro rs w' ⟨O2, A2, rfl, rfl, rfl, ⟨hp2, hk2⟩, ht2⟩)
  all_goals first | exact Or.inl rfl | exact Or.inr rfl | exact ⟨_, _, rfl, rfl, hp2, Or.inl ⟨by omega, rfl, hk2, ht2⟩⟩ | exact ⟨_, _, rfl, rfl, hp2, Or.inr ⟨by omega, rfl, hr2⟩⟩
set_option maxRecDepth 100000 in
set_option maxHeartbeats 4000000 in
theorem rr_xNumber (l : Launch) (d : Nat) (O A : Nat → Nat → Int) (a b : Int) : kk_Ctr l (d + 1) en_t_X6_isNumberWithin [(4, 0), (0, a), (0, b)] (cx_R O A) (fun rs w' => ∃ O' A', w' = cx_R O' A' ∧ A' = A ∧ (∀ p, p ≠ 0 → O' p = O p) ∧ ((rs = [(0, 1)] ∧ O 0 3 = 3 ∧ a ≤ O 0 8 ∧ O 0 8 ≤ b ∧ O' 0 = O 0) ∨ (rs = [(0, 0)] ∧ O 0 3 ≠ 3 ∧ O' 0 = kk_up (kk_up (O 0) 9 1) 10 (O 0 4)) ∨ (rs = [(0, 0)] ∧ O 0 3 = 3 ∧ ¬ (a ≤ O 0 8 ∧ O 0 8 ≤ b) ∧ O' 0 = kk_up (kk_up (O 0) 9 2) 10 (O 0 4)))) := by
  refine kk_ctr en_hM (List.mem_of_getElem? (i := 132) rfl) rfl (Nat.le_of_ble_eq_true rfl) (fun K hC => ?_)
  repeat' first | refine hC.gw [] _ rfl rfl ?_ | refine And.intro ?_ ?_ | exact True.intro | refine hC.iadd [] rfl rfl (by first | omega | (simp only [Int.reduceToNat] at *; omega)) ?_ | refine hC.isub [] rfl rfl (by first | omega | (simp only [Int.reduceToNat] at *; omega)) ?_ | refine hC.imul [] rfl rfl (by first | omega | (simp only [Int.reduceToNat] at *; omega)) ?_ | refine hC.iinc [] rfl rfl rfl rfl (by first | omega | (simp only [Int.reduceToNat] at *; omega)) ?_ | refine hC.pfw (W := cx_R) [] rfl rfl rfl rfl rfl rfl ?_ ?_ | refine hC.iaw (W := cx_R) [] rfl rfl rfl rfl ?_ ?_ | refine hC.law (W := cx_R) [] rfl rfl rfl rfl ?_ ?_ | refine hC.cpw (W := cx_R) [] rfl rfl rfl rfl rfl rfl ?_ | refine hC.cpl (W := cx_R) [] rfl rfl rfl rfl rfl rfl ?_ | refine hC.go [] _ rfl rfl ?_ | (intro h; first | exact (h rfl).elim | (exfalso; cases h; done) | (dsimp only [kk_cP, kk_cN] at h) | skip) | (refine hC.same (rr_xRefuse l _ _ _ _) rfl rfl rfl rfl (Nat.le_refl _) ?_; rintro rs w' ⟨O2, A2, rfl, rfl, rfl, hp2, hr2⟩) | (refine hC.call (xx_isWithin l _ _ _ _) [] rfl rfl rfl rfl rfl rfl trivial (Nat.le_refl _) ?_; rintro rs w' ⟨rfl, ⟨rfl, w1, w2⟩ | ⟨rfl, w1⟩⟩)
  all_goals first | exact Or.inl rfl | exact Or.inr rfl | exact ⟨_, _, rfl, rfl, fun _ _ => rfl, Or.inl ⟨rfl, by omega, w1, w2, rfl⟩⟩ | exact ⟨_, _, rfl, rfl, hp2, Or.inr (Or.inr ⟨rfl, by omega, w1, hr2⟩)⟩ | exact ⟨_, _, rfl, rfl, hp2, Or.inr (Or.inl ⟨rfl, by omega, hr2⟩)⟩
set_option maxRecDepth 100000 in
set_option maxHeartbeats 4000000 in
theorem rr_xBegin (l : Launch) (d : Nat) (O A : Nat → Nat → Int) (m : Int) (h9 : 0 ≤ O 2 1 ∧ O 2 1 ≤ 940) : kk_Ctr l (d + 3) en_t_X6_begin [(4, 0), (0, m)] (cx_R O A) (fun rs w' => ∃ O' A', w' = cx_R O' A' ∧ rs = [] ∧ A' = A ∧ (∀ p, p ≠ 0 → O' p = O p) ∧ O' 0 2 = m ∧ O' 0 9 = 0 ∧ O' 0 10 = 0 ∧ tk_T (O 2 1) m (rx_a O A) (A 1) 0 (tk_sk (rx_a O A) 940 0) (O' 0)) := by
  refine kk_ctr en_hM (List.mem_of_getElem? (i := 120) rfl) rfl (Nat.le_of_ble_eq_true rfl) (fun K hC => ?_)
  repeat' first | refine hC.gw [] _ rfl rfl ?_ | refine And.intro ?_ ?_ | exact True.intro | refine hC.iadd [] rfl rfl (by first | omega | (simp only [Int.reduceToNat] at *; omega)) ?_ | refine hC.isub [] rfl rfl (by first | omega | (simp only [Int.reduceToNat] at *; omega)) ?_ | refine hC.imul [] rfl rfl (by first | omega | (simp only [Int.reduceToNat] at *; omega)) ?_ | refine hC.iinc [] rfl rfl rfl rfl (by first | omega | (simp only [Int.reduceToNat] at *; omega)) ?_ | refine hC.pfw (W := cx_R) [] rfl rfl rfl rfl rfl rfl ?_ ?_ | refine hC.iaw (W := cx_R) [] rfl rfl rfl rfl ?_ ?_ | refine hC.law (W := cx_R) [] rfl rfl rfl rfl ?_ ?_ | refine hC.cpw (W := cx_R) [] rfl rfl rfl rfl rfl rfl ?_ | refine hC.cpl (W := cx_R) [] rfl rfl rfl rfl rfl rfl ?_ | refine hC.go [] _ rfl rfl ?_ | (intro h; first | exact (h rfl).elim | (exfalso; cases h; done) | (dsimp only [kk_cP, kk_cN] at h) | skip)
  refine hC.same (rr_xStep l _ _ _ (by exact h9) (by exact ⟨Int.le_refl _, (show (0 : Int) ≤ 940 by decide)⟩)) rfl rfl rfl rfl (Nat.le_refl _) ?_
  rintro rs w' ⟨O2, A2, rfl, rfl, rfl, ⟨hp2, hk2⟩, ht2⟩
  repeat' first | refine hC.gw [] _ rfl rfl ?_ | refine And.intro ?_ ?_ | exact True.intro | refine hC.iadd [] rfl rfl (by first | omega | (simp only [Int.reduceToNat] at *; omega)) ?_ | refine hC.isub [] rfl rfl (by first | omega | (simp only [Int.reduceToNat] at *; omega)) ?_ | refine hC.imul [] rfl rfl (by first | omega | (simp only [Int.reduceToNat] at *; omega)) ?_ | refine hC.iinc [] rfl rfl rfl rfl (by first | omega | (simp only [Int.reduceToNat] at *; omega)) ?_ | refine hC.pfw (W := cx_R) [] rfl rfl rfl rfl rfl rfl ?_ ?_ | refine hC.iaw (W := cx_R) [] rfl rfl rfl rfl ?_ ?_ | refine hC.law (W := cx_R) [] rfl rfl rfl rfl ?_ ?_ | refine hC.cpw (W := cx_R) [] rfl rfl rfl rfl rfl rfl ?_ | refine hC.cpl (W := cx_R) [] rfl rfl rfl rfl rfl rfl ?_ | refine hC.go [] _ rfl rfl ?_ | (intro h; first | exact (h rfl).elim | (exfalso; cases h; done) | (dsimp only [kk_cP, kk_cN] at h) | skip)
  exact ⟨_, _, rfl, rfl, rfl, fun p hp => (hp2 p hp).trans ((mm_up_n0 hp).trans ((mm_up_n0 hp).trans ((mm_up_n0 hp).trans (mm_up_n0 hp)))), hk2 2 (by omega), hk2 9 (by omega), hk2 10 (by omega), ht2⟩
/-- the tape that is read, in a world where the reader lies at p0 .. p3 -/
def rt (p1 p2 p3 : Nat) (n : Int) (a : Int → Int) (res : Nat → Int) (O A : Nat → Nat → Int) : Prop := O p2 1 = n ∧ (fun i => tt_v 940 n (A p3) i) = a ∧ A p1 = res ∧ tk_cx n a
/-- and the token at c is before the reader, and no fault was told -/
def rdw (p0 p1 p2 p3 : Nat) (n most : Int) (a : Int → Int) (res : Nat → Int) (c : Int) (O A : Nat → Nat → Int) : Prop := rt p1 p2 p3 n a res O A ∧ tk_at n a c ∧ rd n most a res c (O p0) ∧ O p0 9 = 0
set_option maxRecDepth 100000 in
set_option maxHeartbeats 4000000 in
theorem tt_cx (n : Int) (f : Nat → Int) (h0 : 0 ≤ n) (h9 : n ≤ 940) : tk_cx n (fun i => tt_v 940 n f i) := ⟨fun j hj => if_neg (by omega), h0, h9⟩
section RXW
variable {l : Launch} {d d' : Nat} {M : List en_T} {t : en_T} {xc : kk_X} {R : Instr → List en_V → List kk_C → Prop} {K : kk_Q} {W : cc_W} {p0 p1 p2 p3 : Nat} {O A : Nat → Nat → Int} {pc : Nat} {L : en_L} {st r : List en_V} {z : kk_Z5} {n most : Int} {a : Int → Int} {res : Nat → Int} {c : Int}
theorem rt.up (h : rt p1 p2 p3 n a res O A) (hn : va_nd [p0, p1, p2, p3] = true) (r' : Nat → Int) : rt p1 p2 p3 n a res (mm_up O p0 r') A := ⟨by rw [mm_up_ne (va_nd4 hn).2.1]; exact h.1, h.2⟩
theorem rdw.tx (h : rdw p0 p1 p2 p3 n most a res c O A) : rx_a (cc_in [p0, p1, p2, p3] O) (cc_in [p0, p1, p2, p3] A) = a := by
  have e : O p2 1 = n := h.1.1
  rw [← h.1.2.1, ← e]
  rfl
theorem rdw.go (h : rdw p0 p1 p2 p3 n most a res c O A) (hn : va_nd [p0, p1, p2, p3] = true) {r' : Nat → Int} (hk : ∀ k, (k < 3 ∨ 9 ≤ k) → r' k = O p0 k) (ht : tk_T (O p2 1) (O p0 2) (rx_a (cc_in [p0, p1, p2, p3] O) (cc_in [p0, p1, p2, p3] A)) (A p1) (O p0 5) (tk_sk (rx_a (cc_in [p0, p1, p2, p3] O) (cc_in [p0, p1, p2, p3] A)) 940 (O p0 5)) r') : rdw p0 p1 p2 p3 n most a res (tk_nx n most a res c) (mm_up O p0 r') A := by
  have ea := h.tx
  obtain ⟨h1, h2, h3, h4⟩ := h
  rw [ea, h1.1, h1.2.2.1] at ht
  refine ⟨h1.up hn r', h2.nx h1.2.2.2, ?_, ?_⟩
  · rw [mm_up_eq]
    exact h3.step h1.2.2.2 (hk 2 (by omega)) ht
  · rw [mm_up_eq]
    exact (hk 9 (by omega)).trans h4
theorem rdw.n9 (h : rdw p0 p1 p2 p3 n most a res c O A) : 0 ≤ cc_in [p0, p1, p2, p3] O 2 1 ∧ cc_in [p0, p1, p2, p3] O 2 1 ≤ 940 := by
  show 0 ≤ O p2 1 ∧ O p2 1 ≤ 940
  rw [h.1.1]
  exact h.1.2.2.2.2
theorem rdw.n5 (h : rdw p0 p1 p2 p3 n most a res c O A) : 0 ≤ cc_in [p0, p1, p2, p3] O 0 5 ∧ cc_in [p0, p1, p2, p3] O 0 5 ≤ 940 := by
  show 0 ≤ O p0 5 ∧ O p0 5 ≤ 940
  have h1 := h.1.2.2.2.2
  obtain ⟨h2, h3⟩ := h.2.2.1.2.2.2.2.2.2.2
  omega
theorem rx_step (hC : kk_Clo l d M t xc R K) (E : cc_E W cx_R [p0, p1, p2, p3]) (hn : va_nd [p0, p1, p2, p3] = true) (hr : rdw p0 p1 p2 p3 n most a res c O A) (hd : d' + 3 ≤ d) (hf : en_find (en_te t) pc = some z) (hM : M[z.2.2.1]? = some en_t_X6_step) (ht : en_take z.2.2.2.1 [] st = some ([(4, 0)].map (kk_ren [p0, p1, p2, p3]), r)) (hp : [(4, (0 : Int))].all (kk_wfv 4) = true) (hc : kk_chk z en_t_X6_step ([(4, 0)].map (kk_ren [p0, p1, p2, p3])) r (W O A) = true) (h : ∀ r', rdw p0 p1 p2 p3 n most a res (tk_nx n most a res c) (mm_up O p0 r') A → K z.1 L r (W (mm_up O p0 r') A)) : K pc L st (W O A) := by
  refine hC.at E (rr_xStep l d' _ _ hr.n9 hr.n5) hf hM ht hc hp rfl hd ?_
  rintro rs O2 A2 ⟨rfl, rfl, ⟨h1, h2⟩, h3⟩
  rw [cc_same hn, cc_first hn h1]
  exact h _ (hr.go hn h2 h3)
theorem rx_refuse (hC : kk_Clo l d M t xc R K) (E : cc_E W cx_R [p0, p1, p2, p3]) (hn : va_nd [p0, p1, p2, p3] = true) (m : Int) (hd : d' + 1 ≤ d) (hf : en_find (en_te t) pc = some z) (hM : M[z.2.2.1]? = some en_t_X6_refuse) (ht : en_take z.2.2.2.1 [] st = some ([(4, 0), (0, m)].map (kk_ren [p0, p1, p2, p3]), r)) (hp : [(4, (0 : Int)), (0, m)].all (kk_wfv 4) = true) (hc : kk_chk z en_t_X6_refuse ([(4, 0), (0, m)].map (kk_ren [p0, p1, p2, p3])) r (W O A) = true) (h : ∀ r', r' 9 = m → r' 10 = O p0 4 → K z.1 L ((0, 0) :: r) (W (mm_up O p0 r') A)) : K pc L st (W O A) := by
  refine hC.at E (rr_xRefuse l d' _ _ m) hf hM ht hc hp rfl hd ?_
  rintro rs O2 A2 ⟨rfl, rfl, h1, h2⟩
  rw [cc_same hn, cc_first hn h1]
  exact h _ (by rw [h2]; rfl) (by rw [h2]; rfl)
theorem rx_isName (hC : kk_Clo l d M t xc R K) (E : cc_E W cx_R [p0, p1, p2, p3]) (hd : d' + 1 ≤ d) (hf : en_find (en_te t) pc = some z) (hM : M[z.2.2.1]? = some en_t_X6_isName) (ht : en_take z.2.2.2.1 [] st = some ([(4, 0)].map (kk_ren [p0, p1, p2, p3]), r)) (hp : [(4, (0 : Int))].all (kk_wfv 4) = true) (hc : kk_chk z en_t_X6_isName ([(4, 0)].map (kk_ren [p0, p1, p2, p3])) r (W O A) = true) (h1 : O p0 3 = 2 ∧ O p0 6 = -1 → K z.1 L ((0, 1) :: r) (W O A)) (h0 : ¬ (O p0 3 = 2 ∧ O p0 6 = -1) → K z.1 L ((0, 0) :: r) (W O A)) : K pc L st (W O A) := by
  refine hC.rd E (rr_xIsName l d' _ _) hf hM ht hc hp rfl hd ?_
  rintro rs (⟨rfl, q⟩ | ⟨rfl, q⟩)
  · exact h1 q
  · exact h0 q
theorem rx_takeSign (hC : kk_Clo l d M t xc R K) (E : cc_E W cx_R [p0, p1, p2, p3]) (hn : va_nd [p0, p1, p2, p3] = true) (m : Int) (hr : rdw p0 p1 p2 p3 n most a res c O A) (hd : d' + 4 ≤ d) (hf : en_find (en_te t) pc = some z) (hM : M[z.2.2.1]? = some en_t_X6_takeSign) (ht : en_take z.2.2.2.1 [] st = some ([(4, 0), (0, m)].map (kk_ren [p0, p1, p2, p3]), r)) (hp : [(4, (0 : Int)), (0, m)].all (kk_wfv 4) = true) (hc : kk_chk z en_t_X6_takeSign ([(4, 0), (0, m)].map (kk_ren [p0, p1, p2, p3])) r (W O A) = true) (h1 : O p0 3 = m → ∀ r', rdw p0 p1 p2 p3 n most a res (tk_nx n most a res c) (mm_up O p0 r') A → K z.1 L ((0, 1) :: r) (W (mm_up O p0 r') A)) (h0 : O p0 3 ≠ m → ∀ r', r' 9 = 1 → r' 10 = O p0 4 → K z.1 L ((0, 0) :: r) (W (mm_up O p0 r') A)) : K pc L st (W O A) := by
  refine hC.at E (rr_xTakeSign l d' _ _ m hr.n9 hr.n5) hf hM ht hc hp rfl hd ?_
  rintro rs O2 A2 ⟨rfl, hq, ⟨q1, rfl, q2, q3⟩ | ⟨q1, rfl, q2⟩⟩
  · rw [cc_same hn, cc_first hn hq]; exact h1 q1 _ (hr.go hn q2 q3)
  · rw [cc_same hn, cc_first hn hq]; exact h0 q1 _ (by rw [q2]; rfl) (by rw [q2]; rfl)
theorem rx_takeWord (hC : kk_Clo l d M t xc R K) (E : cc_E W cx_R [p0, p1, p2, p3]) (hn : va_nd [p0, p1, p2, p3] = true) (m : Int) (hr : rdw p0 p1 p2 p3 n most a res c O A) (hd : d' + 4 ≤ d) (hf : en_find (en_te t) pc = some z) (hM : M[z.2.2.1]? = some en_t_X6_takeWord) (ht : en_take z.2.2.2.1 [] st = some ([(4, 0), (0, m)].map (kk_ren [p0, p1, p2, p3]), r)) (hp : [(4, (0 : Int)), (0, m)].all (kk_wfv 4) = true) (hc : kk_chk z en_t_X6_takeWord ([(4, 0), (0, m)].map (kk_ren [p0, p1, p2, p3])) r (W O A) = true) (h1 : O p0 6 = m → ∀ r', rdw p0 p1 p2 p3 n most a res (tk_nx n most a res c) (mm_up O p0 r') A → K z.1 L ((0, 1) :: r) (W (mm_up O p0 r') A)) (h0 : O p0 6 ≠ m → ∀ r', r' 9 = 1 → r' 10 = O p0 4 → K z.1 L ((0, 0) :: r) (W (mm_up O p0 r') A)) : K pc L st (W O A) := by
  refine hC.at E (rr_xTakeWord l d' _ _ m hr.n9 hr.n5) hf hM ht hc hp rfl hd ?_
  rintro rs O2 A2 ⟨rfl, hq, ⟨q1, rfl, q2, q3⟩ | ⟨q1, rfl, q2⟩⟩
  · rw [cc_same hn, cc_first hn hq]; exact h1 q1 _ (hr.go hn q2 q3)
  · rw [cc_same hn, cc_first hn hq]; exact h0 q1 _ (by rw [q2]; rfl) (by rw [q2]; rfl)
theorem rx_number (hC : kk_Clo l d M t xc R K) (E : cc_E W cx_R [p0, p1, p2, p3]) (hn : va_nd [p0, p1, p2, p3] = true) (x y : Int) (hd : d' + 2 ≤ d) (hf : en_find (en_te t) pc = some z) (hM : M[z.2.2.1]? = some en_t_X6_isNumberWithin) (ht : en_take z.2.2.2.1 [] st = some ([(4, 0), (0, x), (0, y)].map (kk_ren [p0, p1, p2, p3]), r)) (hp : [(4, (0 : Int)), (0, x), (0, y)].all (kk_wfv 4) = true) (hc : kk_chk z en_t_X6_isNumberWithin ([(4, 0), (0, x), (0, y)].map (kk_ren [p0, p1, p2, p3])) r (W O A) = true) (h1 : O p0 3 = 3 → x ≤ O p0 8 ∧ O p0 8 ≤ y → K z.1 L ((0, 1) :: r) (W O A)) (h2 : O p0 3 ≠ 3 → ∀ r', r' 9 = 1 → r' 10 = O p0 4 → K z.1 L ((0, 0) :: r) (W (mm_up O p0 r') A)) (h3 : O p0 3 = 3 → ¬ (x ≤ O p0 8 ∧ O p0 8 ≤ y) → ∀ r', r' 9 = 2 → r' 10 = O p0 4 → K z.1 L ((0, 0) :: r) (W (mm_up O p0 r') A)) : K pc L st (W O A) := by
  refine hC.at E (rr_xNumber l d' _ _ x y) hf hM ht hc hp rfl hd ?_
  rintro rs O2 A2 ⟨rfl, hq, ⟨rfl, q1, q2, q3, q4⟩ | ⟨rfl, q1, q2⟩ | ⟨rfl, q1, q2, q3⟩⟩
  · have e : O2 = cc_in [p0, p1, p2, p3] O := by
      funext p
      by_cases hp0 : p = 0
      · rw [hp0]; exact q4
      · exact hq p hp0
    rw [cc_same hn, e, cc_same hn]; exact h1 q1 ⟨q2, q3⟩
  · rw [cc_same hn, cc_first hn hq]; exact h2 q1 _ (by rw [q2]; rfl) (by rw [q2]; rfl)
  · rw [cc_same hn, cc_first hn hq]; exact h3 q1 q2 _ (by rw [q3]; rfl) (by rw [q3]; rfl)
theorem rx_begin (hC : kk_Clo l d M t xc R K) (E : cc_E W cx_R [p0, p1, p2, p3]) (hn : va_nd [p0, p1, p2, p3] = true) (m : Int) (hr : rt p1 p2 p3 n a res O A) (hd : d' + 4 ≤ d) (hf : en_find (en_te t) pc = some z) (hM : M[z.2.2.1]? = some en_t_X6_begin) (ht : en_take z.2.2.2.1 [] st = some ([(4, 0), (0, m)].map (kk_ren [p0, p1, p2, p3]), r)) (hp : [(4, (0 : Int)), (0, m)].all (kk_wfv 4) = true) (hc : kk_chk z en_t_X6_begin ([(4, 0), (0, m)].map (kk_ren [p0, p1, p2, p3])) r (W O A) = true) (h : ∀ r', r' 9 = 0 → r' 10 = 0 → rdw p0 p1 p2 p3 n m a res (tk_sk a 940 0) (mm_up O p0 r') A → K z.1 L r (W (mm_up O p0 r') A)) : K pc L st (W O A) := by
  refine hC.at E (rr_xBegin l d' _ _ m (by show 0 ≤ O p2 1 ∧ O p2 1 ≤ 940; rw [hr.1]; exact hr.2.2.2.2)) hf hM ht hc hp rfl hd ?_
  rintro rs O2 A2 ⟨rfl, rfl, h1, h2, h3, h4, h5⟩
  rw [cc_same hn, cc_first hn h1]
  have ea : rx_a (cc_in [p0, p1, p2, p3] O) (cc_in [p0, p1, p2, p3] A) = a := by
    have e : O p2 1 = n := hr.1
    rw [← hr.2.1, ← e]
    rfl
  have en : cc_in [p0, p1, p2, p3] O 2 1 = n := hr.1
  have er : cc_in [p0, p1, p2, p3] A 1 = res := hr.2.2.1
  rw [ea, en, er] at h5
  refine h _ h3 h4 ⟨hr.up hn _, tk_at.b hr.2.2.2, ?_, by rw [mm_up_eq]; exact h3⟩
  rw [mm_up_eq]
  exact rd_new hr.2.2.2 (Int.le_refl _) hr.2.2.2.2.1 rfl h2 h5
end RXW
