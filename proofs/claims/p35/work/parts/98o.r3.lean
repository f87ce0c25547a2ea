/-! READING, 3: a run of letters and digits -/
def rq_b (L nm : Int) : Prop := 0 ≤ nm ∧ ((L = 0 ∧ nm = 0) ∨ (L = 1 ∧ nm < 32) ∨ (L = 2 ∧ nm < 1024) ∨ (L = 3 ∧ nm < 32768) ∨ (L = 4 ∧ nm < 1048576) ∨ (L = 5 ∧ nm < 33554432) ∨ (L = 6 ∧ nm < 1073741824) ∨ (L = 7 ∧ nm < 34359738368) ∨ (7 < L ∧ nm = 0))
def rq_n (D nu : Int) : Prop := 0 ≤ nu ∧ ((D = 0 ∧ nu = 0) ∨ (D = 1 ∧ nu ≤ 9) ∨ (D = 2 ∧ nu ≤ 99) ∨ (D = 3 ∧ nu ≤ 999) ∨ (3 < D ∧ nu = 0))
/-- what is so after the run has been read from q to i -/
def rq (a : Int → Int) (q i L D nm nu : Int) : Prop := (q ≤ i ∧ 0 ≤ L ∧ 0 ≤ D ∧ L + D = i - q) ∧ (D = 0 → ∀ j : Nat, (j : Int) < i - q → tk_lt (a (q + j)) = true) ∧ (D ≠ 0 → ∃ j : Nat, (j : Int) < i - q ∧ tk_lt (a (q + j)) = false) ∧ (L = 0 → ∀ j : Nat, (j : Int) < i - q → tk_dg (a (q + j)) = true) ∧ (L ≠ 0 → ∃ j : Nat, (j : Int) < i - q ∧ tk_dg (a (q + j)) = false) ∧ (D = 0 → L ≤ 7 → nm = nv 32 (fun j => a (q + j) - 96) L.toNat) ∧ (L = 0 → D ≤ 3 → nu = nv 10 (fun j => a (q + j) - 48) D.toNat) ∧ rq_b L nm ∧ rq_n D nu
theorem rq_b1 {L nm x : Int} (h : rq_b L nm) (x1 : 1 ≤ x) (x2 : x ≤ 26) : rq_b (L + 1) (if L + 1 ≤ 7 then 32 * nm + x else 0) := by
  obtain ⟨b0, b⟩ := h
  rcases b with ⟨e, b⟩ | ⟨e, b⟩ | ⟨e, b⟩ | ⟨e, b⟩ | ⟨e, b⟩ | ⟨e, b⟩ | ⟨e, b⟩ | ⟨e, b⟩ | ⟨e, b⟩
  · subst e; exact ⟨by show 0 ≤ 32 * nm + x; omega, Or.inr (Or.inl ⟨by omega, by show 32 * nm + x < 32; omega⟩)⟩
  · subst e; exact ⟨by show 0 ≤ 32 * nm + x; omega, Or.inr (Or.inr (Or.inl ⟨by omega, by show 32 * nm + x < 1024; omega⟩))⟩
  · subst e; exact ⟨by show 0 ≤ 32 * nm + x; omega, Or.inr (Or.inr (Or.inr (Or.inl ⟨by omega, by show 32 * nm + x < 32768; omega⟩)))⟩
  · subst e; exact ⟨by show 0 ≤ 32 * nm + x; omega, Or.inr (Or.inr (Or.inr (Or.inr (Or.inl ⟨by omega, by show 32 * nm + x < 1048576; omega⟩))))⟩
  · subst e; exact ⟨by show 0 ≤ 32 * nm + x; omega, Or.inr (Or.inr (Or.inr (Or.inr (Or.inr (Or.inl ⟨by omega, by show 32 * nm + x < 33554432; omega⟩)))))⟩
  · subst e; exact ⟨by show 0 ≤ 32 * nm + x; omega, Or.inr (Or.inr (Or.inr (Or.inr (Or.inr (Or.inr (Or.inl ⟨by omega, by show 32 * nm + x < 1073741824; omega⟩))))))⟩
  · subst e; exact ⟨by show 0 ≤ 32 * nm + x; omega, Or.inr (Or.inr (Or.inr (Or.inr (Or.inr (Or.inr (Or.inr (Or.inl ⟨by omega, by show 32 * nm + x < 34359738368; omega⟩)))))))⟩
  · rw [if_neg (by omega)]; exact ⟨by decide, Or.inr (Or.inr (Or.inr (Or.inr (Or.inr (Or.inr (Or.inr (Or.inr ⟨by omega, rfl⟩)))))))⟩
  · rw [if_neg (by omega)]; exact ⟨by decide, Or.inr (Or.inr (Or.inr (Or.inr (Or.inr (Or.inr (Or.inr (Or.inr ⟨by omega, rfl⟩)))))))⟩
theorem rq_n1 {D nu x : Int} (h : rq_n D nu) (x1 : 48 ≤ x) (x2 : x ≤ 57) : rq_n (D + 1) (if D + 1 ≤ 3 then nu * 10 + x - 48 else 0) := by
  obtain ⟨b0, b⟩ := h
  rcases b with ⟨e, b⟩ | ⟨e, b⟩ | ⟨e, b⟩ | ⟨e, b⟩ | ⟨e, b⟩
  · subst e; exact ⟨by show 0 ≤ nu * 10 + x - 48; omega, Or.inr (Or.inl ⟨by omega, by show nu * 10 + x - 48 ≤ 9; omega⟩)⟩
  · subst e; exact ⟨by show 0 ≤ nu * 10 + x - 48; omega, Or.inr (Or.inr (Or.inl ⟨by omega, by show nu * 10 + x - 48 ≤ 99; omega⟩))⟩
  · subst e; exact ⟨by show 0 ≤ nu * 10 + x - 48; omega, Or.inr (Or.inr (Or.inr (Or.inl ⟨by omega, by show nu * 10 + x - 48 ≤ 999; omega⟩)))⟩
  · rw [if_neg (by omega)]; exact ⟨by decide, Or.inr (Or.inr (Or.inr (Or.inr ⟨by omega, rfl⟩)))⟩
  · rw [if_neg (by omega)]; exact ⟨by decide, Or.inr (Or.inr (Or.inr (Or.inr ⟨by omega, rfl⟩)))⟩
theorem rq_b.lt {L nm : Int} (h : rq_b L nm) : 0 ≤ nm ∧ nm < 1099511627776 := by
  obtain ⟨b0, b⟩ := h
  rcases b with ⟨e, b⟩ | ⟨e, b⟩ | ⟨e, b⟩ | ⟨e, b⟩ | ⟨e, b⟩ | ⟨e, b⟩ | ⟨e, b⟩ | ⟨e, b⟩ | ⟨e, b⟩ <;> omega
theorem rq_n.lt {D nu : Int} (h : rq_n D nu) : 0 ≤ nu ∧ nu ≤ 999 := by
  obtain ⟨b0, b⟩ := h
  rcases b with ⟨e, b⟩ | ⟨e, b⟩ | ⟨e, b⟩ | ⟨e, b⟩ | ⟨e, b⟩ <;> omega
theorem rq_0 (a : Int → Int) (q : Int) : rq a q q 0 0 0 0 := ⟨⟨by omega, by omega, by omega, by omega⟩, fun _ j hj => absurd hj (by omega), fun h => absurd rfl h, fun _ j hj => absurd hj (by omega), fun h => absurd rfl h, fun _ _ => rfl, fun _ _ => rfl, ⟨by omega, Or.inl ⟨rfl, rfl⟩⟩, ⟨by omega, Or.inl ⟨rfl, rfl⟩⟩⟩
theorem tk_ld {c : Int} (h : tk_lt c = true) : tk_dg c = false := tk_no tk_dg_t (by have := tk_lt_t.mp h; omega)
theorem tk_dl {c : Int} (h : tk_dg c = true) : tk_lt c = false := tk_no tk_lt_t (by have := tk_dg_t.mp h; omega)
theorem rq_L {a : Int → Int} {q i L D nm nu : Int} (h : rq a q i L D nm nu) (hc : tk_lt (a i) = true) : rq a q (i + 1) (L + 1) D (if L + 1 ≤ 7 then 32 * nm + (a i - 96) else 0) nu := by
  obtain ⟨⟨h1, h2, h3, h4⟩, h5, h6, h7, h8, h9, h10, h11, h12⟩ := h
  have hcc := tk_lt_t.mp hc
  have ei : q + ((i - q).toNat : Int) = i := by omega
  refine ⟨⟨by omega, by omega, h3, by omega⟩, fun hD j hj => ?_, fun hD => ?_, fun hL => absurd hL (by omega), fun _ => ⟨(i - q).toNat, by omega, by rw [ei]; exact tk_ld hc⟩, fun hD hL => ?_, fun hL => absurd hL (by omega), ?_, h12⟩
  · by_cases hjj : (j : Int) < i - q
    · exact h5 hD j hjj
    · rw [show q + (j : Int) = i by omega]; exact hc
  · obtain ⟨j, j1, j2⟩ := h6 hD
    exact ⟨j, by omega, j2⟩
  · rw [if_pos hL, h9 hD (by omega), show (L + 1).toNat = L.toNat + 1 by omega]
    show 32 * nv 32 (fun j => a (q + j) - 96) L.toNat + (a i - 96) = 32 * nv 32 (fun j => a (q + j) - 96) L.toNat + (a (q + (L.toNat : Int)) - 96)
    rw [show q + (L.toNat : Int) = i by omega]
  · exact rq_b1 h11 (by omega) (by omega)
theorem rq_D {a : Int → Int} {q i L D nm nu : Int} (h : rq a q i L D nm nu) (hc : tk_dg (a i) = true) : rq a q (i + 1) L (D + 1) nm (if D + 1 ≤ 3 then nu * 10 + a i - 48 else 0) := by
  obtain ⟨⟨h1, h2, h3, h4⟩, h5, h6, h7, h8, h9, h10, h11, h12⟩ := h
  have hcc := tk_dg_t.mp hc
  have ei : q + ((i - q).toNat : Int) = i := by omega
  refine ⟨⟨by omega, h2, by omega, by omega⟩, fun hD => absurd hD (by omega), fun _ => ⟨(i - q).toNat, by omega, by rw [ei]; exact tk_dl hc⟩, fun hL j hj => ?_, fun hL => ?_, fun hD => absurd hD (by omega), fun hL hD => ?_, h11, ?_⟩
  · by_cases hjj : (j : Int) < i - q
    · exact h7 hL j hjj
    · rw [show q + (j : Int) = i by omega]; exact hc
  · obtain ⟨j, j1, j2⟩ := h8 hL
    exact ⟨j, by omega, j2⟩
  · rw [if_pos hD, h10 hL (by omega), show (D + 1).toNat = D.toNat + 1 by omega]
    show nv 10 (fun j => a (q + j) - 48) D.toNat * 10 + a i - 48 = 10 * nv 10 (fun j => a (q + j) - 48) D.toNat + (a (q + (D.toNat : Int)) - 48)
    rw [show q + (D.toNat : Int) = i by omega]
    omega
  · exact rq_n1 h12 (by omega) (by omega)
/-- the number of the reserved word x, or -1 -/
def rw_I (res : Nat → Int) (x y : Int) : Prop := (0 ≤ y ∧ y < 24 ∧ res y.toNat = x ∧ ∀ j : Nat, (j : Int) < y → res j ≠ x) ∨ (y = -1 ∧ ∀ j : Nat, j < 24 → res j ≠ x)
set_option maxRecDepth 100000 in
set_option maxHeartbeats 4000000 in
theorem rr_xReserved (l : Launch) (d : Nat) (O A : Nat → Nat → Int) : kk_Ctr l d en_t_X6_placeOfReserved [(4, 0)] (cx_R O A) (fun rs w' => w' = cx_R O A ∧ ∃ y, rs = [(0, y)] ∧ rw_I (A 1) (O 0 7) y) := by
  refine kk_ctr en_hM (List.mem_of_getElem? (i := 133) rfl) rfl (Nat.le_of_ble_eq_true rfl) (fun K hC => ?_)
  have k2 : ∀ (n : Nat) (i : Int), (25 - i).toNat < n → (0 ≤ i ∧ i ≤ 24) → (∀ j : Nat, (j : Int) < i → A 1 j ≠ O 0 7) → K 2 [(0, (4, 0)), (1, (0, i))] [] (cx_R O A) := by
    intro n
    induction n with
    | zero => intro i hz; exact absurd hz (Nat.not_lt_zero _)
    | succ n ih =>
      intro i hn h0 hj
      refine hC.go [] _ rfl rfl ?_
      repeat' first | refine hC.gw [2] _ rfl rfl ?_ | refine And.intro ?_ ?_ | exact True.intro | refine hC.iadd [2] rfl rfl (by first | omega | (simp only [Int.reduceToNat] at *; omega)) ?_ | refine hC.isub [2] rfl rfl (by first | omega | (simp only [Int.reduceToNat] at *; omega)) ?_ | refine hC.imul [2] rfl rfl (by first | omega | (simp only [Int.reduceToNat] at *; omega)) ?_ | refine hC.iinc [2] rfl rfl rfl rfl (by first | omega | (simp only [Int.reduceToNat] at *; omega)) ?_ | refine hC.pfw (W := cx_R) [2] rfl rfl rfl rfl rfl rfl ?_ ?_ | refine hC.iaw (W := cx_R) [2] rfl rfl rfl rfl ?_ ?_ | refine hC.law (W := cx_R) [2] rfl rfl rfl rfl ?_ ?_ | refine hC.cpw (W := cx_R) [2] rfl rfl rfl rfl rfl rfl ?_ | refine hC.cpl (W := cx_R) [2] rfl rfl rfl rfl rfl rfl ?_ | refine hC.go [2] _ rfl rfl ?_ | (intro h; first | exact (h rfl).elim | (exfalso; cases h; done) | (dsimp only [kk_cP, kk_cN] at h) | skip)
      all_goals first | rfl | omega | exact ⟨_, rfl, Or.inr ⟨rfl, fun j hjj => hj j (by omega)⟩⟩ | exact ⟨_, rfl, Or.inl ⟨by omega, by omega, kk_cmp0.mp (by assumption), hj⟩⟩ | skip
      refine hC.sub [(0, (4, 0)), (1, (0, _))] ⟨rfl, rfl, trivial⟩ (ih _ (by omega) (by omega) (fun j hjj => ?_))
      by_cases e : (j : Int) < i
      · exact hj j e
      · have e2 : j = i.toNat := by omega
        subst e2
        exact fun q => absurd (kk_cmp0.mpr q) (by assumption)
  repeat' first | refine hC.gw [2] _ rfl rfl ?_ | refine And.intro ?_ ?_ | exact True.intro | refine hC.iadd [2] rfl rfl (by first | omega | (simp only [Int.reduceToNat] at *; omega)) ?_ | refine hC.isub [2] rfl rfl (by first | omega | (simp only [Int.reduceToNat] at *; omega)) ?_ | refine hC.imul [2] rfl rfl (by first | omega | (simp only [Int.reduceToNat] at *; omega)) ?_ | refine hC.iinc [2] rfl rfl rfl rfl (by first | omega | (simp only [Int.reduceToNat] at *; omega)) ?_ | refine hC.pfw (W := cx_R) [2] rfl rfl rfl rfl rfl rfl ?_ ?_ | refine hC.iaw (W := cx_R) [2] rfl rfl rfl rfl ?_ ?_ | refine hC.law (W := cx_R) [2] rfl rfl rfl rfl ?_ ?_ | refine hC.cpw (W := cx_R) [2] rfl rfl rfl rfl rfl rfl ?_ | refine hC.cpl (W := cx_R) [2] rfl rfl rfl rfl rfl rfl ?_ | refine hC.go [2] _ rfl rfl ?_ | (intro h; first | exact (h rfl).elim | (exfalso; cases h; done) | (dsimp only [kk_cP, kk_cN] at h) | skip)
  exact hC.sub [(0, (4, 0)), (1, (0, _))] ⟨rfl, rfl, trivial⟩ (k2 _ _ (Nat.lt_succ_self _) (by omega) (fun j hj => absurd hj (by omega)))
def rx_a (O A : Nat → Nat → Int) : Int → Int := fun i => tt_v 940 (O 2 1) (A 3) i
def rx_f (O O1 : Nat → Nat → Int) : Prop := (∀ p, p ≠ 0 → O1 p = O p) ∧ ∀ k, k ≠ 3 → k ≠ 5 → k ≠ 6 → k ≠ 7 → k ≠ 8 → O1 0 k = O 0 k
def rx_R (O A O' : Nat → Nat → Int) : Prop := rx_f O O' ∧ ∃ L D nm nu, rq (rx_a O A) (O 0 4) (O' 0 5) L D nm nu ∧ O' 0 5 = tk_en (rx_a O A) 940 (O 0 4) ∧ ((D = 0 ∧ L ≤ 7 ∧ O' 0 3 = 2 ∧ O' 0 7 = nm ∧ rw_I (A 1) nm (O' 0 6)) ∨ (¬ (D = 0 ∧ L ≤ 7) ∧ O' 0 6 = O 0 6 ∧ ((L = 0 ∧ D ≤ 3 ∧ O' 0 3 = 3 ∧ O' 0 8 = nu) ∨ (¬ (L = 0 ∧ D ≤ 3) ∧ O' 0 3 = 0))))
theorem rx_f.up {O O1 : Nat → Nat → Int} (h : rx_f O O1) {b : Nat} {v : Int} (hb : b = 3 ∨ b = 5 ∨ b = 6 ∨ b = 7 ∨ b = 8) : rx_f O (mm_up O1 0 (kk_up (O1 0) b v)) := by
  refine ⟨fun p hp => by rw [mm_up_ne hp]; exact h.1 p hp, fun k h3 h5 h6 h7 h8 => ?_⟩
  show kk_up (O1 0) b v k = O 0 k
  rw [kk_up_ne (by omega)]
  exact h.2 k h3 h5 h6 h7 h8
set_option maxRecDepth 100000 in
set_option maxHeartbeats 4000000 in
theorem rr_xRun (l : Launch) (d : Nat) (O A : Nat → Nat → Int) (h9 : 0 ≤ O 2 1 ∧ O 2 1 ≤ 940) (hq : 0 ≤ O 0 4 ∧ O 0 4 < O 2 1) : kk_Ctr l (d + 1) en_t_X6_readRun [(4, 0)] (cx_R O A) (fun rs w' => ∃ O' A', w' = cx_R O' A' ∧ rs = [] ∧ A' = A ∧ rx_R O A O') := by
  refine kk_ctr en_hM (List.mem_of_getElem? (i := 130) rfl) rfl (Nat.le_of_ble_eq_true rfl) (fun K hC => ?_)
  have k135 : ∀ (L D : Int) (O1 : Nat → Nat → Int), rx_f O O1 → O1 0 6 = O 0 6 → rq (rx_a O A) (O 0 4) (O1 0 5) L D (O1 0 7) (O1 0 8) → O1 0 5 = tk_en (rx_a O A) 940 (O 0 4) → K 135 [(0, (4, 0)), (1, (0, L)), (2, (0, D))] [] (cx_R O1 A) := by
    intro L D O1 hf h6 hr he
    have hr1 := hr.1
    repeat' first | refine hC.gw [] _ rfl rfl ?_ | refine And.intro ?_ ?_ | exact True.intro | refine hC.iadd [] rfl rfl (by first | omega | (simp only [Int.reduceToNat] at *; omega)) ?_ | refine hC.isub [] rfl rfl (by first | omega | (simp only [Int.reduceToNat] at *; omega)) ?_ | refine hC.imul [] rfl rfl (by first | omega | (simp only [Int.reduceToNat] at *; omega)) ?_ | refine hC.iinc [] rfl rfl rfl rfl (by first | omega | (simp only [Int.reduceToNat] at *; omega)) ?_ | refine hC.pfw (W := cx_R) [] rfl rfl rfl rfl rfl rfl ?_ ?_ | refine hC.iaw (W := cx_R) [] rfl rfl rfl rfl ?_ ?_ | refine hC.law (W := cx_R) [] rfl rfl rfl rfl ?_ ?_ | refine hC.cpw (W := cx_R) [] rfl rfl rfl rfl rfl rfl ?_ | refine hC.cpl (W := cx_R) [] rfl rfl rfl rfl rfl rfl ?_ | refine hC.go [] _ rfl rfl ?_ | (intro h; first | exact (h rfl).elim | (exfalso; cases h; done) | (dsimp only [kk_cP, kk_cN] at h) | skip) | (refine hC.same (rr_xReserved l _ _ _) rfl rfl rfl rfl (Nat.le_refl _) ?_; rintro rs w' ⟨rfl, y, rfl, hy⟩)
    all_goals first | exact ⟨_, _, rfl, rfl, rfl, hf.up (by omega), L, D, _, _, hr, he, Or.inr ⟨by omega, h6, Or.inr ⟨by omega, rfl⟩⟩⟩ | exact ⟨_, _, rfl, rfl, rfl, hf.up (by omega), L, D, _, _, hr, he, Or.inr ⟨by omega, h6, Or.inl ⟨by omega, by omega, rfl, rfl⟩⟩⟩ | exact ⟨_, _, rfl, rfl, rfl, (hf.up (b := 3) (by omega)).up (by omega), L, D, _, _, hr, he, Or.inl ⟨by omega, by omega, rfl, rfl, hy⟩⟩ | omega
  have k27 : ∀ (n : Nat) (i : Int) (L : Int) (D : Int) (f : Nat) (O1 : Nat → Nat → Int), (940 - i).toNat < n → (O 0 4 ≤ i ∧ i ≤ O 2 1) → (rx_f O O1) → (O1 0 6 = O 0 6) → (O1 0 5 = i) → (rq (rx_a O A) (O 0 4) i L D (O1 0 7) (O1 0 8)) → ((f : Int) = 940 - (i - O 0 4)) → (tk_en (rx_a O A) f i = tk_en (rx_a O A) 940 (O 0 4)) → K 27 [(0, (4, 0)), (1, (0, L)), (2, (0, D)), (3, (0, i))] [] (cx_R O1 A) := by
    intro n
    induction n with
    | zero => intro i L D f O1 hz; exact absurd hz (Nat.not_lt_zero _)
    | succ n ih =>
      intro i L D f O1 hn g0 hf h6 h5 hr hu he
      have e2 : O1 2 = O 2 := hf.1 2 (by decide)
      have e1 : O1 2 1 = O 2 1 := congrFun e2 1
      have ra : ∀ j, tt_v 940 (O1 2 1) (A 3) j = rx_a O A j := fun j => by rw [e1]; rfl
      have k122 : ∀ (L D : Int) (O1 : Nat → Nat → Int), i < O 2 1 → tk_an (rx_a O A i) = true → rx_f O O1 → O1 0 6 = O 0 6 → rq (rx_a O A) (O 0 4) (i + 1) L D (O1 0 7) (O1 0 8) → K 122 [(0, (4, 0)), (1, (0, L)), (2, (0, D)), (3, (0, i))] [] (cx_R O1 A) := by
        intro L D O1 hi ha hf h6 hr
        obtain ⟨f', rfl⟩ : ∃ f', f = f' + 1 := ⟨f - 1, by omega⟩
        repeat' first | refine hC.gw [27] _ rfl rfl ?_ | refine And.intro ?_ ?_ | exact True.intro | refine hC.iadd [27] rfl rfl (by first | omega | (simp only [Int.reduceToNat] at *; omega)) ?_ | refine hC.isub [27] rfl rfl (by first | omega | (simp only [Int.reduceToNat] at *; omega)) ?_ | refine hC.imul [27] rfl rfl (by first | omega | (simp only [Int.reduceToNat] at *; omega)) ?_ | refine hC.iinc [27] rfl rfl rfl rfl (by first | omega | (simp only [Int.reduceToNat] at *; omega)) ?_ | refine hC.pfw (W := cx_R) [27] rfl rfl rfl rfl rfl rfl ?_ ?_ | refine hC.iaw (W := cx_R) [27] rfl rfl rfl rfl ?_ ?_ | refine hC.law (W := cx_R) [27] rfl rfl rfl rfl ?_ ?_ | refine hC.cpw (W := cx_R) [27] rfl rfl rfl rfl rfl rfl ?_ | refine hC.cpl (W := cx_R) [27] rfl rfl rfl rfl rfl rfl ?_ | refine hC.go [27] _ rfl rfl ?_ | (intro h; first | exact (h rfl).elim | (exfalso; cases h; done) | (dsimp only [kk_cP, kk_cN] at h) | skip)
        all_goals first | omega | exact hC.sub [(0, (4, 0)), (1, (0, _)), (2, (0, _)), (3, (0, _))] ⟨rfl, rfl, rfl, rfl, trivial⟩ (ih _ _ _ f' _ (by omega) (by omega) (hf.up (by omega)) h6 rfl hr (by omega) (by rw [← he]; exact (tk_en_y ha).symm))
      have k56 : ∀ c : Int, i < O 2 1 → c = rx_a O A i → tk_lt c = true → K 56 [(0, (4, 0)), (1, (0, L)), (2, (0, D)), (3, (0, i)), (4, (0, c))] [] (cx_R O1 A) := by
        intro c hi hc hlt
        subst hc
        have hnm := (hr.2.2.2.2.2.2.2.1).lt
        have hcc := tk_lt_t.mp hlt
        have r := rq_L hr hlt
        have hl1 := hr.1
        have han : tk_an (rx_a O A i) = true := by unfold tk_an; rw [hlt]; rfl
        repeat' first | refine hC.gw [122] _ rfl rfl ?_ | refine And.intro ?_ ?_ | exact True.intro | refine hC.iadd [122] rfl rfl (by first | omega | (simp only [Int.reduceToNat] at *; omega)) ?_ | refine hC.isub [122] rfl rfl (by first | omega | (simp only [Int.reduceToNat] at *; omega)) ?_ | refine hC.imul [122] rfl rfl (by first | omega | (simp only [Int.reduceToNat] at *; omega)) ?_ | refine hC.iinc [122] rfl rfl rfl rfl (by first | omega | (simp only [Int.reduceToNat] at *; omega)) ?_ | refine hC.pfw (W := cx_R) [122] rfl rfl rfl rfl rfl rfl ?_ ?_ | refine hC.iaw (W := cx_R) [122] rfl rfl rfl rfl ?_ ?_ | refine hC.law (W := cx_R) [122] rfl rfl rfl rfl ?_ ?_ | refine hC.cpw (W := cx_R) [122] rfl rfl rfl rfl rfl rfl ?_ | refine hC.cpl (W := cx_R) [122] rfl rfl rfl rfl rfl rfl ?_ | refine hC.go [122] _ rfl rfl ?_ | (intro h; first | exact (h rfl).elim | (exfalso; cases h; done) | (dsimp only [kk_cP, kk_cN] at h) | skip) | (refine hC.call (rr_xLet l _ _ _ (by omega) (by omega)) [] rfl rfl rfl rfl rfl rfl trivial (Nat.le_refl _) ?_; rintro rs w' ⟨rfl, rfl⟩)
        all_goals first | omega | skip
        · rw [if_neg (by omega)] at r
          exact hC.sub [(0, (4, 0)), (1, (0, _)), (2, (0, _)), (3, (0, _))] ⟨rfl, rfl, rfl, rfl, trivial⟩ (k122 (L + 1) D _ hi han (hf.up (by omega)) h6 r)
        · rw [if_pos (by omega)] at r
          exact hC.sub [(0, (4, 0)), (1, (0, _)), (2, (0, _)), (3, (0, _))] ⟨rfl, rfl, rfl, rfl, trivial⟩ (k122 (L + 1) D _ hi han (hf.up (by omega)) h6 r)
      have k93 : ∀ c : Int, i < O 2 1 → c = rx_a O A i → tk_dg c = true → K 93 [(0, (4, 0)), (1, (0, L)), (2, (0, D)), (3, (0, i)), (4, (0, c))] [] (cx_R O1 A) := by
        intro c hi hc hdg
        subst hc
        have hnu := (hr.2.2.2.2.2.2.2.2).lt
        have hcc := tk_dg_t.mp hdg
        have r := rq_D hr hdg
        have hl1 := hr.1
        have han : tk_an (rx_a O A i) = true := by unfold tk_an; rw [hdg, Bool.or_true]
        repeat' first | refine hC.gw [122] _ rfl rfl ?_ | refine And.intro ?_ ?_ | exact True.intro | refine hC.iadd [122] rfl rfl (by first | omega | (simp only [Int.reduceToNat] at *; omega)) ?_ | refine hC.isub [122] rfl rfl (by first | omega | (simp only [Int.reduceToNat] at *; omega)) ?_ | refine hC.imul [122] rfl rfl (by first | omega | (simp only [Int.reduceToNat] at *; omega)) ?_ | refine hC.iinc [122] rfl rfl rfl rfl (by first | omega | (simp only [Int.reduceToNat] at *; omega)) ?_ | refine hC.pfw (W := cx_R) [122] rfl rfl rfl rfl rfl rfl ?_ ?_ | refine hC.iaw (W := cx_R) [122] rfl rfl rfl rfl ?_ ?_ | refine hC.law (W := cx_R) [122] rfl rfl rfl rfl ?_ ?_ | refine hC.cpw (W := cx_R) [122] rfl rfl rfl rfl rfl rfl ?_ | refine hC.cpl (W := cx_R) [122] rfl rfl rfl rfl rfl rfl ?_ | refine hC.go [122] _ rfl rfl ?_ | (intro h; first | exact (h rfl).elim | (exfalso; cases h; done) | (dsimp only [kk_cP, kk_cN] at h) | skip)
        all_goals first | omega | skip
        · rw [if_neg (by omega)] at r
          exact hC.sub [(0, (4, 0)), (1, (0, _)), (2, (0, _)), (3, (0, _))] ⟨rfl, rfl, rfl, rfl, trivial⟩ (k122 L (D + 1) _ hi han (hf.up (by omega)) h6 r)
        · rw [if_pos (by omega)] at r
          exact hC.sub [(0, (4, 0)), (1, (0, _)), (2, (0, _)), (3, (0, _))] ⟨rfl, rfl, rfl, rfl, trivial⟩ (k122 L (D + 1) _ hi han (hf.up (by omega)) h6 r)
      refine hC.go [] _ rfl rfl ?_
      repeat' first | refine hC.gw [27, 56, 93, 135] _ rfl rfl ?_ | refine And.intro ?_ ?_ | exact True.intro | refine hC.iadd [27, 56, 93, 135] rfl rfl (by first | omega | (simp only [Int.reduceToNat] at *; omega)) ?_ | refine hC.isub [27, 56, 93, 135] rfl rfl (by first | omega | (simp only [Int.reduceToNat] at *; omega)) ?_ | refine hC.imul [27, 56, 93, 135] rfl rfl (by first | omega | (simp only [Int.reduceToNat] at *; omega)) ?_ | refine hC.iinc [27, 56, 93, 135] rfl rfl rfl rfl (by first | omega | (simp only [Int.reduceToNat] at *; omega)) ?_ | refine hC.pfw (W := cx_R) [27, 56, 93, 135] rfl rfl rfl rfl rfl rfl ?_ ?_ | refine hC.iaw (W := cx_R) [27, 56, 93, 135] rfl rfl rfl rfl ?_ ?_ | refine hC.law (W := cx_R) [27, 56, 93, 135] rfl rfl rfl rfl ?_ ?_ | refine hC.cpw (W := cx_R) [27, 56, 93, 135] rfl rfl rfl rfl rfl rfl ?_ | refine hC.cpl (W := cx_R) [27, 56, 93, 135] rfl rfl rfl rfl rfl rfl ?_ | refine hC.go [27, 56, 93, 135] _ rfl rfl ?_ | (intro h; first | exact (h rfl).elim | (exfalso; cases h; done) | (dsimp only [kk_cP, kk_cN] at h) | skip) | (refine hC.rd ce_R_T (tt_at l _ _ _ _) rfl rfl rfl rfl rfl rfl (Nat.le_refl _) ?_; rintro rs rfl) | (refine hC.call (rr_xLetter l _ _) [] rfl rfl rfl rfl rfl rfl trivial (Nat.le_refl _) ?_; rintro rs w' ⟨rfl, ⟨rfl, hlt⟩ | ⟨rfl, hlt⟩⟩) | (refine hC.call (rr_xDigit l _ _) [] rfl rfl rfl rfl rfl rfl trivial (Nat.le_refl _) ?_; rintro rs w' ⟨rfl, ⟨rfl, hdg⟩ | ⟨rfl, hdg⟩⟩)
      · have hna : tk_an (rx_a O A i) = false := by
          have e : rx_a O A i = -1 := if_neg (by omega)
          rw [e]
          rfl
        exact hC.sub [(0, (4, 0)), (1, (0, L)), (2, (0, D))] ⟨rfl, rfl, rfl, trivial⟩ (k135 L D O1 hf h6 (by rw [h5]; exact hr) (by rw [h5, ← he]; exact (tk_en_n hna).symm))
      · exact hC.sub [(0, (4, 0)), (1, (0, L)), (2, (0, D)), (3, (0, i)), (4, (0, _))] ⟨rfl, rfl, rfl, rfl, rfl, trivial⟩ (k56 _ (by omega) (ra i) hlt)
      · exact hC.sub [(0, (4, 0)), (1, (0, L)), (2, (0, D)), (3, (0, i)), (4, (0, _))] ⟨rfl, rfl, rfl, rfl, rfl, trivial⟩ (k93 _ (by omega) (ra i) hdg)
      · have hna : tk_an (rx_a O A i) = false := by
          rw [← ra i]
          unfold tk_an
          rw [show tk_lt (tt_v 940 (O1 2 1) (A 3) i) = false from hlt, show tk_dg (tt_v 940 (O1 2 1) (A 3) i) = false from hdg]
          rfl
        exact hC.sub [(0, (4, 0)), (1, (0, L)), (2, (0, D))] ⟨rfl, rfl, rfl, trivial⟩ (k135 L D O1 hf h6 (by rw [h5]; exact hr) (by rw [h5, ← he]; exact (tk_en_n hna).symm))
  have k27s : ∀ (O1 : Nat → Nat → Int), rx_f O O1 → O1 0 6 = O 0 6 → O1 0 7 = 0 → O1 0 8 = 0 → K 14 [(0, (4, 0)), (1, (0, 0)), (2, (0, 0))] [] (cx_R O1 A) := by
    intro O1 hf h6 h7 h8
    have e4 : O1 0 4 = O 0 4 := hf.2 4 (by decide) (by decide) (by decide) (by decide) (by decide)
    repeat' first | refine hC.gw [27] _ rfl rfl ?_ | refine And.intro ?_ ?_ | exact True.intro | refine hC.iadd [27] rfl rfl (by first | omega | (simp only [Int.reduceToNat] at *; omega)) ?_ | refine hC.isub [27] rfl rfl (by first | omega | (simp only [Int.reduceToNat] at *; omega)) ?_ | refine hC.imul [27] rfl rfl (by first | omega | (simp only [Int.reduceToNat] at *; omega)) ?_ | refine hC.iinc [27] rfl rfl rfl rfl (by first | omega | (simp only [Int.reduceToNat] at *; omega)) ?_ | refine hC.pfw (W := cx_R) [27] rfl rfl rfl rfl rfl rfl ?_ ?_ | refine hC.iaw (W := cx_R) [27] rfl rfl rfl rfl ?_ ?_ | refine hC.law (W := cx_R) [27] rfl rfl rfl rfl ?_ ?_ | refine hC.cpw (W := cx_R) [27] rfl rfl rfl rfl rfl rfl ?_ | refine hC.cpl (W := cx_R) [27] rfl rfl rfl rfl rfl rfl ?_ | refine hC.go [27] _ rfl rfl ?_ | (intro h; first | exact (h rfl).elim | (exfalso; cases h; done) | (dsimp only [kk_cP, kk_cN] at h) | skip)
    exact hC.sub [(0, (4, 0)), (1, (0, 0)), (2, (0, 0)), (3, (0, O1 0 4))] ⟨rfl, rfl, rfl, rfl, trivial⟩ (k27 _ (O1 0 4) 0 0 940 _ (Nat.lt_succ_self _) (by omega) (hf.up (by omega)) h6 rfl (by show rq (rx_a O A) (O 0 4) (O1 0 4) 0 0 (O1 0 7) (O1 0 8); rw [e4, h7, h8]; exact rq_0 _ _) (by omega) (by rw [e4]))
  repeat' first | refine hC.gw [14] _ rfl rfl ?_ | refine And.intro ?_ ?_ | exact True.intro | refine hC.iadd [14] rfl rfl (by first | omega | (simp only [Int.reduceToNat] at *; omega)) ?_ | refine hC.isub [14] rfl rfl (by first | omega | (simp only [Int.reduceToNat] at *; omega)) ?_ | refine hC.imul [14] rfl rfl (by first | omega | (simp only [Int.reduceToNat] at *; omega)) ?_ | refine hC.iinc [14] rfl rfl rfl rfl (by first | omega | (simp only [Int.reduceToNat] at *; omega)) ?_ | refine hC.pfw (W := cx_R) [14] rfl rfl rfl rfl rfl rfl ?_ ?_ | refine hC.iaw (W := cx_R) [14] rfl rfl rfl rfl ?_ ?_ | refine hC.law (W := cx_R) [14] rfl rfl rfl rfl ?_ ?_ | refine hC.cpw (W := cx_R) [14] rfl rfl rfl rfl rfl rfl ?_ | refine hC.cpl (W := cx_R) [14] rfl rfl rfl rfl rfl rfl ?_ | refine hC.go [14] _ rfl rfl ?_ | (intro h; first | exact (h rfl).elim | (exfalso; cases h; done) | (dsimp only [kk_cP, kk_cN] at h) | skip)
  exact hC.sub [(0, (4, 0)), (1, (0, 0)), (2, (0, 0))] ⟨rfl, rfl, rfl, trivial⟩ (k27s _ ((show rx_f O O from ⟨fun _ _ => rfl, fun _ _ _ _ _ _ => rfl⟩).up (b := 7) (by omega) |>.up (b := 8) (by omega)) rfl rfl rfl)
