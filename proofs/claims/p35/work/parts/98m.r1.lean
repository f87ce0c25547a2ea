/-! READING, 1: names in two codes -/
theorem kk_Ctr.mono {l : Launch} {d : Nat} {t : en_T} {as : List en_V} {w : List kk_C} {Φ Ψ : List en_V → List kk_C → Prop} (h : kk_Ctr l d t as w Φ) (hq : ∀ rs w', Φ rs w' → Ψ rs w') : kk_Ctr l d t as w Ψ := by
  intro kc D A ws tys vs h1 h2 p e ha hc hk s m args below hf happ hP hK
  obtain ⟨n, o, g1, g2, g3, ⟨rs, v, w', ws', hΦ, r⟩, hL⟩ := h kc D A ws tys vs h1 h2 p e ha hc hk s m args below hf happ hP hK
  exact ⟨n, o, g1, g2, g3, ⟨rs, v, w', ws', hq _ _ hΦ, r⟩, hL⟩
def nv (b : Int) (g : Nat → Int) : Nat → Int
  | 0 => 0
  | k + 1 => b * nv b g k + g k
theorem nv_eq {b : Int} {g g' : Nat → Int} : ∀ {k : Nat}, (∀ j, j < k → g j = g' j) → nv b g k = nv b g' k
  | 0, _ => rfl
  | k + 1, h => by
    show b * nv b g k + g k = b * nv b g' k + g' k
    rw [nv_eq (fun j hj => h j (by omega)), h k (by omega)]
theorem nv_nn32 {g : Nat → Int} : ∀ {k : Nat}, (∀ j, j < k → 1 ≤ g j ∧ g j ≤ 26) → 0 ≤ nv 32 g k ∧ (0 < k → 1 ≤ nv 32 g k)
  | 0, _ => ⟨Int.le_refl _, fun h => absurd h (by omega)⟩
  | k + 1, h => by
    have q := (nv_nn32 (k := k) (fun j hj => h j (by omega))).1
    have q2 := h k (by omega)
    show 0 ≤ 32 * nv 32 g k + g k ∧ (0 < k + 1 → 1 ≤ 32 * nv 32 g k + g k)
    omega
theorem nv_nn27 {g : Nat → Int} : ∀ {k : Nat}, (∀ j, j < k → 1 ≤ g j ∧ g j ≤ 26) → 0 ≤ nv 27 g k ∧ (0 < k → 1 ≤ nv 27 g k)
  | 0, _ => ⟨Int.le_refl _, fun h => absurd h (by omega)⟩
  | k + 1, h => by
    have q := (nv_nn27 (k := k) (fun j hj => h j (by omega))).1
    have q2 := h k (by omega)
    show 0 ≤ 27 * nv 27 g k + g k ∧ (0 < k + 1 → 1 ≤ 27 * nv 27 g k + g k)
    omega
theorem nv_inj32 {g g' : Nat → Int} : ∀ {k k' : Nat}, (∀ j, j < k → 1 ≤ g j ∧ g j ≤ 26) → (∀ j, j < k' → 1 ≤ g' j ∧ g' j ≤ 26) → nv 32 g k = nv 32 g' k' → k = k' ∧ ∀ j, j < k → g j = g' j
  | 0, 0, _, _, _ => ⟨rfl, fun j hj => absurd hj (by omega)⟩
  | 0, k' + 1, _, h', e => by
    have q := (nv_nn32 (k := k' + 1) h').2 (by omega)
    rw [← e] at q
    exact absurd (show (1 : Int) ≤ 0 from q) (by decide)
  | k + 1, 0, h, _, e => by
    have q := (nv_nn32 (k := k + 1) h).2 (by omega)
    rw [e] at q
    exact absurd (show (1 : Int) ≤ 0 from q) (by decide)
  | k + 1, k' + 1, h, h', e => by
    have e : 32 * nv 32 g k + g k = 32 * nv 32 g' k' + g' k' := e
    have q := h k (by omega)
    have q' := h' k' (by omega)
    obtain ⟨r1, r2⟩ := nv_inj32 (k := k) (k' := k') (fun j hj => h j (by omega)) (fun j hj => h' j (by omega)) (by omega)
    refine ⟨by omega, fun j hj => ?_⟩
    by_cases hjk : j = k
    · subst hjk
      subst r1
      omega
    · exact r2 j (by omega)
theorem nv_inj27 {g g' : Nat → Int} : ∀ {k k' : Nat}, (∀ j, j < k → 1 ≤ g j ∧ g j ≤ 26) → (∀ j, j < k' → 1 ≤ g' j ∧ g' j ≤ 26) → nv 27 g k = nv 27 g' k' → k = k' ∧ ∀ j, j < k → g j = g' j
  | 0, 0, _, _, _ => ⟨rfl, fun j hj => absurd hj (by omega)⟩
  | 0, k' + 1, _, h', e => by
    have q := (nv_nn27 (k := k' + 1) h').2 (by omega)
    rw [← e] at q
    exact absurd (show (1 : Int) ≤ 0 from q) (by decide)
  | k + 1, 0, h, _, e => by
    have q := (nv_nn27 (k := k + 1) h).2 (by omega)
    rw [e] at q
    exact absurd (show (1 : Int) ≤ 0 from q) (by decide)
  | k + 1, k' + 1, h, h', e => by
    have e : 27 * nv 27 g k + g k = 27 * nv 27 g' k' + g' k' := e
    have q := h k (by omega)
    have q' := h' k' (by omega)
    obtain ⟨r1, r2⟩ := nv_inj27 (k := k) (k' := k') (fun j hj => h j (by omega)) (fun j hj => h' j (by omega)) (by omega)
    refine ⟨by omega, fun j hj => ?_⟩
    by_cases hjk : j = k
    · subst hjk
      subst r1
      omega
    · exact r2 j (by omega)
/-- the same name in the class's code and in the reference's -/
def Nm (x y : Int) : Prop := ∃ (k : Nat) (g : Nat → Int), k ≤ 7 ∧ (∀ j, j < k → 1 ≤ g j ∧ g j ≤ 26) ∧ x = nv 32 g k ∧ y = nv 27 g k
theorem Nm.eq {x y x' y' : Int} (h : Nm x y) (h' : Nm x' y') : x = x' ↔ y = y' := by
  obtain ⟨k, g, -, hg, rfl, rfl⟩ := h
  obtain ⟨k', g', -, hg', rfl, rfl⟩ := h'
  constructor
  · intro e
    obtain ⟨rfl, r⟩ := nv_inj32 hg hg' e
    exact nv_eq r
  · intro e
    obtain ⟨rfl, r⟩ := nv_inj27 hg hg' e
    exact nv_eq r
/-! a letter more -/
theorem tk_bv (n : Nat) (h : n < 9223372036854775808) : (Int64.ofInt (n : Int)).toInt = n := by
  show (BitVec.ofNat 64 n).toInt = n
  rw [BitVec.toInt_eq_toNat_of_lt]
  · simp
    omega
  · simp
    omega
theorem tk_shl (n m : Nat) (hn : n < 1099511627776) (hm : m < 32) : kk_l2 4 (kk_l3 0 (n : Int) 5) (m : Int) = 32 * (n : Int) + (m : Int) := by
  have e5 : ((Int32.ofInt 5).toInt64 &&& 63) = (5 : Int64) := by decide
  have e1 : (Int64.ofInt (n : Int)) <<< (5 : Int64) = Int64.ofInt ((32 * n : Nat) : Int) := by
    apply Int64.toBitVec_inj.mp
    show BitVec.ofNat 64 n <<< 5 = BitVec.ofNat 64 (32 * n)
    apply BitVec.eq_of_toNat_eq
    simp [Nat.shiftLeft_eq]
    rw [Nat.mul_comm]
  have e2 : kk_l3 0 (n : Int) 5 = ((32 * n : Nat) : Int) := by
    show ((Int64.ofInt (n : Int)) <<< ((Int32.ofInt 5).toInt64 &&& 63)).toInt = _
    rw [e5, e1]
    exact tk_bv (32 * n) (by omega)
  rw [e2]
  show ((Int64.ofInt ((32 * n : Nat) : Int)) ||| (Int64.ofInt (m : Int))).toInt = _
  have e3 : ((Int64.ofInt ((32 * n : Nat) : Int)) ||| (Int64.ofInt (m : Int))) = Int64.ofInt ((32 * n + m : Nat) : Int) := by
    apply Int64.toBitVec_inj.mp
    show (BitVec.ofNat 64 (32 * n) ||| BitVec.ofNat 64 m) = BitVec.ofNat 64 (32 * n + m)
    apply BitVec.eq_of_toNat_eq
    simp
    rw [Nat.mod_eq_of_lt (by omega), Nat.mod_eq_of_lt (by omega), Nat.mod_eq_of_lt (by omega)]
    exact (Nat.two_pow_add_eq_or_of_lt (i := 5) hm n).symm
  rw [e3, tk_bv (32 * n + m) (by omega)]
  omega
