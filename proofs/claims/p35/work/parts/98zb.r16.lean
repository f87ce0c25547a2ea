/-! READING, 16: sets of deeds; houses alike -/
theorem bt_or (u v : Nat) (hu : u < 256) (hv : v < 256) : kk_i2 4 (u : Int) (v : Int) = ((u ||| v : Nat) : Int) := by
  show ((Int32.ofInt (u : Int)) ||| (Int32.ofInt (v : Int))).toInt = _
  have e3 : ((Int32.ofInt (u : Int)) ||| (Int32.ofInt (v : Int))) = Int32.ofInt ((u ||| v : Nat) : Int) := by
    apply Int32.toBitVec_inj.mp
    show (BitVec.ofNat 32 u ||| BitVec.ofNat 32 v) = BitVec.ofNat 32 (u ||| v)
    apply BitVec.eq_of_toNat_eq
    have := Nat.or_lt_two_pow (n := 8) hu hv
    simp
  have h8 := Nat.or_lt_two_pow (n := 8) hu hv
  rw [e3]
  exact Int32.toInt_ofInt_of_le (by omega) (by omega)
theorem bt_or_r {u v : Int} (hu : 0 ≤ u ∧ u < 256) (hv : 0 ≤ v ∧ v < 256) : 0 ≤ kk_i2 4 u v ∧ kk_i2 4 u v < 256 := by
  have h8 := Nat.or_lt_two_pow (n := 8) (x := u.toNat) (y := v.toNat) (by omega) (by omega)
  have e := bt_or u.toNat v.toNat (by omega) (by omega)
  rw [show ((u.toNat : Nat) : Int) = u by omega, show ((v.toNat : Nat) : Int) = v by omega] at e
  rw [e]
  omega
theorem bt_shl : ∀ y : Nat, y < 8 → 0 ≤ kk_i2 6 1 (y : Int) ∧ kk_i2 6 1 (y : Int) < 256 := by decide +kernel
theorem bt_has0 : ∀ w : Nat, w < 256 → ∀ y : Nat, y < 8 → (kk_i2 3 (kk_i2 7 (w : Int) (y : Int)) 1 = 1 ↔ kk_i2 3 (kk_i2 8 (w : Int) (y : Int)) 1 ≠ 0) := by decide +kernel
theorem bt_has {w y : Int} (hw : 0 ≤ w ∧ w < 256) (hy : 0 ≤ y ∧ y < 8) : kk_i2 3 (kk_i2 7 w y) 1 = 1 ↔ kk_i2 3 (kk_i2 8 w y) 1 ≠ 0 := by
  have := bt_has0 w.toNat (by omega) y.toNat (by omega)
  rw [show ((w.toNat : Nat) : Int) = w by omega, show ((y.toNat : Nat) : Int) = y by omega] at this
  exact this
theorem bt_add {u y : Int} (hu : 0 ≤ u ∧ u < 256) (hy : 0 ≤ y ∧ y < 8) : 0 ≤ kk_i2 4 u (kk_i2 6 1 y) ∧ kk_i2 4 u (kk_i2 6 1 y) < 256 := by
  have := bt_shl y.toNat (by omega)
  rw [show ((y.toNat : Nat) : Int) = y by omega] at this
  exact bt_or_r hu this
/-- what the class has read of a house (fields o, arrays Ac), and what the reference has (fields F, read r, readName f) -/
def mh (o : Nat → Int) (Ac : Nat → Nat → Int) (F r f : Nat → Int) : Prop := hh_c Ac ∧ (r 0 = Ac 1 0 ∧ r 1 = Ac 1 1 ∧ r 2 = Ac 1 2) ∧ (r 3 = o 6 ∧ r 4 = o 7) ∧ ((F 24 = 0 ∧ o 6 = -1) ∨ (F 24 = 1 ∧ 0 ≤ o 6)) ∧ (∀ j : Nat, j < 10 → r (5 + j) = Ac 3 j ∧ r (15 + j) = Ac 4 j ∧ r (25 + j) = Ac 5 j ∧ (0 ≤ Ac 4 j ∧ Ac 4 j < 256) ∧ 0 ≤ Ac 5 j ∧ Ac 5 j < 256) ∧ (∀ j : Nat, j < 32 → r (35 + j) = Ac 6 j) ∧ nmr (Ac 2) 0 (Ac 1 0) f 0 ∧ nmr (Ac 2) 1 (Ac 1 1) f 8 ∧ nmr (Ac 2) 2 (Ac 1 2) f 12
theorem nmr.add {f2 f : Nat → Int} {s b : Nat} {m x w : Int} (h : nmr f2 s m f b) (h0 : 0 ≤ m) (hx : Nm x w) : nmr (kk_up f2 (10 * s + m.toNat) x) s (m + 1) (kk_up f (b + m.toNat) w) b := by
  intro j hj
  by_cases e : j = m.toNat
  · subst e; rw [kk_up_eq, kk_up_eq]; exact hx
  · rw [kk_up_ne (by omega), kk_up_ne (by omega)]; exact h j (by omega)
theorem nmr.far {f2 f : Nat → Int} {s b i i' : Nat} {m x w : Int} (h : nmr f2 s m f b) (h1 : ∀ j : Nat, (j : Int) < m → 10 * s + j ≠ i) (h2 : ∀ j : Nat, (j : Int) < m → b + j ≠ i') : nmr (kk_up f2 i x) s m (kk_up f i' w) b := by
  intro j hj
  rw [kk_up_ne (h1 j hj), kk_up_ne (h2 j hj)]
  exact h j hj
section
variable {o : Nat → Int} {Ac : Nat → Nat → Int} {F F' r f : Nat → Int}
theorem mh.fl (h : mh o Ac F r f) (e : F' 24 = F 24) : mh o Ac F' r f := by
  obtain ⟨h1, h2, h3, h4, h5⟩ := h
  exact ⟨h1, h2, h3, by rw [e]; exact h4, h5⟩
theorem mh.new0 (h : mh o Ac F r f) {x w : Int} (h8 : Ac 1 0 < 8) (hx : Nm x w) : mh o (mm_up (mm_up Ac 2 (kk_up (Ac 2) (10 * 0 + (Ac 1 0).toNat) x)) 1 (kk_up (Ac 1) 0 (Ac 1 0 + 1))) F (kk_up r 0 (r 0 + 1)) (kk_up f (0 + (Ac 1 0).toNat) w) := by
  obtain ⟨⟨⟨a1, a2⟩, ⟨b1, b2⟩, c1, c2⟩, ⟨e0, e1, e2⟩, ⟨e3, e4⟩, h4, h5, h6, n0, n1, n2⟩ := h
  refine ⟨⟨(show 0 ≤ Ac 1 0 + 1 ∧ Ac 1 0 + 1 ≤ 8 by omega), ⟨b1, b2⟩, c1, c2⟩, ⟨(show r 0 + 1 = Ac 1 0 + 1 by omega), e1, e2⟩, ⟨e3, e4⟩, h4, fun j hj => ?_, fun j hj => ?_, n0.add a1 hx, n1.far (by omega) (by omega), n2.far (by omega) (by omega)⟩
  · rw [kk_up_ne (by omega), kk_up_ne (by omega), kk_up_ne (by omega)]; exact h5 j hj
  · rw [kk_up_ne (by omega)]; exact h6 j hj
theorem mh.new1 (h : mh o Ac F r f) {x w : Int} (h8 : Ac 1 1 < 4) (hx : Nm x w) : mh o (mm_up (mm_up Ac 2 (kk_up (Ac 2) (10 * 1 + (Ac 1 1).toNat) x)) 1 (kk_up (Ac 1) 1 (Ac 1 1 + 1))) F (kk_up r 1 (r 1 + 1)) (kk_up f (8 + (Ac 1 1).toNat) w) := by
  obtain ⟨⟨⟨a1, a2⟩, ⟨b1, b2⟩, c1, c2⟩, ⟨e0, e1, e2⟩, ⟨e3, e4⟩, h4, h5, h6, n0, n1, n2⟩ := h
  refine ⟨⟨⟨a1, a2⟩, (show 0 ≤ Ac 1 1 + 1 ∧ Ac 1 1 + 1 ≤ 4 by omega), c1, c2⟩, ⟨e0, (show r 1 + 1 = Ac 1 1 + 1 by omega), e2⟩, ⟨e3, e4⟩, h4, fun j hj => ?_, fun j hj => ?_, n0.far (by omega) (by omega), n1.add b1 hx, n2.far (by omega) (by omega)⟩
  · rw [kk_up_ne (by omega), kk_up_ne (by omega), kk_up_ne (by omega)]; exact h5 j hj
  · rw [kk_up_ne (by omega)]; exact h6 j hj
/-- a chapter and its slips -/
theorem mh.new2 (h : mh o Ac F r f) {x w v : Int} (h8 : Ac 1 2 < 10) (hx : Nm x w) : mh o (mm_up (mm_up (mm_up Ac 2 (kk_up (Ac 2) (10 * 2 + (Ac 1 2).toNat) x)) 1 (kk_up (Ac 1) 2 (Ac 1 2 + 1))) 3 (kk_up (Ac 3) (Ac 1 2 + 1 - 1).toNat v)) F (kk_up (kk_up r (5 + Ac 1 2).toNat v) 2 (r 2 + 1)) (kk_up f (12 + (Ac 1 2).toNat) w) := by
  obtain ⟨⟨⟨a1, a2⟩, ⟨b1, b2⟩, c1, c2⟩, ⟨e0, e1, e2⟩, ⟨e3, e4⟩, h4, h5, h6, n0, n1, n2⟩ := h
  have k1 : ∀ j : Nat, j < 5 → j ≠ 2 → kk_up (kk_up r (5 + Ac 1 2).toNat v) 2 (r 2 + 1) j = r j := fun j hj h2 => by rw [kk_up_ne h2, kk_up_ne (by omega)]
  refine ⟨⟨⟨a1, a2⟩, ⟨b1, b2⟩, (show 0 ≤ Ac 1 2 + 1 ∧ Ac 1 2 + 1 ≤ 10 by omega)⟩, ⟨?_, ?_, (show r 2 + 1 = Ac 1 2 + 1 by omega)⟩, ⟨?_, ?_⟩, h4, fun j hj => ?_, fun j hj => ?_, n0.far (by omega) (by omega), n1.far (by omega) (by omega), n2.add c1 hx⟩
  · rw [k1 0 (by decide) (by decide)]; exact e0
  · rw [k1 1 (by decide) (by decide)]; exact e1
  · rw [k1 3 (by decide) (by decide)]; exact e3
  · rw [k1 4 (by decide) (by decide)]; exact e4
  · obtain ⟨q1, q2, q3, q4⟩ := h5 j hj
    rw [kk_up_ne (show 5 + j ≠ 2 by omega), kk_up_ne (show 15 + j ≠ 2 by omega), kk_up_ne (show 25 + j ≠ 2 by omega), kk_up_ne (show 15 + j ≠ (5 + Ac 1 2).toNat by omega), kk_up_ne (show 25 + j ≠ (5 + Ac 1 2).toNat by omega)]
    refine ⟨?_, q2, q3, q4⟩
    show kk_up r (5 + Ac 1 2).toNat v (5 + j) = kk_up (Ac 3) (Ac 1 2 + 1 - 1).toNat v j
    by_cases e : j = (Ac 1 2).toNat
    · rw [show (5 + Ac 1 2).toNat = 5 + j by omega, show (Ac 1 2 + 1 - 1).toNat = j by omega, kk_up_eq, kk_up_eq]
    · rw [kk_up_ne (by omega), kk_up_ne (by omega)]; exact q1
  · rw [kk_up_ne (show 35 + j ≠ 2 by omega), kk_up_ne (by omega)]; exact h6 j hj
theorem mh.rule4 (h : mh o Ac F r f) {x y : Int} (hx : 0 ≤ x ∧ x < 10) (hy : 0 ≤ y ∧ y < 8) : mh o (mm_up Ac 4 (kk_up (Ac 4) x.toNat (kk_i2 4 (Ac 4 x.toNat) (kk_i2 6 1 y)))) F (kk_up r (15 + x).toNat (kk_i2 4 (r (15 + x).toNat) (kk_i2 6 1 y))) f := by
  obtain ⟨h1, ⟨e0, e1, e2⟩, ⟨e3, e4⟩, h4, h5, h6, n⟩ := h
  have ex : (15 + x).toNat = 15 + x.toNat := by omega
  obtain ⟨-, p2, -, p4, -⟩ := h5 x.toNat (by omega)
  have hb := bt_add p4 hy
  rw [ex, p2]
  refine ⟨h1, ⟨?_, ?_, ?_⟩, ⟨?_, ?_⟩, h4, fun j hj => ?_, fun j hj => ?_, n⟩
  · rw [kk_up_ne (by omega)]; exact e0
  · rw [kk_up_ne (by omega)]; exact e1
  · rw [kk_up_ne (by omega)]; exact e2
  · rw [kk_up_ne (by omega)]; exact e3
  · rw [kk_up_ne (by omega)]; exact e4
  · obtain ⟨q1, q2, q3, q4, q5⟩ := h5 j hj
    rw [kk_up_ne (show 5 + j ≠ 15 + x.toNat by omega), kk_up_ne (show 25 + j ≠ 15 + x.toNat by omega)]
    show _ ∧ kk_up r (15 + x.toNat) _ (15 + j) = kk_up (Ac 4) x.toNat _ j ∧ _ ∧ (0 ≤ kk_up (Ac 4) x.toNat _ j ∧ kk_up (Ac 4) x.toNat _ j < 256) ∧ _
    by_cases e : j = x.toNat
    · subst e
      rw [kk_up_eq, kk_up_eq]
      exact ⟨q1, rfl, q3, hb, q5⟩
    · rw [kk_up_ne (show 15 + j ≠ 15 + x.toNat by omega), kk_up_ne e]
      exact ⟨q1, q2, q3, q4, q5⟩
  · rw [kk_up_ne (by omega)]; exact h6 j hj
theorem mh.rule5 (h : mh o Ac F r f) {x y : Int} (hx : 0 ≤ x ∧ x < 10) (hy : 0 ≤ y ∧ y < 8) : mh o (mm_up Ac 5 (kk_up (Ac 5) x.toNat (kk_i2 4 (Ac 5 x.toNat) (kk_i2 6 1 y)))) F (kk_up r (25 + x).toNat (kk_i2 4 (r (25 + x).toNat) (kk_i2 6 1 y))) f := by
  obtain ⟨h1, ⟨e0, e1, e2⟩, ⟨e3, e4⟩, h4, h5, h6, n⟩ := h
  have ex : (25 + x).toNat = 25 + x.toNat := by omega
  obtain ⟨-, -, p3, -, p4⟩ := h5 x.toNat (by omega)
  have hb := bt_add p4 hy
  rw [ex, p3]
  refine ⟨h1, ⟨?_, ?_, ?_⟩, ⟨?_, ?_⟩, h4, fun j hj => ?_, fun j hj => ?_, n⟩
  · rw [kk_up_ne (by omega)]; exact e0
  · rw [kk_up_ne (by omega)]; exact e1
  · rw [kk_up_ne (by omega)]; exact e2
  · rw [kk_up_ne (by omega)]; exact e3
  · rw [kk_up_ne (by omega)]; exact e4
  · obtain ⟨q1, q2, q3, q4, q5⟩ := h5 j hj
    rw [kk_up_ne (show 5 + j ≠ 25 + x.toNat by omega), kk_up_ne (show 15 + j ≠ 25 + x.toNat by omega)]
    show _ ∧ _ ∧ kk_up r (25 + x.toNat) _ (25 + j) = kk_up (Ac 5) x.toNat _ j ∧ _ ∧ 0 ≤ kk_up (Ac 5) x.toNat _ j ∧ kk_up (Ac 5) x.toNat _ j < 256
    by_cases e : j = x.toNat
    · subst e
      rw [kk_up_eq, kk_up_eq]
      exact ⟨q1, q2, rfl, q4, hb⟩
    · rw [kk_up_ne (show 25 + j ≠ 25 + x.toNat by omega), kk_up_ne e]
      exact ⟨q1, q2, q3, q4, q5⟩
  · rw [kk_up_ne (by omega)]; exact h6 j hj
theorem mh.work (h : mh o Ac F r f) {i : Int} {v : Int} (hi : 0 ≤ i ∧ i < 32) : mh o (mm_up Ac 6 (kk_up (Ac 6) i.toNat v)) F (kk_up r (35 + i).toNat v) f := by
  obtain ⟨h1, ⟨e0, e1, e2⟩, ⟨e3, e4⟩, h4, h5, h6, n⟩ := h
  refine ⟨h1, ⟨?_, ?_, ?_⟩, ⟨?_, ?_⟩, h4, fun j hj => ?_, fun j hj => ?_, n⟩
  · rw [kk_up_ne (by omega)]; exact e0
  · rw [kk_up_ne (by omega)]; exact e1
  · rw [kk_up_ne (by omega)]; exact e2
  · rw [kk_up_ne (by omega)]; exact e3
  · rw [kk_up_ne (by omega)]; exact e4
  · rw [kk_up_ne (by omega), kk_up_ne (by omega), kk_up_ne (by omega)]; exact h5 j hj
  · show kk_up r (35 + i).toNat v (35 + j) = kk_up (Ac 6) i.toNat v j
    by_cases e : j = i.toNat
    · rw [show (35 + i).toNat = 35 + j by omega, ← e, kk_up_eq, kk_up_eq]
    · rw [kk_up_ne (by omega), kk_up_ne e]; exact h6 j hj
theorem mh.atone (h : mh o Ac F r f) {y : Int} (hy : 0 ≤ y) (e : F' 24 = 1) : mh (kk_up o 6 y) Ac F' (kk_up r 3 y) f := by
  obtain ⟨h1, h2, ⟨e3, e4⟩, h4, h5, h6, n⟩ := h
  refine ⟨h1, h2, ⟨rfl, e4⟩, Or.inr ⟨e, hy⟩, fun j hj => ?_, fun j hj => ?_, n⟩
  · rw [kk_up_ne (by omega), kk_up_ne (by omega), kk_up_ne (by omega)]; exact h5 j hj
  · rw [kk_up_ne (by omega)]; exact h6 j hj
theorem mh.once (h : mh o Ac F r f) : mh (kk_up o 7 1) Ac F (kk_up r 4 1) f := by
  obtain ⟨h1, h2, ⟨e3, e4⟩, h4, h5, h6, n⟩ := h
  refine ⟨h1, h2, ⟨e3, rfl⟩, h4, fun j hj => ?_, fun j hj => ?_, n⟩
  · rw [kk_up_ne (by omega), kk_up_ne (by omega), kk_up_ne (by omega)]; exact h5 j hj
  · rw [kk_up_ne (by omega)]; exact h6 j hj
end
