/-! SETS OF DEEDS: bits; what must be done is not barred -/
theorem i32_or0 {x y : Int32} : (x ||| y) = 0 ↔ x = 0 ∧ y = 0 := by
  rw [← Int32.toBitVec_inj, ← Int32.toBitVec_inj, ← Int32.toBitVec_inj]
  show x.toBitVec ||| y.toBitVec = 0#32 ↔ x.toBitVec = 0#32 ∧ y.toBitVec = 0#32
  exact BitVec.or_eq_zero_iff
theorem i32_t0 {x : Int32} : x.toInt = 0 ↔ x = 0 := by
  constructor
  · intro h; exact Int32.toInt_inj.mp h
  · intro h; rw [h]; rfl
/-- the deed y stands in the set w -/
abbrev bgt (w y : Int) : Prop := kk_i2 3 (kk_i2 8 w y) 1 ≠ 0
theorem bt_t0 : ∀ w : Nat, w < 256 → ∀ y : Nat, y < 8 → (kk_i2 3 (kk_i2 8 (w : Int) (y : Int)) 1 ≠ 0 ↔ w.testBit y = true) ∧ (kk_i2 3 (w : Int) (kk_i2 6 1 (y : Int)) = 0 ↔ w.testBit y = false) ∧ kk_i2 3 (kk_i2 8 (w : Int) (y : Int)) 1 = ((w.testBit y).toNat : Int) := by decide +kernel
theorem bt_p0 : ∀ y : Nat, y < 8 → kk_i2 6 1 (y : Int) = ((2 ^ y : Nat) : Int) := by decide +kernel
theorem bgt_or {u v y : Int} (hu : 0 ≤ u ∧ u < 256) (hv : 0 ≤ v ∧ v < 256) (hy : 0 ≤ y ∧ y < 8) : bgt (kk_i2 4 u v) y ↔ bgt u y ∨ bgt v y := by
  obtain ⟨a, rfl⟩ := Int.eq_ofNat_of_zero_le hu.1
  obtain ⟨b, rfl⟩ := Int.eq_ofNat_of_zero_le hv.1
  obtain ⟨c, rfl⟩ := Int.eq_ofNat_of_zero_le hy.1
  have h8 := Nat.or_lt_two_pow (n := 8) (x := a) (y := b) (by omega) (by omega)
  unfold bgt
  rw [bt_or a b (by omega) (by omega), (bt_t0 _ h8 c (by omega)).1, (bt_t0 a (by omega) c (by omega)).1, (bt_t0 b (by omega) c (by omega)).1, Nat.testBit_or, Bool.or_eq_true]
theorem bgt_one {z y : Int} (hz : 0 ≤ z ∧ z < 8) (hy : 0 ≤ y ∧ y < 8) : bgt (kk_i2 6 1 z) y ↔ z = y := by
  obtain ⟨b, rfl⟩ := Int.eq_ofNat_of_zero_le hz.1
  obtain ⟨c, rfl⟩ := Int.eq_ofNat_of_zero_le hy.1
  have h8 : 2 ^ b < 256 := Nat.pow_lt_pow_right (by decide) (show b < 8 by omega)
  unfold bgt
  rw [bt_p0 b (by omega), (bt_t0 _ h8 c (by omega)).1, Nat.testBit_two_pow, decide_eq_true_eq]
  omega
theorem bgt_mask {w y : Int} (hw : 0 ≤ w ∧ w < 256) (hy : 0 ≤ y ∧ y < 8) : kk_i2 3 w (kk_i2 6 1 y) = 0 ↔ ¬ bgt w y := by
  obtain ⟨a, rfl⟩ := Int.eq_ofNat_of_zero_le hw.1
  obtain ⟨c, rfl⟩ := Int.eq_ofNat_of_zero_le hy.1
  unfold bgt
  have q := bt_t0 a (by omega) c (by omega)
  rw [q.2.1, q.1]
  cases Nat.testBit a c <;> simp
-- as a number
theorem bgt_num {w y : Int} (hw : 0 ≤ w ∧ w < 256) (hy : 0 ≤ y ∧ y < 8) : kk_i2 3 (kk_i2 8 w y) 1 = if bgt w y then 1 else 0 := by
  obtain ⟨a, rfl⟩ := Int.eq_ofNat_of_zero_le hw.1
  obtain ⟨c, rfl⟩ := Int.eq_ofNat_of_zero_le hy.1
  have q := bt_t0 a (by omega) c (by omega)
  by_cases h : bgt (a : Int) (c : Int)
  · rw [if_pos h, q.2.2, q.1.mp h]; rfl
  · rw [if_neg h]
    exact Classical.not_not.mp h
theorem kk_and_or (w x y : Int) : kk_i2 3 w (kk_i2 4 x y) = 0 ↔ kk_i2 3 w x = 0 ∧ kk_i2 3 w y = 0 := by
  show (Int32.ofInt w &&& Int32.ofInt (Int32.ofInt x ||| Int32.ofInt y).toInt).toInt = 0 ↔ (Int32.ofInt w &&& Int32.ofInt x).toInt = 0 ∧ (Int32.ofInt w &&& Int32.ofInt y).toInt = 0
  rw [Int32.ofInt_toInt, i32_t0, i32_t0, i32_t0, ← i32_or0]
  have e : Int32.ofInt w &&& (Int32.ofInt x ||| Int32.ofInt y) = (Int32.ofInt w &&& Int32.ofInt x) ||| (Int32.ofInt w &&& Int32.ofInt y) := Int32.toBitVec_inj.mp BitVec.and_or_distrib_left
  rw [e]
theorem kk_and_z (w : Int) : kk_i2 3 w 0 = 0 := by
  show (Int32.ofInt w &&& Int32.ofInt 0).toInt = 0
  rw [i32_t0]
  exact Int32.toBitVec_inj.mp BitVec.and_zero
/-- no deed both must be done and is barred, by one chapter -/
def dj (m b : Nat → Int) : Prop := ∀ j : Nat, j < 10 → ∀ y : Int, 0 ≤ y ∧ y < 8 → bgt (b j) y → ¬ bgt (m j) y
theorem dj.eq {m b m' b' : Nat → Int} (h : dj m b) (e : ∀ j, j < 10 → m' j = m j ∧ b' j = b j) : dj m' b' := by
  intro j hj y hy
  rw [(e j hj).1, (e j hj).2]
  exact h j hj y hy
/-- of a house that is being read -/
def dr (A : Nat → Nat → Int) : Prop := hh_c A ∧ (∀ j : Nat, j < 10 → (0 ≤ A 4 j ∧ A 4 j < 256) ∧ 0 ≤ A 5 j ∧ A 5 j < 256) ∧ dj (A 4) (A 5)
section DR
variable {T : Int → Nat → Int} {N : Int → Int} {c : Int} {o : Nat → Int} {A : Nat → Nat → Int} {s : sp_S}
theorem dr.new0 (h : dr A) (f : Nat → Int) (h0 : A 1 0 < 8) : dr (mm_up (mm_up A 2 f) 1 (kk_up (A 1) 0 (A 1 0 + 1))) := by
  obtain ⟨⟨⟨a1, a2⟩, ⟨b1, b2⟩, c1, c2⟩, h2, h3⟩ := h
  exact ⟨⟨(show 0 ≤ A 1 0 + 1 ∧ A 1 0 + 1 ≤ 8 by omega), ⟨b1, b2⟩, c1, c2⟩, h2, h3⟩
theorem dr.new1 (h : dr A) (f : Nat → Int) (h0 : A 1 1 < 4) : dr (mm_up (mm_up A 2 f) 1 (kk_up (A 1) 1 (A 1 1 + 1))) := by
  obtain ⟨⟨⟨a1, a2⟩, ⟨b1, b2⟩, c1, c2⟩, h2, h3⟩ := h
  exact ⟨⟨⟨a1, a2⟩, (show 0 ≤ A 1 1 + 1 ∧ A 1 1 + 1 ≤ 4 by omega), c1, c2⟩, h2, h3⟩
theorem dr.new2 (h : dr A) (f : Nat → Int) (h0 : A 1 2 < 10) : dr (mm_up (mm_up A 2 f) 1 (kk_up (A 1) 2 (A 1 2 + 1))) := by
  obtain ⟨⟨⟨a1, a2⟩, ⟨b1, b2⟩, c1, c2⟩, h2, h3⟩ := h
  exact ⟨⟨⟨a1, a2⟩, ⟨b1, b2⟩, (show 0 ≤ A 1 2 + 1 ∧ A 1 2 + 1 ≤ 10 by omega)⟩, h2, h3⟩
theorem dr.arr (h : dr A) (f : Nat → Int) {k : Nat} (hk : k = 2 ∨ k = 3 ∨ k = 6) : dr (mm_up A k f) := by
  obtain ⟨h1, h2, h3⟩ := h
  rcases hk with rfl | rfl | rfl
  · exact ⟨h1, h2, h3⟩
  · exact ⟨h1, h2, h3⟩
  · exact ⟨h1, h2, h3⟩
theorem dr.rule (h : dr A) {x : Nat} {y : Int} (hy : 0 ≤ y ∧ y < 8) (hb : ¬ sp_bit (A 4 x) (A 5 x) y) {k : Nat} (hk : k = 4 ∨ k = 5) (hx : x < 10) : dr (mm_up A k (kk_up (A k) x (kk_i2 4 (A k x) (kk_i2 6 1 y)))) := by
  obtain ⟨h1, h2, h3⟩ := h
  have r1 : 0 ≤ kk_i2 6 1 y ∧ kk_i2 6 1 y < 256 := by
    have := bt_shl y.toNat (by omega)
    rw [show ((y.toNat : Nat) : Int) = y by omega] at this
    exact this
  have hq := h2 x hx
  have hb' : ¬ bgt (A 4 x) y ∧ ¬ bgt (A 5 x) y := by
    have q := (bgt_or hq.1 hq.2 hy).mpr
    exact ⟨fun g => hb (q (Or.inl g)), fun g => hb (q (Or.inr g))⟩
  rcases hk with rfl | rfl
  · refine ⟨h1, fun j hj => ⟨?_, (h2 j hj).2⟩, fun j hj z hz => ?_⟩
    · show 0 ≤ kk_up (A 4) x _ j ∧ kk_up (A 4) x _ j < 256
      by_cases e : j = x
      · subst e; rw [kk_up_eq]; exact bt_add hq.1 hy
      · rw [kk_up_ne e]; exact (h2 j hj).1
    · show bgt (A 5 j) z → ¬ bgt (kk_up (A 4) x _ j) z
      by_cases e : j = x
      · subst e
        rw [kk_up_eq]
        intro g g2
        rcases (bgt_or hq.1 r1 hz).mp g2 with g2 | g2
        · exact h3 j hj z hz g g2
        · rw [← (bgt_one hy hz).mp g2] at g
          exact hb'.2 g
      · rw [kk_up_ne e]; exact h3 j hj z hz
  · refine ⟨h1, fun j hj => ⟨(h2 j hj).1, ?_⟩, fun j hj z hz => ?_⟩
    · show 0 ≤ kk_up (A 5) x _ j ∧ kk_up (A 5) x _ j < 256
      by_cases e : j = x
      · subst e; rw [kk_up_eq]; exact bt_add hq.2 hy
      · rw [kk_up_ne e]; exact (h2 j hj).2
    · show bgt (kk_up (A 5) x _ j) z → ¬ bgt (A 4 j) z
      by_cases e : j = x
      · subst e
        rw [kk_up_eq]
        intro g g2
        rcases (bgt_or hq.2 r1 hz).mp g with g | g
        · exact h3 j hj z hz g g2
        · rw [← (bgt_one hy hz).mp g] at g2
          exact hb'.1 g2
      · rw [kk_up_ne e]; exact h3 j hj z hz
theorem sp_b_ok {α β : Type} {x : Except (Int × Int) α} {f : α → Except (Int × Int) β} {v : β} (h : sp_b x f = .ok v) : ∃ a, x = .ok a ∧ f a = .ok v := by
  cases x with
  | error e => cases h
  | ok a => exact ⟨a, rfl, h⟩
theorem sp_find_r {s : Nat} {y : Int} (h : sp_find T A s c = .ok y) : 0 ≤ y ∧ y < A 1 s := by
  unfold sp_find at h
  split at h
  · split at h
    · cases h
    · cases h
      rename_i h1 h2
      rcases fi_fi (A 2) (10 * s) (A 1 s) (T c 7) with ⟨g1, g2, -⟩ | ⟨g1, -⟩
      · exact ⟨g1, g2⟩
      · exact absurd g1 h2
  · cases h
theorem sp_new_d {k : Nat} {mx : Int} (hk : (k = 0 ∧ mx = 8) ∨ (k = 1 ∧ mx = 4) ∨ (k = 2 ∧ mx = 10)) (h : sp_new T N k mx c o A = .ok s) (hd : dr A) : dr s.2.2 := by
  unfold sp_new at h
  split at h
  · cases h
  · rename_i h1
    split at h
    · split at h
      · cases h
      · cases h
        rcases hk with ⟨rfl, rfl⟩ | ⟨rfl, rfl⟩ | ⟨rfl, rfl⟩
        · exact hd.new0 _ (by omega)
        · exact hd.new1 _ (by omega)
        · exact hd.new2 _ (by omega)
    · cases h
theorem sp_slips_d (h : sp_slips T N c o A = .ok s) (hd : dr A) : dr s.2.2 := by
  obtain ⟨v, h1, h2⟩ := sp_b_ok h
  cases h2
  exact hd.arr _ (Or.inr (Or.inl rfl))
theorem sp_rule_d {k : Nat} (hk : k = 4 ∨ k = 5) (h : sp_rule T N k c o A = .ok s) (hd : dr A) : dr s.2.2 := by
  obtain ⟨x, h1, h2⟩ := sp_b_ok h
  obtain ⟨y, h3, h4⟩ := sp_b_ok h2
  have x1 := sp_find_r h1
  have y1 := sp_find_r h3
  have hc := hd.1
  have a8 : A 1 0 ≤ 8 := hc.1.2
  have a10 : A 1 2 ≤ 10 := hc.2.2.2
  split at h4
  · cases h4
  · rename_i hb
    cases h4
    exact hd.rule ⟨y1.1, by omega⟩ hb hk (by omega)
theorem sp_work_d (h : sp_work T N c o A = .ok s) (hd : dr A) : dr s.2.2 := by
  obtain ⟨x, h1, h2⟩ := sp_b_ok h
  obtain ⟨y, h3, h4⟩ := sp_b_ok h2
  split at h4
  · cases h4
  · obtain ⟨v, h5, h6⟩ := sp_b_ok h4
    cases h6
    exact hd.arr _ (Or.inr (Or.inr rfl))
theorem sp_line_d (h : sp_line T N c o A = .ok s) (hd : dr A) : dr s.2.2 := by
  unfold sp_line at h
  split at h
  · exact sp_new_d (Or.inl ⟨rfl, rfl⟩) h hd
  split at h
  · exact sp_new_d (Or.inr (Or.inl ⟨rfl, rfl⟩)) h hd
  split at h
  · obtain ⟨s1, h1, h2⟩ := sp_b_ok h
    exact sp_slips_d h2 (sp_new_d (Or.inr (Or.inr ⟨rfl, rfl⟩)) h1 hd)
  split at h
  · exact sp_rule_d (Or.inl rfl) h hd
  split at h
  · exact sp_rule_d (Or.inr rfl) h hd
  split at h
  · exact sp_work_d h hd
  split at h
  · unfold sp_atone at h
    split at h
    · cases h
    · obtain ⟨y, h1, h2⟩ := sp_b_ok h
      cases h2
      exact hd
  split at h
  · unfold sp_once at h
    split at h
    · cases h
    · cases h
      exact hd
  · cases h
theorem sp_lines_d : ∀ {k : Nat} {i c : Int} {o : Nat → Int} {A : Nat → Nat → Int} {r : Int × (Nat → Int) × (Nat → Nat → Int)}, sp_lines T N k i c o A = .ok r → dr A → dr r.2.2
  | 0, _, _, _, _, _, h, _ => by cases h
  | k + 1, i, c, o, A, r, h, hd => by
    unfold sp_lines at h
    split at h
    · cases h
      exact hd
    · obtain ⟨s, h1, h2⟩ := sp_b_ok h
      split at h2
      · exact sp_lines_d h2 (sp_line_d h1 hd)
      · cases h2
theorem hz0.dr {o : Nat → Int} {A : Nat → Nat → Int} (h : hz0 o A) : dr A := by
  obtain ⟨h1, h2, -⟩ := h
  have e : ∀ j, j < 10 → A 4 j = 0 ∧ A 5 j = 0 := fun j hj => ⟨(h2 j hj).2.1, (h2 j hj).2.2⟩
  refine ⟨⟨by rw [h1 0 (by decide)]; decide, by rw [h1 1 (by decide)]; decide, by rw [h1 2 (by decide)]; decide⟩, fun j hj => ?_, fun j hj y hy => ?_⟩
  · rw [(e j hj).1, (e j hj).2]; decide
  · rw [(e j hj).1, (e j hj).2]
    intro g _
    obtain ⟨c, rfl⟩ := Int.eq_ofNat_of_zero_le hy.1
    have q := (bt_t0 0 (by decide) c (by omega)).1.mp g
    rw [Nat.zero_testBit] at q
    cases q
end DR
