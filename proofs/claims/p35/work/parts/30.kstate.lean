/-! THE CALCULUS, 1: worlds whose cells have contents; states; what they say of the machine's.
A cell: kind (0 object, 1 int array, 2 long array, 3 reference array, 4 boolean array), class or length or element class, fields or references, contents of numbers. Values are the engine's: (0, n) an int, (2, n) a long, (4, k) the cell at place k, (5, 0) null, (6, k) a constant, (7, 0) any reference. -/
abbrev kk_C : Type := Nat × Nat × List en_V × (Nat → Int)
def kk_c (kc : Nat → Nat) (ws : va_W) (tys : List (ClassId × FieldType)) (c : kk_C) (e : va_E) : Prop :=
  match c.1 with
  | 0 => ∃ fs : List Value, e = .inr (c.2.1, fs) ∧ en_f2 (en_v kc [] ws) c.2.2.1 fs
  | 1 => ∃ (cA : ClassId) (f : Nat → Int32) (t : Nat), e = .inl (cA, c.2.1, .inl f) ∧ tys[t]? = some (cA, .int) ∧ ∀ j, j < c.2.1 → (f j).toInt = c.2.2.2 j
  | 2 => ∃ (cA : ClassId) (f : Nat → Int64) (t : Nat), e = .inl (cA, c.2.1, .inr (.inl f)) ∧ tys[t]? = some (cA, .long) ∧ ∀ j, j < c.2.1 → (f j).toInt = c.2.2.2 j
  | 3 => ∃ (cA : ClassId) (f : Nat → Option Nat) (t : Nat), e = .inl (cA, c.2.2.1.length, .inr (.inr (.inr (.inr f)))) ∧ tys[t]? = some (cA, .object (en_an c.2.1)) ∧ ∀ (j : Nat) (a : en_V), c.2.2.1[j]? = some a → en_v kc [] ws a (va_rf (f j))
  | 4 => ∃ (cA : ClassId) (f : Nat → Int32) (t : Nat), e = .inl (cA, c.2.1, .inl f) ∧ tys[t]? = some (cA, .boolean) ∧ ∀ j, j < c.2.1 → (f j).toInt = c.2.2.2 j
  | _ => False
theorem kk_c.mono {kc : Nat → Nat} {ws ws' : va_W} {tys : List (ClassId × FieldType)} (h2 : en_le ws ws') {c : kk_C} {e : va_E} (h : kk_c kc ws tys c e) : kk_c kc ws' tys c e := by
  obtain ⟨t, n, fs, g⟩ := c
  unfold kk_c at h ⊢
  dsimp only at h ⊢
  split at h
  · obtain ⟨fs, h4, h5⟩ := h
    exact ⟨fs, h4, en_f2_mono (fun a b => en_v.mono en_pre.rf h2) h5⟩
  · exact h
  · exact h
  · obtain ⟨cA, f, t, h4, h5, h6⟩ := h
    exact ⟨cA, f, t, h4, h5, fun j a ha => en_v.mono en_pre.rf h2 (h6 j a ha)⟩
  · exact h
  · exact h
def kk_w (kc : Nat → Nat) (ws : va_W) (tys : List (ClassId × FieldType)) (w : List kk_C) : Prop :=
  w.length = ws.length ∧ ∀ (k : Nat) (c : kk_C), w[k]? = some c → ∃ (q : Nat) (e : va_E), ws[k]? = some (q, e) ∧ kk_c kc ws tys c e
theorem kk_w.set {kc : Nat → Nat} {ws : va_W} {tys : List (ClassId × FieldType)} {w : List kk_C} (h : kk_w kc ws tys w) {k q : Nat} {e0 e : va_E} {c : kk_C} (hk : ws[k]? = some (q, e0)) (hc : kk_c kc (ws.set k (q, e)) tys c e) : kk_w kc (ws.set k (q, e)) tys (w.set k c) := by
  refine ⟨by rw [List.length_set, List.length_set]; exact h.1, fun i c' hi => ?_⟩
  have hl := (List.getElem?_eq_some_iff.mp hk).1
  by_cases hik : k = i
  · subst hik
    rw [List.getElem?_set_self (by rw [h.1]; exact hl)] at hi
    cases hi
    exact ⟨q, e, List.getElem?_set_self hl, hc⟩
  · rw [List.getElem?_set_ne hik] at hi
    obtain ⟨q', e', h4, h5⟩ := h.2 i c' hi
    exact ⟨q', e', by rw [List.getElem?_set_ne hik]; exact h4, h5.mono (en_le.set hk e)⟩
def kk_R (kc : Nat → Nat) (D : va_G) (A : Nat → Prop) (s : State) (nL : Nat) (ws : va_W) (tys : List (ClassId × FieldType)) (H : Heap) (locs : List Loc) (la : Array Slot) (sv : List Value) (L : en_L) (st : List en_V) (w : List kk_C) : Prop :=
  (∃ lv : List (Nat × Value), lv_has la nL lv ∧ en_f2 (en_lv kc [] ws) L lv) ∧ en_f2 (en_v kc [] ws) st sv ∧ kk_w kc ws tys w ∧ va_K D en_cl tys s ∧ va_P D en_cl ws H ∧ va_D A ws ∧ va_S A s.heap H locs
section KKR
variable {kc : Nat → Nat} {D : va_G} {A : Nat → Prop} {s : State} {nL : Nat} {ws : va_W} {tys : List (ClassId × FieldType)} {H : Heap} {locs : List Loc} {la : Array Slot} {sv : List Value} {L : en_L} {st : List en_V} {w : List kk_C}
theorem kk_R.push (h : kk_R kc D A s nL ws tys H locs la sv L st w) {a : en_V} {v : Value} (ha : en_v kc [] ws a v) : kk_R kc D A s nL ws tys H locs la (v :: sv) L (a :: st) w := ⟨h.1, ⟨ha, h.2.1⟩, h.2.2⟩
theorem kk_R.pop {a : en_V} (h : kk_R kc D A s nL ws tys H locs la sv L (a :: st) w) : ∃ (v : Value) (sv' : List Value), sv = v :: sv' ∧ en_v kc [] ws a v ∧ kk_R kc D A s nL ws tys H locs la sv' L st w := by
  obtain ⟨h1, h2, h3⟩ := h
  cases sv with
  | nil => exact h2.elim
  | cons v sv => exact ⟨v, sv, rfl, h2.1, h1, h2.2, h3⟩
theorem kk_R.get (h : kk_R kc D A s nL ws tys H locs la sv L st w) {i : Nat} {a : en_V} (hg : en_get L i = some a) : ∃ v : Value, la[i]? = some (.val v) ∧ en_v kc [] ws a v := by
  obtain ⟨⟨lv, h1, h2⟩, -⟩ := h
  obtain ⟨k, v, h3, h4⟩ := en_get_ok (fun a b q => q.1) h2 hg
  exact ⟨v, lv_at h1 k h3, h4.2⟩
theorem kk_R.sto (h : kk_R kc D A s nL ws tys H locs la sv L st w) {lv : List (Nat × Value)} (h2 : en_f2 (en_lv kc [] ws) L lv) {i : Nat} {a : en_V} {v : Value} (hv : en_v kc [] ws a v) {la' : Array Slot} (hl : lv_has la' nL ((i, v) :: lv.filter (fun q => !(q.1 == i) && !(q.1 + 1 == i && q.2.category == 2)))) : kk_R kc D A s nL ws tys H locs la' sv (en_sto L i a) st w := by
  refine ⟨⟨_, hl, ⟨rfl, hv⟩, en_f2_filter (fun x y q => ?_) h2⟩, h.2⟩
  rw [en_beq, en_beq, q.2.cat, q.1]
theorem kk_R.sto2 (h : kk_R kc D A s nL ws tys H locs la sv L st w) {lv : List (Nat × Value)} (h2 : en_f2 (en_lv kc [] ws) L lv) {i : Nat} {a : en_V} {v : Value} (hv : en_v kc [] ws a v) {la' : Array Slot} (hl : lv_has la' nL ((i, v) :: lv.filter (fun q => !(q.1 == i) && (!(q.1 == i + 1) && !(q.1 + 1 == i && q.2.category == 2))))) : kk_R kc D A s nL ws tys H locs la' sv (en_sto2 L i a) st w := by
  refine ⟨⟨_, hl, ⟨rfl, hv⟩, en_f2_filter (fun x y q => ?_) h2⟩, h.2⟩
  rw [en_beq, en_beq, en_beq, q.2.cat, q.1]
theorem kk_R.heap (h : kk_R kc D A s nL ws tys H locs la sv L st w) {k q : Nat} {e0 e1 : va_E} {cell : kk_C} {H1 : Heap} {locs1 : List Loc} (hk : ws[k]? = some (q, e0)) (hc : kk_c kc (ws.set k (q, e1)) tys cell e1) (hP : va_P D en_cl (ws.set k (q, e1)) H1) (hD : va_D A (ws.set k (q, e1))) (hS : va_S A s.heap H1 locs1) :
    kk_R kc D A s nL (ws.set k (q, e1)) tys H1 locs1 la sv L st (w.set k cell) := by
  obtain ⟨⟨lv, h1, h2⟩, h3, h5, h6, -⟩ := h
  exact ⟨⟨lv, h1, en_f2_mono (fun a b q => ⟨q.1, q.2.mono en_pre.rf (en_le.set hk e1)⟩) h2⟩, en_f2_mono (fun a b => en_v.mono en_pre.rf (en_le.set hk e1)) h3, h5.set hk hc, h6, hP, hD, hS⟩
/-- fewer locals -/
def kk_sub (L' L : en_L) : Prop := match L' with
  | [] => True
  | (i, a) :: r => en_get L i = some a ∧ kk_sub r L
theorem kk_sub_ok {L : en_L} {lv : List (Nat × Value)} (hl : lv_has la nL lv) (h2 : en_f2 (en_lv kc [] ws) L lv) : ∀ {L' : en_L}, kk_sub L' L → ∃ lv', lv_has la nL lv' ∧ en_f2 (en_lv kc [] ws) L' lv'
  | [], _ => ⟨[], ⟨hl.1, hl.2.1, fun q hq => by cases hq⟩, trivial⟩
  | (i, a) :: r, h => by
    obtain ⟨lv', h3, h4⟩ := kk_sub_ok hl h2 h.2
    obtain ⟨k, v, h5, h6⟩ := en_get_ok (fun a b q => q.1) h2 h.1
    refine ⟨(i, v) :: lv', ⟨hl.1, hl.2.1, fun q hq => ?_⟩, h6, h4⟩
    rcases List.mem_cons.mp hq with rfl | hq
    · exact hl.2.2 _ (List.mem_of_getElem? h5)
    · exact h3.2.2 q hq
end KKR
/-- numbers: what an int is, what a long is -/
def kk_i (x : Int) : Prop := -2147483648 ≤ x ∧ x ≤ 2147483647
def kk_l (x : Int) : Prop := -9223372036854775808 ≤ x ∧ x ≤ 9223372036854775807
section KKV
variable {kc : Nat → Nat} {ws : va_W}
theorem kk_v0 {x : Int} {v : Value} (h : en_v kc [] ws (0, x) v) : ∃ y : Int32, v = .int y ∧ y.toInt = x ∧ Int32.ofInt x = y := by
  obtain ⟨y, h1, h2⟩ := h
  have h2 : y.toInt = x := h2
  exact ⟨y, h1, h2, by rw [← h2, Int32.ofInt_toInt]⟩
theorem kk_v2 {x : Int} {v : Value} (h : en_v kc [] ws (2, x) v) : ∃ y : Int64, v = .long y ∧ y.toInt = x ∧ Int64.ofInt x = y := by
  obtain ⟨y, h1, h2⟩ := h
  have h2 : y.toInt = x := h2
  exact ⟨y, h1, h2, by rw [← h2, Int64.ofInt_toInt]⟩
theorem kk_v4 {x : Int} {v : Value} (h : en_v kc [] ws (4, x) v) : ∃ (q : Nat) (e : va_E), v = .ref q ∧ ws[x.toNat]? = some (q, e) := h
theorem kk_v6 {x : Int} {v : Value} (h : en_v kc [] ws (6, x) v) : v = .ref (kc x.toNat) := h
theorem kk_mk0 (y : Int32) : en_v kc [] ws (0, y.toInt) (.int y) := ⟨y, rfl, rfl⟩
theorem kk_mk2 (y : Int64) : en_v kc [] ws (2, y.toInt) (.long y) := ⟨y, rfl, rfl⟩
theorem kk_i_of (y : Int32) : kk_i y.toInt := by
  have h1 := Int32.le_toInt y
  have h2 := Int32.toInt_lt y
  constructor <;> omega
theorem kk_l_of (y : Int64) : kk_l y.toInt := by
  have h1 := Int64.le_toInt y
  have h2 := Int64.toInt_lt y
  constructor <;> omega
end KKV
/-- ints: 0 + 1 - 2 * 3 & 4 | 5 ^ 6 << 7 >> 8 >>> 9 / 10 % -/
def kk_i2 (k : Nat) (x y : Int) : Int := (en_sem k (Int32.ofInt x) (Int32.ofInt y)).toInt
def kk_l2 (k : Nat) (x y : Int) : Int := (en_lsem k (Int64.ofInt x) (Int64.ofInt y)).toInt
/-- longs moved: 0 << 1 >>> 2 >> -/
def kk_lm (k : Nat) (x : Int64) (y : Int32) : Int64 := match k with
  | 0 => x <<< (y.toInt64 &&& 63)
  | 1 => (x.toUInt64 >>> (y.toInt64.toUInt64 &&& Int64.toUInt64 63)).toInt64
  | _ => x >>> (y.toInt64 &&& 63)
def kk_l3 (k : Nat) (x y : Int) : Int := (kk_lm k (Int64.ofInt x) (Int32.ofInt y)).toInt
def kk_l2i (x : Int) : Int := (Int64.ofInt x).toInt32.toInt
def kk_i2c (x : Int) : Int := ((Int32.ofInt x).toUInt32 % 65536).toInt32.toInt
def kk_cmp (x y : Int) : Int := if x < y then -1 else if x = y then 0 else 1
/-- what a comparison means, and what it means that it fails -/
def kk_cP (k : ClassFile.Cond) (x y : Int) : Prop := match k with
  | .eq => x = y
  | .ne => x ≠ y
  | .lt => x < y
  | .ge => y ≤ x
  | .gt => y < x
  | .le => x ≤ y
def kk_cN (k : ClassFile.Cond) (x y : Int) : Prop := match k with
  | .eq => x ≠ y
  | .ne => x = y
  | .lt => y ≤ x
  | .ge => x < y
  | .gt => x ≤ y
  | .le => y < x
/-- contents with one place written -/
def kk_up (f : Nat → Int) (i : Nat) (v : Int) : Nat → Int := fun j => cond (Nat.beq j i) v (f j)
theorem kk_up_eq {f : Nat → Int} {i : Nat} {v : Int} : kk_up f i v i = v := by unfold kk_up; rw [Nat.beq_refl]; rfl
theorem kk_up_ne {f : Nat → Int} {i j : Nat} {v : Int} (h : j ≠ i) : kk_up f i v j = f j := by
  unfold kk_up
  cases hb : Nat.beq j i with
  | true => exact absurd (Nat.eq_of_beq_eq_true hb) h
  | false => rfl
