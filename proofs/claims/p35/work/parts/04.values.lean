/-! THE ENGINE, 1: values, cells, states of a symbolic run, and what they say of the machine's.
A value is a tag and a number: 0 an int literal, 1 an int variable, 2 a long literal, 3 any long, 4 a cell of the world by its place, 5 null, 6 a constant by its number (0, 1, 2 the String literals, 3 the script, 100 and on the literals' byte arrays), 7 any reference, 9 any reference or null. -/
abbrev en_V : Type := Nat × Int
abbrev en_I : Type := List (Int × Int)
/-- a cell: kind (0 object, 1 int array, 2 long array, 3 reference array, 4 boolean array), class or length or element class, default interval, fields or contents, exceptions -/
abbrev en_C : Type := Nat × Nat × (Int × Int) × List en_V × List (Nat × Int × Int)
abbrev en_L : Type := List (Nat × en_V)
/-- locals, stack, intervals, world, new cells, new slots -/
abbrev en_S : Type := en_L × List en_V × en_I × List en_C × Nat × Nat
def en_f2 {α β : Type} (R : α → β → Prop) : List α → List β → Prop
  | [], [] => True
  | a :: l, b :: m => R a b ∧ en_f2 R l m
  | _, _ => False
theorem en_f2_mono {α β : Type} {R R' : α → β → Prop} (h : ∀ a b, R a b → R' a b) : ∀ {l : List α} {m : List β}, en_f2 R l m → en_f2 R' l m
  | [], [], _ => trivial
  | _ :: _, _ :: _, hh => ⟨h _ _ hh.1, en_f2_mono h hh.2⟩
  | [], _ :: _, hh => hh.elim
  | _ :: _, [], hh => hh.elim
theorem en_f2_len {α β : Type} {R : α → β → Prop} : ∀ {l : List α} {m : List β}, en_f2 R l m → l.length = m.length
  | [], [], _ => rfl
  | _ :: _, _ :: _, hh => by simp [en_f2_len hh.2]
  | [], _ :: _, hh => hh.elim
  | _ :: _, [], hh => hh.elim
theorem en_f2_get {α β : Type} {R : α → β → Prop} : ∀ {l : List α} {m : List β}, en_f2 R l m → ∀ (k : Nat) (a : α), l[k]? = some a → ∃ b, m[k]? = some b ∧ R a b
  | [], [], _, _, _, h => by simp at h
  | x :: l, y :: m, hh, k, a, h => by
    cases k with
    | zero => simp at h; subst h; exact ⟨y, by simp, hh.1⟩
    | succ k => simp at h; simpa using en_f2_get hh.2 k a h
  | [], _ :: _, hh, _, _, _ => hh.elim
  | _ :: _, [], hh, _, _, _ => hh.elim
theorem en_f2_set {α β : Type} {R : α → β → Prop} {a : α} {b : β} (hab : R a b) : ∀ {l : List α} {m : List β}, en_f2 R l m → ∀ (k : Nat), en_f2 R (l.set k a) (m.set k b)
  | [], [], _, _ => trivial
  | x :: l, y :: m, hh, k => by
    cases k with
    | zero => exact ⟨hab, hh.2⟩
    | succ k => exact ⟨hh.1, en_f2_set hab hh.2 k⟩
  | [], _ :: _, hh, _ => hh.elim
  | _ :: _, [], hh, _ => hh.elim
theorem en_f2_app {α β : Type} {R : α → β → Prop} : ∀ {l l' : List α} {m m' : List β}, en_f2 R l m → en_f2 R l' m' → en_f2 R (l ++ l') (m ++ m')
  | [], _, [], _, _, h => h
  | _ :: _, _, _ :: _, _, hh, h => ⟨hh.1, en_f2_app hh.2 h⟩
  | [], _, _ :: _, _, hh, _ => hh.elim
  | _ :: _, _, [], _, hh, _ => hh.elim
theorem en_f2_rev {α β : Type} {R : α → β → Prop} : ∀ {l : List α} {m : List β}, en_f2 R l m → en_f2 R l.reverse m.reverse
  | [], [], _ => trivial
  | x :: l, y :: m, hh => by
    rw [List.reverse_cons, List.reverse_cons]
    exact en_f2_app (en_f2_rev hh.2) ⟨hh.1, trivial⟩
  | [], _ :: _, hh => hh.elim
  | _ :: _, [], hh => hh.elim
theorem en_f2_split {α β : Type} {R : α → β → Prop} : ∀ {l l' : List α} {m : List β}, en_f2 R (l ++ l') m → ∃ m1 m2, m = m1 ++ m2 ∧ en_f2 R l m1 ∧ en_f2 R l' m2
  | [], _, m, h => ⟨[], m, rfl, trivial, h⟩
  | _ :: l, l', [], h => h.elim
  | _ :: l, l', y :: m, h => by
    obtain ⟨m1, m2, e, h1, h2⟩ := en_f2_split (l := l) (l' := l') h.2
    exact ⟨y :: m1, m2, by rw [e]; rfl, ⟨h.1, h1⟩, h2⟩
theorem en_f2_filter {α β : Type} {R : α → β → Prop} {f : α → Bool} {g : β → Bool} (hfg : ∀ a b, R a b → f a = g b) : ∀ {l : List α} {m : List β}, en_f2 R l m → en_f2 R (l.filter f) (m.filter g)
  | [], [], _ => trivial
  | x :: l, y :: m, hh => by
    have h1 := hfg x y hh.1
    rw [List.filter_cons, List.filter_cons, h1]
    cases g y
    · exact en_f2_filter hfg hh.2
    · exact ⟨hh.1, en_f2_filter hfg hh.2⟩
  | [], _ :: _, hh => hh.elim
  | _ :: _, [], hh => hh.elim
/-- a list that goes on -/
def en_pre {α : Type} (l l' : List α) : Prop := ∀ (i : Nat) (x : α), l[i]? = some x → l'[i]? = some x
theorem en_pre.rf {α : Type} {l : List α} : en_pre l l := fun _ _ h => h
theorem en_pre.tr {α : Type} {a b c : List α} (h : en_pre a b) (h' : en_pre b c) : en_pre a c := fun i x hx => h' i x (h i x hx)
theorem en_pre.app {α : Type} {l : List α} (m : List α) : en_pre l (l ++ m) := fun i x h => by
  have hl := (List.getElem?_eq_some_iff.mp h).1
  rw [List.getElem?_append_left hl]
  exact h
/-- a world whose cells keep their addresses -/
def en_le (ws ws' : va_W) : Prop := ∀ (k q : Nat) (e : va_E), ws[k]? = some (q, e) → ∃ e', ws'[k]? = some (q, e')
theorem en_le.rf {ws : va_W} : en_le ws ws := fun _ _ e h => ⟨e, h⟩
theorem en_le.tr {a b c : va_W} (h : en_le a b) (h' : en_le b c) : en_le a c := fun k q e hx => by
  obtain ⟨e', h1⟩ := h k q e hx
  exact h' k q e' h1
theorem en_le.app {ws : va_W} (w : va_W) : en_le ws (ws ++ w) := fun k q e h => ⟨e, en_pre.app w k (q, e) h⟩
theorem en_le.set {ws : va_W} {k q : Nat} {e0 : va_E} (h : ws[k]? = some (q, e0)) (e : va_E) : en_le ws (ws.set k (q, e)) := fun i q' e' hi => by
  by_cases hik : k = i
  · subst hik
    cases Option.some.inj (h.symm.trans hi)
    exact ⟨e, List.getElem?_set_self (List.getElem?_eq_some_iff.mp h).1⟩
  · exact ⟨e', by rw [List.getElem?_set_ne hik]; exact hi⟩
def en_v (kc : Nat → Nat) (ρ : List Int32) (ws : va_W) (a : en_V) (v : Value) : Prop :=
  match a.1 with
  | 0 => ∃ x : Int32, v = .int x ∧ x.toInt = a.2
  | 1 => ∃ x : Int32, v = .int x ∧ ρ[a.2.toNat]? = some x
  | 2 => ∃ x : Int64, v = .long x ∧ x.toInt = a.2
  | 3 => ∃ x : Int64, v = .long x
  | 4 => ∃ (q : Nat) (e : va_E), v = .ref q ∧ ws[a.2.toNat]? = some (q, e)
  | 5 => v = .null
  | 6 => v = .ref (kc a.2.toNat)
  | 7 => ∃ q : Nat, v = .ref q
  | 9 => ∃ r : Option Nat, v = va_rf r
  | _ => False
theorem en_v.mono {kc : Nat → Nat} {ρ ρ' : List Int32} {ws ws' : va_W} (h1 : en_pre ρ ρ') (h2 : en_le ws ws') {a : en_V} {v : Value} (h : en_v kc ρ ws a v) : en_v kc ρ' ws' a v := by
  obtain ⟨t, n⟩ := a
  unfold en_v at h ⊢
  dsimp only at h ⊢
  split at h
  · exact h
  · obtain ⟨x, h3, h4⟩ := h
    exact ⟨x, h3, h1 _ _ h4⟩
  · exact h
  · exact h
  · obtain ⟨q, e, h3, h4⟩ := h
    obtain ⟨e', h5⟩ := h2 _ _ _ h4
    exact ⟨q, e', h3, h5⟩
  · exact h
  · exact h
  · exact h
  · exact h
  · exact h
/-- wide: a long -/
def en_wide (a : en_V) : Bool := Nat.beq a.1 2 || Nat.beq a.1 3
theorem en_v.cat {kc : Nat → Nat} {ρ : List Int32} {ws : va_W} {a : en_V} {v : Value} (h : en_v kc ρ ws a v) : (v.category == 2) = en_wide a := by
  obtain ⟨t, n⟩ := a
  unfold en_v at h
  dsimp only at h
  split at h
  · obtain ⟨x, rfl, -⟩ := h; rfl
  · obtain ⟨x, rfl, -⟩ := h; rfl
  · obtain ⟨x, rfl, -⟩ := h; rfl
  · obtain ⟨x, rfl⟩ := h; rfl
  · obtain ⟨q, e, rfl, -⟩ := h; rfl
  · subst h; rfl
  · subst h; rfl
  · obtain ⟨q, rfl⟩ := h; rfl
  · obtain ⟨r, rfl⟩ := h; cases r <;> rfl
  · exact h.elim
def en_iv (iv : en_I) (ρ : List Int32) : Prop := iv.length = ρ.length ∧ ∀ (i : Nat) (q : Int × Int) (x : Int32), iv[i]? = some q → ρ[i]? = some x → q.1 ≤ x.toInt ∧ x.toInt ≤ q.2
def en_el (d : Int × Int) (ex : List (Nat × Int × Int)) (j : Nat) : Int × Int := match ex with
  | [] => d
  | (k, p) :: r => cond (Nat.beq j k) p (en_el d r j)
def en_in (q : Int × Int) (x : Int32) : Prop := q.1 ≤ x.toInt ∧ x.toInt ≤ q.2
/-- the classes' names of reference arrays -/
def en_an (n : Nat) : String := match n with
  | 0 => RX4
  | _ => RX3
def en_c (kc : Nat → Nat) (ρ : List Int32) (ws : va_W) (tys : List (ClassId × FieldType)) (c : en_C) (e : va_E) : Prop :=
  match c.1 with
  | 0 => ∃ fs : List Value, e = .inr (c.2.1, fs) ∧ en_f2 (en_v kc ρ ws) c.2.2.2.1 fs
  | 1 => ∃ (cA : ClassId) (f : Nat → Int32) (t : Nat), e = .inl (cA, c.2.1, .inl f) ∧ tys[t]? = some (cA, .int) ∧ ∀ j, j < c.2.1 → en_in (en_el c.2.2.1 c.2.2.2.2 j) (f j)
  | 2 => ∃ (cA : ClassId) (f : Nat → Int64) (t : Nat), e = .inl (cA, c.2.1, .inr (.inl f)) ∧ tys[t]? = some (cA, .long) ∧ (c.2.2.1 = (0, 0) → ∀ j, j < c.2.1 → (f j).toInt = (en_el (0, 0) c.2.2.2.2 j).1)
  | 3 => ∃ (cA : ClassId) (f : Nat → Option Nat) (t : Nat), e = .inl (cA, c.2.2.2.1.length, .inr (.inr (.inr (.inr f)))) ∧ tys[t]? = some (cA, .object (en_an c.2.1)) ∧ ∀ (j : Nat) (a : en_V), c.2.2.2.1[j]? = some a → en_v kc ρ ws a (va_rf (f j))
  | 4 => ∃ (cA : ClassId) (f : Nat → Int32) (t : Nat), e = .inl (cA, c.2.1, .inl f) ∧ tys[t]? = some (cA, .boolean) ∧ ∀ j, j < c.2.1 → en_in (en_el c.2.2.1 c.2.2.2.2 j) (f j)
  | _ => False
theorem en_c.mono {kc : Nat → Nat} {ρ ρ' : List Int32} {ws ws' : va_W} {tys tys' : List (ClassId × FieldType)} (h1 : en_pre ρ ρ') (h2 : en_le ws ws') (h3 : en_pre tys tys') {c : en_C} {e : va_E} (h : en_c kc ρ ws tys c e) : en_c kc ρ' ws' tys' c e := by
  obtain ⟨t, n, d, fs, ex⟩ := c
  unfold en_c at h ⊢
  dsimp only at h ⊢
  split at h
  · obtain ⟨fs, h4, h5⟩ := h
    exact ⟨fs, h4, en_f2_mono (fun a b => en_v.mono h1 h2) h5⟩
  · obtain ⟨cA, f, t, h4, h5, h6⟩ := h
    exact ⟨cA, f, t, h4, h3 _ _ h5, h6⟩
  · obtain ⟨cA, f, t, h4, h5, h6⟩ := h
    exact ⟨cA, f, t, h4, h3 _ _ h5, h6⟩
  · obtain ⟨cA, f, t, h4, h5, h6⟩ := h
    exact ⟨cA, f, t, h4, h3 _ _ h5, fun j a ha => en_v.mono h1 h2 (h6 j a ha)⟩
  · obtain ⟨cA, f, t, h4, h5, h6⟩ := h
    exact ⟨cA, f, t, h4, h3 _ _ h5, h6⟩
  · exact h
def en_w (kc : Nat → Nat) (ρ : List Int32) (ws : va_W) (tys : List (ClassId × FieldType)) (w : List en_C) : Prop :=
  w.length = ws.length ∧ ∀ (k : Nat) (c : en_C), w[k]? = some c → ∃ (q : Nat) (e : va_E), ws[k]? = some (q, e) ∧ en_c kc ρ ws tys c e
theorem en_w.mono {kc : Nat → Nat} {ρ ρ' : List Int32} {ws : va_W} {tys tys' : List (ClassId × FieldType)} (h1 : en_pre ρ ρ') (h3 : en_pre tys tys') {w : List en_C} (h : en_w kc ρ ws tys w) : en_w kc ρ' ws tys' w :=
  ⟨h.1, fun k c hk => by
    obtain ⟨q, e, h4, h5⟩ := h.2 k c hk
    exact ⟨q, e, h4, h5.mono h1 en_le.rf h3⟩⟩
theorem en_w.set {kc : Nat → Nat} {ρ : List Int32} {ws : va_W} {tys : List (ClassId × FieldType)} {w : List en_C} (h : en_w kc ρ ws tys w) {k q : Nat} {e0 e : va_E} {c : en_C} (hk : ws[k]? = some (q, e0)) (hc : en_c kc ρ (ws.set k (q, e)) tys c e) : en_w kc ρ (ws.set k (q, e)) tys (w.set k c) := by
  refine ⟨by rw [List.length_set, List.length_set]; exact h.1, fun i c' hi => ?_⟩
  have hl := (List.getElem?_eq_some_iff.mp hk).1
  by_cases hik : k = i
  · subst hik
    rw [List.getElem?_set_self (by rw [h.1]; exact hl)] at hi
    cases hi
    exact ⟨q, e, List.getElem?_set_self hl, hc⟩
  · rw [List.getElem?_set_ne hik] at hi
    obtain ⟨q', e', h4, h5⟩ := h.2 i c' hi
    exact ⟨q', e', by rw [List.getElem?_set_ne hik]; exact h4, h5.mono en_pre.rf (en_le.set hk e) en_pre.rf⟩
theorem en_w.app {kc : Nat → Nat} {ρ : List Int32} {ws : va_W} {tys tys' : List (ClassId × FieldType)} {w : List en_C} (h : en_w kc ρ ws tys w) (ht : en_pre tys tys') {q : Nat} {e : va_E} {c : en_C} (hc : en_c kc ρ (ws ++ [(q, e)]) tys' c e) : en_w kc ρ (ws ++ [(q, e)]) tys' (w ++ [c]) := by
  refine ⟨by rw [List.length_append, List.length_append, h.1]; rfl, fun i c' hi => ?_⟩
  by_cases hl : i < w.length
  · rw [List.getElem?_append_left hl] at hi
    obtain ⟨q', e', h4, h5⟩ := h.2 i c' hi
    exact ⟨q', e', en_pre.app _ _ _ h4, h5.mono en_pre.rf (en_le.app _) ht⟩
  · rw [List.getElem?_append_right (by omega)] at hi
    have h0 : i - w.length < 1 := (List.getElem?_eq_some_iff.mp hi).1
    have h1 : i = ws.length := by have := h.1; omega
    rw [show i - w.length = 0 by omega] at hi
    cases hi
    subst h1
    exact ⟨q, e, by rw [List.getElem?_append_right (Nat.le_refl _), Nat.sub_self]; rfl, hc⟩
