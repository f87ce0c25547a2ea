/-! THE ENGINE, 2: a state against the machine's; intervals -/
abbrev en_cl : List vw_C := [(RX0, TX0, 6), (RX1, TX1, 2), (RX2, TX2, 8), (RX3, TX3, 4), (RX4, TX4, 11), (RX5, TX5, 7), (RX6, TX6, 11), (RX7, TX7, 7), (RX8, TX8, 2), (RX9, TX9, 3), (RX10, TX10, 18), (RX11, TX11, 47)]
def en_lv (kc : Nat → Nat) (ρ : List Int32) (ws : va_W) (a : Nat × en_V) (b : Nat × Value) : Prop := a.1 = b.1 ∧ en_v kc ρ ws a.2 b.2
def en_R (kc : Nat → Nat) (D : va_G) (A : Nat → Prop) (s : State) (nL : Nat) (ρ : List Int32) (ws : va_W) (tys : List (ClassId × FieldType)) (H : Heap) (locs : List Loc) (la : Array Slot) (sv : List Value) (L : en_L) (st : List en_V) (iv : en_I) (w : List en_C) : Prop :=
  (∃ lv : List (Nat × Value), lv_has la nL lv ∧ en_f2 (en_lv kc ρ ws) L lv) ∧ en_f2 (en_v kc ρ ws) st sv ∧ en_iv iv ρ ∧ en_w kc ρ ws tys w ∧ va_K D en_cl tys s ∧ va_P D en_cl ws H ∧ va_D A ws ∧ va_S A s.heap H locs
section ENR
variable {kc : Nat → Nat} {D : va_G} {A : Nat → Prop} {s : State} {nL : Nat} {ρ : List Int32} {ws : va_W} {tys : List (ClassId × FieldType)} {H : Heap} {locs : List Loc} {la : Array Slot} {sv : List Value} {L : en_L} {st : List en_V} {iv : en_I} {w : List en_C}
theorem en_R.push (h : en_R kc D A s nL ρ ws tys H locs la sv L st iv w) {a : en_V} {v : Value} (ha : en_v kc ρ ws a v) : en_R kc D A s nL ρ ws tys H locs la (v :: sv) L (a :: st) iv w := ⟨h.1, ⟨ha, h.2.1⟩, h.2.2⟩
theorem en_R.pop {a : en_V} (h : en_R kc D A s nL ρ ws tys H locs la sv L (a :: st) iv w) : ∃ (v : Value) (sv' : List Value), sv = v :: sv' ∧ en_v kc ρ ws a v ∧ en_R kc D A s nL ρ ws tys H locs la sv' L st iv w := by
  obtain ⟨h1, h2, h3⟩ := h
  cases sv with
  | nil => exact h2.elim
  | cons v sv => exact ⟨v, sv, rfl, h2.1, h1, h2.2, h3⟩
theorem en_R.rho (h : en_R kc D A s nL ρ ws tys H locs la sv L st iv w) {ρ' : List Int32} {iv' : en_I} (hp : en_pre ρ ρ') (hi : en_iv iv' ρ') : en_R kc D A s nL ρ' ws tys H locs la sv L st iv' w := by
  obtain ⟨⟨lv, h1, h2⟩, h3, h4, h5, h6⟩ := h
  exact ⟨⟨lv, h1, en_f2_mono (fun a b q => ⟨q.1, q.2.mono hp en_le.rf⟩) h2⟩, en_f2_mono (fun a b => en_v.mono hp en_le.rf) h3, hi, h5.mono hp en_pre.rf, h6⟩
/-- a local, read -/
def en_get (L : en_L) (i : Nat) : Option en_V := match L with
  | [] => none
  | (k, a) :: r => cond (Nat.beq k i) (some a) (en_get r i)
theorem en_get_ok {R : Nat × en_V → Nat × Value → Prop} (hR : ∀ a b, R a b → a.1 = b.1) : ∀ {L : en_L} {lv : List (Nat × Value)} {i : Nat} {a : en_V}, en_f2 R L lv → en_get L i = some a → ∃ (k : Nat) (v : Value), lv[k]? = some (i, v) ∧ R (i, a) (i, v)
  | [], _, _, _, _, h => by cases h
  | (j, b) :: L, [], _, _, h, _ => h.elim
  | (j, b) :: L, (j', v) :: lv, i, a, h, hg => by
    unfold en_get at hg
    cases hb : Nat.beq j i with
    | true =>
      rw [hb] at hg
      have e1 : j = i := Nat.eq_of_beq_eq_true hb
      have e2 : j = j' := hR _ _ h.1
      cases hg
      subst e1
      subst e2
      exact ⟨0, v, rfl, h.1⟩
    | false =>
      rw [hb] at hg
      obtain ⟨k, v', h1, h2⟩ := en_get_ok hR h.2 hg
      exact ⟨k + 1, v', by simpa using h1, h2⟩
theorem en_R.get (h : en_R kc D A s nL ρ ws tys H locs la sv L st iv w) {i : Nat} {a : en_V} (hg : en_get L i = some a) : ∃ v : Value, la[i]? = some (.val v) ∧ en_v kc ρ ws a v := by
  obtain ⟨⟨lv, h1, h2⟩, -⟩ := h
  obtain ⟨k, v, h3, h4⟩ := en_get_ok (fun a b q => q.1) h2 hg
  exact ⟨v, lv_at h1 k h3, h4.2⟩
/-- a local, written -/
def en_sto (L : en_L) (i : Nat) (a : en_V) : en_L := (i, a) :: L.filter (fun q => !(Nat.beq q.1 i) && !(Nat.beq (q.1 + 1) i && en_wide q.2))
def en_sto2 (L : en_L) (i : Nat) (a : en_V) : en_L := (i, a) :: L.filter (fun q => !(Nat.beq q.1 i) && (!(Nat.beq q.1 (i + 1)) && !(Nat.beq (q.1 + 1) i && en_wide q.2)))
theorem en_beq (a b : Nat) : (a == b) = Nat.beq a b := by
  cases h : Nat.beq a b with
  | true => rw [Nat.eq_of_beq_eq_true h]; exact beq_self_eq_true _
  | false => exact beq_eq_false_iff_ne.mpr (Nat.ne_of_beq_eq_false h)
theorem en_R.sto (h : en_R kc D A s nL ρ ws tys H locs la sv L st iv w) {lv : List (Nat × Value)} (h2 : en_f2 (en_lv kc ρ ws) L lv) {i : Nat} {a : en_V} {v : Value} (hv : en_v kc ρ ws a v) {la' : Array Slot} (hl : lv_has la' nL ((i, v) :: lv.filter (fun q => !(q.1 == i) && !(q.1 + 1 == i && q.2.category == 2)))) : en_R kc D A s nL ρ ws tys H locs la' sv (en_sto L i a) st iv w := by
  refine ⟨⟨_, hl, ⟨rfl, hv⟩, en_f2_filter (fun x y q => ?_) h2⟩, h.2⟩
  rw [en_beq, en_beq, q.2.cat, q.1]
theorem en_R.sto2 (h : en_R kc D A s nL ρ ws tys H locs la sv L st iv w) {lv : List (Nat × Value)} (h2 : en_f2 (en_lv kc ρ ws) L lv) {i : Nat} {a : en_V} {v : Value} (hv : en_v kc ρ ws a v) {la' : Array Slot} (hl : lv_has la' nL ((i, v) :: lv.filter (fun q => !(q.1 == i) && (!(q.1 == i + 1) && !(q.1 + 1 == i && q.2.category == 2))))) : en_R kc D A s nL ρ ws tys H locs la' sv (en_sto2 L i a) st iv w := by
  refine ⟨⟨_, hl, ⟨rfl, hv⟩, en_f2_filter (fun x y q => ?_) h2⟩, h.2⟩
  rw [en_beq, en_beq, en_beq, q.2.cat, q.1]
end ENR
/-! intervals -/
def en_rng (iv : en_I) (a : en_V) : Option (Int × Int) := match a.1 with
  | 0 => some (a.2, a.2)
  | 1 => iv[a.2.toNat]?
  | _ => none
theorem en_rng_ok {kc : Nat → Nat} {ρ : List Int32} {ws : va_W} {iv : en_I} {a : en_V} {v : Value} {q : Int × Int} (hi : en_iv iv ρ) (hv : en_v kc ρ ws a v) (h : en_rng iv a = some q) : ∃ x : Int32, v = .int x ∧ en_in q x := by
  obtain ⟨t, n⟩ := a
  unfold en_rng at h
  unfold en_v at hv
  dsimp only at h hv
  match t, h, hv with
  | 0, h, hv =>
    obtain ⟨x, h1, h2⟩ := hv
    cases h
    exact ⟨x, h1, by rw [h2]; exact Int.le_refl _, by rw [h2]; exact Int.le_refl _⟩
  | 1, h, hv =>
    obtain ⟨x, h1, h2⟩ := hv
    exact ⟨x, h1, hi.2 _ _ _ h h2⟩
def en_lo : Int := -2147483648
def en_hi : Int := 2147483647
theorem en_in_all (x : Int32) : en_in (en_lo, en_hi) x := by
  have h1 := Int32.le_toInt x
  have h2 := Int32.toInt_lt x
  unfold en_in en_lo en_hi
  constructor <;> dsimp only <;> omega
/-- a value between two bounds: a literal, or a new variable -/
def en_mk (iv : en_I) (q : Int × Int) : en_V × en_I := if q.1 = q.2 then ((0, q.1), iv) else ((1, (iv.length : Int)), iv ++ [q])
section ENM
variable {kc : Nat → Nat} {D : va_G} {A : Nat → Prop} {s : State} {nL : Nat} {ρ : List Int32} {ws : va_W} {tys : List (ClassId × FieldType)} {H : Heap} {locs : List Loc} {la : Array Slot} {sv : List Value} {L : en_L} {st : List en_V} {iv : en_I} {w : List en_C}
theorem en_R.mk (h : en_R kc D A s nL ρ ws tys H locs la sv L st iv w) {q : Int × Int} {x : Int32} (hx : en_in q x) : ∃ ρ' : List Int32, en_pre ρ ρ' ∧ en_R kc D A s nL ρ' ws tys H locs la sv L st (en_mk iv q).2 w ∧ en_v kc ρ' ws (en_mk iv q).1 (.int x) := by
  unfold en_mk
  by_cases hq : q.1 = q.2
  · rw [if_pos hq]
    refine ⟨ρ, en_pre.rf, h, x, rfl, ?_⟩
    have := hx.1; have := hx.2
    show x.toInt = q.1
    omega
  · rw [if_neg hq]
    obtain ⟨hl, hi⟩ := h.2.2.1
    refine ⟨ρ ++ [x], en_pre.app _, h.rho (en_pre.app _) ⟨by simp [hl], fun i q' x' h1 h2 => ?_⟩, x, rfl, ?_⟩
    · by_cases hlt : i < iv.length
      · rw [List.getElem?_append_left hlt] at h1
        rw [List.getElem?_append_left (by omega)] at h2
        exact hi i q' x' h1 h2
      · rw [List.getElem?_append_right (by omega)] at h1
        rw [List.getElem?_append_right (by omega)] at h2
        have h0 : i - iv.length < 1 := (List.getElem?_eq_some_iff.mp h1).1
        rw [show i - iv.length = 0 by omega] at h1
        rw [show i - ρ.length = 0 by omega] at h2
        cases h1
        cases h2
        exact hx
    · show (ρ ++ [x])[((iv.length : Int)).toNat]? = some x
      rw [Int.toNat_natCast, hl, List.getElem?_append_right (Nat.le_refl _), Nat.sub_self]
      rfl
end ENM
/-- a value's interval made narrower; none: it can't be -/
def en_nar (iv : en_I) (a : en_V) (lo hi : Int) : Option en_I := match a.1 with
  | 0 => if lo ≤ a.2 then (if a.2 ≤ hi then some iv else none) else none
  | 1 => match iv[a.2.toNat]? with
    | some q => if (if q.1 ≤ lo then lo else q.1) ≤ (if hi ≤ q.2 then hi else q.2) then some (iv.set a.2.toNat (if q.1 ≤ lo then lo else q.1, if hi ≤ q.2 then hi else q.2)) else none
    | none => none
  | _ => none
theorem en_nar_ok {kc : Nat → Nat} {ρ : List Int32} {ws : va_W} {iv : en_I} {a : en_V} {x : Int32} {lo hi : Int} (hi0 : en_iv iv ρ) (hv : en_v kc ρ ws a (.int x)) (h1 : lo ≤ x.toInt) (h2 : x.toInt ≤ hi) : ∃ iv', en_nar iv a lo hi = some iv' ∧ en_iv iv' ρ := by
  obtain ⟨t, n⟩ := a
  unfold en_v at hv
  unfold en_nar
  try dsimp only at hv ⊢
  match t, hv with
  | 0, hv =>
    obtain ⟨y, e, e2⟩ := hv
    cases e
    try dsimp only
    rw [if_pos (by omega), if_pos (by omega)]
    exact ⟨iv, rfl, hi0⟩
  | 1, hv =>
    obtain ⟨y, e, e2⟩ := hv
    cases e
    have hl := (List.getElem?_eq_some_iff.mp e2).1
    have hl2 : n.toNat < iv.length := by rw [hi0.1]; exact hl
    try dsimp only
    rw [List.getElem?_eq_getElem hl2]
    try dsimp only
    have hb := hi0.2 n.toNat _ x (List.getElem?_eq_getElem hl2) e2
    generalize iv[n.toNat] = q at hb ⊢
    have b1 : (if q.1 ≤ lo then lo else q.1) ≤ x.toInt := by split <;> omega
    have b2 : x.toInt ≤ (if hi ≤ q.2 then hi else q.2) := by split <;> omega
    rw [if_pos (Int.le_trans b1 b2)]
    refine ⟨_, rfl, by rw [List.length_set]; exact hi0.1, fun i q' x' g1 g2 => ?_⟩
    by_cases hin : n.toNat = i
    · subst hin
      rw [List.getElem?_set_self hl2] at g1
      cases g1
      cases Option.some.inj (e2.symm.trans g2)
      exact ⟨b1, b2⟩
    · rw [List.getElem?_set_ne hin] at g1
      exact hi0.2 i q' x' g1 g2
  | 2, hv => obtain ⟨y, e, -⟩ := hv; cases e
  | 3, hv => obtain ⟨y, e⟩ := hv; cases e
  | 4, hv => obtain ⟨q, e, e1, -⟩ := hv; cases e1
  | 5, hv => cases hv
  | 6, hv => cases hv
  | 7, hv => obtain ⟨q, e⟩ := hv; cases e
  | 9, hv => obtain ⟨q, e⟩ := hv; cases q <;> cases e
/-- what a comparison says of two values -/
def en_ceq (iv : en_I) (a b : en_V) (qa qb : Int × Int) : Option en_I := match en_nar iv a qb.1 qb.2 with
  | some iv1 => en_nar iv1 b qa.1 qa.2
  | none => none
def en_cne (iv : en_I) (a b : en_V) (qa qb : Int × Int) : Option en_I :=
  if qb.1 = qb.2 then (if qa.1 = qb.1 then en_nar iv a (qa.1 + 1) en_hi else if qa.2 = qb.1 then en_nar iv a en_lo (qa.2 - 1) else some iv)
  else if qa.1 = qa.2 then (if qb.1 = qa.1 then en_nar iv b (qb.1 + 1) en_hi else if qb.2 = qa.1 then en_nar iv b en_lo (qb.2 - 1) else some iv) else some iv
def en_clt (iv : en_I) (a b : en_V) (qa qb : Int × Int) : Option en_I := match en_nar iv a en_lo (qb.2 - 1) with
  | some iv1 => en_nar iv1 b (qa.1 + 1) en_hi
  | none => none
def en_cle (iv : en_I) (a b : en_V) (qa qb : Int × Int) : Option en_I := match en_nar iv a en_lo qb.2 with
  | some iv1 => en_nar iv1 b qa.1 en_hi
  | none => none
section ENC
variable {kc : Nat → Nat} {ρ : List Int32} {ws : va_W} {iv : en_I} {a b : en_V} {x y : Int32} {qa qb : Int × Int}
theorem en_ceq_ok (hi0 : en_iv iv ρ) (ha : en_v kc ρ ws a (.int x)) (hb : en_v kc ρ ws b (.int y)) (x1 : en_in qa x) (y1 : en_in qb y) (hc : x.toInt = y.toInt) : ∃ iv', en_ceq iv a b qa qb = some iv' ∧ en_iv iv' ρ := by
  obtain ⟨x1, x2⟩ := x1
  obtain ⟨y1, y2⟩ := y1
  obtain ⟨iv1, e1, g1⟩ := en_nar_ok (lo := qb.1) (hi := qb.2) hi0 ha (by omega) (by omega)
  unfold en_ceq
  rw [e1]
  exact en_nar_ok (lo := qa.1) (hi := qa.2) g1 hb (by omega) (by omega)
theorem en_cne_ok (hi0 : en_iv iv ρ) (ha : en_v kc ρ ws a (.int x)) (hb : en_v kc ρ ws b (.int y)) (x1 : en_in qa x) (y1 : en_in qb y) (hc : x.toInt ≠ y.toInt) : ∃ iv', en_cne iv a b qa qb = some iv' ∧ en_iv iv' ρ := by
  obtain ⟨x1, x2⟩ := x1
  obtain ⟨y1, y2⟩ := y1
  obtain ⟨xl, xh⟩ := en_in_all x
  obtain ⟨yl, yh⟩ := en_in_all y
  dsimp only at xl xh yl yh
  unfold en_cne
  split
  · split
    · exact en_nar_ok hi0 ha (by omega) (by omega)
    · split
      · exact en_nar_ok hi0 ha (by omega) (by omega)
      · exact ⟨iv, rfl, hi0⟩
  · split
    · split
      · exact en_nar_ok hi0 hb (by omega) (by omega)
      · split
        · exact en_nar_ok hi0 hb (by omega) (by omega)
        · exact ⟨iv, rfl, hi0⟩
    · exact ⟨iv, rfl, hi0⟩
theorem en_clt_ok (hi0 : en_iv iv ρ) (ha : en_v kc ρ ws a (.int x)) (hb : en_v kc ρ ws b (.int y)) (x1 : en_in qa x) (y1 : en_in qb y) (hc : x.toInt < y.toInt) : ∃ iv', en_clt iv a b qa qb = some iv' ∧ en_iv iv' ρ := by
  obtain ⟨x1, x2⟩ := x1
  obtain ⟨y1, y2⟩ := y1
  obtain ⟨xl, xh⟩ := en_in_all x
  obtain ⟨yl, yh⟩ := en_in_all y
  dsimp only at xl xh yl yh
  obtain ⟨iv1, e1, g1⟩ := en_nar_ok (lo := en_lo) (hi := qb.2 - 1) hi0 ha (by omega) (by omega)
  unfold en_clt
  rw [e1]
  exact en_nar_ok (lo := qa.1 + 1) (hi := en_hi) g1 hb (by omega) (by omega)
theorem en_cle_ok (hi0 : en_iv iv ρ) (ha : en_v kc ρ ws a (.int x)) (hb : en_v kc ρ ws b (.int y)) (x1 : en_in qa x) (y1 : en_in qb y) (hc : x.toInt ≤ y.toInt) : ∃ iv', en_cle iv a b qa qb = some iv' ∧ en_iv iv' ρ := by
  obtain ⟨x1, x2⟩ := x1
  obtain ⟨y1, y2⟩ := y1
  obtain ⟨xl, xh⟩ := en_in_all x
  obtain ⟨yl, yh⟩ := en_in_all y
  dsimp only at xl xh yl yh
  obtain ⟨iv1, e1, g1⟩ := en_nar_ok (lo := en_lo) (hi := qb.2) hi0 ha (by omega) (by omega)
  unfold en_cle
  rw [e1]
  exact en_nar_ok (lo := qa.1) (hi := en_hi) g1 hb (by omega) (by omega)
end ENC
/-- the two ways of a branch: the one taken, the one not taken -/
def en_br (c : ClassFile.Cond) (iv : en_I) (a b : en_V) (qa qb : Int × Int) : Option en_I × Option en_I := match c with
  | .eq => (en_ceq iv a b qa qb, en_cne iv a b qa qb)
  | .ne => (en_cne iv a b qa qb, en_ceq iv a b qa qb)
  | .lt => (en_clt iv a b qa qb, en_cle iv b a qb qa)
  | .ge => (en_cle iv b a qb qa, en_clt iv a b qa qb)
  | .gt => (en_clt iv b a qb qa, en_cle iv a b qa qb)
  | .le => (en_cle iv a b qa qb, en_clt iv b a qb qa)
