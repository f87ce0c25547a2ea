/-! THE ENGINE, 4: instructions on the heap -/
def en_ci (Ts : List Cond) (ci : Nat) (C : String) (T : u_T) (N : Nat) (ty : Nat → FieldType) : Prop :=
  en_cl[ci]? = some (C, T, N) ∧ (∀ w ∈ u_ws C T N, w ∈ Ts) ∧ (∀ k, k < N → parseFieldDescriptor (T k).2.2.1 = some (ty k)) ∧ ∀ a, a < N → ∀ b, b < N → a ≠ b → (T a).2.1 ≠ (T b).2.1
/-- kinds of fields: 0 int, 1 boolean, 2 long, 3 a reference -/
def en_kt (kt : Nat) (ty : FieldType) : Bool := match kt, ty with
  | 0, .int => true
  | 1, .boolean => true
  | 2, .long => true
  | 3, .object _ => true
  | 3, .array _ => true
  | _, _ => false
def en_01 (iv : en_I) (v : en_V) : Bool := match en_rng iv v with
  | some q => decide (0 ≤ q.1) && decide (q.2 ≤ 1)
  | none => false
def en_fit (kt : Nat) (iv : en_I) (v : en_V) : Bool := match kt with
  | 0 => Nat.ble v.1 1
  | 1 => en_01 iv v
  | 2 => en_wide v
  | _ => en_isR v || Nat.beq v.1 5
section ENH0
variable {kc : Nat → Nat} {ρ : List Int32} {ws : va_W} {iv : en_I}
theorem en_01_ok {v : en_V} {x : Value} (hi : en_iv iv ρ) (hv : en_v kc ρ ws v x) (h : en_01 iv v = true) : x = .int 0 ∨ x = .int 1 := by
  unfold en_01 at h
  cases hr : en_rng iv v with
  | none => rw [hr] at h; cases h
  | some q =>
    rw [hr] at h
    simp only [Bool.and_eq_true, decide_eq_true_eq] at h
    obtain ⟨y, rfl, h1, h2⟩ := en_rng_ok hi hv hr
    have h3 : y.toInt = 0 ∨ y.toInt = 1 := by omega
    rcases h3 with h3 | h3
    · exact Or.inl (by rw [Int32.toInt_inj.mp (h3.trans (show (0 : Int) = (0 : Int32).toInt from rfl))])
    · exact Or.inr (by rw [Int32.toInt_inj.mp (h3.trans (show (1 : Int) = (1 : Int32).toInt from rfl))])
theorem en_fit_ok {kt : Nat} {ty : FieldType} {v : en_V} {x : Value} (hi : en_iv iv ρ) (hv : en_v kc ρ ws v x) (h : en_fit kt iv v = true) (hk : en_kt kt ty = true) : narrow ty x = x ∧ fits ty x = true := by
  match kt, ty, h, hk with
  | 0, .int, h, _ => obtain ⟨y, rfl⟩ := hv.int h; exact ⟨rfl, rfl⟩
  | 1, .boolean, h, _ => rcases en_01_ok hi hv h with rfl | rfl <;> exact ⟨rfl, rfl⟩
  | 2, .long, h, _ => obtain ⟨y, rfl⟩ := hv.long h; exact ⟨rfl, rfl⟩
  | 3, .object _, h, _ =>
    have h : (en_isR v || Nat.beq v.1 5) = true := h
    rw [Bool.or_eq_true] at h
    rcases h with h | h
    · obtain ⟨y, rfl⟩ := hv.ref h; exact ⟨rfl, rfl⟩
    · have h6 : v.1 = 5 := Nat.eq_of_beq_eq_true h
      unfold en_v at hv
      rw [h6] at hv
      have hv : x = .null := hv
      subst hv
      exact ⟨rfl, rfl⟩
  | 3, .array _, h, _ =>
    have h : (en_isR v || Nat.beq v.1 5) = true := h
    rw [Bool.or_eq_true] at h
    rcases h with h | h
    · obtain ⟨y, rfl⟩ := hv.ref h; exact ⟨rfl, rfl⟩
    · have h6 : v.1 = 5 := Nat.eq_of_beq_eq_true h
      unfold en_v at hv
      rw [h6] at hv
      have hv : x = .null := hv
      subst hv
      exact ⟨rfl, rfl⟩
theorem en_v.cell {a : en_V} {v : Value} (hv : en_v kc ρ ws a v) (h : Nat.beq a.1 4 = true) : ∃ (q : Nat) (e : va_E), v = .ref q ∧ ws[a.2.toNat]? = some (q, e) := by
  have h6 : a.1 = 4 := Nat.eq_of_beq_eq_true h
  unfold en_v at hv
  rw [h6] at hv
  exact hv
end ENH0
theorem en_setid {α : Type} {l : List α} {k : Nat} {a : α} (h : l[k]? = some a) : l.set k a = l := by
  apply List.ext_getElem?
  intro i
  by_cases hik : k = i
  · subst hik
    rw [List.getElem?_set_self (List.getElem?_eq_some_iff.mp h).1, h]
  · rw [List.getElem?_set_ne hik]
/-! joins -/
def en_jn (p q : Int × Int) : Int × Int := (if p.1 ≤ q.1 then p.1 else q.1, if p.2 ≤ q.2 then q.2 else p.2)
theorem en_jn_l {p q : Int × Int} {x : Int32} (h : en_in p x) : en_in (en_jn p q) x := by
  obtain ⟨h1, h2⟩ := h
  unfold en_jn en_in
  constructor <;> dsimp only <;> split <;> omega
theorem en_jn_r {p q : Int × Int} {x : Int32} (h : en_in q x) : en_in (en_jn p q) x := by
  obtain ⟨h1, h2⟩ := h
  unfold en_jn en_in
  constructor <;> dsimp only <;> split <;> omega
def en_ja (d : Int × Int) (ex : List (Nat × Int × Int)) : Int × Int := match ex with
  | [] => d
  | (_, p) :: r => en_jn p (en_ja d r)
theorem en_ja_ok {d : Int × Int} {x : Int32} : ∀ {ex : List (Nat × Int × Int)} {j : Nat}, en_in (en_el d ex j) x → en_in (en_ja d ex) x
  | [], _, h => h
  | (k, p) :: r, j, h => by
    unfold en_el at h
    unfold en_ja
    cases hb : Nat.beq j k with
    | true => rw [hb] at h; exact en_jn_l h
    | false => rw [hb] at h; exact en_jn_r (en_ja_ok (ex := r) h)
def en_rm (i : Nat) (ex : List (Nat × Int × Int)) : List (Nat × Int × Int) := match ex with
  | [] => []
  | (k, p) :: r => cond (Nat.beq i k) (en_rm i r) ((k, p) :: en_rm i r)
theorem en_rm_el {d : Int × Int} {i j : Nat} (hij : j ≠ i) : ∀ (ex : List (Nat × Int × Int)), en_el d (en_rm i ex) j = en_el d ex j
  | [] => rfl
  | (k, p) :: r => by
    unfold en_rm
    cases hb : Nat.beq i k with
    | true =>
      have hik : i = k := Nat.eq_of_beq_eq_true hb
      show en_el d (en_rm i r) j = en_el d ((k, p) :: r) j
      rw [en_rm_el hij r]
      have : Nat.beq j k = false := by
        cases hjk : Nat.beq j k with
        | true => exact absurd ((Nat.eq_of_beq_eq_true hjk).trans hik.symm) hij
        | false => rfl
      show _ = cond (Nat.beq j k) p (en_el d r j)
      rw [this]
      rfl
    | false =>
      show cond (Nat.beq j k) p (en_el d (en_rm i r) j) = cond (Nat.beq j k) p (en_el d r j)
      rw [en_rm_el hij r]
theorem en_rm_me {d : Int × Int} {i : Nat} : ∀ (ex : List (Nat × Int × Int)), en_el d (en_rm i ex) i = d
  | [] => rfl
  | (k, p) :: r => by
    unfold en_rm
    cases hb : Nat.beq i k with
    | true => exact en_rm_me r
    | false =>
      show cond (Nat.beq i k) p (en_el d (en_rm i r) i) = d
      rw [hb]
      exact en_rm_me r
/-- contents behind a write at place i, or somewhere -/
def en_wr1 (d : Int × Int) (ex : List (Nat × Int × Int)) (i : Nat) (v : Int × Int) : List (Nat × Int × Int) := if v = d then en_rm i ex else (i, v) :: en_rm i ex
theorem en_wr1_ok {d v : Int × Int} {ex : List (Nat × Int × Int)} {i j : Nat} {x y : Int32} (hy : en_in v y) (hx : j ≠ i → en_in (en_el d ex j) x) (hj : j = i → x = y) : en_in (en_el d (en_wr1 d ex i v) j) x := by
  unfold en_wr1
  by_cases hji : j = i
  · rw [hj hji, hji]
    split
    · rename_i hvd
      rw [en_rm_me, ← hvd]
      exact hy
    · show en_in (cond (Nat.beq i i) v _) y
      rw [Nat.beq_refl]
      exact hy
  · split
    · rw [en_rm_el hji]
      exact hx hji
    · show en_in (cond (Nat.beq j i) v _) x
      have : Nat.beq j i = false := by
        cases hjk : Nat.beq j i with
        | true => exact absurd (Nat.eq_of_beq_eq_true hjk) hji
        | false => rfl
      rw [this]
      show en_in (en_el d (en_rm i ex) j) x
      rw [en_rm_el hji]
      exact hx hji
def en_wrX (ex : List (Nat × Int × Int)) (v : Int × Int) : List (Nat × Int × Int) := match ex with
  | [] => []
  | (k, p) :: r => (k, en_jn p v) :: en_wrX r v
theorem en_wrX_ok {d v : Int × Int} {x : Int32} {j : Nat} : ∀ {ex : List (Nat × Int × Int)}, en_in v x ∨ en_in (en_el d ex j) x → en_in (en_el (en_jn d v) (en_wrX ex v) j) x
  | [], h => by
    rcases h with h | h
    · exact en_jn_r h
    · exact en_jn_l h
  | (k, p) :: r, h => by
    show en_in (cond (Nat.beq j k) (en_jn p v) (en_el (en_jn d v) (en_wrX r v) j)) x
    cases hb : Nat.beq j k with
    | true =>
      rcases h with h | h
      · exact en_jn_r h
      · exact en_jn_l (by unfold en_el at h; rw [hb] at h; exact h)
    | false =>
      refine en_wrX_ok (ex := r) ?_
      rcases h with h | h
      · exact Or.inl h
      · exact Or.inr (by unfold en_el at h; rw [hb] at h; exact h)
theorem en_cl_toNat (x : Int32) : x.toNatClampNeg = x.toInt.toNat := rfl
section ENH
variable {p : Program} {l : Launch} {e : Env} {Rm : Room} {s : State} {m : MethodId} {args : Array Value} {below : List Frame} {meth : Method} {c : Code} {Q : State → Prop}
variable {kc : Nat → Nat} {D : va_G} {A : Nat → Prop} {nL : Nat} {cc : ByteArray} {Ts : List Cond} {own : String}
variable {ρ : List Int32} {ws : va_W} {tys : List (ClassId × FieldType)} {H : Heap} {locs : List Loc} {la : Array Slot} {sv : List Value} {L : en_L} {st : List en_V} {iv : en_I} {w : List en_C} {n1 n2 pc nx : Nat}
theorem en_R.heap (h : en_R kc D A s nL ρ ws tys H locs la sv L st iv w) {k q : Nat} {e0 e1 : va_E} {cell : en_C} {H1 : Heap} {locs1 : List Loc} (hk : ws[k]? = some (q, e0)) (hc : en_c kc ρ (ws.set k (q, e1)) tys cell e1) (hP : va_P D en_cl (ws.set k (q, e1)) H1) (hD : va_D A (ws.set k (q, e1))) (hS : va_S A s.heap H1 locs1) :
    en_R kc D A s nL ρ (ws.set k (q, e1)) tys H1 locs1 la sv L st iv (w.set k cell) := by
  obtain ⟨⟨lv, h1, h2⟩, h3, h4, h5, h6, -⟩ := h
  exact ⟨⟨lv, h1, en_f2_mono (fun a b q => ⟨q.1, q.2.mono en_pre.rf (en_le.set hk e1)⟩) h2⟩, en_f2_mono (fun a b => en_v.mono en_pre.rf (en_le.set hk e1)) h3, h4, h5.set hk hc, h6, hP, hD, hS⟩
theorem en_R.more (h : en_R kc D A s nL ρ ws tys H locs la sv L st iv w) {q : Nat} {e1 : va_E} {cell : en_C} {H1 : Heap} {locs1 : List Loc} {tys1 : List (ClassId × FieldType)} (ht : en_pre tys tys1) (hc : en_c kc ρ (ws ++ [(q, e1)]) tys1 cell e1) (hK : va_K D en_cl tys1 s) (hP : va_P D en_cl (ws ++ [(q, e1)]) H1) (hD : va_D A (ws ++ [(q, e1)])) (hS : va_S A s.heap H1 locs1) :
    en_R kc D A s nL ρ (ws ++ [(q, e1)]) tys1 H1 locs1 la sv L st iv (w ++ [cell]) := by
  obtain ⟨⟨lv, h1, h2⟩, h3, h4, h5, h6, -⟩ := h
  exact ⟨⟨lv, h1, en_f2_mono (fun a b q => ⟨q.1, q.2.mono en_pre.rf (en_le.app _)⟩) h2⟩, en_f2_mono (fun a b => en_v.mono en_pre.rf (en_le.app _)) h3, h4, h5.app ht hc, hK, hP, hD, hS⟩
/-- the object at a reference -/
def en_obj (w : List en_C) (a : en_V) (ci : Nat) : Option (List en_V) := cond (Nat.beq a.1 4) (match w[a.2.toNat]? with
  | some ce => cond (Nat.beq ce.1 0 && Nat.beq ce.2.1 ci) (some ce.2.2.2.1) none
  | none => none) none
theorem en_obj_ok {a : en_V} {v : Value} {ci : Nat} {fa : List en_V} (hw : en_w kc ρ ws tys w) (hv : en_v kc ρ ws a v) (h : en_obj w a ci = some fa) : ∃ (q : Nat) (fs : List Value), v = .ref q ∧ ws[a.2.toNat]? = some (q, .inr (ci, fs)) ∧ en_f2 (en_v kc ρ ws) fa fs := by
  unfold en_obj at h
  cases h4 : Nat.beq a.1 4 with
  | false => rw [h4] at h; cases h
  | true =>
    rw [h4] at h
    obtain ⟨q, e, rfl, h5⟩ := hv.cell h4
    cases hc : w[a.2.toNat]? with
    | none => rw [hc] at h; cases h
    | some cell =>
      rw [hc] at h
      obtain ⟨t, n, d, fs, ex⟩ := cell
      dsimp only [cond_true] at h
      cases hb : (Nat.beq t 0 && Nat.beq n ci) with
      | false => rw [hb] at h; cases h
      | true =>
        rw [hb] at h
        rw [Bool.and_eq_true] at hb
        have e0 : t = 0 := Nat.eq_of_beq_eq_true hb.1
        have e1 : n = ci := Nat.eq_of_beq_eq_true hb.2
        subst e0
        subst e1
        cases h
        obtain ⟨q', e', h6, h7⟩ := hw.2 _ _ hc
        cases Option.some.inj (h5.symm.trans h6)
        obtain ⟨fs', rfl, h8⟩ := h7
        exact ⟨q, fs', rfl, h5, h8⟩
def en_gf (ci k nx : Nat) (L : en_L) (st : List en_V) (iv : en_I) (w : List en_C) (n1 n2 : Nat) : en_O := match st with
  | a :: r => match en_obj w a ci with
    | some fs => match fs[k]? with
      | some v => en_1 nx L (v :: r) iv w n1 n2
      | none => none
    | none => none
  | _ => none
theorem en_gf_ok {ci k x : Nat} {C : String} {T : u_T} {N : Nat} {ty : Nat → FieldType} (hx : p.tables.exec = Jvm.exec) (hb : c.code = cc) (hts : ∀ w ∈ Ts, w.before args s = true) (hown : s.vm.findClass own = some m.cls) (hcl : en_ci Ts ci C T N ty) (hk0 : k < N) (hlk : Cond.fieldLink own x (T k).1 (T k).2.1 (T k).2.2.1 ∈ Ts) (hdg : decode cc pc = .ok (.getfield x, 3))
    (hr : en_R kc D A s nL ρ ws tys H locs la sv L st iv w) (hk : en_Ks p l e Rm s m args below meth c Q kc D A nL ρ ws tys (en_gf ci k (pc + 3) L st iv w n1 n2)) : W p l e Rm s m args below meth c H locs n1 n2 Q (F0 m pc la sv) := by
  unfold en_gf at hk
  match st, hr, hk with
  | [], hr, hk => exact (en_no rfl hk).elim
  | a :: r, hr, hk =>
    obtain ⟨va, sv1, rfl, hva, hr1⟩ := hr.pop
    dsimp only at hk
    cases ho : en_obj w a ci with
    | none => rw [ho] at hk; exact (en_no rfl hk).elim
    | some fa =>
      rw [ho] at hk
      dsimp only at hk
      obtain ⟨-, -, -, hw, hK, hP, hD, hS⟩ := id hr1
      obtain ⟨q, fs, rfl, h5, h6⟩ := en_obj_ok hw hva ho
      cases hf : fa[k]? with
      | none => rw [hf] at hk; exact (en_no rfl hk).elim
      | some v =>
        rw [hf] at hk
        obtain ⟨v', h7, h8⟩ := en_f2_get h6 k v hf
        exact va_get (D := D) (ci := ci) (C := C) (T := T) (N := N) hx hb hts hcl.2.1 hown hK hP a.2.toNat h5 hcl.1 k hk0 (hts _ hlk) (fun _ h9 => h9) h7 hdg (hk.one en_pre.rf en_le.rf en_pre.rf (hr1.push h8))
def en_pf (ci k kt nx : Nat) (L : en_L) (st : List en_V) (iv : en_I) (w : List en_C) (n1 n2 : Nat) : en_O := match st with
  | v :: a :: r => match en_obj w a ci with
    | some fs => cond (en_fit kt iv v && Nat.blt k fs.length) (en_put w a.2.toNat (0, ci, (0, 0), fs.set k v, []) (fun w' => en_1 nx L r iv w' n1 n2)) none
    | none => none
  | _ => none
theorem en_pf_ok {ci k kt : Nat} (hr : en_R kc D A s nL ρ ws tys H locs la sv L st iv w)
    (row : ∀ (q q0 : Nat) (v : Value) (fs : List Value) (rest : List Value), ws[q0]? = some (q, .inr (ci, fs)) → (∀ ty, en_kt kt ty = true → narrow ty v = v ∧ fits ty v = true) → k < fs.length →
      (∀ (H1 : Heap) (locs1 : List Loc), va_P D en_cl (ws.set q0 (q, .inr (ci, fs.set k v))) H1 → va_D A (ws.set q0 (q, .inr (ci, fs.set k v))) → va_S A s.heap H1 locs1 → W p l e Rm s m args below meth c H1 locs1 n1 n2 Q (F0 m nx la rest)) → W p l e Rm s m args below meth c H locs n1 n2 Q (F0 m pc la (v :: .ref q :: rest)))
    (hk : en_Ks p l e Rm s m args below meth c Q kc D A nL ρ ws tys (en_pf ci k kt nx L st iv w n1 n2)) : W p l e Rm s m args below meth c H locs n1 n2 Q (F0 m pc la sv) := by
  unfold en_pf at hk
  simp only [en_put_eq] at hk
  match st, hr, hk with
  | [], hr, hk => exact (en_no rfl hk).elim
  | [_], hr, hk => exact (en_no rfl hk).elim
  | v :: a :: r, hr, hk =>
    obtain ⟨vv, sv1, rfl, hvv, hr1⟩ := hr.pop
    obtain ⟨va, sv2, rfl, hva, hr2⟩ := hr1.pop
    dsimp only at hk
    cases ho : en_obj w a ci with
    | none => rw [ho] at hk; exact (en_no rfl hk).elim
    | some fa =>
      rw [ho] at hk
      dsimp only at hk
      obtain ⟨q, fs, rfl, h5, h6⟩ := en_obj_ok hr2.2.2.2.1 hva ho
      cases hb : (en_fit kt iv v && Nat.blt k fa.length) with
      | false => rw [hb] at hk; exact (en_no rfl hk).elim
      | true =>
        rw [hb] at hk
        rw [Bool.and_eq_true] at hb
        refine row q a.2.toNat vv fs sv2 h5 (fun ty hty => en_fit_ok hr2.2.2.1 hvv hb.1 hty) (by rw [← en_f2_len h6]; exact en_blt hb.2) (fun H1 locs1 hP hD hS => ?_)
        refine hk.one en_pre.rf (en_le.set h5 _) en_pre.rf (hr2.heap h5 ⟨fs.set k vv, rfl, ?_⟩ hP hD hS)
        exact en_f2_mono (fun x y hxy => en_v.mono en_pre.rf (en_le.set h5 _) hxy) (en_f2_set hvv h6 k)
/-! arrays -/
/-- the int array (kd = 1) or boolean array (kd = 4) at a reference: length, default, exceptions -/
def en_arr (w : List en_C) (a : en_V) (kd : Nat) : Option (Nat × (Int × Int) × List (Nat × Int × Int)) := cond (Nat.beq a.1 4) (match w[a.2.toNat]? with
  | some ce => cond (Nat.beq ce.1 kd) (some (ce.2.1, ce.2.2.1, ce.2.2.2.2)) none
  | none => none) none
theorem en_arr_w {a : en_V} {v : Value} {kd : Nat} {z : Nat × (Int × Int) × List (Nat × Int × Int)} (hw : en_w kc ρ ws tys w) (hv : en_v kc ρ ws a v) (h : en_arr w a kd = some z) : ∃ (q : Nat) (e0 : va_E) (fl : List en_V), v = .ref q ∧ ws[a.2.toNat]? = some (q, e0) ∧ w[a.2.toNat]? = some (kd, z.1, z.2.1, fl, z.2.2) ∧ en_c kc ρ ws tys (kd, z.1, z.2.1, fl, z.2.2) e0 := by
  unfold en_arr at h
  cases h4 : Nat.beq a.1 4 with
  | false => rw [h4] at h; cases h
  | true =>
    rw [h4] at h
    obtain ⟨q, e, rfl, h5⟩ := hv.cell h4
    cases hc : w[a.2.toNat]? with
    | none => rw [hc] at h; cases h
    | some cell =>
      rw [hc] at h
      obtain ⟨t, n, d, fs, ex⟩ := cell
      dsimp only [cond_true] at h
      cases hb : Nat.beq t kd with
      | false => rw [hb] at h; cases h
      | true =>
        rw [hb] at h
        have e0 : t = kd := Nat.eq_of_beq_eq_true hb
        subst e0
        cases h
        obtain ⟨q', e', h6, h7⟩ := hw.2 _ _ hc
        cases Option.some.inj (h5.symm.trans h6)
        exact ⟨q, e, fs, rfl, h5, rfl, h7⟩
/-- an index within a length -/
def en_ix (iv : en_I) (i : en_V) (n : Nat) : Option (Int × Int) := match en_rng iv i with
  | some q => if 0 ≤ q.1 then (if q.2 < (n : Int) then some q else none) else none
  | none => none
theorem en_ix_ok {i : en_V} {v : Value} {n : Nat} {q : Int × Int} (hi : en_iv iv ρ) (hv : en_v kc ρ ws i v) (h : en_ix iv i n = some q) : ∃ x : Int32, v = .int x ∧ en_in q x ∧ vp_in x n ∧ x.toNatClampNeg < n ∧ (q.1 = q.2 → x.toNatClampNeg = q.1.toNat) := by
  unfold en_ix at h
  cases hr : en_rng iv i with
  | none => rw [hr] at h; cases h
  | some q' =>
    rw [hr] at h
    dsimp only at h
    split at h
    · split at h
      · cases h
        obtain ⟨x, rfl, h1, h2⟩ := en_rng_ok hi hv hr
        refine ⟨x, rfl, ⟨h1, h2⟩, vp_in_iff.mpr ⟨by omega, by omega⟩, by rw [en_cl_toNat]; omega, fun he => by rw [en_cl_toNat]; omega⟩
      · cases h
    · cases h
def en_ald (kd nx : Nat) (L : en_L) (st : List en_V) (iv : en_I) (w : List en_C) (n1 n2 : Nat) : en_O := match st with
  | i :: a :: r => match en_arr w a kd with
    | some z => match en_ix iv i z.1 with
      | some q => en_1 nx L ((en_mk iv (if q.1 = q.2 then en_el z.2.1 z.2.2 q.1.toNat else en_ja z.2.1 z.2.2)).1 :: r) (en_mk iv (if q.1 = q.2 then en_el z.2.1 z.2.2 q.1.toNat else en_ja z.2.1 z.2.2)).2 w n1 n2
      | none => none
    | none => none
  | _ => none
theorem en_ald_ok {kd : Nat} {tt : FieldType} (hkd : (kd = 1 ∧ tt = .int) ∨ (kd = 4 ∧ tt = .boolean)) (hr : en_R kc D A s nL ρ ws tys H locs la sv L st iv w)
    (row : ∀ (q q0 t0 : Nat) (cA : ClassId) (n : Nat) (f : Nat → Int32) (i : Int32) (rest : List Value), ws[q0]? = some (q, .inl (cA, n, .inl f)) → tys[t0]? = some (cA, tt) → vp_in i n → W p l e Rm s m args below meth c H locs n1 n2 Q (F0 m nx la (.int (f i.toNatClampNeg) :: rest)) → W p l e Rm s m args below meth c H locs n1 n2 Q (F0 m pc la (.int i :: .ref q :: rest)))
    (hk : en_Ks p l e Rm s m args below meth c Q kc D A nL ρ ws tys (en_ald kd nx L st iv w n1 n2)) : W p l e Rm s m args below meth c H locs n1 n2 Q (F0 m pc la sv) := by
  unfold en_ald at hk
  match st, hr, hk with
  | [], hr, hk => exact (en_no rfl hk).elim
  | [_], hr, hk => exact (en_no rfl hk).elim
  | i :: a :: r, hr, hk =>
    obtain ⟨vi, sv1, rfl, hvi, hr1⟩ := hr.pop
    obtain ⟨va, sv2, rfl, hva, hr2⟩ := hr1.pop
    dsimp only at hk
    cases ho : en_arr w a kd with
    | none => rw [ho] at hk; exact (en_no rfl hk).elim
    | some z =>
      rw [ho] at hk
      dsimp only at hk
      obtain ⟨q, e0, fl, rfl, h5, -, h7⟩ := en_arr_w hr2.2.2.2.1 hva ho
      cases hq : en_ix iv i z.1 with
      | none => rw [hq] at hk; exact (en_no rfl hk).elim
      | some qi =>
        rw [hq] at hk
        dsimp only at hk
        obtain ⟨x, rfl, hx1, hx2, hx3, hx4⟩ := en_ix_ok hr2.2.2.1 hvi hq
        have core : ∃ (cA : ClassId) (f : Nat → Int32) (t : Nat), e0 = .inl (cA, z.1, .inl f) ∧ tys[t]? = some (cA, tt) ∧ ∀ j, j < z.1 → en_in (en_el z.2.1 z.2.2 j) (f j) := by
          rcases hkd with ⟨rfl, rfl⟩ | ⟨rfl, rfl⟩
          · exact h7
          · exact h7
        obtain ⟨cA, f, t, rfl, h8, h9⟩ := core
        have hin : en_in (if qi.1 = qi.2 then en_el z.2.1 z.2.2 qi.1.toNat else en_ja z.2.1 z.2.2) (f x.toNatClampNeg) := by
          split
          · rename_i he
            rw [← hx4 he]
            exact h9 _ hx3
          · exact en_ja_ok (h9 _ hx3)
        obtain ⟨ρ', g1, g2, g3⟩ := hr2.mk hin
        exact row q a.2.toNat t cA z.1 f x sv2 h5 h8 hx2 (hk.one g1 en_le.rf en_pre.rf (g2.push g3))
def en_ast (kd nx : Nat) (L : en_L) (st : List en_V) (iv : en_I) (w : List en_C) (n1 n2 : Nat) : en_O := match st with
  | v :: i :: a :: r => match en_arr w a kd, en_rng iv v with
    | some z, some qv => match en_ix iv i z.1 with
      | some q => cond (Nat.beq kd 1 || en_01 iv v) (if q.1 = q.2 then en_put w a.2.toNat (kd, z.1, z.2.1, [], en_wr1 z.2.1 z.2.2 q.1.toNat qv) (fun w' => en_1 nx L r iv w' n1 n2) else en_put w a.2.toNat (kd, z.1, en_jn z.2.1 qv, [], en_wrX z.2.2 qv) (fun w' => en_1 nx L r iv w' n1 n2)) none
      | none => none
    | _, _ => none
  | _ => none
theorem en_ast_ok {kd : Nat} {tt : FieldType} (hkd : (kd = 1 ∧ tt = .int) ∨ (kd = 4 ∧ tt = .boolean)) (hr : en_R kc D A s nL ρ ws tys H locs la sv L st iv w)
    (row : ∀ (q q0 t0 : Nat) (cA : ClassId) (n : Nat) (f : Nat → Int32) (i x : Int32) (rest : List Value), ws[q0]? = some (q, .inl (cA, n, .inl f)) → tys[t0]? = some (cA, tt) → vp_in i n → (kd = 4 → x = 0 ∨ x = 1) → (∀ (H1 : Heap) (locs1 : List Loc), va_P D en_cl (ws.set q0 (q, .inl (cA, n, .inl (upd f i.toNatClampNeg x)))) H1 → va_D A (ws.set q0 (q, .inl (cA, n, .inl (upd f i.toNatClampNeg x)))) → va_S A s.heap H1 locs1 → W p l e Rm s m args below meth c H1 locs1 n1 n2 Q (F0 m nx la rest)) → W p l e Rm s m args below meth c H locs n1 n2 Q (F0 m pc la (.int x :: .int i :: .ref q :: rest)))
    (hk : en_Ks p l e Rm s m args below meth c Q kc D A nL ρ ws tys (en_ast kd nx L st iv w n1 n2)) : W p l e Rm s m args below meth c H locs n1 n2 Q (F0 m pc la sv) := by
  unfold en_ast at hk
  simp only [en_put_eq] at hk
  match st, hr, hk with
  | [], hr, hk => exact (en_no rfl hk).elim
  | [_], hr, hk => exact (en_no rfl hk).elim
  | [_, _], hr, hk => exact (en_no rfl hk).elim
  | v :: i :: a :: r, hr, hk =>
    obtain ⟨vv, sv0, rfl, hvv, hr0⟩ := hr.pop
    obtain ⟨vi, sv1, rfl, hvi, hr1⟩ := hr0.pop
    obtain ⟨va, sv2, rfl, hva, hr2⟩ := hr1.pop
    dsimp only at hk
    cases ho : en_arr w a kd with
    | none => rw [ho] at hk; exact (en_no rfl hk).elim
    | some z =>
      cases hv0 : en_rng iv v with
      | none => rw [ho, hv0] at hk; exact (en_no rfl hk).elim
      | some qv =>
        rw [ho, hv0] at hk
        dsimp only at hk
        obtain ⟨q, e0, fl, rfl, h5, -, h7⟩ := en_arr_w hr2.2.2.2.1 hva ho
        obtain ⟨y, rfl, hy⟩ := en_rng_ok hr2.2.2.1 hvv hv0
        cases hq : en_ix iv i z.1 with
        | none => rw [hq] at hk; exact (en_no rfl hk).elim
        | some qi =>
          rw [hq] at hk
          dsimp only at hk
          cases hbb : (Nat.beq kd 1 || en_01 iv v) with
          | false => rw [hbb] at hk; exact (en_no rfl hk).elim
          | true =>
            rw [hbb] at hk
            rw [cond_true] at hk
            obtain ⟨x, rfl, hx1, hx2, hx3, hx4⟩ := en_ix_ok hr2.2.2.1 hvi hq
            have core : ∃ (cA : ClassId) (f : Nat → Int32) (t : Nat), e0 = .inl (cA, z.1, .inl f) ∧ tys[t]? = some (cA, tt) ∧ ∀ j, j < z.1 → en_in (en_el z.2.1 z.2.2 j) (f j) := by
              rcases hkd with ⟨rfl, rfl⟩ | ⟨rfl, rfl⟩
              · exact h7
              · exact h7
            obtain ⟨cA, f, t, rfl, h8, h9⟩ := core
            refine row q a.2.toNat t cA z.1 f x y sv2 h5 h8 hx2 (fun h4 => ?_) (fun H1 locs1 hP hD hS => ?_)
            · subst h4
              have h01 : en_01 iv v = true := by
                cases h : en_01 iv v with
                | true => rfl
                | false => rw [h] at hbb; cases hbb
              rcases en_01_ok hr2.2.2.1 hvv h01 with h | h
              · exact Or.inl (Value.int.inj h)
              · exact Or.inr (Value.int.inj h)
            · have made : ∀ (d : Int × Int) (ex : List (Nat × Int × Int)), (∀ j, j < z.1 → en_in (en_el d ex j) (upd f x.toNatClampNeg y j)) → en_c kc ρ (ws.set a.2.toNat (q, .inl (cA, z.1, .inl (upd f x.toNatClampNeg y)))) tys (kd, z.1, d, [], ex) (.inl (cA, z.1, .inl (upd f x.toNatClampNeg y))) := by
                intro d ex hd
                rcases hkd with ⟨rfl, rfl⟩ | ⟨rfl, rfl⟩
                · exact ⟨cA, _, t, rfl, h8, hd⟩
                · exact ⟨cA, _, t, rfl, h8, hd⟩
              by_cases he : qi.1 = qi.2
              · rw [if_pos he] at hk
                refine hk.one en_pre.rf (en_le.set h5 _) en_pre.rf (hr2.heap h5 (made _ _ (fun j hj => ?_)) hP hD hS)
                rw [← hx4 he]
                refine en_wr1_ok hy (fun hne => ?_) (fun he2 => ?_)
                · rw [pk_un hne]; exact h9 j hj
                · rw [he2, pk_us]
              · rw [if_neg he] at hk
                refine hk.one en_pre.rf (en_le.set h5 _) en_pre.rf (hr2.heap h5 (made _ _ (fun j hj => ?_)) hP hD hS)
                refine en_wrX_ok ?_
                by_cases hjx : j = x.toNatClampNeg
                · rw [hjx, pk_us]; exact Or.inl hy
                · rw [pk_un hjx]; exact Or.inr (h9 j hj)
end ENH
