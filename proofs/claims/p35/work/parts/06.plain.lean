/-! THE ENGINE, 3: instructions that touch neither heap nor calls -/
section ENO
variable {p : Program} {l : Launch} {e : Env} {Rm : Room} {s : State} {m : MethodId} {args : Array Value} {below : List Frame} {meth : Method} {c : Code} {Q : State → Prop}
variable {kc : Nat → Nat} {D : va_G} {A : Nat → Prop} {nL : Nat} {cc : ByteArray}
variable {ρ : List Int32} {ws : va_W} {tys : List (ClassId × FieldType)} {H : Heap} {locs : List Loc} {la : Array Slot} {sv : List Value} {L : en_L} {st : List en_V} {iv : en_I} {w : List en_C} {n1 n2 pc nx : Nat}
/-- from every state that is described so, and is later, the machine comes to Q -/
def en_K (p : Program) (l : Launch) (e : Env) (Rm : Room) (s : State) (m : MethodId) (args : Array Value) (below : List Frame) (meth : Method) (c : Code) (Q : State → Prop) (kc : Nat → Nat) (D : va_G) (A : Nat → Prop) (nL : Nat) (ρ : List Int32) (ws : va_W) (tys : List (ClassId × FieldType)) (pc : Nat) (S : en_S) : Prop :=
  ∀ (ρ' : List Int32) (ws' : va_W) (tys' : List (ClassId × FieldType)) (H : Heap) (locs : List Loc) (la : Array Slot) (sv : List Value), en_pre ρ ρ' → en_le ws ws' → en_pre tys tys' →
    en_R kc D A s nL ρ' ws' tys' H locs la sv S.1 S.2.1 S.2.2.1 S.2.2.2.1 → W p l e Rm s m args below meth c H locs S.2.2.2.2.1 S.2.2.2.2.2 Q (F0 m pc la sv)
theorem en_K.later {S : en_S} {ρ' : List Int32} {ws' : va_W} {tys' : List (ClassId × FieldType)} (h1 : en_pre ρ ρ') (h2 : en_le ws ws') (h3 : en_pre tys tys') (h : en_K p l e Rm s m args below meth c Q kc D A nL ρ ws tys pc S) : en_K p l e Rm s m args below meth c Q kc D A nL ρ' ws' tys' pc S :=
  fun ρ2 ws2 tys2 H locs la sv g1 g2 g3 hr => h ρ2 ws2 tys2 H locs la sv (h1.tr g1) (h2.tr g2) (h3.tr g3) hr
/-- what a step leads to -/
abbrev en_O : Type := Option (List (Nat × en_S))
def en_1 (nx : Nat) (L : en_L) (st : List en_V) (iv : en_I) (w : List en_C) (n1 n2 : Nat) : en_O := some [(nx, L, st, iv, w, n1, n2)]
abbrev en_Ks (p : Program) (l : Launch) (e : Env) (Rm : Room) (s : State) (m : MethodId) (args : Array Value) (below : List Frame) (meth : Method) (c : Code) (Q : State → Prop) (kc : Nat → Nat) (D : va_G) (A : Nat → Prop) (nL : Nat) (ρ : List Int32) (ws : va_W) (tys : List (ClassId × FieldType)) (o : en_O) : Prop :=
  ∃ cs, o = some cs ∧ ∀ q ∈ cs, en_K p l e Rm s m args below meth c Q kc D A nL ρ ws tys q.1 q.2
theorem en_Ks.one (h : en_Ks p l e Rm s m args below meth c Q kc D A nL ρ ws tys (en_1 nx L st iv w n1 n2)) {ρ' : List Int32} {ws' : va_W} {tys' : List (ClassId × FieldType)} (h1 : en_pre ρ ρ') (h2 : en_le ws ws') (h3 : en_pre tys tys') (hr : en_R kc D A s nL ρ' ws' tys' H locs la sv L st iv w) : W p l e Rm s m args below meth c H locs n1 n2 Q (F0 m nx la sv) := by
  obtain ⟨cs, e1, h⟩ := h
  cases e1
  exact h _ (List.mem_singleton.mpr rfl) ρ' ws' tys' H locs la sv h1 h2 h3 hr
/-! kinds of values -/
theorem en_v.int {a : en_V} {v : Value} (hv : en_v kc ρ ws a v) (h : Nat.ble a.1 1 = true) : ∃ x : Int32, v = .int x := by
  obtain ⟨t, n⟩ := a
  unfold en_v at hv
  dsimp only at hv h
  match t, hv, h with
  | 0, hv, _ => obtain ⟨x, e, -⟩ := hv; exact ⟨x, e⟩
  | 1, hv, _ => obtain ⟨x, e, -⟩ := hv; exact ⟨x, e⟩
theorem en_v.long {a : en_V} {v : Value} (hv : en_v kc ρ ws a v) (h : en_wide a = true) : ∃ x : Int64, v = .long x := by
  obtain ⟨t, n⟩ := a
  unfold en_v at hv
  unfold en_wide at h
  dsimp only at hv h
  match t, hv, h with
  | 2, hv, _ => obtain ⟨x, e, -⟩ := hv; exact ⟨x, e⟩
  | 3, hv, _ => exact hv
def en_isR (a : en_V) : Bool := Nat.beq a.1 4 || (Nat.beq a.1 6 || Nat.beq a.1 7)
theorem en_v.ref {a : en_V} {v : Value} (hv : en_v kc ρ ws a v) (h : en_isR a = true) : ∃ x : Nat, v = .ref x := by
  obtain ⟨t, n⟩ := a
  unfold en_v at hv
  unfold en_isR at h
  dsimp only at hv h
  match t, hv, h with
  | 4, hv, _ => obtain ⟨q, e, e1, -⟩ := hv; exact ⟨q, e1⟩
  | 6, hv, _ => exact ⟨_, hv⟩
  | 7, hv, _ => exact hv
/-! constants, loads, stores -/
def en_push (nx : Nat) (a : en_V) (L : en_L) (st : List en_V) (iv : en_I) (w : List en_C) (n1 n2 : Nat) : en_O := en_1 nx L (a :: st) iv w n1 n2
theorem en_push_ok {a : en_V} {v : Value} (hr : en_R kc D A s nL ρ ws tys H locs la sv L st iv w) (hv : en_v kc ρ ws a v) (row : W p l e Rm s m args below meth c H locs n1 n2 Q (F0 m nx la (v :: sv)) → W p l e Rm s m args below meth c H locs n1 n2 Q (F0 m pc la sv))
    (hk : en_Ks p l e Rm s m args below meth c Q kc D A nL ρ ws tys (en_push nx a L st iv w n1 n2)) : W p l e Rm s m args below meth c H locs n1 n2 Q (F0 m pc la sv) :=
  row (hk.one en_pre.rf en_le.rf en_pre.rf (hr.push hv))
/-- a load: kd 0 int, 1 long, 2 reference -/
def en_kd (kd : Nat) (a : en_V) : Bool := match kd with
  | 0 => Nat.ble a.1 1
  | 1 => en_wide a
  | _ => en_isR a
def en_load (kd i nx : Nat) (L : en_L) (st : List en_V) (iv : en_I) (w : List en_C) (n1 n2 : Nat) : en_O := match en_get L i with
  | some a => cond (en_kd kd a) (en_1 nx L (a :: st) iv w n1 n2) none
  | none => none
theorem en_load_ok {kd i : Nat} (hr : en_R kc D A s nL ρ ws tys H locs la sv L st iv w)
    (row0 : kd = 0 → ∀ x : Int32, la[i]? = some (.val (.int x)) → W p l e Rm s m args below meth c H locs n1 n2 Q (F0 m nx la (.int x :: sv)) → W p l e Rm s m args below meth c H locs n1 n2 Q (F0 m pc la sv))
    (row1 : kd = 1 → ∀ x : Int64, la[i]? = some (.val (.long x)) → W p l e Rm s m args below meth c H locs n1 n2 Q (F0 m nx la (.long x :: sv)) → W p l e Rm s m args below meth c H locs n1 n2 Q (F0 m pc la sv))
    (row2 : 2 ≤ kd → ∀ x : Nat, la[i]? = some (.val (.ref x)) → W p l e Rm s m args below meth c H locs n1 n2 Q (F0 m nx la (.ref x :: sv)) → W p l e Rm s m args below meth c H locs n1 n2 Q (F0 m pc la sv))
    (hk : en_Ks p l e Rm s m args below meth c Q kc D A nL ρ ws tys (en_load kd i nx L st iv w n1 n2)) : W p l e Rm s m args below meth c H locs n1 n2 Q (F0 m pc la sv) := by
  unfold en_load at hk
  cases hg : en_get L i with
  | none => rw [hg] at hk; obtain ⟨cs, e1, -⟩ := hk; cases e1
  | some a =>
    rw [hg] at hk
    dsimp only at hk
    obtain ⟨v, h1, h2⟩ := hr.get hg
    cases hb : en_kd kd a with
    | false => rw [hb] at hk; exact (by obtain ⟨cs, e1, -⟩ := hk; cases e1)
    | true =>
      rw [hb] at hk
      have hk := hk.one en_pre.rf en_le.rf en_pre.rf (hr.push h2)
      match kd, row0, row1, row2, hb with
      | 0, row0, _, _, hb =>
        obtain ⟨x, rfl⟩ := h2.int hb
        exact row0 rfl x h1 hk
      | 1, _, row1, _, hb =>
        obtain ⟨x, rfl⟩ := h2.long hb
        exact row1 rfl x h1 hk
      | k + 2, _, _, row2, hb =>
        obtain ⟨x, rfl⟩ := h2.ref hb
        exact row2 (by omega) x h1 hk
/-- a store of an int or a reference; of a long -/
def en_store (kd i nx nL : Nat) (L : en_L) (st : List en_V) (iv : en_I) (w : List en_C) (n1 n2 : Nat) : en_O := match st with
  | a :: r => match kd with
    | 0 => cond (Nat.ble a.1 1 && Nat.blt i nL) (en_1 nx (en_sto L i a) r iv w n1 n2) none
    | 1 => cond (en_wide a && Nat.blt (i + 1) nL) (en_1 nx (en_sto2 L i a) r iv w n1 n2) none
    | _ => cond (en_isR a && Nat.blt i nL) (en_1 nx (en_sto L i a) r iv w n1 n2) none
  | [] => none
theorem en_blt {a b : Nat} (h : Nat.blt a b = true) : a < b := Nat.le_of_ble_eq_true h
theorem en_store_ok {kd i : Nat} (hr : en_R kc D A s nL ρ ws tys H locs la sv L st iv w)
    (row0 : kd = 0 → ∀ (x : Int32) (lv : List (Nat × Value)) (rest : List Value), lv_has la nL lv → i < nL → (∀ la' : Array Slot, lv_has la' nL ((i, .int x) :: lv.filter (fun q => !(q.1 == i) && !(q.1 + 1 == i && q.2.category == 2))) → W p l e Rm s m args below meth c H locs n1 n2 Q (F0 m nx la' rest)) → W p l e Rm s m args below meth c H locs n1 n2 Q (F0 m pc la (.int x :: rest)))
    (row1 : kd = 1 → ∀ (x : Int64) (lv : List (Nat × Value)) (rest : List Value), lv_has la nL lv → i + 1 < nL → (∀ la' : Array Slot, lv_has la' nL ((i, .long x) :: lv.filter (fun q => !(q.1 == i) && (!(q.1 == i + 1) && !(q.1 + 1 == i && q.2.category == 2)))) → W p l e Rm s m args below meth c H locs n1 n2 Q (F0 m nx la' rest)) → W p l e Rm s m args below meth c H locs n1 n2 Q (F0 m pc la (.long x :: rest)))
    (row2 : 2 ≤ kd → ∀ (x : Nat) (lv : List (Nat × Value)) (rest : List Value), lv_has la nL lv → i < nL → (∀ la' : Array Slot, lv_has la' nL ((i, .ref x) :: lv.filter (fun q => !(q.1 == i) && !(q.1 + 1 == i && q.2.category == 2))) → W p l e Rm s m args below meth c H locs n1 n2 Q (F0 m nx la' rest)) → W p l e Rm s m args below meth c H locs n1 n2 Q (F0 m pc la (.ref x :: rest)))
    (hk : en_Ks p l e Rm s m args below meth c Q kc D A nL ρ ws tys (en_store kd i nx nL L st iv w n1 n2)) : W p l e Rm s m args below meth c H locs n1 n2 Q (F0 m pc la sv) := by
  unfold en_store at hk
  cases st with
  | nil => obtain ⟨cs, e1, -⟩ := hk; cases e1
  | cons a r =>
    obtain ⟨v, sv', rfl, hv, hr'⟩ := hr.pop
    obtain ⟨lv, g1, g2⟩ := hr'.1
    match kd, row0, row1, row2, hk with
    | 0, row0, _, _, hk =>
      cases hb : (Nat.ble a.1 1 && Nat.blt i nL) with
      | false => simp only [hb] at hk; obtain ⟨cs, e1, -⟩ := hk; cases e1
      | true =>
        simp only [hb] at hk
        rw [Bool.and_eq_true] at hb
        obtain ⟨x, rfl⟩ := hv.int hb.1
        exact row0 rfl x lv sv' g1 (en_blt hb.2) (fun la' hl => hk.one en_pre.rf en_le.rf en_pre.rf (hr'.sto g2 hv hl))
    | 1, _, row1, _, hk =>
      cases hb : (en_wide a && Nat.blt (i + 1) nL) with
      | false => simp only [hb] at hk; obtain ⟨cs, e1, -⟩ := hk; cases e1
      | true =>
        simp only [hb] at hk
        rw [Bool.and_eq_true] at hb
        obtain ⟨x, rfl⟩ := hv.long hb.1
        exact row1 rfl x lv sv' g1 (en_blt hb.2) (fun la' hl => hk.one en_pre.rf en_le.rf en_pre.rf (hr'.sto2 g2 hv hl))
    | k + 2, _, _, row2, hk =>
      cases hb : (en_isR a && Nat.blt i nL) with
      | false => simp only [hb] at hk; obtain ⟨cs, e1, -⟩ := hk; cases e1
      | true =>
        simp only [hb] at hk
        rw [Bool.and_eq_true] at hb
        obtain ⟨x, rfl⟩ := hv.ref hb.1
        exact row2 (by omega) x lv sv' g1 (en_blt hb.2) (fun la' hl => hk.one en_pre.rf en_le.rf en_pre.rf (hr'.sto g2 hv hl))
/-! int arithmetic -/
def en_sem (k : Nat) (x y : Int32) : Int32 := match k with
  | 0 => x + y
  | 1 => x - y
  | 2 => x * y
  | 3 => x &&& y
  | 4 => x ||| y
  | 5 => x ^^^ y
  | 6 => x <<< (y &&& 31)
  | 7 => x >>> (y &&& 31)
  | 8 => (x.toUInt32 >>> (y.toUInt32 &&& Int32.toUInt32 31)).toInt32
  | 9 => x / y
  | _ => x - x / y * y
def en_bin (k : Nat) (qa qb : Int × Int) : Int × Int := if qa.1 = qa.2 then (if qb.1 = qb.2 then ((en_sem k (Int32.ofInt qa.1) (Int32.ofInt qb.1)).toInt, (en_sem k (Int32.ofInt qa.1) (Int32.ofInt qb.1)).toInt) else (en_lo, en_hi)) else (en_lo, en_hi)
theorem en_in_one {q : Int × Int} {x : Int32} (h : en_in q x) (hq : q.1 = q.2) : Int32.ofInt q.1 = x := by
  have : q.1 = x.toInt := by have := h.1; have := h.2; omega
  rw [this, Int32.ofInt_toInt]
theorem en_bin_ok {qa qb : Int × Int} {x y : Int32} (k : Nat) (hx : en_in qa x) (hy : en_in qb y) : en_in (en_bin k qa qb) (en_sem k x y) := by
  unfold en_bin
  split
  · split
    · rename_i h1 h2
      rw [en_in_one hx h1, en_in_one hy h2]
      exact ⟨Int.le_refl _, Int.le_refl _⟩
    · exact en_in_all _
  · exact en_in_all _
def en_ib (k nx : Nat) (L : en_L) (st : List en_V) (iv : en_I) (w : List en_C) (n1 n2 : Nat) : en_O := match st with
  | b :: a :: r => match en_rng iv a, en_rng iv b with
    | some qa, some qb => en_1 nx L ((en_mk iv (en_bin k qa qb)).1 :: r) (en_mk iv (en_bin k qa qb)).2 w n1 n2
    | _, _ => none
  | _ => none
theorem en_no {o : en_O} (ho : o = none) (hk : en_Ks p l e Rm s m args below meth c Q kc D A nL ρ ws tys o) : False := by
  obtain ⟨cs, e1, -⟩ := hk
  rw [ho] at e1
  cases e1
theorem en_ib_ok {k : Nat} (hr : en_R kc D A s nL ρ ws tys H locs la sv L st iv w)
    (row : ∀ (x y : Int32) (rest : List Value), W p l e Rm s m args below meth c H locs n1 n2 Q (F0 m nx la (.int (en_sem k x y) :: rest)) → W p l e Rm s m args below meth c H locs n1 n2 Q (F0 m pc la (.int y :: .int x :: rest)))
    (hk : en_Ks p l e Rm s m args below meth c Q kc D A nL ρ ws tys (en_ib k nx L st iv w n1 n2)) : W p l e Rm s m args below meth c H locs n1 n2 Q (F0 m pc la sv) := by
  unfold en_ib at hk
  match st, hr, hk with
  | [], hr, hk => exact (en_no rfl hk).elim
  | [_], hr, hk => exact (en_no rfl hk).elim
  | b :: a :: r, hr, hk =>
    obtain ⟨vb, sv1, rfl, hvb, hr1⟩ := hr.pop
    obtain ⟨va, sv2, rfl, hva, hr2⟩ := hr1.pop
    dsimp only at hk
    cases ha : en_rng iv a with
    | none => rw [ha] at hk; exact (en_no rfl hk).elim
    | some qa =>
      cases hb : en_rng iv b with
      | none => rw [ha, hb] at hk; exact (en_no rfl hk).elim
      | some qb =>
        rw [ha, hb] at hk
        obtain ⟨x, rfl, hx⟩ := en_rng_ok hr.2.2.1 hva ha
        obtain ⟨y, rfl, hy⟩ := en_rng_ok hr.2.2.1 hvb hb
        obtain ⟨ρ', g1, g2, g3⟩ := hr2.mk (en_bin_ok k hx hy)
        exact row x y sv2 (hk.one g1 en_le.rf en_pre.rf (g2.push g3))
/-- division and remainder -/
def en_id (k nx : Nat) (L : en_L) (st : List en_V) (iv : en_I) (w : List en_C) (n1 n2 : Nat) : en_O := match st with
  | b :: a :: r => match en_rng iv a, en_rng iv b with
    | some qa, some qb => if 0 < qb.1 then en_1 nx L ((en_mk iv (en_bin k qa qb)).1 :: r) (en_mk iv (en_bin k qa qb)).2 w n1 n2 else none
    | _, _ => none
  | _ => none
theorem en_id_ok {k : Nat} (hr : en_R kc D A s nL ρ ws tys H locs la sv L st iv w)
    (row : ∀ (x y : Int32) (rest : List Value), ¬ y = 0 → W p l e Rm s m args below meth c H locs n1 n2 Q (F0 m nx la (.int (en_sem k x y) :: rest)) → W p l e Rm s m args below meth c H locs n1 n2 Q (F0 m pc la (.int y :: .int x :: rest)))
    (hk : en_Ks p l e Rm s m args below meth c Q kc D A nL ρ ws tys (en_id k nx L st iv w n1 n2)) : W p l e Rm s m args below meth c H locs n1 n2 Q (F0 m pc la sv) := by
  unfold en_id at hk
  match st, hr, hk with
  | [], hr, hk => exact (en_no rfl hk).elim
  | [_], hr, hk => exact (en_no rfl hk).elim
  | b :: a :: r, hr, hk =>
    obtain ⟨vb, sv1, rfl, hvb, hr1⟩ := hr.pop
    obtain ⟨va, sv2, rfl, hva, hr2⟩ := hr1.pop
    dsimp only at hk
    cases ha : en_rng iv a with
    | none => rw [ha] at hk; exact (en_no rfl hk).elim
    | some qa =>
      cases hb : en_rng iv b with
      | none => rw [ha, hb] at hk; exact (en_no rfl hk).elim
      | some qb =>
        rw [ha, hb] at hk
        obtain ⟨x, rfl, hx⟩ := en_rng_ok hr.2.2.1 hva ha
        obtain ⟨y, rfl, hy⟩ := en_rng_ok hr.2.2.1 hvb hb
        dsimp only at hk
        by_cases h0 : 0 < qb.1
        · rw [if_pos h0] at hk
          obtain ⟨ρ', g1, g2, g3⟩ := hr2.mk (en_bin_ok k hx hy)
          refine row x y sv2 (fun e0 => ?_) (hk.one g1 en_le.rf en_pre.rf (g2.push g3))
          have h1 := hy.1
          rw [e0] at h1
          have h2 : (0 : Int32).toInt = 0 := rfl
          omega
        · rw [if_neg h0] at hk
          exact (en_no rfl hk).elim
def en_iinc (i : Nat) (n : Int) (nx nL : Nat) (L : en_L) (st : List en_V) (iv : en_I) (w : List en_C) (n1 n2 : Nat) : en_O := match en_get L i with
  | some a => match en_rng iv a with
    | some qa => cond (Nat.blt i nL) (en_1 nx (en_sto L i (en_mk iv (en_bin 0 qa ((Int32.ofInt n).toInt, (Int32.ofInt n).toInt))).1) st (en_mk iv (en_bin 0 qa ((Int32.ofInt n).toInt, (Int32.ofInt n).toInt))).2 w n1 n2) none
    | none => none
  | none => none
theorem en_iinc_ok {i : Nat} {n : Int} (hr : en_R kc D A s nL ρ ws tys H locs la sv L st iv w)
    (row : ∀ (k : Nat) (x v : Int32) (lv : List (Nat × Value)), lv_has la nL lv → lv[k]? = some (i, .int x) → x + Int32.ofInt n = v → i < nL → (∀ la' : Array Slot, lv_has la' nL ((i, .int v) :: lv.filter (fun q => !(q.1 == i) && !(q.1 + 1 == i && q.2.category == 2))) → W p l e Rm s m args below meth c H locs n1 n2 Q (F0 m nx la' sv)) → W p l e Rm s m args below meth c H locs n1 n2 Q (F0 m pc la sv))
    (hk : en_Ks p l e Rm s m args below meth c Q kc D A nL ρ ws tys (en_iinc i n nx nL L st iv w n1 n2)) : W p l e Rm s m args below meth c H locs n1 n2 Q (F0 m pc la sv) := by
  unfold en_iinc at hk
  cases hg : en_get L i with
  | none => rw [hg] at hk; exact (en_no rfl hk).elim
  | some a =>
    rw [hg] at hk
    dsimp only at hk
    cases ha : en_rng iv a with
    | none => rw [ha] at hk; exact (en_no rfl hk).elim
    | some qa =>
      rw [ha] at hk
      dsimp only at hk
      cases hb : Nat.blt i nL with
      | false => rw [hb] at hk; exact (en_no rfl hk).elim
      | true =>
        rw [hb] at hk
        obtain ⟨lv, h1, h2⟩ := hr.1
        obtain ⟨k, v, h3, h4⟩ := en_get_ok (fun a b q => q.1) h2 hg
        obtain ⟨x, rfl, hx⟩ := en_rng_ok hr.2.2.1 h4.2 ha
        obtain ⟨ρ', g1, g2, g3⟩ := hr.mk (en_bin_ok 0 hx (y := Int32.ofInt n) (qb := ((Int32.ofInt n).toInt, (Int32.ofInt n).toInt)) ⟨Int.le_refl _, Int.le_refl _⟩)
        exact row k x _ lv h1 h3 rfl (en_blt hb) (fun la' hl => hk.one g1 en_le.rf en_pre.rf (g2.sto (en_f2_mono (fun a b q => ⟨q.1, q.2.mono g1 en_le.rf⟩) h2) g3 hl))
/-! longs -/
def en_lsem (k : Nat) (x y : Int64) : Int64 := match k with
  | 0 => x + y
  | 1 => x - y
  | 2 => x * y
  | 3 => x &&& y
  | 4 => x ||| y
  | 5 => x ^^^ y
  | 6 => x / y
  | _ => x - x / y * y
def en_lv2 (k : Nat) (a b : en_V) : en_V := cond (Nat.beq a.1 2 && Nat.beq b.1 2) (2, (en_lsem k (Int64.ofInt a.2) (Int64.ofInt b.2)).toInt) (3, 0)
theorem en_v.lit {a : en_V} {x : Int64} (hv : en_v kc ρ ws a (.long x)) (h : Nat.beq a.1 2 = true) : Int64.ofInt a.2 = x ∧ x.toInt = a.2 := by
  obtain ⟨t, n⟩ := a
  have ht : t = 2 := Nat.eq_of_beq_eq_true h
  subst ht
  obtain ⟨y, e1, e2⟩ := hv
  cases e1
  have e2 : x.toInt = n := e2
  exact ⟨by show Int64.ofInt n = x; rw [← e2, Int64.ofInt_toInt], e2⟩
theorem en_lv2_ok {k : Nat} {a b : en_V} {x y : Int64} (ha : en_v kc ρ ws a (.long x)) (hb : en_v kc ρ ws b (.long y)) : en_v kc ρ ws (en_lv2 k a b) (.long (en_lsem k x y)) := by
  unfold en_lv2
  cases h : (Nat.beq a.1 2 && Nat.beq b.1 2) with
  | false => exact ⟨_, rfl⟩
  | true =>
    rw [Bool.and_eq_true] at h
    rw [(ha.lit h.1).1, (hb.lit h.2).1]
    exact ⟨_, rfl, rfl⟩
def en_lb (k nx : Nat) (L : en_L) (st : List en_V) (iv : en_I) (w : List en_C) (n1 n2 : Nat) : en_O := match st with
  | b :: a :: r => cond (en_wide a && en_wide b) (en_1 nx L (en_lv2 k a b :: r) iv w n1 n2) none
  | _ => none
theorem en_lb_ok {k : Nat} (hr : en_R kc D A s nL ρ ws tys H locs la sv L st iv w)
    (row : ∀ (x y : Int64) (rest : List Value), W p l e Rm s m args below meth c H locs n1 n2 Q (F0 m nx la (.long (en_lsem k x y) :: rest)) → W p l e Rm s m args below meth c H locs n1 n2 Q (F0 m pc la (.long y :: .long x :: rest)))
    (hk : en_Ks p l e Rm s m args below meth c Q kc D A nL ρ ws tys (en_lb k nx L st iv w n1 n2)) : W p l e Rm s m args below meth c H locs n1 n2 Q (F0 m pc la sv) := by
  unfold en_lb at hk
  match st, hr, hk with
  | [], hr, hk => exact (en_no rfl hk).elim
  | [_], hr, hk => exact (en_no rfl hk).elim
  | b :: a :: r, hr, hk =>
    obtain ⟨vb, sv1, rfl, hvb, hr1⟩ := hr.pop
    obtain ⟨va, sv2, rfl, hva, hr2⟩ := hr1.pop
    dsimp only at hk
    cases h : (en_wide a && en_wide b) with
    | false => rw [h] at hk; exact (en_no rfl hk).elim
    | true =>
      rw [h] at hk
      rw [Bool.and_eq_true] at h
      obtain ⟨x, rfl⟩ := hva.long h.1
      obtain ⟨y, rfl⟩ := hvb.long h.2
      exact row x y sv2 (hk.one en_pre.rf en_le.rf en_pre.rf (hr2.push (en_lv2_ok hva hvb)))
/-- ldiv, lrem by a literal that isn't 0 -/
def en_ld (k nx : Nat) (L : en_L) (st : List en_V) (iv : en_I) (w : List en_C) (n1 n2 : Nat) : en_O := match st with
  | b :: a :: r => cond (en_wide a && (Nat.beq b.1 2 && decide (b.2 ≠ 0))) (en_1 nx L (en_lv2 k a b :: r) iv w n1 n2) none
  | _ => none
theorem en_ld_ok {k : Nat} (hr : en_R kc D A s nL ρ ws tys H locs la sv L st iv w)
    (row : ∀ (x y : Int64) (rest : List Value), ¬ y = 0 → W p l e Rm s m args below meth c H locs n1 n2 Q (F0 m nx la (.long (en_lsem k x y) :: rest)) → W p l e Rm s m args below meth c H locs n1 n2 Q (F0 m pc la (.long y :: .long x :: rest)))
    (hk : en_Ks p l e Rm s m args below meth c Q kc D A nL ρ ws tys (en_ld k nx L st iv w n1 n2)) : W p l e Rm s m args below meth c H locs n1 n2 Q (F0 m pc la sv) := by
  unfold en_ld at hk
  match st, hr, hk with
  | [], hr, hk => exact (en_no rfl hk).elim
  | [_], hr, hk => exact (en_no rfl hk).elim
  | b :: a :: r, hr, hk =>
    obtain ⟨vb, sv1, rfl, hvb, hr1⟩ := hr.pop
    obtain ⟨va, sv2, rfl, hva, hr2⟩ := hr1.pop
    dsimp only at hk
    cases h : (en_wide a && (Nat.beq b.1 2 && decide (b.2 ≠ 0))) with
    | false => rw [h] at hk; exact (en_no rfl hk).elim
    | true =>
      rw [h] at hk
      rw [Bool.and_eq_true, Bool.and_eq_true, decide_eq_true_eq] at h
      obtain ⟨x, rfl⟩ := hva.long h.1
      obtain ⟨y, rfl⟩ := hvb.long (by unfold en_wide; rw [h.2.1]; rfl)
      refine row x y sv2 (fun e0 => ?_) (hk.one en_pre.rf en_le.rf en_pre.rf (hr2.push (en_lv2_ok hva hvb)))
      have h3 := (hvb.lit h.2.1).2
      rw [e0] at h3
      exact h.2.2 h3.symm
def en_i2l (nx : Nat) (L : en_L) (st : List en_V) (iv : en_I) (w : List en_C) (n1 n2 : Nat) : en_O := match st with
  | a :: r => match en_rng iv a with
    | some q => en_1 nx L ((if q.1 = q.2 then ((2, q.1) : en_V) else (3, 0)) :: r) iv w n1 n2
    | none => none
  | _ => none
theorem en_i2l_ok (hr : en_R kc D A s nL ρ ws tys H locs la sv L st iv w)
    (row : ∀ (x : Int32) (rest : List Value), W p l e Rm s m args below meth c H locs n1 n2 Q (F0 m nx la (.long x.toInt64 :: rest)) → W p l e Rm s m args below meth c H locs n1 n2 Q (F0 m pc la (.int x :: rest)))
    (hk : en_Ks p l e Rm s m args below meth c Q kc D A nL ρ ws tys (en_i2l nx L st iv w n1 n2)) : W p l e Rm s m args below meth c H locs n1 n2 Q (F0 m pc la sv) := by
  unfold en_i2l at hk
  match st, hr, hk with
  | [], hr, hk => exact (en_no rfl hk).elim
  | a :: r, hr, hk =>
    obtain ⟨va, sv1, rfl, hva, hr1⟩ := hr.pop
    dsimp only at hk
    cases ha : en_rng iv a with
    | none => rw [ha] at hk; exact (en_no rfl hk).elim
    | some q =>
      rw [ha] at hk
      obtain ⟨x, rfl, hx⟩ := en_rng_ok hr.2.2.1 hva ha
      refine row x sv1 (hk.one en_pre.rf en_le.rf en_pre.rf (hr1.push ?_))
      split
      · rename_i hq
        refine ⟨_, rfl, ?_⟩
        show x.toInt64.toInt = q.1
        rw [Int32.toInt_toInt64]
        have := hx.1; have := hx.2
        omega
      · exact ⟨_, rfl⟩
def en_l2i (nx : Nat) (L : en_L) (st : List en_V) (iv : en_I) (w : List en_C) (n1 n2 : Nat) : en_O := match st with
  | a :: r => cond (Nat.beq a.1 2) (en_1 nx L ((0, (Int64.ofInt a.2).toInt32.toInt) :: r) iv w n1 n2) (cond (Nat.beq a.1 3) (en_1 nx L ((en_mk iv (en_lo, en_hi)).1 :: r) (en_mk iv (en_lo, en_hi)).2 w n1 n2) none)
  | _ => none
theorem en_l2i_ok (hr : en_R kc D A s nL ρ ws tys H locs la sv L st iv w)
    (row : ∀ (x : Int64) (rest : List Value), W p l e Rm s m args below meth c H locs n1 n2 Q (F0 m nx la (.int x.toInt32 :: rest)) → W p l e Rm s m args below meth c H locs n1 n2 Q (F0 m pc la (.long x :: rest)))
    (hk : en_Ks p l e Rm s m args below meth c Q kc D A nL ρ ws tys (en_l2i nx L st iv w n1 n2)) : W p l e Rm s m args below meth c H locs n1 n2 Q (F0 m pc la sv) := by
  unfold en_l2i at hk
  match st, hr, hk with
  | [], hr, hk => exact (en_no rfl hk).elim
  | a :: r, hr, hk =>
    obtain ⟨va, sv1, rfl, hva, hr1⟩ := hr.pop
    dsimp only at hk
    cases h2 : Nat.beq a.1 2 with
    | true =>
      rw [h2] at hk
      obtain ⟨x, rfl⟩ := hva.long (by unfold en_wide; rw [h2]; rfl)
      have h3 := (hva.lit h2).1
      rw [h3] at hk
      exact row x sv1 (hk.one en_pre.rf en_le.rf en_pre.rf (hr1.push ⟨_, rfl, rfl⟩))
    | false =>
      cases h3 : Nat.beq a.1 3 with
      | true =>
        rw [h2, h3] at hk
        obtain ⟨x, rfl⟩ := hva.long (by unfold en_wide; rw [h3, h2]; rfl)
        obtain ⟨ρ', g1, g2, g3⟩ := hr1.mk (en_in_all x.toInt32)
        exact row x sv1 (hk.one g1 en_le.rf en_pre.rf (g2.push g3))
      | false => rw [h2, h3] at hk; exact (en_no rfl hk).elim
def en_lcmp (nx : Nat) (L : en_L) (st : List en_V) (iv : en_I) (w : List en_C) (n1 n2 : Nat) : en_O := match st with
  | b :: a :: r => cond (en_wide a && en_wide b) (cond (Nat.beq a.1 2 && Nat.beq b.1 2) (en_1 nx L ((0, (lg_cmp (Int64.ofInt a.2) (Int64.ofInt b.2)).toInt) :: r) iv w n1 n2) (en_1 nx L ((en_mk iv (en_lo, en_hi)).1 :: r) (en_mk iv (en_lo, en_hi)).2 w n1 n2)) none
  | _ => none
theorem en_lcmp_ok (hr : en_R kc D A s nL ρ ws tys H locs la sv L st iv w)
    (row : ∀ (x y : Int64) (rest : List Value), W p l e Rm s m args below meth c H locs n1 n2 Q (F0 m nx la (.int (lg_cmp x y) :: rest)) → W p l e Rm s m args below meth c H locs n1 n2 Q (F0 m pc la (.long y :: .long x :: rest)))
    (hk : en_Ks p l e Rm s m args below meth c Q kc D A nL ρ ws tys (en_lcmp nx L st iv w n1 n2)) : W p l e Rm s m args below meth c H locs n1 n2 Q (F0 m pc la sv) := by
  unfold en_lcmp at hk
  match st, hr, hk with
  | [], hr, hk => exact (en_no rfl hk).elim
  | [_], hr, hk => exact (en_no rfl hk).elim
  | b :: a :: r, hr, hk =>
    obtain ⟨vb, sv1, rfl, hvb, hr1⟩ := hr.pop
    obtain ⟨va, sv2, rfl, hva, hr2⟩ := hr1.pop
    dsimp only at hk
    cases h : (en_wide a && en_wide b) with
    | false => rw [h] at hk; exact (en_no rfl hk).elim
    | true =>
      rw [h] at hk
      rw [Bool.and_eq_true] at h
      obtain ⟨x, rfl⟩ := hva.long h.1
      obtain ⟨y, rfl⟩ := hvb.long h.2
      cases h2 : (Nat.beq a.1 2 && Nat.beq b.1 2) with
      | true =>
        rw [h2] at hk
        rw [Bool.and_eq_true] at h2
        rw [(hva.lit h2.1).1, (hvb.lit h2.2).1] at hk
        exact row x y sv2 (hk.one en_pre.rf en_le.rf en_pre.rf (hr2.push ⟨_, rfl, rfl⟩))
      | false =>
        rw [h2] at hk
        obtain ⟨ρ', g1, g2, g3⟩ := hr2.mk (en_in_all (lg_cmp x y))
        exact row x y sv2 (hk.one g1 en_le.rf en_pre.rf (g2.push g3))
/-- longs moved: 0 << 1 >>> 2 >> -/
def en_lsf (k : Nat) (x : Int64) (y : Int32) : Int64 := match k with
  | 0 => x <<< (y.toInt64 &&& 63)
  | 1 => (x.toUInt64 >>> (y.toInt64.toUInt64 &&& Int64.toUInt64 63)).toInt64
  | _ => x >>> (y.toInt64 &&& 63)
/-- a shift of a long by an int: known where both are -/
def en_lsh (k : Nat) (nx : Nat) (L : en_L) (st : List en_V) (iv : en_I) (w : List en_C) (n1 n2 : Nat) : en_O := match st with
  | b :: a :: r => cond (en_wide a && Nat.ble b.1 1) (en_1 nx L (cond (Nat.beq a.1 2 && Nat.beq b.1 0) (2, (en_lsf k (Int64.ofInt a.2) (Int32.ofInt b.2)).toInt) (3, 0) :: r) iv w n1 n2) none
  | _ => none
theorem en_lsh_ok {k : Nat} (hr : en_R kc D A s nL ρ ws tys H locs la sv L st iv w)
    (row : ∀ (x : Int64) (y : Int32) (rest : List Value), W p l e Rm s m args below meth c H locs n1 n2 Q (F0 m nx la (.long (en_lsf k x y) :: rest)) → W p l e Rm s m args below meth c H locs n1 n2 Q (F0 m pc la (.int y :: .long x :: rest)))
    (hk : en_Ks p l e Rm s m args below meth c Q kc D A nL ρ ws tys (en_lsh k nx L st iv w n1 n2)) : W p l e Rm s m args below meth c H locs n1 n2 Q (F0 m pc la sv) := by
  unfold en_lsh at hk
  match st, hr, hk with
  | [], hr, hk => exact (en_no rfl hk).elim
  | [_], hr, hk => exact (en_no rfl hk).elim
  | b :: a :: r, hr, hk =>
    obtain ⟨vb, sv1, rfl, hvb, hr1⟩ := hr.pop
    obtain ⟨va, sv2, rfl, hva, hr2⟩ := hr1.pop
    dsimp only at hk
    cases h : (en_wide a && Nat.ble b.1 1) with
    | false => rw [h] at hk; exact (en_no rfl hk).elim
    | true =>
      rw [h] at hk
      rw [Bool.and_eq_true] at h
      obtain ⟨x, rfl⟩ := hva.long h.1
      obtain ⟨y, rfl⟩ := hvb.int h.2
      refine row x y sv2 (hk.one en_pre.rf en_le.rf en_pre.rf (hr2.push ?_))
      cases hz : (Nat.beq a.1 2 && Nat.beq b.1 0) with
      | false => exact ⟨_, rfl⟩
      | true =>
        rw [Bool.and_eq_true] at hz
        have e1 := (hva.lit hz.1).1
        have e2 : Int32.ofInt b.2 = y := by
          obtain ⟨tb, nb⟩ := b
          cases Nat.eq_of_beq_eq_true hz.2
          obtain ⟨y', hy, hy2⟩ := hvb
          cases hy
          have hy2 : y.toInt = nb := hy2
          show Int32.ofInt nb = y
          rw [← hy2]
          exact Int32.ofInt_toInt y
        rw [e1, e2]
        exact ⟨_, rfl, rfl⟩
def en_dup (nx : Nat) (L : en_L) (st : List en_V) (iv : en_I) (w : List en_C) (n1 n2 : Nat) : en_O := match st with
  | a :: r => cond (en_wide a) none (en_1 nx L (a :: a :: r) iv w n1 n2)
  | _ => none
theorem en_v.one {a : en_V} {v : Value} (h : en_v kc ρ ws a v) (hw : en_wide a = false) : v.category = 1 := by
  have h1 := h.cat
  rw [hw] at h1
  rcases lv_cat v with h2 | h2
  · exact h2
  · rw [h2] at h1; cases h1
theorem en_dup_ok (hr : en_R kc D A s nL ρ ws tys H locs la sv L st iv w)
    (row : ∀ (v : Value) (rest : List Value), v.category = 1 → W p l e Rm s m args below meth c H locs n1 n2 Q (F0 m nx la (v :: v :: rest)) → W p l e Rm s m args below meth c H locs n1 n2 Q (F0 m pc la (v :: rest)))
    (hk : en_Ks p l e Rm s m args below meth c Q kc D A nL ρ ws tys (en_dup nx L st iv w n1 n2)) : W p l e Rm s m args below meth c H locs n1 n2 Q (F0 m pc la sv) := by
  unfold en_dup at hk
  match st, hr, hk with
  | [], hr, hk => exact (en_no rfl hk).elim
  | a :: r, hr, hk =>
    obtain ⟨va, sv1, rfl, hva, hr1⟩ := hr.pop
    dsimp only at hk
    cases h : en_wide a with
    | true => rw [h] at hk; exact (en_no rfl hk).elim
    | false =>
      rw [h] at hk
      exact row va sv1 (hva.one h) (hk.one en_pre.rf en_le.rf en_pre.rf (hr.push hva))
/-! branches -/
def en_two (tgt nx : Nat) (L : en_L) (r : List en_V) (w : List en_C) (n1 n2 : Nat) (o : Option en_I × Option en_I) : en_O := match o.1, o.2 with
  | some i1, some i2 => some [(tgt, L, r, i1, w, n1, n2), (nx, L, r, i2, w, n1, n2)]
  | some i1, none => some [(tgt, L, r, i1, w, n1, n2)]
  | none, some i2 => some [(nx, L, r, i2, w, n1, n2)]
  | none, none => some []
theorem en_two_t {tgt : Nat} {o : Option en_I × Option en_I} {i1 : en_I} (h1 : o.1 = some i1) (hi : en_iv i1 ρ) (hr : en_R kc D A s nL ρ ws tys H locs la sv L st iv w)
    (hk : en_Ks p l e Rm s m args below meth c Q kc D A nL ρ ws tys (en_two tgt nx L st w n1 n2 o)) : W p l e Rm s m args below meth c H locs n1 n2 Q (F0 m tgt la sv) := by
  obtain ⟨cs, e1, hk⟩ := hk
  unfold en_two at e1
  rw [h1] at e1
  cases h2 : o.2 with
  | some i2 =>
    rw [h2] at e1
    cases e1
    exact hk _ List.mem_cons_self ρ ws tys H locs la sv en_pre.rf en_le.rf en_pre.rf (hr.rho en_pre.rf hi)
  | none =>
    rw [h2] at e1
    cases e1
    exact hk _ List.mem_cons_self ρ ws tys H locs la sv en_pre.rf en_le.rf en_pre.rf (hr.rho en_pre.rf hi)
theorem en_two_f {tgt : Nat} {o : Option en_I × Option en_I} {i1 : en_I} (h1 : o.2 = some i1) (hi : en_iv i1 ρ) (hr : en_R kc D A s nL ρ ws tys H locs la sv L st iv w)
    (hk : en_Ks p l e Rm s m args below meth c Q kc D A nL ρ ws tys (en_two tgt nx L st w n1 n2 o)) : W p l e Rm s m args below meth c H locs n1 n2 Q (F0 m nx la sv) := by
  obtain ⟨cs, e1, hk⟩ := hk
  unfold en_two at e1
  rw [h1] at e1
  cases h2 : o.1 with
  | some i2 =>
    rw [h2] at e1
    cases e1
    exact hk _ (List.mem_cons_of_mem _ List.mem_cons_self) ρ ws tys H locs la sv en_pre.rf en_le.rf en_pre.rf (hr.rho en_pre.rf hi)
  | none =>
    rw [h2] at e1
    cases e1
    exact hk _ List.mem_cons_self ρ ws tys H locs la sv en_pre.rf en_le.rf en_pre.rf (hr.rho en_pre.rf hi)
/-- what a comparison means, of ints -/
def en_cP (k : ClassFile.Cond) (x y : Int32) : Prop := match k with
  | .eq => x = y
  | .ne => ¬ x = y
  | .lt => x < y
  | .ge => y ≤ x
  | .gt => y < x
  | .le => x ≤ y
theorem en_br_t {k : ClassFile.Cond} {a b : en_V} {x y : Int32} {qa qb : Int × Int} (hi0 : en_iv iv ρ) (ha : en_v kc ρ ws a (.int x)) (hb : en_v kc ρ ws b (.int y)) (x1 : en_in qa x) (y1 : en_in qb y) (hc : en_cP k x y) : ∃ iv', (en_br k iv a b qa qb).1 = some iv' ∧ en_iv iv' ρ := by
  cases k with
  | eq => exact en_ceq_ok hi0 ha hb x1 y1 (by rw [show x = y from hc])
  | ne => exact en_cne_ok hi0 ha hb x1 y1 (fun h => hc (Int32.toInt_inj.mp h))
  | lt => exact en_clt_ok hi0 ha hb x1 y1 (Int32.lt_iff_toInt_lt.mp hc)
  | ge => exact en_cle_ok hi0 hb ha y1 x1 (Int32.le_iff_toInt_le.mp hc)
  | gt => exact en_clt_ok hi0 hb ha y1 x1 (Int32.lt_iff_toInt_lt.mp hc)
  | le => exact en_cle_ok hi0 ha hb x1 y1 (Int32.le_iff_toInt_le.mp hc)
theorem en_br_f {k : ClassFile.Cond} {a b : en_V} {x y : Int32} {qa qb : Int × Int} (hi0 : en_iv iv ρ) (ha : en_v kc ρ ws a (.int x)) (hb : en_v kc ρ ws b (.int y)) (x1 : en_in qa x) (y1 : en_in qb y) (hc : ¬ en_cP k x y) : ∃ iv', (en_br k iv a b qa qb).2 = some iv' ∧ en_iv iv' ρ := by
  cases k with
  | eq => exact en_cne_ok hi0 ha hb x1 y1 (fun h => hc (Int32.toInt_inj.mp h))
  | ne => exact en_ceq_ok hi0 ha hb x1 y1 (by rw [Classical.not_not.mp hc])
  | lt => exact en_cle_ok hi0 hb ha y1 x1 (Int.not_lt.mp (fun h => hc (Int32.lt_iff_toInt_lt.mpr h)))
  | ge => exact en_clt_ok hi0 ha hb x1 y1 (Int.not_le.mp (fun h => hc (Int32.le_iff_toInt_le.mpr h)))
  | gt => exact en_cle_ok hi0 ha hb x1 y1 (Int.not_lt.mp (fun h => hc (Int32.lt_iff_toInt_lt.mpr h)))
  | le => exact en_clt_ok hi0 hb ha y1 x1 (Int.not_le.mp (fun h => hc (Int32.le_iff_toInt_le.mpr h)))
def en_if2 (k : ClassFile.Cond) (tgt nx : Nat) (L : en_L) (st : List en_V) (iv : en_I) (w : List en_C) (n1 n2 : Nat) : en_O := match st with
  | b :: a :: r => match en_rng iv a, en_rng iv b with
    | some qa, some qb => en_two tgt nx L r w n1 n2 (en_br k iv a b qa qb)
    | _, _ => none
  | _ => none
theorem en_if2_ok {k : ClassFile.Cond} {tgt : Nat} (hr : en_R kc D A s nL ρ ws tys H locs la sv L st iv w)
    (row : ∀ (x y : Int32) (rest : List Value), (en_cP k x y → W p l e Rm s m args below meth c H locs n1 n2 Q (F0 m tgt la rest)) → (¬ en_cP k x y → W p l e Rm s m args below meth c H locs n1 n2 Q (F0 m nx la rest)) → W p l e Rm s m args below meth c H locs n1 n2 Q (F0 m pc la (.int y :: .int x :: rest)))
    (hk : en_Ks p l e Rm s m args below meth c Q kc D A nL ρ ws tys (en_if2 k tgt nx L st iv w n1 n2)) : W p l e Rm s m args below meth c H locs n1 n2 Q (F0 m pc la sv) := by
  unfold en_if2 at hk
  match st, hr, hk with
  | [], hr, hk => exact (en_no rfl hk).elim
  | [_], hr, hk => exact (en_no rfl hk).elim
  | b :: a :: r, hr, hk =>
    obtain ⟨vb, sv1, rfl, hvb, hr1⟩ := hr.pop
    obtain ⟨va, sv2, rfl, hva, hr2⟩ := hr1.pop
    dsimp only at hk
    cases ha : en_rng iv a with
    | none => rw [ha] at hk; exact (en_no rfl hk).elim
    | some qa =>
      cases hb : en_rng iv b with
      | none => rw [ha, hb] at hk; exact (en_no rfl hk).elim
      | some qb =>
        rw [ha, hb] at hk
        obtain ⟨x, rfl, hx⟩ := en_rng_ok hr.2.2.1 hva ha
        obtain ⟨y, rfl, hy⟩ := en_rng_ok hr.2.2.1 hvb hb
        refine row x y sv2 (fun hc => ?_) (fun hc => ?_)
        · obtain ⟨i1, e1, g1⟩ := en_br_t hr.2.2.1 hva hvb hx hy hc
          exact en_two_t e1 g1 hr2 hk
        · obtain ⟨i1, e1, g1⟩ := en_br_f hr.2.2.1 hva hvb hx hy hc
          exact en_two_f e1 g1 hr2 hk
def en_if1 (k : ClassFile.Cond) (tgt nx : Nat) (L : en_L) (st : List en_V) (iv : en_I) (w : List en_C) (n1 n2 : Nat) : en_O := match st with
  | a :: r => match en_rng iv a with
    | some qa => en_two tgt nx L r w n1 n2 (en_br k iv a (0, 0) qa (0, 0))
    | none => none
  | _ => none
theorem en_if1_ok {k : ClassFile.Cond} {tgt : Nat} (hr : en_R kc D A s nL ρ ws tys H locs la sv L st iv w)
    (row : ∀ (x : Int32) (rest : List Value), (en_cP k x 0 → W p l e Rm s m args below meth c H locs n1 n2 Q (F0 m tgt la rest)) → (¬ en_cP k x 0 → W p l e Rm s m args below meth c H locs n1 n2 Q (F0 m nx la rest)) → W p l e Rm s m args below meth c H locs n1 n2 Q (F0 m pc la (.int x :: rest)))
    (hk : en_Ks p l e Rm s m args below meth c Q kc D A nL ρ ws tys (en_if1 k tgt nx L st iv w n1 n2)) : W p l e Rm s m args below meth c H locs n1 n2 Q (F0 m pc la sv) := by
  unfold en_if1 at hk
  match st, hr, hk with
  | [], hr, hk => exact (en_no rfl hk).elim
  | a :: r, hr, hk =>
    obtain ⟨va, sv2, rfl, hva, hr2⟩ := hr.pop
    dsimp only at hk
    cases ha : en_rng iv a with
    | none => rw [ha] at hk; exact (en_no rfl hk).elim
    | some qa =>
      rw [ha] at hk
      obtain ⟨x, rfl, hx⟩ := en_rng_ok hr.2.2.1 hva ha
      have hv0 : en_v kc ρ ws (0, 0) (.int 0) := ⟨0, rfl, rfl⟩
      have hy : en_in (0, 0) (0 : Int32) := ⟨Int.le_refl _, Int.le_refl _⟩
      refine row x sv2 (fun hc => ?_) (fun hc => ?_)
      · obtain ⟨i1, e1, g1⟩ := en_br_t hr.2.2.1 hva hv0 hx hy hc
        exact en_two_t e1 g1 hr2 hk
      · obtain ⟨i1, e1, g1⟩ := en_br_f hr.2.2.1 hva hv0 hx hy hc
        exact en_two_f e1 g1 hr2 hk
/-- ifnull (nn = false), ifnonnull (nn = true) -/
def en_ifn (nn : Bool) (tgt nx : Nat) (L : en_L) (st : List en_V) (iv : en_I) (w : List en_C) (n1 n2 : Nat) : en_O := match st with
  | a :: r => cond (Nat.beq a.1 5) (en_1 (cond nn nx tgt) L r iv w n1 n2) (cond (en_isR a) (en_1 (cond nn tgt nx) L r iv w n1 n2) none)
  | _ => none
theorem en_ifn_ok {nn : Bool} {tgt : Nat} (hr : en_R kc D A s nL ρ ws tys H locs la sv L st iv w)
    (row : ∀ (rest : List Value), W p l e Rm s m args below meth c H locs n1 n2 Q (F0 m (cond nn nx tgt) la rest) → W p l e Rm s m args below meth c H locs n1 n2 Q (F0 m pc la (.null :: rest)))
    (row2 : ∀ (q : Nat) (rest : List Value), W p l e Rm s m args below meth c H locs n1 n2 Q (F0 m (cond nn tgt nx) la rest) → W p l e Rm s m args below meth c H locs n1 n2 Q (F0 m pc la (.ref q :: rest)))
    (hk : en_Ks p l e Rm s m args below meth c Q kc D A nL ρ ws tys (en_ifn nn tgt nx L st iv w n1 n2)) : W p l e Rm s m args below meth c H locs n1 n2 Q (F0 m pc la sv) := by
  unfold en_ifn at hk
  match st, hr, hk with
  | [], hr, hk => exact (en_no rfl hk).elim
  | a :: r, hr, hk =>
    obtain ⟨va, sv2, rfl, hva, hr2⟩ := hr.pop
    dsimp only at hk
    cases h5 : Nat.beq a.1 5 with
    | true =>
      rw [h5] at hk
      have h6 : a.1 = 5 := Nat.eq_of_beq_eq_true h5
      unfold en_v at hva
      rw [h6] at hva
      have hva : va = .null := hva
      subst hva
      exact row sv2 (hk.one en_pre.rf en_le.rf en_pre.rf hr2)
    | false =>
      rw [h5] at hk
      cases h7 : en_isR a with
      | true =>
        rw [h7] at hk
        obtain ⟨q, rfl⟩ := hva.ref h7
        exact row2 q sv2 (hk.one en_pre.rf en_le.rf en_pre.rf hr2)
      | false => rw [h7] at hk; exact (en_no rfl hk).elim
/-- the cases of a table, from k on -/
def en_tab (pc : Nat) (iv : en_I) (a : en_V) (L : en_L) (r : List en_V) (w : List en_C) (n1 n2 : Nat) : Int → List Int → List (Nat × en_S)
  | _, [] => []
  | k, o :: os => match en_nar iv a k k with
    | some iv' => ((((pc : Int) + o).toNat), L, r, iv', w, n1, n2) :: en_tab pc iv a L r w n1 n2 (k + 1) os
    | none => en_tab pc iv a L r w n1 n2 (k + 1) os
theorem en_tab_mem {a : en_V} {r : List en_V} {x : Int32} (hi : en_iv iv ρ) (hv : en_v kc ρ ws a (.int x)) : ∀ (os : List Int) (k : Int) (j : Nat) (o : Int), os[j]? = some o → x.toInt = k + j → ∃ iv', en_iv iv' ρ ∧ ((((pc : Int) + o).toNat), L, r, iv', w, n1, n2) ∈ en_tab pc iv a L r w n1 n2 k os
  | [], _, _, _, h, _ => by simp at h
  | o' :: os, k, 0, o, h, hx => by
    simp at h
    subst h
    obtain ⟨iv', e1, g1⟩ := en_nar_ok (lo := k) (hi := k) hi hv (by omega) (by omega)
    refine ⟨iv', g1, ?_⟩
    unfold en_tab
    rw [e1]
    exact List.mem_cons_self
  | o' :: os, k, j + 1, o, h, hx => by
    simp at h
    obtain ⟨iv', g1, g2⟩ := en_tab_mem hi hv os (k + 1) j o h (by omega)
    refine ⟨iv', g1, ?_⟩
    unfold en_tab
    split
    · exact List.mem_cons_of_mem _ g2
    · exact g2
def en_sw (pc : Nat) (dflt lo hi : Int) (offs : List Int) (L : en_L) (st : List en_V) (iv : en_I) (w : List en_C) (n1 n2 : Nat) : en_O := match st with
  | a :: r => cond (Nat.ble a.1 1 && decide ((offs.length : Int) = hi - lo + 1)) (some ((match en_nar iv a en_lo (lo - 1) with
      | some iv' => [((((pc : Int) + dflt).toNat), L, r, iv', w, n1, n2)]
      | none => []) ++ ((match en_nar iv a (hi + 1) en_hi with
      | some iv' => [((((pc : Int) + dflt).toNat), L, r, iv', w, n1, n2)]
      | none => []) ++ en_tab pc iv a L r w n1 n2 lo offs))) none
  | _ => none
theorem en_sw_ok {dflt lo hi : Int} {offs : List Int} (hr : en_R kc D A s nL ρ ws tys H locs la sv L st iv w)
    (rowO : ∀ (x : Int32) (rest : List Value), (x.toInt < lo ∨ hi < x.toInt) → W p l e Rm s m args below meth c H locs n1 n2 Q (F0 m ((pc : Int) + dflt).toNat la rest) → W p l e Rm s m args below meth c H locs n1 n2 Q (F0 m pc la (.int x :: rest)))
    (rowI : ∀ (x : Int32) (o : Int) (rest : List Value), ¬ x.toInt < lo → ¬ hi < x.toInt → offs[(x.toInt - lo).toNat]? = some o → W p l e Rm s m args below meth c H locs n1 n2 Q (F0 m ((pc : Int) + o).toNat la rest) → W p l e Rm s m args below meth c H locs n1 n2 Q (F0 m pc la (.int x :: rest)))
    (hk : en_Ks p l e Rm s m args below meth c Q kc D A nL ρ ws tys (en_sw pc dflt lo hi offs L st iv w n1 n2)) : W p l e Rm s m args below meth c H locs n1 n2 Q (F0 m pc la sv) := by
  unfold en_sw at hk
  match st, hr, hk with
  | [], hr, hk => exact (en_no rfl hk).elim
  | a :: r, hr, hk =>
    obtain ⟨va, sv2, rfl, hva, hr2⟩ := hr.pop
    dsimp only at hk
    cases hb : (Nat.ble a.1 1 && decide ((offs.length : Int) = hi - lo + 1)) with
    | false => rw [hb] at hk; exact (en_no rfl hk).elim
    | true =>
      rw [hb] at hk
      rw [Bool.and_eq_true, decide_eq_true_eq] at hb
      obtain ⟨x, rfl⟩ := hva.int hb.1
      obtain ⟨xl, xh⟩ := en_in_all x
      dsimp only at xl xh
      obtain ⟨cs, e1, hk⟩ := hk
      cases e1
      by_cases h1 : x.toInt < lo
      · obtain ⟨iv', e1, g1⟩ := en_nar_ok (lo := en_lo) (hi := lo - 1) hr.2.2.1 hva (by omega) (by omega)
        refine rowO x sv2 (Or.inl h1) (hk (_, L, r, iv', w, n1, n2) ?_ ρ ws tys H locs la sv2 en_pre.rf en_le.rf en_pre.rf (hr2.rho en_pre.rf g1))
        rw [e1]
        exact List.mem_append_left _ (List.mem_singleton.mpr rfl)
      · by_cases h2 : hi < x.toInt
        · obtain ⟨iv', e1, g1⟩ := en_nar_ok (lo := hi + 1) (hi := en_hi) hr.2.2.1 hva (by omega) (by omega)
          refine rowO x sv2 (Or.inr h2) (hk (_, L, r, iv', w, n1, n2) ?_ ρ ws tys H locs la sv2 en_pre.rf en_le.rf en_pre.rf (hr2.rho en_pre.rf g1))
          rw [e1]
          exact List.mem_append_right _ (List.mem_append_left _ (List.mem_singleton.mpr rfl))
        · have hj : (x.toInt - lo).toNat < offs.length := by omega
          obtain ⟨iv', g1, g2⟩ := en_tab_mem (L := L) (r := r) (w := w) (n1 := n1) (n2 := n2) (pc := pc) hr.2.2.1 hva offs lo _ _ (List.getElem?_eq_getElem hj) (by omega)
          exact rowI x _ sv2 h1 h2 (List.getElem?_eq_getElem hj) (hk (_, L, r, iv', w, n1, n2) (List.mem_append_right _ (List.mem_append_right _ g2)) ρ ws tys H locs la sv2 en_pre.rf en_le.rf en_pre.rf (hr2.rho en_pre.rf g1))
end ENO
