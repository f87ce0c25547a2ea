/-! THE ENGINE, 11: what a run says of the machine -/
def en_room (d mc ms : Nat) : Room := { frames := d + 8, cells := mc, slots := ms, locals := 64 * (d + 2) }
def en_hd (t : en_T) : Cond := match en_th t with
  | [] => .code (en_ty t) (en_tc t) (en_tl t) (en_tr t)
  | h :: r => .codeWith (en_ty t) (en_tc t) (en_tl t) (en_tr t) (h :: r)
def en_par (y : MethodName) (n : Nat) : Prop := y.cls ≠ "java/lang/invoke/MethodHandle" ∧ y.cls ≠ "java/lang/invoke/VarHandle" ∧ (parseMethodDescriptor y.desc).map (fun d => d.parameters.length) = some n
/-- what the tables must say of a call -/
def en_clk (M : List en_T) (t : en_T) (i : Instr) (a b k : Nat) : Prop := match i with
  | .invokevirtual x => ∀ t', M[a]? = some t' → en_th t' = [] ∧ Cond.methodLink (en_ty t).cls x (en_ty t') ∈ en_gw ∧ Cond.instanceMethod (en_ty t') ∈ en_gw ∧ Cond.selects (en_ty t').cls (en_ty t') (en_ty t') ∈ en_gw ∧ en_par (en_ty t') (b - 1) ∧ 1 ≤ b ∧ (en_tn t' = 100 → (en_ty t').cls = "java/lang/String") ∧ (en_tn t' ≠ 100 → ∃ r : vw_C, en_cl[en_tn t']? = some r ∧ r.1 = (en_ty t').cls) ∧
      (100 ≤ k → ∃ q : Nat × Nat × Nat × Nat, en_th t = [q] ∧ q.1 = 0 ∧ q.2.2.1 = k - 100 ∧ q.2.2.2 ≠ 0 ∧ Cond.classLink (en_ty t).cls q.2.2.2 en_nse ∈ en_gw)
  | .invokestatic x => k ≠ 7 → k < 100 ∧ ∀ t', M[a]? = some t' → Cond.static (en_ty t') ∈ en_gw ∧ en_par (en_ty t') b ∧ (k = 1 → en_th t' = [] ∧ Cond.methodLink (en_ty t).cls x (en_ty t') ∈ en_gw) ∧ (k = 2 → en_th t' = [] ∧ Cond.methodLinkNest (en_ty t).cls x (en_ty t') RX10 ∈ en_nest) ∧ (k ≠ 1 → k ≠ 2 → en_th t' ≠ [] ∧ Cond.methodLink (en_ty t).cls x (en_ty t') ∈ en_gw)
  | .invokespecial x => k ≠ 0 → k < 100 ∧ ∀ t', M[a]? = some t' → en_th t' = [] ∧ en_tr t' = none ∧ (en_ty t').name = "<init>" ∧ Cond.instanceMethod (en_ty t') ∈ en_gw ∧ en_par (en_ty t') (b - 1) ∧ 1 ≤ b ∧ (k = 1 → Cond.methodLink (en_ty t).cls x (en_ty t') ∈ en_gw) ∧ (k ≠ 1 → Cond.methodLinkNest (en_ty t).cls x (en_ty t') RX10 ∈ en_nest)
  | _ => True
/-- a throw: new, dup, invokespecial, athrow; the places that handlers cover -/
def en_thr (t : en_T) (pc : Nat) (i : Instr) : Prop := ∃ ik ic : Nat, i = .new ik ∧ decode (en_tc t) (pc + 3) = .ok (.dup, 1) ∧ decode (en_tc t) (pc + 4) = .ok (.invokespecial ic, 3) ∧ decode (en_tc t) (pc + 7) = .ok (.athrow, 1) ∧ Cond.classLink (en_ty t).cls ik en_nse ∈ en_gw ∧ Cond.initialized en_nse ∈ en_gw ∧ (∀ w ∈ (vx_at0 (en_ty t).cls ic en_nse ["java/lang/RuntimeException", "java/lang/Exception"]).filter goodWord, w ∈ en_gw) ∧ (∀ w ∈ (vx_at0 (en_ty t).cls ic en_nse ["java/lang/RuntimeException", "java/lang/Exception"]).filter (fun w => !goodWord w), w ∈ en_xw) ∧ (∀ w ∈ Cond.classLink (en_ty t).cls ik en_nse :: Cond.initialized en_nse :: vx_at0 (en_ty t).cls ic en_nse ["java/lang/RuntimeException", "java/lang/Exception"], vx_ot w = true)
def en_eok (M : List en_T) (t : en_T) (q : en_E) : Prop :=
  decode (en_tc t) q.1 = .ok (q.2.2.1, en_ilen q.2.2.1 q.2.2.2.2.2) ∧ q.2.1 = q.1 + en_ilen q.2.2.1 q.2.2.2.2.2 ∧ en_jmp q.1 q.2.2.1 = true ∧ en_lnk (en_ty t) q.2.2.1 q.2.2.2.1 q.2.2.2.2.1 q.2.2.2.2.2 ∧ en_clk M t q.2.2.1 q.2.2.2.1 q.2.2.2.2.1 q.2.2.2.2.2 ∧ (q.2.2.2.2.2 = 9 → en_thr t q.1 q.2.2.1) ∧ (100 ≤ q.2.2.2.2.2 → ∀ h, en_th t = [h] → covers ⟨h.1, h.2.1, h.2.2.1, h.2.2.2⟩ q.1 = true)
def en_Eok (M : List en_T) (t : en_T) : Prop := ∀ q ∈ en_te t, en_eok M t q
def en_Mok (M : List en_T) (t : en_T) : Prop :=
  plainName (en_ty t).cls = true ∧ en_hd t ∈ en_gw ∧ Cond.initialized (en_ty t).cls ∈ en_gw ∧ en_tl t ≤ 45 ∧ en_Eok M t
def en_Pc (kc : Nat → Nat) (D : va_G) (A : Nat → Prop) (ws : va_W) (tys : List (ClassId × FieldType)) (vs : List Value) : Array Value → State → Prop := fun a U => a = vs.toArray ∧ en_B kc A U U.heap ∧ (∀ q, U.heap.size ≤ q → A q) ∧ va_K D en_cl tys U ∧ va_P D en_cl ws U.heap ∧ va_D A ws
theorem en_Pc.blind {kc : Nat → Nat} {D : va_G} {A : Nat → Prop} {ws : va_W} {tys : List (ClassId × FieldType)} {vs : List Value} : FrameBlind (en_Pc kc D A ws tys vs) := by
  intro a U g mk h
  obtain ⟨h1, h2, h3, h4, h5, h6⟩ := h
  exact ⟨h1, h2.same rfl, h3, va_K.moved (u := U) (U := U.calling g mk a) (Vm.Alike.refl U.vm) h4, h5, h6⟩
def en_rv (kc : Nat → Nat) (ρ : List Int32) (ws : va_W) (st : List en_V) (v : Option Value) : Prop := match st with
  | [] => v = none
  | a :: _ => ∃ x, v = some x ∧ en_v kc ρ ws a x
/-- the world behind a leaf -/
def en_wd (kc : Nat → Nat) (D : va_G) (A : Nat → Prop) (ρ : List Int32) (ws : va_W) (tys : List (ClassId × FieldType)) (lf : Nat × en_S) (st t : State) (ρ' : List Int32) (ws' : va_W) : Prop :=
  ∃ (tys' : List (ClassId × FieldType)), en_pre ρ ρ' ∧ en_le ws ws' ∧ en_pre tys tys' ∧ en_iv lf.2.2.2.1 ρ' ∧ en_w kc ρ' ws' tys' lf.2.2.2.2.1 ∧ va_K D en_cl tys' t ∧ va_P D en_cl ws' t.heap ∧ va_D A ws' ∧ va_F A st t
def en_Qc (kc : Nat → Nat) (D : va_G) (A : Nat → Prop) (ρ : List Int32) (ws : va_W) (tys : List (ClassId × FieldType)) (lvs : List (Nat × en_S)) : Array Value → State → Outcome → State → Prop := fun _ st oc t => ∃ (lf : Nat × en_S) (v : Option Value) (ρ' : List Int32) (ws' : va_W), lf ∈ lvs ∧ oc = .returned v ∧ en_rv kc ρ' ws' lf.2.2.1 v ∧ en_wd kc D A ρ ws tys lf st t ρ' ws'
def en_SND (M : List en_T) (l : Launch) (kc : Nat → Nat) (D : va_G) (A : Nat → Prop) (n : Nat) : Prop :=
  ∀ (d : Nat) (sc : Option Nat) (t : en_T) (pc : Nat) (S : en_S) (lvs : List (Nat × en_S)), en_run M n d sc t pc S = some lvs → en_Eok M t →
    ∀ (p : Program) (e : Env) (Rm : Room) (s : State) (m : MethodId) (args : Array Value) (below : List Frame) (meth : Method) (c : Code) (Q : State → Prop) (ρ : List Int32) (ws : va_W) (tys : List (ClassId × FieldType)),
      en_cx p l e Rm s m args meth c kc A (en_ty t) (en_tc t) (en_tl t) (en_tmc t) (en_tms t) → d + 8 ≤ Rm.frames → 64 * (d + 2) ≤ Rm.locals → en_X kc A s ρ sc → c.exceptionTable.toList = tableOf (en_th t) →
      (∀ lf ∈ lvs, en_K p l e Rm s m args below meth c Q kc D A (en_tl t) ρ ws tys lf.1 lf.2) → en_K p l e Rm s m args below meth c Q kc D A (en_tl t) ρ ws tys pc S
section ENL
variable {p : Program} {l : Launch} {e : Env} {Rm : Room} {s : State} {m : MethodId} {args : Array Value} {below : List Frame} {meth : Method} {c : Code}
variable {kc : Nat → Nat} {D : va_G} {A : Nat → Prop} {M : List en_T} {t : en_T}
variable {ρ : List Int32} {ws : va_W} {tys : List (ClassId × FieldType)}
theorem en_nrw_ok {ρ : List Int32} {ws : va_W} {ty : FieldType} {iv : en_I} {v : en_V} {x : Value} (hi : en_iv iv ρ) (hv : en_v kc ρ ws v x) (h : en_nrw ty iv v = true) : ∃ y : Int32, x = .int y ∧ narrow ty (.int y) = .int y := by
  have gen : (match en_rng iv v with
    | some q => decide (q.1 = q.2) && decide (narrow ty (.int (Int32.ofInt q.1)) = .int (Int32.ofInt q.1))
    | none => false) = true → ∃ y : Int32, x = .int y ∧ narrow ty (.int y) = .int y := by
    intro h
    cases hr : en_rng iv v with
    | none => rw [hr] at h; cases h
    | some q =>
      rw [hr] at h
      simp only [Bool.and_eq_true, decide_eq_true_eq] at h
      obtain ⟨y, rfl, hy⟩ := en_rng_ok hi hv hr
      refine ⟨y, rfl, ?_⟩
      have := h.2
      rw [en_in_one hy h.1] at this
      exact this
  cases ty with
  | int => obtain ⟨y, rfl⟩ := hv.int h; exact ⟨y, rfl, rfl⟩
  | boolean => rcases en_01_ok hi hv h with rfl | rfl <;> exact ⟨_, rfl, rfl⟩
  | _ => exact gen h
/-- a leaf that is a return: the machine is at its end -/
theorem en_leaf {lf : Nat × en_S} {lvs : List (Nat × en_S)} (ok : en_Mok M t) (hm : lf ∈ lvs) (h : en_lok t lf = true) (hx : p.tables.exec = Jvm.exec) (hb : c.code = en_tc t) (hret : meth.sig.returnType = en_tr t) (hlocks : meth.locks = false) :
    en_K p l e Rm s m args below meth c (MQ below (en_Qc kc D A ρ ws tys lvs) args s (en_tmc t) (en_tms t) A) kc D A (en_tl t) ρ ws tys lf.1 lf.2 := by
  intro ρ' ws' tys' H locs la sv h1 h2 h3 hr
  unfold en_lok at h
  cases hf : en_find (en_te t) lf.1 with
  | none => rw [hf] at h; cases h
  | some z =>
    rw [hf] at h
    dsimp only at h
    rw [Bool.and_eq_true, Bool.and_eq_true] at h
    obtain ⟨hc, hs, h⟩ := h
    obtain ⟨hd, -⟩ := ok.2.2.2.2 _ (en_find_ok hf)
    obtain ⟨pc, L, st, iv, w, n1, n2⟩ := lf
    obtain ⟨-, hst, hi, hw, hK, hP, hD, hS⟩ := hr
    dsimp only at h hc hs hst hi hw hd ⊢
    refine W.widen (Nat.le_of_ble_eq_true hc) (Nat.le_of_ble_eq_true hs) ?_
    have wd : ∀ T : State, T.heap = H → s.WarmedH T.vm → en_wd kc D A ρ ws tys (pc, L, st, iv, w, n1, n2) s T ρ' ws' := fun T hT hW => ⟨tys', h1, h2, h3, hi, hw, va_K.moved hW.alike hK, by rw [hT]; exact hP, hD, hS.F hT⟩
    split at h
    · rename_i ty v hi0 hr0
      rw [hi0] at hd
      obtain ⟨x, sv', rfl, hv⟩ : ∃ (x : Value) (sv' : List Value), sv = x :: sv' ∧ en_f2 (en_v kc ρ' ws') [v] (x :: sv') := by
        cases sv with
        | nil => exact hst.elim
        | cons x sv' => exact ⟨x, sv', rfl, hst⟩
      have hnil : sv' = [] := by
        cases sv' with
        | nil => rfl
        | cons _ _ => exact hv.2.elim
      subst hnil
      obtain ⟨y, rfl, hy⟩ := en_nrw_ok hi hv.1 h
      exact W.zret hx hb (hret.trans hr0) hy (fun T hT hW => ⟨_, _, ρ', ws', hm, rfl, ⟨_, rfl, hv.1⟩, wd T hT hW⟩) hS.2.2 hd
    · rename_i v hi0 hr0
      rw [hi0] at hd
      obtain ⟨x, sv', rfl, hv⟩ : ∃ (x : Value) (sv' : List Value), sv = x :: sv' ∧ en_f2 (en_v kc ρ' ws') [v] (x :: sv') := by
        cases sv with
        | nil => exact hst.elim
        | cons x sv' => exact ⟨x, sv', rfl, hst⟩
      have hnil : sv' = [] := by
        cases sv' with
        | nil => rfl
        | cons _ _ => exact hv.2.elim
      subst hnil
      obtain ⟨y, rfl⟩ := hv.1.long h
      exact W.lret hx hb (hret.trans hr0) (fun T hT hW => ⟨_, _, ρ', ws', hm, rfl, ⟨_, rfl, hv.1⟩, wd T hT hW⟩) hS.2.2 hd
    · rename_i C v hi0 hr0
      rw [hi0] at hd
      obtain ⟨x, sv', rfl, hv⟩ : ∃ (x : Value) (sv' : List Value), sv = x :: sv' ∧ en_f2 (en_v kc ρ' ws') [v] (x :: sv') := by
        cases sv with
        | nil => exact hst.elim
        | cons x sv' => exact ⟨x, sv', rfl, hst⟩
      have hnil : sv' = [] := by
        cases sv' with
        | nil => rfl
        | cons _ _ => exact hv.2.elim
      subst hnil
      have hxr : x = .null ∨ ∃ a, x = .ref a := by
        rw [Bool.or_eq_true] at h
        rcases h with h | h
        · obtain ⟨q, rfl⟩ := hv.1.ref h; exact Or.inr ⟨q, rfl⟩
        · have h6 : v.1 = 5 := Nat.eq_of_beq_eq_true h
          have hv1 := hv.1
          unfold en_v at hv1
          rw [h6] at hv1
          exact Or.inl hv1
      exact W.aret hx hb (hret.trans hr0) (Or.inl ⟨_, rfl⟩) hxr (fun T hT hW => ⟨_, _, ρ', ws', hm, rfl, ⟨_, rfl, hv.1⟩, wd T hT hW⟩) hS.2.2 hd
    · rename_i hi0 hr0
      rw [hi0] at hd
      have hnil : sv = [] := by
        cases sv with
        | nil => rfl
        | cons _ _ => exact hst.elim
      subst hnil
      exact W.vret hx hb (hret.trans hr0) (fun T hT hW => ⟨_, _, ρ', ws', hm, rfl, rfl, wd T hT hW⟩) hS.2.2 hd
    · cases h
end ENL
