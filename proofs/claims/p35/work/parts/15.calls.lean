/-! THE ENGINE, 12: a run is a contract; behind a call -/
section ENQ
variable {l : Launch} {kc : Nat → Nat} {D : va_G} {A : Nat → Prop} {M : List en_T} {t : en_T}
variable {ρ : List Int32} {ws : va_W} {tys : List (ClassId × FieldType)}
theorem en_noX {s : State} {ρ : List Int32} : en_X kc A s ρ none := fun n h => by cases h
/-- a method without handlers -/
theorem en_met {n d : Nat} {as : List en_V} {vs : List Value} {iv : en_I} {w : List en_C} {lvs : List (Nat × en_S)} (hS : en_SND M l kc D A n) (ok : en_Mok M t) (hh : en_th t = []) (hrun : en_run M n d none t 0 (en_lay 0 as, [], iv, w, 0, 0) = some lvs) (hlv : ∀ lf ∈ lvs, en_lok t lf = true) (hwd : en_wds as ≤ en_tl t)
    (ha : en_f2 (en_v kc ρ ws) as vs) (hi : en_iv iv ρ) (hw : en_w kc ρ ws tys w) : Met l (en_ty t) (Cond.code (en_ty t) (en_tc t) (en_tl t) (en_tr t) :: en_gw) (en_room d (en_tmc t) (en_tms t)) (en_Pc kc D A ws tys vs) (en_Qc kc D A ρ ws tys lvs) (en_tmc t) (en_tms t) A := by
  refine Met.ofW (cc := en_tc t) (maxL := en_tl t) (ret := en_tr t) ok.1 rfl ?_
  intro p e s m args below meth c s₁ B hml hv
  obtain ⟨rfl, hB, hA, hK, hP, hD⟩ := hv
  have hts := atoms_spec (ws := Cond.code (en_ty t) (en_tc t) (en_tl t) (en_tr t) :: en_gw) B.pre
  have hown : s.vm.findClass (en_ty t).cls = some m.cls := findClass_of_methodNamed B.named
  have hnm : meth.name = (en_ty t).name := (name_of_methodNamed B.named B.method).1
  have C : en_cx p l e (en_room d (en_tmc t) (en_tms t)) s m vs.toArray meth c kc A (en_ty t) (en_tc t) (en_tl t) (en_tmc t) (en_tms t) := ⟨B.exec, B.bytes, hml, hown, fun w hw => hts w (List.mem_cons_of_mem _ hw), hB, hA, hnm, Nat.le_refl _, Nat.le_refl _, by show 1 ≤ d + 8; omega, by show 64 ≤ 64 * (d + 2); omega⟩
  have hex : c.exceptionTable.toList = tableOf (en_th t) := by
    have h9 := BodyLoose.noHandlers B (hts _ List.mem_cons_self)
    rw [hh, Array.isEmpty_iff.mp h9]
    rfl
  have K := hS d none t 0 _ lvs hrun ok.2.2.2.2 p e (en_room d (en_tmc t) (en_tms t)) s m vs.toArray below meth c (MQ below (en_Qc kc D A ρ ws tys lvs) vs.toArray s (en_tmc t) (en_tms t) A) ρ ws tys C (Nat.le_refl _) (Nat.le_refl _) en_noX hex
    (fun lf hm => en_leaf ok hm (hlv lf hm) B.exec B.bytes B.returns B.notSynchronized)
  obtain ⟨g1, g2⟩ := en_lay_ok 0 ha
  have hl := lv_entry vs (n := en_tl t) (by rw [g2]; exact hwd)
  show W p l e (en_room d (en_tmc t) (en_tms t)) s m vs.toArray below meth c s.heap [] 0 0 _ (entryFrame m vs.toArray (en_tl t))
  rw [lg_entry_eq]
  exact K ρ ws tys s.heap [] _ [] en_pre.rf en_le.rf en_pre.rf ⟨⟨_, hl, g1⟩, trivial, hi, hw, hK, hP, hD, va_S.rf⟩
/-- a method with handlers -/
theorem en_ofWH {y : MethodName} {ws ws' : List Cond} {rm : Room} {Pc : Array Value → State → Prop} {Qc : Array Value → State → Outcome → State → Prop} {mc ms : Nat} {free : Addr → Prop} {cc : ByteArray} {maxL : Nat} {ret : Option FieldType} {hh : List (Nat × Nat × Nat × Nat)}
    (hy : plainName y.cls = true) (hw : ws = Cond.codeWith y cc maxL ret hh :: ws')
    (body : ∀ p e s m args below meth c s₁, BodyLoose p l y (headSpec ws rm) cc maxL ret e s m args below meth c s₁ → c.maxLocals = maxL → Pc args s →
      W p l e (headSpec ws rm).room s m args below meth c s.heap [] 0 0 (MQ below Qc args s mc ms free) (entryFrame m args maxL)) : Met l y ws rm Pc Qc mc ms free := by
  refine MetFree.of_bodyS (code := cc) (maxLocals := maxL) (ret := ret) hy ?_ ?_
  · intro args s m h hn
    obtain ⟨m9, meth, c, hn9, h1, h2, h3, h4, -, h5, h6, -⟩ := Cond.codeWith_spec (atoms_spec (ws := ws) h _ (by rw [hw]; exact List.mem_cons_self))
    cases hn.symm.trans hn9
    exact ⟨meth, c, h1, h2, h3, h4, h5, h6⟩
  · intro p e s m args below meth c s₁ B hml hP _
    have hh0 : s₁.heap = s.heap := by rw [B.state]; rfl
    obtain ⟨t, a1, o, b1, b2, b3⟩ := body p e s m args below meth c s₁ B hml hP s₁ hh0 (Stand.of_body B)
    exact ⟨t, o, a1, b1, b2, ⟨b3.1, b3.2⟩⟩
theorem en_metW {n d : Nat} {as : List en_V} {vs : List Value} {iv : en_I} {w : List en_C} {lvs : List (Nat × en_S)} (hS : en_SND M l kc D A n) (ok : en_Mok M t) (hrun : en_run M n d none t 0 (en_lay 0 as, [], iv, w, 0, 0) = some lvs) (hlv : ∀ lf ∈ lvs, en_lok t lf = true) (hwd : en_wds as ≤ en_tl t)
    (ha : en_f2 (en_v kc ρ ws) as vs) (hi : en_iv iv ρ) (hw : en_w kc ρ ws tys w) : Met l (en_ty t) (Cond.codeWith (en_ty t) (en_tc t) (en_tl t) (en_tr t) (en_th t) :: en_gw) (en_room d (en_tmc t) (en_tms t)) (en_Pc kc D A ws tys vs) (en_Qc kc D A ρ ws tys lvs) (en_tmc t) (en_tms t) A := by
  refine en_ofWH (cc := en_tc t) (maxL := en_tl t) (ret := en_tr t) (hh := en_th t) ok.1 rfl ?_
  intro p e s m args below meth c s₁ B hml hv
  obtain ⟨rfl, hB, hA, hK, hP, hD⟩ := hv
  have hts := atoms_spec (ws := Cond.codeWith (en_ty t) (en_tc t) (en_tl t) (en_tr t) (en_th t) :: en_gw) B.pre
  have hown : s.vm.findClass (en_ty t).cls = some m.cls := findClass_of_methodNamed B.named
  have hnm : meth.name = (en_ty t).name := (name_of_methodNamed B.named B.method).1
  have C : en_cx p l e (en_room d (en_tmc t) (en_tms t)) s m vs.toArray meth c kc A (en_ty t) (en_tc t) (en_tl t) (en_tmc t) (en_tms t) := ⟨B.exec, B.bytes, hml, hown, fun w hw => hts w (List.mem_cons_of_mem _ hw), hB, hA, hnm, Nat.le_refl _, Nat.le_refl _, by show 1 ≤ d + 8; omega, by show 64 ≤ 64 * (d + 2); omega⟩
  have hex : c.exceptionTable.toList = tableOf (en_th t) := vx_table (x := en_ty t) B (hts _ List.mem_cons_self)
  have K := hS d none t 0 _ lvs hrun ok.2.2.2.2 p e (en_room d (en_tmc t) (en_tms t)) s m vs.toArray below meth c (MQ below (en_Qc kc D A ρ ws tys lvs) vs.toArray s (en_tmc t) (en_tms t) A) ρ ws tys C (Nat.le_refl _) (Nat.le_refl _) en_noX hex
    (fun lf hm => en_leaf ok hm (hlv lf hm) B.exec B.bytes B.returns B.notSynchronized)
  obtain ⟨g1, g2⟩ := en_lay_ok 0 ha
  have hl := lv_entry vs (n := en_tl t) (by rw [g2]; exact hwd)
  show W p l e (en_room d (en_tmc t) (en_tms t)) s m vs.toArray below meth c s.heap [] 0 0 _ (entryFrame m vs.toArray (en_tl t))
  rw [lg_entry_eq]
  exact K ρ ws tys s.heap [] _ [] en_pre.rf en_le.rf en_pre.rf ⟨⟨_, hl, g1⟩, trivial, hi, hw, hK, hP, hD, va_S.rf⟩
/-- what a throw leaves -/
def en_XC (kc : Nat → Nat) (D : va_G) (A : Nat → Prop) (ρ : List Int32) (ws : va_W) (tys : List (ClassId × FieldType)) (t : en_T) (lvs : List (Nat × en_S)) : String → State → State → Prop := fun E st T => E = en_nse ∧ ∃ (lf : Nat × en_S) (ρ' : List Int32) (ws' : va_W), lf ∈ lvs ∧ en_lok t lf = false ∧ en_wd kc D A ρ ws tys lf st T ρ' ws'
/-- what returns here is a return -/
def en_QcR (kc : Nat → Nat) (D : va_G) (A : Nat → Prop) (ρ : List Int32) (ws : va_W) (tys : List (ClassId × FieldType)) (t : en_T) (lvs : List (Nat × en_S)) : Array Value → State → Outcome → State → Prop := fun _ st oc T => ∃ (lf : Nat × en_S) (v : Option Value) (ρ' : List Int32) (ws' : va_W), lf ∈ lvs ∧ en_lok t lf = true ∧ oc = .returned v ∧ en_rv kc ρ' ws' lf.2.2.1 v ∧ en_wd kc D A ρ ws tys lf st T ρ' ws'
/-- a method that may throw -/
theorem en_vmet (hl0 : l.stackTraces = false) {n d : Nat} {as : List en_V} {vs : List Value} {iv : en_I} {w : List en_C} {lvs : List (Nat × en_S)} (hS : en_SND M l kc D A n) (ok : en_Mok M t) (hh : en_th t = []) (hrun : en_run M n d none t 0 (en_lay 0 as, [], iv, w, 0, 0) = some lvs) (hlv : ∀ lf ∈ lvs, (en_lok t lf || en_lth t lf) = true) (h9 : ∀ q ∈ en_te t, en_kind q.2.2.1 q.2.2.2.2.2 = 3 → q.2.2.2.2.2 = 9) (hwd : en_wds as ≤ en_tl t)
    (ha : en_f2 (en_v kc ρ ws) as vs) (hi : en_iv iv ρ) (hw : en_w kc ρ ws tys w) : vx_Met l (en_ty t) (Cond.code (en_ty t) (en_tc t) (en_tl t) (en_tr t) :: en_gw) (en_room d (en_tmc t) (en_tms t)) (en_Pc kc D A ws tys vs) (en_QcR kc D A ρ ws tys t lvs) (en_XC kc D A ρ ws tys t lvs) (en_tmc t) (en_tms t) A := by
  refine vx_ofW (cc := en_tc t) (maxL := en_tl t) (ret := en_tr t) ok.1 rfl ?_
  intro p e s m args below meth c s₁ B hml hnox hv
  obtain ⟨rfl, hB, hA, hK, hP, hD⟩ := hv
  have hts := atoms_spec (ws := Cond.code (en_ty t) (en_tc t) (en_tl t) (en_tr t) :: en_gw) B.pre
  have hown : s.vm.findClass (en_ty t).cls = some m.cls := findClass_of_methodNamed B.named
  have hnm : meth.name = (en_ty t).name := (name_of_methodNamed B.named B.method).1
  have C : en_cx p l e (en_room d (en_tmc t) (en_tms t)) s m vs.toArray meth c kc A (en_ty t) (en_tc t) (en_tl t) (en_tmc t) (en_tms t) := ⟨B.exec, B.bytes, hml, hown, fun w hw => hts w (List.mem_cons_of_mem _ hw), hB, hA, hnm, Nat.le_refl _, Nat.le_refl _, by show 1 ≤ d + 8; omega, by show 64 ≤ 64 * (d + 2); omega⟩
  have hex : c.exceptionTable.toList = tableOf (en_th t) := by
    have h9 := BodyLoose.noHandlers B (hts _ List.mem_cons_self)
    rw [hh, Array.isEmpty_iff.mp h9]
    rfl
  have leaves : ∀ lf ∈ lvs, en_K p l e (en_room d (en_tmc t) (en_tms t)) s m vs.toArray below meth c (vx_MQ below (en_QcR kc D A ρ ws tys t lvs) (en_XC kc D A ρ ws tys t lvs) vs.toArray s (en_tmc t) (en_tms t) A) kc D A (en_tl t) ρ ws tys lf.1 lf.2 := by
    intro lf hm
    cases hk : en_lok t lf with
    | true =>
      have K1 := en_leaf (l := l) (e := e) (Rm := en_room d (en_tmc t) (en_tms t)) (s := s) (m := m) (args := vs.toArray) (below := below) (kc := kc) (D := D) (A := A) (ρ := ρ) (ws := ws) (tys := tys) (lvs := [lf]) ok (List.mem_singleton.mpr rfl) hk B.exec B.bytes B.returns B.notSynchronized
      intro ρ' ws' tys' H locs la sv h1 h2 h3 hr
      refine vx_ret ?_
      intro T hT X
      obtain ⟨u, a1, o, b1, b2, ⟨lf', v, ρ2, ws2, c1, c2, c3, c4⟩, b4⟩ := K1 ρ' ws' tys' H locs la sv h1 h2 h3 hr T hT X
      rw [List.mem_singleton.mp c1] at c3 c4
      exact ⟨u, a1, o, b1, b2, ⟨lf, v, ρ2, ws2, hm, hk, c2, c3, c4⟩, b4⟩
    | false =>
      have hth := hlv lf hm
      rw [hk] at hth
      have hth : en_lth t lf = true := hth
      intro ρ' ws' tys' H locs la sv h1 h2 h3 hr
      unfold en_lth at hth
      cases hf : en_find (en_te t) lf.1 with
      | none => rw [hf] at hth; cases hth
      | some z =>
        rw [hf] at hth
        dsimp only at hth
        rw [Bool.and_eq_true, Bool.and_eq_true, Bool.and_eq_true] at hth
        obtain ⟨hc, hs, hk3, hlen⟩ := hth
        have hq := ok.2.2.2.2 _ (en_find_ok hf)
        have h99 := h9 _ (en_find_ok hf) (Nat.eq_of_beq_eq_true hk3)
        obtain ⟨hd, -, -, -, -, hthr, -⟩ := hq
        obtain ⟨ik, ic, e0, d3, d4, d7, w1, w2, w3, w4, w5⟩ := hthr h99
        dsimp only at e0
        dsimp only at hd
        rw [e0] at hd
        have hsum := en_sum hr.2.1
        have hlen2 := Nat.le_of_ble_eq_true hlen
        obtain ⟨⟨lv, lv1, -⟩, -, hi', hw', hK', hP', hD', hS'⟩ := id hr
        refine vx_throw0 (names := ["java/lang/RuntimeException", "java/lang/Exception"]) (A := A) (cls := en_nse) (ik := ik) (ic := ic) B.exec B.bytes hl0 hown (by decide +kernel) (by decide +kernel) (hts _ (List.mem_cons_of_mem _ w1)) (hts _ (List.mem_cons_of_mem _ w2)) ?_ w5 hB.2.2.2.2.2.2.2.2.1 hB.2.2.2.2.2.2.2.2.2.1 hS' (by rw [lv1.1, hml]) hd d3 d4 d7 (fun x hx => (hnox x hx).elim) (by show 2 + 3 < d + 8; omega) (by show _ + (13 * (2 + 1) + 42) ≤ 64 * (d + 2); omega) (Nat.le_of_ble_eq_true hc) (Nat.le_of_ble_eq_true hs) B.notSynchronized ?_ hS'.2.2 (Nat.le_of_ble_eq_true hc) (Nat.le_of_ble_eq_true hs)
        · exact vx_hat (fun w hw => hts w (List.mem_cons_of_mem _ (w3 w hw))) w4 (fun w hw => by
            rcases en_xwM hw with ⟨a, b, rfl⟩ | ⟨x, rfl⟩
            · exact (hB.2.2.2.2.2.2.2.2.2.2.1 _ hw).use rfl
            · exact (hB.2.2.2.2.2.2.2.2.2.2.1 _ hw).use rfl)
        · intro T hal hsz heq
          refine ⟨rfl, lf, ρ', ws', hm, hk, tys', h1, h2, h3, hi', hw', va_K.moved hal hK', hP'.kept (fun k q hq => heq _ (hP' k q hq).lt), hD', ?_⟩
          exact ⟨Nat.le_trans hS'.1 hsz, fun q hq1 hq2 => by rw [heq q (Nat.lt_of_lt_of_le hq1 hS'.1)]; exact hS'.2.1 q hq1 hq2⟩
  have K := hS d none t 0 _ lvs hrun ok.2.2.2.2 p e (en_room d (en_tmc t) (en_tms t)) s m vs.toArray below meth c _ ρ ws tys C (Nat.le_refl _) (Nat.le_refl _) en_noX hex leaves
  obtain ⟨g1, g2⟩ := en_lay_ok 0 ha
  have hl := lv_entry vs (n := en_tl t) (by rw [g2]; exact hwd)
  show W p l e (en_room d (en_tmc t) (en_tms t)) s m vs.toArray below meth c s.heap [] 0 0 _ (entryFrame m vs.toArray (en_tl t))
  rw [lg_entry_eq]
  exact K ρ ws tys s.heap [] _ [] en_pre.rf en_le.rf en_pre.rf ⟨⟨_, hl, g1⟩, trivial, hi, hw, hK, hP, hD, va_S.rf⟩
end ENQ
