/-! THE CALCULUS, 9: a call by contract -/
def kk_wd (kc : Nat → Nat) (D : va_G) (A : Nat → Prop) (ws : va_W) (tys : List (ClassId × FieldType)) (w' : List kk_C) (st T : State) (ws' : va_W) : Prop := en_le ws ws' ∧ kk_w kc ws' tys w' ∧ ws'.length = ws.length ∧ va_K D en_cl tys T ∧ va_P D en_cl ws' T.heap ∧ va_D A ws' ∧ va_F A st T
def kk_Qc (kc : Nat → Nat) (D : va_G) (A : Nat → Prop) (ws : va_W) (tys : List (ClassId × FieldType)) (Φ : List en_V → List kk_C → Prop) : Array Value → State → Outcome → State → Prop := fun _ st oc T => ∃ (rs : List en_V) (v : Option Value) (w' : List kk_C) (ws' : va_W), Φ rs w' ∧ oc = .returned v ∧ en_f2 (en_v kc [] ws') rs v.toList ∧ kk_wd kc D A ws tys w' st T ws'
def kk_Pc (kc : Nat → Nat) (D : va_G) (A : Nat → Prop) (ws : va_W) (tys : List (ClassId × FieldType)) (vs : List Value) : Array Value → State → Prop := fun a U => en_Pc kc D A ws tys vs a U ∧ kk_XR kc A U U.heap kk_x4 ∧ kk_Z kc A U U.heap
/-- a method's contract: from these arguments in this world it returns, and what then holds -/
def kk_Ctr (l : Launch) (d : Nat) (t : en_T) (as : List en_V) (w : List kk_C) (Φ : List en_V → List kk_C → Prop) : Prop :=
  ∀ (kc : Nat → Nat) (D : va_G) (A : Nat → Prop) (ws : va_W) (tys : List (ClassId × FieldType)) (vs : List Value), en_f2 (en_v kc [] ws) as vs → kk_w kc ws tys w →
    Met l (en_ty t) (Cond.code (en_ty t) (en_tc t) (en_tl t) (en_tr t) :: en_gw) (en_room d 0 0) (kk_Pc kc D A ws tys vs) (kk_Qc kc D A ws tys Φ) 0 0 A
theorem kk_XR.moved {kc : Nat → Nat} {A : Nat → Prop} {u U : State} {H : Heap} {xc : kk_X} (hvm : u.vm.Alike U.vm) (h : kk_XR kc A u H xc) : kk_XR kc A U H xc := fun k n f hk => by
  obtain ⟨xs, h1, h2⟩ := h k n f hk
  exact ⟨xs, h1.moved hvm, h2⟩
theorem kk_XR.kept {kc : Nat → Nat} {A : Nat → Prop} {U : State} {H H1 : Heap} {xc : kk_X} (h : kk_XR kc A U H xc) (hz : H.size ≤ H1.size) (hq : ∀ a : Nat, a < H.size → ¬ A a → H1[a]? = H[a]?) : kk_XR kc A U H1 xc := fun k n f hk => by
  obtain ⟨xs, h1, h2, h3, h4⟩ := h k n f hk
  exact ⟨xs, h1.kept (hq _ h2 h3), Nat.lt_of_lt_of_le h2 hz, h3, h4⟩
theorem kk_XR.narrow {kc : Nat → Nat} {A B : Nat → Prop} {U : State} {H : Heap} {xc : kk_X} (h : kk_XR kc A U H xc) (hAB : ∀ q, B q → A q) : kk_XR kc B U H xc := fun k n f hk => by
  obtain ⟨xs, h1, h2, h3, h4⟩ := h k n f hk
  exact ⟨xs, h1, h2, fun g => h3 (hAB _ g), h4⟩
theorem kk_XR.fewer {kc : Nat → Nat} {A : Nat → Prop} {U : State} {H : Heap} {xc xc' : kk_X} (h : kk_XR kc A U H xc) (hx : ∀ k z, xc' k = some z → xc k = some z) : kk_XR kc A U H xc' := fun k n f hk => h k n f (hx k _ hk)
theorem kk_Zn {C n d : String} {v : Value} {A B : Nat → Prop} {U : State} {H : Heap} (h : va_Z C n d v A U H) (hAB : ∀ q, B q → A q) : va_Z C n d v B U H := by
  obtain ⟨cf, kf, fi, f, a, cell, h1, h2, h3, h4, h5, h6, h7, h8⟩ := h
  exact ⟨cf, kf, fi, f, a, cell, h1, h2, h3, h4, h5, h6, h7, fun g => h8 (hAB _ g)⟩
theorem kk_Zqn {C n d : String} {A B : Nat → Prop} {U : State} {H : Heap} (h : va_Zq C n d A U H) (hAB : ∀ q, B q → A q) : va_Zq C n d B U H := by
  rcases h with h | ⟨t, h⟩
  · exact Or.inl (kk_Zn h hAB)
  · exact Or.inr ⟨t, kk_Zn h hAB⟩
theorem kk_vxL {C n d : String} {A B : Nat → Prop} {U : State} {H : Heap} (h : vx_L C n d A U H) (hAB : ∀ q, B q → A q) : vx_L C n d B U H := by
  obtain ⟨c, k, i, f, a, cell, h1, h2, h3, h4, h5, h6, h7, h8, h9, h10⟩ := h
  exact ⟨c, k, i, f, a, cell, h1, h2, h3, h4, h5, h6, h7, h8, h9, fun g => h10 (hAB _ g)⟩
theorem kk_Bn {kc : Nat → Nat} {A B : Nat → Prop} {U : State} {H : Heap} (h : en_B kc A U H) (hAB : ∀ q, B q → A q) : en_B kc B U H := by
  obtain ⟨h1, h2, h3, h4, h5, h6, h7, h8, h9, h10, h11, h12⟩ := h
  exact ⟨h1, h2, h3, h4, h5, h6, h7.narrow hAB, kk_Zn h8 hAB, ⟨kk_Zqn h9.1 hAB, kk_vxL h9.2 hAB⟩, ⟨kk_Zqn h10.1 hAB, kk_vxL h10.2 hAB⟩, h11, kk_Zqn h12 hAB⟩
theorem kk_Pc.blind {kc : Nat → Nat} {D : va_G} {A : Nat → Prop} {ws : va_W} {tys : List (ClassId × FieldType)} {vs : List Value} : FrameBlind (kk_Pc kc D A ws tys vs) := by
  intro a U g mk h
  obtain ⟨h1, h2, h3⟩ := h
  exact ⟨en_Pc.blind a U g mk h1, h2.moved (u := U) (U := U.calling g mk a) (Vm.Alike.refl U.vm), va_Z.moved (u := U) (U := U.calling g mk a) (Vm.Alike.refl U.vm) h3.1, h3.2.same rfl rfl⟩
/-- the receiver is an object of that class -/
def kk_rcv (w : List kk_C) (as : List en_V) (cn : Nat) : Bool := match as with
  | (4, x) :: _ => (match w[x.toNat]? with
    | some (0, ci, _, _) => Nat.beq ci cn
    | _ => false)
  | (6, x) :: _ => Nat.beq cn 100 && Nat.blt x.toNat 3
  | _ => false
def kk_rck (i : Instr) (w : List kk_C) (as : List en_V) (cn : Nat) : Bool := match i with
  | .invokevirtual _ => kk_rcv w as cn
  | .invokestatic _ => true
  | _ => false
section KKD
variable {p : Program} {l : Launch} {e : Env} {Rm : Room} {s : State} {m : MethodId} {args : Array Value} {below : List Frame} {meth : Method} {c : Code} {Q : State → Prop}
variable {kc : Nat → Nat} {D : va_G} {A : Nat → Prop} {M : List en_T} {t t' : en_T}
variable {ws : va_W} {tys : List (ClassId × FieldType)} {H : Heap} {locs : List Loc} {la : Array Slot} {rest vs : List Value} {L : en_L} {r as : List en_V} {w : List kk_C} {n1 n2 pc a b k d bc bs : Nat} {i : Instr}
theorem kk_run {A' : Nat → Prop} {Pc : Array Value → State → Prop} {Qc : Array Value → State → Outcome → State → Prop} (C : en_cx p l e Rm s m args meth c kc A (en_ty t) (en_tc t) (en_tl t) bc bs) (hdg : decode (en_tc t) pc = .ok (i, 3)) (hck : en_clk M t i a b k) (hk9 : k < 3) (hi : kk_rck i w as (en_tn t') = true) (hk0 : ∀ x, i = .invokestatic x → k ≠ 7 ∧ 1 ≤ k)
    (hMa : M[a]? = some t') (ok' : en_Mok M t') (hh : en_th t' = []) (hvs : en_f2 (en_v kc [] ws) as vs) (hvl : vs.length = b) (hr' : kk_R kc D A s (en_tl t) ws tys H locs la rest L r w) (hlen : r.length ≤ 4)
    (hRf : d + 9 ≤ Rm.frames) (hRl : 64 * (d + 3) ≤ Rm.locals) (hff : n1 ≤ Rm.cells ∧ n2 ≤ Rm.slots)
    (Mt : Met l (en_ty t') (Cond.code (en_ty t') (en_tc t') (en_tl t') (en_tr t') :: en_gw) (en_room d 0 0) Pc Qc 0 0 A') (hbl : FrameBlind Pc) (hpc : ∀ U : State, U.heap = H → s.WarmedH U.vm → Pc vs.toArray U) :
    va_Run p l e Rm s m args below meth c H locs n1 n2 0 0 (F0 m pc la (vs.reverse ++ rest)) rest (Qc vs.toArray) A' := by
  obtain ⟨hx, hb, hml, hown, hts, hB, hA, hnm, -, -, hfr1, hlo64⟩ := C
  have hsum := en_sum hr'.2.1
  have hroom := lv_room (m := m) (pc := pc) (ls := la) (rest := vs.reverse ++ rest) (st := rest) (by omega)
  have hsz : la.size = en_tl t := by obtain ⟨⟨lv, q1, -⟩, -⟩ := hr'; exact q1.1
  have hRR : (en_room d 0 0).frames + 1 ≤ Rm.frames ∧ 8 + (en_tl t' + 11) + (en_room d 0 0).locals ≤ Rm.locals := by
    have h45 := ok'.2.2.2.1
    constructor
    · show d + 8 + 1 ≤ Rm.frames; omega
    · show 8 + (en_tl t' + 11) + 64 * (d + 2) ≤ Rm.locals; omega
  have hcode : Cond.code (en_ty t') (en_tc t') (en_tl t') (en_tr t') ∈ en_gw := by
    have := ok'.2.1
    unfold en_hd at this
    rw [hh] at this
    exact this
  cases i with
  | invokevirtual x =>
    obtain ⟨-, w1, w2, w3, w4, w5, w6, w7, -⟩ := hck t' hMa
    have hi9 : kk_rcv w as (en_tn t') = true := hi
    clear hi
    have hi := hi9
    clear hi9
    cases vs with
    | nil => simp at hvl; omega
    | cons v0 vs =>
      cases as with
      | nil => exact hvs.elim
      | cons a0 as =>
        obtain ⟨q0, rfl, hrec⟩ : ∃ q0 : Nat, v0 = .ref q0 ∧ ∃ cellB : Cell, H[q0]? = some cellB ∧ cellB.vm.isStatics = false ∧ s.vm.findClass (en_ty t').cls = some cellB.cls := by
          unfold kk_rcv at hi
          split at hi
          · rename_i x9 r9 heq
            cases heq
            split at hi
            · rename_i ci fs g hc
              have hci := Nat.eq_of_beq_eq_true hi
              obtain ⟨q, e0, e9, h5⟩ := kk_v4 hvs.1
              obtain ⟨fv, rfl, -⟩ := kk_at hr'.2.2.1 h5 hc
              have hne : en_tn t' ≠ 100 := by
                intro h100
                obtain ⟨r9, h9, -⟩ := hr'.2.2.2.2.1 _ _ h5
                rw [hci, h100] at h9
                have h10 : en_cl[100]? = none := rfl
                rw [h10] at h9
                cases h9
              obtain ⟨rr, r1, r2⟩ := w7 hne
              refine ⟨q, e9, ?_⟩
              rw [← r2]
              subst hci
              exact va_recv hr'.2.2.2.1 hr'.2.2.2.2.1 r1 h5
            · cases hi
          · rename_i x9 r9 heq
            cases heq
            rw [Bool.and_eq_true] at hi
            refine ⟨_, kk_v6 hvs.1, ?_⟩
            rw [w6 (Nat.eq_of_beq_eq_true hi.1)]
            exact vk_recv hB.2.2.2.2.2.2.1 (en_blt hi.2) hr'.2.2.2.2.2.2
          · cases hi
        have hgood : GoodIn en_gw (wsV (en_ty t).cls x (en_ty t').cls (en_ty t') (Cond.code (en_ty t') (en_tc t') (en_tl t') (en_tr t') :: en_gw)) := by
          intro w9 hw9
          have hm9 : w9 ∈ en_gw := by
            unfold wsV at hw9
            rcases List.mem_append.mp hw9 with h | h
            · simp only [List.mem_cons, List.not_mem_nil, or_false] at h
              rcases h with rfl | rfl | rfl | rfl
              · exact w1
              · exact w2
              · exact w3
              · exact ok'.2.2.1
            · rcases List.mem_cons.mp h with rfl | h
              · exact hcode
              · exact h
          exact ⟨hm9, good_of_word (List.mem_filter.mp hm9).2⟩
        exact va_runV (As := vs) (rest := rest) (b := q0) (g := F0 m pc la ((Value.ref q0 :: vs).reverse ++ rest)) (locs := locs) (cells := n1) (slots := n2) (below := below) (meth := meth) (e := e) ⟨hx, hb, hml, hown, hts⟩ Mt (cwV (b - 1) hts hgood rfl rfl rfl ⟨rfl, w4.1, w4.2.1, w4.2.2⟩ hRR) ⟨hbl, hrec, hpc⟩ rfl (by simp at hvl; omega) hsz (by simp) hroom hdg hff
  | invokestatic x =>
    obtain ⟨h7, h1k⟩ := hk0 x rfl
    obtain ⟨-, hck⟩ := hck h7
    obtain ⟨w1, w2, w3, w4, w5⟩ := hck t' hMa
    by_cases hk1 : k = 1
    · obtain ⟨-, w6⟩ := w3 hk1
      have hgood : GoodIn en_gw (va_wsS (en_ty t).cls x (en_ty t') (Cond.code (en_ty t') (en_tc t') (en_tl t') (en_tr t') :: en_gw)) := by
        intro w9 hw9
        have hm9 : w9 ∈ en_gw := by
          unfold va_wsS at hw9
          rcases List.mem_append.mp hw9 with h | h
          · simp only [List.mem_cons, List.not_mem_nil, or_false] at h
            rcases h with rfl | rfl | rfl
            · exact w6
            · exact w1
            · exact ok'.2.2.1
          · rcases List.mem_cons.mp h with rfl | h
            · exact hcode
            · exact h
        exact ⟨hm9, good_of_word (List.mem_filter.mp hm9).2⟩
      exact va_runS (As := vs) (rest := rest) (g := F0 m pc la (vs.reverse ++ rest)) (locs := locs) (cells := n1) (slots := n2) (below := below) (meth := meth) (e := e) ⟨hx, hb, hml, hown, hts⟩ Mt (va_cwS b hts hgood rfl rfl rfl ⟨w2.1, w2.2.1, w2.2.2⟩ hRR) ⟨hbl, hpc⟩ rfl hvl hsz rfl hroom hdg hff
    · obtain ⟨-, w6⟩ := w4 (by omega)
      exact va_runSN (As := vs) (rest := rest) (g := F0 m pc la (vs.reverse ++ rest)) (locs := locs) (cells := n1) (slots := n2) (below := below) (meth := meth) (e := e) ⟨hx, hb, hml, hown, hts⟩ Mt ⟨va_cnB b hts (en_good hcode) rfl rfl rfl (hB.1 _ w6) (hts _ ok'.2.2.1) ⟨w2.1, w2.2.1, w2.2.2⟩ hRR, hts _ w1, trivial⟩ ⟨hbl, hpc⟩ rfl hvl hsz rfl hroom hdg hff
  | _ => cases hi
/-- the world behind a call of a part -/
theorem kk_join {ps : List Nat} {ws0 ws0' : va_W} {w0' : List kk_C} {H1 : Heap} (hnd : va_nd ps = true) (hC : ps.map (fun i => ws[i]?) = ws0.map some) (hw : kk_w kc ws tys w) (hP : va_P D en_cl ws H) (hD : va_D A ws)
    (hle : en_le ws0 ws0') (hl0 : ws0'.length = ws0.length) (hw0 : kk_w kc ws0' tys w0') (hP0 : va_P D en_cl ws0' H1) (hk : ∀ q : Nat, q < H.size → ¬ va_A ws0 H.size q → H1[q]? = H[q]?) :
    en_le ws (kk_plug id ps ws0' ws) ∧ (kk_plug id ps ws0' ws).length = ws.length ∧ ps.map (fun i => (kk_plug id ps ws0' ws)[i]?) = ws0'.map some ∧ kk_w kc (kk_plug id ps ws0' ws) tys (kk_plug (kk_renC ps) ps w0' w) ∧ va_P D en_cl (kk_plug id ps ws0' ws) H1 ∧ va_D A (kk_plug id ps ws0' ws) := by
  have hlp := kk_part_len hC
  have inn : ∀ {i k : Nat}, ps[i]? = some k → ∃ (q : Nat) (e0 e1 : va_E), ws[k]? = some (q, e0) ∧ ws0[i]? = some (q, e0) ∧ ws0'[i]? = some (q, e1) ∧ (kk_plug id ps ws0' ws)[k]? = some (q, e1) := by
    intro i k hi
    have hil : i < ws0.length := by rw [← hlp]; exact (List.getElem?_eq_some_iff.mp hi).1
    obtain ⟨q, e0⟩ : Nat × va_E := ws0[i]
    have h1 : ws0[i]? = some ws0[i] := List.getElem?_eq_getElem hil
    generalize ws0[i] = q0 at h1
    obtain ⟨q, e0⟩ := q0
    have h2 : ws[k]? = some (q, e0) := by rw [← kk_part_to hC hi]; exact h1
    obtain ⟨e1, h3⟩ := hle i q e0 h1
    exact ⟨q, e0, e1, h2, h1, h3, kk_plug_in (f := id) hnd hi h3 (List.getElem?_eq_some_iff.mp h2).1⟩
  have pl : ∀ {k : Nat}, k ∈ ps → ∃ i, ps[i]? = some k := fun h => List.getElem?_of_mem h
  have le' : en_le ws (kk_plug id ps ws0' ws) := by
    intro k q e0 hk0
    by_cases hm : k ∈ ps
    · obtain ⟨i, hi⟩ := pl hm
      obtain ⟨q', e0', e1, h1, -, -, h4⟩ := inn hi
      cases Option.some.inj (hk0.symm.trans h1)
      exact ⟨e1, h4⟩
    · exact ⟨e0, by rw [kk_plug_out hm]; exact hk0⟩
  have hlen' : (kk_plug id ps ws0' ws).length = ws.length := kk_plug_len
  have hC' : ps.map (fun i => (kk_plug id ps ws0' ws)[i]?) = ws0'.map some := by
    apply List.ext_getElem?
    intro i
    rw [List.getElem?_map, List.getElem?_map]
    cases hi : ps[i]? with
    | none =>
      have : ws0'[i]? = none := by
        rw [List.getElem?_eq_none_iff] at hi ⊢
        omega
      rw [this]
      rfl
    | some k =>
      obtain ⟨q', e0', e1, -, -, h3, h4⟩ := inn hi
      rw [h3]
      show some ((kk_plug id ps ws0' ws)[k]?) = _
      rw [h4]
      rfl
  have back : ∀ {k : Nat} {q : Nat × va_E}, (kk_plug id ps ws0' ws)[k]? = some q → ∃ e0, ws[k]? = some (q.1, e0) := by
    intro k q hq
    have hkl : k < ws.length := by rw [← hlen']; exact (List.getElem?_eq_some_iff.mp hq).1
    have h1 : ws[k]? = some ws[k] := List.getElem?_eq_getElem hkl
    generalize ws[k] = z at h1
    obtain ⟨q', e0⟩ := z
    obtain ⟨e1, h2⟩ := le' k q' e0 h1
    cases Option.some.inj (h2.symm.trans hq)
    exact ⟨e0, h1⟩
  refine ⟨le', hlen', hC', ⟨by rw [kk_plug_len, hlen']; exact hw.1, fun k cl hk1 => ?_⟩, fun k q hq => ?_, fun i j x y hi hj hxy => ?_, fun k q hq => ?_⟩
  · by_cases hm : k ∈ ps
    · obtain ⟨i, hi⟩ := pl hm
      obtain ⟨q', e0', e1, h1, -, h3, h4⟩ := inn hi
      have hil : i < w0'.length := by rw [hw0.1]; exact (List.getElem?_eq_some_iff.mp h3).1
      have hci : w0'[i]? = some w0'[i] := List.getElem?_eq_getElem hil
      rw [kk_plug_in (f := kk_renC ps) hnd hi hci (by rw [hw.1]; exact (List.getElem?_eq_some_iff.mp h1).1)] at hk1
      cases hk1
      obtain ⟨q2, e2, h5, h6⟩ := hw0.2 i _ hci
      cases Option.some.inj (h3.symm.trans h5)
      exact ⟨q', e1, h4, kk_c_bck hC' h6⟩
    · rw [kk_plug_out hm] at hk1
      obtain ⟨q, e0, h1, h2⟩ := hw.2 k cl hk1
      exact ⟨q, e0, by rw [kk_plug_out hm]; exact h1, h2.mono le'⟩
  · by_cases hm : k ∈ ps
    · obtain ⟨i, hi⟩ := pl hm
      obtain ⟨q', e0', e1, -, -, h3, h4⟩ := inn hi
      cases Option.some.inj (h4.symm.trans hq)
      exact hP0 i _ h3
    · rw [kk_plug_out hm] at hq
      have h1 := hP k q hq
      refine h1.kept (hk q.1 h1.lt (fun hA => ?_))
      rcases hA with ⟨i, e9, h9⟩ | h9
      · obtain ⟨k', h10, h11⟩ := kk_part_at hC h9
        have := hD.1 k k' q (q.1, e9) hq h11 rfl
        subst this
        exact hm (List.mem_of_getElem? h10)
      · have := h1.lt; omega
  · obtain ⟨e1, h1⟩ := back hi
    obtain ⟨e2, h2⟩ := back hj
    exact hD.1 i j _ _ h1 h2 hxy
  · obtain ⟨e1, h1⟩ := back hq
    exact hD.2 k (q.1, e1) h1
end KKD
