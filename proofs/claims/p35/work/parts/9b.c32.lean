/-! THE CLASS, 32: calls that throw -/
theorem kk_fe {s : State} {o : Outcome} {t : State} {L : List Loc} {a b a' b' : Nat} (h : FrameEnd s o t L a b) (h1 : a ≤ a') (h2 : b ≤ b') : FrameEnd s o t L a' b' := ⟨h.1, h.2.1, h.2.2.1, h.2.2.2.1, Nat.le_trans h.2.2.2.2.1 (Nat.add_le_add_left h1 _), h.2.2.2.2.2.1, Nat.le_trans h.2.2.2.2.2.2.1 h2, h.2.2.2.2.2.2.2⟩
/-- what a throw leaves -/
def kk_XC (kc : Nat → Nat) (D : va_G) (A : Nat → Prop) (ws : va_W) (tys : List (ClassId × FieldType)) (Ξ : List kk_C → Prop) : String → State → State → Prop := fun E st T => E = en_nse ∧ ∃ (w' : List kk_C) (ws' : va_W), Ξ w' ∧ kk_wd kc D A ws tys w' st T ws'
/-- the contract of a method that may throw -/
def kk_CtrX (l : Launch) (d : Nat) (t : en_T) (as : List en_V) (w : List kk_C) (Φ : List en_V → List kk_C → Prop) (Ξ : List kk_C → Prop) : Prop :=
  ∀ (kc : Nat → Nat) (D : va_G) (A : Nat → Prop) (ws : va_W) (tys : List (ClassId × FieldType)) (vs : List Value), en_f2 (en_v kc [] ws) as vs → kk_w kc ws tys w →
    vx_Met l (en_ty t) (Cond.code (en_ty t) (en_tc t) (en_tl t) (en_tr t) :: en_gw) (en_room d 1 6) (kk_Pc kc D A ws tys vs) (kk_Qc kc D A ws tys Φ) (kk_XC kc D A ws tys Ξ) 1 6 A
/-- the contract of a method with a handler -/
def kk_CtrW (l : Launch) (d : Nat) (t : en_T) (as : List en_V) (w : List kk_C) (Φ : List en_V → List kk_C → Prop) : Prop :=
  ∀ (kc : Nat → Nat) (D : va_G) (A : Nat → Prop) (ws : va_W) (tys : List (ClassId × FieldType)) (vs : List Value), en_f2 (en_v kc [] ws) as vs → kk_w kc ws tys w →
    Met l (en_ty t) (Cond.codeWith (en_ty t) (en_tc t) (en_tl t) (en_tr t) (en_th t) :: en_gw) (en_room d 1 6) (kk_Pc kc D A ws tys vs) (kk_Qc kc D A ws tys Φ) 1 6 A
section KKT
variable {p : Program} {l : Launch} {e : Env} {Rm : Room} {s : State} {m : MethodId} {args : Array Value} {below : List Frame} {meth : Method} {c : Code} {Q : State → Prop}
variable {kc : Nat → Nat} {D : va_G} {A : Nat → Prop} {M : List en_T} {t : en_T} {xc : kk_X}
variable {ws : va_W} {tys : List (ClassId × FieldType)} {n1 n2 d : Nat}
theorem kk_ret_n {a1 b1 : Nat} {Φ : List en_V → List kk_C → Prop} {pc : Nat} {L : en_L} {st : List en_V} {w : List kk_C} {z : kk_Z5} (hE : en_Eok M t) (hf : en_find (en_te t) pc = some z) (hx : p.tables.exec = Jvm.exec) (hb : c.code = en_tc t) (hret : meth.sig.returnType = en_tr t) (hlocks : meth.locks = false) (h : kk_ret z.2.1 (en_tr t) st w Φ) :
    kk_K p l e Rm s m args below meth c (MQ below (kk_Qc kc D A ws tys Φ) args s a1 b1 A) kc D A (en_tl t) ws tys a1 b1 pc L st w := by
  intro ws' H locs la sv hle hr
  obtain ⟨hdg, -⟩ := hE _ (en_find_ok hf)
  obtain ⟨-, hst, hw, hK, hP, hD, hS⟩ := hr
  dsimp only at hdg
  have one : ∀ {x : en_V}, en_f2 (en_v kc [] ws') [x] sv → ∃ v, sv = [v] ∧ en_v kc [] ws' x v := by
    intro x h1
    cases sv with
    | nil => exact h1.elim
    | cons v r => cases r with
      | nil => exact ⟨v, rfl, h1.1⟩
      | cons _ _ => exact h1.2.elim
  have fin : ∀ (T : State) (rs : List en_V) (v : Option Value), T.heap = H → s.WarmedH T.vm → Φ rs w → en_f2 (en_v kc [] ws') rs v.toList → kk_Qc kc D A ws tys Φ args s (.returned v) T := by
    intro T rs v hT hW hΦ hv
    exact ⟨rs, v, w, ws', hΦ, rfl, hv, hle.1, hw, hle.2, va_K.moved hW.alike hK, by rw [hT]; exact hP, hD, hS.F hT⟩
  unfold kk_ret at h
  split at h
  · rename_i x hi hrt
    rw [hi] at hdg
    obtain ⟨v, rfl, hv⟩ := one hst
    obtain ⟨y, rfl, -⟩ := kk_v0 hv
    exact W.zret hx hb (hret.trans hrt) rfl (fun T hT hW => fin T _ (some (.int y)) hT hW h ⟨hv, trivial⟩) hS.2.2 hdg
  · rename_i x hi hrt
    rw [hi] at hdg
    obtain ⟨v, rfl, hv⟩ := one hst
    obtain ⟨y, rfl, e1, -⟩ := kk_v0 hv
    have hy : narrow .boolean (.int y) = .int y := by
      rcases h.1 with h0 | h0
      · have : y = 0 := Int32.toInt_inj.mp ((e1.trans h0).trans (show (0 : Int) = (0 : Int32).toInt from rfl))
        rw [this]; rfl
      · have : y = 1 := Int32.toInt_inj.mp ((e1.trans h0).trans (show (1 : Int) = (1 : Int32).toInt from rfl))
        rw [this]; rfl
    exact W.zret hx hb (hret.trans hrt) hy (fun T hT hW => fin T _ (some (.int y)) hT hW h.2 ⟨hv, trivial⟩) hS.2.2 hdg
  · rename_i x hi hrt
    rw [hi] at hdg
    obtain ⟨v, rfl, hv⟩ := one hst
    obtain ⟨y, rfl, e1, -⟩ := kk_v0 hv
    have hy : narrow .byte (.int y) = .int y := by
      have : y = 0 := Int32.toInt_inj.mp ((e1.trans h.1).trans (show (0 : Int) = (0 : Int32).toInt from rfl))
      rw [this]; rfl
    exact W.zret hx hb (hret.trans hrt) hy (fun T hT hW => fin T _ (some (.int y)) hT hW h.2 ⟨hv, trivial⟩) hS.2.2 hdg
  · rename_i x hi hrt
    rw [hi] at hdg
    obtain ⟨v, rfl, hv⟩ := one hst
    obtain ⟨y, rfl, -, e1⟩ := kk_v0 hv
    have hy : narrow .char (.int y) = .int y := by
      have h1 := h.1
      rw [e1] at h1
      exact congrArg Value.int h1
    exact W.zret hx hb (hret.trans hrt) hy (fun T hT hW => fin T _ (some (.int y)) hT hW h.2 ⟨hv, trivial⟩) hS.2.2 hdg
  · rename_i x hi hrt
    rw [hi] at hdg
    obtain ⟨v, rfl, hv⟩ := one hst
    obtain ⟨y, rfl, -⟩ := kk_v2 hv
    exact W.lret hx hb (hret.trans hrt) (fun T hT hW => fin T _ (some (.long y)) hT hW h ⟨hv, trivial⟩) hS.2.2 hdg
  · rename_i C x hi hrt
    rw [hi] at hdg
    obtain ⟨v, rfl, hv⟩ := one hst
    obtain ⟨y, e0, rfl, -⟩ := kk_v4 hv
    exact W.aret hx hb (hret.trans hrt) (Or.inl ⟨_, rfl⟩) (Or.inr ⟨_, rfl⟩) (fun T hT hW => fin T _ (some (.ref y)) hT hW h ⟨hv, trivial⟩) hS.2.2 hdg
  · rename_i C x hi hrt
    rw [hi] at hdg
    obtain ⟨v, rfl, hv⟩ := one hst
    have e1 : v = .null := hv
    subst e1
    exact W.aret hx hb (hret.trans hrt) (Or.inl ⟨_, rfl⟩) (Or.inl rfl) (fun T hT hW => fin T _ (some .null) hT hW h ⟨hv, trivial⟩) hS.2.2 hdg
  · rename_i hi hrt
    rw [hi] at hdg
    have hnil : sv = [] := by
      cases sv with
      | nil => rfl
      | cons _ _ => exact hst.elim
    subst hnil
    exact W.vret hx hb (hret.trans hrt) (fun T hT hW => fin T [] none hT hW h trivial) hS.2.2 hdg
  · exact h.elim
theorem kk_ctrX (hl0 : l.stackTraces = false) (hM : ∀ t ∈ M, en_Mok M t) {Φ : List en_V → List kk_C → Prop} {Ξ : List kk_C → Prop} {as : List en_V} {w : List kk_C} (ht : t ∈ M) (hh : en_th t = []) (h9 : ∀ q ∈ en_te t, en_kind q.2.2.1 q.2.2.2.2.2 = 3 → q.2.2.2.2.2 = 9) (hwd : en_wds as ≤ en_tl t) (h : ∀ K : kk_Q, kk_Clo l d M t kk_x4 (fun i st w => kk_ret i (en_tr t) st w Φ) K → (∀ (pc : Nat) (L : en_L) (st : List en_V) (w : List kk_C) (z : kk_Z5), en_find (en_te t) pc = some z → en_kind z.2.1 z.2.2.2.2 = 3 → st.length ≤ 4 → Ξ w → K pc L st w) → K 0 (en_lay 0 as) [] w) : kk_CtrX l d t as w Φ Ξ := by
  intro kc D A ws tys vs hvs hw
  have ok := hM t ht
  refine vx_ofW (cc := en_tc t) (maxL := en_tl t) (ret := en_tr t) ok.1 rfl ?_
  intro p e s m args below meth c s₁ B hml hnox hv
  obtain ⟨⟨rfl, hB, hA, hK, hP, hD⟩, hX, hZ⟩ := hv
  have hts := atoms_spec (ws := Cond.code (en_ty t) (en_tc t) (en_tl t) (en_tr t) :: en_gw) B.pre
  have hown : s.vm.findClass (en_ty t).cls = some m.cls := findClass_of_methodNamed B.named
  have hnm : meth.name = (en_ty t).name := (name_of_methodNamed B.named B.method).1
  have C : en_cx p l e (en_room d 1 6) s m vs.toArray meth c kc A (en_ty t) (en_tc t) (en_tl t) 0 0 := ⟨B.exec, B.bytes, hml, hown, fun w hw => hts w (List.mem_cons_of_mem _ hw), hB, hA, hnm, Nat.zero_le _, Nat.zero_le _, by show 1 ≤ d + 8; omega, by show 64 ≤ 64 * (d + 2); omega⟩
  have clo := kk_clo (below := below) (Q := vx_MQ below (kk_Qc kc D A ws tys Φ) (kk_XC kc D A ws tys Ξ) vs.toArray s 1 6 A) (D := D) (ws := ws) (tys := tys) (n1 := 0) (n2 := 0) hM ok.2.2.2.2 C hX (fun _ _ h => h) hZ (Nat.le_refl _) (Nat.le_refl _) (Nat.zero_le _) (Nat.zero_le _)
    (R := fun i st w => kk_ret i (en_tr t) st w Φ) (fun pc L st w z hf _ hr ws' H locs la sv hle hR => vx_ret (W.widen (Nat.zero_le 1) (Nat.zero_le 6) (kk_ret_n ok.2.2.2.2 hf B.exec B.bytes B.returns B.notSynchronized hr ws' H locs la sv hle hR)))
  have K := h _ clo (by
    intro pc L st w z hf hk3 hlen hΞ ws' H locs la sv hle hr
    have hq := ok.2.2.2.2 _ (en_find_ok hf)
    have h99 := h9 _ (en_find_ok hf) hk3
    obtain ⟨hd, -, -, -, -, hthr, -⟩ := hq
    obtain ⟨ik, ic, e0, d3, d4, d7, w1, w2, w3, w4, w5⟩ := hthr h99
    dsimp only at e0
    dsimp only at hd
    rw [e0] at hd
    have hsum := en_sum hr.2.1
    obtain ⟨⟨lv, lv1, -⟩, -, hw', hK', hP', hD', hS'⟩ := id hr
    refine vx_throw0 (names := ["java/lang/RuntimeException", "java/lang/Exception"]) (A := A) (cls := en_nse) (ik := ik) (ic := ic) B.exec B.bytes hl0 hown (by decide +kernel) (by decide +kernel) (hts _ (List.mem_cons_of_mem _ w1)) (hts _ (List.mem_cons_of_mem _ w2)) ?_ w5 hB.2.2.2.2.2.2.2.2.1 hB.2.2.2.2.2.2.2.2.2.1 hS' (by rw [lv1.1, hml]) hd d3 d4 d7 (fun x hx => (hnox x hx).elim) (by show 2 + 3 < d + 8; omega) (by show _ + (13 * (2 + 1) + 42) ≤ 64 * (d + 2); omega) (by show 0 + 1 ≤ 1; decide) (by show 0 + 6 ≤ 6; decide) B.notSynchronized ?_ hS'.2.2 (by show 0 + 1 ≤ 1; decide) (by show 0 + 6 ≤ 6; decide)
    · exact vx_hat (fun w hw => hts w (List.mem_cons_of_mem _ (w3 w hw))) w4 (fun w hw => by
        rcases en_xwM hw with ⟨a, b, rfl⟩ | ⟨x, rfl⟩
        · exact (hB.2.2.2.2.2.2.2.2.2.2.1 _ hw).use rfl
        · exact (hB.2.2.2.2.2.2.2.2.2.2.1 _ hw).use rfl)
    · intro T hal hsz heq
      refine ⟨rfl, w, ws', hΞ, hle.1, hw', hle.2, va_K.moved hal hK', hP'.kept (fun k q hq => heq _ (hP' k q hq).lt), hD', ?_⟩
      exact ⟨Nat.le_trans hS'.1 hsz, fun q hq1 hq2 => by rw [heq q (Nat.lt_of_lt_of_le hq1 hS'.1)]; exact hS'.2.1 q hq1 hq2⟩)
  obtain ⟨g1, g2⟩ := en_lay_ok 0 hvs
  have hl := lv_entry vs (n := en_tl t) (by rw [g2]; exact hwd)
  show W p l e (en_room d 1 6) s m vs.toArray below meth c s.heap [] 0 0 _ (entryFrame m vs.toArray (en_tl t))
  rw [lg_entry_eq]
  exact K ws s.heap [] _ [] kk_le.rf ⟨⟨_, hl, g1⟩, trivial, hw, hK, hP, hD, va_S.rf⟩
/-- a call of a method that may throw, where a handler stands -/
theorem kk_callX (hM : ∀ t ∈ M, en_Mok M t) (hE : en_Eok M t) (C : en_cx p l e Rm s m args meth c kc A (en_ty t) (en_tc t) (en_tl t) 0 0) (hX : kk_XR kc A s s.heap kk_x4) (hZ : kk_Z kc A s s.heap) (hex : c.exceptionTable.toList = tableOf (en_th t)) (hfr : d + 8 ≤ Rm.frames) (hlo : 64 * (d + 2) ≤ Rm.locals) (hn1 : n1 + 1 ≤ Rm.cells) (hn2 : n2 + 6 ≤ Rm.slots)
    {pc nx x a b k : Nat} {L : en_L} {st as r : List en_V} {w : List kk_C} {t' : en_T} {Φ : List en_V → List kk_C → Prop} {Ξ : List kk_C → Prop} {d' : Nat} (hf : en_find (en_te t) pc = some (nx, .invokevirtual x, a, b, k)) (hMa : M[a]? = some t') (htk : en_take b [] st = some (as, r)) (hk9 : 100 ≤ k) (hr4 : r.length ≤ 4) (hi : kk_rcv w as (en_tn t') = true) (hd : d' + 1 ≤ d) (hct : kk_CtrX l d' t' as w Φ Ξ)
    (hk : ∀ rs w', Φ rs w' → kk_K p l e Rm s m args below meth c Q kc D A (en_tl t) ws tys (n1 + 1) (n2 + 6) nx L (rs ++ r) w') (hkx : ∀ w', Ξ w' → kk_K p l e Rm s m args below meth c Q kc D A (en_tl t) ws tys (n1 + 1) (n2 + 6) (k - 100) L [(7, 0)] w') : kk_K p l e Rm s m args below meth c Q kc D A (en_tl t) ws tys n1 n2 pc L st w := by
  obtain ⟨hdg, hnx, hjm, hlk, hck, hth9, hcov⟩ := hE _ (en_find_ok hf)
  dsimp only at hdg hnx hjm hlk hck hth9 hcov
  have hnx : nx = pc + 3 := hnx
  subst hnx
  have ok' := hM t' (List.mem_of_getElem? hMa)
  obtain ⟨hh, w1, w2, w3, w4, w5, w6, w7, w8⟩ := hck t' hMa
  obtain ⟨q00, f1, f2, f3, f4, f5⟩ := w8 hk9
  intro ws' H locs la sv hle hr
  obtain ⟨vs, rest, rfl, hvs, hrest, hvl⟩ := en_split htk hr.2.1
  have hr' : kk_R kc D A s (en_tl t) ws' tys H locs la rest L r w := ⟨hr.1, hrest, hr.2.2⟩
  obtain ⟨hlv, -, hw, hK, hP, hD, hS⟩ := id hr'
  have Mt := hct kc D A ws' tys vs hvs hw
  obtain ⟨hx, hb, hml, hown, hts, hB, hA, hnm, -, -, hfr1, hlo64⟩ := C
  have hsum := en_sum hr'.2.1
  have hroom := lv_room (m := m) (pc := pc) (ls := la) (rest := vs.reverse ++ rest) (st := rest) (by omega)
  have hsz : la.size = en_tl t := by obtain ⟨⟨lv, q1, -⟩, -⟩ := hr'; exact q1.1
  have hRR : (en_room d' 1 6).frames + 1 ≤ Rm.frames ∧ 8 + (en_tl t' + 11) + (en_room d' 1 6).locals ≤ Rm.locals := by
    have h45 := ok'.2.2.2.1
    constructor
    · show d' + 8 + 1 ≤ Rm.frames; omega
    · show 8 + (en_tl t' + 11) + 64 * (d' + 2) ≤ Rm.locals; omega
  have hcode : Cond.code (en_ty t') (en_tc t') (en_tl t') (en_tr t') ∈ en_gw := by
    have := ok'.2.1
    unfold en_hd at this
    rw [hh] at this
    exact this
  have hpc : ∀ U : State, U.heap = H → s.WarmedH U.vm → kk_Pc kc D A ws' tys vs vs.toArray U := by
    intro U hU hW
    have hq : ∀ a : Nat, a < s.heap.size → ¬ A a → U.heap[a]? = s.heap[a]? := by rw [hU]; exact hS.2.1
    refine ⟨⟨rfl, hB.next hW hq, fun q hq => hA q (by rw [hU] at hq; exact Nat.le_trans hS.1 hq), va_K.moved hW.alike hK, by rw [hU]; exact hP, hD⟩, ?_, ?_⟩
    · exact (hX.kept (by rw [hU]; exact hS.1) hq).moved hW.alike
    · exact ⟨va_Z.moved hW.alike (va_Z.kept hZ.1 hq), hZ.2.warmF hW⟩
  cases vs with
  | nil => simp at hvl; omega
  | cons v0 vs =>
    cases as with
    | nil => exact hvs.elim
    | cons a0 as =>
      obtain ⟨q0, rfl, hrec⟩ : ∃ q0 : Nat, v0 = .ref q0 ∧ ∃ cellB : Cell, H[q0]? = some cellB ∧ cellB.vm.isStatics = false ∧ s.vm.findClass (en_ty t').cls = some cellB.cls := by
        unfold kk_rcv at hi
        split at hi
        · rename_i x9 r9 heq
          cases heq
          split at hi
          · rename_i ci fs g hc
            have hci := Nat.eq_of_beq_eq_true hi
            obtain ⟨q, e0, e9, h5⟩ := kk_v4 hvs.1
            obtain ⟨fv, rfl, -⟩ := kk_at hr'.2.2.1 h5 hc
            have hne : en_tn t' ≠ 100 := by
              intro h100
              obtain ⟨r9, h9, -⟩ := hr'.2.2.2.2.1 _ _ h5
              rw [hci, h100] at h9
              have h10 : en_cl[100]? = none := rfl
              rw [h10] at h9
              cases h9
            obtain ⟨rr, r1, r2⟩ := w7 hne
            refine ⟨q, e9, ?_⟩
            rw [← r2]
            subst hci
            exact va_recv hr'.2.2.2.1 hr'.2.2.2.2.1 r1 h5
          · cases hi
        · rename_i x9 r9 heq
          cases heq
          rw [Bool.and_eq_true] at hi
          refine ⟨_, kk_v6 hvs.1, ?_⟩
          rw [w6 (Nat.eq_of_beq_eq_true hi.1)]
          exact vk_recv hB.2.2.2.2.2.2.1 (en_blt hi.2) hr'.2.2.2.2.2.2
        · cases hi
      have hgood : GoodIn en_gw (wsV (en_ty t).cls x (en_ty t').cls (en_ty t') (Cond.code (en_ty t') (en_tc t') (en_tl t') (en_tr t') :: en_gw)) := by
        intro w9 hw9
        have hm9 : w9 ∈ en_gw := by
          unfold wsV at hw9
          rcases List.mem_append.mp hw9 with h | h
          · simp only [List.mem_cons, List.not_mem_nil, or_false] at h
            rcases h with rfl | rfl | rfl | rfl
            · exact w1
            · exact w2
            · exact w3
            · exact ok'.2.2.1
          · rcases List.mem_cons.mp h with rfl | h
            · exact hcode
            · exact h
        exact ⟨hm9, good_of_word (List.mem_filter.mp hm9).2⟩
      have RUN := vx_runV (As := vs) (rest := rest) (b := q0) (g := F0 m pc la ((Value.ref q0 :: vs).reverse ++ rest)) (locs := locs) (cells := n1) (slots := n2) (below := below) (meth := meth) (e := e) ⟨hx, hb, hml, hown, hts⟩ Mt (cwV (b - 1) hts hgood rfl rfl rfl ⟨rfl, w4.1, w4.2.1, w4.2.2⟩ hRR) ⟨kk_Pc.blind, hrec, hpc⟩ rfl (by simp at hvl; omega) hsz (by simp) hroom hdg ⟨hn1, hn2⟩
      intro T hT X
      rcases RUN T hT X with ⟨v, st₀, T1, T', Lq, h0, X', hL, e1, e2, ⟨rs, v', w', ws2, g1, g2, g3, g4, g5, g6, g7, g8, g9, g10⟩, stp⟩ | ⟨q, st₀, T1, T', Lq, E, ce, h0, X', hL, e1, e2, ⟨hEE, w', ws2, g1, g4, g5, g6, g7, g8, g9, g10⟩, hce, hcv, hcl, stp⟩
      · cases g2
        have R2 : kk_R kc D A s (en_tl t) ws2 tys T'.heap (locs ++ Lq) la (v.toList ++ rest) L (rs ++ r) w' := by
          refine ⟨?_, ?_, g5, hK, by rw [e1]; exact g8, g9, en_glue h0 e1 hS g10 hL⟩
          · obtain ⟨lv, l1, l2⟩ := hlv
            exact ⟨lv, l1, en_f2_mono (fun a b q => ⟨q.1, q.2.mono en_pre.rf g4⟩) l2⟩
          · exact en_f2_app g3 (en_f2_mono (fun a b => en_v.mono en_pre.rf g4) hrest)
        obtain ⟨t2, a1, b1⟩ := hk rs w' g1 ws2 T'.heap (locs ++ Lq) la (v.toList ++ rest) (hle.tr ⟨g4, g6⟩) R2 T' rfl X'
        exact ⟨t2, stp t2 a1, b1⟩
      · subst hEE
        have K : W p l e Rm s m args below meth c T'.heap (locs ++ Lq) (n1 + 1) (n2 + 6) Q (F0 m q00.2.2.1 la [.ref q]) := by
          rw [f3]
          refine hkx w' g1 ws2 T'.heap (locs ++ Lq) la [.ref q] (hle.tr ⟨g4, g6⟩) ⟨?_, ⟨⟨q, rfl⟩, trivial⟩, g5, hK, by rw [e1]; exact g8, g9, en_glue h0 e1 hS g10 hL⟩
          obtain ⟨lv, l1, l2⟩ := hlv
          exact ⟨lv, l1, en_f2_mono (fun a b q => ⟨q.1, q.2.mono en_pre.rf g4⟩) l2⟩
        have hcast : (Cond.castable en_nse en_nse).before args s = true := (hB.2.2.2.2.2.2.2.2.2.2.1 _ List.mem_cons_self).use rfl
        have V := vx_catch (p := p) (l := l) (e := e) (R := Rm) (below := below) (meth := meth) (Q := Q) (rest := rest) (ls := la) (pc := pc) (H := T'.heap) (locs := locs ++ Lq) (cells := n1 + 1) (slots := n2 + 6) (name := en_nse) (E := en_nse) (ce := ce) (q := q) hown [] ⟨q00.1, q00.2.1, q00.2.2.1, q00.2.2.2⟩ [] (by rw [hex, f1]; rfl) (fun z hz => by cases hz) (hcov hk9 q00 f1) f4 (hts _ f5) hcast (by rw [e1]; exact hce) hcv hcl K
        obtain ⟨t2, a1, b1⟩ := V T' rfl X'
        exact ⟨t2, stp.trans a1, b1⟩
/-- a walk from the entry of a method with a handler gives its contract -/
theorem kk_ctrW (hM : ∀ t ∈ M, en_Mok M t) {Φ : List en_V → List kk_C → Prop} {as : List en_V} {w : List kk_C} (ht : t ∈ M) (hwd : en_wds as ≤ en_tl t) (h : ∀ K1 K2 : kk_Q, kk_Clo l d M t kk_x4 (fun i st w => kk_ret i (en_tr t) st w Φ) K1 → kk_Clo l d M t kk_x4 (fun i st w => kk_ret i (en_tr t) st w Φ) K2 →
    (∀ {pc nx x a b k : Nat} {L : en_L} {st as r : List en_V} {w : List kk_C} {t' : en_T} {Φ' : List en_V → List kk_C → Prop} {Ξ' : List kk_C → Prop} {d' : Nat}, en_find (en_te t) pc = some (nx, .invokevirtual x, a, b, k) → M[a]? = some t' → en_take b [] st = some (as, r) → 100 ≤ k → r.length ≤ 4 → kk_rcv w as (en_tn t') = true → d' + 1 ≤ d → kk_CtrX l d' t' as w Φ' Ξ' → (∀ rs w', Φ' rs w' → K2 nx L (rs ++ r) w') → (∀ w', Ξ' w' → K2 (k - 100) L [(7, 0)] w') → K1 pc L st w) → K1 0 (en_lay 0 as) [] w) : kk_CtrW l d t as w Φ := by
  intro kc D A ws tys vs hvs hw
  have ok := hM t ht
  refine en_ofWH (cc := en_tc t) (maxL := en_tl t) (ret := en_tr t) (hh := en_th t) ok.1 rfl ?_
  intro p e s m args below meth c s₁ B hml hv
  obtain ⟨⟨rfl, hB, hA, hK, hP, hD⟩, hX, hZ⟩ := hv
  have hts := atoms_spec (ws := Cond.codeWith (en_ty t) (en_tc t) (en_tl t) (en_tr t) (en_th t) :: en_gw) B.pre
  have hown : s.vm.findClass (en_ty t).cls = some m.cls := findClass_of_methodNamed B.named
  have hnm : meth.name = (en_ty t).name := (name_of_methodNamed B.named B.method).1
  have C : en_cx p l e (en_room d 1 6) s m vs.toArray meth c kc A (en_ty t) (en_tc t) (en_tl t) 0 0 := ⟨B.exec, B.bytes, hml, hown, fun w hw => hts w (List.mem_cons_of_mem _ hw), hB, hA, hnm, Nat.zero_le _, Nat.zero_le _, by show 1 ≤ d + 8; omega, by show 64 ≤ 64 * (d + 2); omega⟩
  have hex : c.exceptionTable.toList = tableOf (en_th t) := vx_table (x := en_ty t) B (hts _ List.mem_cons_self)
  have clo1 := kk_clo (below := below) (Q := MQ below (kk_Qc kc D A ws tys Φ) vs.toArray s 1 6 A) (D := D) (ws := ws) (tys := tys) (n1 := 0) (n2 := 0) hM ok.2.2.2.2 C hX (fun _ _ h => h) hZ (Nat.le_refl _) (Nat.le_refl _) (Nat.zero_le _) (Nat.zero_le _)
    (R := fun i st w => kk_ret i (en_tr t) st w Φ) (fun pc L st w z hf _ hr ws' H locs la sv hle hR => W.widen (Nat.zero_le 1) (Nat.zero_le 6) (kk_ret_n ok.2.2.2.2 hf B.exec B.bytes B.returns B.notSynchronized hr ws' H locs la sv hle hR))
  have clo2 := kk_clo (below := below) (Q := MQ below (kk_Qc kc D A ws tys Φ) vs.toArray s 1 6 A) (D := D) (ws := ws) (tys := tys) (n1 := 1) (n2 := 6) hM ok.2.2.2.2 C hX (fun _ _ h => h) hZ (Nat.le_refl _) (Nat.le_refl _) (Nat.le_refl 1) (Nat.le_refl 6)
    (R := fun i st w => kk_ret i (en_tr t) st w Φ) (fun pc L st w z hf _ hr => kk_ret_n ok.2.2.2.2 hf B.exec B.bytes B.returns B.notSynchronized hr)
  have K := h _ _ clo1 clo2 (fun hf hMa htk hk9 hr4 hi hd hct hk hkx => kk_callX (below := below) (n1 := 0) (n2 := 0) hM ok.2.2.2.2 C hX hZ hex (Nat.le_refl _) (Nat.le_refl _) (Nat.le_refl 1) (Nat.le_refl 6) hf hMa htk hk9 hr4 hi hd hct hk hkx)
  obtain ⟨g1, g2⟩ := en_lay_ok 0 hvs
  have hl := lv_entry vs (n := en_tl t) (by rw [g2]; exact hwd)
  show W p l e (en_room d 1 6) s m vs.toArray below meth c s.heap [] 0 0 _ (entryFrame m vs.toArray (en_tl t))
  rw [lg_entry_eq]
  exact K ws s.heap [] _ [] kk_le.rf ⟨⟨_, hl, g1⟩, trivial, hw, hK, hP, hD, va_S.rf⟩
/-- a call of a static method with a handler -/
theorem kk_callW (hM : ∀ t ∈ M, en_Mok M t) (hE : en_Eok M t) (C : en_cx p l e Rm s m args meth c kc A (en_ty t) (en_tc t) (en_tl t) 0 0) (hX : kk_XR kc A s s.heap xc) (hx4 : ∀ k z, kk_x4 k = some z → xc k = some z) (hZ : kk_Z kc A s s.heap) (hfr : d + 8 ≤ Rm.frames) (hlo : 64 * (d + 2) ≤ Rm.locals) (hn1 : n1 + 1 ≤ Rm.cells) (hn2 : n2 + 6 ≤ Rm.slots)
    {pc nx x a b k : Nat} {L : en_L} {st as r : List en_V} {w : List kk_C} {t' : en_T} {Φ : List en_V → List kk_C → Prop} {d' : Nat} (hf : en_find (en_te t) pc = some (nx, .invokestatic x, a, b, k)) (hMa : M[a]? = some t') (htk : en_take b [] st = some (as, r)) (hk7 : k ≠ 7 ∧ k ≠ 1 ∧ k ≠ 2) (hr4 : r.length ≤ 4) (hd : d' + 1 ≤ d) (hct : kk_CtrW l d' t' as w Φ)
    (hk : ∀ rs w', Φ rs w' → kk_K p l e Rm s m args below meth c Q kc D A (en_tl t) ws tys (n1 + 1) (n2 + 6) nx L (rs ++ r) w') : kk_K p l e Rm s m args below meth c Q kc D A (en_tl t) ws tys n1 n2 pc L st w := by
  obtain ⟨hdg, hnx, hjm, hlk, hck, hth9, hcov⟩ := hE _ (en_find_ok hf)
  dsimp only at hdg hnx hjm hlk hck hth9 hcov
  have ok' := hM t' (List.mem_of_getElem? hMa)
  obtain ⟨hlt, hck⟩ := hck hk7.1
  obtain ⟨w1, w2, w3, w4, w5⟩ := hck t' hMa
  obtain ⟨hh, w6⟩ := w5 hk7.2.1 hk7.2.2
  have hil : en_ilen (.invokestatic x) k = 3 := rfl
  have hnx : nx = pc + 3 := hnx
  subst hnx
  intro ws' H locs la sv hle hr
  obtain ⟨vs, rest, rfl, hvs, hrest, hvl⟩ := en_split htk hr.2.1
  have hr' : kk_R kc D A s (en_tl t) ws' tys H locs la rest L r w := ⟨hr.1, hrest, hr.2.2⟩
  obtain ⟨hlv, -, hw, hK, hP, hD, hS⟩ := id hr'
  have Mt := hct kc D A ws' tys vs hvs hw
  obtain ⟨hx, hb, hml, hown, hts, hB, hA, hnm, -, -, hfr1, hlo64⟩ := C
  have hsum := en_sum hr'.2.1
  have hroom := lv_room (m := m) (pc := pc) (ls := la) (rest := vs.reverse ++ rest) (st := rest) (by omega)
  have hsz : la.size = en_tl t := by obtain ⟨⟨lv, q1, -⟩, -⟩ := hr'; exact q1.1
  have hRR : (en_room d' 1 6).frames + 1 ≤ Rm.frames ∧ 8 + (en_tl t' + 11) + (en_room d' 1 6).locals ≤ Rm.locals := by
    have h45 := ok'.2.2.2.1
    constructor
    · show d' + 8 + 1 ≤ Rm.frames; omega
    · show 8 + (en_tl t' + 11) + 64 * (d' + 2) ≤ Rm.locals; omega
  have hcw : Cond.codeWith (en_ty t') (en_tc t') (en_tl t') (en_tr t') (en_th t') ∈ en_gw := by
    have h99 := ok'.2.1
    unfold en_hd at h99
    cases hth' : en_th t' with
    | nil => exact absurd hth' hh
    | cons h1 h2 => rw [hth'] at h99; exact h99
  have hpc : ∀ U : State, U.heap = H → s.WarmedH U.vm → kk_Pc kc D A ws' tys vs vs.toArray U := by
    intro U hU hW
    have hq : ∀ a : Nat, a < s.heap.size → ¬ A a → U.heap[a]? = s.heap[a]? := by rw [hU]; exact hS.2.1
    refine ⟨⟨rfl, hB.next hW hq, fun q hq => hA q (by rw [hU] at hq; exact Nat.le_trans hS.1 hq), va_K.moved hW.alike hK, by rw [hU]; exact hP, hD⟩, ?_, ?_⟩
    · exact ((hX.fewer hx4).kept (by rw [hU]; exact hS.1) hq).moved hW.alike
    · exact ⟨va_Z.moved hW.alike (va_Z.kept hZ.1 hq), hZ.2.warmF hW⟩
  have hgood : GoodIn en_gw (va_wsS (en_ty t).cls x (en_ty t') (Cond.codeWith (en_ty t') (en_tc t') (en_tl t') (en_tr t') (en_th t') :: en_gw)) := by
    intro w9 hw9
    have hm9 : w9 ∈ en_gw := by
      unfold va_wsS at hw9
      rcases List.mem_append.mp hw9 with h | h
      · simp only [List.mem_cons, List.not_mem_nil, or_false] at h
        rcases h with rfl | rfl | rfl
        · exact w6
        · exact w1
        · exact ok'.2.2.1
      · rcases List.mem_cons.mp h with rfl | h
        · exact hcw
        · exact h
    exact ⟨hm9, good_of_word (List.mem_filter.mp hm9).2⟩
  have RUN := vx_runSW (As := vs) (rest := rest) (g := F0 m pc la (vs.reverse ++ rest)) (locs := locs) (cells := n1) (slots := n2) (below := below) (meth := meth) (e := e) ⟨hx, hb, hml, hown, hts⟩ Mt (vx_cwSW b hts hgood rfl rfl rfl ⟨w2.1, w2.2.1, w2.2.2⟩ hRR) ⟨kk_Pc.blind, hpc⟩ rfl hvl hsz rfl hroom hdg ⟨hn1, hn2⟩
  intro T hT X
  obtain ⟨v, st₀, T1, T', Lq, h0, X', hL, e1, e2, ⟨rs, v', w', ws2, g1, g2, g3, g4, g5, g6, g7, g8, g9, g10⟩, stp⟩ := RUN T hT X
  cases g2
  have R2 : kk_R kc D A s (en_tl t) ws2 tys T'.heap (locs ++ Lq) la (v.toList ++ rest) L (rs ++ r) w' := by
    refine ⟨?_, ?_, g5, hK, by rw [e1]; exact g8, g9, en_glue h0 e1 hS g10 hL⟩
    · obtain ⟨lv, l1, l2⟩ := hlv
      exact ⟨lv, l1, en_f2_mono (fun a b q => ⟨q.1, q.2.mono en_pre.rf g4⟩) l2⟩
    · exact en_f2_app g3 (en_f2_mono (fun a b => en_v.mono en_pre.rf g4) hrest)
  obtain ⟨t2, a1, b1⟩ := hk rs w' g1 ws2 T'.heap (locs ++ Lq) la (v.toList ++ rest) (hle.tr ⟨g4, g6⟩) R2 T' rfl X'
  exact ⟨t2, stp t2 a1, b1⟩
end KKT
