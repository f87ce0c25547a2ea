/-! THE ENGINE, 14: every run is sound -/
theorem en_X.later {kc : Nat → Nat} {A : Nat → Prop} {s : State} {ρ ρ' : List Int32} {sc : Option Nat} (h : en_X kc A s ρ sc) (hp : en_pre ρ ρ') : en_X kc A s ρ' sc := fun n hn => by
  obtain ⟨xs, g1, g2, g3, g4, g5⟩ := h n hn
  exact ⟨xs, g1, g2, g3, g4, fun i hi => hp _ _ (g5 i hi)⟩
theorem en_new0 {x k : Nat} (h : en_kind (.new x) k = 0) : k = 0 := by
  unfold en_kind at h
  cases h5 : Nat.beq k 55 with
  | true => rw [h5] at h; cases h
  | false =>
    rw [h5] at h
    cases h0 : Nat.beq k 0 with
    | true => exact Nat.eq_of_beq_eq_true h0
    | false => rw [cond_false] at h; dsimp only at h; rw [h0] at h; cases h
theorem en_kind2 {i : Instr} {k : Nat} (h : en_kind i k = 2) : (∃ x, i = .invokevirtual x) ∨ (∃ x, i = .invokestatic x ∧ k ≠ 7) ∨ ∃ x, i = .invokespecial x ∧ k ≠ 0 := by
  unfold en_kind at h
  cases h5 : Nat.beq k 55 with
  | true => rw [h5] at h; cases h
  | false =>
    rw [h5] at h
    rw [cond_false] at h
    cases i with
    | invokevirtual x => exact Or.inl ⟨x, rfl⟩
    | invokestatic x =>
      refine Or.inr (Or.inl ⟨x, rfl, fun e0 => ?_⟩)
      subst e0
      cases h
    | invokespecial x =>
      refine Or.inr (Or.inr ⟨x, rfl, fun e0 => ?_⟩)
      subst e0
      cases h
    | new x => dsimp only at h; cases h0 : Nat.beq k 0 <;> rw [h0] at h <;> cases h
    | _ => cases h
theorem en_split {kc : Nat → Nat} {ρ : List Int32} {ws : va_W} {st as r : List en_V} {n : Nat} {sv : List Value} (h : en_take n [] st = some (as, r)) (hst : en_f2 (en_v kc ρ ws) st sv) : ∃ vs rest, sv = vs.reverse ++ rest ∧ en_f2 (en_v kc ρ ws) as vs ∧ en_f2 (en_v kc ρ ws) r rest ∧ vs.length = n := by
  obtain ⟨pre, h1, h2, h3⟩ := en_take_ok h
  rw [List.append_nil] at h2
  subst h1
  subst h2
  obtain ⟨m1, m2, e, g1, g2⟩ := en_f2_split hst
  refine ⟨m1.reverse, m2, by rw [List.reverse_reverse]; exact e, en_f2_rev g1, g2, ?_⟩
  rw [List.length_reverse, ← en_f2_len g1, h3]
set_option maxHeartbeats 4000000 in
set_option maxRecDepth 100000 in
theorem en_snd {l : Launch} (hl0 : l.stackTraces = false) {kc : Nat → Nat} {D : va_G} {A : Nat → Prop} {M : List en_T} (hM : ∀ t ∈ M, en_Mok M t) (h9 : ∀ t ∈ M, ∀ q ∈ en_te t, en_kind q.2.2.1 q.2.2.2.2.2 = 3 → q.2.2.2.2.2 = 9) : ∀ n, en_SND M l kc D A n := by
  intro n
  induction n with
  | zero => intro d sc t pc S lvs hrun; cases hrun
  | succ n ih =>
    intro d sc t pc S lvs hrun ok p e Rm s m args below meth c Q ρ0 ws0 tys0 C hfr hlo hX hex hleaf
    intro ρ ws tys H locs la sv g1 g2 g3 hr
    rw [en_run_1] at hrun
    unfold en_body at hrun
    cases hf : en_find (en_te t) pc with
    | none => rw [hf] at hrun; cases hrun
    | some z =>
      rw [hf] at hrun
      dsimp only at hrun
      obtain ⟨hdg, hnx, hjm, hlk, hck, hth9, hcov⟩ := ok _ (en_find_ok hf)
      dsimp only at hdg hnx hjm hlk hck hth9 hcov
      cases hb0 : Nat.beq (en_kind z.2.1 z.2.2.2.2) 0 with
      | true =>
        have h0 : en_kind z.2.1 z.2.2.2.2 = 0 := Nat.eq_of_beq_eq_true hb0
        rw [hb0, cond_true, hnx] at hrun
        cases hst : en_step (en_tl t) (en_tmc t) (en_tms t) sc pc (pc + en_ilen z.2.1 z.2.2.2.2) z.2.1 z.2.2.1 z.2.2.2.1 z.2.2.2.2 S.1 S.2.1 S.2.2.1 S.2.2.2.1 S.2.2.2.2.1 S.2.2.2.2.2 with
        | none => rw [hst] at hrun; cases hrun
        | some cs =>
          rw [hst] at hrun
          dsimp only at hrun
          have hall := en_all_ok hrun
          simp only [en_fN_eq, en_nf_eq] at hall
          refine en_step_ok C (hX.later g1) hlk hjm (fun x hx => en_new0 (x := x) (by rw [← hx]; exact h0)) hdg hr ⟨cs, hst, fun q hq => ?_⟩
          obtain ⟨x, hx1, hx2⟩ := hall q hq
          exact ih d sc t q.1 q.2 x hx1 ok p e Rm s m args below meth c Q ρ ws tys C hfr hlo (hX.later g1) hex (fun lf hlf => (hleaf lf (hx2 lf hlf)).later g1 g2 g3)
      | false =>
        rw [hb0, cond_false] at hrun
        cases hb2 : Nat.beq (en_kind z.2.1 z.2.2.2.2) 2 with
        | true =>
          have h2 : en_kind z.2.1 z.2.2.2.2 = 2 := Nat.eq_of_beq_eq_true hb2
          rw [hb2, cond_true] at hrun
          obtain ⟨nx, i, a, b, k⟩ := z
          dsimp only at hrun hdg hnx hjm hlk hck hth9 hcov h2
          obtain ⟨L, st, iv, w, n1, n2⟩ := S
          unfold en_call at hrun
          cases d with
          | zero => cases hrun
          | succ d =>
            dsimp only at hrun
            cases hMa : M[a]? with
            | none => rw [hMa] at hrun; cases hrun
            | some t' =>
              rw [hMa] at hrun
              dsimp only at hrun
              have htM : t' ∈ M := List.mem_of_getElem? hMa
              have ok' := hM t' htM
              cases htk : en_take b [] st with
              | none => rw [htk] at hrun; cases hrun
              | some ar =>
                rw [htk] at hrun
                obtain ⟨as, r⟩ := ar
                dsimp only at hrun
                obtain ⟨vs, rest, rfl, hvs, hrest, hvl⟩ := en_split htk hr.2.1
                have hr' : en_R kc D A s (en_tl t) ρ ws tys H locs la rest L r iv w := ⟨hr.1, hrest, hr.2.2⟩
                obtain ⟨hx, hb, hml, hown, hts, hB, hA, hnm, hbc, hbs, hfr1, hlo64⟩ := C
                have C : en_cx p l e Rm s m args meth c kc A (en_ty t) (en_tc t) (en_tl t) (en_tmc t) (en_tms t) := ⟨hx, hb, hml, hown, hts, hB, hA, hnm, hbc, hbs, hfr1, hlo64⟩
                cases hcd : (Nat.ble r.length 4 && (Nat.ble (en_wds as) (en_tl t') && (Nat.ble (n1 + en_tmc t') (en_tmc t) && (Nat.ble (n2 + en_tms t') (en_tms t) && en_rck i w as (en_tn t'))))) with
                | false => rw [hcd] at hrun; cases hrun
                | true =>
                  rw [hcd] at hrun
                  rw [cond_true] at hrun
                  simp only [Bool.and_eq_true] at hcd
                  obtain ⟨hc1, hc2, hc3, hc4, hc5⟩ := hcd
                  have hc1 := Nat.le_of_ble_eq_true hc1
                  have hc2 := Nat.le_of_ble_eq_true hc2
                  have hc3 := Nat.le_of_ble_eq_true hc3
                  have hc4 := Nat.le_of_ble_eq_true hc4
                  have hsum := en_sum hrest
                  have hroom := lv_room (m := m) (pc := pc) (ls := la) (rest := vs.reverse ++ rest) (st := rest) (by omega)
                  have hsz : la.size = en_tl t := by obtain ⟨⟨lv, q1, -⟩, -⟩ := hr; exact q1.1
                  have hRR : (en_room d (en_tmc t') (en_tms t')).frames + 1 ≤ Rm.frames ∧ 8 + (en_tl t' + 11) + (en_room d (en_tmc t') (en_tms t')).locals ≤ Rm.locals := by
                    have h45 := ok'.2.2.2.1
                    constructor
                    · show d + 8 + 1 ≤ Rm.frames; omega
                    · show 8 + (en_tl t' + 11) + 64 * (d + 2) ≤ Rm.locals; omega
                  have hff : n1 + en_tmc t' ≤ Rm.cells ∧ n2 + en_tms t' ≤ Rm.slots := ⟨by omega, by omega⟩
                  have hpc : ∀ U : State, U.heap = H → s.WarmedH U.vm → en_Pc kc D A ws tys vs vs.toArray U := by
                    intro U hU hW
                    obtain ⟨-, -, -, -, hK, hP, hD, hS⟩ := hr
                    refine ⟨rfl, ?_, fun q hq => ?_, va_K.moved hW.alike hK, by rw [hU]; exact hP, hD⟩
                    · rw [hU]; exact hB.next hW hS.2.1
                    · rw [hU] at hq; exact hA q (Nat.le_trans hS.1 hq)
                  have hcode : ∀ h : en_th t' = [], Cond.code (en_ty t') (en_tc t') (en_tl t') (en_tr t') ∈ en_gw := by
                    intro h
                    have := ok'.2.1
                    unfold en_hd at this
                    rw [h] at this
                    exact this
                  rw [en_nf_eq] at hrun
                  cases hrn : en_run M n d none t' 0 (en_lay 0 as, [], iv, w, 0, 0) with
                  | none => rw [hrn] at hrun; cases hrun
                  | some lv' =>
                    rw [hrn] at hrun
                    dsimp only at hrun
                    cases hk100 : Nat.blt k 100 with
                    | true =>
                      rw [hk100] at hrun
                      rw [cond_true] at hrun
                      cases hlo' : lv'.all (en_lok t') with
                      | false => rw [hlo'] at hrun; cases hrun
                      | true =>
                        rw [hlo'] at hrun
                        rw [cond_true] at hrun
                        have hlv : ∀ lf ∈ lv', en_lok t' lf = true := List.all_eq_true.mp hlo'
                        have hall := en_all_ok hrun
                        simp only [en_fN_eq, en_nf_eq] at hall
                        have hback : ∀ lf ∈ lv', en_K p l e Rm s m args below meth c Q kc D A (en_tl t) ρ ws tys (en_back (pc + 3) L r (n1 + en_tmc t') (n2 + en_tms t') lf).1 (en_back (pc + 3) L r (n1 + en_tmc t') (n2 + en_tms t') lf).2 := by
                          intro lf hlf
                          obtain ⟨x, hx1, hx2⟩ := hall lf hlf
                          have e3 : nx = pc + 3 := by
                            rcases en_kind2 h2 with ⟨x9, rfl⟩ | ⟨x9, rfl, -⟩ | ⟨x9, rfl, -⟩ <;> exact hnx
                          rw [e3] at hx1
                          exact ih (d + 1) sc t _ _ x hx1 ok p e Rm s m args below meth c Q ρ ws tys C hfr hlo (hX.later g1) hex (fun lf hlf => (hleaf lf (hx2 lf hlf)).later g1 g2 g3)
                        rcases en_kind2 h2 with ⟨x, rfl⟩ | ⟨x, rfl, h7⟩ | ⟨x, rfl, h00⟩
                        · obtain ⟨hh, w1, w2, w3, w4, w5, w6, w7, -⟩ := hck t' hMa
                          have Mt := en_met ih ok' hh hrn hlv hc2 hvs hr.2.2.1 hr.2.2.2.1
                          cases vs with
                          | nil => simp at hvl; omega
                          | cons v0 vs =>
                            have hc5 : en_rcv w as (en_tn t') = true := hc5
                            cases as with
                            | nil => exact hvs.elim
                            | cons a0 as =>
                              obtain ⟨q0, rfl, hrec⟩ : ∃ q0 : Nat, v0 = .ref q0 ∧ ∃ cellB : Cell, H[q0]? = some cellB ∧ cellB.vm.isStatics = false ∧ s.vm.findClass (en_ty t').cls = some cellB.cls := by
                                have hc5 : cond (Nat.beq (en_tn t') 100) (Nat.beq a0.1 6 && Nat.blt a0.2.toNat 3) (match en_obj w a0 (en_tn t') with
                                  | some _ => true
                                  | none => false) = true := hc5
                                cases h100 : Nat.beq (en_tn t') 100 with
                                | true =>
                                  rw [h100] at hc5
                                  rw [cond_true, Bool.and_eq_true] at hc5
                                  refine ⟨_, hvs.1.six hc5.1, ?_⟩
                                  rw [w6 (Nat.eq_of_beq_eq_true h100)]
                                  exact vk_recv hB.2.2.2.2.2.2.1 (en_blt hc5.2) hr.2.2.2.2.2.2.2
                                | false =>
                                  rw [h100] at hc5
                                  rw [cond_false] at hc5
                                  cases hob : en_obj w a0 (en_tn t') with
                                  | none => rw [hob] at hc5; cases hc5
                                  | some fa =>
                                    obtain ⟨q, fs, e9, h5, -⟩ := en_obj_ok hr.2.2.2.1 hvs.1 hob
                                    obtain ⟨rr, r1, r2⟩ := w7 (Nat.ne_of_beq_eq_false h100)
                                    refine ⟨q, e9, ?_⟩
                                    rw [← r2]
                                    exact va_recv hr.2.2.2.2.1 hr.2.2.2.2.2.1 r1 h5
                              have hgood : GoodIn en_gw (wsV (en_ty t).cls x (en_ty t').cls (en_ty t') (Cond.code (en_ty t') (en_tc t') (en_tl t') (en_tr t') :: en_gw)) := by
                                intro w9 hw9
                                have hm9 : w9 ∈ en_gw := by
                                  unfold wsV at hw9
                                  rcases List.mem_append.mp hw9 with h | h
                                  · simp only [List.mem_cons, List.not_mem_nil, or_false] at h
                                    rcases h with rfl | rfl | rfl | rfl
                                    · exact w1
                                    · exact w2
                                    · exact w3
                                    · exact ok'.2.2.1
                                  · rcases List.mem_cons.mp h with rfl | h
                                    · exact hcode hh
                                    · exact h
                                exact ⟨hm9, good_of_word (List.mem_filter.mp hm9).2⟩
                              have RUN := va_runV (As := vs) (rest := rest) (b := q0) (g := F0 m pc la ((Value.ref q0 :: vs).reverse ++ rest)) (locs := locs) (cells := n1) (slots := n2) (below := below) (meth := meth) (e := e) ⟨hx, hb, hml, hown, hts⟩ Mt (cwV (b - 1) hts hgood rfl rfl rfl ⟨rfl, w4.1, w4.2.1, w4.2.2⟩ hRR) ⟨en_Pc.blind, hrec, hpc⟩ rfl (by simp at hvl; omega) hsz (by simp) hroom hdg hff
                              exact en_after RUN hr' hback
                        · obtain ⟨-, hck⟩ := hck h7
                          obtain ⟨w1, w2, w3, w4, w5⟩ := hck t' hMa
                          by_cases hk1 : k = 1
                          · obtain ⟨hh, w6⟩ := w3 hk1
                            have Mt := en_met ih ok' hh hrn hlv hc2 hvs hr.2.2.1 hr.2.2.2.1
                            have hgood : GoodIn en_gw (va_wsS (en_ty t).cls x (en_ty t') (Cond.code (en_ty t') (en_tc t') (en_tl t') (en_tr t') :: en_gw)) := by
                              intro w9 hw9
                              have hm9 : w9 ∈ en_gw := by
                                unfold va_wsS at hw9
                                rcases List.mem_append.mp hw9 with h | h
                                · simp only [List.mem_cons, List.not_mem_nil, or_false] at h
                                  rcases h with rfl | rfl | rfl
                                  · exact w6
                                  · exact w1
                                  · exact ok'.2.2.1
                                · rcases List.mem_cons.mp h with rfl | h
                                  · exact hcode hh
                                  · exact h
                              exact ⟨hm9, good_of_word (List.mem_filter.mp hm9).2⟩
                            have RUN := va_runS (As := vs) (rest := rest) (g := F0 m pc la (vs.reverse ++ rest)) (locs := locs) (cells := n1) (slots := n2) (below := below) (meth := meth) (e := e) ⟨hx, hb, hml, hown, hts⟩ Mt (va_cwS b hts hgood rfl rfl rfl ⟨w2.1, w2.2.1, w2.2.2⟩ hRR) ⟨en_Pc.blind, hpc⟩ rfl hvl hsz rfl hroom hdg hff
                            exact en_after RUN hr' hback
                          · by_cases hk2 : k = 2
                            · obtain ⟨hh, w6⟩ := w4 hk2
                              have Mt := en_met ih ok' hh hrn hlv hc2 hvs hr.2.2.1 hr.2.2.2.1
                              have RUN := va_runSN (As := vs) (rest := rest) (g := F0 m pc la (vs.reverse ++ rest)) (locs := locs) (cells := n1) (slots := n2) (below := below) (meth := meth) (e := e) ⟨hx, hb, hml, hown, hts⟩ Mt ⟨va_cnB b hts (en_good (hcode hh)) rfl rfl rfl (hB.1 _ w6) (hts _ ok'.2.2.1) ⟨w2.1, w2.2.1, w2.2.2⟩ hRR, hts _ w1, trivial⟩ ⟨en_Pc.blind, hpc⟩ rfl hvl hsz rfl hroom hdg hff
                              exact en_after RUN hr' hback
                            · obtain ⟨hh, w6⟩ := w5 hk1 hk2
                              have Mt := en_metW ih ok' hrn hlv hc2 hvs hr.2.2.1 hr.2.2.2.1
                              have hcw : Cond.codeWith (en_ty t') (en_tc t') (en_tl t') (en_tr t') (en_th t') ∈ en_gw := by
                                have h99 := ok'.2.1
                                unfold en_hd at h99
                                cases hth' : en_th t' with
                                | nil => exact absurd hth' hh
                                | cons h1 h2 => rw [hth'] at h99; exact h99
                              have hgood : GoodIn en_gw (va_wsS (en_ty t).cls x (en_ty t') (Cond.codeWith (en_ty t') (en_tc t') (en_tl t') (en_tr t') (en_th t') :: en_gw)) := by
                                intro w9 hw9
                                have hm9 : w9 ∈ en_gw := by
                                  unfold va_wsS at hw9
                                  rcases List.mem_append.mp hw9 with h | h
                                  · simp only [List.mem_cons, List.not_mem_nil, or_false] at h
                                    rcases h with rfl | rfl | rfl
                                    · exact w6
                                    · exact w1
                                    · exact ok'.2.2.1
                                  · rcases List.mem_cons.mp h with rfl | h
                                    · exact hcw
                                    · exact h
                                exact ⟨hm9, good_of_word (List.mem_filter.mp hm9).2⟩
                              have RUN := vx_runSW (As := vs) (rest := rest) (g := F0 m pc la (vs.reverse ++ rest)) (locs := locs) (cells := n1) (slots := n2) (below := below) (meth := meth) (e := e) ⟨hx, hb, hml, hown, hts⟩ Mt (vx_cwSW b hts hgood rfl rfl rfl ⟨w2.1, w2.2.1, w2.2.2⟩ hRR) ⟨en_Pc.blind, hpc⟩ rfl hvl hsz rfl hroom hdg hff
                              exact en_after RUN hr' hback
                        · obtain ⟨-, hck⟩ := hck h00
                          obtain ⟨hh, w1, w2, w3, w4, w5, w6, w7⟩ := hck t' hMa
                          have Mt := en_met ih ok' hh hrn hlv hc2 hvs hr.2.2.1 hr.2.2.2.1
                          have hcode' := hcode hh
                          rw [w1] at Mt hcode'
                          cases vs with
                          | nil => simp at hvl; omega
                          | cons v0 vs =>
                            cases as with
                            | nil => exact hvs.elim
                            | cons a0 as =>
                              obtain ⟨q0, rfl⟩ := hvs.1.ref (show en_isR a0 = true from hc5)
                              by_cases hk1 : k = 1
                              · have RUN := va_runI (As := vs) (rest := rest) (b := q0) (g := F0 m pc la ((Value.ref q0 :: vs).reverse ++ rest)) (locs := locs) (cells := n1) (slots := n2) (below := below) (meth := meth) (e := e) ⟨hx, hb, hml, hown, hts⟩ Mt (cwI (b - 1) hts (en_good hcode') rfl rfl rfl (hts _ ok'.2.2.1) (hts _ (w6 hk1)) (hts _ w3) w2 ⟨w4.1, w4.2.1, w4.2.2⟩ hRR) ⟨en_Pc.blind, hpc⟩ rfl (by simp at hvl; omega) hsz (by simp) hroom hdg hff
                                exact en_after RUN hr' hback
                              · have RUN := va_runIN (As := vs) (rest := rest) (b := q0) (g := F0 m pc la ((Value.ref q0 :: vs).reverse ++ rest)) (locs := locs) (cells := n1) (slots := n2) (below := below) (meth := meth) (e := e) ⟨hx, hb, hml, hown, hts⟩ Mt ⟨va_cnB (b - 1) hts (en_good hcode') rfl rfl rfl (hB.1 _ (w7 hk1)) (hts _ ok'.2.2.1) ⟨w4.1, w4.2.1, w4.2.2⟩ hRR, w2, hts _ w3⟩ ⟨en_Pc.blind, hpc⟩ rfl (by simp at hvl; omega) hsz (by simp) hroom hdg hff
                                exact en_after RUN hr' hback
                    | false =>
                      rw [hk100] at hrun
                      rw [cond_false] at hrun
                      have hk9 : 100 ≤ k := by
                        rcases Nat.lt_or_ge k 100 with h | h
                        · rw [show Nat.blt k 100 = true from Nat.ble_eq_true_of_le h] at hk100; cases hk100
                        · exact h
                      cases hlo' : lv'.all (fun lf => en_lok t' lf || en_lth t' lf) with
                      | false => rw [hlo'] at hrun; cases hrun
                      | true =>
                        rw [hlo'] at hrun
                        rw [cond_true] at hrun
                        have hlv : ∀ lf ∈ lv', (en_lok t' lf || en_lth t' lf) = true := List.all_eq_true.mp hlo'
                        have hall := en_all_ok hrun
                        simp only [en_fN_eq, en_nf_eq] at hall
                        rcases en_kind2 h2 with ⟨x, rfl⟩ | ⟨x, rfl, h7⟩ | ⟨x, rfl, h00⟩
                        · obtain ⟨hh, w1, w2, w3, w4, w5, w6, w7, w8⟩ := hck t' hMa
                          obtain ⟨q00, f1, f2, f3, f4, f5⟩ := w8 hk9
                          have Mt := en_vmet hl0 ih ok' hh hrn hlv (h9 t' htM) hc2 hvs hr.2.2.1 hr.2.2.2.1
                          cases vs with
                          | nil => simp at hvl; omega
                          | cons v0 vs =>
                            have hc5 : en_rcv w as (en_tn t') = true := hc5
                            cases as with
                            | nil => exact hvs.elim
                            | cons a0 as =>
                              obtain ⟨q0, rfl, hrec⟩ : ∃ q0 : Nat, v0 = .ref q0 ∧ ∃ cellB : Cell, H[q0]? = some cellB ∧ cellB.vm.isStatics = false ∧ s.vm.findClass (en_ty t').cls = some cellB.cls := by
                                have hc5 : cond (Nat.beq (en_tn t') 100) (Nat.beq a0.1 6 && Nat.blt a0.2.toNat 3) (match en_obj w a0 (en_tn t') with
                                  | some _ => true
                                  | none => false) = true := hc5
                                cases h100 : Nat.beq (en_tn t') 100 with
                                | true =>
                                  rw [h100] at hc5
                                  rw [cond_true, Bool.and_eq_true] at hc5
                                  refine ⟨_, hvs.1.six hc5.1, ?_⟩
                                  rw [w6 (Nat.eq_of_beq_eq_true h100)]
                                  exact vk_recv hB.2.2.2.2.2.2.1 (en_blt hc5.2) hr.2.2.2.2.2.2.2
                                | false =>
                                  rw [h100] at hc5
                                  rw [cond_false] at hc5
                                  cases hob : en_obj w a0 (en_tn t') with
                                  | none => rw [hob] at hc5; cases hc5
                                  | some fa =>
                                    obtain ⟨q, fs, e9, h5, -⟩ := en_obj_ok hr.2.2.2.1 hvs.1 hob
                                    obtain ⟨rr, r1, r2⟩ := w7 (Nat.ne_of_beq_eq_false h100)
                                    refine ⟨q, e9, ?_⟩
                                    rw [← r2]
                                    exact va_recv hr.2.2.2.2.1 hr.2.2.2.2.2.1 r1 h5
                              have hgood : GoodIn en_gw (wsV (en_ty t).cls x (en_ty t').cls (en_ty t') (Cond.code (en_ty t') (en_tc t') (en_tl t') (en_tr t') :: en_gw)) := by
                                intro w9 hw9
                                have hm9 : w9 ∈ en_gw := by
                                  unfold wsV at hw9
                                  rcases List.mem_append.mp hw9 with h | h
                                  · simp only [List.mem_cons, List.not_mem_nil, or_false] at h
                                    rcases h with rfl | rfl | rfl | rfl
                                    · exact w1
                                    · exact w2
                                    · exact w3
                                    · exact ok'.2.2.1
                                  · rcases List.mem_cons.mp h with rfl | h
                                    · exact hcode hh
                                    · exact h
                                exact ⟨hm9, good_of_word (List.mem_filter.mp hm9).2⟩
                              have RUN := vx_runV (As := vs) (rest := rest) (b := q0) (g := F0 m pc la ((Value.ref q0 :: vs).reverse ++ rest)) (locs := locs) (cells := n1) (slots := n2) (below := below) (meth := meth) (e := e) ⟨hx, hb, hml, hown, hts⟩ Mt (cwV (b - 1) hts hgood rfl rfl rfl ⟨rfl, w4.1, w4.2.1, w4.2.2⟩ hRR) ⟨en_Pc.blind, hrec, hpc⟩ rfl (by simp at hvl; omega) hsz (by simp) hroom hdg hff
                              refine en_afterX (k := k) RUN hr' hown hts hB (by rw [hex, f1]) (hcov hk9 q00 f1) f3 f4 f5 (fun lf hlf hlk => ?_) (fun lf hlf hlk => ?_)
                              · obtain ⟨x9, hx1, hx2⟩ := hall lf hlf
                                rw [hlk] at hx1
                                have e3 : nx = pc + 3 := hnx
                                rw [e3] at hx1
                                exact ih (d + 1) sc t _ _ x9 hx1 ok p e Rm s m args below meth c Q ρ ws tys C hfr hlo (hX.later g1) hex (fun lf hlf => (hleaf lf (hx2 lf hlf)).later g1 g2 g3)
                              · obtain ⟨x9, hx1, hx2⟩ := hall lf hlf
                                rw [hlk] at hx1
                                exact ih (d + 1) sc t _ _ x9 hx1 ok p e Rm s m args below meth c Q ρ ws tys C hfr hlo (hX.later g1) hex (fun lf hlf => (hleaf lf (hx2 lf hlf)).later g1 g2 g3)
                        · have := (hck h7).1; omega
                        · have := (hck h00).1; omega
        | false =>
          rw [hb2, cond_false] at hrun
          cases hrun
          exact hleaf _ List.mem_cons_self ρ ws tys H locs la sv g1 g2 g3 hr
