/-! THE ENGINE, 13: behind a call, and the whole: every run is sound -/
section ENA
variable {p : Program} {l : Launch} {e : Env} {Rm : Room} {s : State} {m : MethodId} {args : Array Value} {below : List Frame} {meth : Method} {c : Code} {Q : State → Prop}
variable {kc : Nat → Nat} {D : va_G} {A : Nat → Prop} {nL : Nat} {M : List en_T} {t' : en_T}
variable {ρ : List Int32} {ws : va_W} {tys : List (ClassId × FieldType)} {H : Heap} {locs : List Loc} {la : Array Slot} {sv rest : List Value} {L : en_L} {r : List en_V} {iv : en_I} {w : List en_C} {n1 n2 pc mc ms : Nat} {a : Array Value} {lvs : List (Nat × en_S)}
theorem en_glue {st₀ T T' : State} {Lq : List Loc} (h0 : st₀.heap = H) (e1 : T'.heap = T.heap) (hS : va_S A s.heap H locs) (hF : va_F A st₀ T) (hL : ∀ q ∈ Lq, A q.base) : va_S A s.heap T'.heap (locs ++ Lq) := by
  obtain ⟨hz, hk⟩ := hF
  rw [h0] at hz hk
  exact ⟨Nat.le_trans hS.1 (by rw [e1]; exact hz), fun q h1 h2 => by rw [e1, hk q (Nat.lt_of_lt_of_le h1 hS.1) h2]; exact hS.2.1 q h1 h2, fun q hq => by
    rcases List.mem_append.mp hq with h | h
    · exact hS.2.2 q h
    · exact hL q h⟩
theorem en_ret1 {st₀ T T' : State} {Lq : List Loc} {lf : Nat × en_S} {v : Option Value} {ρ' : List Int32} {ws' : va_W} (hr : en_R kc D A s nL ρ ws tys H locs la rest L r iv w) (h0 : st₀.heap = H) (e1 : T'.heap = T.heap) (hal : s.vm.Alike T.vm) (hL : ∀ q ∈ Lq, A q.base) (hrv : en_rv kc ρ' ws' lf.2.2.1 v) (hwd : en_wd kc D A ρ ws tys lf st₀ T ρ' ws')
    (hk : en_K p l e Rm s m args below meth c Q kc D A nL ρ ws tys (en_back (pc + 3) L r (n1 + mc) (n2 + ms) lf).1 (en_back (pc + 3) L r (n1 + mc) (n2 + ms) lf).2) : W p l e Rm s m args below meth c T'.heap (locs ++ Lq) (n1 + mc) (n2 + ms) Q (F0 m (pc + 3) la (v.toList ++ rest)) := by
  obtain ⟨tys', q1, q2, q3, q4, q5, q6, q7, q8, q9⟩ := hwd
  obtain ⟨⟨lv, l1, l2⟩, hst, -, -, -, -, -, hS⟩ := hr
  refine hk ρ' ws' tys' T'.heap (locs ++ Lq) la (v.toList ++ rest) q1 q2 q3 ⟨⟨lv, l1, en_f2_mono (fun a b q => ⟨q.1, q.2.mono q1 q2⟩) l2⟩, ?_, q4, q5, va_K.moved hal.symm q6, by rw [e1]; exact q7, q8, en_glue h0 e1 hS q9 hL⟩
  have hst' : en_f2 (en_v kc ρ' ws') r rest := en_f2_mono (fun a b => en_v.mono q1 q2) hst
  unfold en_rv at hrv
  show en_f2 _ (match lf.2.2.1 with
    | [] => r
    | v :: _ => v :: r) _
  split at hrv
  · rename_i h; rw [h, hrv]; exact hst'
  · rename_i a r' h
    obtain ⟨x, e9, hx⟩ := hrv
    rw [h, e9]
    exact ⟨hx, hst'⟩
theorem en_after (hrun : va_Run p l e Rm s m args below meth c H locs n1 n2 mc ms (F0 m pc la sv) rest (en_Qc kc D A ρ ws tys lvs a) A) (hr : en_R kc D A s nL ρ ws tys H locs la rest L r iv w)
    (hk : ∀ lf ∈ lvs, en_K p l e Rm s m args below meth c Q kc D A nL ρ ws tys (en_back (pc + 3) L r (n1 + mc) (n2 + ms) lf).1 (en_back (pc + 3) L r (n1 + mc) (n2 + ms) lf).2) : W p l e Rm s m args below meth c H locs n1 n2 Q (F0 m pc la sv) := by
  intro T hT X
  obtain ⟨v, st₀, T1, T', Lq, h0, X', hL, e1, e2, ⟨lf, v', ρ', ws', hm, hv, hrv, hwd⟩, st⟩ := hrun T hT X
  cases hv
  obtain ⟨t2, a1, b1⟩ := en_ret1 hr h0 e1 (by rw [← e2]; exact X'.warmed.alike) hL hrv hwd (hk lf hm) T' rfl X'
  exact ⟨t2, st t2 a1, b1⟩
/-- behind a call that may throw, caught by the method's one handler -/
theorem en_afterX {own : String} {k : Nat} {q0 : Nat × Nat × Nat × Nat} (hrun : vx_Run p l e Rm s m args below meth c H locs n1 n2 mc ms (F0 m pc la sv) rest (en_QcR kc D A ρ ws tys t' lvs a) (en_XC kc D A ρ ws tys t' lvs) A) (hr : en_R kc D A s nL ρ ws tys H locs la rest L r iv w)
    (hown : s.vm.findClass own = some m.cls) (hts : ∀ w ∈ en_gw, w.before args s = true) (hB : en_B kc A s s.heap) (hex : c.exceptionTable.toList = tableOf [q0]) (hcov : covers ⟨q0.1, q0.2.1, q0.2.2.1, q0.2.2.2⟩ pc = true) (hq3 : q0.2.2.1 = k - 100) (hq4 : q0.2.2.2 ≠ 0) (hlk : Cond.classLink own q0.2.2.2 en_nse ∈ en_gw)
    (hk : ∀ lf ∈ lvs, en_lok t' lf = true → en_K p l e Rm s m args below meth c Q kc D A nL ρ ws tys (en_back (pc + 3) L r (n1 + mc) (n2 + ms) lf).1 (en_back (pc + 3) L r (n1 + mc) (n2 + ms) lf).2)
    (hkx : ∀ lf ∈ lvs, en_lok t' lf = false → en_K p l e Rm s m args below meth c Q kc D A nL ρ ws tys (en_cat k L (n1 + mc) (n2 + ms) lf).1 (en_cat k L (n1 + mc) (n2 + ms) lf).2) : W p l e Rm s m args below meth c H locs n1 n2 Q (F0 m pc la sv) := by
  intro T hT X
  rcases hrun T hT X with ⟨v, st₀, T1, T', Lq, h0, X', hL, e1, e2, ⟨lf, v', ρ', ws', hm, hlo, hv, hrv, hwd⟩, st⟩ | ⟨q, st₀, T1, T', Lq, E, ce, h0, X', hL, e1, e2, ⟨hE, lf, ρ', ws', hm, hlo, hwd⟩, hce, hcv, hcl, st⟩
  · cases hv
    obtain ⟨t2, a1, b1⟩ := en_ret1 hr h0 e1 (by rw [← e2]; exact X'.warmed.alike) hL hrv hwd (hk lf hm hlo) T' rfl X'
    exact ⟨t2, st t2 a1, b1⟩
  · subst hE
    have hal : s.vm.Alike T1.vm := by rw [← e2]; exact X'.warmed.alike
    obtain ⟨tys', q1, q2, q3, q4, q5, q6, q7, q8, q9⟩ := hwd
    obtain ⟨⟨lv, l1, l2⟩, hst, -, -, -, -, -, hS⟩ := hr
    have K : W p l e Rm s m args below meth c T'.heap (locs ++ Lq) (n1 + mc) (n2 + ms) Q (F0 m q0.2.2.1 la [.ref q]) := by
      rw [hq3]
      exact hkx lf hm hlo ρ' ws' tys' T'.heap (locs ++ Lq) la [.ref q] q1 q2 q3 ⟨⟨lv, l1, en_f2_mono (fun a b q => ⟨q.1, q.2.mono q1 q2⟩) l2⟩, ⟨⟨q, rfl⟩, trivial⟩, q4, q5, va_K.moved hal.symm q6, by rw [e1]; exact q7, q8, en_glue h0 e1 hS q9 hL⟩
    have hcast : (Cond.castable en_nse en_nse).before args s = true := (hB.2.2.2.2.2.2.2.2.2.2.1 _ List.mem_cons_self).use rfl
    have V := vx_catch (p := p) (l := l) (e := e) (R := Rm) (below := below) (meth := meth) (Q := Q) (rest := rest) (ls := la) (pc := pc) (H := T'.heap) (locs := locs ++ Lq) (cells := n1 + mc) (slots := n2 + ms) (name := en_nse) (E := en_nse) (ce := ce) (q := q) hown [] ⟨q0.1, q0.2.1, q0.2.2.1, q0.2.2.2⟩ [] (by rw [hex]; rfl) (fun z hz => by cases hz) hcov hq4 (hts _ hlk) hcast (by rw [e1]; exact hce) hcv hcl K
    obtain ⟨t2, a1, b1⟩ := V T' rfl X'
    exact ⟨t2, st.trans a1, b1⟩
end ENA
