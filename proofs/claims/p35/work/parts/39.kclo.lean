/-! THE CALCULUS, 10: what a method's walk may use -/
/-- a return: what is answered fits the method's type -/
def kk_ret (i : Instr) (rt : Option FieldType) (st : List en_V) (w : List kk_C) (Φ : List en_V → List kk_C → Prop) : Prop := match i, rt, st with
  | .ireturn, some .int, [(0, x)] => Φ [(0, x)] w
  | .ireturn, some .boolean, [(0, x)] => (x = 0 ∨ x = 1) ∧ Φ [(0, x)] w
  | .ireturn, some .byte, [(0, x)] => x = 0 ∧ Φ [(0, x)] w
  | .ireturn, some .char, [(0, x)] => (Int32.ofInt x).toUInt32.toUInt16.toUInt32.toInt32 = Int32.ofInt x ∧ Φ [(0, x)] w
  | .lreturn, some .long, [(2, x)] => Φ [(2, x)] w
  | .areturn, some (.object _), [(4, x)] => Φ [(4, x)] w
  | .areturn, some (.object _), [(5, x)] => Φ [(5, x)] w
  | .return_, none, [] => Φ [] w
  | _, _, _ => False
abbrev kk_Z5 : Type := Nat × Instr × Nat × Nat × Nat
def kk_one (xc : kk_X) (R : Instr → List en_V → List kk_C → Prop) (t : en_T) (z : kk_Z5) (pc : Nat) (L : en_L) (st : List en_V) (w : List kk_C) (K : kk_Q) : Prop := match en_kind z.2.1 z.2.2.2.2 with
  | 0 => kk_stp (en_tl t) xc pc z.1 z.2.1 z.2.2.1 z.2.2.2.1 z.2.2.2.2 L st w K
  | 1 => R z.2.1 st w
  | _ => False
/-- what is looked at before a call -/
def kk_chk (z : kk_Z5) (t' : en_T) (as r : List en_V) (w : List kk_C) : Bool := Nat.beq (en_kind z.2.1 z.2.2.2.2) 2 && (Nat.blt z.2.2.2.2 3 && (Nat.ble 1 z.2.2.2.2 && (Nat.ble r.length 4 && (Nat.ble (en_wds as) (en_tl t') && (kk_rck z.2.1 w as (en_tn t') && (en_th t').isEmpty)))))
/-- what is looked at of the part of the world that a call is given -/
def kk_prt (ps : List Nat) (as0 : List en_V) (w0 : List kk_C) : Bool := va_nd ps && (as0.all (kk_wfv ps.length) && w0.all (kk_wfC ps.length))
/-- K is closed under steps, calls by contract, and less being known -/
def kk_Clo (l : Launch) (d : Nat) (M : List en_T) (t : en_T) (xc : kk_X) (R : Instr → List en_V → List kk_C → Prop) (K : kk_Q) : Prop :=
  (∀ {pc : Nat} {L : en_L} {st : List en_V} {w : List kk_C} (z : kk_Z5), en_find (en_te t) pc = some z → kk_one xc R t z pc L st w K → K pc L st w) ∧
  (∀ {pc : Nat} {L : en_L} {st : List en_V} {w : List kk_C} (z : kk_Z5) (t' : en_T) (as r as0 : List en_V) (w0 : List kk_C) (Φ : List en_V → List kk_C → Prop) (ps : List Nat) (d' : Nat), en_find (en_te t) pc = some z → M[z.2.2.1]? = some t' → en_take z.2.2.2.1 [] st = some (as, r) → kk_chk z t' as r w = true → kk_prt ps as0 w0 = true → as = as0.map (kk_ren ps) → kk_emb ps (w0.map (kk_renC ps)) w → d' + 1 ≤ d → kk_Ctr l d' t' as0 w0 Φ →
    (∀ rs w0', Φ rs w0' → K z.1 L (rs.map (kk_ren ps) ++ r) (kk_plug (kk_renC ps) ps w0' w)) → K pc L st w) ∧
  (∀ {pc : Nat} {L L' : en_L} {st : List en_V} {w : List kk_C}, kk_sub L' L → K pc L' st w → K pc L st w) ∧
  (∀ {pc : Nat} {L : en_L} {st : List en_V} {w : List kk_C} (i : Nat) (x : Int), en_get L i = some (0, x) → (kk_i x → K pc L st w) → K pc L st w) ∧
  (∀ {pc : Nat} {L : en_L} {st : List en_V} {w : List kk_C} (i : Nat) (x : Int), en_get L i = some (2, x) → (kk_l x → K pc L st w) → K pc L st w) ∧
  (∀ {pc : Nat} {L : en_L} {st : List en_V} {w : List kk_C} (k n : Nat) (fs : List en_V) (f : Nat → Int), w[k]? = some (1, n, fs, f) → ((∀ j, j < n → kk_i (f j)) → K pc L st w) → K pc L st w) ∧
  (∀ {pc : Nat} {L : en_L} {st : List en_V} {w : List kk_C} (k n : Nat) (fs : List en_V) (f : Nat → Int), w[k]? = some (2, n, fs, f) → ((∀ j, j < n → kk_l (f j)) → K pc L st w) → K pc L st w) ∧
  (∀ {pc : Nat} {L : en_L} {st : List en_V} {w : List kk_C} (k ci b : Nat) (fs : List en_V) (f : Nat → Int) (x : Int), w[k]? = some (0, ci, fs, f) → fs[b]? = some (0, x) → (kk_i x → K pc L st w) → K pc L st w) ∧
  (∀ {pc : Nat} {L : en_L} {st : List en_V} {w : List kk_C} (z : kk_Z5) (t' : en_T) (as r : List en_V) (Φ : List en_V → List kk_C → Prop) (d' : Nat), en_find (en_te t) pc = some z → M[z.2.2.1]? = some t' → en_take z.2.2.2.1 [] st = some (as, r) → kk_chk z t' as r w = true → d' + 1 ≤ d → kk_Ctr l d' t' as w Φ →
    (∀ rs w', Φ rs w' → K z.1 L (rs ++ r) w') → K pc L st w)
section KKE
variable {p : Program} {l : Launch} {e : Env} {Rm : Room} {s : State} {m : MethodId} {args : Array Value} {below : List Frame} {meth : Method} {c : Code} {Q : State → Prop}
variable {kc : Nat → Nat} {D : va_G} {A : Nat → Prop} {M : List en_T} {t : en_T} {xc : kk_X} {R : Instr → List en_V → List kk_C → Prop}
variable {ws : va_W} {tys : List (ClassId × FieldType)} {n1 n2 d : Nat}
theorem kk_kind0 {i : Instr} {k : Nat} (h : en_kind i k = 0) : ∀ x, i = .invokestatic x → k = 7 := by
  intro x hx
  subst hx
  unfold en_kind at h
  cases h5 : Nat.beq k 55 with
  | true => rw [h5] at h; cases h
  | false =>
    rw [h5, cond_false] at h
    dsimp only at h
    cases h7 : Nat.beq k 7 with
    | true => exact Nat.eq_of_beq_eq_true h7
    | false => rw [h7] at h; cases h
theorem kk_len3 {i : Instr} {k : Nat} (h : en_kind i k = 2) (hk : k < 3) : en_ilen i k = 3 := by
  rcases en_kind2 h with ⟨x, rfl⟩ | ⟨x, rfl, -⟩ | ⟨x, rfl, -⟩ <;> rfl
/-- in a context: the machine's own K is closed -/
theorem kk_clo (hM : ∀ t ∈ M, en_Mok M t) (hE : en_Eok M t) (C : en_cx p l e Rm s m args meth c kc A (en_ty t) (en_tc t) (en_tl t) 0 0) (hX : kk_XR kc A s s.heap xc) (hx4 : ∀ k z, kk_x4 k = some z → xc k = some z) (hZ : kk_Z kc A s s.heap) (hfr : d + 8 ≤ Rm.frames) (hlo : 64 * (d + 2) ≤ Rm.locals) (hn1 : n1 ≤ Rm.cells) (hn2 : n2 ≤ Rm.slots)
    (hR : ∀ (pc : Nat) (L : en_L) (st : List en_V) (w : List kk_C) (z : kk_Z5), en_find (en_te t) pc = some z → en_kind z.2.1 z.2.2.2.2 = 1 → R z.2.1 st w → kk_K p l e Rm s m args below meth c Q kc D A (en_tl t) ws tys n1 n2 pc L st w) :
    kk_Clo l d M t xc R (kk_K p l e Rm s m args below meth c Q kc D A (en_tl t) ws tys n1 n2) := by
  refine ⟨?_, ?_, fun hs h => h.sub hs, ?_, ?_, ?_, ?_, ?_, ?_⟩
  · intro pc L st w z hf h
    obtain ⟨hdg, hnx, hjm, hlk, hck, hth9, hcov⟩ := hE _ (en_find_ok hf)
    dsimp only at hdg hnx hjm hlk hck hth9 hcov
    unfold kk_one at h
    split at h
    · rename_i h0
      intro ws' H locs la sv hle hr
      rw [hnx] at h
      exact kk_stp_ok C hX hZ hlk hjm (kk_kind0 h0) hdg hn1 hn2 hr (kk_stp_m (fun _ _ _ _ g => g.later hle) h)
    · rename_i h1
      exact hR pc L st w z hf h1 h
    · exact h.elim
  · intro pc L st w z t' as r as0 w0 Φ ps d' hf hMa htk hch hpt has hem hd hct hk
    obtain ⟨hdg, hnx, hjm, hlk, hck, hth9, hcov⟩ := hE _ (en_find_ok hf)
    dsimp only at hdg hnx hjm hlk hck hth9 hcov
    unfold kk_chk at hch
    unfold kk_prt at hpt
    simp only [Bool.and_eq_true] at hch hpt
    obtain ⟨c1, c2, c3, c4, c5, c6, c7⟩ := hch
    obtain ⟨p1, p2, p3⟩ := hpt
    have c1 := Nat.eq_of_beq_eq_true c1
    have c2 := en_blt c2
    have c3 := Nat.le_of_ble_eq_true c3
    have c4 := Nat.le_of_ble_eq_true c4
    have hh : en_th t' = [] := List.isEmpty_iff.mp c7
    have ok' := hM t' (List.mem_of_getElem? hMa)
    have h3 := kk_len3 c1 c2
    rw [h3] at hdg hnx
    intro ws' H locs la sv hle hr
    obtain ⟨vs, rest, rfl, hvs, hrest, hvl⟩ := en_split htk hr.2.1
    have hr' : kk_R kc D A s (en_tl t) ws' tys H locs la rest L r w := ⟨hr.1, hrest, hr.2.2⟩
    obtain ⟨hlv, -, hw, hK, hP, hD, hS⟩ := id hr'
    obtain ⟨ws0, hC⟩ := kk_emb_ws hw hem
    have hlp := kk_part_len hC
    have hlw : ps.length = w0.length := by have := kk_emb_len hem; rwa [List.length_map] at this
    subst has
    have hvs0 := kk_f2_ren hC p2 hvs
    have hw0 : kk_w kc ws0 tys w0 := by
      refine ⟨by rw [← hlw, hlp], fun i cl hi => ?_⟩
      have hil : i < ps.length := by rw [hlw]; exact (List.getElem?_eq_some_iff.mp hi).1
      have hpi : ps[i]? = some ps[i] := List.getElem?_eq_getElem hil
      obtain ⟨cl', g1, g2⟩ := kk_emb_at hem hpi
      rw [List.getElem?_map, hi] at g1
      cases g1
      obtain ⟨q, e0, g3, g4⟩ := hw.2 _ _ g2
      refine ⟨q, e0, by rw [kk_part_to hC hpi]; exact g3, kk_c_ren hC ?_ g4⟩
      exact List.all_eq_true.mp p3 cl (List.mem_of_getElem? hi)
    have hfree := va_free hD hS C.2.2.2.2.2.2.1 ps hC
    have Mt := hct kc D (va_A ws0 H.size) ws0 tys vs hvs0 hw0
    have RUN := kk_run (below := below) (l := l) (locs := locs) (n1 := n1) (n2 := n2) (la := la) (L := L) (d := d') C hdg hck c2 c6 (fun x hx => ⟨by omega, c3⟩) hMa ok' hh hvs hvl hr' c4 (by omega) (by omega) ⟨hn1, hn2⟩ Mt kk_Pc.blind (fun U hU hW => by
      have hq : ∀ a : Nat, a < s.heap.size → ¬ A a → U.heap[a]? = s.heap[a]? := by rw [hU]; exact hS.2.1
      refine ⟨⟨rfl, kk_Bn (C.2.2.2.2.2.1.next hW hq) hfree, fun q hq => Or.inr (by rw [← hU]; exact hq), va_K.moved hW.alike hK, by rw [hU]; exact hP.sub ps (by
        have := congrArg (List.filterMap id) hC
        simpa [List.filterMap_map] using this), (hD.sub ps p1 hC).self⟩, ?_, ?_⟩
      · exact (((hX.fewer hx4).kept (by rw [hU]; exact hS.1) hq).moved hW.alike).narrow hfree
      · exact ⟨kk_Zn (va_Z.moved hW.alike (va_Z.kept hZ.1 hq)) hfree, hZ.2.warmF hW⟩)
    intro T hT X
    obtain ⟨v, st₀, T1, T', Lq, h0, X', hL, e1, e2, ⟨rs, v', w0', ws0', g1, g2, g3, g4, g5, g6, g7, g8, g9, g10⟩, stp⟩ := RUN T hT X
    cases g2
    obtain ⟨j1, j2, j3, j4, j5, j6⟩ := kk_join p1 hC hw hP hD g4 g6 g5 g8 (fun q q1 q2 => by
      have := g10.2 q (by rw [h0]; exact q1) q2
      rw [h0] at this
      exact this)
    have hF : va_F A st₀ T1 := ⟨g10.1, fun q q1 q2 => g10.2 q q1 (fun q3 => q2 (hfree q q3))⟩
    have hk' := hk rs w0' g1
    rw [hnx] at hk'
    have R2 : kk_R kc D A s (en_tl t) (kk_plug id ps ws0' ws') tys T'.heap (locs ++ Lq) la (v.toList ++ rest) L (rs.map (kk_ren ps) ++ r) (kk_plug (kk_renC ps) ps w0' w) := by
      refine ⟨?_, ?_, j4, hK, by rw [e1]; exact j5, j6, en_glue h0 e1 hS hF (fun q hq => hfree _ (hL q hq))⟩
      · obtain ⟨lv, l1, l2⟩ := hlv
        exact ⟨lv, l1, en_f2_mono (fun a b q => ⟨q.1, q.2.mono en_pre.rf j1⟩) l2⟩
      · exact en_f2_app (kk_f2_bck j3 g3) (en_f2_mono (fun a b => en_v.mono en_pre.rf j1) hrest)
    obtain ⟨t2, a1, b1⟩ := hk' (kk_plug id ps ws0' ws') T'.heap (locs ++ Lq) la (v.toList ++ rest) (hle.tr ⟨j1, j2⟩) R2 T' rfl X'
    exact ⟨t2, stp t2 a1, b1⟩
  · intro pc L st w i x hg h ws' H locs la sv hle hr
    obtain ⟨v, -, h2⟩ := hr.get hg
    obtain ⟨y, -, e1, -⟩ := kk_v0 h2
    exact h (by rw [← e1]; exact kk_i_of y) ws' H locs la sv hle hr
  · intro pc L st w i x hg h ws' H locs la sv hle hr
    obtain ⟨v, -, h2⟩ := hr.get hg
    obtain ⟨y, -, e1, -⟩ := kk_v2 h2
    exact h (by rw [← e1]; exact kk_l_of y) ws' H locs la sv hle hr
  · intro pc L st w k n fs f hg h ws' H locs la sv hle hr
    obtain ⟨q, e0, -, cA, f', t', -, -, h9⟩ := hr.2.2.1.2 k _ hg
    exact h (fun j hj => by have e9 : (f' j).toInt = f j := h9 j hj; rw [← e9]; exact kk_i_of _) ws' H locs la sv hle hr
  · intro pc L st w k n fs f hg h ws' H locs la sv hle hr
    obtain ⟨q, e0, -, cA, f', t', -, -, h9⟩ := hr.2.2.1.2 k _ hg
    exact h (fun j hj => by have e9 : (f' j).toInt = f j := h9 j hj; rw [← e9]; exact kk_l_of _) ws' H locs la sv hle hr
  · intro pc L st w k ci b fs f x hg hb h ws' H locs la sv hle hr
    obtain ⟨q, e0, -, fv, -, h9⟩ := hr.2.2.1.2 k _ hg
    obtain ⟨v', -, h8⟩ := en_f2_get h9 b _ hb
    obtain ⟨y, -, e1, -⟩ := kk_v0 h8
    exact h (by rw [← e1]; exact kk_i_of y) ws' H locs la sv hle hr
  · intro pc L st w z t' as r Φ d' hf hMa htk hch hd hct hk
    obtain ⟨hdg, hnx, hjm, hlk, hck, hth9, hcov⟩ := hE _ (en_find_ok hf)
    dsimp only at hdg hnx hjm hlk hck hth9 hcov
    unfold kk_chk at hch
    simp only [Bool.and_eq_true] at hch
    obtain ⟨c1, c2, c3, c4, c5, c6, c7⟩ := hch
    have c1 := Nat.eq_of_beq_eq_true c1
    have c2 := en_blt c2
    have c3 := Nat.le_of_ble_eq_true c3
    have c4 := Nat.le_of_ble_eq_true c4
    have hh : en_th t' = [] := List.isEmpty_iff.mp c7
    have ok' := hM t' (List.mem_of_getElem? hMa)
    have h3 := kk_len3 c1 c2
    rw [h3] at hdg hnx
    intro ws' H locs la sv hle hr
    obtain ⟨vs, rest, rfl, hvs, hrest, hvl⟩ := en_split htk hr.2.1
    have hr' : kk_R kc D A s (en_tl t) ws' tys H locs la rest L r w := ⟨hr.1, hrest, hr.2.2⟩
    obtain ⟨hlv, -, hw, hK, hP, hD, hS⟩ := id hr'
    have Mt := hct kc D A ws' tys vs hvs hw
    have RUN := kk_run (below := below) (l := l) (locs := locs) (n1 := n1) (n2 := n2) (la := la) (L := L) (d := d') C hdg hck c2 c6 (fun x hx => ⟨by omega, c3⟩) hMa ok' hh hvs hvl hr' c4 (by omega) (by omega) ⟨hn1, hn2⟩ Mt kk_Pc.blind (fun U hU hW => by
      have hq : ∀ a : Nat, a < s.heap.size → ¬ A a → U.heap[a]? = s.heap[a]? := by rw [hU]; exact hS.2.1
      refine ⟨⟨rfl, C.2.2.2.2.2.1.next hW hq, fun q hq => C.2.2.2.2.2.2.1 q (by rw [hU] at hq; exact Nat.le_trans hS.1 hq), va_K.moved hW.alike hK, by rw [hU]; exact hP, hD⟩, ?_, ?_⟩
      · exact ((hX.fewer hx4).kept (by rw [hU]; exact hS.1) hq).moved hW.alike
      · exact ⟨va_Z.moved hW.alike (va_Z.kept hZ.1 hq), hZ.2.warmF hW⟩)
    intro T hT X
    obtain ⟨v, st₀, T1, T', Lq, h0, X', hL, e1, e2, ⟨rs, v', w', ws2, g1, g2, g3, g4, g5, g6, g7, g8, g9, g10⟩, stp⟩ := RUN T hT X
    cases g2
    have hk' := hk rs w' g1
    rw [hnx] at hk'
    have R2 : kk_R kc D A s (en_tl t) ws2 tys T'.heap (locs ++ Lq) la (v.toList ++ rest) L (rs ++ r) w' := by
      refine ⟨?_, ?_, g5, hK, by rw [e1]; exact g8, g9, en_glue h0 e1 hS g10 hL⟩
      · obtain ⟨lv, l1, l2⟩ := hlv
        exact ⟨lv, l1, en_f2_mono (fun a b q => ⟨q.1, q.2.mono en_pre.rf g4⟩) l2⟩
      · exact en_f2_app g3 (en_f2_mono (fun a b => en_v.mono en_pre.rf g4) hrest)
    obtain ⟨t2, a1, b1⟩ := hk' ws2 T'.heap (locs ++ Lq) la (v.toList ++ rest) (hle.tr ⟨g4, g6⟩) R2 T' rfl X'
    exact ⟨t2, stp t2 a1, b1⟩
/-- a return in a method: the machine is at its end -/
theorem kk_ret_ok {Φ : List en_V → List kk_C → Prop} {pc : Nat} {L : en_L} {st : List en_V} {w : List kk_C} {z : kk_Z5} (hE : en_Eok M t) (hf : en_find (en_te t) pc = some z) (hx : p.tables.exec = Jvm.exec) (hb : c.code = en_tc t) (hret : meth.sig.returnType = en_tr t) (hlocks : meth.locks = false) (h : kk_ret z.2.1 (en_tr t) st w Φ) :
    kk_K p l e Rm s m args below meth c (MQ below (kk_Qc kc D A ws tys Φ) args s 0 0 A) kc D A (en_tl t) ws tys 0 0 pc L st w := by
  intro ws' H locs la sv hle hr
  obtain ⟨hdg, -⟩ := hE _ (en_find_ok hf)
  obtain ⟨-, hst, hw, hK, hP, hD, hS⟩ := hr
  dsimp only at hdg
  have one : ∀ {x : en_V}, en_f2 (en_v kc [] ws') [x] sv → ∃ v, sv = [v] ∧ en_v kc [] ws' x v := by
    intro x h1
    cases sv with
    | nil => exact h1.elim
    | cons v r => cases r with
      | nil => exact ⟨v, rfl, h1.1⟩
      | cons _ _ => exact h1.2.elim
  have fin : ∀ (T : State) (rs : List en_V) (v : Option Value), T.heap = H → s.WarmedH T.vm → Φ rs w → en_f2 (en_v kc [] ws') rs v.toList → kk_Qc kc D A ws tys Φ args s (.returned v) T := by
    intro T rs v hT hW hΦ hv
    exact ⟨rs, v, w, ws', hΦ, rfl, hv, hle.1, hw, hle.2, va_K.moved hW.alike hK, by rw [hT]; exact hP, hD, hS.F hT⟩
  unfold kk_ret at h
  split at h
  · rename_i x hi hrt
    rw [hi] at hdg
    obtain ⟨v, rfl, hv⟩ := one hst
    obtain ⟨y, rfl, -⟩ := kk_v0 hv
    exact W.zret hx hb (hret.trans hrt) rfl (fun T hT hW => fin T _ (some (.int y)) hT hW h ⟨hv, trivial⟩) hS.2.2 hdg
  · rename_i x hi hrt
    rw [hi] at hdg
    obtain ⟨v, rfl, hv⟩ := one hst
    obtain ⟨y, rfl, e1, -⟩ := kk_v0 hv
    have hy : narrow .boolean (.int y) = .int y := by
      rcases h.1 with h0 | h0
      · have : y = 0 := Int32.toInt_inj.mp ((e1.trans h0).trans (show (0 : Int) = (0 : Int32).toInt from rfl))
        rw [this]; rfl
      · have : y = 1 := Int32.toInt_inj.mp ((e1.trans h0).trans (show (1 : Int) = (1 : Int32).toInt from rfl))
        rw [this]; rfl
    exact W.zret hx hb (hret.trans hrt) hy (fun T hT hW => fin T _ (some (.int y)) hT hW h.2 ⟨hv, trivial⟩) hS.2.2 hdg
  · rename_i x hi hrt
    rw [hi] at hdg
    obtain ⟨v, rfl, hv⟩ := one hst
    obtain ⟨y, rfl, e1, -⟩ := kk_v0 hv
    have hy : narrow .byte (.int y) = .int y := by
      have : y = 0 := Int32.toInt_inj.mp ((e1.trans h.1).trans (show (0 : Int) = (0 : Int32).toInt from rfl))
      rw [this]; rfl
    exact W.zret hx hb (hret.trans hrt) hy (fun T hT hW => fin T _ (some (.int y)) hT hW h.2 ⟨hv, trivial⟩) hS.2.2 hdg
  · rename_i x hi hrt
    rw [hi] at hdg
    obtain ⟨v, rfl, hv⟩ := one hst
    obtain ⟨y, rfl, -, e1⟩ := kk_v0 hv
    have hy : narrow .char (.int y) = .int y := by
      have h1 := h.1
      rw [e1] at h1
      exact congrArg Value.int h1
    exact W.zret hx hb (hret.trans hrt) hy (fun T hT hW => fin T _ (some (.int y)) hT hW h.2 ⟨hv, trivial⟩) hS.2.2 hdg
  · rename_i x hi hrt
    rw [hi] at hdg
    obtain ⟨v, rfl, hv⟩ := one hst
    obtain ⟨y, rfl, -⟩ := kk_v2 hv
    exact W.lret hx hb (hret.trans hrt) (fun T hT hW => fin T _ (some (.long y)) hT hW h ⟨hv, trivial⟩) hS.2.2 hdg
  · rename_i C x hi hrt
    rw [hi] at hdg
    obtain ⟨v, rfl, hv⟩ := one hst
    obtain ⟨y, e0, rfl, -⟩ := kk_v4 hv
    exact W.aret hx hb (hret.trans hrt) (Or.inl ⟨_, rfl⟩) (Or.inr ⟨_, rfl⟩) (fun T hT hW => fin T _ (some (.ref y)) hT hW h ⟨hv, trivial⟩) hS.2.2 hdg
  · rename_i C x hi hrt
    rw [hi] at hdg
    obtain ⟨v, rfl, hv⟩ := one hst
    have e1 : v = .null := hv
    subst e1
    exact W.aret hx hb (hret.trans hrt) (Or.inl ⟨_, rfl⟩) (Or.inl rfl) (fun T hT hW => fin T _ (some .null) hT hW h ⟨hv, trivial⟩) hS.2.2 hdg
  · rename_i hi hrt
    rw [hi] at hdg
    have hnil : sv = [] := by
      cases sv with
      | nil => rfl
      | cons _ _ => exact hst.elim
    subst hnil
    exact W.vret hx hb (hret.trans hrt) (fun T hT hW => fin T [] none hT hW h trivial) hS.2.2 hdg
  · exact h.elim
/-- a walk from the entry gives the contract -/
theorem kk_ctr (hM : ∀ t ∈ M, en_Mok M t) {Φ : List en_V → List kk_C → Prop} {as : List en_V} {w : List kk_C} (ht : t ∈ M) (hh : en_th t = []) (hwd : en_wds as ≤ en_tl t) (h : ∀ K : kk_Q, kk_Clo l d M t kk_x4 (fun i st w => kk_ret i (en_tr t) st w Φ) K → K 0 (en_lay 0 as) [] w) : kk_Ctr l d t as w Φ := by
  intro kc D A ws tys vs hvs hw
  have ok := hM t ht
  refine Met.ofW (cc := en_tc t) (maxL := en_tl t) (ret := en_tr t) ok.1 rfl ?_
  intro p e s m args below meth c s₁ B hml hv
  obtain ⟨⟨rfl, hB, hA, hK, hP, hD⟩, hX, hZ⟩ := hv
  have hts := atoms_spec (ws := Cond.code (en_ty t) (en_tc t) (en_tl t) (en_tr t) :: en_gw) B.pre
  have hown : s.vm.findClass (en_ty t).cls = some m.cls := findClass_of_methodNamed B.named
  have hnm : meth.name = (en_ty t).name := (name_of_methodNamed B.named B.method).1
  have C : en_cx p l e (en_room d 0 0) s m vs.toArray meth c kc A (en_ty t) (en_tc t) (en_tl t) 0 0 := ⟨B.exec, B.bytes, hml, hown, fun w hw => hts w (List.mem_cons_of_mem _ hw), hB, hA, hnm, Nat.le_refl _, Nat.le_refl _, by show 1 ≤ d + 8; omega, by show 64 ≤ 64 * (d + 2); omega⟩
  have clo := kk_clo (below := below) (Q := MQ below (kk_Qc kc D A ws tys Φ) vs.toArray s 0 0 A) (D := D) (ws := ws) (tys := tys) (n1 := 0) (n2 := 0) hM ok.2.2.2.2 C hX (fun _ _ h => h) hZ (Nat.le_refl _) (Nat.le_refl _) (Nat.le_refl _) (Nat.le_refl _)
    (R := fun i st w => kk_ret i (en_tr t) st w Φ) (fun pc L st w z hf _ hr => kk_ret_ok ok.2.2.2.2 hf B.exec B.bytes B.returns B.notSynchronized hr)
  have K := h _ clo
  obtain ⟨g1, g2⟩ := en_lay_ok 0 hvs
  have hl := lv_entry vs (n := en_tl t) (by rw [g2]; exact hwd)
  show W p l e (en_room d 0 0) s m vs.toArray below meth c s.heap [] 0 0 _ (entryFrame m vs.toArray (en_tl t))
  rw [lg_entry_eq]
  exact K ws s.heap [] _ [] kk_le.rf ⟨⟨_, hl, g1⟩, trivial, hw, hK, hP, hD, va_S.rf⟩
end KKE
