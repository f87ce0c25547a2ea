/-! THE CALCULUS, 5: lengths, copies, texts; every step -/
section KKT
variable {p : Program} {l : Launch} {e : Env} {Rm : Room} {s : State} {m : MethodId} {args : Array Value} {below : List Frame} {meth : Method} {c : Code} {Q : State → Prop}
variable {kc : Nat → Nat} {D : va_G} {A : Nat → Prop} {nL : Nat} {cc : ByteArray} {xc : kk_X} {Ts : List Cond} {own : String}
variable {ws : va_W} {tys : List (ClassId × FieldType)} {H : Heap} {locs : List Loc} {la : Array Slot} {sv : List Value} {L : en_L} {st : List en_V} {w : List kk_C} {n1 n2 pc nx : Nat}
theorem kk_aal_ok (hx : p.tables.exec = Jvm.exec) (hb : c.code = cc) (hdg : decode cc pc = .ok (.aaload, 1)) (hr : kk_R kc D A s nL ws tys H locs la sv L st w)
    (hk : kk_aal (pc + 1) L st w (kk_K p l e Rm s m args below meth c Q kc D A nL ws tys n1 n2)) : W p l e Rm s m args below meth c H locs n1 n2 Q (F0 m pc la sv) := by
  unfold kk_aal at hk
  split at hk
  · rename_i i o r
    obtain ⟨vi, sv1, rfl, hvi, hr1⟩ := hr.pop
    obtain ⟨va, sv2, rfl, hva, hr2⟩ := hr1.pop
    obtain ⟨x, rfl, ex, -⟩ := kk_v0 hvi
    obtain ⟨q, e0, rfl, h5⟩ := kk_v4 hva
    split at hk
    · rename_i n lst z hc
      obtain ⟨⟨h0, h1⟩, hk⟩ := hk
      obtain ⟨g1, g2, g3⟩ := kk_ix ex h0 h1
      obtain ⟨cA, f, t, rfl, h8, h9⟩ := kk_at hr2.2.2.1 h5 hc
      have hv := List.getElem?_eq_getElem g3
      have h10 := h9 _ _ hv
      have h11 : en_v kc [] ws lst[i.toNat] (va_rf (f x.toNatClampNeg)) := by rw [g2]; exact h10
      exact va_aldq hx hb hr2.2.2.2.1 hr2.2.2.2.2.1 o.toNat t h5 h8 g1 hdg ((hk _ hv).on (hr2.push h11))
    · exact hk.elim
  · exact hk.elim
theorem kk_len_ok (hx : p.tables.exec = Jvm.exec) (hb : c.code = cc) (hX : kk_XR kc A s s.heap xc) (hdg : decode cc pc = .ok (.arraylength, 1)) (hr : kk_R kc D A s nL ws tys H locs la sv L st w)
    (hk : kk_len xc (pc + 1) L st w (kk_K p l e Rm s m args below meth c Q kc D A nL ws tys n1 n2)) : W p l e Rm s m args below meth c H locs n1 n2 Q (F0 m pc la sv) := by
  unfold kk_len at hk
  split at hk
  · rename_i o r
    obtain ⟨va, sv2, rfl, hva, hr2⟩ := hr.pop
    obtain ⟨q, e0, rfl, h5⟩ := kk_v4 hva
    split at hk
    · rename_i n z f hc
      have hq := kk_cond hk
      clear hk
      obtain ⟨hn, hk⟩ := hq
      obtain ⟨cA, f', t, rfl, h8, h9⟩ := kk_at hr2.2.2.1 h5 hc
      exact va_alen hx hb hr2.2.2.2.1 hr2.2.2.2.2.1 o.toNat t h5 h8 rfl hdg (hk.on (hr2.push ⟨_, rfl, en_ofNat_toInt (en_blt hn)⟩))
    · rename_i n z f hc
      have hq := kk_cond hk
      clear hk
      obtain ⟨hn, hk⟩ := hq
      obtain ⟨cA, f', t, rfl, h8, h9⟩ := kk_at hr2.2.2.1 h5 hc
      exact va_alen hx hb hr2.2.2.2.1 hr2.2.2.2.2.1 o.toNat t h5 h8 rfl hdg (hk.on (hr2.push ⟨_, rfl, en_ofNat_toInt (en_blt hn)⟩))
    · exact hk.elim
  · rename_i o r
    obtain ⟨va, sv2, rfl, hva, hr2⟩ := hr.pop
    have e1 := kk_v6 hva
    subst e1
    split at hk
    · rename_i n f hc
      obtain ⟨xs, g1, g2, g3, g4, -⟩ := hX _ _ _ hc
      exact va_slen hx hb g1 g2 g3 hr2.2.2.2.2.2.2 hdg (hk.on (hr2.push ⟨_, rfl, en_ofNat_toInt g4⟩))
    · exact hk.elim
  · exact hk.elim
theorem kk_ial_ok (hx : p.tables.exec = Jvm.exec) (hb : c.code = cc) (hX : kk_XR kc A s s.heap xc) (hdg : decode cc pc = .ok (.iaload, 1)) (hr : kk_R kc D A s nL ws tys H locs la sv L st w)
    (hk : kk_ial xc (pc + 1) L st w (kk_K p l e Rm s m args below meth c Q kc D A nL ws tys n1 n2)) : W p l e Rm s m args below meth c H locs n1 n2 Q (F0 m pc la sv) := by
  unfold kk_ial at hk
  split at hk
  · exact kk_alo_ok (kd := 1) (tt := .int) (Or.inl ⟨rfl, rfl⟩) hr (fun q q0 t0 cA n f i rest h1 h2 h3 h4 => va_iald hx hb hr.2.2.2.1 hr.2.2.2.2.1 q0 t0 h1 h2 h3 hdg h4) hk
  · rename_i i o r
    obtain ⟨vi, sv1, rfl, hvi, hr1⟩ := hr.pop
    obtain ⟨va, sv2, rfl, hva, hr2⟩ := hr1.pop
    obtain ⟨x, rfl, ex, -⟩ := kk_v0 hvi
    have e1 := kk_v6 hva
    subst e1
    unfold kk_xlo at hk
    split at hk
    · rename_i n f hc
      obtain ⟨⟨h0, h1⟩, hk⟩ := hk
      obtain ⟨g1, g2, g3⟩ := kk_ix ex h0 h1
      obtain ⟨xs, f1, f2, f3, f4, f5⟩ := hX _ _ _ hc
      refine va_sld hx hb f1 f2 f3 hr2.2.2.2.2.2.2 g1 hdg (hk.on (hr2.push ⟨_, rfl, ?_⟩))
      rw [g2]
      exact f5 _ g3
    · exact hk.elim
  · exact hk.elim
theorem kk_cpy_ok {x : Nat} (hx : p.tables.exec = Jvm.exec) (hb : c.code = cc) (hml : c.maxLocals = nL) (hts : ∀ w ∈ Ts, w.before args s = true) (hown : s.vm.findClass own = some m.cls) (h1 : Cond.methodLink own x arraycopyName ∈ Ts) (h2 : Cond.native arraycopyName ∈ Ts) (h3 : Cond.static arraycopyName ∈ Ts) (h4 : Cond.initialized "java/lang/System" ∈ Ts) (hfr : 1 ≤ Rm.frames) (hlo : 64 ≤ Rm.locals) (hdg : decode cc pc = .ok (.invokestatic x, 3))
    (hr : kk_R kc D A s nL ws tys H locs la sv L st w) (hk : kk_cpy (pc + 3) L st w (kk_K p l e Rm s m args below meth c Q kc D A nL ws tys n1 n2)) : W p l e Rm s m args below meth c H locs n1 n2 Q (F0 m pc la sv) := by
  have hsz : c.maxLocals = la.size := by
    obtain ⟨⟨lv, g1, -⟩, -⟩ := hr
    rw [hml, g1.1]
  have hwords : nativeFrameWords "java/lang/System" "arraycopy" 5 + 11 ≤ 64 := by decide +kernel
  unfold kk_cpy at hk
  split at hk
  · rename_i n b a
    obtain ⟨vn, sv1, rfl, hvn, hr1⟩ := hr.pop
    obtain ⟨vdp, sv2, rfl, hvdp, hr2⟩ := hr1.pop
    obtain ⟨vb, sv3, rfl, hvb, hr3⟩ := hr2.pop
    obtain ⟨vsp, sv4, rfl, hvsp, hr4⟩ := hr3.pop
    obtain ⟨va, sv5, rfl, hva, hr5⟩ := hr4.pop
    have hnil : sv5 = [] := by
      have := hr5.2.1
      cases sv5 with
      | nil => rfl
      | cons _ _ => exact this.elim
    subst hnil
    obtain ⟨xn, rfl, en, -⟩ := kk_v0 hvn
    obtain ⟨xdp, rfl, edp, -⟩ := kk_v0 hvdp
    obtain ⟨xsp, rfl, esp, -⟩ := kk_v0 hvsp
    obtain ⟨qb, eb, rfl, b5⟩ := kk_v4 hvb
    obtain ⟨qa, ea, rfl, a5⟩ := kk_v4 hva
    have csp : xsp.toNatClampNeg = 0 := by rw [en_cl_toNat, esp]; rfl
    have cdp : xdp.toNatClampNeg = 0 := by rw [en_cl_toNat, edp]; rfl
    unfold kk_cpo at hk
    split at hk
    · rename_i na za f nb z g ha hb'
      obtain ⟨⟨hn, hl⟩, hk⟩ := hk
      obtain ⟨cA, f', t, rfl, a8, a9⟩ := kk_at hr5.2.2.1 a5 ha
      obtain ⟨cB, g', t', rfl, b8, b9⟩ := kk_at hr5.2.2.1 b5 hb'
      dsimp only at a9 b9 a5 b5
      have cn : xn.toNatClampNeg = na := by rw [en_cl_toNat, en, hn]; exact Int.toNat_natCast _
      refine va_copyi (rest := []) hx hb hsz hown (hts _ h1) (hts _ h2) (hts _ h3) (hts _ h4) hr5.2.2.2.1 hr5.2.2.2.2.1 hr5.2.2.2.2.2.1 hr5.2.2.2.2.2.2 a.toNat b.toNat t t' a5 b5 a8 b8 rfl (en_toInt_nn esp (Int.le_refl _)) (en_toInt_nn edp (Int.le_refl _)) (en_toInt_nn (en.trans hn) (Int.natCast_nonneg _)) (by rw [csp, cn]; omega) (by rw [cdp, cn]; omega) (fun i _ => rfl) hfr (by show 0 + _ ≤ _; omega) hdg (fun H1 locs1 hP hD hS => ?_)
      rw [csp, cdp, cn] at hP hD
      refine hk _ _ _ _ _ (kk_le.set b5 _) (hr5.heap b5 ⟨cB, _, t', rfl, b8, fun j hj => ?_⟩ hP hD hS)
      have hj : j < nb := hj
      rw [pk_cpy_in (Nat.zero_le _) (by omega), show 0 + (j - 0) = j by omega]
      exact a9 j (by omega)
    · rename_i na za f nb z g ha hb'
      obtain ⟨⟨hn, hl⟩, hk⟩ := hk
      obtain ⟨cA, f', t, rfl, a8, a9⟩ := kk_at hr5.2.2.1 a5 ha
      obtain ⟨cB, g', t', rfl, b8, b9⟩ := kk_at hr5.2.2.1 b5 hb'
      dsimp only at a9 b9 a5 b5
      have cn : xn.toNatClampNeg = na := by rw [en_cl_toNat, en, hn]; exact Int.toNat_natCast _
      refine va_copyl (rest := []) hx hb hsz hown (hts _ h1) (hts _ h2) (hts _ h3) (hts _ h4) hr5.2.2.2.1 hr5.2.2.2.2.1 hr5.2.2.2.2.2.1 hr5.2.2.2.2.2.2 a.toNat b.toNat t t' a5 b5 a8 b8 rfl (en_toInt_nn esp (Int.le_refl _)) (en_toInt_nn edp (Int.le_refl _)) (en_toInt_nn (en.trans hn) (Int.natCast_nonneg _)) (by rw [csp, cn]; omega) (by rw [cdp, cn]; omega) (fun i _ => rfl) hfr (by show 0 + _ ≤ _; omega) hdg (fun H1 locs1 hP hD hS => ?_)
      rw [csp, cdp, cn] at hP hD
      refine hk _ _ _ _ _ (kk_le.set b5 _) (hr5.heap b5 ⟨cB, _, t', rfl, b8, fun j hj => ?_⟩ hP hD hS)
      have hj : j < nb := hj
      rw [pk_cpy_in (Nat.zero_le _) (by omega), show 0 + (j - 0) = j by omega]
      exact a9 j (by omega)
    · exact hk.elim
  · exact hk.elim
theorem kk_sum (hr : kk_R kc D A s nL ws tys H locs la sv L st w) (h : st.length ≤ 4) : (sv.map fun v => v.category).sum ≤ 8 := by
  have := en_sum hr.2.1
  omega
theorem kk_mm (hr : kk_R kc D A s nL ws tys H locs la sv L st w) (f : Int → Int → Int) (g : Int32 → Int32 → Int32) (hfg : ∀ x y : Int32, (g x y).toInt = f x.toInt y.toInt)
    (row : ∀ (x y : Int32) (rest : List Value), (rest.map fun v => v.category).sum ≤ 8 → W p l e Rm s m args below meth c H locs n1 n2 Q (F0 m nx la (.int (g x y) :: rest)) → W p l e Rm s m args below meth c H locs n1 n2 Q (F0 m pc la (.int y :: .int x :: rest)))
    (hk : kk_mm2 f nx L st w (kk_K p l e Rm s m args below meth c Q kc D A nL ws tys n1 n2)) : W p l e Rm s m args below meth c H locs n1 n2 Q (F0 m pc la sv) := by
  unfold kk_mm2 at hk
  split at hk
  · have hq := kk_cond hk
    clear hk
    obtain ⟨hl, hk⟩ := hq
    obtain ⟨vb, sv1, rfl, hvb, hr1⟩ := hr.pop
    obtain ⟨va, sv2, rfl, hva, hr2⟩ := hr1.pop
    obtain ⟨x, rfl, ex, -⟩ := kk_v0 hva
    obtain ⟨y, rfl, ey, -⟩ := kk_v0 hvb
    subst ex
    subst ey
    exact row x y sv2 (kk_sum hr2 (Nat.le_of_ble_eq_true hl)) (hk.on (hr2.push ⟨_, rfl, hfg x y⟩))
  · exact hk.elim
theorem kk_min32 (x y : Int32) : (if y < x then y else x).toInt = min x.toInt y.toInt := by
  by_cases h : y < x
  · rw [if_pos h]; have := Int32.lt_iff_toInt_lt.mp h; omega
  · rw [if_neg h]; have := Int.not_lt.mp (fun g => h (Int32.lt_iff_toInt_lt.mpr g)); omega
theorem kk_max32 (x y : Int32) : (if x < y then y else x).toInt = max x.toInt y.toInt := by
  by_cases h : x < y
  · rw [if_pos h]; have := Int32.lt_iff_toInt_lt.mp h; omega
  · rw [if_neg h]; have := Int.not_lt.mp (fun g => h (Int32.lt_iff_toInt_lt.mpr g)); omega
theorem kk_cmp_ok (x y : Int64) : (lg_cmp x y).toInt = kk_cmp x.toInt y.toInt := by
  unfold kk_cmp lg_cmp
  have e1 : (y < x) ↔ y.toInt < x.toInt := Int64.lt_iff_toInt_lt
  have e2 : (x = y) ↔ x.toInt = y.toInt := Int64.toInt_inj.symm
  by_cases h1 : y < x
  · have g1 := e1.mp h1
    rw [if_pos h1, if_neg (by omega), if_neg (by omega)]
    rfl
  · have g1 : ¬ y.toInt < x.toInt := fun g => h1 (e1.mpr g)
    rw [if_neg h1]
    by_cases h2 : x = y
    · have g2 := e2.mp h2
      rw [if_pos h2, if_neg (by omega), if_pos g2]
      rfl
    · have g2 : ¬ x.toInt = y.toInt := fun g => h2 (e2.mpr g)
      rw [if_neg h2, if_pos (by omega)]
      rfl
/-- what holds of every state that a method begins in, the class's own static array with it -/
def kk_Z (kc : Nat → Nat) (A : Nat → Prop) (U : State) (H : Heap) : Prop := va_Z RX10 "MOST_OF_SORT" "[I" (.ref (kc 4)) A U H ∧ va_Nw (.fieldLinkNest RX2 109 RX10 "MOST_OF_SORT" "[I" RX10) U
theorem kk_n32_ok {n : Int} {P : Prop} (h : kk_n32 n P) : (Int32.ofInt n).toInt = n ∧ P := by
  obtain ⟨h1, h2⟩ := kk_cond h
  rw [Bool.and_eq_true, decide_eq_true_eq, decide_eq_true_eq] at h1
  exact ⟨Int32.toInt_ofInt_of_le (by omega) (by omega), h2⟩
theorem kk_n16_ok {n : Int} {P : Prop} (h : kk_n16 n P) : (Int16.ofInt n).toInt32.toInt = n ∧ P := by
  obtain ⟨h1, h2⟩ := kk_cond h
  rw [Bool.and_eq_true, decide_eq_true_eq, decide_eq_true_eq] at h1
  exact ⟨by rw [Int16.toInt_toInt32]; exact Int16.toInt_ofInt_of_le (by omega) (by omega), h2⟩
theorem kk_n8_ok {n : Int} {P : Prop} (h : kk_n8 n P) : (Int8.ofInt n).toInt32.toInt = n ∧ P := by
  obtain ⟨h1, h2⟩ := kk_cond h
  rw [Bool.and_eq_true, decide_eq_true_eq, decide_eq_true_eq] at h1
  exact ⟨by rw [Int8.toInt_toInt32]; exact Int8.toInt_ofInt_of_le (by omega) (by omega), h2⟩
end KKT
