/-! THE ENGINE, 6: what holds of every state that a method begins in; copies; the script -/
def en_gw : List Cond := lw_tbl.filter goodWord
theorem en_good {w0 : Cond} (h : w0 ∈ en_gw) : GoodIn en_gw (w0 :: en_gw) := by
  intro w hw
  have hm : w ∈ en_gw := by
    rcases List.mem_cons.mp hw with h1 | h1
    · rw [h1]; exact h
    · exact h1
  exact ⟨hm, good_of_word (List.mem_filter.mp hm).2⟩
def en_nest : List Cond := [.methodLinkNest RX0 132 yX10_nextSeed RX10, .methodLinkNest RX10 91 yX1_init RX10, .methodLinkNest RX2 137 yX10_hasBit RX10, .methodLinkNest RX2 154 yX10_isWithin RX10, .methodLinkNest RX4 80 yX10_isWithin RX10, .methodLinkNest RX4 92 yX10_hasBit RX10, .methodLinkNest RX4 123 yX10_nextSeed RX10, .methodLinkNest RX5 113 yX10_isWithin RX10, .methodLinkNest RX6 97 yX10_isWithin RX10, .methodLinkNest RX7 73 yX10_isWithin RX10]
def en_slen : List Nat := [124, 12, 6]
def en_sb (t : List Nat) : List Int32 := t.map (fun n => nI n)
def en_sbyt : List (List Int32) := [en_sb [100, 101, 101, 100, 32, 109, 111, 110, 107, 32, 99, 104, 97, 112, 116, 101, 114, 32, 109, 117, 115, 116, 32, 98, 97, 114, 115, 32, 119, 111, 114, 107, 32, 97, 116, 111, 110, 101, 32, 111, 110, 99, 101, 32, 100, 114, 97, 119, 32, 102, 111, 108, 100, 32, 100, 111, 101, 115, 32, 110, 105, 103, 104, 116, 32, 100, 97, 121, 32, 111, 114, 32, 97, 110, 100, 32, 110, 111, 116, 32, 100, 117, 101, 32, 98, 97, 114, 114, 101, 100, 32, 102, 114, 101, 101, 32, 100, 111, 110, 101, 32, 111, 119, 101, 100, 32, 108, 101, 102, 116, 32, 109, 117, 115, 116, 115, 32, 110, 117, 109, 98, 101, 114, 32], en_sb [110, 111, 98, 111, 100, 121, 32, 107, 110, 111, 119, 115], en_sb [32, 104, 111, 108, 100, 115]]
def en_nse : String := "java/util/NoSuchElementException"
def en_xw : List Cond := [.castable en_nse en_nse, .declares ⟨"java/lang/RuntimeException", "<init>", "()V"⟩, .declares ⟨"java/lang/Exception", "<init>", "()V"⟩, .declares ⟨"java/lang/Throwable", "<init>", "()V"⟩]
theorem en_xwM {w : Cond} (h : w ∈ en_xw) : (∃ a b : String, w = .castable a b) ∨ ∃ x : MethodName, w = .declares x := by
  simp only [en_xw, List.mem_cons, List.not_mem_nil, or_false] at h
  rcases h with rfl | rfl | rfl | rfl
  · exact Or.inl ⟨_, _, rfl⟩
  · exact Or.inr ⟨_, rfl⟩
  · exact Or.inr ⟨_, rfl⟩
  · exact Or.inr ⟨_, rfl⟩
def en_B (kc : Nat → Nat) (A : Nat → Prop) (U : State) (H : Heap) : Prop :=
  (∀ w ∈ en_nest, va_Nw w U) ∧ va_AO RX4 U ∧ va_AO RX3 U ∧ vk_R RX6 19 "deed monk chapter must bars work atone once draw fold does night day or and not due barred free done owed left musts number " (kc 0) U ∧ vk_R RX10 324 "nobody knows" (kc 1) U ∧ vk_R RX10 338 " holds" (kc 2) U ∧
  vk_S 3 en_slen en_sbyt kc (fun k => kc (100 + k)) A U H ∧ va_Z "java/lang/String" "COMPACT_STRINGS" "Z" (.int 1) A U H ∧ vx_Zq Bundle.tN "UNASSIGNED_STACK" Bundle.steD A U H ∧ vx_Zq Bundle.tN "SUPPRESSED_SENTINEL" Bundle.listD A U H ∧ (∀ w ∈ en_xw, va_Nw w U) ∧ va_Zq "jdk/internal/util/Preconditions" "SIOOBE_FORMATTER" "Ljava/util/function/BiFunction;" A U H
theorem en_nestM {w : Cond} (h : w ∈ en_nest) : ∃ (a : String) (i : Nat) (x : MethodName) (b : String), w = .methodLinkNest a i x b := by
  simp only [en_nest, List.mem_cons, List.not_mem_nil, or_false] at h
  rcases h with rfl | rfl | rfl | rfl | rfl | rfl | rfl | rfl | rfl | rfl <;> exact ⟨_, _, _, _, rfl⟩
/-- it goes on to hold, in a state that a call begins in -/
theorem en_B.next {kc : Nat → Nat} {A : Nat → Prop} {s U : State} {H H1 : Heap} (h : en_B kc A s H) (hW : s.WarmedH U.vm) (hq : ∀ a : Nat, a < H.size → ¬ A a → H1[a]? = H[a]?) : en_B kc A U H1 := by
  obtain ⟨h1, h2, h3, h4, h5, h6, h7, h8, h9, h10, h11, h12⟩ := h
  refine ⟨fun w hw => ?_, h2.moved hW.alike, h3.moved hW.alike, h4.warm hW, h5.warm hW, h6.warm hW, (h7.kept hq).moved hW.alike, (h8.kept hq).moved hW.alike, (h9.kept hq).moved hW.alike, (h10.kept hq).moved hW.alike, fun w hw => ?_, va_Zq.moved hW.alike (va_Zq.kept h12 hq)⟩
  · obtain ⟨a, i, x, b, rfl⟩ := en_nestM hw
    exact (h1 _ hw).warmM hW
  · rcases en_xwM hw with ⟨a, b, rfl⟩ | ⟨x, rfl⟩
    · exact (h11 _ hw).warmC hW
    · exact (h11 _ hw).warmD hW
theorem en_B.same {kc : Nat → Nat} {A : Nat → Prop} {s U : State} {H : Heap} (h : en_B kc A s H) (hv : U.vm = s.vm) : en_B kc A U H := by
  have hal : s.vm.Alike U.vm := by rw [hv]; exact Vm.Alike.refl s.vm
  obtain ⟨h1, h2, h3, h4, h5, h6, h7, h8, h9, h10, h11, h12⟩ := h
  refine ⟨fun w hw => ?_, h2.moved hal, h3.moved hal, h4.same hv, h5.same hv, h6.same hv, h7.moved hal, h8.moved hal, h9.moved hal, h10.moved hal, fun w hw => ?_, va_Zq.moved hal h12⟩
  · obtain ⟨a, i, x, b, rfl⟩ := en_nestM hw
    exact (h1 _ hw).same rfl hv.symm
  · rcases en_xwM hw with ⟨a, b, rfl⟩ | ⟨x, rfl⟩
    · exact (h11 _ hw).same rfl hv.symm
    · exact (h11 _ hw).same rfl hv.symm
section ENB
variable {p : Program} {l : Launch} {e : Env} {Rm : Room} {s : State} {m : MethodId} {args : Array Value} {below : List Frame} {meth : Method} {c : Code} {Q : State → Prop}
variable {kc : Nat → Nat} {D : va_G} {A : Nat → Prop} {nL : Nat} {cc : ByteArray} {Ts : List Cond} {own : String}
variable {ρ : List Int32} {ws : va_W} {tys : List (ClassId × FieldType)} {H : Heap} {locs : List Loc} {la : Array Slot} {sv : List Value} {L : en_L} {st : List en_V} {iv : en_I} {w : List en_C} {n1 n2 pc nx : Nat}
/-- one literal -/
def en_is (iv : en_I) (a : en_V) (n : Int) : Bool := match en_rng iv a with
  | some q => decide (q.1 = n) && decide (q.2 = n)
  | none => false
theorem en_is_ok {a : en_V} {v : Value} {n : Int} (hi : en_iv iv ρ) (hv : en_v kc ρ ws a v) (h : en_is iv a n = true) : ∃ x : Int32, v = .int x ∧ x.toInt = n := by
  unfold en_is at h
  cases hr : en_rng iv a with
  | none => rw [hr] at h; cases h
  | some q =>
    rw [hr] at h
    simp only [Bool.and_eq_true, decide_eq_true_eq] at h
    obtain ⟨x, rfl, h1, h2⟩ := en_rng_ok hi hv hr
    exact ⟨x, rfl, by omega⟩
/-- System.arraycopy of whole arrays of one length -/
def en_cpy (nx : Nat) (L : en_L) (st : List en_V) (iv : en_I) (w : List en_C) (n1 n2 : Nat) : en_O := match st with
  | [n, dp, b, sp, a] => cond (en_is iv sp 0 && en_is iv dp 0) (match en_arr w a 1, en_arr w b 1 with
    | some za, some zb => cond (en_is iv n (za.1 : Int) && Nat.beq za.1 zb.1) (en_put w b.2.toNat (1, zb.1, za.2.1, [], za.2.2) (fun w' => en_1 nx L [] iv w' n1 n2)) none
    | _, _ => match en_arr w a 2, en_arr w b 2 with
      | some za, some zb => cond (en_is iv n (za.1 : Int) && Nat.beq za.1 zb.1) (en_put w b.2.toNat (2, zb.1, (0, 1), [], []) (fun w' => en_1 nx L [] iv w' n1 n2)) none
      | _, _ => none) none
  | _ => none
theorem en_cpy_ok {x : Nat} (hx : p.tables.exec = Jvm.exec) (hb : c.code = cc) (hml : c.maxLocals = nL) (hts : ∀ w ∈ Ts, w.before args s = true) (hown : s.vm.findClass own = some m.cls) (h1 : Cond.methodLink own x arraycopyName ∈ Ts) (h2 : Cond.native arraycopyName ∈ Ts) (h3 : Cond.static arraycopyName ∈ Ts) (h4 : Cond.initialized "java/lang/System" ∈ Ts) (hfr : 1 ≤ Rm.frames) (hlo : 64 ≤ Rm.locals) (hdg : decode cc pc = .ok (.invokestatic x, 3))
    (hr : en_R kc D A s nL ρ ws tys H locs la sv L st iv w) (hk : en_Ks p l e Rm s m args below meth c Q kc D A nL ρ ws tys (en_cpy (pc + 3) L st iv w n1 n2)) : W p l e Rm s m args below meth c H locs n1 n2 Q (F0 m pc la sv) := by
  unfold en_cpy at hk
  simp only [en_put_eq] at hk
  have hsz : c.maxLocals = la.size := by
    obtain ⟨⟨lv, g1, -⟩, -⟩ := hr
    rw [hml, g1.1]
  have hwords : nativeFrameWords "java/lang/System" "arraycopy" 5 + 11 ≤ 64 := by decide +kernel
  split at hk
  · rename_i n dp b sp a
    obtain ⟨vn, sv1, rfl, hvn, hr1⟩ := hr.pop
    obtain ⟨vdp, sv2, rfl, hvdp, hr2⟩ := hr1.pop
    obtain ⟨vb, sv3, rfl, hvb, hr3⟩ := hr2.pop
    obtain ⟨vsp, sv4, rfl, hvsp, hr4⟩ := hr3.pop
    obtain ⟨va, sv5, rfl, hva, hr5⟩ := hr4.pop
    have hnil : sv5 = [] := by
      have := hr5.2.1
      cases sv5 with
      | nil => rfl
      | cons _ _ => exact this.elim
    subst hnil
    have hi := hr5.2.2.1
    cases hz : (en_is iv sp 0 && en_is iv dp 0) with
    | false => rw [hz] at hk; exact (en_no rfl hk).elim
    | true =>
      rw [hz] at hk
      rw [cond_true] at hk
      rw [Bool.and_eq_true] at hz
      obtain ⟨xsp, rfl, esp⟩ := en_is_ok hi hvsp hz.1
      obtain ⟨xdp, rfl, edp⟩ := en_is_ok hi hvdp hz.2
      have csp : xsp.toNatClampNeg = 0 := by rw [en_cl_toNat, esp]; rfl
      have cdp : xdp.toNatClampNeg = 0 := by rw [en_cl_toNat, edp]; rfl
      split at hk
      · rename_i za zb ha hb'
        obtain ⟨qa, ea, fa, rfl, a5, -, a7⟩ := en_arr_w hr5.2.2.2.1 hva ha
        obtain ⟨qb, eb, fb, rfl, b5, -, b7⟩ := en_arr_w hr5.2.2.2.1 hvb hb'
        obtain ⟨cA, f, t, rfl, a8, a9⟩ := a7
        obtain ⟨cB, g, t', rfl, b8, b9⟩ := b7
        cases hn : (en_is iv n (za.1 : Int) && Nat.beq za.1 zb.1) with
        | false => rw [hn] at hk; exact (en_no rfl hk).elim
        | true =>
          rw [hn] at hk
          rw [Bool.and_eq_true] at hn
          have hl : za.1 = zb.1 := Nat.eq_of_beq_eq_true hn.2
          obtain ⟨xn, rfl, en⟩ := en_is_ok hi hvn hn.1
          have cn : xn.toNatClampNeg = za.1 := by rw [en_cl_toNat, en]; exact Int.toNat_natCast _
          refine va_copyi (rest := []) hx hb hsz hown (hts _ h1) (hts _ h2) (hts _ h3) (hts _ h4) hr5.2.2.2.2.1 hr5.2.2.2.2.2.1 hr5.2.2.2.2.2.2.1 hr5.2.2.2.2.2.2.2 a.2.toNat b.2.toNat t t' a5 b5 a8 b8 rfl (en_toInt_nn esp (Int.le_refl _)) (en_toInt_nn edp (Int.le_refl _)) (en_toInt_nn en (Int.natCast_nonneg _)) (by rw [csp, cn]; show 0 + za.1 ≤ za.1; omega) (by rw [cdp, cn]; show 0 + za.1 ≤ zb.1; omega) (fun i _ => rfl) hfr (by show 0 + _ ≤ _; omega) hdg (fun H1 locs1 hP hD hS => ?_)
          rw [csp, cdp, cn] at hP hD
          have hcc : en_c kc ρ (ws.set b.2.toNat (qb, .inl (cB, zb.1, .inl (va_cpy f g 0 0 za.1)))) tys (1, zb.1, za.2.1, [], za.2.2) (.inl (cB, zb.1, .inl (va_cpy f g 0 0 za.1))) := by
            refine ⟨cB, _, t', rfl, b8, fun j hj => ?_⟩
            have hj : j < zb.1 := hj
            rw [pk_cpy_in (Nat.zero_le _) (by omega)]
            have := a9 (0 + (j - 0)) (show 0 + (j - 0) < za.1 by omega)
            rw [show 0 + (j - 0) = j by omega] at this ⊢
            exact this
          exact hk.one en_pre.rf (en_le.set b5 _) en_pre.rf (hr5.heap b5 hcc hP hD hS)
      · split at hk
        · rename_i za zb ha hb'
          obtain ⟨qa, ea, fa, rfl, a5, -, a7⟩ := en_arr_w hr5.2.2.2.1 hva ha
          obtain ⟨qb, eb, fb, rfl, b5, b6, b7⟩ := en_arr_w hr5.2.2.2.1 hvb hb'
          obtain ⟨cA, f, t, rfl, a8, -⟩ := a7
          obtain ⟨cB, g, t', rfl, b8, -⟩ := b7
          cases hn : (en_is iv n (za.1 : Int) && Nat.beq za.1 zb.1) with
          | false => rw [hn] at hk; exact (en_no rfl hk).elim
          | true =>
            rw [hn] at hk
            rw [Bool.and_eq_true] at hn
            have hl : za.1 = zb.1 := Nat.eq_of_beq_eq_true hn.2
            obtain ⟨xn, rfl, en⟩ := en_is_ok hi hvn hn.1
            have cn : xn.toNatClampNeg = za.1 := by rw [en_cl_toNat, en]; exact Int.toNat_natCast _
            refine va_copyl (rest := []) hx hb hsz hown (hts _ h1) (hts _ h2) (hts _ h3) (hts _ h4) hr5.2.2.2.2.1 hr5.2.2.2.2.2.1 hr5.2.2.2.2.2.2.1 hr5.2.2.2.2.2.2.2 a.2.toNat b.2.toNat t t' a5 b5 a8 b8 rfl (en_toInt_nn esp (Int.le_refl _)) (en_toInt_nn edp (Int.le_refl _)) (en_toInt_nn en (Int.natCast_nonneg _)) (by rw [csp, cn]; show 0 + za.1 ≤ za.1; omega) (by rw [cdp, cn]; show 0 + za.1 ≤ zb.1; omega) (fun i _ => rfl) hfr (by show 0 + _ ≤ _; omega) hdg (fun H1 locs1 hP hD hS => ?_)
            have h9 := hr5.heap (cell := (2, zb.1, (0, 1), [], [])) b5 ⟨cB, _, t', rfl, b8, fun h => absurd (show ((0, 1) : Int × Int) = (0, 0) from h) (by decide)⟩ hP hD hS
            exact hk.one en_pre.rf (en_le.set b5 _) en_pre.rf h9
        · exact (en_no rfl hk).elim
  · exact (en_no rfl hk).elim
/-- what the script is -/
def en_X (kc : Nat → Nat) (A : Nat → Prop) (s : State) (ρ : List Int32) (sc : Option Nat) : Prop := ∀ n, sc = some n → ∃ xs : Nat → Int32, va_X (kc 3) n xs s s.heap ∧ kc 3 < s.heap.size ∧ ¬ A (kc 3) ∧ n < 2147483648 ∧ ∀ i, i < n → ρ[i]? = some (xs i)
def en_alen2 (sc : Option Nat) (nx : Nat) (L : en_L) (st : List en_V) (iv : en_I) (w : List en_C) (n1 n2 : Nat) : en_O := match st with
  | a :: r => cond (Nat.beq a.1 6) (match sc with
    | some n => cond (Nat.beq a.2.toNat 3) (en_1 nx L ((0, (n : Int)) :: r) iv w n1 n2) none
    | none => none) (en_alen nx L (a :: r) iv w n1 n2)
  | _ => none
theorem en_v.six {a : en_V} {v : Value} (hv : en_v kc ρ ws a v) (h : Nat.beq a.1 6 = true) : v = .ref (kc a.2.toNat) := by
  have h6 : a.1 = 6 := Nat.eq_of_beq_eq_true h
  unfold en_v at hv
  rw [h6] at hv
  exact hv
theorem en_alen2_ok {sc : Option Nat} (hx : p.tables.exec = Jvm.exec) (hb : c.code = cc) (hX : en_X kc A s ρ sc) (hdg : decode cc pc = .ok (.arraylength, 1)) (hr : en_R kc D A s nL ρ ws tys H locs la sv L st iv w)
    (hk : en_Ks p l e Rm s m args below meth c Q kc D A nL ρ ws tys (en_alen2 sc (pc + 1) L st iv w n1 n2)) : W p l e Rm s m args below meth c H locs n1 n2 Q (F0 m pc la sv) := by
  unfold en_alen2 at hk
  match st, hr, hk with
  | [], hr, hk => exact (en_no rfl hk).elim
  | a :: r, hr, hk =>
    dsimp only at hk
    cases h6 : Nat.beq a.1 6 with
    | false => rw [h6] at hk; exact en_alen_ok hx hb hdg hr hk
    | true =>
      rw [h6] at hk
      cases sc with
      | none => exact (en_no rfl hk).elim
      | some n =>
        dsimp only [cond_true] at hk
        cases h3 : Nat.beq a.2.toNat 3 with
        | false => rw [h3] at hk; exact (en_no rfl hk).elim
        | true =>
          rw [h3] at hk
          obtain ⟨va, sv2, rfl, hva, hr2⟩ := hr.pop
          have e1 := hva.six h6
          rw [Nat.eq_of_beq_eq_true h3] at e1
          subst e1
          obtain ⟨xs, g1, g2, g3, g4, g5⟩ := hX n rfl
          exact va_slen hx hb g1 g2 g3 hr2.2.2.2.2.2.2.2 hdg (hk.one en_pre.rf en_le.rf en_pre.rf (hr2.push ⟨_, rfl, en_ofNat_toInt g4⟩))
def en_ald2 (sc : Option Nat) (nx : Nat) (L : en_L) (st : List en_V) (iv : en_I) (w : List en_C) (n1 n2 : Nat) : en_O := match st with
  | i :: a :: r => cond (Nat.beq a.1 6) (match sc with
    | some n => match en_ix iv i n with
      | some q => if q.1 = q.2 then cond (Nat.beq a.2.toNat 3) (en_1 nx L ((1, q.1) :: r) iv w n1 n2) none else none
      | none => none
    | none => none) (en_ald 1 nx L (i :: a :: r) iv w n1 n2)
  | _ => none
theorem en_ald2_ok {sc : Option Nat} (hx : p.tables.exec = Jvm.exec) (hb : c.code = cc) (hX : en_X kc A s ρ sc) (hdg : decode cc pc = .ok (.iaload, 1)) (hr : en_R kc D A s nL ρ ws tys H locs la sv L st iv w)
    (hk : en_Ks p l e Rm s m args below meth c Q kc D A nL ρ ws tys (en_ald2 sc (pc + 1) L st iv w n1 n2)) : W p l e Rm s m args below meth c H locs n1 n2 Q (F0 m pc la sv) := by
  unfold en_ald2 at hk
  match st, hr, hk with
  | [], hr, hk => exact (en_no rfl hk).elim
  | [_], hr, hk => exact (en_no rfl hk).elim
  | i :: a :: r, hr, hk =>
    dsimp only at hk
    cases h6 : Nat.beq a.1 6 with
    | false =>
      rw [h6] at hk
      exact en_ald_ok (kd := 1) (tt := .int) (Or.inl ⟨rfl, rfl⟩) hr (fun q q0 t0 cA n f i rest h1 h2 h3 h4 => va_iald hx hb hr.2.2.2.2.1 hr.2.2.2.2.2.1 q0 t0 h1 h2 h3 hdg h4) hk
    | true =>
      rw [h6] at hk
      cases sc with
      | none => exact (en_no rfl hk).elim
      | some n =>
        dsimp only [cond_true] at hk
        cases hq : en_ix iv i n with
        | none => rw [hq] at hk; exact (en_no rfl hk).elim
        | some q =>
          rw [hq] at hk
          dsimp only at hk
          by_cases he : q.1 = q.2
          · rw [if_pos he] at hk
            cases h3 : Nat.beq a.2.toNat 3 with
            | false => rw [h3] at hk; exact (en_no rfl hk).elim
            | true =>
              rw [h3] at hk
              obtain ⟨vi, sv1, rfl, hvi, hr1⟩ := hr.pop
              obtain ⟨va, sv2, rfl, hva, hr2⟩ := hr1.pop
              have e1 := hva.six h6
              rw [Nat.eq_of_beq_eq_true h3] at e1
              subst e1
              obtain ⟨xs, g1, g2, g3, g4, g5⟩ := hX n rfl
              obtain ⟨x, rfl, hx1, hx2, hx3, hx4⟩ := en_ix_ok hr2.2.2.1 hvi hq
              refine va_sld hx hb g1 g2 g3 hr2.2.2.2.2.2.2.2 hx2 hdg (hk.one en_pre.rf en_le.rf en_pre.rf (hr2.push ⟨_, rfl, ?_⟩))
              show ρ[q.1.toNat]? = _
              rw [← hx4 he]
              exact g5 _ hx3
          · rw [if_neg he] at hk; exact (en_no rfl hk).elim
end ENB
