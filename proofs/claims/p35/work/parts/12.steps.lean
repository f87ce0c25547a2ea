/-! THE ENGINE, 9: each plain instruction's step is sound -/
section ENT2
variable {p : Program} {l : Launch} {e : Env} {Rm : Room} {s : State} {m : MethodId} {args : Array Value} {below : List Frame} {meth : Method} {c : Code} {Q : State → Prop}
variable {kc : Nat → Nat} {D : va_G} {A : Nat → Prop} {nL : Nat} {cc : ByteArray}
variable {ρ : List Int32} {ws : va_W} {tys : List (ClassId × FieldType)} {H : Heap} {locs : List Loc} {la : Array Slot} {sv : List Value} {L : en_L} {st : List en_V} {iv : en_I} {w : List en_C} {n1 n2 pc : Nat}
theorem en_vi (x : Int32) : en_v kc ρ ws (0, x.toInt) (.int x) := ⟨x, rfl, rfl⟩
theorem en_vl (x : Int64) : en_v kc ρ ws (2, x.toInt) (.long x) := ⟨x, rfl, rfl⟩
theorem en_vn : en_v kc ρ ws (5, 0) .null := rfl
set_option maxHeartbeats 4000000 in
set_option maxRecDepth 100000 in
theorem en_step_ok {y : MethodName} {i : Instr} {a b k bc bs : Nat} {sc : Option Nat} (C : en_cx p l e Rm s m args meth c kc A y cc nL bc bs) (hX : en_X kc A s ρ sc) (hl : en_lnk y i a b k) (hj : en_jmp pc i = true) (hn : ∀ x, i = .new x → k = 0) (hdg : decode cc pc = .ok (i, en_ilen i k))
    (hr : en_R kc D A s nL ρ ws tys H locs la sv L st iv w) (hk : en_Ks p l e Rm s m args below meth c Q kc D A nL ρ ws tys (en_step nL bc bs sc pc (pc + en_ilen i k) i a b k L st iv w n1 n2)) : W p l e Rm s m args below meth c H locs n1 n2 Q (F0 m pc la sv) := by
  obtain ⟨hx, hb, hml, hown, hts, hB, hA, hnm, hbc, hbs, hfr, hlo⟩ := C
  cases i with
  | iconst n => exact en_push_ok (v := .int (Int32.ofInt n)) hr (en_vi _) (fun z => lv_iconst hx hb hdg rfl z) hk
  | bipush n => exact en_push_ok (v := .int (Int8.ofInt n).toInt32) hr (en_vi _) (fun z => lv_bipush hx hb hdg rfl z) hk
  | sipush n => exact en_push_ok (v := .int (Int16.ofInt n).toInt32) hr (en_vi _) (fun z => lv_sipush hx hb hdg rfl z) hk
  | lconst n => exact en_push_ok (v := .long (Int64.ofNat (n : Nat))) hr (en_vl _) (fun z => lv_lconst hx hb hdg rfl z) hk
  | ldc x => exact en_ldcS hx hb hB hown hl hdg hr hk
  | ldc_w x =>
    have hk : en_Ks p l e Rm s m args below meth c Q kc D A nL ρ ws tys (cond (Nat.beq b 0) (en_push (pc + 3) (0, (Int32.ofNat a).toInt) L st iv w n1 n2) (en_push (pc + 3) (6, (a : Int)) L st iv w n1 n2)) := hk
    cases h0 : Nat.beq b 0 with
    | true =>
      rw [h0] at hk
      exact en_push_ok (v := .int (Int32.ofNat a)) hr (en_vi _) (fun z => lv_ldcw hx hb hown (hts _ (hl.1 (Nat.eq_of_beq_eq_true h0))) hdg z) hk
    | false =>
      rw [h0] at hk
      exact en_ldcwS hx hb hB hown (hl.2 (Nat.ne_of_beq_eq_false h0)) hdg hr hk
  | ldc2_w x => exact en_push_ok (v := .long (Int64.ofNat a)) hr (en_vl _) (fun z => lv_ldc2 hx hb hown (hts _ hl) hdg z) hk
  | aconst_null => exact en_push_ok (v := .null) hr en_vn (fun z => lv_null hx hb hdg z) hk
  | iload_n j => exact en_load_ok (kd := 0) (i := (j : Nat)) hr (fun _ x h z => lv_iload_n hx hb hdg rfl h z) (fun h => absurd h (by decide)) (fun h => absurd h (by decide)) hk
  | iload j => exact en_load_ok (kd := 0) (i := j) hr (fun _ x h z => lv_iload hx hb hdg h z) (fun h => absurd h (by decide)) (fun h => absurd h (by decide)) hk
  | lload_n j => exact en_load_ok (kd := 1) (i := (j : Nat)) hr (fun h => absurd h (by decide)) (fun _ x h z => lv_lload_n hx hb hdg rfl h z) (fun h => absurd h (by decide)) hk
  | lload j => exact en_load_ok (kd := 1) (i := j) hr (fun h => absurd h (by decide)) (fun _ x h z => lv_lload hx hb hdg h z) (fun h => absurd h (by decide)) hk
  | aload_n j => exact en_ldA_ok hx hb hdg hr hk
  | aload j => exact en_load_ok (kd := 2) (i := j) hr (fun h => absurd h (by decide)) (fun h => absurd h (by decide)) (fun _ x h z => lv_aload hx hb hdg h z) hk
  | istore_n j => exact en_store_ok (kd := 0) (i := (j : Nat)) hr (fun _ x lv rest h1 h2 h3 => lv_istore_n hx hb hdg rfl h1 h2 rfl h3) (fun h => absurd h (by decide)) (fun h => absurd h (by decide)) hk
  | istore j => exact en_store_ok (kd := 0) (i := j) hr (fun _ x lv rest h1 h2 h3 => lv_istore hx hb hdg h1 h2 rfl h3) (fun h => absurd h (by decide)) (fun h => absurd h (by decide)) hk
  | lstore_n j => exact en_store_ok (kd := 1) (i := (j : Nat)) hr (fun h => absurd h (by decide)) (fun _ x lv rest h1 h2 h3 => lv_lstore_n hx hb hdg rfl h1 h2 rfl h3) (fun h => absurd h (by decide)) hk
  | lstore j => exact en_store_ok (kd := 1) (i := j) hr (fun h => absurd h (by decide)) (fun _ x lv rest h1 h2 h3 => lv_lstore hx hb hdg h1 h2 rfl h3) (fun h => absurd h (by decide)) hk
  | astore_n j => exact en_stA_ok hx hb hdg hr hk
  | astore j => exact en_store_ok (kd := 2) (i := j) hr (fun h => absurd h (by decide)) (fun h => absurd h (by decide)) (fun _ x lv rest h1 h2 h3 => lv_astore hx hb hdg h1 h2 rfl h3) hk
  | iinc j n => exact en_iinc_ok hr (fun k9 x v lv h1 h2 h3 h4 h5 => lv_iinc hx hb hdg h1 h2 h3 h4 rfl h5) hk
  | iadd => exact en_ib_ok (k := 0) hr (fun x y rest z => lv_iadd hx hb hdg z) hk
  | isub => exact en_ib_ok (k := 1) hr (fun x y rest z => lv_isub hx hb hdg z) hk
  | imul => exact en_ib_ok (k := 2) hr (fun x y rest z => lv_imul hx hb hdg z) hk
  | iand => exact en_ib_ok (k := 3) hr (fun x y rest z => lv_iand hx hb hdg z) hk
  | ior => exact en_ib_ok (k := 4) hr (fun x y rest z => lv_ior hx hb hdg z) hk
  | ixor => exact en_ib_ok (k := 5) hr (fun x y rest z => lv_ixor hx hb hdg z) hk
  | ishl => exact en_ib_ok (k := 6) hr (fun x y rest z => lv_ishl hx hb hdg z) hk
  | ishr => exact en_ib_ok (k := 7) hr (fun x y rest z => lv_ishr hx hb hdg z) hk
  | iushr => exact en_ib_ok (k := 8) hr (fun x y rest z => lv_iushr hx hb hdg rfl z) hk
  | idiv => exact en_id_ok (k := 9) hr (fun x y rest h z => lv_idiv hx hb hdg h z) hk
  | irem => exact en_id_ok (k := 10) hr (fun x y rest h z => lv_irem hx hb hdg h z) hk
  | ladd => exact en_lb_ok (k := 0) hr (fun x y rest z => lv_ladd hx hb hdg z) hk
  | lsub => exact en_lb_ok (k := 1) hr (fun x y rest z => lv_lsub hx hb hdg z) hk
  | lmul => exact en_lb_ok (k := 2) hr (fun x y rest z => lv_lmul hx hb hdg z) hk
  | land => exact en_lb_ok (k := 3) hr (fun x y rest z => lv_land hx hb hdg z) hk
  | lor => exact en_lb_ok (k := 4) hr (fun x y rest z => lv_lor hx hb hdg z) hk
  | lxor => exact en_lb_ok (k := 5) hr (fun x y rest z => lv_lxor hx hb hdg z) hk
  | ldiv => exact en_ld_ok (k := 6) hr (fun x y rest h z => lv_ldiv hx hb hdg h z) hk
  | lrem => exact en_ld_ok (k := 7) hr (fun x y rest h z => lv_lrem hx hb hdg h z) hk
  | lshl => exact en_lsh_ok (k := 0) hr (fun x y rest z => lv_lshl hx hb hdg rfl z) hk
  | lushr => exact en_lsh_ok (k := 1) hr (fun x y rest z => lv_lushr hx hb hdg rfl z) hk
  | lshr => exact en_lsh_ok (k := 2) hr (fun x y rest z => lv_lshr hx hb hdg rfl z) hk
  | lcmp => exact en_lcmp_ok hr (fun x y rest z => W.lcmp hx hb hdg z) hk
  | i2l => exact en_i2l_ok hr (fun x rest z => lv_i2l hx hb hdg rfl z) hk
  | l2i => exact en_l2i_ok hr (fun x rest z => lv_l2i hx hb hdg rfl z) hk
  | i2c => exact en_i2c_ok hx hb hdg hr hk
  | dup => exact en_dup_ok hr (fun v rest h z => lv_dup hx hb hdg h z) hk
  | pop => exact en_pop_ok hx hb hdg hr hk
  | ifCond cd o =>
    have ht := en_tgt (of_decide_eq_true (show decide (0 ≤ (pc : Int) + o) = true from hj))
    cases cd with
    | eq => exact en_if1_ok (k := .eq) hr (fun x rest h1 h2 => lv_if_eq hx hb hdg ht h1 h2) hk
    | ne => exact en_if1_ok (k := .ne) hr (fun x rest h1 h2 => lv_if_ne hx hb hdg ht h1 (fun h => h2 (fun g => g h))) hk
    | lt => exact en_if1_ok (k := .lt) hr (fun x rest h1 h2 => lv_if_lt hx hb hdg ht h1 h2) hk
    | ge => exact en_if1_ok (k := .ge) hr (fun x rest h1 h2 => lv_if_ge hx hb hdg ht h1 h2) hk
    | gt => exact en_if1_ok (k := .gt) hr (fun x rest h1 h2 => lv_if_gt hx hb hdg ht h1 h2) hk
    | le => exact en_if1_ok (k := .le) hr (fun x rest h1 h2 => lv_if_le hx hb hdg ht h1 h2) hk
  | if_icmp cd o =>
    have ht := en_tgt (of_decide_eq_true (show decide (0 ≤ (pc : Int) + o) = true from hj))
    cases cd with
    | eq => exact en_if2_ok (k := .eq) hr (fun x y rest h1 h2 => lv_icmp_eq hx hb hdg ht h1 h2) hk
    | ne => exact en_if2_ok (k := .ne) hr (fun x y rest h1 h2 => lv_icmp_ne hx hb hdg ht h1 (fun h => h2 (fun g => g h))) hk
    | lt => exact en_if2_ok (k := .lt) hr (fun x y rest h1 h2 => lv_icmp_lt hx hb hdg ht h1 h2) hk
    | ge => exact en_if2_ok (k := .ge) hr (fun x y rest h1 h2 => lv_icmp_ge hx hb hdg ht h1 h2) hk
    | gt => exact en_if2_ok (k := .gt) hr (fun x y rest h1 h2 => lv_icmp_gt hx hb hdg ht h1 h2) hk
    | le => exact en_if2_ok (k := .le) hr (fun x y rest h1 h2 => lv_icmp_le hx hb hdg ht h1 h2) hk
  | goto o =>
    have ht := en_tgt (of_decide_eq_true (show decide (0 ≤ (pc : Int) + o) = true from hj))
    exact lv_goto hx hb hdg ht (en_Ks.one hk en_pre.rf en_le.rf en_pre.rf hr)
  | ifnull o =>
    have ht := en_tgt (of_decide_eq_true (show decide (0 ≤ (pc : Int) + o) = true from hj))
    exact en_ifn_ok (nn := false) hr (fun rest z => lv_ifnullN hx hb hdg ht z) (fun q rest z => lv_ifnull hx hb hdg z) hk
  | ifnonnull o =>
    have ht := en_tgt (of_decide_eq_true (show decide (0 ≤ (pc : Int) + o) = true from hj))
    exact en_ifn_ok (nn := true) hr (fun rest z => lv_ifnonnullN hx hb hdg z) (fun q rest z => lv_ifnonnull hx hb hdg ht z) hk
  | tableswitch d lo hi os =>
    have hj : (decide (0 ≤ (pc : Int) + d) && os.toList.all (fun o => decide (0 ≤ (pc : Int) + o))) = true := hj
    rw [Bool.and_eq_true, decide_eq_true_eq] at hj
    refine en_sw_ok hr (fun x rest h z => lv_tableOut hx hb hdg h (en_tgt hj.1) z) (fun x o rest h1 h2 h3 z => ?_) hk
    have ho : 0 ≤ (pc : Int) + o := of_decide_eq_true (List.all_eq_true.mp hj.2 o (List.mem_of_getElem? h3))
    exact lv_tableIn hx hb hdg h1 h2 (by rw [← Array.getElem?_toList]; exact h3) (en_tgt ho) z
  | getfield x =>
    have hk : en_Ks p l e Rm s m args below meth c Q kc D A nL ρ ws tys (cond (Nat.blt a 12) (en_gf a b (pc + 3) L st iv w n1 n2) (en_gfS b (pc + 3) L st iv w n1 n2)) := hk
    cases h0 : Nat.blt a 12 with
    | true =>
      rw [h0] at hk
      obtain ⟨C, T, N, ty, g1, g2, g3⟩ := hl.1 (en_blt h0)
      exact en_gf_ok hx hb hts hown g1 g2 g3 hdg hr hk
    | false =>
      rw [h0] at hk
      have h12 : 12 ≤ a := by
        rcases Nat.lt_or_ge a 12 with h | h
        · rw [show Nat.blt a 12 = true from Nat.ble_eq_true_of_le h] at h0; cases h0
        · exact h
      obtain ⟨g1, g2⟩ := hl.2 h12
      exact en_gfS_ok hx hb hB hts hown g1 g2 hdg hr hk
  | putfield x =>
    obtain ⟨C, T, N, ty, g1, g2, g3, g4, g5⟩ := hl
    refine en_pf_ok (k := b) (kt := k) hr (fun q q0 v fs rest h1 h2 h3 h4 => ?_) hk
    obtain ⟨f1, f2⟩ := h2 _ g4
    rcases g5 with g5 | ⟨g5, g6, g7⟩
    · exact va_put (D := D) (C := C) (T := T) (N := N) hx hb hts g1.2.1 ty g1.2.2.1 g1.2.2.2 hown hr.2.2.2.2.1 hr.2.2.2.2.2.1 hr.2.2.2.2.2.2.1 hr.2.2.2.2.2.2.2 q0 h1 g1.1 b g2 (hts _ g3) (fun _ h9 => h9) g5 (g1.2.2.1 b g2) f1 f2 h3 hdg h4
    · exact va_putF (D := D) (C := C) (T := T) (N := N) hx hb hts g1.2.1 ty g1.2.2.1 g1.2.2.2 hown hr.2.2.2.2.1 hr.2.2.2.2.2.1 hr.2.2.2.2.2.2.1 hr.2.2.2.2.2.2.2 q0 h1 g1.1 b g2 (hts _ g3) (fun _ h9 => h9) g5 (by rw [hnm]; exact g6) g7 (g1.2.2.1 b g2) f1 f2 h3 hdg h4
  | getstatic x => exact en_gs_ok hx hb hB hts hown hl.1 hl.2.1 hdg hr hk
  | new x =>
    obtain ⟨C, T, ty, g1, g2, g3, g4, g5, g6⟩ := hl (hn x rfl)
    exact en_new_ok hx hb hts hown g1 g2 g3 g4 g5 g6 hA hbc hbs hdg hr hk
  | newarray t =>
    cases t with
    | int => exact en_na_i hx hb hts hl hA hbc hbs hdg hr hk
    | boolean => exact en_na_z hx hb hts hl hA hbc hbs hdg hr hk
    | long => exact en_na_l hx hb hts hl hA hbc hbs hdg hr hk
    | _ => exact (en_no rfl hk).elim
  | anewarray x =>
    have hao : va_AO (en_an a) s := by
      match a with
      | 0 => exact hB.2.1
      | k + 1 => exact hB.2.2.1
    exact en_nr_ok hx hb hts hown hl hao hA hbc hbs hdg hr hk
  | arraylength =>
    have hk : en_Ks p l e Rm s m args below meth c Q kc D A nL ρ ws tys (cond (Nat.beq a 1) (en_lenS (pc + 1) L st iv w n1 n2) (en_alen2 sc (pc + 1) L st iv w n1 n2)) := hk
    cases h0 : Nat.beq a 1 with
    | true => rw [h0] at hk; exact en_lenS_ok hx hb hB hdg hr hk
    | false => rw [h0] at hk; exact en_alen2_ok hx hb hX hdg hr hk
  | iaload => exact en_ald2_ok hx hb hX hdg hr hk
  | iastore => exact en_ast_ok (kd := 1) (tt := .int) (Or.inl ⟨rfl, rfl⟩) hr (fun q q0 t0 cA n f i x rest h1 h2 h3 _ h5 => va_iast hx hb hr.2.2.2.2.1 hr.2.2.2.2.2.1 hr.2.2.2.2.2.2.1 hr.2.2.2.2.2.2.2 q0 t0 h1 h2 h3 hdg h5) hk
  | baload =>
    have hk : en_Ks p l e Rm s m args below meth c Q kc D A nL ρ ws tys (cond (Nat.beq a 1) (en_byS (pc + 1) L st iv w n1 n2) (en_ald 4 (pc + 1) L st iv w n1 n2)) := hk
    cases h0 : Nat.beq a 1 with
    | true => rw [h0] at hk; exact en_byS_ok hx hb hB hdg hr hk
    | false =>
      rw [h0] at hk
      exact en_ald_ok (kd := 4) (tt := .boolean) (Or.inr ⟨rfl, rfl⟩) hr (fun q q0 t0 cA n f i rest h1 h2 h3 h4 => va_zald hx hb hr.2.2.2.2.1 hr.2.2.2.2.2.1 q0 t0 h1 h2 h3 hdg h4) hk
  | bastore => exact en_ast_ok (kd := 4) (tt := .boolean) (Or.inr ⟨rfl, rfl⟩) hr (fun q q0 t0 cA n f i x rest h1 h2 h3 h01 h5 => va_zast hx hb hr.2.2.2.2.1 hr.2.2.2.2.2.1 hr.2.2.2.2.2.2.1 hr.2.2.2.2.2.2.2 q0 t0 h1 h2 h3 hdg (by
      have e0 : vp_nar .boolean x = x := by rcases h01 rfl with rfl | rfl <;> rfl
      rw [e0]
      exact h5)) hk
  | laload => exact en_lld_ok hx hb hdg hr hk
  | lastore => exact en_lst_ok hx hb hdg hr hk
  | aaload => exact en_aald_ok hx hb hdg hr hk
  | aastore => exact en_aast_ok hx hb hdg hr hk
  | invokespecial x =>
    have hk : en_Ks p l e Rm s m args below meth c Q kc D A nL ρ ws tys (cond (Nat.beq k 0) (en_oi (pc + 3) L st iv w n1 n2) none) := hk
    cases h0 : Nat.beq k 0 with
    | true =>
      rw [h0] at hk
      obtain ⟨g1, g2, g3⟩ := hl (Nat.eq_of_beq_eq_true h0)
      exact en_oi_ok hx hb hml hown hts g1 g2 g3 hfr hlo hdg hr hk
    | false => rw [h0] at hk; exact (en_no rfl hk).elim
  | invokestatic x =>
    have hk : en_Ks p l e Rm s m args below meth c Q kc D A nL ρ ws tys (cond (Nat.beq k 7) (en_st7 a bc bs (pc + 3) L st iv w n1 n2) none) := hk
    cases h0 : Nat.beq k 7 with
    | true =>
      rw [h0, cond_true] at hk
      obtain ⟨f1, f2, -⟩ := hl (Nat.eq_of_beq_eq_true h0)
      match a, f1, f2, hk with
      | 0, f1, _, hk =>
        obtain ⟨g1, g2, g3, g4⟩ := f1 rfl
        exact en_cpy_ok hx hb hml hts hown g1 g2 g3 g4 hfr hlo hdg hr hk
      | 1, _, f2, hk =>
        obtain ⟨g1, g2, g3, g4⟩ := f2 rfl
        exact en_min_ok hx hb hml hown hts g1 g2 g3 g4 hbc hbs hfr hlo hdg hr hk
      | n + 2, _, _, hk => exact (en_no rfl hk).elim
    | false => rw [h0] at hk; exact (en_no rfl hk).elim
  | _ => exact (en_no rfl hk).elim
end ENT2
