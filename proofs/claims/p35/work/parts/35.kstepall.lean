/-! THE CALCULUS, 6: every plain instruction -/
section KKU
variable {p : Program} {l : Launch} {e : Env} {Rm : Room} {s : State} {m : MethodId} {args : Array Value} {below : List Frame} {meth : Method} {c : Code} {Q : State → Prop}
variable {kc : Nat → Nat} {D : va_G} {A : Nat → Prop} {nL : Nat} {cc : ByteArray} {xc : kk_X}
variable {ws : va_W} {tys : List (ClassId × FieldType)} {H : Heap} {locs : List Loc} {la : Array Slot} {sv : List Value} {L : en_L} {st : List en_V} {w : List kk_C} {n1 n2 pc : Nat}
set_option maxHeartbeats 4000000 in
set_option maxRecDepth 100000 in
theorem kk_stp_ok {y : MethodName} {i : Instr} {a b k bc bs : Nat} (C : en_cx p l e Rm s m args meth c kc A y cc nL bc bs) (hX : kk_XR kc A s s.heap xc) (hZ : kk_Z kc A s s.heap) (hl : en_lnk y i a b k) (hj : en_jmp pc i = true) (hin : ∀ x, i = .invokestatic x → k = 7) (hdg : decode cc pc = .ok (i, en_ilen i k)) (hn1 : n1 ≤ Rm.cells) (hn2 : n2 ≤ Rm.slots)
    (hr : kk_R kc D A s nL ws tys H locs la sv L st w) (hk : kk_stp nL xc pc (pc + en_ilen i k) i a b k L st w (kk_K p l e Rm s m args below meth c Q kc D A nL ws tys n1 n2)) : W p l e Rm s m args below meth c H locs n1 n2 Q (F0 m pc la sv) := by
  obtain ⟨hx, hb, hml, hown, hts, hB, hA, hnm, hbc, hbs, hfr, hlo⟩ := C
  cases i with
  | iconst n =>
    have hq := kk_n32_ok hk
    clear hk
    obtain ⟨e1, hk⟩ := hq
    exact lv_iconst hx hb hdg rfl (hk.on (hr.push ⟨_, rfl, e1⟩))
  | bipush n =>
    have hq := kk_n8_ok hk
    clear hk
    obtain ⟨e1, hk⟩ := hq
    exact lv_bipush hx hb hdg rfl (hk.on (hr.push ⟨_, rfl, e1⟩))
  | sipush n =>
    have hq := kk_n16_ok hk
    clear hk
    obtain ⟨e1, hk⟩ := hq
    exact lv_sipush hx hb hdg rfl (hk.on (hr.push ⟨_, rfl, e1⟩))
  | lconst n =>
    refine lv_lconst hx hb hdg rfl (kk_K.on hk (hr.push ⟨_, rfl, ?_⟩))
    match n with
    | 0 => rfl
    | 1 => rfl
  | ldc x =>
    have hk : kk_K p l e Rm s m args below meth c Q kc D A nL ws tys n1 n2 (pc + 2) L ((6, (a : Int)) :: st) w := hk
    obtain ⟨tx, hR⟩ := en_str hB hl
    exact va_ldcS hx hb hown hR hdg (hk.on (hr.push (by show Value.ref (kc a) = Value.ref (kc ((a : Int)).toNat); rw [Int.toNat_natCast])))
  | ldc_w x =>
    have hk : cond (Nat.beq b 0) (cond (Nat.ble a 2147483647) (kk_K p l e Rm s m args below meth c Q kc D A nL ws tys n1 n2 (pc + 3) L ((0, (a : Int)) :: st) w) False) (kk_K p l e Rm s m args below meth c Q kc D A nL ws tys n1 n2 (pc + 3) L ((6, (a : Int)) :: st) w) := hk
    cases h0 : Nat.beq b 0 with
    | true =>
      rw [h0, cond_true] at hk
      have hq := kk_cond hk
      clear hk
      obtain ⟨h1, hk⟩ := hq
      exact lv_ldcw hx hb hown (hts _ (hl.1 (Nat.eq_of_beq_eq_true h0))) hdg (hk.on (hr.push ⟨_, rfl, en_ofNat_toInt (by have := Nat.le_of_ble_eq_true h1; omega)⟩))
    | false =>
      rw [h0, cond_false] at hk
      obtain ⟨tx, hR⟩ := en_str hB (hl.2 (Nat.ne_of_beq_eq_false h0))
      exact en_ldcSw hx hb hown hR hdg (hk.on (hr.push (by show Value.ref (kc a) = Value.ref (kc ((a : Int)).toNat); rw [Int.toNat_natCast])))
  | ldc2_w x =>
    have hq := kk_cond hk
    clear hk
    obtain ⟨h1, hk⟩ := hq
    refine lv_ldc2 hx hb hown (hts _ hl) hdg (kk_K.on hk (hr.push ⟨_, rfl, ?_⟩))
    have := Nat.le_of_ble_eq_true h1
    exact Int64.toInt_ofNat_of_lt (by omega)
  | aconst_null => exact lv_null hx hb hdg (kk_K.on hk (hr.push rfl))
  | iload_n j => exact kk_ldv_ok (kd := 0) (i := (j : Nat)) hr (fun _ x h z => lv_iload_n hx hb hdg rfl h z) (fun h => absurd h (by decide)) (fun h => absurd h (by decide)) (fun h => absurd h (by decide)) hk
  | iload j => exact kk_ldv_ok (kd := 0) (i := j) hr (fun _ x h z => lv_iload hx hb hdg h z) (fun h => absurd h (by decide)) (fun h => absurd h (by decide)) (fun h => absurd h (by decide)) hk
  | lload_n j => exact kk_ldv_ok (kd := 1) (i := (j : Nat)) hr (fun h => absurd h (by decide)) (fun _ x h z => lv_lload_n hx hb hdg rfl h z) (fun h => absurd h (by decide)) (fun h => absurd h (by decide)) hk
  | lload j => exact kk_ldv_ok (kd := 1) (i := j) hr (fun h => absurd h (by decide)) (fun _ x h z => lv_lload hx hb hdg h z) (fun h => absurd h (by decide)) (fun h => absurd h (by decide)) hk
  | aload_n j => exact kk_ldv_ok (kd := 3) (i := (j : Nat)) hr (fun h => absurd h (by decide)) (fun h => absurd h (by decide)) (fun _ x h z => lv_aload_n hx hb hdg rfl h z) (fun _ h z => lv_aload_nN hx hb hdg rfl h z) hk
  | aload j => exact kk_ldv_ok (kd := 2) (i := j) hr (fun h => absurd h (by decide)) (fun h => absurd h (by decide)) (fun _ x h z => lv_aload hx hb hdg h z) (fun h => absurd h (by decide)) hk
  | istore_n j => exact kk_stv_ok (kd := 0) (i := (j : Nat)) hr (fun _ x lv rest h1 h2 h3 => lv_istore_n hx hb hdg rfl h1 h2 rfl h3) (fun h => absurd h (by decide)) (fun h => absurd h (by decide)) (fun h => absurd h (by decide)) hk
  | istore j => exact kk_stv_ok (kd := 0) (i := j) hr (fun _ x lv rest h1 h2 h3 => lv_istore hx hb hdg h1 h2 rfl h3) (fun h => absurd h (by decide)) (fun h => absurd h (by decide)) (fun h => absurd h (by decide)) hk
  | lstore_n j => exact kk_stv_ok (kd := 1) (i := (j : Nat)) hr (fun h => absurd h (by decide)) (fun _ x lv rest h1 h2 h3 => lv_lstore_n hx hb hdg rfl h1 h2 rfl h3) (fun h => absurd h (by decide)) (fun h => absurd h (by decide)) hk
  | lstore j => exact kk_stv_ok (kd := 1) (i := j) hr (fun h => absurd h (by decide)) (fun _ x lv rest h1 h2 h3 => lv_lstore hx hb hdg h1 h2 rfl h3) (fun h => absurd h (by decide)) (fun h => absurd h (by decide)) hk
  | astore_n j => exact kk_stv_ok (kd := 3) (i := (j : Nat)) hr (fun h => absurd h (by decide)) (fun h => absurd h (by decide)) (fun _ x lv rest h1 h2 h3 => lv_astore_n hx hb hdg rfl h1 h2 rfl h3) (fun _ lv rest h1 h2 h3 => lv_astore_nN hx hb hdg rfl h1 h2 rfl h3) hk
  | astore j => exact kk_stv_ok (kd := 2) (i := j) hr (fun h => absurd h (by decide)) (fun h => absurd h (by decide)) (fun _ x lv rest h1 h2 h3 => lv_astore hx hb hdg h1 h2 rfl h3) (fun h => absurd h (by decide)) hk
  | iinc j n => exact kk_inc_ok hr (fun k9 x v lv h1 h2 h3 h4 h5 => lv_iinc hx hb hdg h1 h2 h3 h4 rfl h5) hk
  | iadd => exact kk_ib_ok (k := 0) hr (fun x y rest z => lv_iadd hx hb hdg z) hk
  | isub => exact kk_ib_ok (k := 1) hr (fun x y rest z => lv_isub hx hb hdg z) hk
  | imul => exact kk_ib_ok (k := 2) hr (fun x y rest z => lv_imul hx hb hdg z) hk
  | iand => exact kk_ib_ok (k := 3) hr (fun x y rest z => lv_iand hx hb hdg z) hk
  | ior => exact kk_ib_ok (k := 4) hr (fun x y rest z => lv_ior hx hb hdg z) hk
  | ixor => exact kk_ib_ok (k := 5) hr (fun x y rest z => lv_ixor hx hb hdg z) hk
  | ishl => exact kk_ib_ok (k := 6) hr (fun x y rest z => lv_ishl hx hb hdg z) hk
  | ishr => exact kk_ib_ok (k := 7) hr (fun x y rest z => lv_ishr hx hb hdg z) hk
  | iushr => exact kk_ib_ok (k := 8) hr (fun x y rest z => lv_iushr hx hb hdg rfl z) hk
  | idiv => exact kk_id_ok (k := 9) hr (fun x y rest h z => lv_idiv hx hb hdg h z) hk
  | irem => exact kk_id_ok (k := 10) hr (fun x y rest h z => lv_irem hx hb hdg h z) hk
  | ladd => exact kk_lb_ok (k := 0) hr (fun x y rest z => lv_ladd hx hb hdg z) hk
  | lsub => exact kk_lb_ok (k := 1) hr (fun x y rest z => lv_lsub hx hb hdg z) hk
  | lmul => exact kk_lb_ok (k := 2) hr (fun x y rest z => lv_lmul hx hb hdg z) hk
  | land => exact kk_lb_ok (k := 3) hr (fun x y rest z => lv_land hx hb hdg z) hk
  | lor => exact kk_lb_ok (k := 4) hr (fun x y rest z => lv_lor hx hb hdg z) hk
  | lxor => exact kk_lb_ok (k := 5) hr (fun x y rest z => lv_lxor hx hb hdg z) hk
  | ldiv => exact kk_ld_ok (k := 6) hr (fun x y rest h z => lv_ldiv hx hb hdg h z) hk
  | lrem => exact kk_ld_ok (k := 7) hr (fun x y rest h z => lv_lrem hx hb hdg h z) hk
  | lshl => exact kk_ls_ok (k := 0) hr (fun x y rest z => lv_lshl hx hb hdg rfl z) hk
  | lushr => exact kk_ls_ok (k := 1) hr (fun x y rest z => lv_lushr hx hb hdg rfl z) hk
  | lshr => exact kk_ls_ok (k := 2) hr (fun x y rest z => lv_lshr hx hb hdg rfl z) hk
  | lcmp =>
    unfold kk_stp at hk
    dsimp only at hk
    split at hk
    · obtain ⟨vb, sv1, rfl, hvb, hr1⟩ := hr.pop
      obtain ⟨va, sv2, rfl, hva, hr2⟩ := hr1.pop
      obtain ⟨x, rfl, ex, -⟩ := kk_v2 hva
      obtain ⟨y, rfl, ey, -⟩ := kk_v2 hvb
      subst ex
      subst ey
      exact W.lcmp hx hb hdg (kk_K.on hk (hr2.push ⟨_, rfl, kk_cmp_ok x y⟩))
    · exact hk.elim
  | i2l =>
    unfold kk_stp at hk
    dsimp only at hk
    split at hk
    · obtain ⟨va, sv2, rfl, hva, hr2⟩ := hr.pop
      obtain ⟨x, rfl, ex, -⟩ := kk_v0 hva
      exact lv_i2l hx hb hdg rfl (kk_K.on hk (hr2.push ⟨_, rfl, by rw [Int32.toInt_toInt64]; exact ex⟩))
    · exact hk.elim
  | l2i =>
    unfold kk_stp at hk
    dsimp only at hk
    split at hk
    · obtain ⟨va, sv2, rfl, hva, hr2⟩ := hr.pop
      obtain ⟨x, rfl, -, ex⟩ := kk_v2 hva
      unfold kk_l2i at hk
      rw [ex] at hk
      exact lv_l2i hx hb hdg rfl (kk_K.on hk (hr2.push (kk_mk0 _)))
    · exact hk.elim
  | i2c =>
    unfold kk_stp at hk
    dsimp only at hk
    split at hk
    · obtain ⟨va, sv2, rfl, hva, hr2⟩ := hr.pop
      obtain ⟨x, rfl, -, ex⟩ := kk_v0 hva
      unfold kk_i2c at hk
      rw [ex] at hk
      exact lv_i2c hx hb hdg rfl (kk_K.on hk (hr2.push (kk_mk0 _)))
    · exact hk.elim
  | dup =>
    unfold kk_stp at hk
    dsimp only at hk
    split at hk
    · have hq := kk_cond2 hk
      clear hk
      obtain ⟨hw, hk⟩ := hq
      obtain ⟨va, sv2, rfl, hva, hr2⟩ := hr.pop
      exact lv_dup hx hb hdg (hva.one hw) (kk_K.on hk (hr.push hva))
    · exact hk.elim
  | dup2 =>
    unfold kk_stp at hk
    dsimp only at hk
    split at hk
    · have hq := kk_cond2 hk
      clear hk
      obtain ⟨hw, hk⟩ := hq
      rw [Bool.or_eq_false_iff] at hw
      obtain ⟨va, sv1, rfl, hva, hr1⟩ := hr.pop
      obtain ⟨vb, sv2, rfl, hvb, hr2⟩ := hr1.pop
      exact lv_dup2_11 hx hb hdg (hva.one hw.1) (hvb.one hw.2) (kk_K.on hk ((hr.push hvb).push hva))
    · exact hk.elim
  | pop =>
    unfold kk_stp at hk
    dsimp only at hk
    split at hk
    · have hq := kk_cond2 hk
      clear hk
      obtain ⟨hw, hk⟩ := hq
      obtain ⟨va, sv2, rfl, hva, hr2⟩ := hr.pop
      exact lv_pop hx hb hdg (hva.one hw) (kk_K.on hk hr2)
    · exact hk.elim
  | ifCond cd o =>
    have ht := en_tgt (of_decide_eq_true (show decide (0 ≤ (pc : Int) + o) = true from hj))
    cases cd with
    | eq => exact kk_if1_ok (k := .eq) hr (fun x rest h1 h2 => lv_if_eq hx hb hdg ht h1 h2) hk
    | ne => exact kk_if1_ok (k := .ne) hr (fun x rest h1 h2 => lv_if_ne hx hb hdg ht h1 (fun h => h2 (fun g => g h))) hk
    | lt => exact kk_if1_ok (k := .lt) hr (fun x rest h1 h2 => lv_if_lt hx hb hdg ht h1 h2) hk
    | ge => exact kk_if1_ok (k := .ge) hr (fun x rest h1 h2 => lv_if_ge hx hb hdg ht h1 h2) hk
    | gt => exact kk_if1_ok (k := .gt) hr (fun x rest h1 h2 => lv_if_gt hx hb hdg ht h1 h2) hk
    | le => exact kk_if1_ok (k := .le) hr (fun x rest h1 h2 => lv_if_le hx hb hdg ht h1 h2) hk
  | if_icmp cd o =>
    have ht := en_tgt (of_decide_eq_true (show decide (0 ≤ (pc : Int) + o) = true from hj))
    cases cd with
    | eq => exact kk_if2_ok (k := .eq) hr (fun x y rest h1 h2 => lv_icmp_eq hx hb hdg ht h1 h2) hk
    | ne => exact kk_if2_ok (k := .ne) hr (fun x y rest h1 h2 => lv_icmp_ne hx hb hdg ht h1 (fun h => h2 (fun g => g h))) hk
    | lt => exact kk_if2_ok (k := .lt) hr (fun x y rest h1 h2 => lv_icmp_lt hx hb hdg ht h1 h2) hk
    | ge => exact kk_if2_ok (k := .ge) hr (fun x y rest h1 h2 => lv_icmp_ge hx hb hdg ht h1 h2) hk
    | gt => exact kk_if2_ok (k := .gt) hr (fun x y rest h1 h2 => lv_icmp_gt hx hb hdg ht h1 h2) hk
    | le => exact kk_if2_ok (k := .le) hr (fun x y rest h1 h2 => lv_icmp_le hx hb hdg ht h1 h2) hk
  | goto o =>
    have ht := en_tgt (of_decide_eq_true (show decide (0 ≤ (pc : Int) + o) = true from hj))
    exact lv_goto hx hb hdg ht (kk_K.on hk hr)
  | ifnull o =>
    have ht := en_tgt (of_decide_eq_true (show decide (0 ≤ (pc : Int) + o) = true from hj))
    exact kk_ifn_ok (nn := false) hr (fun rest z => lv_ifnullN hx hb hdg ht z) (fun q rest z => lv_ifnull hx hb hdg z) hk
  | ifnonnull o =>
    have ht := en_tgt (of_decide_eq_true (show decide (0 ≤ (pc : Int) + o) = true from hj))
    exact kk_ifn_ok (nn := true) hr (fun rest z => lv_ifnonnullN hx hb hdg z) (fun q rest z => lv_ifnonnull hx hb hdg ht z) hk
  | tableswitch d lo hi os =>
    have hj : (decide (0 ≤ (pc : Int) + d) && os.toList.all (fun o => decide (0 ≤ (pc : Int) + o))) = true := hj
    rw [Bool.and_eq_true, decide_eq_true_eq] at hj
    refine kk_sw_ok hr (fun x rest h z => lv_tableOut hx hb hdg h (en_tgt hj.1) z) (fun x o rest h1 h2 h3 z => ?_) hk
    have ho : 0 ≤ (pc : Int) + o := of_decide_eq_true (List.all_eq_true.mp hj.2 o (List.mem_of_getElem? h3))
    exact lv_tableIn hx hb hdg h1 h2 (by rw [← Array.getElem?_toList]; exact h3) (en_tgt ho) z
  | lookupswitch d os =>
    have hj : (decide (0 ≤ (pc : Int) + d) && os.toList.all (fun o => decide (0 ≤ (pc : Int) + o.2))) = true := hj
    rw [Bool.and_eq_true, decide_eq_true_eq] at hj
    have hk : kk_lks pc d os.toList L st w (kk_K p l e Rm s m args below meth c Q kc D A nL ws tys n1 n2) := hk
    unfold kk_lks at hk
    split at hk
    · have hq := kk_cond hk
      clear hk
      obtain ⟨hs, hk⟩ := hq
      obtain ⟨va, sv2, rfl, hva, hr2⟩ := hr.pop
      obtain ⟨x, rfl, ex, -⟩ := kk_v0 hva
      subst ex
      have key : ∀ (l : List (Int × Int)), (∀ o ∈ l, 0 ≤ (pc : Int) + o.2) → 0 ≤ (pc : Int) + Op.lookupswitch.offset l d x.toInt := by
        intro l hl
        induction l with
        | nil => exact hj.1
        | cons q l ih =>
          obtain ⟨u, v⟩ := q
          rw [Op.lookupswitch.offset_cons]
          by_cases h : u = x.toInt
          · rw [if_pos h]; exact hl _ List.mem_cons_self
          · rw [if_neg h]; exact ih (fun o ho => hl o (List.mem_cons_of_mem _ ho))
      have h0 := key os.toList (fun o ho => of_decide_eq_true (List.all_eq_true.mp hj.2 o ho))
      exact lv_lookup hx hb hdg hs rfl (en_tgt h0) ((kk_lkp_at os.toList hk).on hr2)
    · exact hk.elim
  | getfield x =>
    have hk : cond (Nat.blt a 12) (kk_gf a b (pc + 3) L st w (kk_K p l e Rm s m args below meth c Q kc D A nL ws tys n1 n2)) (kk_gfS b (pc + 3) L st w (kk_K p l e Rm s m args below meth c Q kc D A nL ws tys n1 n2)) := hk
    cases h0 : Nat.blt a 12 with
    | true =>
      rw [h0] at hk
      obtain ⟨C, T, N, ty, g1, g2, g3⟩ := hl.1 (en_blt h0)
      exact kk_gf_ok hx hb hts hown g1 g2 g3 hdg hr hk
    | false =>
      rw [h0, cond_false] at hk
      have h12 : 12 ≤ a := by
        rcases Nat.lt_or_ge a 12 with h | h
        · rw [show Nat.blt a 12 = true from Nat.ble_eq_true_of_le h] at h0; cases h0
        · exact h
      obtain ⟨g1, g2⟩ := hl.2 h12
      unfold kk_gfS at hk
      split at hk
      · rename_i o r _
        have hq := kk_cond hk
        clear hk
        obtain ⟨ho, hk⟩ := hq
        obtain ⟨va, sv2, rfl, hva, hr2⟩ := hr.pop
        have e1 := kk_v6 hva
        subst e1
        obtain ⟨f1, f2, f3, f4⟩ := hB.2.2.2.2.2.2.1.1 o.toNat (en_blt ho)
        match b, g1, g2, hk with
        | 0, g1, _, hk => exact vk_getf hx hb f3 hr2.2.2.2.2.2.2 hown (hts _ (g1 rfl)) (fun _ h9 => h9) hdg (kk_K.on hk (hr2.push rfl))
        | k + 1, _, g2, hk => exact vk_getf hx hb f2 hr2.2.2.2.2.2.2 hown (hts _ (g2 (by omega))) (fun _ h9 => h9) hdg (kk_K.on hk (hr2.push ⟨0, rfl, rfl⟩))
      · exact hk.elim
  | putfield x =>
    obtain ⟨C, T, N, ty, g1, g2, g3, g4, g5⟩ := hl
    refine kk_pf_ok (b := b) (k := k) g4 hr (fun q q0 v fs rest h1 f1 f2 h3 h4 => ?_) hk
    rcases g5 with g5 | ⟨g5, g6, g7⟩
    · exact va_put (D := D) (C := C) (T := T) (N := N) hx hb hts g1.2.1 ty g1.2.2.1 g1.2.2.2 hown hr.2.2.2.1 hr.2.2.2.2.1 hr.2.2.2.2.2.1 hr.2.2.2.2.2.2 q0 h1 g1.1 b g2 (hts _ g3) (fun _ h9 => h9) g5 (g1.2.2.1 b g2) f1 f2 h3 hdg h4
    · exact va_putF (D := D) (C := C) (T := T) (N := N) hx hb hts g1.2.1 ty g1.2.2.1 g1.2.2.2 hown hr.2.2.2.1 hr.2.2.2.2.1 hr.2.2.2.2.2.1 hr.2.2.2.2.2.2 q0 h1 g1.1 b g2 (hts _ g3) (fun _ h9 => h9) g5 (by rw [hnm]; exact g6) g7 (g1.2.2.1 b g2) f1 f2 h3 hdg h4
  | getstatic x =>
    obtain ⟨l0, l1, l2⟩ := hl
    match a, l0, l1, l2, hk with
    | 0, l0, _, _, hk => exact va_gets hx hb hB.2.2.2.2.2.2.2.1 hr.2.2.2.2.2.2 hown (hts _ (l0 rfl)) (fun _ h9 => h9) hdg (kk_K.on hk (hr.push ⟨1, rfl, rfl⟩))
    | 1, _, l1, _, hk =>
      have hk : kk_K p l e Rm s m args below meth c Q kc D A nL ws tys n1 n2 (pc + 3) L ((9, 0) :: st) w := hk
      rcases hB.2.2.2.2.2.2.2.2.2.2.2 with h | ⟨t, h⟩
      · exact va_gets hx hb h hr.2.2.2.2.2.2 hown (hts _ (l1 rfl)) (fun _ h9 => h9) hdg (hk.on (hr.push ⟨none, rfl⟩))
      · exact va_gets hx hb h hr.2.2.2.2.2.2 hown (hts _ (l1 rfl)) (fun _ h9 => h9) hdg (hk.on (hr.push ⟨some t, rfl⟩))
    | 2, _, _, l2, hk =>
      obtain ⟨e1, e2⟩ := l2 rfl
      subst e2
      rw [e1] at hown
      exact va_getsN hx hb hZ.1 hr.2.2.2.2.2.2 hown (hZ.2.use rfl) (fun _ h9 => h9) hdg (kk_K.on hk (hr.push rfl))
    | n + 3, _, _, _, hk => exact (show False from hk).elim
  | arraylength =>
    have hk : cond (Nat.beq a 1) (kk_lenS (pc + 1) L st w (kk_K p l e Rm s m args below meth c Q kc D A nL ws tys n1 n2)) (kk_len xc (pc + 1) L st w (kk_K p l e Rm s m args below meth c Q kc D A nL ws tys n1 n2)) := hk
    cases h0 : Nat.beq a 1 with
    | true =>
      rw [h0, cond_true] at hk
      unfold kk_lenS at hk
      split at hk
      · rename_i o r _
        have hq := kk_cond hk
        clear hk
        obtain ⟨ho, hk⟩ := hq
        rw [Bool.and_eq_true] at ho
        obtain ⟨va, sv2, rfl, hva, hr2⟩ := hr.pop
        have e1 := kk_v6 hva
        have e2 : 100 + (o.toNat - 100) = o.toNat := by have := Nat.le_of_ble_eq_true ho.1; omega
        rw [← e2] at e1
        subst e1
        obtain ⟨g1, g2, g3, g4⟩ := hB.2.2.2.2.2.2.1.1 (o.toNat - 100) (en_blt ho.2)
        exact va_tlen hx hb g4 hr2.2.2.2.2.2.2 rfl hdg (hk.on (hr2.push ⟨_, rfl, en_ofNat_toInt (en_slen_lt _)⟩))
      · exact hk.elim
    | false => rw [h0] at hk; exact kk_len_ok hx hb hX hdg hr hk
  | iaload => exact kk_ial_ok hx hb hX hdg hr hk
  | iastore =>
    have hk : kk_ias (pc + 1) L st w (kk_K p l e Rm s m args below meth c Q kc D A nL ws tys n1 n2) := hk
    unfold kk_ias at hk
    split at hk
    · exact kk_aso_ok (kd := 1) (tt := .int) (Or.inl ⟨rfl, rfl⟩) (fun h => absurd h (by decide)) hr (fun q q0 t0 cA n f i x rest h1 h2 h3 _ h5 => va_iast hx hb hr.2.2.2.1 hr.2.2.2.2.1 hr.2.2.2.2.2.1 hr.2.2.2.2.2.2 q0 t0 h1 h2 h3 hdg h5) hk
    · exact hk.elim
  | baload =>
    have hk : cond (Nat.beq a 1) (kk_byS (pc + 1) L st w (kk_K p l e Rm s m args below meth c Q kc D A nL ws tys n1 n2)) (kk_zal (pc + 1) L st w (kk_K p l e Rm s m args below meth c Q kc D A nL ws tys n1 n2)) := hk
    cases h0 : Nat.beq a 1 with
    | true =>
      rw [h0, cond_true] at hk
      unfold kk_byS at hk
      split at hk
      · rename_i i o r _
        have hq := kk_cond hk
        clear hk
        obtain ⟨ho, ⟨h1, h2⟩, hk⟩ := hq
        rw [Bool.and_eq_true] at ho
        obtain ⟨vi, sv1, rfl, hvi, hr1⟩ := hr.pop
        obtain ⟨va, sv2, rfl, hva, hr2⟩ := hr1.pop
        have e1 := kk_v6 hva
        have e2 : 100 + (o.toNat - 100) = o.toNat := by have := Nat.le_of_ble_eq_true ho.1; omega
        rw [← e2] at e1
        subst e1
        obtain ⟨x, rfl, ex, -⟩ := kk_v0 hvi
        obtain ⟨f1, f2, f3⟩ := kk_ix ex h1 h2
        obtain ⟨g1, g2, g3, g4⟩ := hB.2.2.2.2.2.2.1.1 (o.toNat - 100) (en_blt ho.2)
        refine va_tb hx hb g4 hr2.2.2.2.2.2.2 f1 rfl hdg (hk.on (hr2.push ⟨_, rfl, ?_⟩))
        rw [f2]
      · exact hk.elim
    | false =>
      rw [h0, cond_false] at hk
      unfold kk_zal at hk
      split at hk
      · exact kk_alo_ok (kd := 4) (tt := .boolean) (Or.inr ⟨rfl, rfl⟩) hr (fun q q0 t0 cA n f i rest h1 h2 h3 h4 => va_zald hx hb hr.2.2.2.1 hr.2.2.2.2.1 q0 t0 h1 h2 h3 hdg h4) hk
      · exact hk.elim
  | bastore =>
    have hk : kk_zas (pc + 1) L st w (kk_K p l e Rm s m args below meth c Q kc D A nL ws tys n1 n2) := hk
    unfold kk_zas at hk
    split at hk
    · exact kk_aso_ok (kd := 4) (tt := .boolean) (Or.inr ⟨rfl, rfl⟩) (fun _ => hk.1) hr (fun q q0 t0 cA n f i x rest h1 h2 h3 h01 h5 => va_zast hx hb hr.2.2.2.1 hr.2.2.2.2.1 hr.2.2.2.2.2.1 hr.2.2.2.2.2.2 q0 t0 h1 h2 h3 hdg (by
        have e0 : vp_nar .boolean x = x := by rcases h01 rfl with rfl | rfl <;> rfl
        rw [e0]
        exact h5)) hk.2
    · exact hk.elim
  | laload => exact kk_lal_ok hx hb hdg hr hk
  | lastore => exact kk_las_ok hx hb hdg hr hk
  | aaload => exact kk_aal_ok hx hb hdg hr hk
  | invokestatic x =>
    obtain ⟨f1, f2, f3⟩ := hl (hin x rfl)
    match a, f1, f2, f3, hk with
    | 0, f1, _, _, hk =>
      obtain ⟨g1, g2, g3, g4⟩ := f1 rfl
      exact kk_cpy_ok hx hb hml hts hown g1 g2 g3 g4 hfr hlo hdg hr hk
    | 1, _, f2, _, hk =>
      obtain ⟨g1, g2, g3, g4⟩ := f2 rfl
      have hsz : c.maxLocals = la.size := by
        obtain ⟨⟨lv, q1, -⟩, -⟩ := hr
        rw [hml, q1.1]
      exact kk_mm hr min _ kk_min32 (fun x y rest hs z => va_mmin hx hb hsz hown (hts _ g1) (hts _ g2) (hts _ g3) (hts _ g4) hfr (by omega) hn1 hn2 hdg z) hk
    | n + 2, _, _, f3, hk =>
      obtain ⟨g1, g2, g3, g4⟩ := f3 (by omega)
      have hsz : c.maxLocals = la.size := by
        obtain ⟨⟨lv, q1, -⟩, -⟩ := hr
        rw [hml, q1.1]
      exact kk_mm hr max _ kk_max32 (fun x y rest hs z => va_mmax hx hb hsz hown (hts _ g1) (hts _ g2) (hts _ g3) (hts _ g4) hfr (by omega) hn1 hn2 hdg z) hk
  | _ => exact (show False from hk).elim
end KKU
