/-! THE CALCULUS, 7: a step asks no less of what holds behind it than that -/
abbrev kk_Mn (K K' : kk_Q) : Prop := ∀ (pc : Nat) (L : en_L) (st : List en_V) (w : List kk_C), K pc L st w → K' pc L st w
section KKM
variable {K K' : kk_Q} {nL nx pc : Nat} {xc : kk_X} {L : en_L} {st : List en_V} {w : List kk_C}
theorem kk_ib_m (hm : kk_Mn K K') {k : Nat} (h : kk_ib k nx L st w K) : kk_ib k nx L st w K' := by
  unfold kk_ib at h ⊢
  split at h
  · exact hm _ _ _ _ h
  · exact h.elim
theorem kk_lb_m (hm : kk_Mn K K') {k : Nat} (h : kk_lb k nx L st w K) : kk_lb k nx L st w K' := by
  unfold kk_lb at h ⊢
  split at h
  · exact hm _ _ _ _ h
  · exact h.elim
theorem kk_ls_m (hm : kk_Mn K K') {k : Nat} (h : kk_ls k nx L st w K) : kk_ls k nx L st w K' := by
  unfold kk_ls at h ⊢
  split at h
  · exact hm _ _ _ _ h
  · exact h.elim
theorem kk_id_m (hm : kk_Mn K K') {k : Nat} (h : kk_id k nx L st w K) : kk_id k nx L st w K' := by
  unfold kk_id at h ⊢
  split at h
  · exact ⟨h.1, hm _ _ _ _ h.2⟩
  · exact h.elim
theorem kk_ld_m (hm : kk_Mn K K') {k : Nat} (h : kk_ld k nx L st w K) : kk_ld k nx L st w K' := by
  unfold kk_ld at h ⊢
  split at h
  · exact ⟨h.1, hm _ _ _ _ h.2⟩
  · exact h.elim
theorem kk_cond_m {b : Bool} {P P' : Prop} (hp : P → P') (h : cond b P False) : cond b P' False := by
  cases b with
  | false => exact h
  | true => exact hp h
theorem kk_cond2_m {b : Bool} {P P' : Prop} (hp : P → P') (h : cond b False P) : cond b False P' := by
  cases b with
  | false => exact hp h
  | true => exact h
theorem kk_ldv_m (hm : kk_Mn K K') {kd : Nat} {v : Option en_V} (h : kk_ldv kd nx L st w K v) : kk_ldv kd nx L st w K' v := by
  unfold kk_ldv at h ⊢
  split at h <;> first | exact hm _ _ _ _ h | exact h.elim
theorem kk_stv_m (hm : kk_Mn K K') {kd i : Nat} (h : kk_stv kd i nx nL L st w K) : kk_stv kd i nx nL L st w K' := by
  unfold kk_stv at h ⊢
  split at h <;> first | exact kk_cond_m (hm _ _ _ _) h | exact h.elim
theorem kk_inc_m (hm : kk_Mn K K') {i : Nat} {n : Int} (h : kk_inc i n nx nL L st w K) : kk_inc i n nx nL L st w K' := by
  unfold kk_inc at h ⊢
  split at h <;> first | exact kk_cond_m (hm _ _ _ _) h | exact h.elim
theorem kk_if1_m (hm : kk_Mn K K') {c : ClassFile.Cond} {t : Nat} (h : kk_if1 c t nx L st w K) : kk_if1 c t nx L st w K' := by
  unfold kk_if1 at h ⊢
  split at h
  · exact ⟨fun g => hm _ _ _ _ (h.1 g), fun g => hm _ _ _ _ (h.2 g)⟩
  · exact h.elim
theorem kk_if2_m (hm : kk_Mn K K') {c : ClassFile.Cond} {t : Nat} (h : kk_if2 c t nx L st w K) : kk_if2 c t nx L st w K' := by
  unfold kk_if2 at h ⊢
  split at h
  · exact ⟨fun g => hm _ _ _ _ (h.1 g), fun g => hm _ _ _ _ (h.2 g)⟩
  · exact h.elim
theorem kk_ifn_m (hm : kk_Mn K K') {nn : Bool} {t : Nat} (h : kk_ifn nn t nx L st w K) : kk_ifn nn t nx L st w K' := by
  unfold kk_ifn at h ⊢
  split at h <;> first | exact hm _ _ _ _ h | exact h.elim
theorem kk_tab_m (hm : kk_Mn K K') {x : Int} {r : List en_V} : ∀ {os : List Int} {k : Int}, kk_tab pc x L r w K k os → kk_tab pc x L r w K' k os
  | [], _, _ => trivial
  | _ :: _, _, h => ⟨fun g => hm _ _ _ _ (h.1 g), kk_tab_m hm h.2⟩
theorem kk_sw_m (hm : kk_Mn K K') {d lo hi : Int} {os : List Int} (h : kk_sw pc d lo hi os L st w K) : kk_sw pc d lo hi os L st w K' := by
  unfold kk_sw at h ⊢
  split at h
  · exact kk_cond_m (fun h => ⟨fun g => hm _ _ _ _ (h.1 g), kk_tab_m hm h.2⟩) h
  · exact h.elim
theorem kk_lkp_m (hm : kk_Mn K K') {x d : Int} {r : List en_V} : ∀ {os : List (Int × Int)}, kk_lkp pc x d L r w K os → kk_lkp pc x d L r w K' os
  | [], h => hm _ _ _ _ h
  | _ :: _, h => ⟨fun g => hm _ _ _ _ (h.1 g), fun g => kk_lkp_m hm (h.2 g)⟩
theorem kk_lks_m (hm : kk_Mn K K') {d : Int} {os : List (Int × Int)} (h : kk_lks pc d os L st w K) : kk_lks pc d os L st w K' := by
  unfold kk_lks at h ⊢
  split at h
  · exact kk_cond_m (kk_lkp_m hm) h
  · exact h.elim
theorem kk_gf_m (hm : kk_Mn K K') {a b : Nat} (h : kk_gf a b nx L st w K) : kk_gf a b nx L st w K' := by
  unfold kk_gf kk_gfo at h ⊢
  split at h
  · split at h
    · refine kk_cond_m (fun h => ?_) h
      split at h
      · exact hm _ _ _ _ h
      · exact h.elim
    · exact h.elim
  · exact h.elim
theorem kk_gfS_m (hm : kk_Mn K K') {b : Nat} (h : kk_gfS b nx L st w K) : kk_gfS b nx L st w K' := by
  unfold kk_gfS at h ⊢
  split at h
  · refine kk_cond_m (fun h => ?_) h
    split at h <;> exact hm _ _ _ _ h
  · exact h.elim
theorem kk_fit_m {k : Nat} {v : en_V} {P P' : Prop} (hp : P → P') (h : kk_fit k v P) : kk_fit k v P' := by
  unfold kk_fit at h ⊢
  split at h <;> first | exact hp h | exact ⟨h.1, hp h.2⟩ | exact h.elim
theorem kk_pf_m (hm : kk_Mn K K') {a b k : Nat} (h : kk_pf a b k nx L st w K) : kk_pf a b k nx L st w K' := by
  unfold kk_pf kk_pfo at h ⊢
  split at h
  · split at h
    · exact kk_cond_m (kk_fit_m (hm _ _ _ _)) h
    · exact h.elim
  · exact h.elim
theorem kk_alo_m (hm : kk_Mn K K') {kd : Nat} {i : Int} {r : List en_V} {c : Option kk_C} (h : kk_alo kd i nx L r w K c) : kk_alo kd i nx L r w K' c := by
  unfold kk_alo at h ⊢
  split at h
  · exact kk_cond_m (fun h => ⟨h.1, hm _ _ _ _ h.2⟩) h
  · exact h.elim
theorem kk_ial_m (hm : kk_Mn K K') (h : kk_ial xc nx L st w K) : kk_ial xc nx L st w K' := by
  unfold kk_ial at h ⊢
  split at h
  · exact kk_alo_m hm h
  · unfold kk_xlo at h ⊢
    split at h
    · exact ⟨h.1, hm _ _ _ _ h.2⟩
    · exact h.elim
  · exact h.elim
theorem kk_zal_m (hm : kk_Mn K K') (h : kk_zal nx L st w K) : kk_zal nx L st w K' := by
  unfold kk_zal at h ⊢
  split at h
  · exact kk_alo_m hm h
  · exact h.elim
theorem kk_byS_m (hm : kk_Mn K K') (h : kk_byS nx L st w K) : kk_byS nx L st w K' := by
  unfold kk_byS at h ⊢
  split at h
  · exact kk_cond_m (fun h => ⟨h.1, hm _ _ _ _ h.2⟩) h
  · exact h.elim
theorem kk_lal_m (hm : kk_Mn K K') (h : kk_lal nx L st w K) : kk_lal nx L st w K' := by
  unfold kk_lal at h ⊢
  split at h
  · split at h
    · exact ⟨h.1, hm _ _ _ _ h.2⟩
    · exact h.elim
  · exact h.elim
theorem kk_aal_m (hm : kk_Mn K K') (h : kk_aal nx L st w K) : kk_aal nx L st w K' := by
  unfold kk_aal at h ⊢
  split at h
  · split at h
    · exact ⟨h.1, fun v hv => hm _ _ _ _ (h.2 v hv)⟩
    · exact h.elim
  · exact h.elim
theorem kk_aso_m (hm : kk_Mn K K') {kd o : Nat} {v i : Int} {r : List en_V} {c : Option kk_C} (h : kk_aso kd v i o nx L r w K c) : kk_aso kd v i o nx L r w K' c := by
  unfold kk_aso at h ⊢
  split at h
  · exact kk_cond_m (fun h => ⟨h.1, hm _ _ _ _ h.2⟩) h
  · exact h.elim
theorem kk_ias_m (hm : kk_Mn K K') (h : kk_ias nx L st w K) : kk_ias nx L st w K' := by
  unfold kk_ias at h ⊢
  split at h
  · exact kk_aso_m hm h
  · exact h.elim
theorem kk_zas_m (hm : kk_Mn K K') (h : kk_zas nx L st w K) : kk_zas nx L st w K' := by
  unfold kk_zas at h ⊢
  split at h
  · exact ⟨h.1, kk_aso_m hm h.2⟩
  · exact h.elim
theorem kk_las_m (hm : kk_Mn K K') (h : kk_las nx L st w K) : kk_las nx L st w K' := by
  unfold kk_las at h ⊢
  split at h
  · split at h
    · exact ⟨h.1, hm _ _ _ _ h.2⟩
    · exact h.elim
  · exact h.elim
theorem kk_len_m (hm : kk_Mn K K') (h : kk_len xc nx L st w K) : kk_len xc nx L st w K' := by
  unfold kk_len at h ⊢
  split at h
  · split at h <;> first | exact kk_cond_m (hm _ _ _ _) h | exact h.elim
  · split at h <;> first | exact hm _ _ _ _ h | exact h.elim
  · exact h.elim
theorem kk_lenS_m (hm : kk_Mn K K') (h : kk_lenS nx L st w K) : kk_lenS nx L st w K' := by
  unfold kk_lenS at h ⊢
  split at h
  · exact kk_cond_m (hm _ _ _ _) h
  · exact h.elim
theorem kk_cpy_m (hm : kk_Mn K K') (h : kk_cpy nx L st w K) : kk_cpy nx L st w K' := by
  unfold kk_cpy kk_cpo at h ⊢
  split at h
  · split at h <;> first | exact ⟨h.1, hm _ _ _ _ h.2⟩ | exact h.elim
  · exact h.elim
theorem kk_min_m (hm : kk_Mn K K') (h : kk_min nx L st w K) : kk_min nx L st w K' := by
  unfold kk_min kk_mm2 at h ⊢
  split at h
  · exact kk_cond_m (hm _ _ _ _) h
  · exact h.elim
theorem kk_max_m (hm : kk_Mn K K') (h : kk_max nx L st w K) : kk_max nx L st w K' := by
  unfold kk_max kk_mm2 at h ⊢
  split at h
  · exact kk_cond_m (hm _ _ _ _) h
  · exact h.elim
theorem kk_condb_m {b : Bool} {P Q P' Q' : Prop} (hp : P → P') (hq : Q → Q') (h : cond b P Q) : cond b P' Q' := by
  cases b with
  | false => exact hq h
  | true => exact hp h
set_option maxHeartbeats 4000000 in
theorem kk_stp_m (hm : kk_Mn K K') {i : Instr} {a b k : Nat} (h : kk_stp nL xc pc nx i a b k L st w K) : kk_stp nL xc pc nx i a b k L st w K' := by
  cases i with
  | iconst n => exact kk_cond_m (hm _ _ _ _) h
  | bipush n => exact kk_cond_m (hm _ _ _ _) h
  | sipush n => exact kk_cond_m (hm _ _ _ _) h
  | lconst n => exact hm _ _ _ _ h
  | ldc x => exact hm _ _ _ _ h
  | ldc_w x => exact kk_condb_m (kk_cond_m (hm _ _ _ _)) (hm _ _ _ _) h
  | ldc2_w x => exact kk_cond_m (hm _ _ _ _) h
  | aconst_null => exact hm _ _ _ _ h
  | iload_n j => exact kk_ldv_m hm h
  | iload j => exact kk_ldv_m hm h
  | lload_n j => exact kk_ldv_m hm h
  | lload j => exact kk_ldv_m hm h
  | aload_n j => exact kk_ldv_m hm h
  | aload j => exact kk_ldv_m hm h
  | istore_n j => exact kk_stv_m hm h
  | istore j => exact kk_stv_m hm h
  | lstore_n j => exact kk_stv_m hm h
  | lstore j => exact kk_stv_m hm h
  | astore_n j => exact kk_stv_m hm h
  | astore j => exact kk_stv_m hm h
  | iinc j n => exact kk_inc_m hm h
  | iadd => exact kk_ib_m hm h
  | isub => exact kk_ib_m hm h
  | imul => exact kk_ib_m hm h
  | iand => exact kk_ib_m hm h
  | ior => exact kk_ib_m hm h
  | ixor => exact kk_ib_m hm h
  | ishl => exact kk_ib_m hm h
  | ishr => exact kk_ib_m hm h
  | iushr => exact kk_ib_m hm h
  | idiv => exact kk_id_m hm h
  | irem => exact kk_id_m hm h
  | ladd => exact kk_lb_m hm h
  | lsub => exact kk_lb_m hm h
  | lmul => exact kk_lb_m hm h
  | land => exact kk_lb_m hm h
  | lor => exact kk_lb_m hm h
  | lxor => exact kk_lb_m hm h
  | ldiv => exact kk_ld_m hm h
  | lrem => exact kk_ld_m hm h
  | lshl => exact kk_ls_m hm h
  | lushr => exact kk_ls_m hm h
  | lshr => exact kk_ls_m hm h
  | ifCond c o => exact kk_if1_m hm h
  | if_icmp c o => exact kk_if2_m hm h
  | goto o => exact hm _ _ _ _ h
  | ifnull o => exact kk_ifn_m hm h
  | ifnonnull o => exact kk_ifn_m hm h
  | tableswitch d lo hi os => exact kk_sw_m hm h
  | lookupswitch d os => exact kk_lks_m hm h
  | getfield x => exact kk_condb_m (kk_gf_m hm) (kk_gfS_m hm) h
  | putfield x => exact kk_pf_m hm h
  | arraylength => exact kk_condb_m (kk_lenS_m hm) (kk_len_m hm) h
  | iaload => exact kk_ial_m hm h
  | iastore => exact kk_ias_m hm h
  | baload => exact kk_condb_m (kk_byS_m hm) (kk_zal_m hm) h
  | bastore => exact kk_zas_m hm h
  | laload => exact kk_lal_m hm h
  | lastore => exact kk_las_m hm h
  | aaload => exact kk_aal_m hm h
  | lcmp =>
    unfold kk_stp at h ⊢
    dsimp only at h ⊢
    split at h
    · exact hm _ _ _ _ h
    · exact h.elim
  | i2l =>
    unfold kk_stp at h ⊢
    dsimp only at h ⊢
    split at h
    · exact hm _ _ _ _ h
    · exact h.elim
  | l2i =>
    unfold kk_stp at h ⊢
    dsimp only at h ⊢
    split at h
    · exact hm _ _ _ _ h
    · exact h.elim
  | i2c =>
    unfold kk_stp at h ⊢
    dsimp only at h ⊢
    split at h
    · exact hm _ _ _ _ h
    · exact h.elim
  | dup =>
    unfold kk_stp at h ⊢
    dsimp only at h ⊢
    split at h
    · exact kk_cond2_m (hm _ _ _ _) h
    · exact h.elim
  | dup2 =>
    unfold kk_stp at h ⊢
    dsimp only at h ⊢
    split at h
    · exact kk_cond2_m (hm _ _ _ _) h
    · exact h.elim
  | pop =>
    unfold kk_stp at h ⊢
    dsimp only at h ⊢
    split at h
    · exact kk_cond2_m (hm _ _ _ _) h
    · exact h.elim
  | getstatic x =>
    unfold kk_stp at h ⊢
    dsimp only at h ⊢
    split at h <;> first | exact hm _ _ _ _ h | exact h.elim
  | invokestatic x =>
    unfold kk_stp at h ⊢
    dsimp only at h ⊢
    split at h
    · exact kk_cpy_m hm h
    · exact kk_min_m hm h
    · exact kk_max_m hm h
  | _ => exact (show False from h).elim
end KKM
