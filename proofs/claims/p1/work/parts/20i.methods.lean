/-! THE ENGINE, 19i -/
def en_pl (t : en_T) : Bool := plainName (en_ty t).cls && Nat.ble (en_tl t) 45
theorem en_pl_ok : en_M.all en_pl = true := by decide +kernel
theorem en_w13 : ∀ a, a < en_M.length → en_wi (13, 0, 0, a, 0) = true ∧ en_wi (8, 0, 0, en_tn (en_mt a), 0) = true := by decide +kernel
theorem en_E_of {t : en_T} (hy : (en_ty t).cls = en_on (en_tn t)) (h : (en_te t).all (en_chkE t) = true) : en_Eok en_M t := fun q hq => en_chkE_ok hy (List.all_eq_true.mp h q hq)
def en_EA (t : en_T) : Prop := (en_te t).all (en_chkE t) = true
theorem en_fc {t : en_T} {r : List en_T} (h : en_EA t) (hr : ∀ q ∈ r, en_EA q) : ∀ q ∈ t :: r, en_EA q := List.forall_mem_cons.mpr ⟨h, hr⟩
def en_M0 : List en_T := [en_t_X10_init, en_t_X8_init, en_t_X6_init, en_t_J0_length_8abf5, en_t_J0_coder_7d493, en_t_J0_charAt_5068e, en_t_J0_isLatin1_aae02, en_t_J1_charAt_3b067, en_t_J0_checkIndex_df160, en_t_J3_checkIndex_8e157, en_t_X6_withLetter, en_t_X2_init, en_t_X4_init, en_t_X9_init, en_t_X3_init]
theorem en_EA0 : ∀ q ∈ en_M0, en_EA q := en_fc en_k_X10_init (en_fc en_k_X8_init (en_fc en_k_X6_init (en_fc en_k_J0_length_8abf5 (en_fc en_k_J0_coder_7d493 (en_fc en_k_J0_charAt_5068e (en_fc en_k_J0_isLatin1_aae02 (en_fc en_k_J1_charAt_3b067 (en_fc en_k_J0_checkIndex_df160 (en_fc en_k_J3_checkIndex_8e157 (en_fc en_k_X6_withLetter (en_fc en_k_X2_init (en_fc en_k_X4_init (en_fc en_k_X9_init (en_fc en_k_X3_init (fun _ h => absurd h List.not_mem_nil)))))))))))))))
def en_M1 : List en_T := [en_t_X7_init, en_t_X0_init, en_t_X5_init, en_t_X1_init, en_t_X11_init, en_t_X11_startSo, en_t_X10_feed, en_t_X8_addNumber, en_t_X8_addByte, en_t_X11_feed, en_t_X11_come, en_t_X10_end, en_t_X11_end, en_t_X10_house, en_t_X2_readFrom]
theorem en_EA1 : ∀ q ∈ en_M1, en_EA q := en_fc en_k_X7_init (en_fc en_k_X0_init (en_fc en_k_X5_init (en_fc en_k_X1_init (en_fc en_k_X11_init (en_fc en_k_X11_startSo (en_fc en_k_X10_feed (en_fc en_k_X8_addNumber (en_fc en_k_X8_addByte (en_fc en_k_X11_feed (en_fc en_k_X11_come (en_fc en_k_X10_end (en_fc en_k_X11_end (en_fc en_k_X10_house (en_fc en_k_X2_readFrom (fun _ h => absurd h List.not_mem_nil)))))))))))))))
def en_M2 : List en_T := [en_t_X2_clear, en_t_J7_fill_53178, en_t_J7_fill_d0a16, en_t_X6_begin, en_t_X6_step, en_t_X8_at, en_t_X6_isBlank, en_t_X2_copyFrom, en_t_X4_begin, en_t_X9_forget, en_t_X7_clear, en_t_X11_house, en_t_X11_begin, en_t_X11_take, en_t_X11_go]
theorem en_EA2 : ∀ q ∈ en_M2, en_EA q := en_fc en_k_X2_clear (en_fc en_k_J7_fill_53178 (en_fc en_k_J7_fill_d0a16 (en_fc en_k_X6_begin (en_fc en_k_X6_step (en_fc en_k_X8_at (en_fc en_k_X6_isBlank (en_fc en_k_X2_copyFrom (en_fc en_k_X4_begin (en_fc en_k_X9_forget (en_fc en_k_X7_clear (en_fc en_k_X11_house (en_fc en_k_X11_begin (en_fc en_k_X11_take (en_fc en_k_X11_go (fun _ h => absurd h List.not_mem_nil)))))))))))))))
def en_M3 : List en_T := [en_t_X10_fault, en_t_X11_fault, en_t_L_chapter, en_t_X10_chapter, en_t_X2_has, en_t_X11_chapter, en_t_X11_isChapter, en_t_X11_isIn, en_t_X11_refuse, en_t_X11_thrown, en_t_L_monk, en_t_X10_monk, en_t_X11_monk, en_t_X11_isMonk, en_t_X10_left]
theorem en_EA3 : ∀ q ∈ en_M3, en_EA q := en_fc en_k_X10_fault (en_fc en_k_X11_fault (en_fc en_k_L_chapter (en_fc en_k_X10_chapter (en_fc en_k_X2_has (en_fc en_k_X11_chapter (en_fc en_k_X11_isChapter (en_fc en_k_X11_isIn (en_fc en_k_X11_refuse (en_fc en_k_X11_thrown (en_fc en_k_L_monk (en_fc en_k_X10_monk (en_fc en_k_X11_monk (en_fc en_k_X11_isMonk (en_fc en_k_X10_left (fun _ h => absurd h List.not_mem_nil)))))))))))))))
def en_M4 : List en_T := [en_t_X11_left, en_t_X10_now, en_t_X4_mustToday, en_t_X4_barredToday, en_t_X4_slipsInBox, en_t_X4_allPenances, en_t_X4_allWorkLeft, en_t_X11_now, en_t_X11_mustNow, en_t_X11_holds, en_t_X11_barredNow, en_t_X11_inBox, en_t_X11_sum, en_t_X10_draw, en_t_X4_whyNoDraw]
theorem en_EA4 : ∀ q ∈ en_M4, en_EA q := en_fc en_k_X11_left (en_fc en_k_X10_now (en_fc en_k_X4_mustToday (en_fc en_k_X4_barredToday (en_fc en_k_X4_slipsInBox (en_fc en_k_X4_allPenances (en_fc en_k_X4_allWorkLeft (en_fc en_k_X11_now (en_fc en_k_X11_mustNow (en_fc en_k_X11_holds (en_fc en_k_X11_barredNow (en_fc en_k_X11_inBox (en_fc en_k_X11_sum (en_fc en_k_X10_draw (en_fc en_k_X4_whyNoDraw (fun _ h => absurd h List.not_mem_nil)))))))))))))))
def en_M5 : List en_T := [en_t_X2_hasNoChapters, en_t_X11_draw, en_t_X11_why, en_t_X11_whyNone, en_t_X10_fold, en_t_X11_fold, en_t_X10_does, en_t_X11_does, en_t_X10_night, en_t_X11_night, en_t_X10_days, en_t_X10_isWithin, en_t_X11_days, en_t_X10_undo, en_t_X9_giveBack]
theorem en_EA5 : ∀ q ∈ en_M5, en_EA q := en_fc en_k_X2_hasNoChapters (en_fc en_k_X11_draw (en_fc en_k_X11_why (en_fc en_k_X11_whyNone (en_fc en_k_X10_fold (en_fc en_k_X11_fold (en_fc en_k_X10_does (en_fc en_k_X11_does (en_fc en_k_X10_night (en_fc en_k_X11_night (en_fc en_k_X10_days (en_fc en_k_X10_isWithin (en_fc en_k_X11_days (en_fc en_k_X10_undo (en_fc en_k_X9_giveBack (fun _ h => absurd h List.not_mem_nil)))))))))))))))
def en_M6 : List en_T := [en_t_X11_undo, en_t_X10_free, en_t_X2_freeDeeds, en_t_X11_free, en_t_X11_allDeeds, en_t_X11_barredEver, en_t_X10_quarrels, en_t_X11_quarrels, en_t_X10_cover, en_t_X2_leastCover, en_t_X2_mustByAny, en_t_J6_bitCount_0f7a4, en_t_X11_cover, en_t_X11_mustBy, en_t_X11_has]
theorem en_EA6 : ∀ q ∈ en_M6, en_EA q := en_fc en_k_X11_undo (en_fc en_k_X10_free (en_fc en_k_X2_freeDeeds (en_fc en_k_X11_free (en_fc en_k_X11_allDeeds (en_fc en_k_X11_barredEver (en_fc en_k_X10_quarrels (en_fc en_k_X11_quarrels (en_fc en_k_X10_cover (en_fc en_k_X2_leastCover (en_fc en_k_X2_mustByAny (en_fc en_k_J6_bitCount_0f7a4 (en_fc en_k_X11_cover (en_fc en_k_X11_mustBy (en_fc en_k_X11_has (fun _ h => absurd h List.not_mem_nil)))))))))))))))
def en_M7 : List en_T := [en_t_X11_bits, en_t_X10_covering, en_t_X11_covering, en_t_L_allowed, en_t_X10_allowed, en_t_X11_allowed, en_t_X11_isDeed, en_t_L_finish, en_t_X10_finish, en_t_X11_finish, en_t_X10_most, en_t_X11_most, en_t_X10_mostAt, en_t_X11_mostAt, en_t_X10_fair]
theorem en_EA7 : ∀ q ∈ en_M7, en_EA q := en_fc en_k_X11_bits (en_fc en_k_X10_covering (en_fc en_k_X11_covering (en_fc en_k_L_allowed (en_fc en_k_X10_allowed (en_fc en_k_X11_allowed (en_fc en_k_X11_isDeed (en_fc en_k_L_finish (en_fc en_k_X10_finish (en_fc en_k_X11_finish (en_fc en_k_X10_most (en_fc en_k_X11_most (en_fc en_k_X10_mostAt (en_fc en_k_X11_mostAt (en_fc en_k_X10_fair (fun _ h => absurd h List.not_mem_nil)))))))))))))))
def en_M8 : List en_T := [en_t_X5_tellsDraws, en_t_X11_fair, en_t_L_chance, en_t_X10_chance, en_t_X11_chance, en_t_X10_fits, en_t_X2_tellsDeeds, en_t_X11_fits, en_t_X10_watch, en_t_X11_watch, en_t_X10_waits, en_t_X11_waits, en_t_X10_ago, en_t_X4_drawnAgo, en_t_X11_ago]
theorem en_EA8 : ∀ q ∈ en_M8, en_EA q := en_fc en_k_X5_tellsDraws (en_fc en_k_X11_fair (en_fc en_k_L_chance (en_fc en_k_X10_chance (en_fc en_k_X11_chance (en_fc en_k_X10_fits (en_fc en_k_X2_tellsDeeds (en_fc en_k_X11_fits (en_fc en_k_X10_watch (en_fc en_k_X11_watch (en_fc en_k_X10_waits (en_fc en_k_X11_waits (en_fc en_k_X10_ago (en_fc en_k_X4_drawnAgo (en_fc en_k_X11_ago (fun _ h => absurd h List.not_mem_nil)))))))))))))))
def en_M9 : List en_T := [en_t_X10_notice, en_t_X8_addText, en_t_X11_notice, en_t_X11_spelt, en_t_X11_writeWord, en_t_X11_write, en_t_X11_writeNext, en_t_X10_byteAt, en_t_X11_byteAt, en_t_X10_odds, en_t_X11_odds, en_t_X10_book, en_t_X0_readFrom, en_t_X4_copyFrom, en_t_X0_judge]
theorem en_EA9 : ∀ q ∈ en_M9, en_EA q := en_fc en_k_X10_notice (en_fc en_k_X8_addText (en_fc en_k_X11_notice (en_fc en_k_X11_spelt (en_fc en_k_X11_writeWord (en_fc en_k_X11_write (en_fc en_k_X11_writeNext (en_fc en_k_X10_byteAt (en_fc en_k_X11_byteAt (en_fc en_k_X10_odds (en_fc en_k_X11_odds (en_fc en_k_X10_book (en_fc en_k_X0_readFrom (en_fc en_k_X4_copyFrom (en_fc en_k_X0_judge (fun _ h => absurd h List.not_mem_nil)))))))))))))))
def en_M10 : List en_T := [en_t_X9_keep, en_t_X11_book, en_t_X11_layAside, en_t_X11_stay, en_t_X10_told, en_t_X11_told, en_t_X10_sentence, en_t_X7_readFrom, en_t_X7_readCondition, en_t_X7_readAll, en_t_X7_readOne, en_t_X7_beginsOne, en_t_X6_refuse, en_t_X11_sentence, en_t_X11_readOr]
theorem en_EA10 : ∀ q ∈ en_M10, en_EA q := en_fc en_k_X9_keep (en_fc en_k_X11_book (en_fc en_k_X11_layAside (en_fc en_k_X11_stay (en_fc en_k_X10_told (en_fc en_k_X11_told (en_fc en_k_X10_sentence (en_fc en_k_X7_readFrom (en_fc en_k_X7_readCondition (en_fc en_k_X7_readAll (en_fc en_k_X7_readOne (en_fc en_k_X7_beginsOne (en_fc en_k_X6_refuse (en_fc en_k_X11_sentence (en_fc en_k_X11_readOr (fun _ h => absurd h List.not_mem_nil)))))))))))))))
def en_M11 : List en_T := [en_t_X11_readAnd, en_t_X11_readSaid, en_t_X11_isSign, en_t_X11_isWord, en_t_X11_bad, en_t_X10_said, en_t_X11_said, en_t_X10_image, en_t_X10_imageAt, en_t_X7_copyFrom, en_t_X11_image, en_t_X10_restore, en_t_X11_restore, en_t_X10_count, en_t_X11_count]
theorem en_EA11 : ∀ q ∈ en_M11, en_EA q := en_fc en_k_X11_readAnd (en_fc en_k_X11_readSaid (en_fc en_k_X11_isSign (en_fc en_k_X11_isWord (en_fc en_k_X11_bad (en_fc en_k_X10_said (en_fc en_k_X11_said (en_fc en_k_X10_image (en_fc en_k_X10_imageAt (en_fc en_k_X7_copyFrom (en_fc en_k_X11_image (en_fc en_k_X10_restore (en_fc en_k_X11_restore (en_fc en_k_X10_count (en_fc en_k_X11_count (fun _ h => absurd h List.not_mem_nil)))))))))))))))
set_option maxRecDepth 100000 in
theorem en_Mcut : en_M = en_M0 ++ (en_M1 ++ (en_M2 ++ (en_M3 ++ (en_M4 ++ (en_M5 ++ (en_M6 ++ (en_M7 ++ (en_M8 ++ (en_M9 ++ (en_M10 ++ (en_M11))))))))))) := rfl
theorem en_Eall : ∀ t ∈ en_M, (en_te t).all (en_chkE t) = true := by
  rw [en_Mcut]
  exact List.forall_mem_append.mpr ⟨en_EA0, List.forall_mem_append.mpr ⟨en_EA1, List.forall_mem_append.mpr ⟨en_EA2, List.forall_mem_append.mpr ⟨en_EA3, List.forall_mem_append.mpr ⟨en_EA4, List.forall_mem_append.mpr ⟨en_EA5, List.forall_mem_append.mpr ⟨en_EA6, List.forall_mem_append.mpr ⟨en_EA7, List.forall_mem_append.mpr ⟨en_EA8, List.forall_mem_append.mpr ⟨en_EA9, List.forall_mem_append.mpr ⟨en_EA10, en_EA11⟩⟩⟩⟩⟩⟩⟩⟩⟩⟩⟩
theorem en_hM : ∀ t ∈ en_M, en_Mok en_M t := by
  intro t ht
  obtain ⟨a, ha, e0⟩ := List.getElem_of_mem ht
  have hg : en_M[a]? = some t := by rw [List.getElem?_eq_getElem ha, e0]
  have hm := en_mt_of hg
  have hon := en_on_ok a ha
  rw [hm] at hon
  have h1 := List.all_eq_true.mp en_pl_ok t ht
  unfold en_pl at h1
  rw [Bool.and_eq_true] at h1
  obtain ⟨w1, w2⟩ := en_w13 a ha
  have v1 := en_wi_ok w1
  have v2 := en_wi_ok w2
  simp only [en_wf, hm] at v1 v2
  exact ⟨h1.1, v1, by rw [hon]; exact v2, Nat.le_of_ble_eq_true h1.2, en_E_of hon (en_Eall t ht)⟩
def en_n9 (t : en_T) : Bool := (en_te t).all (fun q => cond (Nat.beq (en_kind q.2.2.1 q.2.2.2.2.2) 3) (Nat.beq q.2.2.2.2.2 9) true)
theorem en_n9_ok : en_M.all en_n9 = true := by decide +kernel
theorem en_h9 : ∀ t ∈ en_M, ∀ q ∈ en_te t, en_kind q.2.2.1 q.2.2.2.2.2 = 3 → q.2.2.2.2.2 = 9 := by
  intro t ht q hq h3
  have h1 := List.all_eq_true.mp en_n9_ok t ht
  have h2 := List.all_eq_true.mp h1 q hq
  rw [h3] at h2
  exact Nat.eq_of_beq_eq_true h2
theorem en_lawE : en_Eok en_M en_t_L_law := en_E_of rfl en_k_L_law
