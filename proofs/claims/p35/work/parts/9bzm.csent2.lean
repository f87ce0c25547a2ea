/-! SENTENCES: the class's call -/
set_option maxRecDepth 100000 in
set_option maxHeartbeats 4000000 in
theorem sh_xReadFrom (l : Launch) (d : Nat) (T Bt : Nat → Int) {tn : Int} {a : Int → Int} {res : Nat → Int} (O A : Nat → Nat → Int) (hR : hr_J T Bt res (cc_in pX O) (cc_in pX A)) (ht : rt 13 14 15 tn a res O A) : kk_Ctr l (d + 32) en_t_X7_readFrom [(4, 0), (4, 12), (4, 5)] (cx_SHR O A) (fun rs w' => ∃ O' A', w' = cx_SHR O' A' ∧ ∃ r, sh_J T Bt res O A O' A' ∧ sE tn 200 a res A 0 0 (tk_sk a 940 0) 0 r ∧ ((∃ e, sn_top (tk_ob tn 200 a res) r = .error e ∧ rs = [(0, 0)] ∧ O' 12 9 = e.1 ∧ O' 12 10 = e.2) ∨ (∃ k, sn_top (tk_ob tn 200 a res) r = .ok k ∧ rs = [(0, 1)] ∧ O' 12 9 = 0 ∧ O' 0 5 = k))) := by
  refine kk_ctr en_hM (List.mem_of_getElem? (i := 136) rfl) rfl (Nat.le_of_ble_eq_true rfl) (fun K hC => ?_)
  repeat' first | refine hC.gw [] _ rfl rfl ?_ | refine And.intro ?_ ?_ | exact True.intro | refine hC.iadd [] rfl rfl (by first | omega | (simp only [Int.reduceToNat] at *; omega)) ?_ | refine hC.isub [] rfl rfl (by first | omega | (simp only [Int.reduceToNat] at *; omega)) ?_ | refine hC.imul [] rfl rfl (by first | omega | (simp only [Int.reduceToNat] at *; omega)) ?_ | refine hC.iinc [] rfl rfl rfl rfl (by first | omega | (simp only [Int.reduceToNat] at *; omega)) ?_ | refine hC.pfw (W := cx_SHR) [] rfl rfl rfl rfl rfl rfl ?_ ?_ | refine hC.iaw (W := cx_SHR) [] rfl rfl rfl rfl ?_ ?_ | refine hC.law (W := cx_SHR) [] rfl rfl rfl rfl ?_ ?_ | refine hC.cpw (W := cx_SHR) [] rfl rfl rfl rfl rfl rfl ?_ | refine hC.cpl (W := cx_SHR) [] rfl rfl rfl rfl rfl rfl ?_ | refine hC.go [] _ rfl rfl ?_ | (intro h; first | exact (h rfl).elim | (exfalso; cases h; done) | (dsimp only [kk_cP, kk_cN] at h) | skip)
  refine hC.at ce_SHR_S (ss_clear l _ _ _) rfl rfl rfl rfl rfl rfl (Nat.le_refl _) ?_
  rintro rs O1 A1 ⟨rfl, hI1, e5, e4⟩
  have hJ1 : sh_J T Bt res O A (cc_out O1 O [0, 1, 2, 3, 4] 0) (cc_out A1 A [0, 1, 2, 3, 4] 0) := by
    refine ⟨⟨hI1, (show 0 ≤ O1 0 5 by omega)⟩, hR, fun p h1 h2 => ?_⟩
    rw [cc_out_out (by simp; omega), cc_out_out (by simp; omega)]
    exact ⟨rfl, rfl⟩
  have ht1 : rt 13 14 15 tn a res (cc_out O1 O [0, 1, 2, 3, 4] 0) (cc_out A1 A [0, 1, 2, 3, 4] 0) := ht
  have h5 : cc_out O1 O [0, 1, 2, 3, 4] 0 0 5 = 0 := (show O1 0 5 = 0 by omega)
  generalize cc_out O1 O [0, 1, 2, 3, 4] 0 = O2 at hJ1 ht1 h5 ⊢
  generalize cc_out A1 A [0, 1, 2, 3, 4] 0 = A2 at hJ1 ht1 ⊢
  repeat' first | refine hC.gw [] _ rfl rfl ?_ | refine And.intro ?_ ?_ | exact True.intro | refine hC.iadd [] rfl rfl (by first | omega | (simp only [Int.reduceToNat] at *; omega)) ?_ | refine hC.isub [] rfl rfl (by first | omega | (simp only [Int.reduceToNat] at *; omega)) ?_ | refine hC.imul [] rfl rfl (by first | omega | (simp only [Int.reduceToNat] at *; omega)) ?_ | refine hC.iinc [] rfl rfl rfl rfl (by first | omega | (simp only [Int.reduceToNat] at *; omega)) ?_ | refine hC.pfw (W := cx_SHR) [] rfl rfl rfl rfl rfl rfl ?_ ?_ | refine hC.iaw (W := cx_SHR) [] rfl rfl rfl rfl ?_ ?_ | refine hC.law (W := cx_SHR) [] rfl rfl rfl rfl ?_ ?_ | refine hC.cpw (W := cx_SHR) [] rfl rfl rfl rfl rfl rfl ?_ | refine hC.cpl (W := cx_SHR) [] rfl rfl rfl rfl rfl rfl ?_ | refine hC.go [] _ rfl rfl ?_ | (intro h; first | exact (h rfl).elim | (exfalso; cases h; done) | (dsimp only [kk_cP, kk_cN] at h) | skip)
  refine rx_begin (d' := 0) hC ce_SHR_R rfl 200 ht1 (by omega) rfl rfl rfl rfl rfl ?_
  intro r3 f9 f10 hr3
  have hJ3 := hJ1.rd r3
  have h53 : mm_up O2 12 r3 0 5 = 0 := h5
  generalize mm_up O2 12 r3 = O3 at hJ3 hr3 h53 ⊢
  clear hJ1 ht1 h5
  repeat' first | refine hC.gw [] _ rfl rfl ?_ | refine And.intro ?_ ?_ | exact True.intro | refine hC.iadd [] rfl rfl (by first | omega | (simp only [Int.reduceToNat] at *; omega)) ?_ | refine hC.isub [] rfl rfl (by first | omega | (simp only [Int.reduceToNat] at *; omega)) ?_ | refine hC.imul [] rfl rfl (by first | omega | (simp only [Int.reduceToNat] at *; omega)) ?_ | refine hC.iinc [] rfl rfl rfl rfl (by first | omega | (simp only [Int.reduceToNat] at *; omega)) ?_ | refine hC.pfw (W := cx_SHR) [] rfl rfl rfl rfl rfl rfl ?_ ?_ | refine hC.iaw (W := cx_SHR) [] rfl rfl rfl rfl ?_ ?_ | refine hC.law (W := cx_SHR) [] rfl rfl rfl rfl ?_ ?_ | refine hC.cpw (W := cx_SHR) [] rfl rfl rfl rfl rfl rfl ?_ | refine hC.cpl (W := cx_SHR) [] rfl rfl rfl rfl rfl rfl ?_ | refine hC.go [] _ rfl rfl ?_ | (intro h; first | exact (h rfl).elim | (exfalso; cases h; done) | (dsimp only [kk_cP, kk_cN] at h) | skip)
  refine hC.same (sh_xReadCondition l (d + 24) 0 (fun c O' A' hJ hr h => sh_xReadOne l 8 d c O' A' 0 (by omega) (by omega) hJ hr h) O3 A2 hJ3 hr3 (by omega)) rfl rfl rfl rfl (Nat.le_refl _) ?_
  rintro rs w' ⟨O7, A7, r, rfl, hJ7, ⟨q1, q2⟩, ⟨er, rfl, rfl, g1, g2⟩ | ⟨s, rfl, rfl, hr7, g5⟩⟩
  · rw [h53] at q1
    repeat' first | refine hC.gw [] _ rfl rfl ?_ | refine And.intro ?_ ?_ | exact True.intro | refine hC.iadd [] rfl rfl (by first | omega | (simp only [Int.reduceToNat] at *; omega)) ?_ | refine hC.isub [] rfl rfl (by first | omega | (simp only [Int.reduceToNat] at *; omega)) ?_ | refine hC.imul [] rfl rfl (by first | omega | (simp only [Int.reduceToNat] at *; omega)) ?_ | refine hC.iinc [] rfl rfl rfl rfl (by first | omega | (simp only [Int.reduceToNat] at *; omega)) ?_ | refine hC.pfw (W := cx_SHR) [] rfl rfl rfl rfl rfl rfl ?_ ?_ | refine hC.iaw (W := cx_SHR) [] rfl rfl rfl rfl ?_ ?_ | refine hC.law (W := cx_SHR) [] rfl rfl rfl rfl ?_ ?_ | refine hC.cpw (W := cx_SHR) [] rfl rfl rfl rfl rfl rfl ?_ | refine hC.cpl (W := cx_SHR) [] rfl rfl rfl rfl rfl rfl ?_ | refine hC.go [] _ rfl rfl ?_ | (intro h; first | exact (h rfl).elim | (exfalso; cases h; done) | (dsimp only [kk_cP, kk_cN] at h) | skip)
    all_goals first | omega | exact Or.inl rfl | exact Or.inr rfl | exact ⟨_, _, rfl, _, hJ7, q1, Or.inl ⟨er, rfl, rfl, g1, g2⟩⟩
  · rw [h53] at q1
    have e3 := hr7.kd
    have e9 := hr7.f9
    repeat' first | refine hC.gw [] _ rfl rfl ?_ | refine And.intro ?_ ?_ | exact True.intro | refine hC.iadd [] rfl rfl (by first | omega | (simp only [Int.reduceToNat] at *; omega)) ?_ | refine hC.isub [] rfl rfl (by first | omega | (simp only [Int.reduceToNat] at *; omega)) ?_ | refine hC.imul [] rfl rfl (by first | omega | (simp only [Int.reduceToNat] at *; omega)) ?_ | refine hC.iinc [] rfl rfl rfl rfl (by first | omega | (simp only [Int.reduceToNat] at *; omega)) ?_ | refine hC.pfw (W := cx_SHR) [] rfl rfl rfl rfl rfl rfl ?_ ?_ | refine hC.iaw (W := cx_SHR) [] rfl rfl rfl rfl ?_ ?_ | refine hC.law (W := cx_SHR) [] rfl rfl rfl rfl ?_ ?_ | refine hC.cpw (W := cx_SHR) [] rfl rfl rfl rfl rfl rfl ?_ | refine hC.cpl (W := cx_SHR) [] rfl rfl rfl rfl rfl rfl ?_ | refine hC.go [] _ rfl rfl ?_ | (intro h; first | exact (h rfl).elim | (exfalso; cases h; done) | (dsimp only [kk_cP, kk_cN] at h) | skip)
    all_goals first | omega | exact Or.inl rfl | exact Or.inr rfl | skip
    · have h3 : O7 12 3 = 1 := by assumption
      exact ⟨_, _, rfl, _, hJ7, q1, Or.inr ⟨s.2, (if_pos (e3.symm.trans h3)), rfl, e9, g5⟩⟩
    · have h3 : O7 12 3 ≠ 1 := by assumption
      refine sh_xRef (d' := 0) hC hJ7 hr7 1 (by omega) rfl rfl rfl rfl rfl ?_
      intro O8 hJ8 g1 g2
      repeat' first | refine hC.gw [] _ rfl rfl ?_ | refine And.intro ?_ ?_ | exact True.intro | refine hC.iadd [] rfl rfl (by first | omega | (simp only [Int.reduceToNat] at *; omega)) ?_ | refine hC.isub [] rfl rfl (by first | omega | (simp only [Int.reduceToNat] at *; omega)) ?_ | refine hC.imul [] rfl rfl (by first | omega | (simp only [Int.reduceToNat] at *; omega)) ?_ | refine hC.iinc [] rfl rfl rfl rfl (by first | omega | (simp only [Int.reduceToNat] at *; omega)) ?_ | refine hC.pfw (W := cx_SHR) [] rfl rfl rfl rfl rfl rfl ?_ ?_ | refine hC.iaw (W := cx_SHR) [] rfl rfl rfl rfl ?_ ?_ | refine hC.law (W := cx_SHR) [] rfl rfl rfl rfl ?_ ?_ | refine hC.cpw (W := cx_SHR) [] rfl rfl rfl rfl rfl rfl ?_ | refine hC.cpl (W := cx_SHR) [] rfl rfl rfl rfl rfl rfl ?_ | refine hC.go [] _ rfl rfl ?_ | (intro h; first | exact (h rfl).elim | (exfalso; cases h; done) | (dsimp only [kk_cP, kk_cN] at h) | skip)
      all_goals first | omega | exact Or.inl rfl | exact Or.inr rfl | exact ⟨_, _, rfl, _, hJ8, q1, Or.inl ⟨(1, tk_ob tn 200 a res s.1 4), (if_neg (fun q => h3 (e3.trans q))), rfl, g1, g2⟩⟩
set_option maxRecDepth 100000 in
set_option maxHeartbeats 4000000 in
theorem sh_fm_eq {T : Int → Nat → Int} {G G' : Nat → Nat → Int} (h6 : G 6 = G' 6) (h7 : G 7 = G' 7) : sh_fm T G = sh_fm T G' := by
  funext c
  unfold sh_fm sp_find
  show (if sp_nm T c then (if fi (G 7) (10 * 1) (G 6 1) (T c 7) = -1 then _ else Except.ok (fi (G 7) (10 * 1) (G 6 1) (T c 7))) else _) = (if sp_nm T c then (if fi (G' 7) (10 * 1) (G' 6 1) (T c 7) = -1 then _ else Except.ok (fi (G' 7) (10 * 1) (G' 6 1) (T c 7))) else _)
  rw [h6, h7]
set_option maxRecDepth 100000 in
set_option maxHeartbeats 4000000 in
theorem cr_xSentence (l : Launch) (d : Nat) {Bc : ci_B} {tl k0 k1 : Int} (O A : Nat → Nat → Int) (hJ : ci_J Bc tl k0 k1 O A) : kk_Ctr l (d + 40) en_t_X10_sentence [(4, 0)] (cx_C O A) (fun rs w' => ∃ O' A', w' = cx_C O' A' ∧ ∃ v, ci_J (cu Bc 15 v) 0 k0 k1 O' A' ∧ ∃ r x, sE tl 200 (fun i => tt_v 940 tl (Bc.2 2) i) (Bc.2 4) Bc.2 0 0 (tk_sk (fun i => tt_v 940 tl (Bc.2 2) i) 940 0) 0 r ∧ rs = [(0, x)] ∧ sn_ans (tk_ob tl 200 (fun i => tt_v 940 tl (Bc.2 2) i) (Bc.2 4)) r x v) := by
  have q1 : 0 ≤ O 1 1 ∧ O 1 1 ≤ 940 := hJ.1 (3, 1) (by decide)
  have e1 : O 1 1 = tl := hJ.2.1
  have e4 : A 4 = Bc.2 4 := hJ.fr.2.1
  have a6 : A 6 = Bc.2 6 := hJ.fr.2.2.1.2.1
  have a7 : A 7 = Bc.2 7 := hJ.fr.2.2.1.2.2.1
  have ht : rt 13 14 15 tl (fun i => tt_v 940 tl (Bc.2 2) i) (A 4) (cc_in pC_SHR O) (cc_in pC_SHR A) := by
    refine ⟨e1, ?_, rfl, tt_cx _ _ (by omega) (by omega)⟩
    show (fun i => tt_v 940 tl (A 2) i) = _
    rw [hJ.fr.1]
  generalize ha : (fun i => tt_v 940 tl (Bc.2 2) i) = a at ht ⊢
  refine kk_ctr en_hM (List.mem_of_getElem? (i := 29) rfl) rfl (Nat.le_of_ble_eq_true rfl) (fun K hC => ?_)
  have k49 : ∀ (O A : Nat → Nat → Int) (r : sn_R) (k : Int), ci_J (cu Bc 15 0) 0 k0 k1 O A → sE tl 200 a (Bc.2 4) Bc.2 0 0 (tk_sk a 940 0) 0 r → sn_top (tk_ob tl 200 a (Bc.2 4)) r = .ok k → O 154 5 = k → O 0 15 = 0 → K 49 [(0, (4, 0))] [] (cx_C O A) := by
    intro O A r k hJ hR hk h5 h15
    repeat' first | refine hC.gw [] _ rfl rfl ?_ | refine And.intro ?_ ?_ | exact True.intro | refine hC.iadd [] rfl rfl (by first | omega | (simp only [Int.reduceToNat] at *; omega)) ?_ | refine hC.isub [] rfl rfl (by first | omega | (simp only [Int.reduceToNat] at *; omega)) ?_ | refine hC.imul [] rfl rfl (by first | omega | (simp only [Int.reduceToNat] at *; omega)) ?_ | refine hC.iinc [] rfl rfl rfl rfl (by first | omega | (simp only [Int.reduceToNat] at *; omega)) ?_ | refine hC.pfw (W := cx_C) [] rfl rfl rfl rfl rfl rfl ?_ ?_ | refine hC.iaw (W := cx_C) [] rfl rfl rfl rfl ?_ ?_ | refine hC.law (W := cx_C) [] rfl rfl rfl rfl ?_ ?_ | refine hC.cpw (W := cx_C) [] rfl rfl rfl rfl rfl rfl ?_ | refine hC.cpl (W := cx_C) [] rfl rfl rfl rfl rfl rfl ?_ | refine hC.go [] _ rfl rfl ?_ | (intro h; first | exact (h rfl).elim | (exfalso; cases h; done) | (dsimp only [kk_cP, kk_cN] at h) | skip)
    refine hC.at ce_C_SS (ss_copyFrom l _ _ _) rfl rfl rfl rfl rfl rfl (Nat.le_refl _) ?_
    rintro rs O5 A5 ⟨rfl, c5, s5⟩
    have hJ5 := hJ.ss c5 s5
    have x15 : cc_out O5 O pC_SS 0 0 15 = 0 := h15
    have x5 : cc_out O5 O pC_SS 0 149 5 = k := (show O5 0 5 = k from c5.2.2.2.trans h5)
    generalize cc_out O5 O pC_SS 0 = O6 at hJ5 x15 x5 ⊢
    generalize cc_out A5 A pC_SS 0 = A6 at hJ5 ⊢
    repeat' first | refine hC.gw [] _ rfl rfl ?_ | refine And.intro ?_ ?_ | exact True.intro | refine hC.iadd [] rfl rfl (by first | omega | (simp only [Int.reduceToNat] at *; omega)) ?_ | refine hC.isub [] rfl rfl (by first | omega | (simp only [Int.reduceToNat] at *; omega)) ?_ | refine hC.imul [] rfl rfl (by first | omega | (simp only [Int.reduceToNat] at *; omega)) ?_ | refine hC.iinc [] rfl rfl rfl rfl (by first | omega | (simp only [Int.reduceToNat] at *; omega)) ?_ | refine hC.pfw (W := cx_C) [] rfl rfl rfl rfl rfl rfl ?_ ?_ | refine hC.iaw (W := cx_C) [] rfl rfl rfl rfl ?_ ?_ | refine hC.law (W := cx_C) [] rfl rfl rfl rfl ?_ ?_ | refine hC.cpw (W := cx_C) [] rfl rfl rfl rfl rfl rfl ?_ | refine hC.cpl (W := cx_C) [] rfl rfl rfl rfl rfl rfl ?_ | refine hC.go [] _ rfl rfl ?_ | (intro h; first | exact (h rfl).elim | (exfalso; cases h; done) | (dsimp only [kk_cP, kk_cN] at h) | skip)
    all_goals first | exact ⟨_, _, rfl, 0, hJ5, r, _, hR, rfl, Or.inl ⟨k, hk, x5, rfl⟩⟩ | omega
  repeat' first | refine hC.gw [] _ rfl rfl ?_ | refine And.intro ?_ ?_ | exact True.intro | refine hC.iadd [] rfl rfl (by first | omega | (simp only [Int.reduceToNat] at *; omega)) ?_ | refine hC.isub [] rfl rfl (by first | omega | (simp only [Int.reduceToNat] at *; omega)) ?_ | refine hC.imul [] rfl rfl (by first | omega | (simp only [Int.reduceToNat] at *; omega)) ?_ | refine hC.iinc [] rfl rfl rfl rfl (by first | omega | (simp only [Int.reduceToNat] at *; omega)) ?_ | refine hC.pfw (W := cx_C) [] rfl rfl rfl rfl rfl rfl ?_ ?_ | refine hC.iaw (W := cx_C) [] rfl rfl rfl rfl ?_ ?_ | refine hC.law (W := cx_C) [] rfl rfl rfl rfl ?_ ?_ | refine hC.cpw (W := cx_C) [] rfl rfl rfl rfl rfl rfl ?_ | refine hC.cpl (W := cx_C) [] rfl rfl rfl rfl rfl rfl ?_ | refine hC.go [] _ rfl rfl ?_ | (intro h; first | exact (h rfl).elim | (exfalso; cases h; done) | (dsimp only [kk_cP, kk_cN] at h) | skip)
  refine hC.at ce_C_SHR (sh_xReadFrom l _ (O 1) (A 2) (res := A 4) _ _ ⟨hJ.house.1, hJ.house.2.2, hJ.house.2.1, rfl, rfl, q1, rfl⟩ ht) rfl rfl rfl rfl rfl rfl (Nat.le_refl _) ?_
  rintro rs O5 A5 ⟨r, hr, hR, hrs⟩
  have hJ5 := hJ.rdS hr
  have hR : sE tl 200 a (Bc.2 4) Bc.2 0 0 (tk_sk a 940 0) 0 r := by
    unfold sE at hR ⊢
    rw [e4] at hR
    rw [sh_fm_eq (G := cc_in pC_SHR A) (G' := Bc.2) a6 a7] at hR
    exact hR
  rw [e4] at hrs
  have y9 : cc_out O5 O pC_SHR 0 3 = O5 12 := rfl
  have y5 : cc_out O5 O pC_SHR 0 154 = O5 0 := rfl
  generalize cc_out O5 O pC_SHR 0 = O6 at hJ5 y9 y5 ⊢
  generalize cc_out A5 A pC_SHR 0 = A6 at hJ5 ⊢
  clear hr
  rcases hrs with ⟨e, he, rfl, g1, g2⟩ | ⟨k, hk, rfl, g9, g5⟩
  · have z9 : O6 3 9 = e.1 := by rw [y9]; exact g1
    have z10 : O6 3 10 = e.2 := by rw [y9]; exact g2
    repeat' first | refine hC.gw [49] _ rfl rfl ?_ | refine And.intro ?_ ?_ | exact True.intro | refine hC.iadd [49] rfl rfl (by first | omega | (simp only [Int.reduceToNat] at *; omega)) ?_ | refine hC.isub [49] rfl rfl (by first | omega | (simp only [Int.reduceToNat] at *; omega)) ?_ | refine hC.imul [49] rfl rfl (by first | omega | (simp only [Int.reduceToNat] at *; omega)) ?_ | refine hC.iinc [49] rfl rfl rfl rfl (by first | omega | (simp only [Int.reduceToNat] at *; omega)) ?_ | refine hC.pfw (W := cx_C) [49] rfl rfl rfl rfl rfl rfl ?_ ?_ | refine hC.iaw (W := cx_C) [49] rfl rfl rfl rfl ?_ ?_ | refine hC.law (W := cx_C) [49] rfl rfl rfl rfl ?_ ?_ | refine hC.cpw (W := cx_C) [49] rfl rfl rfl rfl rfl rfl ?_ | refine hC.cpl (W := cx_C) [49] rfl rfl rfl rfl rfl rfl ?_ | refine hC.go [49] _ rfl rfl ?_ | (intro h; first | exact (h rfl).elim | (exfalso; cases h; done) | (dsimp only [kk_cP, kk_cN] at h) | skip)
    all_goals first | omega | exact ⟨_, _, rfl, _, (hJ5.len (by decide) (by decide)).fxc, r, _, hR, rfl, Or.inr ⟨e, he, (by rw [← z10]; rfl), z9⟩⟩
  · have z9 : O6 3 9 = 0 := by rw [y9]; exact g9
    have z5 : O6 154 5 = k := by rw [y5]; exact g5
    repeat' first | refine hC.gw [49] _ rfl rfl ?_ | refine And.intro ?_ ?_ | exact True.intro | refine hC.iadd [49] rfl rfl (by first | omega | (simp only [Int.reduceToNat] at *; omega)) ?_ | refine hC.isub [49] rfl rfl (by first | omega | (simp only [Int.reduceToNat] at *; omega)) ?_ | refine hC.imul [49] rfl rfl (by first | omega | (simp only [Int.reduceToNat] at *; omega)) ?_ | refine hC.iinc [49] rfl rfl rfl rfl (by first | omega | (simp only [Int.reduceToNat] at *; omega)) ?_ | refine hC.pfw (W := cx_C) [49] rfl rfl rfl rfl rfl rfl ?_ ?_ | refine hC.iaw (W := cx_C) [49] rfl rfl rfl rfl ?_ ?_ | refine hC.law (W := cx_C) [49] rfl rfl rfl rfl ?_ ?_ | refine hC.cpw (W := cx_C) [49] rfl rfl rfl rfl rfl rfl ?_ | refine hC.cpl (W := cx_C) [49] rfl rfl rfl rfl rfl rfl ?_ | refine hC.go [49] _ rfl rfl ?_ | (intro h; first | exact (h rfl).elim | (exfalso; cases h; done) | (dsimp only [kk_cP, kk_cN] at h) | skip)
    all_goals first | omega | exact hC.sub [(0, (4, 0))] ⟨rfl, trivial⟩ (k49 _ _ r k (((hJ5.len (by decide) (by decide)).fxc).cue z9) hR hk z5 z9)
