/-! THE CLASS, 30: houses, books, sentences and images -/
variable {Bc : ci_B}
def bk_ok (O A : Nat → Nat → Int) : Prop := (0 ≤ O 144 4 ∧ O 144 4 ≤ 40) ∧ ∀ j : Nat, (j : Int) < O 144 4 → bl_ln (cc_in pC_BL A) j
-- what the class's house leaves
def cr_Ho (Bc : ci_B) (tl k0 k1 : Int) : List en_V → List kk_C → Prop := fun rs w' => ∃ O' A' B' o0 A0, w' = cx_C O' A' ∧ ci_J B' 0 k0 k1 O' A' ∧ hz0 o0 A0 ∧ ((∃ e, sp_lines (tk_ob tl 900 (fun i => tt_v 940 tl (Bc.2 2) i) (Bc.2 4)) (tk_nx tl 900 (fun i => tt_v 940 tl (Bc.2 2) i) (Bc.2 4)) 941 0 (tk_sk (fun i => tt_v 940 tl (Bc.2 2) i) 940 0) o0 A0 = .error e ∧ rs = [(0, kk_i2 1 (-1) e.2)] ∧ O' 0 15 = e.1 ∧ B' = cu Bc 15 e.1) ∨ (∃ s, sp_lines (tk_ob tl 900 (fun i => tt_v 940 tl (Bc.2 2) i) (Bc.2 4)) (tk_nx tl 900 (fun i => tt_v 940 tl (Bc.2 2) i) (Bc.2 4)) 941 0 (tk_sk (fun i => tt_v 940 tl (Bc.2 2) i) 940 0) o0 A0 = .ok s ∧ rs = [(0, s.1)] ∧ O' 0 15 = 0 ∧ (B'.2 2 = Bc.2 2 ∧ B'.2 4 = Bc.2 4 ∧ hcp 103 B' 103 Bc ∧ hcp 124 B' 124 Bc ∧ B'.1 0 16 = Bc.1 0 16 ∧ B'.1 0 17 = Bc.1 0 17 ∧ B'.1 0 15 = 0) ∧ (B'.1 5 6 = s.2.1 6 ∧ B'.1 5 7 = s.2.1 7) ∧ B'.2 6 = s.2.2 1 ∧ B'.2 7 = s.2.2 2 ∧ B'.2 8 = s.2.2 3 ∧ B'.2 9 = s.2.2 4 ∧ B'.2 10 = s.2.2 5 ∧ B'.2 11 = s.2.2 6))
section CR4
variable (l : Launch) (d : Nat) (tl k0 k1 : Int) (O A : Nat → Nat → Int)
set_option maxRecDepth 100000 in
set_option maxHeartbeats 4000000 in
theorem cr_house (hJ : ci_J Bc tl k0 k1 O A) : kk_Ctr l (d + 40) en_t_X10_house [(4, 0)] (cx_C O A) (cr_Ho Bc tl k0 k1) := by
  have q1 : 0 ≤ O 1 1 ∧ O 1 1 ≤ 940 := hJ.1 (3, 1) (by decide)
  have e1 : O 1 1 = tl := hJ.2.1
  have ht : rt 8 9 10 tl (fun i => tt_v 940 tl (Bc.2 2) i) (Bc.2 4) (cc_in pC_HR O) (cc_in pC_HR A) := by
    refine ⟨e1, ?_, hJ.fr.2.1, tt_cx _ _ (by omega) (by omega)⟩
    show (fun i => tt_v 940 tl (A 2) i) = _
    rw [hJ.fr.1]
  refine kk_ctr en_hM (List.mem_of_getElem? (i := 3) rfl) rfl (Nat.le_of_ble_eq_true rfl) (fun K hC => ?_)
  have k46 : ∀ (O A : Nat → Nat → Int) (x : Int) (o0 : Nat → Int) (A0 : Nat → Nat → Int) (s : Int × (Nat → Int) × (Nat → Nat → Int)), hz0 o0 A0 → sp_lines (tk_ob tl 900 (fun i => tt_v 940 tl (Bc.2 2) i) (Bc.2 4)) (tk_nx tl 900 (fun i => tt_v 940 tl (Bc.2 2) i) (Bc.2 4)) 941 0 (tk_sk (fun i => tt_v 940 tl (Bc.2 2) i) 940 0) o0 A0 = .ok s → x = s.1 → O 0 15 = 0 → O 12 = s.2.1 → (A 13 = s.2.2 1 ∧ A 14 = s.2.2 2 ∧ A 15 = s.2.2 3 ∧ A 16 = s.2.2 4 ∧ A 17 = s.2.2 5 ∧ A 18 = s.2.2 6) → ci_J (cu Bc 15 0) 0 k0 k1 O A → hs_ok 12 O A → K 46 [(0, (4, 0)), (1, (0, x))] [] (cx_C O A) := by
    intro O A x o0 A0 s hz hs hx h15 ho ha hJ hd
    repeat' first | refine hC.gw [] _ rfl rfl ?_ | refine And.intro ?_ ?_ | exact True.intro | refine hC.iadd [] rfl rfl (by first | omega | (simp only [Int.reduceToNat] at *; omega)) ?_ | refine hC.isub [] rfl rfl (by first | omega | (simp only [Int.reduceToNat] at *; omega)) ?_ | refine hC.imul [] rfl rfl (by first | omega | (simp only [Int.reduceToNat] at *; omega)) ?_ | refine hC.iinc [] rfl rfl rfl rfl (by first | omega | (simp only [Int.reduceToNat] at *; omega)) ?_ | refine hC.pfw (W := cx_C) [] rfl rfl rfl rfl rfl rfl ?_ ?_ | refine hC.iaw (W := cx_C) [] rfl rfl rfl rfl ?_ ?_ | refine hC.law (W := cx_C) [] rfl rfl rfl rfl ?_ ?_ | refine hC.cpw (W := cx_C) [] rfl rfl rfl rfl rfl rfl ?_ | refine hC.cpl (W := cx_C) [] rfl rfl rfl rfl rfl rfl ?_ | refine hC.go [] _ rfl rfl ?_ | (intro h; first | exact (h rfl).elim | (exfalso; cases h; done) | (dsimp only [kk_cP, kk_cN] at h) | skip)
    refine hC.at ce_C_HH (hh_copyFrom l _ _ _ hd.2.1) rfl rfl rfl rfl rfl rfl (Nat.le_refl _) ?_
    rintro rs O5 A5 ⟨rfl, c1, c2, o1, o2⟩
    obtain ⟨hJ5, hm5⟩ := hJ.cpH hd c1 o1
    have h15' : cc_out O5 O pC_HH 0 0 15 = 0 := h15
    generalize cc_out O5 O pC_HH 0 = O6 at hJ5 hm5 h15' ⊢
    generalize cc_out A5 A pC_HH 0 = A6 at hJ5 hm5 ⊢
    clear c1 c2 o1 o2
    have hB : ∃ B', ci_J B' 0 k0 k1 O6 A6 ∧ (B'.2 2 = Bc.2 2 ∧ B'.2 4 = Bc.2 4 ∧ hcp 103 B' 103 Bc ∧ hcp 124 B' 124 Bc ∧ B'.1 0 16 = Bc.1 0 16 ∧ B'.1 0 17 = Bc.1 0 17 ∧ B'.1 0 15 = 0) ∧ (B'.1 5 6 = s.2.1 6 ∧ B'.1 5 7 = s.2.1 7) ∧ B'.2 6 = s.2.2 1 ∧ B'.2 7 = s.2.2 2 ∧ B'.2 8 = s.2.2 3 ∧ B'.2 9 = s.2.2 4 ∧ B'.2 10 = s.2.2 5 ∧ B'.2 11 = s.2.2 6 := by
      obtain ⟨m2, m4, m5, m103, m124, ms⟩ := hm5
      exact ⟨(O6, A6), hJ5, ⟨m2, m4, m103, m124, ms⟩, ⟨m5.1.1.trans (congrFun ho 6), m5.1.2.trans (congrFun ho 7)⟩, m5.2.1.trans ha.1, m5.2.2.1.trans ha.2.1, m5.2.2.2.1.trans ha.2.2.1, m5.2.2.2.2.1.trans ha.2.2.2.1, m5.2.2.2.2.2.1.trans ha.2.2.2.2.1, m5.2.2.2.2.2.2.trans ha.2.2.2.2.2⟩
    clear hJ5 hm5
    obtain ⟨B', hJ5, hB⟩ := hB
    repeat' first | refine hC.gw [] _ rfl rfl ?_ | refine And.intro ?_ ?_ | exact True.intro | refine hC.iadd [] rfl rfl (by first | omega | (simp only [Int.reduceToNat] at *; omega)) ?_ | refine hC.isub [] rfl rfl (by first | omega | (simp only [Int.reduceToNat] at *; omega)) ?_ | refine hC.imul [] rfl rfl (by first | omega | (simp only [Int.reduceToNat] at *; omega)) ?_ | refine hC.iinc [] rfl rfl rfl rfl (by first | omega | (simp only [Int.reduceToNat] at *; omega)) ?_ | refine hC.pfw (W := cx_C) [] rfl rfl rfl rfl rfl rfl ?_ ?_ | refine hC.iaw (W := cx_C) [] rfl rfl rfl rfl ?_ ?_ | refine hC.law (W := cx_C) [] rfl rfl rfl rfl ?_ ?_ | refine hC.cpw (W := cx_C) [] rfl rfl rfl rfl rfl rfl ?_ | refine hC.cpl (W := cx_C) [] rfl rfl rfl rfl rfl rfl ?_ | refine hC.go [] _ rfl rfl ?_ | (intro h; first | exact (h rfl).elim | (exfalso; cases h; done) | (dsimp only [kk_cP, kk_cN] at h) | skip)
    refine hC.at ce_C_L (ll_begin l _ _ _ hJ5.house.1 hJ5.house.2.1 hJ5.house.2.2) rfl rfl rfl rfl rfl rfl (Nat.le_refl _) ?_
    rintro rs O7 A7 ⟨rfl, hI7, hP7⟩
    have hJ7 := hJ5.put hI7 (fun p h1 h2 => hP7 p h1 h2)
    have h15' : cc_out O7 O6 pC_L 0 0 15 = 0 := h15'
    generalize cc_out O7 O6 pC_L 0 = O8 at hJ7 h15' ⊢
    generalize cc_out A7 A6 pC_L 0 = A8 at hJ7 ⊢
    clear hI7 hP7
    repeat' first | refine hC.gw [] _ rfl rfl ?_ | refine And.intro ?_ ?_ | exact True.intro | refine hC.iadd [] rfl rfl (by first | omega | (simp only [Int.reduceToNat] at *; omega)) ?_ | refine hC.isub [] rfl rfl (by first | omega | (simp only [Int.reduceToNat] at *; omega)) ?_ | refine hC.imul [] rfl rfl (by first | omega | (simp only [Int.reduceToNat] at *; omega)) ?_ | refine hC.iinc [] rfl rfl rfl rfl (by first | omega | (simp only [Int.reduceToNat] at *; omega)) ?_ | refine hC.pfw (W := cx_C) [] rfl rfl rfl rfl rfl rfl ?_ ?_ | refine hC.iaw (W := cx_C) [] rfl rfl rfl rfl ?_ ?_ | refine hC.law (W := cx_C) [] rfl rfl rfl rfl ?_ ?_ | refine hC.cpw (W := cx_C) [] rfl rfl rfl rfl rfl rfl ?_ | refine hC.cpl (W := cx_C) [] rfl rfl rfl rfl rfl rfl ?_ | refine hC.go [] _ rfl rfl ?_ | (intro h; first | exact (h rfl).elim | (exfalso; cases h; done) | (dsimp only [kk_cP, kk_cN] at h) | skip)
    refine hC.at ce_C_U (uu_forget l _ _ _ hJ7.U) rfl rfl rfl rfl rfl rfl (Nat.le_refl _) ?_
    rintro rs O9 A9 ⟨rfl, hI9, hP9, hA9⟩
    have hJ9 := hJ7.undone hI9 (fun p hp => ⟨hP9 p (by omega), by rw [hA9]⟩)
    have h15' : cc_out O9 O8 pC_U 0 0 15 = 0 := h15'
    generalize cc_out O9 O8 pC_U 0 = O10 at hJ9 h15' ⊢
    generalize cc_out A9 A8 pC_U 0 = A10 at hJ9 ⊢
    clear hI9 hP9 hA9
    repeat' first | refine hC.gw [] _ rfl rfl ?_ | refine And.intro ?_ ?_ | exact True.intro | refine hC.iadd [] rfl rfl (by first | omega | (simp only [Int.reduceToNat] at *; omega)) ?_ | refine hC.isub [] rfl rfl (by first | omega | (simp only [Int.reduceToNat] at *; omega)) ?_ | refine hC.imul [] rfl rfl (by first | omega | (simp only [Int.reduceToNat] at *; omega)) ?_ | refine hC.iinc [] rfl rfl rfl rfl (by first | omega | (simp only [Int.reduceToNat] at *; omega)) ?_ | refine hC.pfw (W := cx_C) [] rfl rfl rfl rfl rfl rfl ?_ ?_ | refine hC.iaw (W := cx_C) [] rfl rfl rfl rfl ?_ ?_ | refine hC.law (W := cx_C) [] rfl rfl rfl rfl ?_ ?_ | refine hC.cpw (W := cx_C) [] rfl rfl rfl rfl rfl rfl ?_ | refine hC.cpl (W := cx_C) [] rfl rfl rfl rfl rfl rfl ?_ | refine hC.go [] _ rfl rfl ?_ | (intro h; first | exact (h rfl).elim | (exfalso; cases h; done) | (dsimp only [kk_cP, kk_cN] at h) | skip)
    refine hC.at ce_C_S (ss_clear l _ _ _) rfl rfl rfl rfl rfl rfl (Nat.le_refl _) ?_
    rintro rs O11 A11 ⟨rfl, hI11, -, -⟩
    have hJ11 := hJ9.clr hI11
    have h15' : cc_out O11 O10 pC_S 0 0 15 = 0 := h15'
    generalize cc_out O11 O10 pC_S 0 = O12 at hJ11 h15' ⊢
    generalize cc_out A11 A10 pC_S 0 = A12 at hJ11 ⊢
    repeat' first | refine hC.gw [] _ rfl rfl ?_ | refine And.intro ?_ ?_ | exact True.intro | refine hC.iadd [] rfl rfl (by first | omega | (simp only [Int.reduceToNat] at *; omega)) ?_ | refine hC.isub [] rfl rfl (by first | omega | (simp only [Int.reduceToNat] at *; omega)) ?_ | refine hC.imul [] rfl rfl (by first | omega | (simp only [Int.reduceToNat] at *; omega)) ?_ | refine hC.iinc [] rfl rfl rfl rfl (by first | omega | (simp only [Int.reduceToNat] at *; omega)) ?_ | refine hC.pfw (W := cx_C) [] rfl rfl rfl rfl rfl rfl ?_ ?_ | refine hC.iaw (W := cx_C) [] rfl rfl rfl rfl ?_ ?_ | refine hC.law (W := cx_C) [] rfl rfl rfl rfl ?_ ?_ | refine hC.cpw (W := cx_C) [] rfl rfl rfl rfl rfl rfl ?_ | refine hC.cpl (W := cx_C) [] rfl rfl rfl rfl rfl rfl ?_ | refine hC.go [] _ rfl rfl ?_ | (intro h; first | exact (h rfl).elim | (exfalso; cases h; done) | (dsimp only [kk_cP, kk_cN] at h) | skip)
    all_goals first | (subst hx; exact ⟨_, _, B', o0, A0, rfl, hJ11, hz, Or.inr ⟨s, hs, rfl, h15', hB⟩⟩) | omega
  repeat' first | refine hC.gw [] _ rfl rfl ?_ | refine And.intro ?_ ?_ | exact True.intro | refine hC.iadd [] rfl rfl (by first | omega | (simp only [Int.reduceToNat] at *; omega)) ?_ | refine hC.isub [] rfl rfl (by first | omega | (simp only [Int.reduceToNat] at *; omega)) ?_ | refine hC.imul [] rfl rfl (by first | omega | (simp only [Int.reduceToNat] at *; omega)) ?_ | refine hC.iinc [] rfl rfl rfl rfl (by first | omega | (simp only [Int.reduceToNat] at *; omega)) ?_ | refine hC.pfw (W := cx_C) [] rfl rfl rfl rfl rfl rfl ?_ ?_ | refine hC.iaw (W := cx_C) [] rfl rfl rfl rfl ?_ ?_ | refine hC.law (W := cx_C) [] rfl rfl rfl rfl ?_ ?_ | refine hC.cpw (W := cx_C) [] rfl rfl rfl rfl rfl rfl ?_ | refine hC.cpl (W := cx_C) [] rfl rfl rfl rfl rfl rfl ?_ | refine hC.go [] _ rfl rfl ?_ | (intro h; first | exact (h rfl).elim | (exfalso; cases h; done) | (dsimp only [kk_cP, kk_cN] at h) | skip)
  refine hC.at ce_C_HR (hr_xReadFrom l _ (T := O 1) (Bt := A 2) _ _ rfl rfl ht) rfl rfl rfl rfl rfl rfl (Nat.le_refl _) ?_
  rintro rs O5 A5 ⟨o0, A0, hr, h8, hz, hq⟩
  have hr' : hr_J (O 1) (A 2) (A 4) O5 A5 := ⟨hr.1, hr.2.1, hr.2.2.1, hr.2.2.2.1, hr.2.2.2.2.1, hr.2.2.2.2.2.1, hr.2.2.2.2.2.2.trans hJ.fr.2.1.symm⟩
  obtain ⟨hJ5, hd5⟩ := hJ.rdH hr'
  have x9 : cc_out O5 O pC_HR 0 3 = O5 7 := rfl
  have x12 : cc_out O5 O pC_HR 0 12 = O5 0 := rfl
  have xa : cc_out A5 A pC_HR 0 13 = A5 1 ∧ cc_out A5 A pC_HR 0 14 = A5 2 ∧ cc_out A5 A pC_HR 0 15 = A5 3 ∧ cc_out A5 A pC_HR 0 16 = A5 4 ∧ cc_out A5 A pC_HR 0 17 = A5 5 ∧ cc_out A5 A pC_HR 0 18 = A5 6 := ⟨rfl, rfl, rfl, rfl, rfl, rfl⟩
  generalize cc_out O5 O pC_HR 0 = O6 at hJ5 hd5 x9 x12 ⊢
  generalize cc_out A5 A pC_HR 0 = A6 at hJ5 hd5 xa ⊢
  clear hr hr'
  rcases hq with ⟨e, es, rfl, q9, q10⟩ | ⟨s, es, rfl, s0, q9, qo, qa⟩
  · have y9 : O6 3 9 = e.1 := by rw [x9]; exact q9
    have y10 : O6 3 10 = e.2 := by rw [x9]; exact q10
    repeat' first | refine hC.gw [46] _ rfl rfl ?_ | refine And.intro ?_ ?_ | exact True.intro | refine hC.iadd [46] rfl rfl (by first | omega | (simp only [Int.reduceToNat] at *; omega)) ?_ | refine hC.isub [46] rfl rfl (by first | omega | (simp only [Int.reduceToNat] at *; omega)) ?_ | refine hC.imul [46] rfl rfl (by first | omega | (simp only [Int.reduceToNat] at *; omega)) ?_ | refine hC.iinc [46] rfl rfl rfl rfl (by first | omega | (simp only [Int.reduceToNat] at *; omega)) ?_ | refine hC.pfw (W := cx_C) [46] rfl rfl rfl rfl rfl rfl ?_ ?_ | refine hC.iaw (W := cx_C) [46] rfl rfl rfl rfl ?_ ?_ | refine hC.law (W := cx_C) [46] rfl rfl rfl rfl ?_ ?_ | refine hC.cpw (W := cx_C) [46] rfl rfl rfl rfl rfl rfl ?_ | refine hC.cpl (W := cx_C) [46] rfl rfl rfl rfl rfl rfl ?_ | refine hC.go [46] _ rfl rfl ?_ | (intro h; first | exact (h rfl).elim | (exfalso; cases h; done) | (dsimp only [kk_cP, kk_cN] at h) | skip)
    all_goals first | omega | exact ⟨_, _, cu Bc 15 e.1, o0, A0, rfl, ((hJ5.len (by decide) (by decide)).fxc).cue y9, hz, Or.inl ⟨e, es, by rw [← y10]; rfl, y9, rfl⟩⟩
  · have y9 : O6 3 9 = 0 := by rw [x9]; exact q9
    subst qa
    repeat' first | refine hC.gw [46] _ rfl rfl ?_ | refine And.intro ?_ ?_ | exact True.intro | refine hC.iadd [46] rfl rfl (by first | omega | (simp only [Int.reduceToNat] at *; omega)) ?_ | refine hC.isub [46] rfl rfl (by first | omega | (simp only [Int.reduceToNat] at *; omega)) ?_ | refine hC.imul [46] rfl rfl (by first | omega | (simp only [Int.reduceToNat] at *; omega)) ?_ | refine hC.iinc [46] rfl rfl rfl rfl (by first | omega | (simp only [Int.reduceToNat] at *; omega)) ?_ | refine hC.pfw (W := cx_C) [46] rfl rfl rfl rfl rfl rfl ?_ ?_ | refine hC.iaw (W := cx_C) [46] rfl rfl rfl rfl ?_ ?_ | refine hC.law (W := cx_C) [46] rfl rfl rfl rfl ?_ ?_ | refine hC.cpw (W := cx_C) [46] rfl rfl rfl rfl rfl rfl ?_ | refine hC.cpl (W := cx_C) [46] rfl rfl rfl rfl rfl rfl ?_ | refine hC.go [46] _ rfl rfl ?_ | (intro h; first | exact (h rfl).elim | (exfalso; cases h; done) | (dsimp only [kk_cP, kk_cN] at h) | skip)
    all_goals first | omega | exact hC.sub [(0, (4, 0)), (1, (0, _))] ⟨rfl, rfl, trivial⟩ (k46 _ _ _ o0 A0 s hz es rfl y9 (x12.trans qo) xa (((hJ5.len (by decide) (by decide)).fxc).cue y9) hd5)
set_option maxRecDepth 100000 in
set_option maxHeartbeats 4000000 in
theorem cr_said (hJ : ci_J Bc tl k0 k1 O A) (k : Int) : kk_Ctr l (d + 40) en_t_X10_said [(4, 0), (0, k)] (cx_C O A) (ci_Q Bc tl k0 k1 0) := by
  refine kk_ctr en_hM (List.mem_of_getElem? (i := 30) rfl) rfl (Nat.le_of_ble_eq_true rfl) (fun K hC => ?_)
  repeat' first | refine hC.gw [17] _ rfl rfl ?_ | refine And.intro ?_ ?_ | exact True.intro | refine hC.iadd [17] rfl rfl (by first | omega | (simp only [Int.reduceToNat] at *; omega)) ?_ | refine hC.isub [17] rfl rfl (by first | omega | (simp only [Int.reduceToNat] at *; omega)) ?_ | refine hC.imul [17] rfl rfl (by first | omega | (simp only [Int.reduceToNat] at *; omega)) ?_ | refine hC.iinc [17] rfl rfl rfl rfl (by first | omega | (simp only [Int.reduceToNat] at *; omega)) ?_ | refine hC.pfw (W := cx_C) [17] rfl rfl rfl rfl rfl rfl ?_ ?_ | refine hC.iaw (W := cx_C) [17] rfl rfl rfl rfl ?_ ?_ | refine hC.law (W := cx_C) [17] rfl rfl rfl rfl ?_ ?_ | refine hC.cpw (W := cx_C) [17] rfl rfl rfl rfl rfl rfl ?_ | refine hC.cpl (W := cx_C) [17] rfl rfl rfl rfl rfl rfl ?_ | refine hC.go [17] _ rfl rfl ?_ | (intro h; first | exact (h rfl).elim | (exfalso; cases h; done) | (dsimp only [kk_cP, kk_cN] at h) | skip)
  all_goals first | exact ⟨_, _, rfl, hJ, _, rfl⟩ | skip
  repeat' first | refine hC.gw [] _ rfl rfl ?_ | refine And.intro ?_ ?_ | exact True.intro | refine hC.iadd [] rfl rfl (by first | omega | (simp only [Int.reduceToNat] at *; omega)) ?_ | refine hC.isub [] rfl rfl (by first | omega | (simp only [Int.reduceToNat] at *; omega)) ?_ | refine hC.imul [] rfl rfl (by first | omega | (simp only [Int.reduceToNat] at *; omega)) ?_ | refine hC.iinc [] rfl rfl rfl rfl (by first | omega | (simp only [Int.reduceToNat] at *; omega)) ?_ | refine hC.pfw (W := cx_C) [] rfl rfl rfl rfl rfl rfl ?_ ?_ | refine hC.iaw (W := cx_C) [] rfl rfl rfl rfl ?_ ?_ | refine hC.law (W := cx_C) [] rfl rfl rfl rfl ?_ ?_ | refine hC.cpw (W := cx_C) [] rfl rfl rfl rfl rfl rfl ?_ | refine hC.cpl (W := cx_C) [] rfl rfl rfl rfl rfl rfl ?_ | refine hC.go [] _ rfl rfl ?_ | (intro h; first | exact (h rfl).elim | (exfalso; cases h; done) | (dsimp only [kk_cP, kk_cN] at h) | skip)
  refine hC.at ce_C_SL (ss_deedsSaid l _ _ _ ⟨hJ.sent, ⟨hJ.house.1, hJ.house.2.1, hJ.life.2, hJ.life.1⟩⟩) rfl rfl rfl rfl rfl rfl (Nat.le_refl _) ?_
  rintro rs O5 A5 ⟨ho, x, rfl⟩
  have hJ5 := hJ.said ho
  generalize cc_out O5 O pC_SL 0 = O6 at hJ5 ⊢
  generalize cc_out A5 A pC_SL 0 = A6 at hJ5 ⊢
  clear ho
  repeat' first | refine hC.gw [43] _ rfl rfl ?_ | refine And.intro ?_ ?_ | exact True.intro | refine hC.iadd [43] rfl rfl (by first | omega | (simp only [Int.reduceToNat] at *; omega)) ?_ | refine hC.isub [43] rfl rfl (by first | omega | (simp only [Int.reduceToNat] at *; omega)) ?_ | refine hC.imul [43] rfl rfl (by first | omega | (simp only [Int.reduceToNat] at *; omega)) ?_ | refine hC.iinc [43] rfl rfl rfl rfl (by first | omega | (simp only [Int.reduceToNat] at *; omega)) ?_ | refine hC.pfw (W := cx_C) [43] rfl rfl rfl rfl rfl rfl ?_ ?_ | refine hC.iaw (W := cx_C) [43] rfl rfl rfl rfl ?_ ?_ | refine hC.law (W := cx_C) [43] rfl rfl rfl rfl ?_ ?_ | refine hC.cpw (W := cx_C) [43] rfl rfl rfl rfl rfl rfl ?_ | refine hC.cpl (W := cx_C) [43] rfl rfl rfl rfl rfl rfl ?_ | refine hC.go [43] _ rfl rfl ?_ | (intro h; first | exact (h rfl).elim | (exfalso; cases h; done) | (dsimp only [kk_cP, kk_cN] at h) | skip) | (refine hC.call (jj_bits l _ _) [] rfl rfl rfl rfl rfl rfl trivial (Nat.le_refl _) ?_; rintro rs w' ⟨rfl, xb, rfl⟩)
  all_goals first | exact ⟨_, _, rfl, hJ5, _, rfl⟩ | skip
  refine hC.call (xx_placeOfBit l _ _ _) [] rfl rfl rfl rfl rfl rfl trivial (Nat.le_refl _) ?_
  rintro rs w' ⟨rfl, y, rfl⟩
  repeat' first | refine hC.gw [] _ rfl rfl ?_ | refine And.intro ?_ ?_ | exact True.intro | refine hC.iadd [] rfl rfl (by first | omega | (simp only [Int.reduceToNat] at *; omega)) ?_ | refine hC.isub [] rfl rfl (by first | omega | (simp only [Int.reduceToNat] at *; omega)) ?_ | refine hC.imul [] rfl rfl (by first | omega | (simp only [Int.reduceToNat] at *; omega)) ?_ | refine hC.iinc [] rfl rfl rfl rfl (by first | omega | (simp only [Int.reduceToNat] at *; omega)) ?_ | refine hC.pfw (W := cx_C) [] rfl rfl rfl rfl rfl rfl ?_ ?_ | refine hC.iaw (W := cx_C) [] rfl rfl rfl rfl ?_ ?_ | refine hC.law (W := cx_C) [] rfl rfl rfl rfl ?_ ?_ | refine hC.cpw (W := cx_C) [] rfl rfl rfl rfl rfl rfl ?_ | refine hC.cpl (W := cx_C) [] rfl rfl rfl rfl rfl rfl ?_ | refine hC.go [] _ rfl rfl ?_ | (intro h; first | exact (h rfl).elim | (exfalso; cases h; done) | (dsimp only [kk_cP, kk_cN] at h) | skip)
  all_goals first | exact ⟨_, _, rfl, hJ5, _, rfl⟩ | omega
end CR4
