/-! BOOKS: the class reads one, to its end; its call -/
section BKL2
variable {T : Int → Nat → Int} {N : Int → Int} {Hs : Nat → Nat → Int} {f : Nat} {k c : Int}
theorem bk_lines_e (h : T c 3 = 1) : bk_lines T N Hs (f + 1) k c = .ok k := by rw [bk_lines, if_pos h]
theorem bk_lines_n (h : T c 3 ≠ 1) : bk_lines T N Hs (f + 1) k c = sp_b (bk_row T N Hs c k) (fun c' => bk_lines T N Hs f (k + 1) c') := by rw [bk_lines, if_neg h]
theorem bk_find_eq {Hs' : Nat → Nat → Int} (h1 : Hs 1 = Hs' 1) (h2 : Hs 2 = Hs' 2) (s : Nat) (c : Int) : sp_find T Hs s c = sp_find T Hs' s c := by
  unfold sp_find
  rw [h1, h2]
theorem bk_lines_eq {Hs' : Nat → Nat → Int} (h1 : Hs 1 = Hs' 1) (h2 : Hs 2 = Hs' 2) : ∀ (f : Nat) (k c : Int), bk_lines T N Hs f k c = bk_lines T N Hs' f k c
  | 0, _, _ => rfl
  | f + 1, k, c => by
    have e1 : bk_row T N Hs c k = bk_row T N Hs' c k := by
      unfold bk_row bk_line bk_do bk_ot
      simp only [bk_find_eq h1 h2]
    rw [bk_lines, bk_lines, e1]
    simp only [bk_lines_eq h1 h2 f]
end BKL2
/-- the fault behind a book -/
def bk_fl (sp : Except (Int × Int) Int) (v : Int) : Prop := (∃ k, sp = .ok k ∧ v = 0) ∨ (∃ e, sp = .error e ∧ v = e.1)
theorem bk_fl.det {sp : Except (Int × Int) Int} {v v' : Int} (h : bk_fl sp v) (h' : bk_fl sp v') : v = v' := by
  rcases h with ⟨k, e, q⟩ | ⟨k, e, q⟩ <;> rcases h' with ⟨k', e', q'⟩ | ⟨k', e', q'⟩
  · exact q.trans q'.symm
  · rw [e] at e'; cases e'
  · rw [e] at e'; cases e'
  · rw [e] at e'; cases e'; exact q.trans q'.symm
set_option maxRecDepth 100000 in
set_option maxHeartbeats 4000000 in
theorem bh_xReadFrom (l : Launch) (d : Nat) (T Bt : Nat → Int) {tn : Int} {a : Int → Int} {res : Nat → Int} (O A : Nat → Nat → Int) (hR : hr_J T Bt res (cc_in pX O) (cc_in pX A)) (ht : rt 13 14 15 tn a res O A) : kk_Ctr l (d + 6) en_t_X0_readFrom [(4, 0), (4, 12), (4, 5)] (cx_BHR O A) (fun rs w' => ∃ O' A', w' = cx_BHR O' A' ∧ bh_J T Bt res O A O' A' ∧ ((∃ k, bk_lines (tk_ob tn 400 a res) (tk_nx tn 400 a res) (fun p => A (5 + p)) 41 0 (tk_sk a 940 0) = .ok k ∧ rs = [(0, 1)] ∧ O' 12 9 = 0) ∨ (∃ e, bk_lines (tk_ob tn 400 a res) (tk_nx tn 400 a res) (fun p => A (5 + p)) 41 0 (tk_sk a 940 0) = .error e ∧ rs = [(0, 0)] ∧ O' 12 9 = e.1 ∧ O' 12 10 = e.2))) := by
  generalize hsp : bk_lines (tk_ob tn 400 a res) (tk_nx tn 400 a res) (fun p => A (5 + p)) 41 0 (tk_sk a 940 0) = sp
  refine kk_ctr en_hM (List.mem_of_getElem? (i := 45) rfl) rfl (Nat.le_of_ble_eq_true rfl) (fun K hC => ?_)
  have k14 : ∀ (n : Nat) (i : Int) (f : Nat) (c1 : Int) (O1 : Nat → Nat → Int) (A1 : Nat → Nat → Int), (42 - i).toNat < n → (0 ≤ i ∧ i ≤ 40) → ((f : Int) + i = 41) → (O1 0 4 = i) → (bh_J T Bt res O A O1 A1) → (rdw 12 13 14 15 tn 400 a res c1 O1 A1) → (bk_lines (tk_ob tn 400 a res) (tk_nx tn 400 a res) (fun p => A (5 + p)) f i c1 = sp) → K 14 [(0, (4, 0)), (1, (4, 12)), (2, (4, 5)), (3, (0, i))] [] (cx_BHR O1 A1) := by
    intro n
    induction n with
    | zero => intro i f c1 O1 A1 hz; exact absurd hz (Nat.not_lt_zero _)
    | succ n ih =>
      intro i f c1 O1 A1 hn g0 gf g4 hJ1 hr1 hs
      obtain ⟨f', rfl⟩ : ∃ f', f = f' + 1 := ⟨f - 1, by omega⟩
      have hkd := hr1.kd
      refine hC.go [] _ rfl rfl ?_
      repeat' first | refine hC.gw [14, 50] _ rfl rfl ?_ | refine And.intro ?_ ?_ | exact True.intro | refine hC.iadd [14, 50] rfl rfl (by first | omega | (simp only [Int.reduceToNat] at *; omega)) ?_ | refine hC.isub [14, 50] rfl rfl (by first | omega | (simp only [Int.reduceToNat] at *; omega)) ?_ | refine hC.imul [14, 50] rfl rfl (by first | omega | (simp only [Int.reduceToNat] at *; omega)) ?_ | refine hC.iinc [14, 50] rfl rfl rfl rfl (by first | omega | (simp only [Int.reduceToNat] at *; omega)) ?_ | refine hC.pfw (W := cx_BHR) [14, 50] rfl rfl rfl rfl rfl rfl ?_ ?_ | refine hC.iaw (W := cx_BHR) [14, 50] rfl rfl rfl rfl ?_ ?_ | refine hC.law (W := cx_BHR) [14, 50] rfl rfl rfl rfl ?_ ?_ | refine hC.cpw (W := cx_BHR) [14, 50] rfl rfl rfl rfl rfl rfl ?_ | refine hC.cpl (W := cx_BHR) [14, 50] rfl rfl rfl rfl rfl rfl ?_ | refine hC.go [14, 50] _ rfl rfl ?_ | (intro h; first | exact (h rfl).elim | (exfalso; cases h; done) | (dsimp only [kk_cP, kk_cN] at h) | skip)
      all_goals first | omega | skip
      · have hne : tk_ob tn 400 a res c1 3 ≠ 1 := by rw [← hkd]; assumption
        have hs1 := (bk_lines_n hne).symm.trans hs
        refine hC.same (bh_xReadLine l _ O1 A1 hJ1 hr1) rfl rfl rfl rfl (Nat.le_refl _) ?_
        rintro rs w' ⟨O2, A2, rfl, hJ2, e4, hl, ⟨c', es, rfl, hr2⟩ | ⟨e, es, rfl, q1, q2⟩⟩
        · obtain ⟨h40, hln⟩ := hl rfl
          rw [g4] at es
          repeat' first | refine hC.gw [14, 50] _ rfl rfl ?_ | refine And.intro ?_ ?_ | exact True.intro | refine hC.iadd [14, 50] rfl rfl (by first | omega | (simp only [Int.reduceToNat] at *; omega)) ?_ | refine hC.isub [14, 50] rfl rfl (by first | omega | (simp only [Int.reduceToNat] at *; omega)) ?_ | refine hC.imul [14, 50] rfl rfl (by first | omega | (simp only [Int.reduceToNat] at *; omega)) ?_ | refine hC.iinc [14, 50] rfl rfl rfl rfl (by first | omega | (simp only [Int.reduceToNat] at *; omega)) ?_ | refine hC.pfw (W := cx_BHR) [14, 50] rfl rfl rfl rfl rfl rfl ?_ ?_ | refine hC.iaw (W := cx_BHR) [14, 50] rfl rfl rfl rfl ?_ ?_ | refine hC.law (W := cx_BHR) [14, 50] rfl rfl rfl rfl ?_ ?_ | refine hC.cpw (W := cx_BHR) [14, 50] rfl rfl rfl rfl rfl rfl ?_ | refine hC.cpl (W := cx_BHR) [14, 50] rfl rfl rfl rfl rfl rfl ?_ | refine hC.go [14, 50] _ rfl rfl ?_ | (intro h; first | exact (h rfl).elim | (exfalso; cases h; done) | (dsimp only [kk_cP, kk_cN] at h) | skip)
          refine rx_takeSign (d' := 0) hC ce_BHR_R rfl 59 hr2 (by omega) rfl rfl rfl rfl rfl ?_ ?_
          · intro h59 r3 hr3
            have hs2 := hs1.symm.trans (sp_b_k (bk_row_k es (hr2.kd.symm.trans h59)))
            have hJ3 := hJ2.rd r3
            have e34 : mm_up O2 12 r3 0 4 = O2 0 4 := rfl
            generalize mm_up O2 12 r3 = O3 at hJ3 hr3 e34 ⊢
            have q4 : O3 0 4 < 40 := by omega
            have b4 : bl_ln A2 (O3 0 4).toNat := by rw [show O3 0 4 = O1 0 4 by omega]; exact hln
            have p4 : 0 ≤ O3 0 4 := by omega
            have o4 : O3 0 4 = i := by omega
            clear hJ1 hr1 hJ2 hr2 hln hl
            repeat' first | refine hC.gw [14] _ rfl rfl ?_ | refine And.intro ?_ ?_ | exact True.intro | refine hC.iadd [14] rfl rfl (by first | omega | (simp only [Int.reduceToNat] at *; omega)) ?_ | refine hC.isub [14] rfl rfl (by first | omega | (simp only [Int.reduceToNat] at *; omega)) ?_ | refine hC.imul [14] rfl rfl (by first | omega | (simp only [Int.reduceToNat] at *; omega)) ?_ | refine hC.iinc [14] rfl rfl rfl rfl (by first | omega | (simp only [Int.reduceToNat] at *; omega)) ?_ | refine hC.pfw (W := cx_BHR) [14] rfl rfl rfl rfl rfl rfl ?_ ?_ | refine hC.iaw (W := cx_BHR) [14] rfl rfl rfl rfl ?_ ?_ | refine hC.law (W := cx_BHR) [14] rfl rfl rfl rfl ?_ ?_ | refine hC.cpw (W := cx_BHR) [14] rfl rfl rfl rfl rfl rfl ?_ | refine hC.cpl (W := cx_BHR) [14] rfl rfl rfl rfl rfl rfl ?_ | refine hC.go [14] _ rfl rfl ?_ | (intro h; first | exact (h rfl).elim | (exfalso; cases h; done) | (dsimp only [kk_cP, kk_cN] at h) | skip)
            all_goals first | omega | skip
            exact hC.sub [(0, (4, 0)), (1, (4, 12)), (2, (4, 5)), (3, (0, _))] ⟨rfl, rfl, rfl, rfl, trivial⟩ (ih _ f' _ _ A2 (by omega) (by omega) (by omega) (show O3 0 4 + 1 = i + 1 by omega) (hJ3.inc q4 b4) (hr3.fld rfl rfl) hs2.symm)
          · intro h59 r3 f1 f2
            have hs2 := hs1.symm.trans (sp_b_e (bk_row_1 es (fun q => h59 (hr2.kd.trans q))))
            repeat' first | refine hC.gw [14, 50] _ rfl rfl ?_ | refine And.intro ?_ ?_ | exact True.intro | refine hC.iadd [14, 50] rfl rfl (by first | omega | (simp only [Int.reduceToNat] at *; omega)) ?_ | refine hC.isub [14, 50] rfl rfl (by first | omega | (simp only [Int.reduceToNat] at *; omega)) ?_ | refine hC.imul [14, 50] rfl rfl (by first | omega | (simp only [Int.reduceToNat] at *; omega)) ?_ | refine hC.iinc [14, 50] rfl rfl rfl rfl (by first | omega | (simp only [Int.reduceToNat] at *; omega)) ?_ | refine hC.pfw (W := cx_BHR) [14, 50] rfl rfl rfl rfl rfl rfl ?_ ?_ | refine hC.iaw (W := cx_BHR) [14, 50] rfl rfl rfl rfl ?_ ?_ | refine hC.law (W := cx_BHR) [14, 50] rfl rfl rfl rfl ?_ ?_ | refine hC.cpw (W := cx_BHR) [14, 50] rfl rfl rfl rfl rfl rfl ?_ | refine hC.cpl (W := cx_BHR) [14, 50] rfl rfl rfl rfl rfl rfl ?_ | refine hC.go [14, 50] _ rfl rfl ?_ | (intro h; first | exact (h rfl).elim | (exfalso; cases h; done) | (dsimp only [kk_cP, kk_cN] at h) | skip)
            all_goals first | exact Or.inl rfl | exact Or.inr rfl | exact ⟨_, _, rfl, hJ2.rd r3, Or.inr ⟨_, hs2, rfl, f1, f2.trans hr2.pl⟩⟩
        · rw [g4] at es
          repeat' first | refine hC.gw [14, 50] _ rfl rfl ?_ | refine And.intro ?_ ?_ | exact True.intro | refine hC.iadd [14, 50] rfl rfl (by first | omega | (simp only [Int.reduceToNat] at *; omega)) ?_ | refine hC.isub [14, 50] rfl rfl (by first | omega | (simp only [Int.reduceToNat] at *; omega)) ?_ | refine hC.imul [14, 50] rfl rfl (by first | omega | (simp only [Int.reduceToNat] at *; omega)) ?_ | refine hC.iinc [14, 50] rfl rfl rfl rfl (by first | omega | (simp only [Int.reduceToNat] at *; omega)) ?_ | refine hC.pfw (W := cx_BHR) [14, 50] rfl rfl rfl rfl rfl rfl ?_ ?_ | refine hC.iaw (W := cx_BHR) [14, 50] rfl rfl rfl rfl ?_ ?_ | refine hC.law (W := cx_BHR) [14, 50] rfl rfl rfl rfl ?_ ?_ | refine hC.cpw (W := cx_BHR) [14, 50] rfl rfl rfl rfl rfl rfl ?_ | refine hC.cpl (W := cx_BHR) [14, 50] rfl rfl rfl rfl rfl rfl ?_ | refine hC.go [14, 50] _ rfl rfl ?_ | (intro h; first | exact (h rfl).elim | (exfalso; cases h; done) | (dsimp only [kk_cP, kk_cN] at h) | skip)
          all_goals first | exact Or.inl rfl | exact Or.inr rfl | exact ⟨_, _, rfl, hJ2, Or.inr ⟨_, hs1.symm.trans (sp_b_e (bk_row_e es)), rfl, q1, q2⟩⟩
      · have he : tk_ob tn 400 a res c1 3 = 1 := by rw [← hkd]; assumption
        exact ⟨_, _, rfl, hJ1, Or.inl ⟨_, hs.symm.trans (bk_lines_e he), rfl, hr1.f9⟩⟩
  repeat' first | refine hC.gw [] _ rfl rfl ?_ | refine And.intro ?_ ?_ | exact True.intro | refine hC.iadd [] rfl rfl (by first | omega | (simp only [Int.reduceToNat] at *; omega)) ?_ | refine hC.isub [] rfl rfl (by first | omega | (simp only [Int.reduceToNat] at *; omega)) ?_ | refine hC.imul [] rfl rfl (by first | omega | (simp only [Int.reduceToNat] at *; omega)) ?_ | refine hC.iinc [] rfl rfl rfl rfl (by first | omega | (simp only [Int.reduceToNat] at *; omega)) ?_ | refine hC.pfw (W := cx_BHR) [] rfl rfl rfl rfl rfl rfl ?_ ?_ | refine hC.iaw (W := cx_BHR) [] rfl rfl rfl rfl ?_ ?_ | refine hC.law (W := cx_BHR) [] rfl rfl rfl rfl ?_ ?_ | refine hC.cpw (W := cx_BHR) [] rfl rfl rfl rfl rfl rfl ?_ | refine hC.cpl (W := cx_BHR) [] rfl rfl rfl rfl rfl rfl ?_ | refine hC.go [] _ rfl rfl ?_ | (intro h; first | exact (h rfl).elim | (exfalso; cases h; done) | (dsimp only [kk_cP, kk_cN] at h) | skip)
  have hJ0 : bh_J T Bt res O A (mm_up O 0 (kk_up (O 0) 4 0)) A := ⟨⟨(show (0 : Int) ≤ 0 ∧ (0 : Int) ≤ 40 by decide), fun j hj => absurd (show (j : Int) < 0 from hj) (by omega)⟩, hR, fun p h1 h2 => ⟨mm_up_ne (by omega), rfl⟩⟩
  have ht0 : rt 13 14 15 tn a res (mm_up O 0 (kk_up (O 0) 4 0)) A := ht
  refine rx_begin (d' := 0) hC ce_BHR_R rfl 400 ht0 (by omega) rfl rfl rfl rfl rfl ?_
  intro r3 f9 f10 hr3
  have hJ3 := hJ0.rd r3
  repeat' first | refine hC.gw [14] _ rfl rfl ?_ | refine And.intro ?_ ?_ | exact True.intro | refine hC.iadd [14] rfl rfl (by first | omega | (simp only [Int.reduceToNat] at *; omega)) ?_ | refine hC.isub [14] rfl rfl (by first | omega | (simp only [Int.reduceToNat] at *; omega)) ?_ | refine hC.imul [14] rfl rfl (by first | omega | (simp only [Int.reduceToNat] at *; omega)) ?_ | refine hC.iinc [14] rfl rfl rfl rfl (by first | omega | (simp only [Int.reduceToNat] at *; omega)) ?_ | refine hC.pfw (W := cx_BHR) [14] rfl rfl rfl rfl rfl rfl ?_ ?_ | refine hC.iaw (W := cx_BHR) [14] rfl rfl rfl rfl ?_ ?_ | refine hC.law (W := cx_BHR) [14] rfl rfl rfl rfl ?_ ?_ | refine hC.cpw (W := cx_BHR) [14] rfl rfl rfl rfl rfl rfl ?_ | refine hC.cpl (W := cx_BHR) [14] rfl rfl rfl rfl rfl rfl ?_ | refine hC.go [14] _ rfl rfl ?_ | (intro h; first | exact (h rfl).elim | (exfalso; cases h; done) | (dsimp only [kk_cP, kk_cN] at h) | skip)
  exact hC.sub [(0, (4, 0)), (1, (4, 12)), (2, (4, 5)), (3, (0, _))] ⟨rfl, rfl, rfl, rfl, trivial⟩ (k14 _ _ 41 _ _ A (Nat.lt_succ_self _) (by omega) (by omega) rfl hJ3 hr3 hsp)
set_option maxRecDepth 100000 in
set_option maxHeartbeats 4000000 in
theorem cr_xBook (l : Launch) (d : Nat) {Bc : ci_B} {tl k0 k1 : Int} (O A : Nat → Nat → Int) (hJ : ci_J Bc tl k0 k1 O A) (y : Int) : kk_Ctr l (d + 40) en_t_X10_book [(4, 0), (0, y)] (cx_C O A) (fun rs w' => ∃ O' A', w' = cx_C O' A' ∧ (∃ x, rs = [(0, x)]) ∧ ((¬ (0 ≤ y ∧ y ≤ 1) ∧ ci_J Bc tl k0 k1 O' A') ∨ ((0 ≤ y ∧ y ≤ 1) ∧ ∃ v, ci_J (cu Bc 15 v) 0 k0 k1 O' A' ∧ bk_fl (bk_lines (tk_ob tl 400 (fun i => tt_v 940 tl (Bc.2 2) i) (Bc.2 4)) (tk_nx tl 400 (fun i => tt_v 940 tl (Bc.2 2) i) (Bc.2 4)) (fun p => Bc.2 (5 + p)) 41 0 (tk_sk (fun i => tt_v 940 tl (Bc.2 2) i) 940 0)) v))) := by
  have q1 : 0 ≤ O 1 1 ∧ O 1 1 ≤ 940 := hJ.1 (3, 1) (by decide)
  have e1 : O 1 1 = tl := hJ.2.1
  have e4 : A 4 = Bc.2 4 := hJ.fr.2.1
  have a6 : A 6 = Bc.2 6 := hJ.fr.2.2.1.2.1
  have a7 : A 7 = Bc.2 7 := hJ.fr.2.2.1.2.2.1
  have ht : rt 13 14 15 tl (fun i => tt_v 940 tl (Bc.2 2) i) (A 4) (cc_in pC_BHR O) (cc_in pC_BHR A) := by
    refine ⟨e1, ?_, rfl, tt_cx _ _ (by omega) (by omega)⟩
    show (fun i => tt_v 940 tl (A 2) i) = _
    rw [hJ.fr.1]
  generalize (fun i => tt_v 940 tl (Bc.2 2) i) = a at ht ⊢
  generalize hsp : bk_lines (tk_ob tl 400 a (Bc.2 4)) (tk_nx tl 400 a (Bc.2 4)) (fun p => Bc.2 (5 + p)) 41 0 (tk_sk a 940 0) = sp
  refine kk_ctr en_hM (List.mem_of_getElem? (i := 27) rfl) rfl (Nat.le_of_ble_eq_true rfl) (fun K hC => ?_)
  have k63 : ∀ (O A : Nat → Nat → Int) (v : Int), 0 ≤ y → y ≤ 1 → ci_J (cu Bc 15 v) 0 k0 k1 O A → bk_fl sp v → bk_ok O A → K 63 [(0, (4, 0)), (1, (0, y))] [] (cx_C O A) := by
    intro O A v y1 y2 hJ hv hb
    repeat' first | refine hC.gw [] _ rfl rfl ?_ | refine And.intro ?_ ?_ | exact True.intro | refine hC.iadd [] rfl rfl (by first | omega | (simp only [Int.reduceToNat] at *; omega)) ?_ | refine hC.isub [] rfl rfl (by first | omega | (simp only [Int.reduceToNat] at *; omega)) ?_ | refine hC.imul [] rfl rfl (by first | omega | (simp only [Int.reduceToNat] at *; omega)) ?_ | refine hC.iinc [] rfl rfl rfl rfl (by first | omega | (simp only [Int.reduceToNat] at *; omega)) ?_ | refine hC.pfw (W := cx_C) [] rfl rfl rfl rfl rfl rfl ?_ ?_ | refine hC.iaw (W := cx_C) [] rfl rfl rfl rfl ?_ ?_ | refine hC.law (W := cx_C) [] rfl rfl rfl rfl ?_ ?_ | refine hC.cpw (W := cx_C) [] rfl rfl rfl rfl rfl rfl ?_ | refine hC.cpl (W := cx_C) [] rfl rfl rfl rfl rfl rfl ?_ | refine hC.go [] _ rfl rfl ?_ | (intro h; first | exact (h rfl).elim | (exfalso; cases h; done) | (dsimp only [kk_cP, kk_cN] at h) | skip)
    refine hC.at ce_C_LLt (ll_copyFrom l _ _ _) rfl rfl rfl rfl rfl rfl (Nat.le_refl _) ?_
    rintro rs O5 A5 ⟨rfl, c5, o5, s5⟩
    have hJ5 := hJ.llt c5 o5 s5
    have hb5 : bk_ok (cc_out O5 O pC_LLt 0) (cc_out A5 A pC_LLt 0) := hb
    generalize cc_out O5 O pC_LLt 0 = O6 at hJ5 hb5 ⊢
    generalize cc_out A5 A pC_LLt 0 = A6 at hJ5 hb5 ⊢
    clear c5 o5 s5 hb
    repeat' first | refine hC.gw [] _ rfl rfl ?_ | refine And.intro ?_ ?_ | exact True.intro | refine hC.iadd [] rfl rfl (by first | omega | (simp only [Int.reduceToNat] at *; omega)) ?_ | refine hC.isub [] rfl rfl (by first | omega | (simp only [Int.reduceToNat] at *; omega)) ?_ | refine hC.imul [] rfl rfl (by first | omega | (simp only [Int.reduceToNat] at *; omega)) ?_ | refine hC.iinc [] rfl rfl rfl rfl (by first | omega | (simp only [Int.reduceToNat] at *; omega)) ?_ | refine hC.pfw (W := cx_C) [] rfl rfl rfl rfl rfl rfl ?_ ?_ | refine hC.iaw (W := cx_C) [] rfl rfl rfl rfl ?_ ?_ | refine hC.law (W := cx_C) [] rfl rfl rfl rfl ?_ ?_ | refine hC.cpw (W := cx_C) [] rfl rfl rfl rfl rfl rfl ?_ | refine hC.cpl (W := cx_C) [] rfl rfl rfl rfl rfl rfl ?_ | refine hC.go [] _ rfl rfl ?_ | (intro h; first | exact (h rfl).elim | (exfalso; cases h; done) | (dsimp only [kk_cP, kk_cN] at h) | skip)
    refine hC.at ce_C_BL (bb_judge l _ _ _ ⟨hJ5.house.1, hJ5.house.2.1, (show lf_ok 27 O6 A6 from hJ5.1 (1, 27) (by decide)).2, (show lf_ok 27 O6 A6 from hJ5.1 (1, 27) (by decide)).1⟩ hb5.1 hb5.2) rfl rfl rfl rfl rfl rfl (Nat.le_refl _) ?_
    rintro rs O7 A7 ⟨⟨x, rfl⟩, hI7, s7⟩
    have hJ7 := hJ5.jdg hI7 s7
    generalize cc_out O7 O6 pC_BL 0 = O8 at hJ7 ⊢
    generalize cc_out A7 A6 pC_BL 0 = A8 at hJ7 ⊢
    clear hI7 s7 hb5
    repeat' first | refine hC.gw [91] _ rfl rfl ?_ | refine And.intro ?_ ?_ | exact True.intro | refine hC.iadd [91] rfl rfl (by first | omega | (simp only [Int.reduceToNat] at *; omega)) ?_ | refine hC.isub [91] rfl rfl (by first | omega | (simp only [Int.reduceToNat] at *; omega)) ?_ | refine hC.imul [91] rfl rfl (by first | omega | (simp only [Int.reduceToNat] at *; omega)) ?_ | refine hC.iinc [91] rfl rfl rfl rfl (by first | omega | (simp only [Int.reduceToNat] at *; omega)) ?_ | refine hC.pfw (W := cx_C) [91] rfl rfl rfl rfl rfl rfl ?_ ?_ | refine hC.iaw (W := cx_C) [91] rfl rfl rfl rfl ?_ ?_ | refine hC.law (W := cx_C) [91] rfl rfl rfl rfl ?_ ?_ | refine hC.cpw (W := cx_C) [91] rfl rfl rfl rfl rfl rfl ?_ | refine hC.cpl (W := cx_C) [91] rfl rfl rfl rfl rfl rfl ?_ | refine hC.go [91] _ rfl rfl ?_ | (intro h; first | exact (h rfl).elim | (exfalso; cases h; done) | (dsimp only [kk_cP, kk_cN] at h) | skip)
    all_goals first | exact ⟨_, _, rfl, ⟨_, rfl⟩, Or.inr ⟨⟨y1, y2⟩, v, hJ7, hv⟩⟩ | omega | skip
    repeat' first | refine hC.gw [] _ rfl rfl ?_ | refine And.intro ?_ ?_ | exact True.intro | refine hC.iadd [] rfl rfl (by first | omega | (simp only [Int.reduceToNat] at *; omega)) ?_ | refine hC.isub [] rfl rfl (by first | omega | (simp only [Int.reduceToNat] at *; omega)) ?_ | refine hC.imul [] rfl rfl (by first | omega | (simp only [Int.reduceToNat] at *; omega)) ?_ | refine hC.iinc [] rfl rfl rfl rfl (by first | omega | (simp only [Int.reduceToNat] at *; omega)) ?_ | refine hC.pfw (W := cx_C) [] rfl rfl rfl rfl rfl rfl ?_ ?_ | refine hC.iaw (W := cx_C) [] rfl rfl rfl rfl ?_ ?_ | refine hC.law (W := cx_C) [] rfl rfl rfl rfl ?_ ?_ | refine hC.cpw (W := cx_C) [] rfl rfl rfl rfl rfl rfl ?_ | refine hC.cpl (W := cx_C) [] rfl rfl rfl rfl rfl rfl ?_ | refine hC.go [] _ rfl rfl ?_ | (intro h; first | exact (h rfl).elim | (exfalso; cases h; done) | (dsimp only [kk_cP, kk_cN] at h) | skip)
    refine cw_keep hC hJ7 (Nat.le_refl _) rfl rfl rfl rfl rfl ?_
    intro O9 A9 hJ9 eK eT
    repeat' first | refine hC.gw [] _ rfl rfl ?_ | refine And.intro ?_ ?_ | exact True.intro | refine hC.iadd [] rfl rfl (by first | omega | (simp only [Int.reduceToNat] at *; omega)) ?_ | refine hC.isub [] rfl rfl (by first | omega | (simp only [Int.reduceToNat] at *; omega)) ?_ | refine hC.imul [] rfl rfl (by first | omega | (simp only [Int.reduceToNat] at *; omega)) ?_ | refine hC.iinc [] rfl rfl rfl rfl (by first | omega | (simp only [Int.reduceToNat] at *; omega)) ?_ | refine hC.pfw (W := cx_C) [] rfl rfl rfl rfl rfl rfl ?_ ?_ | refine hC.iaw (W := cx_C) [] rfl rfl rfl rfl ?_ ?_ | refine hC.law (W := cx_C) [] rfl rfl rfl rfl ?_ ?_ | refine hC.cpw (W := cx_C) [] rfl rfl rfl rfl rfl rfl ?_ | refine hC.cpl (W := cx_C) [] rfl rfl rfl rfl rfl rfl ?_ | refine hC.go [] _ rfl rfl ?_ | (intro h; first | exact (h rfl).elim | (exfalso; cases h; done) | (dsimp only [kk_cP, kk_cN] at h) | skip)
    refine hC.at ce_C_LLu (ll_copyFrom l _ _ _) rfl rfl rfl rfl rfl rfl (Nat.le_refl _) ?_
    rintro rs O11 A11 ⟨rfl, c11, o11, s11⟩
    have hJ11 := hJ9.llu c11 o11 s11
    generalize cc_out O11 O9 pC_LLu 0 = O12 at hJ11 ⊢
    generalize cc_out A11 A9 pC_LLu 0 = A12 at hJ11 ⊢
    repeat' first | refine hC.gw [] _ rfl rfl ?_ | refine And.intro ?_ ?_ | exact True.intro | refine hC.iadd [] rfl rfl (by first | omega | (simp only [Int.reduceToNat] at *; omega)) ?_ | refine hC.isub [] rfl rfl (by first | omega | (simp only [Int.reduceToNat] at *; omega)) ?_ | refine hC.imul [] rfl rfl (by first | omega | (simp only [Int.reduceToNat] at *; omega)) ?_ | refine hC.iinc [] rfl rfl rfl rfl (by first | omega | (simp only [Int.reduceToNat] at *; omega)) ?_ | refine hC.pfw (W := cx_C) [] rfl rfl rfl rfl rfl rfl ?_ ?_ | refine hC.iaw (W := cx_C) [] rfl rfl rfl rfl ?_ ?_ | refine hC.law (W := cx_C) [] rfl rfl rfl rfl ?_ ?_ | refine hC.cpw (W := cx_C) [] rfl rfl rfl rfl rfl rfl ?_ | refine hC.cpl (W := cx_C) [] rfl rfl rfl rfl rfl rfl ?_ | refine hC.go [] _ rfl rfl ?_ | (intro h; first | exact (h rfl).elim | (exfalso; cases h; done) | (dsimp only [kk_cP, kk_cN] at h) | skip)
    all_goals first | exact ⟨_, _, rfl, ⟨_, rfl⟩, Or.inr ⟨⟨y1, y2⟩, v, hJ11, hv⟩⟩ | omega
  have k13 : 0 ≤ y → y ≤ 1 → K 13 [(0, (4, 0)), (1, (0, y))] [] (cx_C O A) := by
    intro y1 y2
    repeat' first | refine hC.gw [] _ rfl rfl ?_ | refine And.intro ?_ ?_ | exact True.intro | refine hC.iadd [] rfl rfl (by first | omega | (simp only [Int.reduceToNat] at *; omega)) ?_ | refine hC.isub [] rfl rfl (by first | omega | (simp only [Int.reduceToNat] at *; omega)) ?_ | refine hC.imul [] rfl rfl (by first | omega | (simp only [Int.reduceToNat] at *; omega)) ?_ | refine hC.iinc [] rfl rfl rfl rfl (by first | omega | (simp only [Int.reduceToNat] at *; omega)) ?_ | refine hC.pfw (W := cx_C) [] rfl rfl rfl rfl rfl rfl ?_ ?_ | refine hC.iaw (W := cx_C) [] rfl rfl rfl rfl ?_ ?_ | refine hC.law (W := cx_C) [] rfl rfl rfl rfl ?_ ?_ | refine hC.cpw (W := cx_C) [] rfl rfl rfl rfl rfl rfl ?_ | refine hC.cpl (W := cx_C) [] rfl rfl rfl rfl rfl rfl ?_ | refine hC.go [] _ rfl rfl ?_ | (intro h; first | exact (h rfl).elim | (exfalso; cases h; done) | (dsimp only [kk_cP, kk_cN] at h) | skip)
    refine hC.at ce_C_BHR (bh_xReadFrom l _ (O 1) (A 2) (res := A 4) _ _ ⟨hJ.house.1, hJ.house.2.2, hJ.house.2.1, rfl, rfl, q1, rfl⟩ ht) rfl rfl rfl rfl rfl rfl (Nat.le_refl _) ?_
    rintro rs O5 A5 ⟨hr, hrs⟩
    have hrs : (∃ k, sp = .ok k ∧ rs = [(0, 1)] ∧ O5 12 9 = 0) ∨ (∃ e, sp = .error e ∧ rs = [(0, 0)] ∧ O5 12 9 = e.1 ∧ O5 12 10 = e.2) := by
      rw [e4, bk_lines_eq (Hs := fun p => cc_in pC_BHR A (5 + p)) (Hs' := fun p => Bc.2 (5 + p)) a6 a7, hsp] at hrs
      exact hrs
    have hJ5 := hJ.rdB hr
    have hb5 : bk_ok (cc_out O5 O pC_BHR 0) (cc_out A5 A pC_BHR 0) := hr.1
    have y9 : cc_out O5 O pC_BHR 0 3 = O5 12 := rfl
    generalize cc_out O5 O pC_BHR 0 = O6 at hJ5 hb5 y9 ⊢
    generalize cc_out A5 A pC_BHR 0 = A6 at hJ5 hb5 ⊢
    clear hr
    rcases hrs with ⟨k, hk, rfl, g9⟩ | ⟨e, he, rfl, g1, g2⟩
    · have hv : bk_fl sp (O6 3 9) := Or.inl ⟨k, hk, by rw [y9]; exact g9⟩
      repeat' first | refine hC.gw [63] _ rfl rfl ?_ | refine And.intro ?_ ?_ | exact True.intro | refine hC.iadd [63] rfl rfl (by first | omega | (simp only [Int.reduceToNat] at *; omega)) ?_ | refine hC.isub [63] rfl rfl (by first | omega | (simp only [Int.reduceToNat] at *; omega)) ?_ | refine hC.imul [63] rfl rfl (by first | omega | (simp only [Int.reduceToNat] at *; omega)) ?_ | refine hC.iinc [63] rfl rfl rfl rfl (by first | omega | (simp only [Int.reduceToNat] at *; omega)) ?_ | refine hC.pfw (W := cx_C) [63] rfl rfl rfl rfl rfl rfl ?_ ?_ | refine hC.iaw (W := cx_C) [63] rfl rfl rfl rfl ?_ ?_ | refine hC.law (W := cx_C) [63] rfl rfl rfl rfl ?_ ?_ | refine hC.cpw (W := cx_C) [63] rfl rfl rfl rfl rfl rfl ?_ | refine hC.cpl (W := cx_C) [63] rfl rfl rfl rfl rfl rfl ?_ | refine hC.go [63] _ rfl rfl ?_ | (intro h; first | exact (h rfl).elim | (exfalso; cases h; done) | (dsimp only [kk_cP, kk_cN] at h) | skip)
      all_goals first | omega | exact hC.sub [(0, (4, 0)), (1, (0, y))] ⟨rfl, rfl, trivial⟩ (k63 _ _ _ y1 y2 ((hJ5.len (by decide) (by decide)).fxc) hv hb5)
    · have hv : bk_fl sp (O6 3 9) := Or.inr ⟨e, he, by rw [y9]; exact g1⟩
      repeat' first | refine hC.gw [63] _ rfl rfl ?_ | refine And.intro ?_ ?_ | exact True.intro | refine hC.iadd [63] rfl rfl (by first | omega | (simp only [Int.reduceToNat] at *; omega)) ?_ | refine hC.isub [63] rfl rfl (by first | omega | (simp only [Int.reduceToNat] at *; omega)) ?_ | refine hC.imul [63] rfl rfl (by first | omega | (simp only [Int.reduceToNat] at *; omega)) ?_ | refine hC.iinc [63] rfl rfl rfl rfl (by first | omega | (simp only [Int.reduceToNat] at *; omega)) ?_ | refine hC.pfw (W := cx_C) [63] rfl rfl rfl rfl rfl rfl ?_ ?_ | refine hC.iaw (W := cx_C) [63] rfl rfl rfl rfl ?_ ?_ | refine hC.law (W := cx_C) [63] rfl rfl rfl rfl ?_ ?_ | refine hC.cpw (W := cx_C) [63] rfl rfl rfl rfl rfl rfl ?_ | refine hC.cpl (W := cx_C) [63] rfl rfl rfl rfl rfl rfl ?_ | refine hC.go [63] _ rfl rfl ?_ | (intro h; first | exact (h rfl).elim | (exfalso; cases h; done) | (dsimp only [kk_cP, kk_cN] at h) | skip)
      all_goals first | omega | exact ⟨_, _, rfl, ⟨_, rfl⟩, Or.inr ⟨⟨y1, y2⟩, _, (hJ5.len (by decide) (by decide)).fxc, hv⟩⟩
  repeat' first | refine hC.gw [13] _ rfl rfl ?_ | refine And.intro ?_ ?_ | exact True.intro | refine hC.iadd [13] rfl rfl (by first | omega | (simp only [Int.reduceToNat] at *; omega)) ?_ | refine hC.isub [13] rfl rfl (by first | omega | (simp only [Int.reduceToNat] at *; omega)) ?_ | refine hC.imul [13] rfl rfl (by first | omega | (simp only [Int.reduceToNat] at *; omega)) ?_ | refine hC.iinc [13] rfl rfl rfl rfl (by first | omega | (simp only [Int.reduceToNat] at *; omega)) ?_ | refine hC.pfw (W := cx_C) [13] rfl rfl rfl rfl rfl rfl ?_ ?_ | refine hC.iaw (W := cx_C) [13] rfl rfl rfl rfl ?_ ?_ | refine hC.law (W := cx_C) [13] rfl rfl rfl rfl ?_ ?_ | refine hC.cpw (W := cx_C) [13] rfl rfl rfl rfl rfl rfl ?_ | refine hC.cpl (W := cx_C) [13] rfl rfl rfl rfl rfl rfl ?_ | refine hC.go [13] _ rfl rfl ?_ | (intro h; first | exact (h rfl).elim | (exfalso; cases h; done) | (dsimp only [kk_cP, kk_cN] at h) | skip) | (refine hC.call (xx_isWithin l _ _ _ _) [] rfl rfl rfl rfl rfl rfl trivial (Nat.le_refl _) ?_; rintro rs w' ⟨rfl, ⟨rfl, w1, w2⟩ | ⟨rfl, w1⟩⟩)
  all_goals first | exact ⟨_, _, rfl, ⟨_, rfl⟩, Or.inl ⟨by assumption, hJ⟩⟩ | exact k13 (by omega) (by omega) | omega
