/-! COVER, COVERING, FITS, WATCH: calls -/
set_option maxRecDepth 100000 in
set_option maxHeartbeats 4000000 in
theorem cr_xCover (l : Launch) (d : Nat) {Bc : ci_B} {Bm : Nat → Nat → Int} {a b tl : Int} (O A : Nat → Nat → Int) (hJ : ci_J Bc tl a b O A) (hA : al Bc Bm tl a b) : kk_Ctr l (d + 40) en_t_X10_cover [(4, 0)] (cx_C O A) (fun rs w' => ∃ O' A', w' = cx_C O' A' ∧ ci_J (cu Bc 16 (cg_V Bm)) tl a b O' A' ∧ ∃ x, rs = [(0, x)] ∧ x = cv_V Bm) := by
  obtain ⟨-, -, ⟨-, a1, -, -, a4, -, -⟩, -⟩ := hJ.fr
  obtain ⟨-, -, -, ⟨⟨-, -, -, c2⟩, ⟨n0, n1, n2⟩, -, n5, -⟩, -⟩ := hA.1
  have e2 : A 6 2 = Bm 2 2 := (congrFun a1 2).trans n2.symm
  have hb : A 6 2 ≤ 10 := by rw [e2, n2]; exact c2
  have h0 := hJ.house.1.2.2.1
  have h0' : 0 ≤ A 6 2 := h0
  have hcb : cb (A 9) (A 6 2).toNat (2 ^ (A 6 2).toNat) = cb (fun c => Bm 2 (15 + c)) (Bm 2 2).toNat (2 ^ (Bm 2 2).toNat) := by
    rw [← e2]
    exact cb_eq (fun j hj => (congrFun a4 j).trans (n5 j (by omega)).2.1.symm)
  have hg : ((cb (A 9) (A 6 2).toNat (2 ^ (A 6 2).toNat) : Nat) : Int) = cg_V Bm := by unfold cg_V; rw [hcb]
  have hv : bcv ((cb (A 9) (A 6 2).toNat (2 ^ (A 6 2).toNat) : Nat) : Int) = cv_V Bm := by
    have hp := p2_le (n := (A 6 2).toNat) (by omega)
    have hl := cb_le (m := A 9) (n := (A 6 2).toNat) (Nat.le_refl _)
    rw [bcv_pcn0 _ (by omega), hcb]
    rfl
  generalize hGG : ((cb (A 9) (A 6 2).toNat (2 ^ (A 6 2).toNat) : Nat) : Int) = G at hg hv
  generalize cv_V Bm = V at *
  generalize cg_V Bm = W at *
  refine kk_ctr en_hM (List.mem_of_getElem? (i := 15) rfl) rfl (Nat.le_of_ble_eq_true rfl) (fun K hC => ?_)
  repeat' first | refine hC.gw [] _ rfl rfl ?_ | refine And.intro ?_ ?_ | exact True.intro | refine hC.iadd [] rfl rfl (by first | omega | (simp only [Int.reduceToNat] at *; omega)) ?_ | refine hC.isub [] rfl rfl (by first | omega | (simp only [Int.reduceToNat] at *; omega)) ?_ | refine hC.imul [] rfl rfl (by first | omega | (simp only [Int.reduceToNat] at *; omega)) ?_ | refine hC.iinc [] rfl rfl rfl rfl (by first | omega | (simp only [Int.reduceToNat] at *; omega)) ?_ | refine hC.pfw (W := cx_C) [] rfl rfl rfl rfl rfl rfl ?_ ?_ | refine hC.iaw (W := cx_C) [] rfl rfl rfl rfl ?_ ?_ | refine hC.law (W := cx_C) [] rfl rfl rfl rfl ?_ ?_ | refine hC.cpw (W := cx_C) [] rfl rfl rfl rfl rfl rfl ?_ | refine hC.cpl (W := cx_C) [] rfl rfl rfl rfl rfl rfl ?_ | refine hC.go [] _ rfl rfl ?_ | (intro h; first | exact (h rfl).elim | (exfalso; cases h; done) | (dsimp only [kk_cP, kk_cN] at h) | skip)
  refine hC.rd ce_C_H (hh_xLeastCover l _ _ _ hJ.house.1) rfl rfl rfl rfl rfl rfl (Nat.le_refl _) ?_
  rintro rs ⟨x, rfl, hx⟩
  have hx : x = G := (show x = ((cb (A 9) (A 6 2).toNat (2 ^ (A 6 2).toNat) : Nat) : Int) from hx).trans hGG
  clear hcb hGG
  repeat' first | refine hC.gw [] _ rfl rfl ?_ | refine And.intro ?_ ?_ | exact True.intro | refine hC.iadd [] rfl rfl (by first | omega | (simp only [Int.reduceToNat] at *; omega)) ?_ | refine hC.isub [] rfl rfl (by first | omega | (simp only [Int.reduceToNat] at *; omega)) ?_ | refine hC.imul [] rfl rfl (by first | omega | (simp only [Int.reduceToNat] at *; omega)) ?_ | refine hC.iinc [] rfl rfl rfl rfl (by first | omega | (simp only [Int.reduceToNat] at *; omega)) ?_ | refine hC.pfw (W := cx_C) [] rfl rfl rfl rfl rfl rfl ?_ ?_ | refine hC.iaw (W := cx_C) [] rfl rfl rfl rfl ?_ ?_ | refine hC.law (W := cx_C) [] rfl rfl rfl rfl ?_ ?_ | refine hC.cpw (W := cx_C) [] rfl rfl rfl rfl rfl rfl ?_ | refine hC.cpl (W := cx_C) [] rfl rfl rfl rfl rfl rfl ?_ | refine hC.go [] _ rfl rfl ?_ | (intro h; first | exact (h rfl).elim | (exfalso; cases h; done) | (dsimp only [kk_cP, kk_cN] at h) | skip)
  refine hC.call (jj_xBits l _ _) [] rfl rfl rfl rfl rfl rfl trivial (Nat.le_refl _) ?_
  rintro rs w' ⟨rfl, y, rfl, hy⟩
  have hy : y = V := (show y = bcv x from hy).trans ((congrArg bcv hx).trans hv)
  have hJx : ci_J (cu Bc 16 W) tl a b (mm_up O 0 (kk_up (O 0) 16 x)) A := by
    rw [show W = x from hg.symm.trans hx.symm]
    exact hJ.fxc
  clear hv hx hg
  repeat' first | refine hC.gw [] _ rfl rfl ?_ | refine And.intro ?_ ?_ | exact True.intro | refine hC.iadd [] rfl rfl (by first | omega | (simp only [Int.reduceToNat] at *; omega)) ?_ | refine hC.isub [] rfl rfl (by first | omega | (simp only [Int.reduceToNat] at *; omega)) ?_ | refine hC.imul [] rfl rfl (by first | omega | (simp only [Int.reduceToNat] at *; omega)) ?_ | refine hC.iinc [] rfl rfl rfl rfl (by first | omega | (simp only [Int.reduceToNat] at *; omega)) ?_ | refine hC.pfw (W := cx_C) [] rfl rfl rfl rfl rfl rfl ?_ ?_ | refine hC.iaw (W := cx_C) [] rfl rfl rfl rfl ?_ ?_ | refine hC.law (W := cx_C) [] rfl rfl rfl rfl ?_ ?_ | refine hC.cpw (W := cx_C) [] rfl rfl rfl rfl rfl rfl ?_ | refine hC.cpl (W := cx_C) [] rfl rfl rfl rfl rfl rfl ?_ | refine hC.go [] _ rfl rfl ?_ | (intro h; first | exact (h rfl).elim | (exfalso; cases h; done) | (dsimp only [kk_cP, kk_cN] at h) | skip)
  all_goals first | omega | exact ⟨_, _, rfl, hJx, _, rfl, hy⟩
set_option maxRecDepth 100000 in
set_option maxHeartbeats 4000000 in
theorem mm_xCover (l : Launch) (d : Nat) {Bm : Nat → Nat → Int} (F : Nat → Int) (A : Nat → Nat → Int) (hI : mm_I Bm F A) : kk_Ctr l (d + 2) en_t_X11_cover [(4, 0)] (mm_w F A) (fun rs w' => ∃ F' A', w' = mm_w F' A' ∧ mm_I (mu Bm 1 (cg_V Bm)) F' A' ∧ F' 2 = F 2 ∧ A' 10 = A 10 ∧ ∃ x, rs = [(0, x)] ∧ x = cv_V Bm) := by
  have fr := hI.f2
  obtain ⟨c1, c2, c3, c4, c5, c6⟩ := hI.cn
  have eN : A 2 2 = Bm 2 2 := fr 2 (by decide)
  obtain ⟨N, hN⟩ : ∃ N : Nat, A 2 2 = (N : Int) := ⟨(A 2 2).toNat, by omega⟩
  have hN9 : N ≤ 10 := by omega
  have hP := p2_le hN9
  have hS : kk_i2 6 1 (A 2 2) = ((2 ^ N : Nat) : Int) := by rw [hN]; exact shl_p N (by omega)
  have hS' : kk_i2 6 1 (A 2 (Int.toNat 2)) = ((2 ^ N : Nat) : Int) := hS
  have em : ∀ s : Nat, s < 2 ^ N → mb (fun c => A 2 (15 + c)) (s : Int) 10 = mb (fun c => A 2 (15 + c)) (s : Int) N := fun s hs => by
    have q := mb_hi (m := fun c => A 2 (15 + c)) hs (by omega) (10 - N) (by omega)
    rw [show N + (10 - N) = 10 by omega] at q
    exact q
  have hre := rc_end (m := fun c => A 2 (15 + c)) hN9
  have hcb : cb (fun c => A 2 (15 + c)) N (2 ^ N) = cb (fun c => Bm 2 (15 + c)) (Bm 2 2).toNat (2 ^ (Bm 2 2).toNat) := by
    rw [← eN, hN, Int.toNat_natCast]
    exact cb_eq (fun j hj => fr (15 + j) (by omega))
  have hg : ((cb (fun c => A 2 (15 + c)) N (2 ^ N) : Nat) : Int) = cg_V Bm := by unfold cg_V; rw [hcb]
  have hv : pcn (cb (fun c => A 2 (15 + c)) N (2 ^ N)) = cv_V Bm := by rw [hcb]; rfl
  have hl := cb_le (m := fun c => A 2 (15 + c)) (n := N) (Nat.le_refl _)
  generalize cb (fun c => A 2 (15 + c)) N (2 ^ N) = C at hre hg hv hl
  generalize cv_V Bm = V at *
  generalize cg_V Bm = W at *
  clear fr hcb
  generalize hPP : 2 ^ N = P at hP hS hS' em hre hl
  refine kk_ctr en_hM (List.mem_of_getElem? (i := 184) rfl) rfl (Nat.le_of_ble_eq_true rfl) (fun K hC => ?_)
  repeat' first | refine hC.gn [5] _ rfl rfl ?_ | refine And.intro ?_ ?_ | exact True.intro | refine hC.iadd [5] rfl rfl (by first | omega | (simp only [Int.reduceToNat] at *; omega)) ?_ | refine hC.isub [5] rfl rfl (by first | omega | (simp only [Int.reduceToNat] at *; omega)) ?_ | refine hC.imul [5] rfl rfl (by first | omega | (simp only [Int.reduceToNat] at *; omega)) ?_ | refine hC.iinc [5] rfl rfl rfl rfl (by first | omega | (simp only [Int.reduceToNat] at *; omega)) ?_ | refine hC.go [5] _ rfl rfl ?_ | (intro h; first | exact (h rfl).elim | (exfalso; cases h; done) | (dsimp only [kk_cP, kk_cN] at h) | skip)
  refine (show ∀ F1 : Nat → Int, F1 2 = F 2 → mm_I Bm F1 A → K 5 [(0, (4, 0))] [] (mm_w F1 A) from ?_) (kk_up F 0 0) rfl hI
  clear hI
  intro F1 e2 hI
  have k24 : ∀ (n : Nat) (i : Int) (x : Int) (z : Int), (1025 - i).toNat < n → (0 ≤ i ∧ i ≤ (P : Int)) → (z = mb (fun c => A 2 (15 + c)) ((P - 1 : Nat) : Int) N) → (x = rb (fun c => A 2 (15 + c)) N i.toNat) → K 24 [(0, (4, 0)), (1, (0, z)), (2, (0, x)), (3, (0, i))] [] (mm_w F1 A) := by
    intro n
    induction n with
    | zero => intro i x z hz; exact absurd hz (Nat.not_lt_zero _)
    | succ n ih =>
      intro i x z hn g0 g1 g2
      refine hC.go [] _ rfl rfl ?_
      repeat' first | refine hC.gn [24] _ rfl rfl ?_ | refine And.intro ?_ ?_ | exact True.intro | refine hC.iadd [24] rfl rfl (by first | omega | (simp only [Int.reduceToNat] at *; omega)) ?_ | refine hC.isub [24] rfl rfl (by first | omega | (simp only [Int.reduceToNat] at *; omega)) ?_ | refine hC.imul [24] rfl rfl (by first | omega | (simp only [Int.reduceToNat] at *; omega)) ?_ | refine hC.iinc [24] rfl rfl rfl rfl (by first | omega | (simp only [Int.reduceToNat] at *; omega)) ?_ | refine hC.go [24] _ rfl rfl ?_ | (intro h; first | exact (h rfl).elim | (exfalso; cases h; done) | (dsimp only [kk_cP, kk_cN] at h) | skip)
      all_goals first | rfl | omega | skip
      · have h' : kk_i2 6 1 (A 2 2) ≤ i := h
        rw [hS] at h'
        have hx : x = (C : Int) := by rw [g2, show i.toNat = P by omega]; exact hre
        refine hC.call (mm_xBits l _ _ (by omega) (by omega)) [] rfl rfl rfl rfl rfl rfl trivial (Nat.le_refl _) ?_
        rintro rs w' ⟨rfl, y, rfl, hy⟩
        repeat' first | refine hC.gn [] _ rfl rfl ?_ | refine And.intro ?_ ?_ | exact True.intro | refine hC.iadd [] rfl rfl (by first | omega | (simp only [Int.reduceToNat] at *; omega)) ?_ | refine hC.isub [] rfl rfl (by first | omega | (simp only [Int.reduceToNat] at *; omega)) ?_ | refine hC.imul [] rfl rfl (by first | omega | (simp only [Int.reduceToNat] at *; omega)) ?_ | refine hC.iinc [] rfl rfl rfl rfl (by first | omega | (simp only [Int.reduceToNat] at *; omega)) ?_ | refine hC.go [] _ rfl rfl ?_ | (intro h; first | exact (h rfl).elim | (exfalso; cases h; done) | (dsimp only [kk_cP, kk_cN] at h) | skip)
        all_goals first | rfl | exact ⟨kk_up F1 26 x, A, rfl, (by rw [show W = x from hg.symm.trans hx.symm]; exact hI.cov), e2, rfl, _, rfl, (by rw [hy, hx, Int.toNat_natCast]; exact hv)⟩
      · have h' : i < kk_i2 6 1 (A 2 2) := h
        rw [hS] at h'
        have rbb := rb_b (m := fun c => A 2 (15 + c)) (n := N) (k := i.toNat)
        have ei : ((i.toNat : Nat) : Int) = i := by omega
        have e1 : (i + 1).toNat = i.toNat + 1 := by omega
        have em1 := em i.toNat (by omega)
        rw [ei] at em1
        have cvi : cvp (fun c => A 2 (15 + c)) N i.toNat ↔ mb (fun c => A 2 (15 + c)) i 10 = z := by
          show mb (fun c => A 2 (15 + c)) ((i.toNat : Nat) : Int) N = mb (fun c => A 2 (15 + c)) ((2 ^ N - 1 : Nat) : Int) N ↔ _
          rw [ei, hPP, em1, g1]
        refine hC.same (mm_xMustBy l _ F1 A i (by omega)) rfl rfl rfl rfl (Nat.le_refl _) ?_
        rintro rs w' ⟨rfl, xw, rfl, hw⟩
        repeat' first | refine hC.gn [24] _ rfl rfl ?_ | refine And.intro ?_ ?_ | exact True.intro | refine hC.iadd [24] rfl rfl (by first | omega | (simp only [Int.reduceToNat] at *; omega)) ?_ | refine hC.isub [24] rfl rfl (by first | omega | (simp only [Int.reduceToNat] at *; omega)) ?_ | refine hC.imul [24] rfl rfl (by first | omega | (simp only [Int.reduceToNat] at *; omega)) ?_ | refine hC.iinc [24] rfl rfl rfl rfl (by first | omega | (simp only [Int.reduceToNat] at *; omega)) ?_ | refine hC.go [24] _ rfl rfl ?_ | (intro h; first | exact (h rfl).elim | (exfalso; cases h; done) | (dsimp only [kk_cP, kk_cN] at h) | skip)
        all_goals first | omega | skip
        · have h3 : xw ≠ z := h
          exact hC.sub [(0, (4, 0)), (1, (0, _)), (2, (0, _)), (3, (0, _))] ⟨rfl, rfl, rfl, rfl, trivial⟩ (ih _ _ _ (by omega) (by omega) g1 (by rw [e1, rb_no (fun q => h3 (hw.trans (cvi.mp q.1))), g2]))
        · have h3 : x = -1 := h
          exact hC.sub [(0, (4, 0)), (1, (0, _)), (2, (0, _)), (3, (0, _))] ⟨rfl, rfl, rfl, rfl, trivial⟩ (ih _ _ _ (by omega) (by omega) g1 (by rw [e1, rb_ye ⟨cvi.mpr (hw.symm.trans (by assumption)), Or.inl (g2.symm.trans h3)⟩, ei]))
        · have h3 : x ≠ -1 := h
          have h6 : xw = z := by assumption
          refine hC.call (mm_xBits l _ _ (by omega) (by omega)) [] rfl rfl rfl rfl rfl rfl trivial (Nat.le_refl _) ?_
          rintro rs w' ⟨rfl, y1, rfl, hy1⟩
          repeat' first | refine hC.gn [24] _ rfl rfl ?_ | refine And.intro ?_ ?_ | exact True.intro | refine hC.iadd [24] rfl rfl (by first | omega | (simp only [Int.reduceToNat] at *; omega)) ?_ | refine hC.isub [24] rfl rfl (by first | omega | (simp only [Int.reduceToNat] at *; omega)) ?_ | refine hC.imul [24] rfl rfl (by first | omega | (simp only [Int.reduceToNat] at *; omega)) ?_ | refine hC.iinc [24] rfl rfl rfl rfl (by first | omega | (simp only [Int.reduceToNat] at *; omega)) ?_ | refine hC.go [24] _ rfl rfl ?_ | (intro h; first | exact (h rfl).elim | (exfalso; cases h; done) | (dsimp only [kk_cP, kk_cN] at h) | skip)
          refine hC.call (mm_xBits l _ _ (by omega) (by omega)) [] rfl rfl rfl rfl rfl rfl trivial (Nat.le_refl _) ?_
          rintro rs w' ⟨rfl, y2, rfl, hy2⟩
          rw [g2] at hy2
          repeat' first | refine hC.gn [24] _ rfl rfl ?_ | refine And.intro ?_ ?_ | exact True.intro | refine hC.iadd [24] rfl rfl (by first | omega | (simp only [Int.reduceToNat] at *; omega)) ?_ | refine hC.isub [24] rfl rfl (by first | omega | (simp only [Int.reduceToNat] at *; omega)) ?_ | refine hC.imul [24] rfl rfl (by first | omega | (simp only [Int.reduceToNat] at *; omega)) ?_ | refine hC.iinc [24] rfl rfl rfl rfl (by first | omega | (simp only [Int.reduceToNat] at *; omega)) ?_ | refine hC.go [24] _ rfl rfl ?_ | (intro h; first | exact (h rfl).elim | (exfalso; cases h; done) | (dsimp only [kk_cP, kk_cN] at h) | skip)
          all_goals first | omega | skip
          · have h4 : y2 ≤ y1 := h
            exact hC.sub [(0, (4, 0)), (1, (0, _)), (2, (0, _)), (3, (0, _))] ⟨rfl, rfl, rfl, rfl, trivial⟩ (ih _ _ _ (by omega) (by omega) g1 (by rw [e1, rb_no (fun q => by rcases q.2 with q2 | q2; exact h3 (g2.trans q2); omega), g2]))
          · have h4 : y1 < y2 := h
            exact hC.sub [(0, (4, 0)), (1, (0, _)), (2, (0, _)), (3, (0, _))] ⟨rfl, rfl, rfl, rfl, trivial⟩ (ih _ _ _ (by omega) (by omega) g1 (by rw [e1, rb_ye ⟨cvi.mpr (hw.symm.trans h6), Or.inr (by omega)⟩, ei]))
  repeat' first | refine hC.gn [24] _ rfl rfl ?_ | refine And.intro ?_ ?_ | exact True.intro | refine hC.iadd [24] rfl rfl (by first | omega | (simp only [Int.reduceToNat] at *; omega)) ?_ | refine hC.isub [24] rfl rfl (by first | omega | (simp only [Int.reduceToNat] at *; omega)) ?_ | refine hC.imul [24] rfl rfl (by first | omega | (simp only [Int.reduceToNat] at *; omega)) ?_ | refine hC.iinc [24] rfl rfl rfl rfl (by first | omega | (simp only [Int.reduceToNat] at *; omega)) ?_ | refine hC.go [24] _ rfl rfl ?_ | (intro h; first | exact (h rfl).elim | (exfalso; cases h; done) | (dsimp only [kk_cP, kk_cN] at h) | skip)
  all_goals first | omega | skip
  generalize hY : kk_i2 6 1 (A 2 (Int.toNat 2)) - 1 = Y
  have hY : Y = ((P - 1 : Nat) : Int) := by omega
  refine hC.same (mm_xMustBy l _ F1 A Y (by omega)) rfl rfl rfl rfl (Nat.le_refl _) ?_
  rintro rs w' ⟨rfl, xw, rfl, hw⟩
  have hw : xw = mb (fun c => A 2 (15 + c)) ((P - 1 : Nat) : Int) N := hw.trans ((congrArg (fun s => mb (fun c => A 2 (15 + c)) s 10) hY).trans (em (P - 1) (by omega)))
  repeat' first | refine hC.gn [24] _ rfl rfl ?_ | refine And.intro ?_ ?_ | exact True.intro | refine hC.iadd [24] rfl rfl (by first | omega | (simp only [Int.reduceToNat] at *; omega)) ?_ | refine hC.isub [24] rfl rfl (by first | omega | (simp only [Int.reduceToNat] at *; omega)) ?_ | refine hC.imul [24] rfl rfl (by first | omega | (simp only [Int.reduceToNat] at *; omega)) ?_ | refine hC.iinc [24] rfl rfl rfl rfl (by first | omega | (simp only [Int.reduceToNat] at *; omega)) ?_ | refine hC.go [24] _ rfl rfl ?_ | (intro h; first | exact (h rfl).elim | (exfalso; cases h; done) | (dsimp only [kk_cP, kk_cN] at h) | skip)
  exact hC.sub [(0, (4, 0)), (1, (0, _)), (2, (0, _)), (3, (0, _))] ⟨rfl, rfl, rfl, rfl, trivial⟩ (k24 _ _ _ _ (Nat.lt_succ_self _) (by omega) hw rfl)
set_option maxRecDepth 100000 in
set_option maxHeartbeats 4000000 in
theorem cr_xCovering (l : Launch) (d : Nat) {Bc : ci_B} {Bm : Nat → Nat → Int} {a b tl : Int} (O A : Nat → Nat → Int) (hJ : ci_J Bc tl a b O A) (hA : al Bc Bm tl a b) : kk_Ctr l (d + 40) en_t_X10_covering [(4, 0)] (cx_C O A) (fun rs w' => ∃ O' A', w' = cx_C O' A' ∧ ci_J Bc tl a b O' A' ∧ ∃ x, rs = [(0, x)] ∧ x = Bm 20 1) := by
  have e : O 0 16 = Bm 20 1 := hJ.fr.2.2.2.2.2.1.trans hA.2.1.1
  refine kk_ctr en_hM (List.mem_of_getElem? (i := 16) rfl) rfl (Nat.le_of_ble_eq_true rfl) (fun K hC => ?_)
  repeat' first | refine hC.gw [] _ rfl rfl ?_ | refine And.intro ?_ ?_ | exact True.intro | refine hC.iadd [] rfl rfl (by first | omega | (simp only [Int.reduceToNat] at *; omega)) ?_ | refine hC.isub [] rfl rfl (by first | omega | (simp only [Int.reduceToNat] at *; omega)) ?_ | refine hC.imul [] rfl rfl (by first | omega | (simp only [Int.reduceToNat] at *; omega)) ?_ | refine hC.iinc [] rfl rfl rfl rfl (by first | omega | (simp only [Int.reduceToNat] at *; omega)) ?_ | refine hC.pfw (W := cx_C) [] rfl rfl rfl rfl rfl rfl ?_ ?_ | refine hC.iaw (W := cx_C) [] rfl rfl rfl rfl ?_ ?_ | refine hC.law (W := cx_C) [] rfl rfl rfl rfl ?_ ?_ | refine hC.cpw (W := cx_C) [] rfl rfl rfl rfl rfl rfl ?_ | refine hC.cpl (W := cx_C) [] rfl rfl rfl rfl rfl rfl ?_ | refine hC.go [] _ rfl rfl ?_ | (intro h; first | exact (h rfl).elim | (exfalso; cases h; done) | (dsimp only [kk_cP, kk_cN] at h) | skip)
  all_goals first | omega | exact ⟨_, _, rfl, hJ, _, rfl, e⟩
set_option maxRecDepth 100000 in
set_option maxHeartbeats 4000000 in
theorem cr_xWatch (l : Launch) (d : Nat) {Bc : ci_B} {Bm : Nat → Nat → Int} {a b tl : Int} (O A : Nat → Nat → Int) (hJ : ci_J Bc tl a b O A) (hA : al Bc Bm tl a b) : kk_Ctr l (d + 40) en_t_X10_watch [(4, 0)] (cx_C O A) (fun rs w' => ∃ O' A', w' = cx_C O' A' ∧ ci_J Bc tl a b O' A' ∧ ∃ x, rs = [(0, x)] ∧ x = Bm 20 2) := by
  have e : O 0 17 = Bm 20 2 := hJ.fr.2.2.2.2.2.2.1.trans hA.2.1.2.1
  refine kk_ctr en_hM (List.mem_of_getElem? (i := 21) rfl) rfl (Nat.le_of_ble_eq_true rfl) (fun K hC => ?_)
  repeat' first | refine hC.gw [] _ rfl rfl ?_ | refine And.intro ?_ ?_ | exact True.intro | refine hC.iadd [] rfl rfl (by first | omega | (simp only [Int.reduceToNat] at *; omega)) ?_ | refine hC.isub [] rfl rfl (by first | omega | (simp only [Int.reduceToNat] at *; omega)) ?_ | refine hC.imul [] rfl rfl (by first | omega | (simp only [Int.reduceToNat] at *; omega)) ?_ | refine hC.iinc [] rfl rfl rfl rfl (by first | omega | (simp only [Int.reduceToNat] at *; omega)) ?_ | refine hC.pfw (W := cx_C) [] rfl rfl rfl rfl rfl rfl ?_ ?_ | refine hC.iaw (W := cx_C) [] rfl rfl rfl rfl ?_ ?_ | refine hC.law (W := cx_C) [] rfl rfl rfl rfl ?_ ?_ | refine hC.cpw (W := cx_C) [] rfl rfl rfl rfl rfl rfl ?_ | refine hC.cpl (W := cx_C) [] rfl rfl rfl rfl rfl rfl ?_ | refine hC.go [] _ rfl rfl ?_ | (intro h; first | exact (h rfl).elim | (exfalso; cases h; done) | (dsimp only [kk_cP, kk_cN] at h) | skip)
  all_goals first | omega | exact ⟨_, _, rfl, hJ, _, rfl, e⟩
set_option maxRecDepth 100000 in
set_option maxHeartbeats 4000000 in
theorem mm_xCovering (l : Launch) (d : Nat) {Bm : Nat → Nat → Int} (F : Nat → Int) (A : Nat → Nat → Int) (hI : mm_I Bm F A) : kk_Ctr l d en_t_X11_covering [(4, 0)] (mm_w F A) (fun rs w' => ∃ F' A', w' = mm_w F' A' ∧ mm_I Bm F' A' ∧ F' 2 = F 2 ∧ A' 10 = A 10 ∧ ∃ x, rs = [(0, x)] ∧ x = Bm 20 1) := by
  have e := hI.cv
  refine kk_ctr en_hM (List.mem_of_getElem? (i := 185) rfl) rfl (Nat.le_of_ble_eq_true rfl) (fun K hC => ?_)
  repeat' first | refine hC.gn [] _ rfl rfl ?_ | refine And.intro ?_ ?_ | exact True.intro | refine hC.iadd [] rfl rfl (by first | omega | (simp only [Int.reduceToNat] at *; omega)) ?_ | refine hC.isub [] rfl rfl (by first | omega | (simp only [Int.reduceToNat] at *; omega)) ?_ | refine hC.imul [] rfl rfl (by first | omega | (simp only [Int.reduceToNat] at *; omega)) ?_ | refine hC.iinc [] rfl rfl rfl rfl (by first | omega | (simp only [Int.reduceToNat] at *; omega)) ?_ | refine hC.go [] _ rfl rfl ?_ | (intro h; first | exact (h rfl).elim | (exfalso; cases h; done) | (dsimp only [kk_cP, kk_cN] at h) | skip)
  all_goals first | omega | exact ⟨kk_up F 0 0, A, rfl, hI, rfl, rfl, _, rfl, e⟩
set_option maxRecDepth 100000 in
set_option maxHeartbeats 4000000 in
theorem mm_xWatch (l : Launch) (d : Nat) {Bm : Nat → Nat → Int} (F : Nat → Int) (A : Nat → Nat → Int) (hI : mm_I Bm F A) : kk_Ctr l d en_t_X11_watch [(4, 0)] (mm_w F A) (fun rs w' => ∃ F' A', w' = mm_w F' A' ∧ mm_I Bm F' A' ∧ F' 2 = F 2 ∧ A' 10 = A 10 ∧ ∃ x, rs = [(0, x)] ∧ x = Bm 20 2) := by
  have e := hI.wa
  refine kk_ctr en_hM (List.mem_of_getElem? (i := 193) rfl) rfl (Nat.le_of_ble_eq_true rfl) (fun K hC => ?_)
  repeat' first | refine hC.gn [] _ rfl rfl ?_ | refine And.intro ?_ ?_ | exact True.intro | refine hC.iadd [] rfl rfl (by first | omega | (simp only [Int.reduceToNat] at *; omega)) ?_ | refine hC.isub [] rfl rfl (by first | omega | (simp only [Int.reduceToNat] at *; omega)) ?_ | refine hC.imul [] rfl rfl (by first | omega | (simp only [Int.reduceToNat] at *; omega)) ?_ | refine hC.iinc [] rfl rfl rfl rfl (by first | omega | (simp only [Int.reduceToNat] at *; omega)) ?_ | refine hC.go [] _ rfl rfl ?_ | (intro h; first | exact (h rfl).elim | (exfalso; cases h; done) | (dsimp only [kk_cP, kk_cN] at h) | skip)
  all_goals first | omega | exact ⟨kk_up F 0 0, A, rfl, hI, rfl, rfl, _, rfl, e⟩
set_option maxRecDepth 100000 in
set_option maxHeartbeats 4000000 in
theorem cr_xFits (l : Launch) (d : Nat) {Bc : ci_B} {Bm : Nat → Nat → Int} {a b tl : Int} (O A : Nat → Nat → Int) (hJ : ci_J Bc tl a b O A) (hA : al Bc Bm tl a b) : kk_Ctr l (d + 40) en_t_X10_fits [(4, 0)] (cx_C O A) (fun rs w' => ∃ O' A', w' = cx_C O' A' ∧ ci_J (cu Bc 17 (wt_V Bm tl (Bm 20 2))) 0 a b O' A' ∧ ∃ x, rs = [(0, x)] ∧ x = ft_V Bm tl) := by
  have eT : O 1 1 = tl := hJ.2.1
  have fr := hJ.fr
  obtain ⟨f2, -, ⟨-, a1, -, -, a4, a5, -⟩, -, -, -, f17, -⟩ := hJ.fr
  have h2 := hA.1.2.1
  have s17 : O 0 17 = Bm 20 2 := f17.trans hA.2.1.2.1
  have hcu : cu Bc 17 (Bm 20 2) = Bc := by rw [← hA.2.1.2.1]; exact cu_id
  obtain ⟨-, -, -, ⟨-, ⟨n0, n1, n2⟩, -, n5, -⟩, -⟩ := hA.1
  have e0 : A 6 0 = Bm 2 0 := (congrFun a1 0).trans n0.symm
  have e2 : A 6 2 = Bm 2 2 := (congrFun a1 2).trans n2.symm
  have hc : hh_c (cc_in pC_H A) := hJ.house.1
  have hc0 : 0 ≤ A 6 0 ∧ A 6 0 ≤ 8 := hc.1
  have hc2 : 0 ≤ A 6 2 ∧ A 6 2 ≤ 10 := hc.2.2
  have em : ∀ j, j < 10 → A 9 j = Bm 2 (15 + j) ∧ A 10 j = Bm 2 (25 + j) := fun j hj => ⟨(congrFun a4 j).trans (n5 j hj).2.1.symm, (congrFun a5 j).trans (n5 j hj).2.2.1.symm⟩
  have hv : ft_v (A 6 0) (A 6 2) (A 9) (A 10) (A 2) tl = ft_V Bm tl := by
    rw [e0, e2]
    exact ft_eq (by rw [← e2]; exact hc2.2) em (fun j hj => (congrFun f2 j).trans (h2 j hj))
  have hVr := ft_r (n0 := A 6 0) (n2 := A 6 2) (t := tl) (m := A 9) (b := A 10) (a := A 2) hc2.1 hc2.2
  have hP2 := p2_le (n := (A 6 2).toNat) (by omega)
  have hno : ¬ ft_ok (A 6 0) tl (A 2) → ft_V Bm tl = -1 := fun h => by rw [← hv]; exact if_neg h
  have hye : ft_ok (A 6 0) tl (A 2) → ft_V Bm tl = fc (A 9) (A 10) (dn (A 2) true (tl / 2).toNat) (dn (A 2) false (tl / 2).toNat) (A 6 2).toNat := fun h => by rw [← hv]; exact if_pos h
  have hW0 : ¬ 0 < ft_V Bm tl → wt_V Bm tl (Bm 20 2) = Bm 20 2 := fun h => if_neg h
  have hW1 : 0 < ft_V Bm tl → wt_V Bm tl (Bm 20 2) = ((wr (fun e => ml (A 9) (A 10) (ft_V Bm tl) (e : Int) (A 6 2).toNat) (A 6 0).toNat : Nat) : Int) := fun h => by
    rw [show wt_V Bm tl (Bm 20 2) = _ from if_pos h, ← e0, ← e2]
    congr 1
    exact wr_eq (fun e => ml_eq (fun j hj => ⟨(em j (by omega)).1.symm, (em j (by omega)).2.symm⟩)) _
  rw [hv] at hVr
  clear hv
  generalize ft_V Bm tl = V at *
  generalize wt_V Bm tl (Bm 20 2) = W at *
  refine kk_ctr en_hM (List.mem_of_getElem? (i := 20) rfl) rfl (Nat.le_of_ble_eq_true rfl) (fun K hC => ?_)
  have k30 : (0 < V → 1 ≤ A 6 0) → K 30 [(0, (4, 0)), (1, (0, V))] [] (cx_C O A) := by
    intro h1
    repeat' first | refine hC.gw [] _ rfl rfl ?_ | refine And.intro ?_ ?_ | exact True.intro | refine hC.iadd [] rfl rfl (by first | omega | (simp only [Int.reduceToNat] at *; omega)) ?_ | refine hC.isub [] rfl rfl (by first | omega | (simp only [Int.reduceToNat] at *; omega)) ?_ | refine hC.imul [] rfl rfl (by first | omega | (simp only [Int.reduceToNat] at *; omega)) ?_ | refine hC.iinc [] rfl rfl rfl rfl (by first | omega | (simp only [Int.reduceToNat] at *; omega)) ?_ | refine hC.pfw (W := cx_C) [] rfl rfl rfl rfl rfl rfl ?_ ?_ | refine hC.iaw (W := cx_C) [] rfl rfl rfl rfl ?_ ?_ | refine hC.law (W := cx_C) [] rfl rfl rfl rfl ?_ ?_ | refine hC.cpw (W := cx_C) [] rfl rfl rfl rfl rfl rfl ?_ | refine hC.cpl (W := cx_C) [] rfl rfl rfl rfl rfl rfl ?_ | refine hC.go [] _ rfl rfl ?_ | (intro h; first | exact (h rfl).elim | (exfalso; cases h; done) | (dsimp only [kk_cP, kk_cN] at h) | skip)
    all_goals first | omega | skip
    · have h3 : V ≤ 0 := h
      exact ⟨_, _, rfl, (by rw [hW0 (by omega), hcu]; exact hJ.len (by decide) (by decide)), _, rfl, rfl⟩
    · have h3 : 0 < V := h
      refine hC.rd ce_C_H (hh_xWatch l _ _ _ _ hJ.house.1 ⟨by omega, by omega⟩ (h1 h3) (fun e => ml_10 (show (A 6 2).toNat ≤ 10 by omega))) rfl rfl rfl rfl rfl rfl (Nat.le_refl _) ?_
      rintro rs ⟨y, rfl, hy⟩
      have hy : y = W := hy.trans (hW1 h3).symm
      repeat' first | refine hC.gw [] _ rfl rfl ?_ | refine And.intro ?_ ?_ | exact True.intro | refine hC.iadd [] rfl rfl (by first | omega | (simp only [Int.reduceToNat] at *; omega)) ?_ | refine hC.isub [] rfl rfl (by first | omega | (simp only [Int.reduceToNat] at *; omega)) ?_ | refine hC.imul [] rfl rfl (by first | omega | (simp only [Int.reduceToNat] at *; omega)) ?_ | refine hC.iinc [] rfl rfl rfl rfl (by first | omega | (simp only [Int.reduceToNat] at *; omega)) ?_ | refine hC.pfw (W := cx_C) [] rfl rfl rfl rfl rfl rfl ?_ ?_ | refine hC.iaw (W := cx_C) [] rfl rfl rfl rfl ?_ ?_ | refine hC.law (W := cx_C) [] rfl rfl rfl rfl ?_ ?_ | refine hC.cpw (W := cx_C) [] rfl rfl rfl rfl rfl rfl ?_ | refine hC.cpl (W := cx_C) [] rfl rfl rfl rfl rfl rfl ?_ | refine hC.go [] _ rfl rfl ?_ | (intro h; first | exact (h rfl).elim | (exfalso; cases h; done) | (dsimp only [kk_cP, kk_cN] at h) | skip)
      all_goals first | omega | exact ⟨_, _, rfl, (by rw [← hy]; exact (hJ.len (by decide) (by decide)).fxc), _, rfl, rfl⟩
  repeat' first | refine hC.gw [30] _ rfl rfl ?_ | refine And.intro ?_ ?_ | exact True.intro | refine hC.iadd [30] rfl rfl (by first | omega | (simp only [Int.reduceToNat] at *; omega)) ?_ | refine hC.isub [30] rfl rfl (by first | omega | (simp only [Int.reduceToNat] at *; omega)) ?_ | refine hC.imul [30] rfl rfl (by first | omega | (simp only [Int.reduceToNat] at *; omega)) ?_ | refine hC.iinc [30] rfl rfl rfl rfl (by first | omega | (simp only [Int.reduceToNat] at *; omega)) ?_ | refine hC.pfw (W := cx_C) [30] rfl rfl rfl rfl rfl rfl ?_ ?_ | refine hC.iaw (W := cx_C) [30] rfl rfl rfl rfl ?_ ?_ | refine hC.law (W := cx_C) [30] rfl rfl rfl rfl ?_ ?_ | refine hC.cpw (W := cx_C) [30] rfl rfl rfl rfl rfl rfl ?_ | refine hC.cpl (W := cx_C) [30] rfl rfl rfl rfl rfl rfl ?_ | refine hC.go [30] _ rfl rfl ?_ | (intro h; first | exact (h rfl).elim | (exfalso; cases h; done) | (dsimp only [kk_cP, kk_cN] at h) | skip)
  refine hC.rd ce_C_HT (hh_xTells l _ _ _ hJ.house.1) rfl rfl rfl rfl rfl rfl (Nat.le_refl _) ?_
  rintro rs (⟨rfl, h1⟩ | ⟨rfl, h1⟩)
  · have h1' : ft_ok (A 6 0) (O 1 1) (A 2) := h1
    rw [eT] at h1'
    repeat' first | refine hC.gw [30] _ rfl rfl ?_ | refine And.intro ?_ ?_ | exact True.intro | refine hC.iadd [30] rfl rfl (by first | omega | (simp only [Int.reduceToNat] at *; omega)) ?_ | refine hC.isub [30] rfl rfl (by first | omega | (simp only [Int.reduceToNat] at *; omega)) ?_ | refine hC.imul [30] rfl rfl (by first | omega | (simp only [Int.reduceToNat] at *; omega)) ?_ | refine hC.iinc [30] rfl rfl rfl rfl (by first | omega | (simp only [Int.reduceToNat] at *; omega)) ?_ | refine hC.pfw (W := cx_C) [30] rfl rfl rfl rfl rfl rfl ?_ ?_ | refine hC.iaw (W := cx_C) [30] rfl rfl rfl rfl ?_ ?_ | refine hC.law (W := cx_C) [30] rfl rfl rfl rfl ?_ ?_ | refine hC.cpw (W := cx_C) [30] rfl rfl rfl rfl rfl rfl ?_ | refine hC.cpl (W := cx_C) [30] rfl rfl rfl rfl rfl rfl ?_ | refine hC.go [30] _ rfl rfl ?_ | (intro h; first | exact (h rfl).elim | (exfalso; cases h; done) | (dsimp only [kk_cP, kk_cN] at h) | skip)
    refine hC.rd ce_C_HT (hh_xFit l _ _ _ hJ.house.1 h1) rfl rfl rfl rfl rfl rfl (Nat.le_refl _) ?_
    rintro rs ⟨x, rfl, hx⟩
    have hx : x = fc (A 9) (A 10) (dn (A 2) true (O 1 1 / 2).toNat) (dn (A 2) false (O 1 1 / 2).toNat) (A 6 2).toNat := hx
    have hx : x = V := by rw [hx, eT]; exact (hye h1').symm
    subst hx
    have n1' : 1 ≤ A 6 0 := by
      have q := (h1'.2.2 0 (by have := h1'.1.1; omega)).1
      omega
    repeat' first | refine hC.gw [30] _ rfl rfl ?_ | refine And.intro ?_ ?_ | exact True.intro | refine hC.iadd [30] rfl rfl (by first | omega | (simp only [Int.reduceToNat] at *; omega)) ?_ | refine hC.isub [30] rfl rfl (by first | omega | (simp only [Int.reduceToNat] at *; omega)) ?_ | refine hC.imul [30] rfl rfl (by first | omega | (simp only [Int.reduceToNat] at *; omega)) ?_ | refine hC.iinc [30] rfl rfl rfl rfl (by first | omega | (simp only [Int.reduceToNat] at *; omega)) ?_ | refine hC.pfw (W := cx_C) [30] rfl rfl rfl rfl rfl rfl ?_ ?_ | refine hC.iaw (W := cx_C) [30] rfl rfl rfl rfl ?_ ?_ | refine hC.law (W := cx_C) [30] rfl rfl rfl rfl ?_ ?_ | refine hC.cpw (W := cx_C) [30] rfl rfl rfl rfl rfl rfl ?_ | refine hC.cpl (W := cx_C) [30] rfl rfl rfl rfl rfl rfl ?_ | refine hC.go [30] _ rfl rfl ?_ | (intro h; first | exact (h rfl).elim | (exfalso; cases h; done) | (dsimp only [kk_cP, kk_cN] at h) | skip)
    all_goals first | omega | exact hC.sub [(0, (4, 0)), (1, (0, _))] ⟨rfl, rfl, trivial⟩ (k30 (fun _ => n1'))
  · have h1' : ¬ ft_ok (A 6 0) (O 1 1) (A 2) := h1
    rw [eT] at h1'
    have hV := hno h1'
    subst hV
    repeat' first | refine hC.gw [30] _ rfl rfl ?_ | refine And.intro ?_ ?_ | exact True.intro | refine hC.iadd [30] rfl rfl (by first | omega | (simp only [Int.reduceToNat] at *; omega)) ?_ | refine hC.isub [30] rfl rfl (by first | omega | (simp only [Int.reduceToNat] at *; omega)) ?_ | refine hC.imul [30] rfl rfl (by first | omega | (simp only [Int.reduceToNat] at *; omega)) ?_ | refine hC.iinc [30] rfl rfl rfl rfl (by first | omega | (simp only [Int.reduceToNat] at *; omega)) ?_ | refine hC.pfw (W := cx_C) [30] rfl rfl rfl rfl rfl rfl ?_ ?_ | refine hC.iaw (W := cx_C) [30] rfl rfl rfl rfl ?_ ?_ | refine hC.law (W := cx_C) [30] rfl rfl rfl rfl ?_ ?_ | refine hC.cpw (W := cx_C) [30] rfl rfl rfl rfl rfl rfl ?_ | refine hC.cpl (W := cx_C) [30] rfl rfl rfl rfl rfl rfl ?_ | refine hC.go [30] _ rfl rfl ?_ | (intro h; first | exact (h rfl).elim | (exfalso; cases h; done) | (dsimp only [kk_cP, kk_cN] at h) | skip)
    all_goals first | omega | exact hC.sub [(0, (4, 0)), (1, (0, _))] ⟨rfl, rfl, trivial⟩ (k30 (fun q => absurd q (by decide)))
