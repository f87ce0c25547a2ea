/-! THE REFERENCE, 24: a book is lived -/
variable {Bm : Nat → Nat → Int}
def mm_Lv (F : Nat → Int) (A : Nat → Nat → Int) (w' : List kk_C) : Prop := ∃ F' A', w' = mm_w F' A' ∧ (∀ k, k ≠ 25 → F' k = F k) ∧ mm_st A A' ∧ mm_vS (A' 2)
set_option maxRecDepth 100000 in
set_option maxHeartbeats 4000000 in
theorem mm_live (l : Launch) (d : Nat) (F : Nat → Int) (A : Nat → Nat → Int) (q x y : Int) (hr : mm_rH (A 2)) (hv : mm_vS (A 2)) (h0 : q = 0 → A 2 2 ≠ 0) (h1 : q = 1 → 0 ≤ x ∧ x ≤ 9 ∧ A 2 (69 + x).toNat ≠ 0) (h2 : q = 2 → 0 ≤ x ∧ x ≤ 3 ∧ 0 ≤ y ∧ y ≤ 7) : kk_Ctr l (d + 4) en_t_X11_live [(4, 0), (0, q), (0, x), (0, y)] (mm_w F A) (fun rs w' => rs = [] ∧ mm_Lv F A w') := by
  obtain ⟨c1, c2, c3, c4, c5, c6⟩ := hr.1
  refine kk_ctr en_hM (List.mem_of_getElem? (i := 277) rfl) rfl (Nat.le_of_ble_eq_true rfl) (fun K hC => ?_)
  repeat' first | refine hC.gn [] _ rfl rfl ?_ | refine And.intro ?_ ?_ | exact True.intro | refine hC.iadd [] rfl rfl (by first | omega | (simp only [Int.reduceToNat] at *; omega)) ?_ | refine hC.isub [] rfl rfl (by first | omega | (simp only [Int.reduceToNat] at *; omega)) ?_ | refine hC.imul [] rfl rfl (by first | omega | (simp only [Int.reduceToNat] at *; omega)) ?_ | refine hC.iinc [] rfl rfl rfl rfl (by first | omega | (simp only [Int.reduceToNat] at *; omega)) ?_ | refine hC.go [] _ rfl rfl ?_ | (intro h; first | exact (h rfl).elim | (exfalso; cases h; done) | (dsimp only [kk_cP, kk_cN] at h) | skip)
  all_goals first | omega | skip
  all_goals first
    | (refine hC.same (mm_nightComes l _ F A hv ⟨c3, c4⟩) rfl rfl rfl rfl (Nat.le_refl _) ?_
       rintro rs w' ⟨B, y, rfl, rfl, q1, q2⟩
       repeat' first | refine hC.gn [] _ rfl rfl ?_ | refine And.intro ?_ ?_ | exact True.intro | refine hC.iadd [] rfl rfl (by first | omega | (simp only [Int.reduceToNat] at *; omega)) ?_ | refine hC.isub [] rfl rfl (by first | omega | (simp only [Int.reduceToNat] at *; omega)) ?_ | refine hC.imul [] rfl rfl (by first | omega | (simp only [Int.reduceToNat] at *; omega)) ?_ | refine hC.iinc [] rfl rfl rfl rfl (by first | omega | (simp only [Int.reduceToNat] at *; omega)) ?_ | refine hC.go [] _ rfl rfl ?_ | (intro h; first | exact (h rfl).elim | (exfalso; cases h; done) | (dsimp only [kk_cP, kk_cN] at h) | skip)
       · rfl
       · exact ⟨F, B, rfl, fun _ _ => rfl, q1, q2⟩)
    | (have hz := h0 (by assumption)
       refine hC.same (mm_drawOne l _ (kk_up F 25 x) A hr hv (show 0 < A 2 2 by omega)) rfl rfl rfl rfl (Nat.le_refl _) ?_
       rintro rs w' ⟨rfl, s, N, rfl, q1, q2, q3, q4⟩
       repeat' first | refine hC.gn [] _ rfl rfl ?_ | refine And.intro ?_ ?_ | exact True.intro | refine hC.iadd [] rfl rfl (by first | omega | (simp only [Int.reduceToNat] at *; omega)) ?_ | refine hC.isub [] rfl rfl (by first | omega | (simp only [Int.reduceToNat] at *; omega)) ?_ | refine hC.imul [] rfl rfl (by first | omega | (simp only [Int.reduceToNat] at *; omega)) ?_ | refine hC.iinc [] rfl rfl rfl rfl (by first | omega | (simp only [Int.reduceToNat] at *; omega)) ?_ | refine hC.go [] _ rfl rfl ?_ | (intro h; first | exact (h rfl).elim | (exfalso; cases h; done) | (dsimp only [kk_cP, kk_cN] at h) | skip)
       · rfl
       · exact ⟨kk_up (kk_up F 25 x) 25 s, mm_up A 2 N, rfl, fun k hk => (kk_up_ne hk).trans (kk_up_ne hk), mm_st.up (fun k hk => q1 k (by omega)) q2, q3⟩)
    | (obtain ⟨z1, z2, z3⟩ := h1 (by assumption)
       obtain ⟨c, rfl⟩ := Int.eq_ofNat_of_zero_le z1
       have z4 : A 2 (69 + c) ≠ 0 := z3
       have z5 := hv.2.2.1 c (by omega)
       refine hC.same (mm_comes l _ F A c (by omega) hr hv (by omega)) rfl rfl rfl rfl (Nat.le_refl _) ?_
       rintro rs w' ⟨rfl, N, rfl, q1, q2, q3, q4⟩
       repeat' first | refine hC.gn [] _ rfl rfl ?_ | refine And.intro ?_ ?_ | exact True.intro | refine hC.iadd [] rfl rfl (by first | omega | (simp only [Int.reduceToNat] at *; omega)) ?_ | refine hC.isub [] rfl rfl (by first | omega | (simp only [Int.reduceToNat] at *; omega)) ?_ | refine hC.imul [] rfl rfl (by first | omega | (simp only [Int.reduceToNat] at *; omega)) ?_ | refine hC.iinc [] rfl rfl rfl rfl (by first | omega | (simp only [Int.reduceToNat] at *; omega)) ?_ | refine hC.go [] _ rfl rfl ?_ | (intro h; first | exact (h rfl).elim | (exfalso; cases h; done) | (dsimp only [kk_cP, kk_cN] at h) | skip)
       · rfl
       · exact ⟨F, mm_up A 2 N, rfl, fun _ _ => rfl, mm_st.up (fun k hk => q1 k (by omega)) q2, q3⟩)
    | (obtain ⟨z1, z2, z3, z4⟩ := h2 (by assumption)
       refine hC.same (mm_doOne l _ F A x y z1 z2 z3 z4 hv) rfl rfl rfl rfl (Nat.le_refl _) ?_
       rintro rs w' ⟨rfl, B, rfl, q1, q2⟩
       repeat' first | refine hC.gn [] _ rfl rfl ?_ | refine And.intro ?_ ?_ | exact True.intro | refine hC.iadd [] rfl rfl (by first | omega | (simp only [Int.reduceToNat] at *; omega)) ?_ | refine hC.isub [] rfl rfl (by first | omega | (simp only [Int.reduceToNat] at *; omega)) ?_ | refine hC.imul [] rfl rfl (by first | omega | (simp only [Int.reduceToNat] at *; omega)) ?_ | refine hC.iinc [] rfl rfl rfl rfl (by first | omega | (simp only [Int.reduceToNat] at *; omega)) ?_ | refine hC.go [] _ rfl rfl ?_ | (intro h; first | exact (h rfl).elim | (exfalso; cases h; done) | (dsimp only [kk_cP, kk_cN] at h) | skip)
       · rfl
       · exact ⟨F, B, rfl, fun _ _ => rfl, q1, q2⟩)
set_option maxRecDepth 100000 in
set_option maxHeartbeats 4000000 in
theorem mm_goBy (l : Launch) (d : Nat) (F : Nat → Int) (A : Nat → Nat → Int) (j : Nat) (hr : mm_rH (A 2)) (hv : mm_vS (A 2)) (hj : j < 40) (hl : mm_ln (A 14) j) : kk_Ctr l (d + 5) en_t_X11_goBy [(4, 0), (0, ((3 * j : Nat) : Int))] (mm_w F A) (fun rs w' => (∃ y, rs = [(0, y)]) ∧ mm_Lv F A w') := by
  obtain ⟨c1, c2, c3, c4, c5, c6⟩ := hr.1
  have f0 : A 14 (((3 * j : Nat) : Int)).toNat = A 14 (3 * j) := rfl
  have f1 : A 14 (((3 * j : Nat) : Int) + 1).toNat = A 14 (3 * j + 1) := rfl
  have f2 : A 14 (((3 * j : Nat) : Int) + 2).toNat = A 14 (3 * j + 2) := rfl
  obtain ⟨l1, l2, l3⟩ := hl
  rw [← f0, ← f1] at l2
  rw [← f0, ← f1, ← f2] at l3
  have hrf : mm_Lv F A (mm_w F A) := ⟨F, A, rfl, fun _ _ => rfl, mm_st.rf, hv⟩
  refine kk_ctr en_hM (List.mem_of_getElem? (i := 249) rfl) rfl (Nat.le_of_ble_eq_true rfl) (fun K hC => ?_)
  repeat' first | refine hC.gn [] _ rfl rfl ?_ | refine And.intro ?_ ?_ | exact True.intro | refine hC.iadd [] rfl rfl (by first | omega | (simp only [Int.reduceToNat] at *; omega)) ?_ | refine hC.isub [] rfl rfl (by first | omega | (simp only [Int.reduceToNat] at *; omega)) ?_ | refine hC.imul [] rfl rfl (by first | omega | (simp only [Int.reduceToNat] at *; omega)) ?_ | refine hC.iinc [] rfl rfl rfl rfl (by first | omega | (simp only [Int.reduceToNat] at *; omega)) ?_ | refine hC.go [] _ rfl rfl ?_ | (intro h; first | exact (h rfl).elim | (exfalso; cases h; done) | (dsimp only [kk_cP, kk_cN] at h) | skip)
  all_goals first | omega | exact ⟨_, rfl⟩ | exact hrf | skip
  · refine hC.same (mm_why l _ F A (A 14 (((3 * j : Nat) : Int)).toNat) (A 14 (((3 * j : Nat) : Int) + 1).toNat) (A 14 (((3 * j : Nat) : Int) + 2).toNat) hv (by omega) (by omega)) rfl rfl rfl rfl (Nat.le_refl _) ?_
    rintro rs w' ⟨rfl, r, rfl, hr0⟩
    repeat' first | refine hC.gn [] _ rfl rfl ?_ | refine And.intro ?_ ?_ | exact True.intro | refine hC.iadd [] rfl rfl (by first | omega | (simp only [Int.reduceToNat] at *; omega)) ?_ | refine hC.isub [] rfl rfl (by first | omega | (simp only [Int.reduceToNat] at *; omega)) ?_ | refine hC.imul [] rfl rfl (by first | omega | (simp only [Int.reduceToNat] at *; omega)) ?_ | refine hC.iinc [] rfl rfl rfl rfl (by first | omega | (simp only [Int.reduceToNat] at *; omega)) ?_ | refine hC.go [] _ rfl rfl ?_ | (intro h; first | exact (h rfl).elim | (exfalso; cases h; done) | (dsimp only [kk_cP, kk_cN] at h) | skip)
    all_goals first | omega | exact ⟨_, rfl⟩ | exact hrf | skip
    obtain ⟨w0, w1⟩ := hr0 (by assumption)
    refine hC.same (mm_live l _ F A (A 14 (((3 * j : Nat) : Int)).toNat) (A 14 (((3 * j : Nat) : Int) + 1).toNat) (A 14 (((3 * j : Nat) : Int) + 2).toNat) hr hv w0 (fun q => ⟨(l2 q).1, (l2 q).2, w1 q⟩) l3) rfl rfl rfl rfl (Nat.le_refl _) ?_
    rintro rs w' ⟨rfl, hq⟩
    repeat' first | refine hC.gn [] _ rfl rfl ?_ | refine And.intro ?_ ?_ | exact True.intro | refine hC.iadd [] rfl rfl (by first | omega | (simp only [Int.reduceToNat] at *; omega)) ?_ | refine hC.isub [] rfl rfl (by first | omega | (simp only [Int.reduceToNat] at *; omega)) ?_ | refine hC.imul [] rfl rfl (by first | omega | (simp only [Int.reduceToNat] at *; omega)) ?_ | refine hC.iinc [] rfl rfl rfl rfl (by first | omega | (simp only [Int.reduceToNat] at *; omega)) ?_ | refine hC.go [] _ rfl rfl ?_ | (intro h; first | exact (h rfl).elim | (exfalso; cases h; done) | (dsimp only [kk_cP, kk_cN] at h) | skip)
    · exact ⟨_, rfl⟩
    · exact hq
  · -- days
    have h2n : A 2 2 ≠ 0 := by assumption
    refine hC.same (mm_passDays l _ F A _ _ hr hv (by omega)) rfl rfl rfl rfl (Nat.le_refl _) ?_
    rintro rs w' ⟨G', B, y, rfl, rfl, hG', q1, q2⟩
    repeat' first | refine hC.gn [] _ rfl rfl ?_ | refine And.intro ?_ ?_ | exact True.intro | refine hC.iadd [] rfl rfl (by first | omega | (simp only [Int.reduceToNat] at *; omega)) ?_ | refine hC.isub [] rfl rfl (by first | omega | (simp only [Int.reduceToNat] at *; omega)) ?_ | refine hC.imul [] rfl rfl (by first | omega | (simp only [Int.reduceToNat] at *; omega)) ?_ | refine hC.iinc [] rfl rfl rfl rfl (by first | omega | (simp only [Int.reduceToNat] at *; omega)) ?_ | refine hC.go [] _ rfl rfl ?_ | (intro h; first | exact (h rfl).elim | (exfalso; cases h; done) | (dsimp only [kk_cP, kk_cN] at h) | skip)
    · exact ⟨_, rfl⟩
    · exact ⟨G', B, rfl, hG', q1, q2⟩
set_option maxRecDepth 100000 in
set_option maxHeartbeats 4000000 in
theorem mm_stay (l : Launch) (d : Nat) (F : Nat → Int) (A : Nat → Nat → Int) (b : Int) (hI : mm_I Bm F A) (ha : mm_sg (A 2 2) (A 6)) : kk_Ctr l (d + 1) en_t_X11_stay [(4, 0), (0, b)] (mm_w F A) (fun rs w' => rs = [] ∧ ∃ F' A', w' = mm_w F' A' ∧ mm_I Bm F' A' ∧ (∀ k, k ≠ 23 → F' k = F k) ∧ A' 10 = A 10) := by
  refine kk_ctr en_hM (List.mem_of_getElem? (i := 250) rfl) rfl (Nat.le_of_ble_eq_true rfl) (fun K hC => ?_)
  have k2 : ∀ (n : Nat) (i : Int) (N : Nat → Int) (f : Nat → Int), (83 - i).toNat < n → (0 ≤ i ∧ i ≤ 83) → (∀ k : Nat, (k : Int) < i → N (67 + k) = A 6 k ∧ f k = A 2 (67 + k)) → (∀ k : Nat, i ≤ (k : Int) → N (67 + k) = A 2 (67 + k) ∧ f k = A 6 k) → (∀ k, (k < 67 ∨ 150 ≤ k) → N k = A 2 k) → K 2 [(0, (4, 0)), (1, (0, b)), (2, (0, i))] [] (mm_w F (mm_up (mm_up A 2 N) 6 f)) := by
    intro n
    induction n with
    | zero => intro i N f hz; exact absurd hz (Nat.not_lt_zero _)
    | succ n ih =>
      intro i N f hn i0 g1 g2 g3
      refine hC.go [] _ rfl rfl ?_
      repeat' first | refine hC.gn [2] _ rfl rfl ?_ | refine And.intro ?_ ?_ | exact True.intro | refine hC.iadd [2] rfl rfl (by first | omega | (simp only [Int.reduceToNat] at *; omega)) ?_ | refine hC.isub [2] rfl rfl (by first | omega | (simp only [Int.reduceToNat] at *; omega)) ?_ | refine hC.imul [2] rfl rfl (by first | omega | (simp only [Int.reduceToNat] at *; omega)) ?_ | refine hC.iinc [2] rfl rfl rfl rfl (by first | omega | (simp only [Int.reduceToNat] at *; omega)) ?_ | refine hC.go [2] _ rfl rfl ?_ | (intro h; first | exact (h rfl).elim | (exfalso; cases h; done) | (dsimp only [kk_cP, kk_cN] at h) | skip)
      all_goals first | rfl | omega | skip
      · have hs : mm_st A (mm_up A 2 N) := mm_st.up (fun k hk => g3 k (Or.inl hk)) (fun k hk => g3 k (Or.inr hk))
        have hv : mm_vS (mm_up A 2 N 2) := mm_sg_vS (N := N) ha (g3 2 (by decide)) (fun k hk => (g1 k (by omega)).1)
        have hJ : mm_I Bm F (mm_up (mm_up A 2 N) 6 f) := ⟨hI.1, (hI.2.st hs hv : mm_Ia Bm (F 23) (F 31) (F 37) (F 26) (F 35) (F 10) (mm_up A 2 N))⟩
        refine hC.same (mm_snap l _ F (mm_up (mm_up A 2 N) 6 f) hJ.2.1 hJ.vS hJ.2.2.2.2.2.2.2.2.1) rfl rfl rfl rfl (Nat.le_refl _) ?_
        rintro rs w' ⟨rfl, G, s5, rfl, hG, hG8, hsn⟩
        have hJ2 := hJ.snap hG hG8 hsn
        repeat' first | refine hC.gn [] _ rfl rfl ?_ | refine And.intro ?_ ?_ | exact True.intro | refine hC.iadd [] rfl rfl (by first | omega | (simp only [Int.reduceToNat] at *; omega)) ?_ | refine hC.isub [] rfl rfl (by first | omega | (simp only [Int.reduceToNat] at *; omega)) ?_ | refine hC.imul [] rfl rfl (by first | omega | (simp only [Int.reduceToNat] at *; omega)) ?_ | refine hC.iinc [] rfl rfl rfl rfl (by first | omega | (simp only [Int.reduceToNat] at *; omega)) ?_ | refine hC.go [] _ rfl rfl ?_ | (intro h; first | exact (h rfl).elim | (exfalso; cases h; done) | (dsimp only [kk_cP, kk_cN] at h) | skip)
        refine hC.same (mm_takeBack l _ G (mm_up (mm_up (mm_up A 2 N) 6 f) 5 s5)) rfl rfl rfl rfl (Nat.le_refl _) ?_
        rintro rs w' ⟨rfl, N', rfl, hst, hN'⟩
        have hv' : mm_vS (mm_up (mm_up (mm_up (mm_up A 2 N) 6 f) 5 s5) 2 N' 2) := mm_sg_vS (N := N') (mm_vS_sg hI.vS rfl (g := fun k => A 2 (67 + k)) (fun _ _ => rfl)) ((hst.2.1 2 (by decide)).trans (g3 2 (by decide))) (fun k hk => (hN' k hk).trans (g1 k (by omega)).2)
        repeat' first | refine hC.gn [] _ rfl rfl ?_ | refine And.intro ?_ ?_ | exact True.intro | refine hC.iadd [] rfl rfl (by first | omega | (simp only [Int.reduceToNat] at *; omega)) ?_ | refine hC.isub [] rfl rfl (by first | omega | (simp only [Int.reduceToNat] at *; omega)) ?_ | refine hC.imul [] rfl rfl (by first | omega | (simp only [Int.reduceToNat] at *; omega)) ?_ | refine hC.iinc [] rfl rfl rfl rfl (by first | omega | (simp only [Int.reduceToNat] at *; omega)) ?_ | refine hC.go [] _ rfl rfl ?_ | (intro h; first | exact (h rfl).elim | (exfalso; cases h; done) | (dsimp only [kk_cP, kk_cN] at h) | skip)
        · rfl
        · exact ⟨G, _, rfl, ⟨hJ2.1, hJ2.2.st hst hv'⟩, hG, rfl⟩
      · -- all changed places; nothing more
        have hs : mm_st A (mm_up A 2 N) := mm_st.up (fun k hk => g3 k (Or.inl hk)) (fun k hk => g3 k (Or.inr hk))
        have hv : mm_vS (mm_up A 2 N 2) := mm_sg_vS (N := N) ha (g3 2 (by decide)) (fun k hk => (g1 k (by omega)).1)
        exact ⟨F, mm_up (mm_up A 2 N) 6 f, rfl, ⟨hI.1, (hI.2.st hs hv : mm_Ia Bm (F 23) (F 31) (F 37) (F 26) (F 35) (F 10) (mm_up A 2 N))⟩, fun _ _ => rfl, rfl⟩
      · refine hC.sub [(0, (4, 0)), (1, (0, _)), (2, (0, _))] ⟨rfl, rfl, rfl, trivial⟩ (ih _ (kk_up N (67 + i).toNat (f i.toNat)) (kk_up f i.toNat (N (67 + i).toNat)) (by omega) (by omega) (fun k hk => ?_) (fun k hk => ?_) (fun k hk => (kk_up_ne (by omega)).trans (g3 k hk)))
        · by_cases hq : (k : Int) = i
          · rw [show 67 + k = (67 + i).toNat by omega, kk_up_eq, show k = i.toNat by omega, kk_up_eq, show (67 + i).toNat = 67 + i.toNat by omega]
            exact ⟨(g2 _ (by omega)).2, (g2 _ (by omega)).1⟩
          · rw [kk_up_ne (by omega), kk_up_ne (by omega)]
            exact g1 k (by omega)
        · rw [kk_up_ne (by omega), kk_up_ne (by omega)]
          exact g2 k (by omega)
  repeat' first | refine hC.gn [2] _ rfl rfl ?_ | refine And.intro ?_ ?_ | exact True.intro | refine hC.iadd [2] rfl rfl (by first | omega | (simp only [Int.reduceToNat] at *; omega)) ?_ | refine hC.isub [2] rfl rfl (by first | omega | (simp only [Int.reduceToNat] at *; omega)) ?_ | refine hC.imul [2] rfl rfl (by first | omega | (simp only [Int.reduceToNat] at *; omega)) ?_ | refine hC.iinc [2] rfl rfl rfl rfl (by first | omega | (simp only [Int.reduceToNat] at *; omega)) ?_ | refine hC.go [2] _ rfl rfl ?_ | (intro h; first | exact (h rfl).elim | (exfalso; cases h; done) | (dsimp only [kk_cP, kk_cN] at h) | skip)
  exact hC.sub [(0, (4, 0)), (1, (0, _)), (2, (0, _))] ⟨rfl, rfl, rfl, trivial⟩ (k2 _ _ (A 2) (A 6) (Nat.lt_succ_self _) (by omega) (fun k hk => absurd hk (by omega)) (fun k _ => ⟨rfl, rfl⟩) (fun k _ => rfl))
