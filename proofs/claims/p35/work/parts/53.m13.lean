/-! THE REFERENCE, 13: one is drawn; what holds -/
set_option maxRecDepth 100000 in
set_option maxHeartbeats 4000000 in
theorem mm_drawOne (l : Launch) (d : Nat) (F : Nat → Int) (A : Nat → Nat → Int) (hr : mm_rH (A 2)) (hv : mm_vS (A 2)) (h2 : 0 < A 2 2) : kk_Ctr l (d + 3) en_t_X11_drawOne [(4, 0)] (mm_w F A) (fun rs w' => rs = [] ∧ ∃ s N, w' = mm_w (kk_up F 25 s) (mm_up A 2 N) ∧ (∀ k, k < 68 → N k = A 2 k) ∧ (∀ k, 150 ≤ k → N k = A 2 k) ∧ mm_vS N ∧ 0 ≤ N 68) := by
  have bx : mm_bx (A 2) := hv.2.2.1
  obtain ⟨c0, c1, c2⟩ := hv.2.2.2.1 h2
  have s1 := mm_sm_p bx c1 c2 10 c1 (Nat.le_refl _)
  have s2 := (mm_sm_s bx 10 (Nat.le_refl _)).2.1
  refine kk_ctr en_hM (List.mem_of_getElem? (i := 224) rfl) rfl (Nat.le_of_ble_eq_true rfl) (fun K hC => ?_)
  have key : ∀ (n c : Nat) (x s : Int), c + n = 10 → mm_sm (A 2) 69 c ≤ x → x < mm_sm (A 2) 69 10 → K 11 [(0, (4, 0)), (1, (0, x - mm_sm (A 2) 69 c)), (2, (0, (c : Int)))] [] (mm_w (kk_up F 25 s) A) := by
    intro n
    induction n with
    | zero =>
      intro c x s hc h3 h4
      have hc : c = 10 := by omega
      subst hc
      omega
    | succ n ih =>
      intro c x s hc h3 h4
      have b := bx c (by omega)
      have b2 : 0 ≤ A 2 (69 + (c : Int)).toNat ∧ A 2 (69 + (c : Int)).toNat ≤ 9 := b
      have ea : A 2 (69 + (c : Int)).toNat = A 2 (69 + c) := rfl
      have e := (mm_sm_s bx c (by omega)).2.2 (by omega)
      have sc := mm_sm_s bx c (by omega)
      refine hC.go [] _ rfl rfl ?_
      repeat' first | refine hC.gn [11] _ rfl rfl ?_ | refine And.intro ?_ ?_ | exact True.intro | refine hC.iadd [11] rfl rfl (by first | omega | (simp only [Int.reduceToNat] at *; omega)) ?_ | refine hC.isub [11] rfl rfl (by first | omega | (simp only [Int.reduceToNat] at *; omega)) ?_ | refine hC.imul [11] rfl rfl (by first | omega | (simp only [Int.reduceToNat] at *; omega)) ?_ | refine hC.iinc [11] rfl rfl rfl rfl (by first | omega | (simp only [Int.reduceToNat] at *; omega)) ?_ | refine hC.go [11] _ rfl rfl ?_ | (intro h; first | exact (h rfl).elim | (exfalso; cases h; done) | (dsimp only [kk_cP, kk_cN] at h) | skip)
      all_goals first | omega | skip
      · refine hC.same (mm_comes l _ (kk_up F 25 s) A c (by omega) hr hv (by omega)) rfl rfl rfl rfl (Nat.le_refl _) ?_
        rintro rs w' ⟨rfl, N, rfl, q1, q2, q3, q4⟩
        repeat' first | refine hC.gn [11] _ rfl rfl ?_ | refine And.intro ?_ ?_ | exact True.intro | refine hC.iadd [11] rfl rfl (by first | omega | (simp only [Int.reduceToNat] at *; omega)) ?_ | refine hC.isub [11] rfl rfl (by first | omega | (simp only [Int.reduceToNat] at *; omega)) ?_ | refine hC.imul [11] rfl rfl (by first | omega | (simp only [Int.reduceToNat] at *; omega)) ?_ | refine hC.iinc [11] rfl rfl rfl rfl (by first | omega | (simp only [Int.reduceToNat] at *; omega)) ?_ | refine hC.go [11] _ rfl rfl ?_ | (intro h; first | exact (h rfl).elim | (exfalso; cases h; done) | (dsimp only [kk_cP, kk_cN] at h) | skip)
        · rfl
        · exact ⟨s, N, rfl, q1, q2, q3, by omega⟩
      · have ex : x - mm_sm (A 2) 69 c - A 2 (69 + c) = x - mm_sm (A 2) 69 (c + 1) := by omega
        have g := ih (c + 1) x s (by omega) (by omega) h4
        rw [← ex] at g
        exact hC.sub [(0, (4, 0)), (1, (0, x - mm_sm (A 2) 69 c - A 2 (69 + c))), (2, (0, ((c + 1 : Nat) : Int)))] ⟨rfl, rfl, rfl, trivial⟩ g
  repeat' first | refine hC.gn [] _ rfl rfl ?_ | refine And.intro ?_ ?_ | exact True.intro | refine hC.iadd [] rfl rfl (by first | omega | (simp only [Int.reduceToNat] at *; omega)) ?_ | refine hC.isub [] rfl rfl (by first | omega | (simp only [Int.reduceToNat] at *; omega)) ?_ | refine hC.imul [] rfl rfl (by first | omega | (simp only [Int.reduceToNat] at *; omega)) ?_ | refine hC.iinc [] rfl rfl rfl rfl (by first | omega | (simp only [Int.reduceToNat] at *; omega)) ?_ | refine hC.go [] _ rfl rfl ?_ | (intro h; first | exact (h rfl).elim | (exfalso; cases h; done) | (dsimp only [kk_cP, kk_cN] at h) | skip)
  refine hC.same (mm_inBox l _ F A) rfl rfl rfl rfl (Nat.le_refl _) ?_
  rintro rs w' ⟨rfl, rfl⟩
  repeat' first | refine hC.gn [] _ rfl rfl ?_ | refine And.intro ?_ ?_ | exact True.intro | refine hC.iadd [] rfl rfl (by first | omega | (simp only [Int.reduceToNat] at *; omega)) ?_ | refine hC.isub [] rfl rfl (by first | omega | (simp only [Int.reduceToNat] at *; omega)) ?_ | refine hC.imul [] rfl rfl (by first | omega | (simp only [Int.reduceToNat] at *; omega)) ?_ | refine hC.iinc [] rfl rfl rfl rfl (by first | omega | (simp only [Int.reduceToNat] at *; omega)) ?_ | refine hC.go [] _ rfl rfl ?_ | (intro h; first | exact (h rfl).elim | (exfalso; cases h; done) | (dsimp only [kk_cP, kk_cN] at h) | skip)
  refine hC.same (mm_drawOf l _ F A _ s1 (by omega)) rfl rfl rfl rfl (Nat.le_refl _) ?_
  rintro rs w' ⟨x, s, rfl, rfl, x0, x1⟩
  repeat' first | refine hC.gn [11] _ rfl rfl ?_ | refine And.intro ?_ ?_ | exact True.intro | refine hC.iadd [11] rfl rfl (by first | omega | (simp only [Int.reduceToNat] at *; omega)) ?_ | refine hC.isub [11] rfl rfl (by first | omega | (simp only [Int.reduceToNat] at *; omega)) ?_ | refine hC.imul [11] rfl rfl (by first | omega | (simp only [Int.reduceToNat] at *; omega)) ?_ | refine hC.iinc [11] rfl rfl rfl rfl (by first | omega | (simp only [Int.reduceToNat] at *; omega)) ?_ | refine hC.go [11] _ rfl rfl ?_ | (intro h; first | exact (h rfl).elim | (exfalso; cases h; done) | (dsimp only [kk_cP, kk_cN] at h) | skip)
  exact hC.sub [(0, (4, 0)), (1, (0, _)), (2, (0, ((0 : Nat) : Int)))] ⟨rfl, rfl, rfl, trivial⟩ (by have := key 10 0 x s rfl x0 x1; rw [show x - mm_sm (A 2) 69 0 = x by show x - 0 = x; omega] at this; exact this)
set_option maxRecDepth 100000 in
set_option maxHeartbeats 4000000 in
theorem mm_holds (l : Launch) (d : Nat) (F : Nat → Int) (A : Nat → Nat → Int) (hv : mm_vS (A 2)) : kk_Ctr l d en_t_X11_holds [(4, 0)] (mm_w F A) (fun rs w' => w' = mm_w F A ∧ ((rs = [(0, 1)] ∧ 0 ≤ A 2 68) ∨ (rs = [(0, 0)] ∧ A 2 68 = -1))) := by
  obtain ⟨v1, v2, -⟩ := id hv
  have v1' : -1 ≤ A 2 (Int.toNat 68) := v1
  refine kk_ctr en_hM (List.mem_of_getElem? (i := 227) rfl) rfl (Nat.le_of_ble_eq_true rfl) (fun K hC => ?_)
  repeat' first | refine hC.gn [] _ rfl rfl ?_ | refine And.intro ?_ ?_ | exact True.intro | refine hC.iadd [] rfl rfl (by first | omega | (simp only [Int.reduceToNat] at *; omega)) ?_ | refine hC.isub [] rfl rfl (by first | omega | (simp only [Int.reduceToNat] at *; omega)) ?_ | refine hC.imul [] rfl rfl (by first | omega | (simp only [Int.reduceToNat] at *; omega)) ?_ | refine hC.iinc [] rfl rfl rfl rfl (by first | omega | (simp only [Int.reduceToNat] at *; omega)) ?_ | refine hC.go [] _ rfl rfl ?_ | (intro h; first | exact (h rfl).elim | (exfalso; cases h; done) | (dsimp only [kk_cP, kk_cN] at h) | skip)
  all_goals first | rfl | omega | exact Or.inl rfl | exact Or.inr rfl | exact Or.inl ⟨rfl, (show 0 ≤ A 2 (Int.toNat 68) by omega)⟩ | exact Or.inr ⟨rfl, (show A 2 (Int.toNat 68) = -1 by omega)⟩
