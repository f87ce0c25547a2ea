/-! THE REFERENCE, 16: days go by; what is kept for undoing -/
variable {Bm : Nat → Nat → Int}
set_option maxRecDepth 100000 in
set_option maxHeartbeats 4000000 in
theorem mm_passDays (l : Launch) (d : Nat) (F : Nat → Int) (A : Nat → Nat → Int) (nn x : Int) (hr : mm_rH (A 2)) (hv : mm_vS (A 2)) (h2 : 0 < A 2 2) : kk_Ctr l (d + 4) en_t_X11_passDays [(4, 0), (0, nn), (0, x)] (mm_w F A) (fun rs w' => ∃ F' A' y, w' = mm_w F' A' ∧ rs = [(0, y)] ∧ (∀ k, k ≠ 25 → F' k = F k) ∧ mm_st A A' ∧ mm_vS (A' 2)) := by
  obtain ⟨c1, c2, c3, c4, c5, c6⟩ := hr.1
  refine kk_ctr en_hM (List.mem_of_getElem? (i := 230) rfl) rfl (Nat.le_of_ble_eq_true rfl) (fun K hC => ?_)
  refine hC.inL 1 rfl (fun hni => ?_)
  obtain ⟨hn1, hn2⟩ := hni
  have k7 : ∀ (n : Nat) (k : Int) (G : Nat → Int) (B : Nat → Nat → Int), (nn - k).toNat < n → (0 ≤ k) → (∀ j, j ≠ 25 → G j = F j) → (mm_st A B) → (mm_vS (B 2)) → K 7 [(0, (4, 0)), (1, (0, nn)), (3, (0, k))] [] (mm_w G B) := by
    intro n
    induction n with
    | zero => intro k G B hz; exact absurd hz (Nat.not_lt_zero _)
    | succ n ih =>
      intro k G B hn h0 hG hs hb
      have k107 : ∀ (G : Nat → Int) (B : Nat → Nat → Int), (k < nn) → (∀ j, j ≠ 25 → G j = F j) → (mm_st A B) → (mm_vS (B 2)) → K 107 [(0, (4, 0)), (1, (0, nn)), (3, (0, k))] [] (mm_w G B) := by
        intro G B hk hG hs hb
        repeat' first | refine hC.gn [7] _ rfl rfl ?_ | refine And.intro ?_ ?_ | exact True.intro | refine hC.iadd [7] rfl rfl (by first | omega | (simp only [Int.reduceToNat] at *; omega)) ?_ | refine hC.isub [7] rfl rfl (by first | omega | (simp only [Int.reduceToNat] at *; omega)) ?_ | refine hC.imul [7] rfl rfl (by first | omega | (simp only [Int.reduceToNat] at *; omega)) ?_ | refine hC.iinc [7] rfl rfl rfl rfl (by first | omega | (simp only [Int.reduceToNat] at *; omega)) ?_ | refine hC.go [7] _ rfl rfl ?_ | (intro h; first | exact (h rfl).elim | (exfalso; cases h; done) | (dsimp only [kk_cP, kk_cN] at h) | skip)
        refine hC.same (mm_nightComes l _ G B hb (by rw [hs.2.1 1 (by decide)]; omega)) rfl rfl rfl rfl (Nat.le_refl _) ?_
        rintro rs w' ⟨B', y, rfl, rfl, hs', hb'⟩
        repeat' first | refine hC.gn [7] _ rfl rfl ?_ | refine And.intro ?_ ?_ | exact True.intro | refine hC.iadd [7] rfl rfl (by first | omega | (simp only [Int.reduceToNat] at *; omega)) ?_ | refine hC.isub [7] rfl rfl (by first | omega | (simp only [Int.reduceToNat] at *; omega)) ?_ | refine hC.imul [7] rfl rfl (by first | omega | (simp only [Int.reduceToNat] at *; omega)) ?_ | refine hC.iinc [7] rfl rfl rfl rfl (by first | omega | (simp only [Int.reduceToNat] at *; omega)) ?_ | refine hC.go [7] _ rfl rfl ?_ | (intro h; first | exact (h rfl).elim | (exfalso; cases h; done) | (dsimp only [kk_cP, kk_cN] at h) | skip)
        exact hC.sub [(0, (4, 0)), (1, (0, _)), (3, (0, _))] ⟨rfl, rfl, rfl, trivial⟩ (ih _ G B' (by omega) (by omega) hG (hs.tr hs') hb')
      have k39 : ∀ (n : Nat) (m : Int) (G : Nat → Int) (B : Nat → Nat → Int), (5 - m).toNat < n → (0 ≤ m ∧ m ≤ 4) → (k < nn) → (∀ j, j ≠ 25 → G j = F j) → (mm_st A B) → (mm_vS (B 2)) → K 39 [(0, (4, 0)), (1, (0, nn)), (3, (0, k)), (4, (0, m))] [] (mm_w G B) := by
        intro n
        induction n with
        | zero => intro m G B hz; exact absurd hz (Nat.not_lt_zero _)
        | succ n ih =>
          intro m G B hn hm0 hk hG hs hb
          have ih39 := ih
          have k53 : ∀ (n : Nat) (e : Int) (B : Nat → Nat → Int), (9 - e).toNat < n → (0 ≤ e ∧ e ≤ 8) → (m < 4) → (mm_st A B) → (mm_vS (B 2)) → K 53 [(0, (4, 0)), (1, (0, nn)), (3, (0, k)), (4, (0, m)), (5, (0, e))] [] (mm_w G B) := by
            intro n
            induction n with
            | zero => intro e B hz; exact absurd hz (Nat.not_lt_zero _)
            | succ n ih =>
              intro e B hn he0 hm4 hs hb
              have e0 : B 2 0 = A 2 0 := hs.2.1 0 (by decide)
              have k95 : ∀ (B : Nat → Nat → Int), (e < 8) → (mm_st A B) → (mm_vS (B 2)) → K 95 [(0, (4, 0)), (1, (0, nn)), (3, (0, k)), (4, (0, m)), (5, (0, e))] [] (mm_w G B) := by
                intro B he8 hs hb
                repeat' first | refine hC.gn [53] _ rfl rfl ?_ | refine And.intro ?_ ?_ | exact True.intro | refine hC.iadd [53] rfl rfl (by first | omega | (simp only [Int.reduceToNat] at *; omega)) ?_ | refine hC.isub [53] rfl rfl (by first | omega | (simp only [Int.reduceToNat] at *; omega)) ?_ | refine hC.imul [53] rfl rfl (by first | omega | (simp only [Int.reduceToNat] at *; omega)) ?_ | refine hC.iinc [53] rfl rfl rfl rfl (by first | omega | (simp only [Int.reduceToNat] at *; omega)) ?_ | refine hC.go [53] _ rfl rfl ?_ | (intro h; first | exact (h rfl).elim | (exfalso; cases h; done) | (dsimp only [kk_cP, kk_cN] at h) | skip)
                all_goals first | rfl | omega | exact ⟨_, rfl⟩ | exact Or.inl rfl | exact Or.inr rfl | (simp only [Int.reduceToNat] at *; omega) | exact hC.sub [(0, (4, 0)), (1, (0, _)), (3, (0, _)), (4, (0, _)), (5, (0, _))] ⟨rfl, rfl, rfl, rfl, rfl, trivial⟩ (ih _ B (by omega) (by omega) hm4 hs hb)
              refine hC.go [] _ rfl rfl ?_
              repeat' first | refine hC.gn [53, 95, 39] _ rfl rfl ?_ | refine And.intro ?_ ?_ | exact True.intro | refine hC.iadd [53, 95, 39] rfl rfl (by first | omega | (simp only [Int.reduceToNat] at *; omega)) ?_ | refine hC.isub [53, 95, 39] rfl rfl (by first | omega | (simp only [Int.reduceToNat] at *; omega)) ?_ | refine hC.imul [53, 95, 39] rfl rfl (by first | omega | (simp only [Int.reduceToNat] at *; omega)) ?_ | refine hC.iinc [53, 95, 39] rfl rfl rfl rfl (by first | omega | (simp only [Int.reduceToNat] at *; omega)) ?_ | refine hC.go [53, 95, 39] _ rfl rfl ?_ | (intro h; first | exact (h rfl).elim | (exfalso; cases h; done) | (dsimp only [kk_cP, kk_cN] at h) | skip) | (refine hC.same (mm_why l _ _ _ 2 m e hb (by omega) (by omega)) rfl rfl rfl rfl (Nat.le_refl _) ?_; rintro rs w' ⟨rfl, xr, rfl, hr0⟩) | (refine hC.same (mm_wants l _ _ _ m e (by omega) (by omega) (by omega) (by first | omega | (simp only [Int.reduceToNat] at *; omega)) hb) rfl rfl rfl rfl (Nat.le_refl _) ?_; rintro rs w' ⟨rfl, rfl | rfl⟩) | (refine hC.same (mm_doOne l _ _ _ m e (by omega) (by omega) (by omega) (by first | omega | (simp only [Int.reduceToNat] at *; omega)) hb) rfl rfl rfl rfl (Nat.le_refl _) ?_; rintro rs w' ⟨rfl, B', rfl, hs', hb'⟩)
              all_goals first | rfl | omega | exact ⟨_, rfl⟩ | exact Or.inl rfl | exact Or.inr rfl | (simp only [Int.reduceToNat] at *; omega) | exact hC.sub [(0, (4, 0)), (1, (0, _)), (3, (0, _)), (4, (0, _)), (5, (0, _))] ⟨rfl, rfl, rfl, rfl, rfl, trivial⟩ (k95 B (by first | omega | (simp only [Int.reduceToNat] at *; omega)) hs hb) | exact hC.sub [(0, (4, 0)), (1, (0, _)), (3, (0, _)), (4, (0, _)), (5, (0, _))] ⟨rfl, rfl, rfl, rfl, rfl, trivial⟩ (k95 B' (by first | omega | (simp only [Int.reduceToNat] at *; omega)) (hs.tr hs') hb') | exact hC.sub [(0, (4, 0)), (1, (0, _)), (3, (0, _)), (4, (0, _))] ⟨rfl, rfl, rfl, rfl, trivial⟩ (ih39 _ G B (by omega) (by omega) hk hG hs hb)
          have e1 : B 2 1 = A 2 1 := hs.2.1 1 (by decide)
          refine hC.go [] _ rfl rfl ?_
          repeat' first | refine hC.gn [39, 53, 107] _ rfl rfl ?_ | refine And.intro ?_ ?_ | exact True.intro | refine hC.iadd [39, 53, 107] rfl rfl (by first | omega | (simp only [Int.reduceToNat] at *; omega)) ?_ | refine hC.isub [39, 53, 107] rfl rfl (by first | omega | (simp only [Int.reduceToNat] at *; omega)) ?_ | refine hC.imul [39, 53, 107] rfl rfl (by first | omega | (simp only [Int.reduceToNat] at *; omega)) ?_ | refine hC.iinc [39, 53, 107] rfl rfl rfl rfl (by first | omega | (simp only [Int.reduceToNat] at *; omega)) ?_ | refine hC.go [39, 53, 107] _ rfl rfl ?_ | (intro h; first | exact (h rfl).elim | (exfalso; cases h; done) | (dsimp only [kk_cP, kk_cN] at h) | skip)
          all_goals first | rfl | omega | exact ⟨_, rfl⟩ | exact Or.inl rfl | exact Or.inr rfl | (simp only [Int.reduceToNat] at *; omega) | exact hC.sub [(0, (4, 0)), (1, (0, _)), (3, (0, _))] ⟨rfl, rfl, rfl, trivial⟩ (k107 G B hk hG hs hb) | exact hC.sub [(0, (4, 0)), (1, (0, _)), (3, (0, _)), (4, (0, _)), (5, (0, _))] ⟨rfl, rfl, rfl, rfl, rfl, trivial⟩ (k53 _ _ B (Nat.lt_succ_self _) (by omega) (by first | omega | (simp only [Int.reduceToNat] at *; omega)) hs hb)
      refine hC.go [] _ rfl rfl ?_
      repeat' first | refine hC.gn [7, 39, 107] _ rfl rfl ?_ | refine And.intro ?_ ?_ | exact True.intro | refine hC.iadd [7, 39, 107] rfl rfl (by first | omega | (simp only [Int.reduceToNat] at *; omega)) ?_ | refine hC.isub [7, 39, 107] rfl rfl (by first | omega | (simp only [Int.reduceToNat] at *; omega)) ?_ | refine hC.imul [7, 39, 107] rfl rfl (by first | omega | (simp only [Int.reduceToNat] at *; omega)) ?_ | refine hC.iinc [7, 39, 107] rfl rfl rfl rfl (by first | omega | (simp only [Int.reduceToNat] at *; omega)) ?_ | refine hC.go [7, 39, 107] _ rfl rfl ?_ | (intro h; first | exact (h rfl).elim | (exfalso; cases h; done) | (dsimp only [kk_cP, kk_cN] at h) | skip) | (refine hC.same (mm_holds l _ _ _ (by assumption)) rfl rfl rfl rfl (Nat.le_refl _) ?_; rintro rs w' ⟨rfl, ⟨rfl, o1⟩ | ⟨rfl, o1⟩⟩)
      all_goals first | rfl | omega | exact ⟨_, rfl⟩ | exact Or.inl rfl | exact Or.inr rfl | (simp only [Int.reduceToNat] at *; omega) | exact ⟨G, B, _, rfl, rfl, hG, hs, hb⟩ | exact hC.sub [(0, (4, 0)), (1, (0, _)), (3, (0, _)), (4, (0, _))] ⟨rfl, rfl, rfl, rfl, trivial⟩ (k39 _ _ G B (Nat.lt_succ_self _) (by omega) (by omega) hG hs hb) | skip
      refine hC.same (mm_drawOne l _ G B (hr.eq hs.2.1) hb (by rw [hs.2.1 2 (by decide)]; exact h2)) rfl rfl rfl rfl (Nat.le_refl _) ?_
      rintro rs w' ⟨rfl, s, N, rfl, q1, q2, q3, q4⟩
      repeat' first | refine hC.gn [39] _ rfl rfl ?_ | refine And.intro ?_ ?_ | exact True.intro | refine hC.iadd [39] rfl rfl (by first | omega | (simp only [Int.reduceToNat] at *; omega)) ?_ | refine hC.isub [39] rfl rfl (by first | omega | (simp only [Int.reduceToNat] at *; omega)) ?_ | refine hC.imul [39] rfl rfl (by first | omega | (simp only [Int.reduceToNat] at *; omega)) ?_ | refine hC.iinc [39] rfl rfl rfl rfl (by first | omega | (simp only [Int.reduceToNat] at *; omega)) ?_ | refine hC.go [39] _ rfl rfl ?_ | (intro h; first | exact (h rfl).elim | (exfalso; cases h; done) | (dsimp only [kk_cP, kk_cN] at h) | skip)
      exact hC.sub [(0, (4, 0)), (1, (0, _)), (3, (0, _)), (4, (0, _))] ⟨rfl, rfl, rfl, rfl, trivial⟩ (k39 _ _ (kk_up G 25 s) (mm_up B 2 N) (Nat.lt_succ_self _) (by omega) (by omega) (fun j hj => (kk_up_ne hj).trans (hG j hj)) (hs.tr (mm_st.up (fun k hk => q1 k (by omega)) q2)) q3)
  repeat' first | refine hC.gn [7] _ rfl rfl ?_ | refine And.intro ?_ ?_ | exact True.intro | refine hC.iadd [7] rfl rfl (by first | omega | (simp only [Int.reduceToNat] at *; omega)) ?_ | refine hC.isub [7] rfl rfl (by first | omega | (simp only [Int.reduceToNat] at *; omega)) ?_ | refine hC.imul [7] rfl rfl (by first | omega | (simp only [Int.reduceToNat] at *; omega)) ?_ | refine hC.iinc [7] rfl rfl rfl rfl (by first | omega | (simp only [Int.reduceToNat] at *; omega)) ?_ | refine hC.go [7] _ rfl rfl ?_ | (intro h; first | exact (h rfl).elim | (exfalso; cases h; done) | (dsimp only [kk_cP, kk_cN] at h) | skip)
  exact hC.sub [(0, (4, 0)), (1, (0, _)), (3, (0, _))] ⟨rfl, rfl, rfl, trivial⟩ (k7 _ _ (kk_up F 25 x) A (Nat.lt_succ_self _) (by omega) (fun j hj => kk_up_ne hj) mm_st.rf hv)
set_option maxRecDepth 100000 in
set_option maxHeartbeats 4000000 in
theorem mm_sg.eq {n2 : Int} {g g' : Nat → Int} (h : mm_sg n2 g) (e : ∀ k, k < 83 → g' k = g k) : mm_sg n2 g' := by
  obtain ⟨h1, h2, h3, h4, h5, h6⟩ := h
  refine ⟨by rw [e 1 (by decide)]; exact h1, by rw [e 1 (by decide)]; exact h2, fun c hc => by rw [e (2 + c) (by omega)]; exact h3 c hc, fun hq => ?_, by rw [e 82 (by decide)]; exact h5, by rw [e 82 (by decide)]; exact h6⟩
  obtain ⟨c, q1, q2⟩ := h4 hq
  exact ⟨c, q1, by rw [e (2 + c) (by omega)]; exact q2⟩
set_option maxRecDepth 100000 in
set_option maxHeartbeats 4000000 in
theorem mm_snap (l : Launch) (d : Nat) (F : Nat → Int) (A : Nat → Nat → Int) (h0 : 0 ≤ F 23 ∧ F 23 ≤ 8) (hv : mm_vS (A 2)) (hs : ∀ j : Nat, (j : Int) < F 23 → mm_sg (A 2 2) (fun k => A 5 (83 * j + k))) : kk_Ctr l d en_t_X11_snap [(4, 0)] (mm_w F A) (fun rs w' => rs = [] ∧ ∃ F' f, w' = mm_w F' (mm_up A 5 f) ∧ (∀ k, k ≠ 23 → F' k = F k) ∧ (0 ≤ F' 23 ∧ F' 23 ≤ 8) ∧ (∀ j : Nat, (j : Int) < F' 23 → mm_sg (A 2 2) (fun k => f (83 * j + k)))) := by
  refine kk_ctr en_hM (List.mem_of_getElem? (i := 223) rfl) rfl (Nat.le_of_ble_eq_true rfl) (fun K hC => ?_)
  have k51 : ∀ (n : Nat) (i : Int) (G : Nat → Int) (f : Nat → Int), (83 - i).toNat < n → (0 ≤ i ∧ i ≤ 83) → (∀ k, k ≠ 23 → G k = F k) → (0 ≤ G 23 ∧ G 23 ≤ 7) → (∀ j : Nat, (j : Int) < G 23 → mm_sg (A 2 2) (fun k => f (83 * j + k))) → (∀ k : Nat, (k : Int) < i → f ((83 * G 23).toNat + k) = A 2 (67 + k)) → K 51 [(0, (4, 0)), (1, (0, i))] [] (mm_w G (mm_up A 5 f)) := by
    intro n
    induction n with
    | zero => intro i G f hz; exact absurd hz (Nat.not_lt_zero _)
    | succ n ih =>
      intro i G f hn g0 g1 g2 g3 g4
      refine hC.go [] _ rfl rfl ?_
      repeat' first | refine hC.gn [51] _ rfl rfl ?_ | refine And.intro ?_ ?_ | exact True.intro | refine hC.iadd [51] rfl rfl (by first | omega | (simp only [Int.reduceToNat] at *; omega)) ?_ | refine hC.isub [51] rfl rfl (by first | omega | (simp only [Int.reduceToNat] at *; omega)) ?_ | refine hC.imul [51] rfl rfl (by first | omega | (simp only [Int.reduceToNat] at *; omega)) ?_ | refine hC.iinc [51] rfl rfl rfl rfl (by first | omega | (simp only [Int.reduceToNat] at *; omega)) ?_ | refine hC.go [51] _ rfl rfl ?_ | (intro h; first | exact (h rfl).elim | (exfalso; cases h; done) | (dsimp only [kk_cP, kk_cN] at h) | skip)
      all_goals first | rfl | omega | skip
      · refine ⟨kk_up G 23 (G 23 + 1), f, rfl, fun k hk => (kk_up_ne hk).trans (g1 k hk), (show 0 ≤ G 23 + 1 ∧ G 23 + 1 ≤ 8 by omega), fun j hj => ?_⟩
        have hj : (j : Int) < G 23 + 1 := hj
        by_cases hq : (j : Int) < G 23
        · exact g3 j hq
        · exact mm_vS_sg hv rfl (fun k hk => by
            have := g4 k (by omega)
            rw [show 83 * j + k = (83 * G 23).toNat + k by omega]
            exact this)
      · refine hC.sub [(0, (4, 0)), (1, (0, _))] ⟨rfl, rfl, trivial⟩ (ih _ G (kk_up f (83 * G 23 + i).toNat (A 2 (67 + i).toNat)) (by omega) (by omega) g1 g2 (fun j hj => ?_) (fun k hk => ?_))
        · exact (g3 j hj).eq (fun k hk => kk_up_ne (by omega))
        · by_cases hq : (k : Int) = i
          · rw [show (83 * G 23).toNat + k = (83 * G 23 + i).toNat by omega, kk_up_eq, show (67 + i).toNat = 67 + k by omega]
          · rw [kk_up_ne (by omega)]
            exact g4 k (by omega)
  have k11 : ∀ (n : Nat) (i : Int) (f : Nat → Int), (581 - i).toNat < n → (0 ≤ i ∧ i ≤ 581) → (F 23 = 8) → (∀ q : Nat, (q : Int) < i → f q = A 5 (q + 83)) → (∀ q : Nat, i ≤ (q : Int) → f q = A 5 q) → K 11 [(0, (4, 0)), (1, (0, i))] [] (mm_w F (mm_up A 5 f)) := by
    intro n
    induction n with
    | zero => intro i f hz; exact absurd hz (Nat.not_lt_zero _)
    | succ n ih =>
      intro i f hn q0 q1 q2 q3
      refine hC.go [] _ rfl rfl ?_
      repeat' first | refine hC.gn [11, 51] _ rfl rfl ?_ | refine And.intro ?_ ?_ | exact True.intro | refine hC.iadd [11, 51] rfl rfl (by first | omega | (simp only [Int.reduceToNat] at *; omega)) ?_ | refine hC.isub [11, 51] rfl rfl (by first | omega | (simp only [Int.reduceToNat] at *; omega)) ?_ | refine hC.imul [11, 51] rfl rfl (by first | omega | (simp only [Int.reduceToNat] at *; omega)) ?_ | refine hC.iinc [11, 51] rfl rfl rfl rfl (by first | omega | (simp only [Int.reduceToNat] at *; omega)) ?_ | refine hC.go [11, 51] _ rfl rfl ?_ | (intro h; first | exact (h rfl).elim | (exfalso; cases h; done) | (dsimp only [kk_cP, kk_cN] at h) | skip)
      all_goals first | rfl | omega | skip
      · refine hC.sub [(0, (4, 0)), (1, (0, _))] ⟨rfl, rfl, trivial⟩ (k51 _ _ (kk_up F 23 (F 23 - 1)) f (Nat.lt_succ_self _) (by omega) (fun k hk => kk_up_ne hk) (show 0 ≤ F 23 - 1 ∧ F 23 - 1 ≤ 7 by omega) (fun j hj => ?_) (fun k hk => absurd hk (by omega)))
        have hj : (j : Int) < F 23 - 1 := hj
        exact (hs (j + 1) (by omega)).eq (fun k hk => by
          rw [q2 (83 * j + k) (by omega), show 83 * j + k + 83 = 83 * (j + 1) + k by omega])
      · refine hC.sub [(0, (4, 0)), (1, (0, _))] ⟨rfl, rfl, trivial⟩ (ih _ (kk_up f i.toNat (f (i + 83).toNat)) (by omega) (by omega) q1 (fun q hq => ?_) (fun q hq => ?_))
        · by_cases he : (q : Int) = i
          · rw [show q = i.toNat by omega, kk_up_eq, q3 _ (by omega), show (i + 83).toNat = i.toNat + 83 by omega]
          · rw [kk_up_ne (by omega)]
            exact q2 q (by omega)
        · rw [kk_up_ne (by omega)]
          exact q3 q (by omega)
  repeat' first | refine hC.gn [11, 51] _ rfl rfl ?_ | refine And.intro ?_ ?_ | exact True.intro | refine hC.iadd [11, 51] rfl rfl (by first | omega | (simp only [Int.reduceToNat] at *; omega)) ?_ | refine hC.isub [11, 51] rfl rfl (by first | omega | (simp only [Int.reduceToNat] at *; omega)) ?_ | refine hC.imul [11, 51] rfl rfl (by first | omega | (simp only [Int.reduceToNat] at *; omega)) ?_ | refine hC.iinc [11, 51] rfl rfl rfl rfl (by first | omega | (simp only [Int.reduceToNat] at *; omega)) ?_ | refine hC.go [11, 51] _ rfl rfl ?_ | (intro h; first | exact (h rfl).elim | (exfalso; cases h; done) | (dsimp only [kk_cP, kk_cN] at h) | skip)
  all_goals first | rfl | omega | skip
  · exact hC.sub [(0, (4, 0)), (1, (0, _))] ⟨rfl, rfl, trivial⟩ (k51 _ _ F (A 5) (Nat.lt_succ_self _) (by omega) (fun k _ => rfl) (by omega) hs (fun k hk => absurd hk (by omega)))
  · exact hC.sub [(0, (4, 0)), (1, (0, _))] ⟨rfl, rfl, trivial⟩ (k11 _ _ (A 5) (Nat.lt_succ_self _) (by omega) (by omega) (fun q hq => absurd hq (by omega)) (fun q _ => rfl))
set_option maxRecDepth 100000 in
set_option maxHeartbeats 4000000 in
theorem mm_layAside (l : Launch) (d : Nat) (F : Nat → Int) (A : Nat → Nat → Int) : kk_Ctr l d en_t_X11_layAside [(4, 0)] (mm_w F A) (fun rs w' => rs = [] ∧ ∃ f, w' = mm_w F (mm_up A 6 f) ∧ ∀ k, k < 83 → f k = A 2 (67 + k)) := by
  refine kk_ctr en_hM (List.mem_of_getElem? (i := 240) rfl) rfl (Nat.le_of_ble_eq_true rfl) (fun K hC => ?_)
  have k2 : ∀ (n : Nat) (i : Int) (f : Nat → Int), (83 - i).toNat < n → (0 ≤ i ∧ i ≤ 83) → (∀ k : Nat, (k : Int) < i → f k = A 2 (67 + k)) → K 2 [(0, (4, 0)), (1, (0, i))] [] (mm_w F (mm_up A 6 f)) := by
    intro n
    induction n with
    | zero => intro i f hz; exact absurd hz (Nat.not_lt_zero _)
    | succ n ih =>
      intro i f hn g0 g1
      refine hC.go [] _ rfl rfl ?_
      repeat' first | refine hC.gn [2] _ rfl rfl ?_ | refine And.intro ?_ ?_ | exact True.intro | refine hC.iadd [2] rfl rfl (by first | omega | (simp only [Int.reduceToNat] at *; omega)) ?_ | refine hC.isub [2] rfl rfl (by first | omega | (simp only [Int.reduceToNat] at *; omega)) ?_ | refine hC.imul [2] rfl rfl (by first | omega | (simp only [Int.reduceToNat] at *; omega)) ?_ | refine hC.iinc [2] rfl rfl rfl rfl (by first | omega | (simp only [Int.reduceToNat] at *; omega)) ?_ | refine hC.go [2] _ rfl rfl ?_ | (intro h; first | exact (h rfl).elim | (exfalso; cases h; done) | (dsimp only [kk_cP, kk_cN] at h) | skip)
      all_goals first | rfl | omega | exact ⟨f, rfl, fun k hk => g1 k (by omega)⟩ | skip
      refine hC.sub [(0, (4, 0)), (1, (0, _))] ⟨rfl, rfl, trivial⟩ (ih _ (kk_up f i.toNat (A 2 (67 + i).toNat)) (by omega) (by omega) (fun k hk => ?_))
      by_cases hq : (k : Int) = i
      · rw [show k = i.toNat by omega, kk_up_eq, show (67 + i).toNat = 67 + i.toNat by omega]
      · rw [kk_up_ne (by omega)]
        exact g1 k (by omega)
  repeat' first | refine hC.gn [2] _ rfl rfl ?_ | refine And.intro ?_ ?_ | exact True.intro | refine hC.iadd [2] rfl rfl (by first | omega | (simp only [Int.reduceToNat] at *; omega)) ?_ | refine hC.isub [2] rfl rfl (by first | omega | (simp only [Int.reduceToNat] at *; omega)) ?_ | refine hC.imul [2] rfl rfl (by first | omega | (simp only [Int.reduceToNat] at *; omega)) ?_ | refine hC.iinc [2] rfl rfl rfl rfl (by first | omega | (simp only [Int.reduceToNat] at *; omega)) ?_ | refine hC.go [2] _ rfl rfl ?_ | (intro h; first | exact (h rfl).elim | (exfalso; cases h; done) | (dsimp only [kk_cP, kk_cN] at h) | skip)
  exact hC.sub [(0, (4, 0)), (1, (0, _))] ⟨rfl, rfl, trivial⟩ (k2 _ _ (A 6) (Nat.lt_succ_self _) (by omega) (fun k hk => absurd hk (by omega)))
set_option maxRecDepth 100000 in
set_option maxHeartbeats 4000000 in
theorem mm_takeBack (l : Launch) (d : Nat) (F : Nat → Int) (A : Nat → Nat → Int) : kk_Ctr l d en_t_X11_takeBack [(4, 0)] (mm_w F A) (fun rs w' => rs = [] ∧ ∃ N, w' = mm_w F (mm_up A 2 N) ∧ mm_st A (mm_up A 2 N) ∧ ∀ k, k < 83 → N (67 + k) = A 6 k) := by
  refine kk_ctr en_hM (List.mem_of_getElem? (i := 241) rfl) rfl (Nat.le_of_ble_eq_true rfl) (fun K hC => ?_)
  have k2 : ∀ (n : Nat) (i : Int) (N : Nat → Int), (83 - i).toNat < n → (0 ≤ i ∧ i ≤ 83) → (∀ k : Nat, (k : Int) < i → N (67 + k) = A 6 k) → (∀ k, (k < 67 ∨ 150 ≤ k) → N k = A 2 k) → K 2 [(0, (4, 0)), (1, (0, i))] [] (mm_w F (mm_up A 2 N)) := by
    intro n
    induction n with
    | zero => intro i N hz; exact absurd hz (Nat.not_lt_zero _)
    | succ n ih =>
      intro i N hn g0 g1 g2
      refine hC.go [] _ rfl rfl ?_
      repeat' first | refine hC.gn [2] _ rfl rfl ?_ | refine And.intro ?_ ?_ | exact True.intro | refine hC.iadd [2] rfl rfl (by first | omega | (simp only [Int.reduceToNat] at *; omega)) ?_ | refine hC.isub [2] rfl rfl (by first | omega | (simp only [Int.reduceToNat] at *; omega)) ?_ | refine hC.imul [2] rfl rfl (by first | omega | (simp only [Int.reduceToNat] at *; omega)) ?_ | refine hC.iinc [2] rfl rfl rfl rfl (by first | omega | (simp only [Int.reduceToNat] at *; omega)) ?_ | refine hC.go [2] _ rfl rfl ?_ | (intro h; first | exact (h rfl).elim | (exfalso; cases h; done) | (dsimp only [kk_cP, kk_cN] at h) | skip)
      all_goals first | rfl | omega | exact ⟨N, rfl, mm_st.up (fun k hk => g2 k (Or.inl hk)) (fun k hk => g2 k (Or.inr hk)), fun k hk => g1 k (by omega)⟩ | skip
      refine hC.sub [(0, (4, 0)), (1, (0, _))] ⟨rfl, rfl, trivial⟩ (ih _ (kk_up N (67 + i).toNat (A 6 i.toNat)) (by omega) (by omega) (fun k hk => ?_) (fun k hk => (kk_up_ne (by omega)).trans (g2 k hk)))
      by_cases hq : (k : Int) = i
      · rw [show 67 + k = (67 + i).toNat by omega, kk_up_eq, show i.toNat = k by omega]
      · rw [kk_up_ne (by omega)]
        exact g1 k (by omega)
  repeat' first | refine hC.gn [2] _ rfl rfl ?_ | refine And.intro ?_ ?_ | exact True.intro | refine hC.iadd [2] rfl rfl (by first | omega | (simp only [Int.reduceToNat] at *; omega)) ?_ | refine hC.isub [2] rfl rfl (by first | omega | (simp only [Int.reduceToNat] at *; omega)) ?_ | refine hC.imul [2] rfl rfl (by first | omega | (simp only [Int.reduceToNat] at *; omega)) ?_ | refine hC.iinc [2] rfl rfl rfl rfl (by first | omega | (simp only [Int.reduceToNat] at *; omega)) ?_ | refine hC.go [2] _ rfl rfl ?_ | (intro h; first | exact (h rfl).elim | (exfalso; cases h; done) | (dsimp only [kk_cP, kk_cN] at h) | skip)
  exact hC.sub [(0, (4, 0)), (1, (0, _))] ⟨rfl, rfl, trivial⟩ (k2 _ _ (A 2) (Nat.lt_succ_self _) (by omega) (fun k hk => absurd hk (by omega)) (fun k _ => rfl))
set_option maxRecDepth 100000 in
set_option maxHeartbeats 4000000 in
theorem mm_Ia.sn {s s' lk tx cv wa fa : Int} {A : Nat → Nat → Int} {f : Nat → Int} (h : mm_Ia Bm s lk tx cv wa fa A) (h1 : 0 ≤ s' ∧ s' ≤ 8) (h2 : ∀ j : Nat, (j : Int) < s' → mm_sg (A 2 2) (fun k => f (83 * j + k))) : mm_Ia Bm s' lk tx cv wa fa (mm_up A 5 f) := ⟨h1, h.2.1, h.2.2.1, h.2.2.2.1, h.2.2.2.2.1, h.2.2.2.2.2.1, h.2.2.2.2.2.2.1, h2, h.2.2.2.2.2.2.2.2.1, h.2.2.2.2.2.2.2.2.2⟩
/-- what stays of the fields that count -/
def mm_f4 (F F' : Nat → Int) : Prop := F' 2 = F 2 ∧ F' 31 = F 31 ∧ F' 37 = F 37
set_option maxRecDepth 100000 in
set_option maxHeartbeats 4000000 in
theorem mm_I.snap {F G : Nat → Int} {A : Nat → Nat → Int} {f : Nat → Int} (hI : mm_I Bm F A) (hG : ∀ k, k ≠ 23 → G k = F k) (hG8 : 0 ≤ G 23 ∧ G 23 ≤ 8) (hsn : ∀ j : Nat, (j : Int) < G 23 → mm_sg (A 2 2) (fun k => f (83 * j + k))) : mm_I Bm G (mm_up A 5 f) := by
  refine ⟨by rw [hG 2 (by decide)]; exact hI.1, ?_⟩
  have := mm_Ia.sn (f := f) hI.2 hG8 hsn
  rw [hG 31 (by decide), hG 37 (by decide), hG 26 (by decide), hG 35 (by decide), hG 10 (by decide)]
  exact this
