/-! THE REFERENCE, 10: a house is told -/
-- what is so is good, beside a good head
def mm_vS (N : Nat → Int) : Prop := -1 ≤ N 68 ∧ N 68 ≤ 9 ∧ (∀ c, c < 10 → 0 ≤ N (69 + c) ∧ N (69 + c) ≤ 9) ∧ (0 < N 2 → ∃ c, c < 10 ∧ 1 ≤ N (69 + c)) ∧ 0 ≤ N 149 ∧ N 149 ≤ 16
set_option maxRecDepth 100000 in
set_option maxHeartbeats 4000000 in
theorem mm_begun {N0 N : Nat → Int} (h : mm_rH N0) (hN : ∀ k, k < 392 → N k = mm_s3 N0 32 k) : mm_rH N ∧ mm_vS N ∧ ∀ k, 150 ≤ k → k < 392 → N k = 0 := by
  obtain ⟨⟨c1, c2, c3, c4, c5, c6⟩, hs, h5, h4⟩ := h
  have e : ∀ k, k < 67 → N k = N0 k := fun k hk => by
    rw [hN k (by omega)]
    unfold mm_s3 mm_s2 mm_s1
    rw [if_neg (by omega), if_neg (by omega), if_neg (by omega), if_neg (by omega)]
  have eb : ∀ c, c < 10 → N (69 + c) = N0 (5 + c) := fun c hc => by
    rw [hN (69 + c) (by omega)]
    unfold mm_s3 mm_s2
    rw [if_neg (by omega), if_pos (by omega)]
    congr 1
    omega
  have e68 : N 68 = -1 := by
    rw [hN 68 (by omega)]
    rfl
  have e149 : N 149 = 0 := by
    rw [hN 149 (by omega)]
    rfl
  have e150 : ∀ k, 150 ≤ k → k < 392 → N k = 0 := fun k k1 k2 => by
    rw [hN k k2]
    unfold mm_s3 mm_s2 mm_s1
    rw [if_neg (by omega), if_neg (by omega), if_neg (by omega), if_pos (by omega)]
  refine ⟨⟨⟨by rw [e 0 (by decide)]; exact c1, by rw [e 0 (by decide)]; exact c2, by rw [e 1 (by decide)]; exact c3, by rw [e 1 (by decide)]; exact c4, by rw [e 2 (by decide)]; exact c5, by rw [e 2 (by decide)]; exact c6⟩, fun c hc => by rw [e (5 + c) (by omega)]; exact hs c hc, by rw [e 2 (by decide), e 5 (by decide)]; exact h5, by rw [e 4 (by decide)]; exact h4⟩, ⟨by omega, by omega, fun c hc => by rw [eb c hc]; exact hs c hc, fun h => ⟨0, by decide, by rw [eb 0 (by decide)]; exact h5 (by rw [← e 2 (by decide)]; exact h)⟩, by omega, by omega⟩, e150⟩
set_option maxRecDepth 100000 in
set_option maxHeartbeats 4000000 in
theorem mm_bne {k j : Nat} (h : k ≠ j) : Nat.beq k j = false := by
  cases hb : Nat.beq k j with
  | true => exact absurd (Nat.eq_of_beq_eq_true hb) h
  | false => rfl
def mm_zr (i : Nat) (r0 : Nat → Int) (k : Nat) : Int := if k < i then 0 else r0 k
def mm_QHo (F : Nat → Int) (A : Nat → Nat → Int) : List en_V → List kk_C → Prop := fun rs w' => ∃ F' A' x, w' = mm_w F' A' ∧ rs = [(0, x)] ∧ F' 2 = 0 ∧ F' 0 = 0 ∧ (∀ k, 13 < k → k ≠ 24 → k ≠ 23 → F' k = F k) ∧ (∀ k, k ≠ 2 → k ≠ 3 → k ≠ 7 → k ≠ 8 → A' k = A k) ∧ mm_nb 22 (A' 8) ∧ ((A' 2 = A 2 ∧ A' 7 = A 7 ∧ F' 23 = F 23) ∨ (mm_nb 22 (A' 7) ∧ mm_rH (A' 2) ∧ mm_vS (A' 2) ∧ (∀ k, 150 ≤ k → k < 392 → A' 2 k = 0) ∧ F' 23 = 0))
set_option maxRecDepth 100000 in
set_option maxHeartbeats 4000000 in
theorem mm_house (l : Launch) (d : Nat) (F : Nat → Int) (A : Nat → Nat → Int) (h0 : 0 ≤ F 2) (h1 : F 2 ≤ 940) (hn : mm_nb 22 (A 8)) : kk_Ctr l (d + 7) en_t_X11_house [(4, 0)] (mm_w F A) (mm_QHo F A) := by
  refine kk_ctr en_hM (List.mem_of_getElem? (i := 170) rfl) rfl (Nat.le_of_ble_eq_true rfl) (fun K hC => ?_)
  -- the names are taken over, all begins
  have k104 : ∀ (n j : Nat) (F1 : Nat → Int) (r f N f7 : Nat → Int) (ln : Int), j + n = 22 → F1 2 = 0 → F1 0 = 0 → (∀ k, 13 < k → k ≠ 24 → F1 k = F k) → mm_nb 22 f → mm_rH N → (∀ k, k < j → f7 k ≤ 10460353202) → K 104 [(0, (4, 0)), (1, (0, ln)), (2, (0, (j : Int)))] [] (mm_w F1 (mm_up (mm_up (mm_up (mm_up A 3 r) 8 f) 2 N) 7 f7)) := by
    intro n
    induction n with
    | zero =>
      intro j F1 r f N f7 ln hj g1 g2 g3 g4 g5 g6
      have hj : j = 22 := by omega
      subst hj
      refine hC.go [] _ rfl rfl ?_
      repeat' first | refine hC.gn [104] _ rfl rfl ?_ | refine And.intro ?_ ?_ | exact True.intro | refine hC.iadd [104] rfl rfl (by first | omega | (simp only [Int.reduceToNat] at *; omega)) ?_ | refine hC.isub [104] rfl rfl (by first | omega | (simp only [Int.reduceToNat] at *; omega)) ?_ | refine hC.imul [104] rfl rfl (by first | omega | (simp only [Int.reduceToNat] at *; omega)) ?_ | refine hC.iinc [104] rfl rfl rfl rfl (by first | omega | (simp only [Int.reduceToNat] at *; omega)) ?_ | refine hC.go [104] _ rfl rfl ?_ | (intro h; first | exact (h rfl).elim | (exfalso; cases h; done) | (dsimp only [kk_cP, kk_cN] at h) | skip)
      all_goals first | omega | skip
      refine hC.same (mm_startSo l _ F1 (mm_up (mm_up (mm_up (mm_up A 3 r) 8 f) 2 N) 7 f7)) rfl rfl rfl rfl (Nat.le_refl _) ?_
      rintro rs w' ⟨rfl, N2, rfl, hN2⟩
      repeat' first | refine hC.gn [104] _ rfl rfl ?_ | refine And.intro ?_ ?_ | exact True.intro | refine hC.iadd [104] rfl rfl (by first | omega | (simp only [Int.reduceToNat] at *; omega)) ?_ | refine hC.isub [104] rfl rfl (by first | omega | (simp only [Int.reduceToNat] at *; omega)) ?_ | refine hC.imul [104] rfl rfl (by first | omega | (simp only [Int.reduceToNat] at *; omega)) ?_ | refine hC.iinc [104] rfl rfl rfl rfl (by first | omega | (simp only [Int.reduceToNat] at *; omega)) ?_ | refine hC.go [104] _ rfl rfl ?_ | (intro h; first | exact (h rfl).elim | (exfalso; cases h; done) | (dsimp only [kk_cP, kk_cN] at h) | skip)
      obtain ⟨b1, b2, b3⟩ := mm_begun g5 hN2
      exact ⟨kk_up F1 23 0, mm_up (mm_up (mm_up (mm_up (mm_up A 3 r) 8 f) 2 N) 7 f7) 2 N2, ln, rfl, rfl, g1, g2, fun k hk h24 h23 => (kk_up_ne h23).trans (g3 k hk h24), fun k h2 h3 h7 h8 => by simp only [mm_up, mm_bne h2, mm_bne h3, mm_bne h7, mm_bne h8, cond_false], g4, Or.inr ⟨g6, b1, b2, b3, rfl⟩⟩
    | succ n ih =>
      intro j F1 r f N f7 ln hj g1 g2 g3 g4 g5 g6
      refine hC.go [] _ rfl rfl ?_
      repeat' first | refine hC.gn [104] _ rfl rfl ?_ | refine And.intro ?_ ?_ | exact True.intro | refine hC.iadd [104] rfl rfl (by first | omega | (simp only [Int.reduceToNat] at *; omega)) ?_ | refine hC.isub [104] rfl rfl (by first | omega | (simp only [Int.reduceToNat] at *; omega)) ?_ | refine hC.imul [104] rfl rfl (by first | omega | (simp only [Int.reduceToNat] at *; omega)) ?_ | refine hC.iinc [104] rfl rfl rfl rfl (by first | omega | (simp only [Int.reduceToNat] at *; omega)) ?_ | refine hC.go [104] _ rfl rfl ?_ | (intro h; first | exact (h rfl).elim | (exfalso; cases h; done) | (dsimp only [kk_cP, kk_cN] at h) | skip)
      all_goals first | omega | skip
      · exact hC.sub [(0, (4, 0)), (1, (0, ln)), (2, (0, ((j + 1 : Nat) : Int)))] ⟨rfl, rfl, rfl, trivial⟩ (ih (j + 1) F1 r f N (kk_up f7 j (f j)) ln (by omega) g1 g2 g3 g4 g5 (fun k hk => by
          by_cases hq : k = j
          · rw [hq, kk_up_eq]; exact g4 j (by omega)
          · rw [kk_up_ne hq]; exact g6 k (by omega)))
  have k78 : ∀ (n j : Nat) (F1 : Nat → Int) (r f N : Nat → Int) (ln : Int), j + n = 67 → F1 2 = 0 → F1 0 = 0 → (∀ k, 13 < k → k ≠ 24 → F1 k = F k) → mm_nb 22 f → mm_rH r → (∀ k, k < j → N k = r k) → K 78 [(0, (4, 0)), (1, (0, ln)), (2, (0, (j : Int)))] [] (mm_w F1 (mm_up (mm_up (mm_up A 3 r) 8 f) 2 N)) := by
    intro n
    induction n with
    | zero =>
      intro j F1 r f N ln hj g1 g2 g3 g4 g5 g6
      have hj : j = 67 := by omega
      subst hj
      have hN : mm_rH N := by
        obtain ⟨⟨c1, c2, c3, c4, c5, c6⟩, hs, h5, h4⟩ := g5
        exact ⟨⟨by rw [g6 0 (by decide)]; exact c1, by rw [g6 0 (by decide)]; exact c2, by rw [g6 1 (by decide)]; exact c3, by rw [g6 1 (by decide)]; exact c4, by rw [g6 2 (by decide)]; exact c5, by rw [g6 2 (by decide)]; exact c6⟩, fun c hc => by rw [g6 (5 + c) (by omega)]; exact hs c hc, by rw [g6 2 (by decide), g6 5 (by decide)]; exact h5, by rw [g6 4 (by decide)]; exact h4⟩
      refine hC.go [] _ rfl rfl ?_
      repeat' first | refine hC.gn [78, 104] _ rfl rfl ?_ | refine And.intro ?_ ?_ | exact True.intro | refine hC.iadd [78, 104] rfl rfl (by first | omega | (simp only [Int.reduceToNat] at *; omega)) ?_ | refine hC.isub [78, 104] rfl rfl (by first | omega | (simp only [Int.reduceToNat] at *; omega)) ?_ | refine hC.imul [78, 104] rfl rfl (by first | omega | (simp only [Int.reduceToNat] at *; omega)) ?_ | refine hC.iinc [78, 104] rfl rfl rfl rfl (by first | omega | (simp only [Int.reduceToNat] at *; omega)) ?_ | refine hC.go [78, 104] _ rfl rfl ?_ | (intro h; first | exact (h rfl).elim | (exfalso; cases h; done) | (dsimp only [kk_cP, kk_cN] at h) | skip)
      all_goals first | omega | skip
      exact hC.sub [(0, (4, 0)), (1, (0, ln)), (2, (0, ((0 : Nat) : Int)))] ⟨rfl, rfl, rfl, trivial⟩ (k104 22 0 F1 r f N (A 7) ln (by omega) g1 g2 g3 g4 hN (fun k hk => absurd hk (Nat.not_lt_zero _)))
    | succ n ih =>
      intro j F1 r f N ln hj g1 g2 g3 g4 g5 g6
      refine hC.go [] _ rfl rfl ?_
      repeat' first | refine hC.gn [78, 104] _ rfl rfl ?_ | refine And.intro ?_ ?_ | exact True.intro | refine hC.iadd [78, 104] rfl rfl (by first | omega | (simp only [Int.reduceToNat] at *; omega)) ?_ | refine hC.isub [78, 104] rfl rfl (by first | omega | (simp only [Int.reduceToNat] at *; omega)) ?_ | refine hC.imul [78, 104] rfl rfl (by first | omega | (simp only [Int.reduceToNat] at *; omega)) ?_ | refine hC.iinc [78, 104] rfl rfl rfl rfl (by first | omega | (simp only [Int.reduceToNat] at *; omega)) ?_ | refine hC.go [78, 104] _ rfl rfl ?_ | (intro h; first | exact (h rfl).elim | (exfalso; cases h; done) | (dsimp only [kk_cP, kk_cN] at h) | skip)
      all_goals first | omega | skip
      · exact hC.sub [(0, (4, 0)), (1, (0, ln)), (2, (0, ((j + 1 : Nat) : Int)))] ⟨rfl, rfl, rfl, trivial⟩ (ih (j + 1) F1 r f (kk_up N j (r j)) ln (by omega) g1 g2 g3 g4 g5 (fun k hk => by
          by_cases hq : k = j
          · rw [hq, kk_up_eq]
          · rw [kk_up_ne hq]; exact g6 k (by omega)))
  have k42 : ∀ (n : Nat) (F1 : Nat → Int) (r f : Nat → Int) (ln : Int), (F1 3 - F1 5).toNat < n → mm_ok F1 → F1 2 = 0 → F1 0 = 0 → (∀ k, 13 < k → k ≠ 24 → F1 k = F k) → mm_nb 22 f → mm_rH r → K 42 [(0, (4, 0)), (1, (0, ln))] [] (mm_w F1 (mm_up (mm_up A 3 r) 8 f)) := by
    intro n
    induction n with
    | zero => intro F1 r f ln hz; exact absurd hz (Nat.not_lt_zero _)
    | succ n ih =>
      intro F1 r f ln hm hk g1 g2 g3 g4 g5
      refine hC.go [] _ rfl rfl ?_
      repeat' first | refine hC.gn [42, 78] _ rfl rfl ?_ | refine And.intro ?_ ?_ | exact True.intro | refine hC.iadd [42, 78] rfl rfl (by first | omega | (simp only [Int.reduceToNat] at *; omega)) ?_ | refine hC.isub [42, 78] rfl rfl (by first | omega | (simp only [Int.reduceToNat] at *; omega)) ?_ | refine hC.imul [42, 78] rfl rfl (by first | omega | (simp only [Int.reduceToNat] at *; omega)) ?_ | refine hC.iinc [42, 78] rfl rfl rfl rfl (by first | omega | (simp only [Int.reduceToNat] at *; omega)) ?_ | refine hC.go [42, 78] _ rfl rfl ?_ | (intro h; first | exact (h rfl).elim | (exfalso; cases h; done) | (dsimp only [kk_cP, kk_cN] at h) | skip)
      · exact hC.sub [(0, (4, 0)), (1, (0, ln)), (2, (0, ((0 : Nat) : Int)))] ⟨rfl, rfl, rfl, trivial⟩ (k78 67 0 F1 r f (A 2) ln (by omega) g1 g2 g3 g4 g5 (fun k hk => absurd hk (Nat.not_lt_zero _)))
      · refine hC.same (mm_readLine l _ F1 (mm_up (mm_up A 3 r) 8 f) hk g5 g4) rfl rfl rfl rfl (Nat.le_refl _) ?_
        rintro rs w' ⟨F2, r2, f2, rfl, hp2, hr2, hn2, hq⟩
        have e0 : F2 0 = 0 := (hp2.1 0 (by decide) (by decide)).trans g2
        have e2 : F2 2 = 0 := (hp2.1 2 (by decide) (by decide)).trans g1
        have e3 : F2 3 = F1 3 := hp2.1 3 (by decide) (by decide)
        have e9 : ∀ k, 13 < k → k ≠ 24 → F2 k = F k := fun k q1 q2 => (hp2.1 k (Or.inr q1) q2).trans (g3 k q1 q2)
        rcases hq with ⟨rfl, q1⟩ | rfl
        · repeat' first | refine hC.gn [42] _ rfl rfl ?_ | refine And.intro ?_ ?_ | exact True.intro | refine hC.iadd [42] rfl rfl (by first | omega | (simp only [Int.reduceToNat] at *; omega)) ?_ | refine hC.isub [42] rfl rfl (by first | omega | (simp only [Int.reduceToNat] at *; omega)) ?_ | refine hC.imul [42] rfl rfl (by first | omega | (simp only [Int.reduceToNat] at *; omega)) ?_ | refine hC.iinc [42] rfl rfl rfl rfl (by first | omega | (simp only [Int.reduceToNat] at *; omega)) ?_ | refine hC.go [42] _ rfl rfl ?_ | (intro h; first | exact (h rfl).elim | (exfalso; cases h; done) | (dsimp only [kk_cP, kk_cN] at h) | skip)
          refine hC.same (mm_readEnd l _ F2 (mm_up (mm_up A 3 r2) 8 f2) hp2.2.1) rfl rfl rfl rfl (Nat.le_refl _) ?_
          rintro rs w' ⟨F3, rfl, hp3, ⟨rfl, hs⟩ | rfl⟩
          · repeat' first | refine hC.gn [42] _ rfl rfl ?_ | refine And.intro ?_ ?_ | exact True.intro | refine hC.iadd [42] rfl rfl (by first | omega | (simp only [Int.reduceToNat] at *; omega)) ?_ | refine hC.isub [42] rfl rfl (by first | omega | (simp only [Int.reduceToNat] at *; omega)) ?_ | refine hC.imul [42] rfl rfl (by first | omega | (simp only [Int.reduceToNat] at *; omega)) ?_ | refine hC.iinc [42] rfl rfl rfl rfl (by first | omega | (simp only [Int.reduceToNat] at *; omega)) ?_ | refine hC.go [42] _ rfl rfl ?_ | (intro h; first | exact (h rfl).elim | (exfalso; cases h; done) | (dsimp only [kk_cP, kk_cN] at h) | skip)
            have p1 := q1 hs
            have p2 := hp3.2.2
            have p3 := hp3.1 3 (by decide)
            have p4 := hp3.2.1.2.1
            exact hC.sub [(0, (4, 0)), (1, (0, _))] ⟨rfl, rfl, trivial⟩ (ih F3 r2 f2 _ (by omega) hp3.2.1 ((hp3.1 2 (by decide)).trans e2) ((hp3.1 0 (by decide)).trans e0) (fun k q1 q2 => (hp3.1 k (Or.inr q1)).trans (e9 k q1 q2)) hn2 hr2)
          · repeat' first | refine hC.gn [42] _ rfl rfl ?_ | refine And.intro ?_ ?_ | exact True.intro | refine hC.iadd [42] rfl rfl (by first | omega | (simp only [Int.reduceToNat] at *; omega)) ?_ | refine hC.isub [42] rfl rfl (by first | omega | (simp only [Int.reduceToNat] at *; omega)) ?_ | refine hC.imul [42] rfl rfl (by first | omega | (simp only [Int.reduceToNat] at *; omega)) ?_ | refine hC.iinc [42] rfl rfl rfl rfl (by first | omega | (simp only [Int.reduceToNat] at *; omega)) ?_ | refine hC.go [42] _ rfl rfl ?_ | (intro h; first | exact (h rfl).elim | (exfalso; cases h; done) | (dsimp only [kk_cP, kk_cN] at h) | skip)
            exact ⟨F3, mm_up (mm_up A 3 r2) 8 f2, _, rfl, rfl, (hp3.1 2 (by decide)).trans e2, (hp3.1 0 (by decide)).trans e0, fun k q1 q2 _ => (hp3.1 k (Or.inr q1)).trans (e9 k q1 q2), fun k h2 h3 h7 h8 => by simp only [mm_up, mm_bne h3, mm_bne h8, cond_false], hn2, Or.inl ⟨rfl, rfl, (hp3.1 23 (by decide)).trans (e9 23 (by decide) (by decide))⟩⟩
        · repeat' first | refine hC.gn [42] _ rfl rfl ?_ | refine And.intro ?_ ?_ | exact True.intro | refine hC.iadd [42] rfl rfl (by first | omega | (simp only [Int.reduceToNat] at *; omega)) ?_ | refine hC.isub [42] rfl rfl (by first | omega | (simp only [Int.reduceToNat] at *; omega)) ?_ | refine hC.imul [42] rfl rfl (by first | omega | (simp only [Int.reduceToNat] at *; omega)) ?_ | refine hC.iinc [42] rfl rfl rfl rfl (by first | omega | (simp only [Int.reduceToNat] at *; omega)) ?_ | refine hC.go [42] _ rfl rfl ?_ | (intro h; first | exact (h rfl).elim | (exfalso; cases h; done) | (dsimp only [kk_cP, kk_cN] at h) | skip)
          exact ⟨F2, mm_up (mm_up A 3 r2) 8 f2, _, rfl, rfl, e2, e0, fun k q1 q2 _ => e9 k q1 q2, fun k h2 h3 h7 h8 => by simp only [mm_up, mm_bne h3, mm_bne h8, cond_false], hn2, Or.inl ⟨rfl, rfl, e9 23 (by decide) (by decide)⟩⟩
  have k9 : ∀ (n j : Nat) (F1 : Nat → Int) (r : Nat → Int), j + n = 67 → mm_ok F1 → F1 2 = 0 → F1 0 = 0 → (∀ k, 13 < k → F1 k = F k) → (∀ k, k < j → r k = 0) → K 9 [(0, (4, 0)), (1, (0, (j : Int)))] [] (mm_w F1 (mm_up A 3 r)) := by
    intro n
    induction n with
    | zero =>
      intro j F1 r hj hk g1 g2 g3 g4
      have hj : j = 67 := by omega
      subst hj
      refine hC.go [] _ rfl rfl ?_
      repeat' first | refine hC.gn [9, 42] _ rfl rfl ?_ | refine And.intro ?_ ?_ | exact True.intro | refine hC.iadd [9, 42] rfl rfl (by first | omega | (simp only [Int.reduceToNat] at *; omega)) ?_ | refine hC.isub [9, 42] rfl rfl (by first | omega | (simp only [Int.reduceToNat] at *; omega)) ?_ | refine hC.imul [9, 42] rfl rfl (by first | omega | (simp only [Int.reduceToNat] at *; omega)) ?_ | refine hC.iinc [9, 42] rfl rfl rfl rfl (by first | omega | (simp only [Int.reduceToNat] at *; omega)) ?_ | refine hC.go [9, 42] _ rfl rfl ?_ | (intro h; first | exact (h rfl).elim | (exfalso; cases h; done) | (dsimp only [kk_cP, kk_cN] at h) | skip)
      all_goals first | omega | skip
      refine hC.sub [(0, (4, 0)), (1, (0, _))] ⟨rfl, rfl, trivial⟩ (k42 _ (kk_up F1 24 0) (kk_up r 3 (-1)) (A 8) _ (Nat.lt_succ_self _) hk g1 g2 (fun k q1 q2 => (kk_up_ne q2).trans (g3 k q1)) hn ?_)
      have z : ∀ k, k < 67 → k ≠ 3 → kk_up r 3 (-1) k = 0 := fun k q1 q2 => (kk_up_ne q2).trans (g4 k q1)
      refine ⟨⟨?_, ?_, ?_, ?_, ?_, ?_⟩, fun c hc => ?_, fun hq => ?_, Or.inl (z 4 (by decide) (by decide))⟩
      all_goals first | (rw [z 0 (by decide) (by decide)]; decide) | (rw [z 1 (by decide) (by decide)]; decide) | (rw [z 2 (by decide) (by decide)]; decide) | (rw [z (5 + c) (by omega) (by omega)]; decide) | (rw [z 2 (by decide) (by decide)] at hq; omega)
    | succ n ih =>
      intro j F1 r hj hk g1 g2 g3 g4
      refine hC.go [] _ rfl rfl ?_
      repeat' first | refine hC.gn [9, 42] _ rfl rfl ?_ | refine And.intro ?_ ?_ | exact True.intro | refine hC.iadd [9, 42] rfl rfl (by first | omega | (simp only [Int.reduceToNat] at *; omega)) ?_ | refine hC.isub [9, 42] rfl rfl (by first | omega | (simp only [Int.reduceToNat] at *; omega)) ?_ | refine hC.imul [9, 42] rfl rfl (by first | omega | (simp only [Int.reduceToNat] at *; omega)) ?_ | refine hC.iinc [9, 42] rfl rfl rfl rfl (by first | omega | (simp only [Int.reduceToNat] at *; omega)) ?_ | refine hC.go [9, 42] _ rfl rfl ?_ | (intro h; first | exact (h rfl).elim | (exfalso; cases h; done) | (dsimp only [kk_cP, kk_cN] at h) | skip)
      all_goals first | omega | skip
      · exact hC.sub [(0, (4, 0)), (1, (0, ((j + 1 : Nat) : Int)))] ⟨rfl, rfl, trivial⟩ (ih (j + 1) F1 (kk_up r j 0) (by omega) hk g1 g2 g3 (fun k hk => by
          by_cases hq : k = j
          · rw [hq, kk_up_eq]
          · rw [kk_up_ne hq]; exact g4 k (by omega)))
  repeat' first | refine hC.gn [9] _ rfl rfl ?_ | refine And.intro ?_ ?_ | exact True.intro | refine hC.iadd [9] rfl rfl (by first | omega | (simp only [Int.reduceToNat] at *; omega)) ?_ | refine hC.isub [9] rfl rfl (by first | omega | (simp only [Int.reduceToNat] at *; omega)) ?_ | refine hC.imul [9] rfl rfl (by first | omega | (simp only [Int.reduceToNat] at *; omega)) ?_ | refine hC.iinc [9] rfl rfl rfl rfl (by first | omega | (simp only [Int.reduceToNat] at *; omega)) ?_ | refine hC.go [9] _ rfl rfl ?_ | (intro h; first | exact (h rfl).elim | (exfalso; cases h; done) | (dsimp only [kk_cP, kk_cN] at h) | skip)
  refine hC.same (mm_begin l _ F A 900 h0 h1) rfl rfl rfl rfl (Nat.le_refl _) ?_
  rintro rs w' ⟨rfl, F1, rfl, hk, g1, g2, -, g3⟩
  repeat' first | refine hC.gn [9] _ rfl rfl ?_ | refine And.intro ?_ ?_ | exact True.intro | refine hC.iadd [9] rfl rfl (by first | omega | (simp only [Int.reduceToNat] at *; omega)) ?_ | refine hC.isub [9] rfl rfl (by first | omega | (simp only [Int.reduceToNat] at *; omega)) ?_ | refine hC.imul [9] rfl rfl (by first | omega | (simp only [Int.reduceToNat] at *; omega)) ?_ | refine hC.iinc [9] rfl rfl rfl rfl (by first | omega | (simp only [Int.reduceToNat] at *; omega)) ?_ | refine hC.go [9] _ rfl rfl ?_ | (intro h; first | exact (h rfl).elim | (exfalso; cases h; done) | (dsimp only [kk_cP, kk_cN] at h) | skip)
  exact hC.sub [(0, (4, 0)), (1, (0, ((0 : Nat) : Int)))] ⟨rfl, rfl, trivial⟩ (k9 67 0 F1 (A 3) (by omega) hk g1 g2 (fun k q => g3 k (by omega)) (fun k hk => absurd hk (Nat.not_lt_zero _)))
