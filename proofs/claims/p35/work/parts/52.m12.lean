/-! THE REFERENCE, 12: a chapter comes; one is drawn -/
set_option maxRecDepth 100000 in
set_option maxHeartbeats 4000000 in
theorem mm_comes (l : Launch) (d : Nat) (F : Nat → Int) (A : Nat → Nat → Int) (c : Nat) (hc : c < 10) (hr : mm_rH (A 2)) (hv : mm_vS (A 2)) (h1 : 1 ≤ A 2 (69 + c)) : kk_Ctr l (d + 2) en_t_X11_comes [(4, 0), (0, (c : Int))] (mm_w F A) (fun rs w' => rs = [] ∧ ∃ N, w' = mm_w F (mm_up A 2 N) ∧ (∀ k, k < 68 → N k = A 2 k) ∧ (∀ k, 150 ≤ k → N k = A 2 k) ∧ mm_vS N ∧ N 68 = c) := by
  obtain ⟨v1, v2, v3, v4, v5, v6⟩ := id hv
  refine kk_ctr en_hM (List.mem_of_getElem? (i := 225) rfl) rfl (Nat.le_of_ble_eq_true rfl) (fun K hC => ?_)
  have k122 : ∀ (n j : Nat) (N : Nat → Int), j + n = 10 → (∀ k, k < 68 → N k = A 2 k) → (∀ k, 150 ≤ k → N k = A 2 k) → N 68 = c → mm_bx N → 0 ≤ N 149 → N 149 ≤ 16 → (0 < j → N 69 = A 2 5) → K 122 [(0, (4, 0)), (2, (0, (j : Int)))] [] (mm_w F (mm_up A 2 N)) := by
    intro n
    induction n with
    | zero =>
      intro j N hj g1 g2 g3 g4 g5 g6 g7
      refine hC.go [] _ rfl rfl ?_
      repeat' first | refine hC.gn [122] _ rfl rfl ?_ | refine And.intro ?_ ?_ | exact True.intro | refine hC.iadd [122] rfl rfl (by first | omega | (simp only [Int.reduceToNat] at *; omega)) ?_ | refine hC.isub [122] rfl rfl (by first | omega | (simp only [Int.reduceToNat] at *; omega)) ?_ | refine hC.imul [122] rfl rfl (by first | omega | (simp only [Int.reduceToNat] at *; omega)) ?_ | refine hC.iinc [122] rfl rfl rfl rfl (by first | omega | (simp only [Int.reduceToNat] at *; omega)) ?_ | refine hC.go [122] _ rfl rfl ?_ | (intro h; first | exact (h rfl).elim | (exfalso; cases h; done) | (dsimp only [kk_cP, kk_cN] at h) | skip)
      · rfl
      · exact ⟨N, rfl, g1, g2, ⟨by omega, by omega, g4, fun hq => ⟨0, by decide, by rw [show 69 + 0 = 69 from rfl, g7 (by omega)]; exact hr.2.2.1 (by rw [← g1 2 (by decide)]; exact hq)⟩, g5, g6⟩, g3⟩
      all_goals (exfalso; omega)
    | succ n ih =>
      intro j N hj g1 g2 g3 g4 g5 g6 g7
      refine hC.go [] _ rfl rfl ?_
      repeat' first | refine hC.gn [122] _ rfl rfl ?_ | refine And.intro ?_ ?_ | exact True.intro | refine hC.iadd [122] rfl rfl (by first | omega | (simp only [Int.reduceToNat] at *; omega)) ?_ | refine hC.isub [122] rfl rfl (by first | omega | (simp only [Int.reduceToNat] at *; omega)) ?_ | refine hC.imul [122] rfl rfl (by first | omega | (simp only [Int.reduceToNat] at *; omega)) ?_ | refine hC.iinc [122] rfl rfl rfl rfl (by first | omega | (simp only [Int.reduceToNat] at *; omega)) ?_ | refine hC.go [122] _ rfl rfl ?_ | (intro h; first | exact (h rfl).elim | (exfalso; cases h; done) | (dsimp only [kk_cP, kk_cN] at h) | skip)
      all_goals first | omega | skip
      have e5 : N (5 + j) = A 2 (5 + j) := g1 _ (by omega)
      have b5 := hr.2.1 j (by omega)
      exact hC.sub [(0, (4, 0)), (2, (0, ((j + 1 : Nat) : Int)))] ⟨rfl, rfl, trivial⟩ (ih (j + 1) (kk_up N (69 + j) (N (5 + j))) (by omega) (fun k hk => (kk_up_ne (by omega)).trans (g1 k hk)) (fun k hk => (kk_up_ne (by omega)).trans (g2 k hk)) ((kk_up_ne (by omega)).trans g3) (fun b hb => by
          by_cases hq : b = j
          · rw [hq, kk_up_eq, e5]; exact b5
          · rw [kk_up_ne (by omega)]; exact g4 b hb) (by rw [kk_up_ne (by omega)]; exact g5) (by rw [kk_up_ne (by omega)]; exact g6) (fun _ => by
          by_cases hq : j = 0
          · subst hq; rw [show 69 = 69 + 0 from rfl, kk_up_eq]; exact e5
          · rw [kk_up_ne (by omega)]; exact g7 (by omega)))
  have k90 : ∀ (N : Nat → Int), (∀ k, k < 68 → N k = A 2 k) → (∀ k, 150 ≤ k → N k = A 2 k) → N 68 = c → (∀ b, b < 10 → N (69 + b) = A 2 (69 + b)) → 0 ≤ N 149 → N 149 ≤ 16 → K 90 [(0, (4, 0)), (1, (0, (c : Int)))] [] (mm_w F (mm_up A 2 N)) := by
    intro N g1 g2 g3 g4 g5 g6
    have bx : mm_bx N := fun b hb => by rw [g4 b hb]; exact v3 b hb
    have bc := bx c hc
    have bc1 : 1 ≤ N (69 + c) := by rw [g4 c hc]; exact h1
    have bc2 : 1 ≤ mm_up A 2 N 2 (69 + (c : Int)).toNat ∧ mm_up A 2 N 2 (69 + (c : Int)).toNat ≤ 9 := ⟨bc1, bc.2⟩
    refine hC.go [] _ rfl rfl ?_
    repeat' first | refine hC.gn [122] _ rfl rfl ?_ | refine And.intro ?_ ?_ | exact True.intro | refine hC.iadd [122] rfl rfl (by first | omega | (simp only [Int.reduceToNat] at *; omega)) ?_ | refine hC.isub [122] rfl rfl (by first | omega | (simp only [Int.reduceToNat] at *; omega)) ?_ | refine hC.imul [122] rfl rfl (by first | omega | (simp only [Int.reduceToNat] at *; omega)) ?_ | refine hC.iinc [122] rfl rfl rfl rfl (by first | omega | (simp only [Int.reduceToNat] at *; omega)) ?_ | refine hC.go [122] _ rfl rfl ?_ | (intro h; first | exact (h rfl).elim | (exfalso; cases h; done) | (dsimp only [kk_cP, kk_cN] at h) | skip)
    all_goals first | omega | rfl | exact ⟨N, rfl, g1, g2, ⟨by omega, by omega, bx, fun hq => by obtain ⟨b, q1, q2⟩ := v4 (by rw [← g1 2 (by decide)]; exact hq); exact ⟨b, q1, by rw [g4 b q1]; exact q2⟩, g5, g6⟩, g3⟩ | skip
    have bx2 : mm_bx (kk_up N (69 + c) (N (69 + c) - 1)) := fun b hb => by
      by_cases hq : b = c
      · subst hq; rw [kk_up_eq]; omega
      · rw [kk_up_ne (by omega)]; exact bx b hb
    have n1 : ∀ k, k < 68 → kk_up N (69 + c) (N (69 + c) - 1) k = A 2 k := fun k hk => (kk_up_ne (by omega)).trans (g1 k hk)
    have n2 : ∀ k, 150 ≤ k → kk_up N (69 + c) (N (69 + c) - 1) k = A 2 k := fun k hk => (kk_up_ne (by omega)).trans (g2 k hk)
    have n3 : kk_up N (69 + c) (N (69 + c) - 1) 68 = c := (kk_up_ne (by omega)).trans g3
    have n4 : kk_up N (69 + c) (N (69 + c) - 1) 149 = N 149 := kk_up_ne (by omega)
    refine hC.same (mm_inBox l _ F (mm_up A 2 (kk_up N (69 + c) (N (69 + c) - 1)))) rfl rfl rfl rfl (Nat.le_refl _) ?_
    rintro rs w' ⟨rfl, rfl⟩
    repeat' first | refine hC.gn [122] _ rfl rfl ?_ | refine And.intro ?_ ?_ | exact True.intro | refine hC.iadd [122] rfl rfl (by first | omega | (simp only [Int.reduceToNat] at *; omega)) ?_ | refine hC.isub [122] rfl rfl (by first | omega | (simp only [Int.reduceToNat] at *; omega)) ?_ | refine hC.imul [122] rfl rfl (by first | omega | (simp only [Int.reduceToNat] at *; omega)) ?_ | refine hC.iinc [122] rfl rfl rfl rfl (by first | omega | (simp only [Int.reduceToNat] at *; omega)) ?_ | refine hC.go [122] _ rfl rfl ?_ | (intro h; first | exact (h rfl).elim | (exfalso; cases h; done) | (dsimp only [kk_cP, kk_cN] at h) | skip)
    · rfl
    · exact ⟨kk_up N (69 + c) (N (69 + c) - 1), rfl, n1, n2, ⟨by omega, by omega, bx2, fun _ => mm_sm_0 bx2 10 (Nat.le_refl _) h, by rw [n4]; exact g5, by rw [n4]; exact g6⟩, n3⟩
    · exact hC.sub [(0, (4, 0)), (2, (0, ((0 : Nat) : Int)))] ⟨rfl, rfl, trivial⟩ (k122 10 0 (kk_up N (69 + c) (N (69 + c) - 1)) (by omega) n1 n2 n3 bx2 (by rw [n4]; exact g5) (by rw [n4]; exact g6) (fun hq => absurd hq (Nat.not_lt_zero _)))
  have k56 : ∀ (N : Nat → Int), (∀ k, k < 68 → N k = A 2 k) → (∀ k, 149 ≤ k → N k = A 2 k) → N 68 = c → (∀ b, b < 10 → N (69 + b) = A 2 (69 + b)) → K 56 [(0, (4, 0)), (1, (0, (c : Int)))] [] (mm_w F (mm_up A 2 N)) := by
    intro N g1 g2 g3 g4
    have e149 := g2 149 (by decide)
    have e149' : kk_up (mm_up A 2 N 2) (Int.toNat 133) (c : Int) (Int.toNat 149) = N 149 := rfl
    refine hC.go [] _ rfl rfl ?_
    repeat' first | refine hC.gn [90] _ rfl rfl ?_ | refine And.intro ?_ ?_ | exact True.intro | refine hC.iadd [90] rfl rfl (by first | omega | (simp only [Int.reduceToNat] at *; omega)) ?_ | refine hC.isub [90] rfl rfl (by first | omega | (simp only [Int.reduceToNat] at *; omega)) ?_ | refine hC.imul [90] rfl rfl (by first | omega | (simp only [Int.reduceToNat] at *; omega)) ?_ | refine hC.iinc [90] rfl rfl rfl rfl (by first | omega | (simp only [Int.reduceToNat] at *; omega)) ?_ | refine hC.go [90] _ rfl rfl ?_ | (intro h; first | exact (h rfl).elim | (exfalso; cases h; done) | (dsimp only [kk_cP, kk_cN] at h) | skip)
    all_goals first | omega | skip
    · exact k90 (kk_up N 133 c) (fun k hk => (kk_up_ne (by omega)).trans (g1 k hk)) (fun k hk => (kk_up_ne (by omega)).trans (g2 k (by omega))) ((kk_up_ne (by omega)).trans g3) (fun b hb => (kk_up_ne (by omega)).trans (g4 b hb)) (show 0 ≤ N 149 by omega) (show N 149 ≤ 16 by omega)
    · exact k90 (kk_up (kk_up N 133 c) 149 (N 149 + 1)) (fun k hk => (kk_up_ne (by omega)).trans ((kk_up_ne (by omega)).trans (g1 k hk))) (fun k hk => (kk_up_ne (by omega)).trans ((kk_up_ne (by omega)).trans (g2 k (by omega)))) ((kk_up_ne (by omega)).trans ((kk_up_ne (by omega)).trans g3)) (fun b hb => (kk_up_ne (by omega)).trans ((kk_up_ne (by omega)).trans (g4 b hb))) (show 0 ≤ N 149 + 1 by omega) (show N 149 + 1 ≤ 16 by omega)
  have k24 : ∀ (n : Nat) (i : Int) (N : Nat → Int), i.toNat < n → i ≤ 15 → (∀ k, k < 68 → N k = A 2 k) → (∀ k, 149 ≤ k → N k = A 2 k) → N 68 = c → (∀ b, b < 10 → N (69 + b) = A 2 (69 + b)) → K 24 [(0, (4, 0)), (1, (0, (c : Int))), (2, (0, i))] [] (mm_w F (mm_up A 2 N)) := by
    intro n
    induction n with
    | zero => intro i N hk; omega
    | succ n ih =>
      intro i N hk hk2 g1 g2 g3 g4
      refine hC.go [] _ rfl rfl ?_
      repeat' first | refine hC.gn [24, 56] _ rfl rfl ?_ | refine And.intro ?_ ?_ | exact True.intro | refine hC.iadd [24, 56] rfl rfl (by first | omega | (simp only [Int.reduceToNat] at *; omega)) ?_ | refine hC.isub [24, 56] rfl rfl (by first | omega | (simp only [Int.reduceToNat] at *; omega)) ?_ | refine hC.imul [24, 56] rfl rfl (by first | omega | (simp only [Int.reduceToNat] at *; omega)) ?_ | refine hC.iinc [24, 56] rfl rfl rfl rfl (by first | omega | (simp only [Int.reduceToNat] at *; omega)) ?_ | refine hC.go [24, 56] _ rfl rfl ?_ | (intro h; first | exact (h rfl).elim | (exfalso; cases h; done) | (dsimp only [kk_cP, kk_cN] at h) | skip)
      all_goals first | omega | exact hC.sub [(0, (4, 0)), (1, (0, (c : Int)))] ⟨rfl, rfl, trivial⟩ (k56 N g1 g2 g3 g4) | exact hC.sub [(0, (4, 0)), (1, (0, (c : Int))), (2, (0, _))] ⟨rfl, rfl, rfl, trivial⟩ (ih _ (kk_up N (133 + i).toNat _) (by omega) (by omega) (fun k hk => (kk_up_ne (by omega)).trans (g1 k hk)) (fun k hk => (kk_up_ne (by omega)).trans (g2 k hk)) ((kk_up_ne (by omega)).trans g3) (fun b hb => (kk_up_ne (by omega)).trans (g4 b hb)))
  repeat' first | refine hC.gn [24] _ rfl rfl ?_ | refine And.intro ?_ ?_ | exact True.intro | refine hC.iadd [24] rfl rfl (by first | omega | (simp only [Int.reduceToNat] at *; omega)) ?_ | refine hC.isub [24] rfl rfl (by first | omega | (simp only [Int.reduceToNat] at *; omega)) ?_ | refine hC.imul [24] rfl rfl (by first | omega | (simp only [Int.reduceToNat] at *; omega)) ?_ | refine hC.iinc [24] rfl rfl rfl rfl (by first | omega | (simp only [Int.reduceToNat] at *; omega)) ?_ | refine hC.go [24] _ rfl rfl ?_ | (intro h; first | exact (h rfl).elim | (exfalso; cases h; done) | (dsimp only [kk_cP, kk_cN] at h) | skip)
  all_goals first | omega | skip
  exact hC.sub [(0, (4, 0)), (1, (0, (c : Int))), (2, (0, 15))] ⟨rfl, rfl, rfl, trivial⟩ (k24 16 15 (kk_up (kk_up (A 2) 68 c) (79 + c) _) (by decide) (by decide) (fun k hk => (kk_up_ne (by omega)).trans (kk_up_ne (by omega))) (fun k hk => (kk_up_ne (by omega)).trans (kk_up_ne (by omega))) (kk_up_ne (by omega)) (fun b hb => (kk_up_ne (by omega)).trans (kk_up_ne (by omega))))
