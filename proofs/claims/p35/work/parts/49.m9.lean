/-! THE REFERENCE, 9: how all begins; a house -/
def mm_s1 (N0 : Nat → Int) (i k : Nat) : Int := if 67 ≤ k ∧ k < i then 0 else N0 k
def mm_s2 (N0 : Nat → Int) (j k : Nat) : Int := if 69 ≤ k ∧ k < 69 + j then N0 (k - 64) else if k = 68 then -1 else mm_s1 N0 392 k
def mm_s3 (N0 : Nat → Int) (j k : Nat) : Int := if 101 ≤ k ∧ k < 101 + j then N0 (k - 66) else mm_s2 N0 10 k
set_option maxRecDepth 100000 in
set_option maxHeartbeats 4000000 in
theorem mm_s3_s {N0 N : Nat → Int} {j : Nat} (hj : j < 32) (h : ∀ k, k < 392 → N k = mm_s3 N0 j k) : ∀ k, k < 392 → kk_up N (101 + j) (N (35 + j)) k = mm_s3 N0 (j + 1) k := by
  intro k hk
  by_cases hq : k = 101 + j
  · subst hq
    rw [kk_up_eq, h (35 + j) (by omega)]
    unfold mm_s3 mm_s2 mm_s1
    rw [if_neg (by omega), if_neg (by omega), if_neg (by omega), if_neg (by omega), if_pos (by omega)]
    congr 1
    omega
  · rw [kk_up_ne hq, h k hk]
    unfold mm_s3
    by_cases h1 : 101 ≤ k ∧ k < 101 + j
    · rw [if_pos h1, if_pos (by omega)]
    · rw [if_neg h1, if_neg (by omega)]
set_option maxRecDepth 100000 in
set_option maxHeartbeats 4000000 in
theorem mm_s2_s {N0 N : Nat → Int} {j : Nat} (hj : j < 10) (h : ∀ k, k < 392 → N k = mm_s2 N0 j k) : ∀ k, k < 392 → kk_up N (69 + j) (N (5 + j)) k = mm_s2 N0 (j + 1) k := by
  intro k hk
  by_cases hq : k = 69 + j
  · subst hq
    rw [kk_up_eq, h (5 + j) (by omega)]
    unfold mm_s2 mm_s1
    rw [if_neg (by omega), if_neg (by omega), if_neg (by omega), if_pos (by omega)]
    congr 1
    omega
  · rw [kk_up_ne hq, h k hk]
    unfold mm_s2
    by_cases h1 : 69 ≤ k ∧ k < 69 + j
    · rw [if_pos h1, if_pos (by omega)]
    · rw [if_neg h1, if_neg (show ¬ (69 ≤ k ∧ k < 69 + (j + 1)) by omega)]
set_option maxRecDepth 100000 in
set_option maxHeartbeats 4000000 in
theorem mm_s1_s {N0 N : Nat → Int} {i : Nat} (hi : 67 ≤ i) (h : ∀ k, k < 392 → N k = mm_s1 N0 i k) : ∀ k, k < 392 → kk_up N i 0 k = mm_s1 N0 (i + 1) k := by
  intro k hk
  by_cases hq : k = i
  · subst hq
    rw [kk_up_eq]
    unfold mm_s1
    rw [if_pos (by omega)]
  · rw [kk_up_ne hq, h k hk]
    unfold mm_s1
    by_cases h1 : 67 ≤ k ∧ k < i
    · rw [if_pos h1, if_pos (by omega)]
    · rw [if_neg h1, if_neg (by omega)]
set_option maxRecDepth 100000 in
set_option maxHeartbeats 4000000 in
theorem mm_startSo (l : Launch) (d : Nat) (F : Nat → Int) (A : Nat → Nat → Int) : kk_Ctr l d en_t_X11_startSo [(4, 0)] (mm_w F A) (fun rs w' => rs = [] ∧ ∃ N, w' = mm_w F (mm_up A 2 N) ∧ ∀ k, k < 392 → N k = mm_s3 (A 2) 32 k) := by
  refine kk_ctr en_hM (List.mem_of_getElem? (i := 206) rfl) rfl (Nat.le_of_ble_eq_true rfl) (fun K hC => ?_)
  have k64 : ∀ (n j : Nat) (N : Nat → Int), j + n = 32 → (∀ k, k < 392 → N k = mm_s3 (A 2) j k) → K 64 [(0, (4, 0)), (1, (0, (j : Int)))] [] (mm_w F (mm_up A 2 N)) := by
    intro n
    induction n with
    | zero =>
      intro j N hj hN
      refine hC.go [] _ rfl rfl ?_
      repeat' first | refine hC.gn [64] _ rfl rfl ?_ | refine And.intro ?_ ?_ | exact True.intro | refine hC.iadd [64] rfl rfl (by first | omega | (simp only [Int.reduceToNat] at *; omega)) ?_ | refine hC.isub [64] rfl rfl (by first | omega | (simp only [Int.reduceToNat] at *; omega)) ?_ | refine hC.imul [64] rfl rfl (by first | omega | (simp only [Int.reduceToNat] at *; omega)) ?_ | refine hC.iinc [64] rfl rfl rfl rfl (by first | omega | (simp only [Int.reduceToNat] at *; omega)) ?_ | refine hC.go [64] _ rfl rfl ?_ | (intro h; first | exact (h rfl).elim | (exfalso; cases h; done) | (dsimp only [kk_cP, kk_cN] at h) | skip)
      · rfl
      · exact ⟨N, rfl, by rw [show (32 : Nat) = j by omega]; exact hN⟩
      all_goals (exfalso; omega)
    | succ n ih =>
      intro j N hj hN
      refine hC.go [] _ rfl rfl ?_
      repeat' first | refine hC.gn [64] _ rfl rfl ?_ | refine And.intro ?_ ?_ | exact True.intro | refine hC.iadd [64] rfl rfl (by first | omega | (simp only [Int.reduceToNat] at *; omega)) ?_ | refine hC.isub [64] rfl rfl (by first | omega | (simp only [Int.reduceToNat] at *; omega)) ?_ | refine hC.imul [64] rfl rfl (by first | omega | (simp only [Int.reduceToNat] at *; omega)) ?_ | refine hC.iinc [64] rfl rfl rfl rfl (by first | omega | (simp only [Int.reduceToNat] at *; omega)) ?_ | refine hC.go [64] _ rfl rfl ?_ | (intro h; first | exact (h rfl).elim | (exfalso; cases h; done) | (dsimp only [kk_cP, kk_cN] at h) | skip)
      all_goals first | omega | exact hC.sub [(0, (4, 0)), (1, (0, ((j + 1 : Nat) : Int)))] ⟨rfl, rfl, trivial⟩ (ih (j + 1) (kk_up N (101 + j) (N (35 + j))) (by omega) (mm_s3_s (by omega) hN)) | (exfalso; omega)
  have k33 : ∀ (n j : Nat) (N : Nat → Int), j + n = 10 → (∀ k, k < 392 → N k = mm_s2 (A 2) j k) → K 33 [(0, (4, 0)), (1, (0, (j : Int)))] [] (mm_w F (mm_up A 2 N)) := by
    intro n
    induction n with
    | zero =>
      intro j N hj hN
      have hj : j = 10 := by omega
      subst hj
      refine hC.go [] _ rfl rfl ?_
      repeat' first | refine hC.gn [33, 64] _ rfl rfl ?_ | refine And.intro ?_ ?_ | exact True.intro | refine hC.iadd [33, 64] rfl rfl (by first | omega | (simp only [Int.reduceToNat] at *; omega)) ?_ | refine hC.isub [33, 64] rfl rfl (by first | omega | (simp only [Int.reduceToNat] at *; omega)) ?_ | refine hC.imul [33, 64] rfl rfl (by first | omega | (simp only [Int.reduceToNat] at *; omega)) ?_ | refine hC.iinc [33, 64] rfl rfl rfl rfl (by first | omega | (simp only [Int.reduceToNat] at *; omega)) ?_ | refine hC.go [33, 64] _ rfl rfl ?_ | (intro h; first | exact (h rfl).elim | (exfalso; cases h; done) | (dsimp only [kk_cP, kk_cN] at h) | skip)
      all_goals first | omega | exact hC.sub [(0, (4, 0)), (1, (0, ((0 : Nat) : Int)))] ⟨rfl, rfl, trivial⟩ (k64 32 0 N (by omega) (fun k hk => by rw [hN k hk]; unfold mm_s3; rw [if_neg (by omega)])) | (exfalso; omega)
    | succ n ih =>
      intro j N hj hN
      refine hC.go [] _ rfl rfl ?_
      repeat' first | refine hC.gn [33, 64] _ rfl rfl ?_ | refine And.intro ?_ ?_ | exact True.intro | refine hC.iadd [33, 64] rfl rfl (by first | omega | (simp only [Int.reduceToNat] at *; omega)) ?_ | refine hC.isub [33, 64] rfl rfl (by first | omega | (simp only [Int.reduceToNat] at *; omega)) ?_ | refine hC.imul [33, 64] rfl rfl (by first | omega | (simp only [Int.reduceToNat] at *; omega)) ?_ | refine hC.iinc [33, 64] rfl rfl rfl rfl (by first | omega | (simp only [Int.reduceToNat] at *; omega)) ?_ | refine hC.go [33, 64] _ rfl rfl ?_ | (intro h; first | exact (h rfl).elim | (exfalso; cases h; done) | (dsimp only [kk_cP, kk_cN] at h) | skip)
      all_goals first | omega | exact hC.sub [(0, (4, 0)), (1, (0, ((j + 1 : Nat) : Int)))] ⟨rfl, rfl, trivial⟩ (ih (j + 1) (kk_up N (69 + j) (N (5 + j))) (by omega) (mm_s2_s (by omega) hN)) | (exfalso; omega)
  have k3 : ∀ (n i : Nat) (N : Nat → Int), i + n = 392 → 67 ≤ i → (∀ k, k < 392 → N k = mm_s1 (A 2) i k) → K 3 [(0, (4, 0)), (1, (0, (i : Int)))] [] (mm_w F (mm_up A 2 N)) := by
    intro n
    induction n with
    | zero =>
      intro i N hi h67 hN
      have hi : i = 392 := by omega
      subst hi
      refine hC.go [] _ rfl rfl ?_
      repeat' first | refine hC.gn [3, 33] _ rfl rfl ?_ | refine And.intro ?_ ?_ | exact True.intro | refine hC.iadd [3, 33] rfl rfl (by first | omega | (simp only [Int.reduceToNat] at *; omega)) ?_ | refine hC.isub [3, 33] rfl rfl (by first | omega | (simp only [Int.reduceToNat] at *; omega)) ?_ | refine hC.imul [3, 33] rfl rfl (by first | omega | (simp only [Int.reduceToNat] at *; omega)) ?_ | refine hC.iinc [3, 33] rfl rfl rfl rfl (by first | omega | (simp only [Int.reduceToNat] at *; omega)) ?_ | refine hC.go [3, 33] _ rfl rfl ?_ | (intro h; first | exact (h rfl).elim | (exfalso; cases h; done) | (dsimp only [kk_cP, kk_cN] at h) | skip)
      all_goals first | omega | exact hC.sub [(0, (4, 0)), (1, (0, ((0 : Nat) : Int)))] ⟨rfl, rfl, trivial⟩ (k33 10 0 (kk_up N 68 (-1)) (by omega) (fun k hk => by
        unfold mm_s2
        rw [if_neg (by omega)]
        by_cases h8 : k = 68
        · rw [if_pos h8, h8, kk_up_eq]
        · rw [if_neg h8, kk_up_ne h8, hN k hk])) | (exfalso; omega)
    | succ n ih =>
      intro i N hi h67 hN
      refine hC.go [] _ rfl rfl ?_
      repeat' first | refine hC.gn [3, 33] _ rfl rfl ?_ | refine And.intro ?_ ?_ | exact True.intro | refine hC.iadd [3, 33] rfl rfl (by first | omega | (simp only [Int.reduceToNat] at *; omega)) ?_ | refine hC.isub [3, 33] rfl rfl (by first | omega | (simp only [Int.reduceToNat] at *; omega)) ?_ | refine hC.imul [3, 33] rfl rfl (by first | omega | (simp only [Int.reduceToNat] at *; omega)) ?_ | refine hC.iinc [3, 33] rfl rfl rfl rfl (by first | omega | (simp only [Int.reduceToNat] at *; omega)) ?_ | refine hC.go [3, 33] _ rfl rfl ?_ | (intro h; first | exact (h rfl).elim | (exfalso; cases h; done) | (dsimp only [kk_cP, kk_cN] at h) | skip)
      all_goals first | omega | exact hC.sub [(0, (4, 0)), (1, (0, ((i + 1 : Nat) : Int)))] ⟨rfl, rfl, trivial⟩ (ih (i + 1) (kk_up N i 0) (by omega) (by omega) (mm_s1_s h67 hN)) | (exfalso; omega)
  repeat' first | refine hC.gn [3] _ rfl rfl ?_ | refine And.intro ?_ ?_ | exact True.intro | refine hC.iadd [3] rfl rfl (by first | omega | (simp only [Int.reduceToNat] at *; omega)) ?_ | refine hC.isub [3] rfl rfl (by first | omega | (simp only [Int.reduceToNat] at *; omega)) ?_ | refine hC.imul [3] rfl rfl (by first | omega | (simp only [Int.reduceToNat] at *; omega)) ?_ | refine hC.iinc [3] rfl rfl rfl rfl (by first | omega | (simp only [Int.reduceToNat] at *; omega)) ?_ | refine hC.go [3] _ rfl rfl ?_ | (intro h; first | exact (h rfl).elim | (exfalso; cases h; done) | (dsimp only [kk_cP, kk_cN] at h) | skip)
  exact hC.sub [(0, (4, 0)), (1, (0, ((67 : Nat) : Int)))] ⟨rfl, rfl, trivial⟩ (k3 325 67 (A 2) (by omega) (by omega) (fun k _ => by unfold mm_s1; rw [if_neg (by omega)]))
