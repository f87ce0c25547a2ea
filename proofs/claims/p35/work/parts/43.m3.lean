/-! THE REFERENCE, 3: its reader -/
set_option maxRecDepth 100000 in
set_option maxHeartbeats 4000000 in
theorem mm_tapeAt (l : Launch) (d : Nat) (F : Nat → Int) (A : Nat → Nat → Int) (p : Int) (h0 : 0 ≤ p) (h1 : F 3 ≤ 940) : kk_Ctr l d en_t_X11_tapeAt [(4, 0), (0, p)] (mm_w F A) (fun rs w' => w' = mm_w F A ∧ ((p < F 3 ∧ rs = [(0, A 1 p.toNat)]) ∨ (F 3 ≤ p ∧ rs = [(0, 0)]))) := by
  refine kk_ctr en_hM (List.mem_of_getElem? (i := 284) rfl) rfl (Nat.le_of_ble_eq_true rfl) (fun K hC => ?_)
  repeat' first | refine hC.gn [] _ rfl rfl ?_ | refine And.intro ?_ ?_ | exact True.intro | refine hC.iadd [] rfl rfl (by first | omega | (simp only [Int.reduceToNat] at *; omega)) ?_ | refine hC.isub [] rfl rfl (by first | omega | (simp only [Int.reduceToNat] at *; omega)) ?_ | refine hC.imul [] rfl rfl (by first | omega | (simp only [Int.reduceToNat] at *; omega)) ?_ | refine hC.iinc [] rfl rfl rfl rfl (by first | omega | (simp only [Int.reduceToNat] at *; omega)) ?_ | refine hC.go [] _ rfl rfl ?_ | (intro h; first | exact (h rfl).elim | (exfalso; cases h; done) | (dsimp only [kk_cP, kk_cN] at h) | skip)
  all_goals first | rfl | omega | exact Or.inl ⟨by omega, rfl⟩ | exact Or.inr ⟨by omega, rfl⟩
/-- what a walk of the reader may change, and what it keeps -/
def mm_rd (F F' : Nat → Int) : Prop := (∀ k, k ≠ 5 → k ≠ 6 → k ≠ 7 → k ≠ 8 → k ≠ 9 → k ≠ 12 → F' k = F k) ∧ F 5 ≤ F' 5 ∧ F' 5 ≤ F 3 ∧ 0 ≤ F' 7 ∧ F' 7 ≤ 4 ∧ (2 ≤ F' 7 → F 5 < F' 5) ∧ (F' 7 = 2 → F' 12 ≤ 10460353202)
/-- 27 to the k, at most to the 7th -/
def mm_B (k : Nat) : Int := match k with
  | 0 => 1
  | 1 => 27
  | 2 => 729
  | 3 => 19683
  | 4 => 531441
  | 5 => 14348907
  | 6 => 387420489
  | _ => 10460353203
set_option maxRecDepth 100000 in
set_option maxHeartbeats 4000000 in
theorem mm_B_s {k : Nat} (h : k < 7) : mm_B (k + 1) = 27 * mm_B k ∧ 1 ≤ mm_B k ∧ mm_B k ≤ 387420489 := by
  match k, h with
  | 0, _ => decide
  | 1, _ => decide
  | 2, _ => decide
  | 3, _ => decide
  | 4, _ => decide
  | 5, _ => decide
  | 6, _ => decide
  | n + 7, h => omega
set_option maxRecDepth 100000 in
set_option maxHeartbeats 4000000 in
theorem mm_B_le (k : Nat) : mm_B k ≤ 10460353203 := by
  unfold mm_B
  split <;> omega
theorem kk_ladd {x y : Int} (h : -9223372036854775808 ≤ x + y ∧ x + y ≤ 9223372036854775807) : kk_l2 0 x y = x + y := by
  show (Int64.ofInt x + Int64.ofInt y).toInt = x + y
  rw [← Int64.ofInt_add]
  exact Int64.toInt_ofInt_of_le (by omega) (by omega)
theorem kk_lsub {x y : Int} (h : -9223372036854775808 ≤ x - y ∧ x - y ≤ 9223372036854775807) : kk_l2 1 x y = x - y := by
  show (Int64.ofInt x - Int64.ofInt y).toInt = x - y
  rw [← Int64.ofInt_sub]
  exact Int64.toInt_ofInt_of_le (by omega) (by omega)
theorem kk_lmul {x y : Int} (h : -9223372036854775808 ≤ x * y ∧ x * y ≤ 9223372036854775807) : kk_l2 2 x y = x * y := by
  show (Int64.ofInt x * Int64.ofInt y).toInt = x * y
  rw [← Int64.ofInt_mul]
  exact Int64.toInt_ofInt_of_le (by omega) (by omega)
set_option maxRecDepth 100000 in
set_option maxHeartbeats 4000000 in
theorem mm_wd {k : Nat} {x c : Int} (hk : k < 7) (h1 : -2 * mm_B k + 2 ≤ x) (h2 : x ≤ mm_B k - 1) (h3 : 48 ≤ c) (h4 : c ≤ 122) : -2 * mm_B (k + 1) + 2 ≤ kk_l2 1 (kk_l2 0 (kk_l2 2 27 x) c) 96 ∧ kk_l2 1 (kk_l2 0 (kk_l2 2 27 x) c) 96 ≤ mm_B (k + 1) - 1 := by
  obtain ⟨e1, e2, e3⟩ := mm_B_s hk
  rw [kk_lmul (by omega), kk_ladd (by omega), kk_lsub (by omega), e1]
  omega
set_option maxRecDepth 100000 in
set_option maxHeartbeats 4000000 in
theorem mm_go (l : Launch) (d : Nat) (F : Nat → Int) (A : Nat → Nat → Int) (h0 : 0 ≤ F 5) (h1 : F 5 ≤ F 3) (h2 : F 3 ≤ 940) : kk_Ctr l (d + 1) en_t_X11_go [(4, 0)] (mm_w F A) (fun rs w' => rs = [] ∧ ∃ F', w' = mm_w F' A ∧ mm_rd F F') := by
  refine kk_ctr en_hM (List.mem_of_getElem? (i := 254) rfl) rfl (Nat.le_of_ble_eq_true rfl) (fun K hC => ?_)
  -- the end of a word or number
  have fin : ∀ (F1 : Nat → Int) (a b : Int), (∀ k, k ≠ 5 → k ≠ 6 → k ≠ 7 → k ≠ 8 → k ≠ 9 → k ≠ 12 → F1 k = F k) → F 5 ≤ F1 6 → F1 6 < F1 5 → F1 5 ≤ F 3 → F1 12 ≤ 10460353202 → K 350 [(0, (4, 0)), (2, (0, a)), (3, (0, b))] [] (mm_w F1 A) := by
    intro F1 a b hag g1 g2 g3 g4
    have cl : ∀ v : Int, 0 ≤ v → v ≤ 4 → mm_rd F (kk_up F1 7 v) := fun v v0 v4 => ⟨fun k h5 h6 h7 h8 h9 h12 => (kk_up_ne h7).trans (hag k h5 h6 h7 h8 h9 h12), (show F 5 ≤ F1 5 by omega), g3, v0, v4, fun _ => (show F 5 < F1 5 by omega), fun _ => g4⟩
    refine hC.go [] _ rfl rfl ?_
    repeat' first | refine hC.gn [] _ rfl rfl ?_ | refine And.intro ?_ ?_ | exact True.intro | refine hC.iadd [] rfl rfl (by first | omega | (simp only [Int.reduceToNat] at *; omega)) ?_ | refine hC.isub [] rfl rfl (by first | omega | (simp only [Int.reduceToNat] at *; omega)) ?_ | refine hC.imul [] rfl rfl (by first | omega | (simp only [Int.reduceToNat] at *; omega)) ?_ | refine hC.iinc [] rfl rfl rfl rfl (by first | omega | (simp only [Int.reduceToNat] at *; omega)) ?_ | refine hC.go [] _ rfl rfl ?_ | (intro h; first | exact (h rfl).elim | (exfalso; cases h; done) | (dsimp only [kk_cP, kk_cN] at h) | skip)
    all_goals first | rfl | exact ⟨kk_up F1 7 _, rfl, cl _ (by decide) (by decide)⟩
  have lp : ∀ (n : Nat) (F1 : Nat → Int) (a b : Int), (F 3 - F1 5).toNat < n → (∀ k, k ≠ 5 → k ≠ 6 → k ≠ 7 → k ≠ 8 → k ≠ 9 → k ≠ 12 → F1 k = F k) → F 5 ≤ F1 6 → F1 6 ≤ F1 5 → F1 5 ≤ F 3 → (F1 5 = F1 6 → F1 5 < F 3 ∧ 48 ≤ A 1 (F1 5).toNat ∧ A 1 (F1 5).toNat ≤ 122 ∧ ¬ (57 < A 1 (F1 5).toNat ∧ A 1 (F1 5).toNat < 97)) → -2 * mm_B (F1 5 - F1 6).toNat + 2 ≤ F1 12 → F1 12 ≤ mm_B (F1 5 - F1 6).toNat - 1 → K 215 [(0, (4, 0)), (2, (0, a)), (3, (0, b))] [] (mm_w F1 A) := by
    intro n
    induction n with
    | zero => intro F1 a b h; exact absurd h (Nat.not_lt_zero _)
    | succ n ih =>
      intro F1 a b hn hag g1 g2 g3 g4 g5 g6
      have e3 : F1 3 = F 3 := hag 3 (by decide) (by decide) (by decide) (by decide) (by decide) (by decide)
      have k337 : ∀ (F2 : Nat → Int) (b : Int), (∀ k, k ≠ 8 → k ≠ 12 → F2 k = F1 k) → F1 5 < F 3 → -2 * mm_B ((F1 5 - F1 6).toNat + 1) + 2 ≤ F2 12 → F2 12 ≤ mm_B ((F1 5 - F1 6).toNat + 1) - 1 → K 337 [(0, (4, 0)), (2, (0, a)), (3, (0, b))] [] (mm_w F2 A) := by
        intro F2 b q1 q2 q3 q4
        have e5 : F2 5 = F1 5 := q1 5 (by decide) (by decide)
        have e6 : F2 6 = F1 6 := q1 6 (by decide) (by decide)
        refine hC.go [] _ rfl rfl ?_
        repeat' first | refine hC.gn [215] _ rfl rfl ?_ | refine And.intro ?_ ?_ | exact True.intro | refine hC.iadd [215] rfl rfl (by first | omega | (simp only [Int.reduceToNat] at *; omega)) ?_ | refine hC.isub [215] rfl rfl (by first | omega | (simp only [Int.reduceToNat] at *; omega)) ?_ | refine hC.imul [215] rfl rfl (by first | omega | (simp only [Int.reduceToNat] at *; omega)) ?_ | refine hC.iinc [215] rfl rfl rfl rfl (by first | omega | (simp only [Int.reduceToNat] at *; omega)) ?_ | refine hC.go [215] _ rfl rfl ?_ | (intro h; first | exact (h rfl).elim | (exfalso; cases h; done) | (dsimp only [kk_cP, kk_cN] at h) | skip)
        have ek : (F2 5 + 1 - F2 6).toNat = (F1 5 - F1 6).toNat + 1 := by omega
        refine hC.sub [(0, (4, 0)), (2, (0, a)), (3, (0, b))] ⟨rfl, rfl, rfl, trivial⟩ (ih (kk_up F2 5 (F2 5 + 1)) a b (show (F 3 - (F2 5 + 1)).toNat < n by omega) (fun k h5 h6 h7 h8 h9 h12 => (kk_up_ne h5).trans ((q1 k h8 h12).trans (hag k h5 h6 h7 h8 h9 h12))) (show F 5 ≤ F2 6 by omega) (show F2 6 ≤ F2 5 + 1 by omega) (show F2 5 + 1 ≤ F 3 by omega) (fun q => absurd (show F2 5 + 1 = F2 6 from q) (by omega)) (show -2 * mm_B (F2 5 + 1 - F2 6).toNat + 2 ≤ F2 12 by rw [ek]; exact q3) (show F2 12 ≤ mm_B (F2 5 + 1 - F2 6).toNat - 1 by rw [ek]; exact q4))
      have k307 : ∀ (F2 : Nat → Int) (b c : Int), (∀ k, k ≠ 12 → F2 k = F1 k) → F1 5 < F 3 → -2 * mm_B ((F1 5 - F1 6).toNat + 1) + 2 ≤ F2 12 → F2 12 ≤ mm_B ((F1 5 - F1 6).toNat + 1) - 1 → K 307 [(0, (4, 0)), (2, (0, a)), (3, (0, b)), (4, (0, c))] [] (mm_w F2 A) := by
        intro F2 b c q1 q2 q3 q4
        refine hC.go [] _ rfl rfl ?_
        repeat' first | refine hC.gn [337] _ rfl rfl ?_ | refine And.intro ?_ ?_ | exact True.intro | refine hC.iadd [337] rfl rfl (by first | omega | (simp only [Int.reduceToNat] at *; omega)) ?_ | refine hC.isub [337] rfl rfl (by first | omega | (simp only [Int.reduceToNat] at *; omega)) ?_ | refine hC.imul [337] rfl rfl (by first | omega | (simp only [Int.reduceToNat] at *; omega)) ?_ | refine hC.iinc [337] rfl rfl rfl rfl (by first | omega | (simp only [Int.reduceToNat] at *; omega)) ?_ | refine hC.go [337] _ rfl rfl ?_ | (intro h; first | exact (h rfl).elim | (exfalso; cases h; done) | (dsimp only [kk_cP, kk_cN] at h) | skip)
        · exact hC.sub [(0, (4, 0)), (2, (0, a)), (3, (0, b))] ⟨rfl, rfl, rfl, trivial⟩ (k337 F2 b (fun k _ h12 => q1 k h12) q2 q3 q4)
        · exact hC.sub [(0, (4, 0)), (2, (0, a)), (3, (0, b))] ⟨rfl, rfl, rfl, trivial⟩ (k337 (kk_up F2 8 _) b (fun k h8 h12 => (kk_up_ne h8).trans (q1 k h12)) q2 q3 q4)
      have k273 : ∀ (b c : Int), F1 5 < F 3 → 48 ≤ c → c ≤ 122 → K 273 [(0, (4, 0)), (2, (0, a)), (3, (0, b)), (4, (0, c))] [] (mm_w F1 A) := by
        intro b c q2 q3 q4
        refine hC.go [] _ rfl rfl ?_
        repeat' first | refine hC.gn [307] _ rfl rfl ?_ | refine And.intro ?_ ?_ | exact True.intro | refine hC.iadd [307] rfl rfl (by first | omega | (simp only [Int.reduceToNat] at *; omega)) ?_ | refine hC.isub [307] rfl rfl (by first | omega | (simp only [Int.reduceToNat] at *; omega)) ?_ | refine hC.imul [307] rfl rfl (by first | omega | (simp only [Int.reduceToNat] at *; omega)) ?_ | refine hC.iinc [307] rfl rfl rfl rfl (by first | omega | (simp only [Int.reduceToNat] at *; omega)) ?_ | refine hC.go [307] _ rfl rfl ?_ | (intro h; first | exact (h rfl).elim | (exfalso; cases h; done) | (dsimp only [kk_cP, kk_cN] at h) | skip)
        · have e7 : mm_B ((F1 5 - F1 6).toNat + 1) = mm_B (F1 5 - F1 6).toNat := by
            have h8 : 7 ≤ (F1 5 - F1 6).toNat := by omega
            obtain ⟨j, hj⟩ := Nat.exists_eq_add_of_le h8
            rw [hj, Nat.add_comm 7 j]
            rfl
          exact hC.sub [(0, (4, 0)), (2, (0, a)), (3, (0, b)), (4, (0, c))] ⟨rfl, rfl, rfl, rfl, trivial⟩ (k307 F1 b c (fun k _ => rfl) q2 (by rw [e7]; exact g5) (by rw [e7]; exact g6))
        · obtain ⟨w1, w2⟩ := mm_wd (k := (F1 5 - F1 6).toNat) (by omega) g5 g6 q3 q4
          exact hC.sub [(0, (4, 0)), (2, (0, a)), (3, (0, b)), (4, (0, c))] ⟨rfl, rfl, rfl, rfl, trivial⟩ (k307 (kk_up F1 12 _) b c (fun k h12 => kk_up_ne h12) q2 w1 w2)
      have k243 : ∀ b : Int, F1 5 < F 3 → 48 ≤ A 1 (F1 5).toNat → A 1 (F1 5).toNat ≤ 122 → K 243 [(0, (4, 0)), (2, (0, a)), (3, (0, b))] [] (mm_w F1 A) := by
        intro b q2 q3 q4
        refine hC.go [] _ rfl rfl ?_
        repeat' first | refine hC.gn [273] _ rfl rfl ?_ | refine And.intro ?_ ?_ | exact True.intro | refine hC.iadd [273] rfl rfl (by first | omega | (simp only [Int.reduceToNat] at *; omega)) ?_ | refine hC.isub [273] rfl rfl (by first | omega | (simp only [Int.reduceToNat] at *; omega)) ?_ | refine hC.imul [273] rfl rfl (by first | omega | (simp only [Int.reduceToNat] at *; omega)) ?_ | refine hC.iinc [273] rfl rfl rfl rfl (by first | omega | (simp only [Int.reduceToNat] at *; omega)) ?_ | refine hC.go [273] _ rfl rfl ?_ | (intro h; first | exact (h rfl).elim | (exfalso; cases h; done) | (dsimp only [kk_cP, kk_cN] at h) | skip) | (refine hC.call (mm_isLetter l _ _) [] rfl rfl rfl rfl rfl rfl trivial (Nat.le_refl _) ?_; rintro rs w' ⟨rfl, ⟨rfl, h1, h2⟩ | ⟨rfl, h1⟩⟩)
        all_goals first | omega | exact hC.sub [(0, (4, 0)), (2, (0, a)), (3, (0, _)), (4, (0, _))] ⟨rfl, rfl, rfl, rfl, trivial⟩ (k273 _ _ q2 q3 q4)
      have k350 : F1 6 < F1 5 → K 350 [(0, (4, 0)), (2, (0, a)), (3, (0, b))] [] (mm_w F1 A) := fun q => fin F1 a b hag g1 q g3 (by have := mm_B_le (F1 5 - F1 6).toNat; omega)
      refine hC.go [] _ rfl rfl ?_
      repeat' first | refine hC.gn [243, 350] _ rfl rfl ?_ | refine And.intro ?_ ?_ | exact True.intro | refine hC.iadd [243, 350] rfl rfl (by first | omega | (simp only [Int.reduceToNat] at *; omega)) ?_ | refine hC.isub [243, 350] rfl rfl (by first | omega | (simp only [Int.reduceToNat] at *; omega)) ?_ | refine hC.imul [243, 350] rfl rfl (by first | omega | (simp only [Int.reduceToNat] at *; omega)) ?_ | refine hC.iinc [243, 350] rfl rfl rfl rfl (by first | omega | (simp only [Int.reduceToNat] at *; omega)) ?_ | refine hC.go [243, 350] _ rfl rfl ?_ | (intro h; first | exact (h rfl).elim | (exfalso; cases h; done) | (dsimp only [kk_cP, kk_cN] at h) | skip) | (refine hC.same (mm_tapeAt l _ _ _ _ ?_ ?_) rfl rfl rfl rfl (Nat.le_refl _) ?_; rotate_left 2; rintro rs w' ⟨rfl, ⟨h1, rfl⟩ | ⟨h1, rfl⟩⟩) | (refine hC.call (mm_isLetter l _ _) [] rfl rfl rfl rfl rfl rfl trivial (Nat.le_refl _) ?_; rintro rs w' ⟨rfl, ⟨rfl, h1, h2⟩ | ⟨rfl, h1⟩⟩) | (refine hC.call (mm_isDigit l _ _) [] rfl rfl rfl rfl rfl rfl trivial (Nat.le_refl _) ?_; rintro rs w' ⟨rfl, ⟨rfl, h1, h2⟩ | ⟨rfl, h1⟩⟩)
      all_goals first | omega | exact k243 _ (by omega) (by omega) (by omega) | exact k350 (by by_cases q : F1 5 = F1 6; (have := g4 q; omega); omega)
  have k52 : ∀ (F1 : Nat → Int), (∀ k, k ≠ 5 → F1 k = F k) → F 5 ≤ F1 5 → F1 5 ≤ F 3 → K 52 [(0, (4, 0))] [] (mm_w F1 A) := by
    intro F1 hag g1 g2
    have e3 : F1 3 = F 3 := hag 3 (by decide)
    refine hC.go [] _ rfl rfl ?_
    repeat' first | refine hC.gn [215] _ rfl rfl ?_ | refine And.intro ?_ ?_ | exact True.intro | refine hC.iadd [215] rfl rfl (by first | omega | (simp only [Int.reduceToNat] at *; omega)) ?_ | refine hC.isub [215] rfl rfl (by first | omega | (simp only [Int.reduceToNat] at *; omega)) ?_ | refine hC.imul [215] rfl rfl (by first | omega | (simp only [Int.reduceToNat] at *; omega)) ?_ | refine hC.iinc [215] rfl rfl rfl rfl (by first | omega | (simp only [Int.reduceToNat] at *; omega)) ?_ | refine hC.go [215] _ rfl rfl ?_ | (intro h; first | exact (h rfl).elim | (exfalso; cases h; done) | (dsimp only [kk_cP, kk_cN] at h) | skip) | (refine hC.call (mm_isLetter l _ _) [] rfl rfl rfl rfl rfl rfl trivial (Nat.le_refl _) ?_; rintro rs w' ⟨rfl, ⟨rfl, h1, h2⟩ | ⟨rfl, h1⟩⟩) | (refine hC.call (mm_isDigit l _ _) [] rfl rfl rfl rfl rfl rfl trivial (Nat.le_refl _) ?_; rintro rs w' ⟨rfl, ⟨rfl, h1, h2⟩ | ⟨rfl, h1⟩⟩)
    all_goals first | rfl | omega | exact ⟨kk_up (kk_up F1 6 _) 7 _, rfl, fun k h5 h6 h7 h8 h9 h12 => (kk_up_ne h7).trans ((kk_up_ne h6).trans (hag k h5)), (show F 5 ≤ F1 5 by omega), (show F1 5 ≤ F 3 by omega), (show (0 : Int) ≤ 0 by decide), (show (0 : Int) ≤ 4 by decide), fun q => absurd (show (2 : Int) ≤ 0 from q) (by decide), fun q => absurd (show (0 : Int) = 2 from q) (by decide)⟩ | exact ⟨kk_up (kk_up F1 6 _) 7 _, rfl, fun k h5 h6 h7 h8 h9 h12 => (kk_up_ne h7).trans ((kk_up_ne h6).trans (hag k h5)), (show F 5 ≤ F1 5 by omega), (show F1 5 ≤ F 3 by omega), (show (0 : Int) ≤ 1 by decide), (show (1 : Int) ≤ 4 by decide), fun q => absurd (show (2 : Int) ≤ 1 from q) (by decide), fun q => absurd (show (1 : Int) = 2 from q) (by decide)⟩ | exact ⟨kk_up (kk_up (kk_up (kk_up F1 6 _) 7 _) 9 _) 5 _, rfl, fun k h5 h6 h7 h8 h9 h12 => (kk_up_ne h5).trans ((kk_up_ne h9).trans ((kk_up_ne h7).trans ((kk_up_ne h6).trans (hag k h5)))), (show F 5 ≤ F1 5 + 1 by omega), (show F1 5 + 1 ≤ F 3 by omega), (show (0 : Int) ≤ 4 by decide), (show (4 : Int) ≤ 4 by decide), fun _ => (show F 5 < F1 5 + 1 by omega), fun q => absurd (show (4 : Int) = 2 from q) (by decide)⟩ | exact ⟨kk_up (kk_up (kk_up (kk_up F1 6 _) 7 _) 9 _) 5 _, rfl, fun k h5 h6 h7 h8 h9 h12 => (kk_up_ne h5).trans ((kk_up_ne h9).trans ((kk_up_ne h7).trans ((kk_up_ne h6).trans (hag k h5)))), (show F 5 ≤ F1 5 + 1 by omega), (show F1 5 + 1 ≤ F 3 by omega), (show (0 : Int) ≤ 1 by decide), (show (1 : Int) ≤ 4 by decide), fun q => absurd (show (2 : Int) ≤ 1 from q) (by decide), fun q => absurd (show (1 : Int) = 2 from q) (by decide)⟩ | exact hC.sub [(0, (4, 0)), (2, (0, _)), (3, (0, _))] ⟨rfl, rfl, rfl, trivial⟩ (lp _ (kk_up (kk_up (kk_up F1 6 (F1 5)) 12 0) 8 0) _ _ (Nat.lt_succ_self _) (fun k h5 h6 h7 h8 h9 h12 => (kk_up_ne h8).trans ((kk_up_ne h12).trans ((kk_up_ne h6).trans (hag k h5)))) (show F 5 ≤ F1 5 by omega) (show F1 5 ≤ F1 5 by omega) (show F1 5 ≤ F 3 by omega) (fun _ => (show F1 5 < F 3 ∧ 48 ≤ A 1 (F1 5).toNat ∧ A 1 (F1 5).toNat ≤ 122 ∧ ¬ (57 < A 1 (F1 5).toNat ∧ A 1 (F1 5).toNat < 97) by omega)) (show -2 * mm_B (F1 5 - F1 5).toNat + 2 ≤ 0 by rw [show (F1 5 - F1 5).toNat = 0 by omega]; decide) (show 0 ≤ mm_B (F1 5 - F1 5).toNat - 1 by rw [show (F1 5 - F1 5).toNat = 0 by omega]; decide))
  have sk : ∀ (n : Nat) (F1 : Nat → Int), (F 3 - F1 5).toNat < n → (∀ k, k ≠ 5 → F1 k = F k) → F 5 ≤ F1 5 → F1 5 ≤ F 3 → K 0 [(0, (4, 0))] [] (mm_w F1 A) := by
    intro n
    induction n with
    | zero => intro F1 h; exact absurd h (Nat.not_lt_zero _)
    | succ n ih =>
      intro F1 hn hag g1 g2
      have e3 : F1 3 = F 3 := hag 3 (by decide)
      refine hC.go [] _ rfl rfl ?_
      repeat' first | refine hC.gn [0, 52] _ rfl rfl ?_ | refine And.intro ?_ ?_ | exact True.intro | refine hC.iadd [0, 52] rfl rfl (by first | omega | (simp only [Int.reduceToNat] at *; omega)) ?_ | refine hC.isub [0, 52] rfl rfl (by first | omega | (simp only [Int.reduceToNat] at *; omega)) ?_ | refine hC.imul [0, 52] rfl rfl (by first | omega | (simp only [Int.reduceToNat] at *; omega)) ?_ | refine hC.iinc [0, 52] rfl rfl rfl rfl (by first | omega | (simp only [Int.reduceToNat] at *; omega)) ?_ | refine hC.go [0, 52] _ rfl rfl ?_ | (intro h; first | exact (h rfl).elim | (exfalso; cases h; done) | (dsimp only [kk_cP, kk_cN] at h) | skip)
      all_goals first | omega | exact k52 F1 hag g1 g2 | exact ih (kk_up F1 5 (F1 5 + 1)) (show (F 3 - (F1 5 + 1)).toNat < n by omega) (fun k h5 => (kk_up_ne h5).trans (hag k h5)) (show F 5 ≤ F1 5 + 1 by omega) (show F1 5 + 1 ≤ F 3 by omega)
  exact sk _ F (Nat.lt_succ_self _) (fun k _ => rfl) (by omega) h1
