/-! THE REFERENCE, 20: most, fair, chance, fits, waits -/
variable {Bm : Nat → Nat → Int}
set_option maxRecDepth 100000 in
set_option maxHeartbeats 4000000 in
theorem mm_likeFrom (l : Launch) : ∀ (n d : Nat) (F : Nat → Int) (A : Nat → Nat → Int) (i k b : Int), k - i < n → 0 ≤ i → i ≤ k → k ≤ 4 → mm_cn (A 2) → (0 ≤ b ∧ ∀ j : Nat, (j : Int) < i → 0 ≤ A 11 j ∧ A 11 j ≤ 9) → kk_Ctr l (d + n + 1) en_t_X11_likeFrom [(4, 0), (0, i), (0, k), (0, b)] (mm_w F A) (fun rs w' => rs = [] ∧ ∃ G f g, w' = mm_w G (mm_up (mm_up A 11 f) 12 g) ∧ (∀ j, j ≠ 32 → G j = F j) ∧ (∀ j : Nat, (j : Int) < i → 0 ≤ f j ∧ f j ≤ 9)) := by
  intro n
  induction n with
  | zero => intro d F A i k b h1 h2 h3; omega
  | succ n ih =>
    intro d F A i k b hn i0 ik k4 hc hb
    obtain ⟨hb, hl⟩ := hb
    obtain ⟨c1, c2, c3, c4, c5, c6⟩ := id hc
    have IH := ih
    clear ih
    refine kk_ctr en_hM (List.mem_of_getElem? (i := 238) rfl) rfl (Nat.le_of_ble_eq_true rfl) (fun K hC => ?_)
    have k31 : ∀ (n : Nat) (j : Int) (G : Nat → Int) (g : Nat → Int), (5 - j).toNat < n → (0 ≤ j ∧ j ≤ 4) → (∀ j, j ≠ 32 → G j = F j) → K 31 [(0, (4, 0)), (2, (0, k)), (5, (0, j))] [] (mm_w G (mm_up A 12 g)) := by
      intro n
      induction n with
      | zero => intro j G g hz; exact absurd hz (Nat.not_lt_zero _)
      | succ n ih =>
        intro j G g hn j0 hG
        refine hC.go [] _ rfl rfl ?_
        repeat' first | refine hC.gn [31] _ rfl rfl ?_ | refine And.intro ?_ ?_ | exact True.intro | refine hC.iadd [31] rfl rfl (by first | omega | (simp only [Int.reduceToNat] at *; omega)) ?_ | refine hC.isub [31] rfl rfl (by first | omega | (simp only [Int.reduceToNat] at *; omega)) ?_ | refine hC.imul [31] rfl rfl (by first | omega | (simp only [Int.reduceToNat] at *; omega)) ?_ | refine hC.iinc [31] rfl rfl rfl rfl (by first | omega | (simp only [Int.reduceToNat] at *; omega)) ?_ | refine hC.go [31] _ rfl rfl ?_ | (intro h; first | exact (h rfl).elim | (exfalso; cases h; done) | (dsimp only [kk_cP, kk_cN] at h) | skip)
        all_goals first | rfl | omega | exact ⟨G, A 11, g, rfl, hG, hl⟩ | skip
        exact hC.sub [(0, (4, 0)), (2, (0, _)), (5, (0, _))] ⟨rfl, rfl, rfl, trivial⟩ (ih _ G (kk_up g j.toNat _) (by omega) (by omega) hG)
    have k61 : ∀ (n : Nat) (c : Int) (G : Nat → Int) (f : Nat → Int) (g : Nat → Int), (11 - c).toNat < n → (0 ≤ c) → (i < k) → (∀ j, j ≠ 32 → G j = F j) → (∀ j : Nat, (j : Int) < i → 0 ≤ f j ∧ f j ≤ 9) → K 61 [(0, (4, 0)), (1, (0, i)), (2, (0, k)), (4, (0, c))] [] (mm_w G (mm_up (mm_up A 11 f) 12 g)) := by
      intro n
      induction n with
      | zero => intro c G f g hz; exact absurd hz (Nat.not_lt_zero _)
      | succ n ih =>
        intro c G f g hn j0 j1 hG hf
        refine hC.go [] _ rfl rfl ?_
        repeat' first | refine hC.gn [61] _ rfl rfl ?_ | refine And.intro ?_ ?_ | exact True.intro | refine hC.iadd [61] rfl rfl (by first | omega | (simp only [Int.reduceToNat] at *; omega)) ?_ | refine hC.isub [61] rfl rfl (by first | omega | (simp only [Int.reduceToNat] at *; omega)) ?_ | refine hC.imul [61] rfl rfl (by first | omega | (simp only [Int.reduceToNat] at *; omega)) ?_ | refine hC.iinc [61] rfl rfl rfl rfl (by first | omega | (simp only [Int.reduceToNat] at *; omega)) ?_ | refine hC.go [61] _ rfl rfl ?_ | (intro h; first | exact (h rfl).elim | (exfalso; cases h; done) | (dsimp only [kk_cP, kk_cN] at h) | skip)
        all_goals first | rfl | omega | (simp only [Int.reduceToNat] at *; omega) | exact ⟨G, f, g, rfl, hG, hf⟩ | skip
        have hci : c < A 2 (Int.toNat 2) := by assumption
        have c10 : A 2 (Int.toNat 2) ≤ 10 := c6
        refine hC.same (IH d G (mm_up (mm_up A 12 g) 11 (kk_up f i.toNat c)) (i + 1) k c (by omega) (by omega) (by omega) (by omega) hc ⟨by omega, fun j hj => ?_⟩) rfl rfl rfl rfl (Nat.le_refl _) ?_
        · show 0 ≤ kk_up f i.toNat c j ∧ kk_up f i.toNat c j ≤ 9
          by_cases hq : j = i.toNat
          · rw [hq, kk_up_eq]; omega
          · rw [kk_up_ne hq]; exact hf j (by omega)
        rintro rs w' ⟨rfl, G', f', g', rfl, hG', hf'⟩
        repeat' first | refine hC.gn [61] _ rfl rfl ?_ | refine And.intro ?_ ?_ | exact True.intro | refine hC.iadd [61] rfl rfl (by first | omega | (simp only [Int.reduceToNat] at *; omega)) ?_ | refine hC.isub [61] rfl rfl (by first | omega | (simp only [Int.reduceToNat] at *; omega)) ?_ | refine hC.imul [61] rfl rfl (by first | omega | (simp only [Int.reduceToNat] at *; omega)) ?_ | refine hC.iinc [61] rfl rfl rfl rfl (by first | omega | (simp only [Int.reduceToNat] at *; omega)) ?_ | refine hC.go [61] _ rfl rfl ?_ | (intro h; first | exact (h rfl).elim | (exfalso; cases h; done) | (dsimp only [kk_cP, kk_cN] at h) | skip)
        exact hC.sub [(0, (4, 0)), (1, (0, _)), (2, (0, _)), (4, (0, _))] ⟨rfl, rfl, rfl, rfl, trivial⟩ (ih _ G' f' g' (by omega) (by omega) j1 (fun j hj => (hG' j hj).trans (hG j hj)) (fun j hj => hf' j (by omega)))
    repeat' first | refine hC.gn [31, 61] _ rfl rfl ?_ | refine And.intro ?_ ?_ | exact True.intro | refine hC.iadd [31, 61] rfl rfl (by first | omega | (simp only [Int.reduceToNat] at *; omega)) ?_ | refine hC.isub [31, 61] rfl rfl (by first | omega | (simp only [Int.reduceToNat] at *; omega)) ?_ | refine hC.imul [31, 61] rfl rfl (by first | omega | (simp only [Int.reduceToNat] at *; omega)) ?_ | refine hC.iinc [31, 61] rfl rfl rfl rfl (by first | omega | (simp only [Int.reduceToNat] at *; omega)) ?_ | refine hC.go [31, 61] _ rfl rfl ?_ | (intro h; first | exact (h rfl).elim | (exfalso; cases h; done) | (dsimp only [kk_cP, kk_cN] at h) | skip)
    all_goals first | omega | skip
    · exact hC.sub [(0, (4, 0)), (1, (0, _)), (2, (0, _)), (4, (0, _))] ⟨rfl, rfl, rfl, rfl, trivial⟩ (k61 _ _ F (A 11) (A 12) (Nat.lt_succ_self _) (by omega) (by omega) (fun j _ => rfl) hl)
    · refine hC.same (mm_workBy l _ F A k hc k4 (fun j hj => hl j (by omega))) rfl rfl rfl rfl (Nat.le_refl _) ?_
      rintro rs w' ⟨rfl, y, rfl⟩
      repeat' first | refine hC.gn [31] _ rfl rfl ?_ | refine And.intro ?_ ?_ | exact True.intro | refine hC.iadd [31] rfl rfl (by first | omega | (simp only [Int.reduceToNat] at *; omega)) ?_ | refine hC.isub [31] rfl rfl (by first | omega | (simp only [Int.reduceToNat] at *; omega)) ?_ | refine hC.imul [31] rfl rfl (by first | omega | (simp only [Int.reduceToNat] at *; omega)) ?_ | refine hC.iinc [31] rfl rfl rfl rfl (by first | omega | (simp only [Int.reduceToNat] at *; omega)) ?_ | refine hC.go [31] _ rfl rfl ?_ | (intro h; first | exact (h rfl).elim | (exfalso; cases h; done) | (dsimp only [kk_cP, kk_cN] at h) | skip)
      all_goals first | rfl | exact ⟨F, A 11, A 12, rfl, fun _ _ => rfl, hl⟩ | exact hC.sub [(0, (4, 0)), (2, (0, _)), (5, (0, _))] ⟨rfl, rfl, rfl, trivial⟩ (k31 _ _ (kk_up F 32 y) (A 12) (Nat.lt_succ_self _) (by omega) (fun j hj => kk_up_ne hj))
set_option maxRecDepth 100000 in
set_option maxHeartbeats 4000000 in
theorem mm_mostI (l : Launch) (d : Nat) (F : Nat → Int) (A : Nat → Nat → Int) (k : Int) (hI : mm_I Bm F A) : kk_Ctr l (d + 7) en_t_X11_most [(4, 0), (0, k)] (mm_w F A) (mm_Po Bm (F 2) (A 10) 0) := by
  refine kk_ctr en_hM (List.mem_of_getElem? (i := 188) rfl) rfl (Nat.le_of_ble_eq_true rfl) (fun K hC => ?_)
  repeat' first | refine hC.gn [5] _ rfl rfl ?_ | refine And.intro ?_ ?_ | exact True.intro | refine hC.iadd [5] rfl rfl (by first | omega | (simp only [Int.reduceToNat] at *; omega)) ?_ | refine hC.isub [5] rfl rfl (by first | omega | (simp only [Int.reduceToNat] at *; omega)) ?_ | refine hC.imul [5] rfl rfl (by first | omega | (simp only [Int.reduceToNat] at *; omega)) ?_ | refine hC.iinc [5] rfl rfl rfl rfl (by first | omega | (simp only [Int.reduceToNat] at *; omega)) ?_ | refine hC.go [5] _ rfl rfl ?_ | (intro h; first | exact (h rfl).elim | (exfalso; cases h; done) | (dsimp only [kk_cP, kk_cN] at h) | skip)
  refine (show ∀ F1 : Nat → Int, F1 2 = F 2 → mm_I Bm F1 A → K 5 [(0, (4, 0)), (1, (0, k))] [] (mm_w F1 A) from ?_) (kk_up F 0 0) rfl hI
  clear hI
  intro F1 e2 hI
  repeat' first | refine hC.gn [] _ rfl rfl ?_ | refine And.intro ?_ ?_ | exact True.intro | refine hC.iadd [] rfl rfl (by first | omega | (simp only [Int.reduceToNat] at *; omega)) ?_ | refine hC.isub [] rfl rfl (by first | omega | (simp only [Int.reduceToNat] at *; omega)) ?_ | refine hC.imul [] rfl rfl (by first | omega | (simp only [Int.reduceToNat] at *; omega)) ?_ | refine hC.iinc [] rfl rfl rfl rfl (by first | omega | (simp only [Int.reduceToNat] at *; omega)) ?_ | refine hC.go [] _ rfl rfl ?_ | (intro h; first | exact (h rfl).elim | (exfalso; cases h; done) | (dsimp only [kk_cP, kk_cN] at h) | skip) | (refine hC.call (mm_isIn l _ _ _ _) [] rfl rfl rfl rfl rfl rfl trivial (Nat.le_refl _) ?_; rintro rs w' ⟨rfl, ⟨rfl, h1, h2⟩ | ⟨rfl, h1⟩⟩)
  all_goals first | rfl | omega | exact ⟨_, rfl⟩ | exact Or.inl rfl | exact Or.inr rfl | (simp only [Int.reduceToNat] at *; omega) | exact ⟨F1, A, _, rfl, rfl, hI, e2, rfl⟩ | skip
  refine hC.same (mm_likeFrom l 5 d (kk_up F1 32 (-1)) A 0 k 0 (by omega) (by omega) (by omega) (by omega) hI.cn ⟨by omega, fun j hj => absurd hj (by omega)⟩) rfl rfl rfl rfl (Nat.le_refl _) ?_
  rintro rs w' ⟨rfl, G, f, g, rfl, hG, hf⟩
  repeat' first | refine hC.gn [] _ rfl rfl ?_ | refine And.intro ?_ ?_ | exact True.intro | refine hC.iadd [] rfl rfl (by first | omega | (simp only [Int.reduceToNat] at *; omega)) ?_ | refine hC.isub [] rfl rfl (by first | omega | (simp only [Int.reduceToNat] at *; omega)) ?_ | refine hC.imul [] rfl rfl (by first | omega | (simp only [Int.reduceToNat] at *; omega)) ?_ | refine hC.iinc [] rfl rfl rfl rfl (by first | omega | (simp only [Int.reduceToNat] at *; omega)) ?_ | refine hC.go [] _ rfl rfl ?_ | (intro h; first | exact (h rfl).elim | (exfalso; cases h; done) | (dsimp only [kk_cP, kk_cN] at h) | skip)
  have hG' : ∀ j, j ≠ 32 → G j = F1 j := fun j hj => (hG j hj).trans (kk_up_ne hj)
  refine ⟨kk_up G 31 k, mm_up (mm_up A 11 f) 12 g, _, rfl, rfl, ⟨?_, ?_⟩, ?_, rfl⟩
  · show 0 ≤ G 2 ∧ G 2 ≤ 940
    rw [hG' 2 (by decide)]; exact hI.1
  · show mm_Ia Bm (G 23) k (G 37) (G 26) (G 35) (G 10) (mm_up (mm_up A 11 f) 12 g)
    rw [hG' 23 (by decide), hG' 37 (by decide), hG' 26 (by decide), hG' 35 (by decide), hG' 10 (by decide)]
    obtain ⟨z1, z2, z3, z4⟩ := hI.2
    exact ⟨z1, by omega, z3, z4⟩
  · show G 2 = F 2
    rw [hG' 2 (by decide)]; exact e2
set_option maxRecDepth 100000 in
set_option maxHeartbeats 4000000 in
theorem mm_mostAtI (l : Launch) (d : Nat) (F : Nat → Int) (A : Nat → Nat → Int) (i : Int) (hI : mm_I Bm F A) : kk_Ctr l (d + 1) en_t_X11_mostAt [(4, 0), (0, i)] (mm_w F A) (mm_Po Bm (F 2) (A 10) 0) := by
  refine kk_ctr en_hM (List.mem_of_getElem? (i := 189) rfl) rfl (Nat.le_of_ble_eq_true rfl) (fun K hC => ?_)
  repeat' first | refine hC.gn [5] _ rfl rfl ?_ | refine And.intro ?_ ?_ | exact True.intro | refine hC.iadd [5] rfl rfl (by first | omega | (simp only [Int.reduceToNat] at *; omega)) ?_ | refine hC.isub [5] rfl rfl (by first | omega | (simp only [Int.reduceToNat] at *; omega)) ?_ | refine hC.imul [5] rfl rfl (by first | omega | (simp only [Int.reduceToNat] at *; omega)) ?_ | refine hC.iinc [5] rfl rfl rfl rfl (by first | omega | (simp only [Int.reduceToNat] at *; omega)) ?_ | refine hC.go [5] _ rfl rfl ?_ | (intro h; first | exact (h rfl).elim | (exfalso; cases h; done) | (dsimp only [kk_cP, kk_cN] at h) | skip)
  refine (show ∀ F1 : Nat → Int, F1 2 = F 2 → mm_I Bm F1 A → K 5 [(0, (4, 0)), (1, (0, i))] [] (mm_w F1 A) from ?_) (kk_up F 0 0) rfl hI
  clear hI
  intro F1 e2 hI
  have h4 := hI.2.2.1
  repeat' first | refine hC.gn [] _ rfl rfl ?_ | refine And.intro ?_ ?_ | exact True.intro | refine hC.iadd [] rfl rfl (by first | omega | (simp only [Int.reduceToNat] at *; omega)) ?_ | refine hC.isub [] rfl rfl (by first | omega | (simp only [Int.reduceToNat] at *; omega)) ?_ | refine hC.imul [] rfl rfl (by first | omega | (simp only [Int.reduceToNat] at *; omega)) ?_ | refine hC.iinc [] rfl rfl rfl rfl (by first | omega | (simp only [Int.reduceToNat] at *; omega)) ?_ | refine hC.go [] _ rfl rfl ?_ | (intro h; first | exact (h rfl).elim | (exfalso; cases h; done) | (dsimp only [kk_cP, kk_cN] at h) | skip) | (refine hC.call (mm_isIn l _ _ _ _) [] rfl rfl rfl rfl rfl rfl trivial (Nat.le_refl _) ?_; rintro rs w' ⟨rfl, ⟨rfl, h1, h2⟩ | ⟨rfl, h1⟩⟩)
  all_goals first | rfl | omega | exact ⟨_, rfl⟩ | exact Or.inl rfl | exact Or.inr rfl | (simp only [Int.reduceToNat] at *; omega) | exact ⟨F1, A, _, rfl, rfl, hI, e2, rfl⟩
set_option maxRecDepth 100000 in
set_option maxHeartbeats 4000000 in
theorem mm_byteAtI (l : Launch) (d : Nat) (F : Nat → Int) (A : Nat → Nat → Int) (i : Int) (hI : mm_I Bm F A) : kk_Ctr l (d + 1) en_t_X11_byteAt [(4, 0), (0, i)] (mm_w F A) (mm_Po Bm (F 2) (A 10) 0) := by
  refine kk_ctr en_hM (List.mem_of_getElem? (i := 197) rfl) rfl (Nat.le_of_ble_eq_true rfl) (fun K hC => ?_)
  repeat' first | refine hC.gn [5] _ rfl rfl ?_ | refine And.intro ?_ ?_ | exact True.intro | refine hC.iadd [5] rfl rfl (by first | omega | (simp only [Int.reduceToNat] at *; omega)) ?_ | refine hC.isub [5] rfl rfl (by first | omega | (simp only [Int.reduceToNat] at *; omega)) ?_ | refine hC.imul [5] rfl rfl (by first | omega | (simp only [Int.reduceToNat] at *; omega)) ?_ | refine hC.iinc [5] rfl rfl rfl rfl (by first | omega | (simp only [Int.reduceToNat] at *; omega)) ?_ | refine hC.go [5] _ rfl rfl ?_ | (intro h; first | exact (h rfl).elim | (exfalso; cases h; done) | (dsimp only [kk_cP, kk_cN] at h) | skip)
  refine (show ∀ F1 : Nat → Int, F1 2 = F 2 → mm_I Bm F1 A → K 5 [(0, (4, 0)), (1, (0, i))] [] (mm_w F1 A) from ?_) (kk_up F 0 0) rfl hI
  clear hI
  intro F1 e2 hI
  have h4 := hI.2.2.2.1
  repeat' first | refine hC.gn [] _ rfl rfl ?_ | refine And.intro ?_ ?_ | exact True.intro | refine hC.iadd [] rfl rfl (by first | omega | (simp only [Int.reduceToNat] at *; omega)) ?_ | refine hC.isub [] rfl rfl (by first | omega | (simp only [Int.reduceToNat] at *; omega)) ?_ | refine hC.imul [] rfl rfl (by first | omega | (simp only [Int.reduceToNat] at *; omega)) ?_ | refine hC.iinc [] rfl rfl rfl rfl (by first | omega | (simp only [Int.reduceToNat] at *; omega)) ?_ | refine hC.go [] _ rfl rfl ?_ | (intro h; first | exact (h rfl).elim | (exfalso; cases h; done) | (dsimp only [kk_cP, kk_cN] at h) | skip) | (refine hC.call (mm_isIn l _ _ _ _) [] rfl rfl rfl rfl rfl rfl trivial (Nat.le_refl _) ?_; rintro rs w' ⟨rfl, ⟨rfl, h1, h2⟩ | ⟨rfl, h1⟩⟩)
  all_goals first | rfl | omega | exact ⟨_, rfl⟩ | exact Or.inl rfl | exact Or.inr rfl | (simp only [Int.reduceToNat] at *; omega) | exact ⟨F1, A, _, rfl, rfl, hI, e2, rfl⟩
set_option maxRecDepth 100000 in
set_option maxHeartbeats 4000000 in
theorem mm_toldI (l : Launch) (d : Nat) (F : Nat → Int) (A : Nat → Nat → Int) (i : Int) (hI : mm_I Bm F A) : kk_Ctr l (d + 1) en_t_X11_told [(4, 0), (0, i)] (mm_w F A) (mm_Po Bm (F 2) (A 10) 0) := by
  refine kk_ctr en_hM (List.mem_of_getElem? (i := 200) rfl) rfl (Nat.le_of_ble_eq_true rfl) (fun K hC => ?_)
  repeat' first | refine hC.gn [5] _ rfl rfl ?_ | refine And.intro ?_ ?_ | exact True.intro | refine hC.iadd [5] rfl rfl (by first | omega | (simp only [Int.reduceToNat] at *; omega)) ?_ | refine hC.isub [5] rfl rfl (by first | omega | (simp only [Int.reduceToNat] at *; omega)) ?_ | refine hC.imul [5] rfl rfl (by first | omega | (simp only [Int.reduceToNat] at *; omega)) ?_ | refine hC.iinc [5] rfl rfl rfl rfl (by first | omega | (simp only [Int.reduceToNat] at *; omega)) ?_ | refine hC.go [5] _ rfl rfl ?_ | (intro h; first | exact (h rfl).elim | (exfalso; cases h; done) | (dsimp only [kk_cP, kk_cN] at h) | skip)
  refine (show ∀ F1 : Nat → Int, F1 2 = F 2 → mm_I Bm F1 A → K 5 [(0, (4, 0)), (1, (0, i))] [] (mm_w F1 A) from ?_) (kk_up F 0 0) rfl hI
  clear hI
  intro F1 e2 hI
  repeat' first | refine hC.gn [] _ rfl rfl ?_ | refine And.intro ?_ ?_ | exact True.intro | refine hC.iadd [] rfl rfl (by first | omega | (simp only [Int.reduceToNat] at *; omega)) ?_ | refine hC.isub [] rfl rfl (by first | omega | (simp only [Int.reduceToNat] at *; omega)) ?_ | refine hC.imul [] rfl rfl (by first | omega | (simp only [Int.reduceToNat] at *; omega)) ?_ | refine hC.iinc [] rfl rfl rfl rfl (by first | omega | (simp only [Int.reduceToNat] at *; omega)) ?_ | refine hC.go [] _ rfl rfl ?_ | (intro h; first | exact (h rfl).elim | (exfalso; cases h; done) | (dsimp only [kk_cP, kk_cN] at h) | skip) | (refine hC.call (mm_isIn l _ _ _ _) [] rfl rfl rfl rfl rfl rfl trivial (Nat.le_refl _) ?_; rintro rs w' ⟨rfl, ⟨rfl, h1, h2⟩ | ⟨rfl, h1⟩⟩)
  all_goals first | rfl | omega | exact ⟨_, rfl⟩ | exact Or.inl rfl | exact Or.inr rfl | (simp only [Int.reduceToNat] at *; omega) | exact ⟨F1, A, _, rfl, rfl, hI, e2, rfl⟩
set_option maxRecDepth 100000 in
set_option maxHeartbeats 4000000 in
theorem mm_waitsI (l : Launch) (d : Nat) (F : Nat → Int) (A : Nat → Nat → Int) (c : Int) (hI : mm_I Bm F A) : kk_Ctr l (d + 2) en_t_X11_waits [(4, 0), (0, c)] (mm_w F A) (mm_Po Bm (F 2) (A 10) 0) := by
  refine kk_ctr en_hM (List.mem_of_getElem? (i := 194) rfl) rfl (Nat.le_of_ble_eq_true rfl) (fun K hC => ?_)
  repeat' first | refine hC.gn [5] _ rfl rfl ?_ | refine And.intro ?_ ?_ | exact True.intro | refine hC.iadd [5] rfl rfl (by first | omega | (simp only [Int.reduceToNat] at *; omega)) ?_ | refine hC.isub [5] rfl rfl (by first | omega | (simp only [Int.reduceToNat] at *; omega)) ?_ | refine hC.imul [5] rfl rfl (by first | omega | (simp only [Int.reduceToNat] at *; omega)) ?_ | refine hC.iinc [5] rfl rfl rfl rfl (by first | omega | (simp only [Int.reduceToNat] at *; omega)) ?_ | refine hC.go [5] _ rfl rfl ?_ | (intro h; first | exact (h rfl).elim | (exfalso; cases h; done) | (dsimp only [kk_cP, kk_cN] at h) | skip)
  refine (show ∀ F1 : Nat → Int, F1 2 = F 2 → mm_I Bm F1 A → K 5 [(0, (4, 0)), (1, (0, c))] [] (mm_w F1 A) from ?_) (kk_up F 0 0) rfl hI
  clear hI
  intro F1 e2 hI
  repeat' first | refine hC.gn [] _ rfl rfl ?_ | refine And.intro ?_ ?_ | exact True.intro | refine hC.iadd [] rfl rfl (by first | omega | (simp only [Int.reduceToNat] at *; omega)) ?_ | refine hC.isub [] rfl rfl (by first | omega | (simp only [Int.reduceToNat] at *; omega)) ?_ | refine hC.imul [] rfl rfl (by first | omega | (simp only [Int.reduceToNat] at *; omega)) ?_ | refine hC.iinc [] rfl rfl rfl rfl (by first | omega | (simp only [Int.reduceToNat] at *; omega)) ?_ | refine hC.go [] _ rfl rfl ?_ | (intro h; first | exact (h rfl).elim | (exfalso; cases h; done) | (dsimp only [kk_cP, kk_cN] at h) | skip) | (refine hC.same (mm_isChapter l _ _ _ hI.cn) rfl rfl rfl rfl (Nat.le_refl _) ?_; rintro rs w' ⟨rfl, ⟨rfl, u1, u2, u3⟩ | rfl⟩) | (refine hC.same (mm_inBox l _ _ _) rfl rfl rfl rfl (Nat.le_refl _) ?_; rintro rs w' ⟨rfl, rfl⟩) | (refine hC.same (mm_sum l _ _ _ 5 10 (by decide)) rfl rfl rfl rfl (Nat.le_refl _) ?_; rintro rs w' ⟨rfl, rfl⟩)
  all_goals first | rfl | omega | exact ⟨_, rfl⟩ | exact Or.inl rfl | exact Or.inr rfl | (simp only [Int.reduceToNat] at *; omega) | exact ⟨F1, A, _, rfl, rfl, hI, e2, rfl⟩
set_option maxRecDepth 100000 in
set_option maxHeartbeats 4000000 in
theorem mm_chanceI (l : Launch) (d : Nat) (F : Nat → Int) (A : Nat → Nat → Int) (q : Int) (hI : mm_I Bm F A) : kk_Ctr l (d + 2) en_t_X11_chance [(4, 0), (0, q)] (mm_w F A) (mm_Po Bm (F 2) (A 10) 2) := by
  refine kk_ctr en_hM (List.mem_of_getElem? (i := 191) rfl) rfl (Nat.le_of_ble_eq_true rfl) (fun K hC => ?_)
  repeat' first | refine hC.gn [5] _ rfl rfl ?_ | refine And.intro ?_ ?_ | exact True.intro | refine hC.iadd [5] rfl rfl (by first | omega | (simp only [Int.reduceToNat] at *; omega)) ?_ | refine hC.isub [5] rfl rfl (by first | omega | (simp only [Int.reduceToNat] at *; omega)) ?_ | refine hC.imul [5] rfl rfl (by first | omega | (simp only [Int.reduceToNat] at *; omega)) ?_ | refine hC.iinc [5] rfl rfl rfl rfl (by first | omega | (simp only [Int.reduceToNat] at *; omega)) ?_ | refine hC.go [5] _ rfl rfl ?_ | (intro h; first | exact (h rfl).elim | (exfalso; cases h; done) | (dsimp only [kk_cP, kk_cN] at h) | skip)
  refine (show ∀ F1 : Nat → Int, F1 2 = F 2 → mm_I Bm F1 A → K 5 [(0, (4, 0)), (1, (0, q))] [] (mm_w F1 A) from ?_) (kk_up F 0 0) rfl hI
  clear hI
  intro F1 e2 hI
  repeat' first | refine hC.gn [] _ rfl rfl ?_ | refine And.intro ?_ ?_ | exact True.intro | refine hC.iadd [] rfl rfl (by first | omega | (simp only [Int.reduceToNat] at *; omega)) ?_ | refine hC.isub [] rfl rfl (by first | omega | (simp only [Int.reduceToNat] at *; omega)) ?_ | refine hC.imul [] rfl rfl (by first | omega | (simp only [Int.reduceToNat] at *; omega)) ?_ | refine hC.iinc [] rfl rfl rfl rfl (by first | omega | (simp only [Int.reduceToNat] at *; omega)) ?_ | refine hC.go [] _ rfl rfl ?_ | (intro h; first | exact (h rfl).elim | (exfalso; cases h; done) | (dsimp only [kk_cP, kk_cN] at h) | skip) | (refine hC.call (mm_isIn l _ _ _ _) [] rfl rfl rfl rfl rfl rfl trivial (Nat.le_refl _) ?_; rintro rs w' ⟨rfl, ⟨rfl, h1, h2⟩ | ⟨rfl, h1⟩⟩) | (refine hC.same (mm_refuse l _ F1 A) rfl rfl rfl rfl (Nat.le_refl _) ?_; rintro rs w' ⟨rfl, rfl⟩) | (refine hC.call (mm_tellPart l _ _ _ _ ?_) [] rfl rfl rfl rfl rfl rfl trivial (Nat.le_refl _) ?_; rotate_left; rintro rs w' ⟨rfl, y, rfl⟩)
  all_goals first | exact ⟨F1, A, _, rfl, rfl, hI, e2, rfl⟩ | exact ⟨kk_up F1 0 1, A, _, rfl, rfl, hI, e2, rfl⟩ | skip
  exact Or.inl (fun g => by
    have hz : 0 < kk_cmp (F1 34) 0 := by assumption
    rw [kk_cmp0.mpr g] at hz
    omega)
set_option maxRecDepth 100000 in
set_option maxHeartbeats 4000000 in
theorem mm_saysOf (l : Launch) (d : Nat) (F : Nat → Int) (A : Nat → Nat → Int) (c e : Int) (h0 : 0 ≤ c ∧ c ≤ 9) : kk_Ctr l (d + 1) en_t_X11_saysOf [(4, 0), (0, c), (0, e)] (mm_w F A) (mm_Rd F A) := by
  refine kk_ctr en_hM (List.mem_of_getElem? (i := 242) rfl) rfl (Nat.le_of_ble_eq_true rfl) (fun K hC => ?_)
  repeat' first | refine hC.gn [] _ rfl rfl ?_ | refine And.intro ?_ ?_ | exact True.intro | refine hC.iadd [] rfl rfl (by first | omega | (simp only [Int.reduceToNat] at *; omega)) ?_ | refine hC.isub [] rfl rfl (by first | omega | (simp only [Int.reduceToNat] at *; omega)) ?_ | refine hC.imul [] rfl rfl (by first | omega | (simp only [Int.reduceToNat] at *; omega)) ?_ | refine hC.iinc [] rfl rfl rfl rfl (by first | omega | (simp only [Int.reduceToNat] at *; omega)) ?_ | refine hC.go [] _ rfl rfl ?_ | (intro h; first | exact (h rfl).elim | (exfalso; cases h; done) | (dsimp only [kk_cP, kk_cN] at h) | skip) | (refine hC.call (mm_has l _ _ _) [] rfl rfl rfl rfl rfl rfl trivial (Nat.le_refl _) ?_; rintro rs w' ⟨rfl, rfl | rfl⟩)
  all_goals first | rfl | omega | exact ⟨_, rfl⟩ | exact Or.inl rfl | exact Or.inr rfl | (simp only [Int.reduceToNat] at *; omega)
set_option maxRecDepth 100000 in
set_option maxHeartbeats 4000000 in
theorem mm_alikeBy (l : Launch) (d : Nat) (F : Nat → Int) (A : Nat → Nat → Int) (s e : Int) : kk_Ctr l (d + 2) en_t_X11_alikeBy [(4, 0), (0, s), (0, e)] (mm_w F A) (mm_Rd F A) := by
  refine kk_ctr en_hM (List.mem_of_getElem? (i := 243) rfl) rfl (Nat.le_of_ble_eq_true rfl) (fun K hC => ?_)
  have k5 : ∀ (n : Nat) (t : Int) (x : Int), (4 - t).toNat < n → (0 ≤ t ∧ t ≤ 3) → K 5 [(0, (4, 0)), (1, (0, s)), (2, (0, e)), (3, (0, x)), (4, (0, t))] [] (mm_w F A) := by
    intro n
    induction n with
    | zero => intro t x hz; exact absurd hz (Nat.not_lt_zero _)
    | succ n ih =>
      intro t x hn h0
      have ih5 := ih
      have k17 : ∀ (n : Nat) (c : Int) (x : Int) (y : Int), (11 - c).toNat < n → (0 ≤ c ∧ c ≤ 10 ∧ -20 ≤ y ∧ y ≤ c) → (t < 3) → K 17 [(0, (4, 0)), (1, (0, s)), (2, (0, e)), (3, (0, x)), (4, (0, t)), (5, (0, y)), (6, (0, c))] [] (mm_w F A) := by
        intro n
        induction n with
        | zero => intro c x y hz; exact absurd hz (Nat.not_lt_zero _)
        | succ n ih =>
          intro c x y hn c0 t3
          refine hC.go [] _ rfl rfl ?_
          repeat' first | refine hC.gn [17, 5] _ rfl rfl ?_ | refine And.intro ?_ ?_ | exact True.intro | refine hC.iadd [17, 5] rfl rfl (by first | omega | (simp only [Int.reduceToNat] at *; omega)) ?_ | refine hC.isub [17, 5] rfl rfl (by first | omega | (simp only [Int.reduceToNat] at *; omega)) ?_ | refine hC.imul [17, 5] rfl rfl (by first | omega | (simp only [Int.reduceToNat] at *; omega)) ?_ | refine hC.iinc [17, 5] rfl rfl rfl rfl (by first | omega | (simp only [Int.reduceToNat] at *; omega)) ?_ | refine hC.go [17, 5] _ rfl rfl ?_ | (intro h; first | exact (h rfl).elim | (exfalso; cases h; done) | (dsimp only [kk_cP, kk_cN] at h) | skip) | (refine hC.call (mm_has l _ _ _) [] rfl rfl rfl rfl rfl rfl trivial (Nat.le_refl _) ?_; rintro rs w' ⟨rfl, rfl | rfl⟩) | (refine hC.same (mm_saysOf l _ _ _ _ _ (by first | omega | (simp only [Int.reduceToNat] at *; omega))) rfl rfl rfl rfl (Nat.le_refl _) ?_; rintro rs w' ⟨rfl, xs, rfl⟩)
          all_goals first | rfl | omega | exact ⟨_, rfl⟩ | exact Or.inl rfl | exact Or.inr rfl | (simp only [Int.reduceToNat] at *; omega) | exact hC.sub [(0, (4, 0)), (1, (0, _)), (2, (0, _)), (3, (0, _)), (4, (0, _)), (5, (0, _)), (6, (0, _))] ⟨rfl, rfl, rfl, rfl, rfl, rfl, rfl, trivial⟩ (ih _ _ _ (by omega) (by omega) t3) | exact hC.sub [(0, (4, 0)), (1, (0, _)), (2, (0, _)), (3, (0, _)), (4, (0, _))] ⟨rfl, rfl, rfl, rfl, rfl, trivial⟩ (ih5 _ _ (by omega) (by omega))
      refine hC.go [] _ rfl rfl ?_
      repeat' first | refine hC.gn [5, 17] _ rfl rfl ?_ | refine And.intro ?_ ?_ | exact True.intro | refine hC.iadd [5, 17] rfl rfl (by first | omega | (simp only [Int.reduceToNat] at *; omega)) ?_ | refine hC.isub [5, 17] rfl rfl (by first | omega | (simp only [Int.reduceToNat] at *; omega)) ?_ | refine hC.imul [5, 17] rfl rfl (by first | omega | (simp only [Int.reduceToNat] at *; omega)) ?_ | refine hC.iinc [5, 17] rfl rfl rfl rfl (by first | omega | (simp only [Int.reduceToNat] at *; omega)) ?_ | refine hC.go [5, 17] _ rfl rfl ?_ | (intro h; first | exact (h rfl).elim | (exfalso; cases h; done) | (dsimp only [kk_cP, kk_cN] at h) | skip)
      all_goals first | rfl | omega | exact ⟨_, rfl⟩ | exact Or.inl rfl | exact Or.inr rfl | (simp only [Int.reduceToNat] at *; omega) | exact hC.sub [(0, (4, 0)), (1, (0, _)), (2, (0, _)), (3, (0, _)), (4, (0, _)), (5, (0, _)), (6, (0, _))] ⟨rfl, rfl, rfl, rfl, rfl, rfl, rfl, trivial⟩ (k17 _ _ _ _ (Nat.lt_succ_self _) (by omega) (by omega))
  repeat' first | refine hC.gn [5] _ rfl rfl ?_ | refine And.intro ?_ ?_ | exact True.intro | refine hC.iadd [5] rfl rfl (by first | omega | (simp only [Int.reduceToNat] at *; omega)) ?_ | refine hC.isub [5] rfl rfl (by first | omega | (simp only [Int.reduceToNat] at *; omega)) ?_ | refine hC.imul [5] rfl rfl (by first | omega | (simp only [Int.reduceToNat] at *; omega)) ?_ | refine hC.iinc [5] rfl rfl rfl rfl (by first | omega | (simp only [Int.reduceToNat] at *; omega)) ?_ | refine hC.go [5] _ rfl rfl ?_ | (intro h; first | exact (h rfl).elim | (exfalso; cases h; done) | (dsimp only [kk_cP, kk_cN] at h) | skip)
  exact hC.sub [(0, (4, 0)), (1, (0, _)), (2, (0, _)), (3, (0, _)), (4, (0, _))] ⟨rfl, rfl, rfl, rfl, rfl, trivial⟩ (k5 _ _ _ (Nat.lt_succ_self _) (by omega))
theorem kk_idiv2 {x : Int} (h0 : 0 ≤ x) (h1 : x ≤ 1000) : kk_i2 9 x 2 = x / 2 := by
  show (Int32.ofInt x / Int32.ofInt 2).toInt = x / 2
  rw [← Int32.ofInt_tdiv (by show (-2147483648 : Int) ≤ x; omega) (by show x ≤ 2147483647; omega) (by decide) (by decide), Int.tdiv_eq_ediv_of_nonneg h0]
  exact Int32.toInt_ofInt_of_le (by omega) (by omega)
