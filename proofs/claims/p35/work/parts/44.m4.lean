/-! THE REFERENCE, 4: words, signs, numbers -/
def mm_ok (F : Nat → Int) : Prop := 0 ≤ F 5 ∧ F 5 ≤ F 3 ∧ F 3 ≤ 940 ∧ (F 7 = 2 → F 12 ≤ 10460353202)
def mm_p (F F' : Nat → Int) : Prop := (∀ k, (k < 5 ∨ 13 < k) → F' k = F k) ∧ mm_ok F' ∧ F 5 ≤ F' 5
set_option maxRecDepth 100000 in
set_option maxHeartbeats 4000000 in
theorem mm_p.rf {F : Nat → Int} (h : mm_ok F) : mm_p F F := ⟨fun _ _ => rfl, h, Int.le_refl _⟩
set_option maxRecDepth 100000 in
set_option maxHeartbeats 4000000 in
theorem mm_p.tr {F F' F'' : Nat → Int} (h : mm_p F F') (h' : mm_p F' F'') : mm_p F F'' := ⟨fun k hk => (h'.1 k hk).trans (h.1 k hk), h'.2.1, Int.le_trans h.2.2 h'.2.2⟩
set_option maxRecDepth 100000 in
set_option maxHeartbeats 4000000 in
theorem mm_rd.p {F F' : Nat → Int} (h : mm_ok F) (hr : mm_rd F F') : mm_p F F' ∧ (2 ≤ F' 7 → F 5 < F' 5) := by
  obtain ⟨g1, g2, g3, g4, g5, g6, g7⟩ := hr
  obtain ⟨f1, f2, f3, f4⟩ := h
  have e3 : F' 3 = F 3 := g1 3 (by decide) (by decide) (by decide) (by decide) (by decide) (by decide)
  exact ⟨⟨fun k hk => g1 k (by omega) (by omega) (by omega) (by omega) (by omega) (by omega), ⟨by omega, by omega, by omega, g7⟩, g2⟩, g6⟩
set_option maxRecDepth 100000 in
set_option maxHeartbeats 4000000 in
theorem mm_spelt (l : Launch) (d : Nat) (a b c e f g u : Int) : kk_Ctr l d en_t_X11_spelt [(0, a), (0, b), (0, c), (0, e), (0, f), (0, g), (0, u)] [] (fun rs w' => w' = [] ∧ ∃ x, rs = [(2, x)]) := by
  refine kk_ctr en_hM (List.mem_of_getElem? (i := 244) rfl) rfl (Nat.le_of_ble_eq_true rfl) (fun K hC => ?_)
  have k120 : ∀ x : Int, K 120 [(7, (2, x))] [] [] := by
    intro x
    refine hC.go [] _ rfl rfl ?_
    repeat' first | refine hC.gn [] _ rfl rfl ?_ | refine And.intro ?_ ?_ | exact True.intro | refine hC.iadd [] rfl rfl (by first | omega | (simp only [Int.reduceToNat] at *; omega)) ?_ | refine hC.isub [] rfl rfl (by first | omega | (simp only [Int.reduceToNat] at *; omega)) ?_ | refine hC.imul [] rfl rfl (by first | omega | (simp only [Int.reduceToNat] at *; omega)) ?_ | refine hC.iinc [] rfl rfl rfl rfl (by first | omega | (simp only [Int.reduceToNat] at *; omega)) ?_ | refine hC.go [] _ rfl rfl ?_ | (intro h; first | exact (h rfl).elim | (exfalso; cases h; done) | (dsimp only [kk_cP, kk_cN] at h) | skip)
    all_goals first | rfl | exact ⟨_, rfl⟩
  have k99 : ∀ x : Int, K 99 [(6, (0, u)), (7, (2, x))] [] [] := by
    intro x
    refine hC.go [] _ rfl rfl ?_
    repeat' first | refine hC.gn [120] _ rfl rfl ?_ | refine And.intro ?_ ?_ | exact True.intro | refine hC.iadd [120] rfl rfl (by first | omega | (simp only [Int.reduceToNat] at *; omega)) ?_ | refine hC.isub [120] rfl rfl (by first | omega | (simp only [Int.reduceToNat] at *; omega)) ?_ | refine hC.imul [120] rfl rfl (by first | omega | (simp only [Int.reduceToNat] at *; omega)) ?_ | refine hC.iinc [120] rfl rfl rfl rfl (by first | omega | (simp only [Int.reduceToNat] at *; omega)) ?_ | refine hC.go [120] _ rfl rfl ?_ | (intro h; first | exact (h rfl).elim | (exfalso; cases h; done) | (dsimp only [kk_cP, kk_cN] at h) | skip)
    all_goals exact hC.sub [(7, (2, _))] ⟨rfl, trivial⟩ (k120 _)
  have k78 : ∀ x : Int, K 78 [(5, (0, g)), (6, (0, u)), (7, (2, x))] [] [] := by
    intro x
    refine hC.go [] _ rfl rfl ?_
    repeat' first | refine hC.gn [99] _ rfl rfl ?_ | refine And.intro ?_ ?_ | exact True.intro | refine hC.iadd [99] rfl rfl (by first | omega | (simp only [Int.reduceToNat] at *; omega)) ?_ | refine hC.isub [99] rfl rfl (by first | omega | (simp only [Int.reduceToNat] at *; omega)) ?_ | refine hC.imul [99] rfl rfl (by first | omega | (simp only [Int.reduceToNat] at *; omega)) ?_ | refine hC.iinc [99] rfl rfl rfl rfl (by first | omega | (simp only [Int.reduceToNat] at *; omega)) ?_ | refine hC.go [99] _ rfl rfl ?_ | (intro h; first | exact (h rfl).elim | (exfalso; cases h; done) | (dsimp only [kk_cP, kk_cN] at h) | skip)
    all_goals exact hC.sub [(6, (0, u)), (7, (2, _))] ⟨rfl, rfl, trivial⟩ (k99 _)
  have k57 : ∀ x : Int, K 57 [(4, (0, f)), (5, (0, g)), (6, (0, u)), (7, (2, x))] [] [] := by
    intro x
    refine hC.go [] _ rfl rfl ?_
    repeat' first | refine hC.gn [78] _ rfl rfl ?_ | refine And.intro ?_ ?_ | exact True.intro | refine hC.iadd [78] rfl rfl (by first | omega | (simp only [Int.reduceToNat] at *; omega)) ?_ | refine hC.isub [78] rfl rfl (by first | omega | (simp only [Int.reduceToNat] at *; omega)) ?_ | refine hC.imul [78] rfl rfl (by first | omega | (simp only [Int.reduceToNat] at *; omega)) ?_ | refine hC.iinc [78] rfl rfl rfl rfl (by first | omega | (simp only [Int.reduceToNat] at *; omega)) ?_ | refine hC.go [78] _ rfl rfl ?_ | (intro h; first | exact (h rfl).elim | (exfalso; cases h; done) | (dsimp only [kk_cP, kk_cN] at h) | skip)
    all_goals exact hC.sub [(5, (0, g)), (6, (0, u)), (7, (2, _))] ⟨rfl, rfl, rfl, trivial⟩ (k78 _)
  have k38 : ∀ x : Int, K 38 [(3, (0, e)), (4, (0, f)), (5, (0, g)), (6, (0, u)), (7, (2, x))] [] [] := by
    intro x
    refine hC.go [] _ rfl rfl ?_
    repeat' first | refine hC.gn [57] _ rfl rfl ?_ | refine And.intro ?_ ?_ | exact True.intro | refine hC.iadd [57] rfl rfl (by first | omega | (simp only [Int.reduceToNat] at *; omega)) ?_ | refine hC.isub [57] rfl rfl (by first | omega | (simp only [Int.reduceToNat] at *; omega)) ?_ | refine hC.imul [57] rfl rfl (by first | omega | (simp only [Int.reduceToNat] at *; omega)) ?_ | refine hC.iinc [57] rfl rfl rfl rfl (by first | omega | (simp only [Int.reduceToNat] at *; omega)) ?_ | refine hC.go [57] _ rfl rfl ?_ | (intro h; first | exact (h rfl).elim | (exfalso; cases h; done) | (dsimp only [kk_cP, kk_cN] at h) | skip)
    all_goals exact hC.sub [(4, (0, f)), (5, (0, g)), (6, (0, u)), (7, (2, _))] ⟨rfl, rfl, rfl, rfl, trivial⟩ (k57 _)
  repeat' first | refine hC.gn [38] _ rfl rfl ?_ | refine And.intro ?_ ?_ | exact True.intro | refine hC.iadd [38] rfl rfl (by first | omega | (simp only [Int.reduceToNat] at *; omega)) ?_ | refine hC.isub [38] rfl rfl (by first | omega | (simp only [Int.reduceToNat] at *; omega)) ?_ | refine hC.imul [38] rfl rfl (by first | omega | (simp only [Int.reduceToNat] at *; omega)) ?_ | refine hC.iinc [38] rfl rfl rfl rfl (by first | omega | (simp only [Int.reduceToNat] at *; omega)) ?_ | refine hC.go [38] _ rfl rfl ?_ | (intro h; first | exact (h rfl).elim | (exfalso; cases h; done) | (dsimp only [kk_cP, kk_cN] at h) | skip)
  all_goals exact hC.sub [(3, (0, e)), (4, (0, f)), (5, (0, g)), (6, (0, u)), (7, (2, _))] ⟨rfl, rfl, rfl, rfl, rfl, trivial⟩ (k38 _)
set_option maxRecDepth 100000 in
set_option maxHeartbeats 4000000 in
theorem mm_wordOf (l : Launch) (d : Nat) (k : Int) : kk_Ctr l (d + 1) en_t_X11_wordOf [(0, k)] [] (fun rs w' => w' = [] ∧ ∃ x, rs = [(2, x)]) := by
  refine kk_ctr en_hM (List.mem_of_getElem? (i := 285) rfl) rfl (Nat.le_of_ble_eq_true rfl) (fun K hC => ?_)
  repeat' first | refine hC.gn [] _ rfl rfl ?_ | refine And.intro ?_ ?_ | exact True.intro | refine hC.iadd [] rfl rfl (by first | omega | (simp only [Int.reduceToNat] at *; omega)) ?_ | refine hC.isub [] rfl rfl (by first | omega | (simp only [Int.reduceToNat] at *; omega)) ?_ | refine hC.imul [] rfl rfl (by first | omega | (simp only [Int.reduceToNat] at *; omega)) ?_ | refine hC.iinc [] rfl rfl rfl rfl (by first | omega | (simp only [Int.reduceToNat] at *; omega)) ?_ | refine hC.go [] _ rfl rfl ?_ | (intro h; first | exact (h rfl).elim | (exfalso; cases h; done) | (dsimp only [kk_cP, kk_cN] at h) | skip) | (refine hC.call (mm_spelt l _ _ _ _ _ _ _ _) [] rfl rfl rfl rfl rfl rfl trivial (Nat.le_refl _) ?_; rintro rs w' ⟨rfl, x, rfl⟩)
  all_goals first | rfl | exact ⟨_, rfl⟩
set_option maxRecDepth 100000 in
set_option maxHeartbeats 4000000 in
theorem mm_isWord (l : Launch) (d : Nat) (F : Nat → Int) (A : Nat → Nat → Int) (k : Int) : kk_Ctr l (d + 2) en_t_X11_isWord [(4, 0), (0, k)] (mm_w F A) (fun rs w' => w' = mm_w F A ∧ ((rs = [(0, 1)] ∧ F 7 = 2) ∨ rs = [(0, 0)])) := by
  refine kk_ctr en_hM (List.mem_of_getElem? (i := 255) rfl) rfl (Nat.le_of_ble_eq_true rfl) (fun K hC => ?_)
  repeat' first | refine hC.gn [] _ rfl rfl ?_ | refine And.intro ?_ ?_ | exact True.intro | refine hC.iadd [] rfl rfl (by first | omega | (simp only [Int.reduceToNat] at *; omega)) ?_ | refine hC.isub [] rfl rfl (by first | omega | (simp only [Int.reduceToNat] at *; omega)) ?_ | refine hC.imul [] rfl rfl (by first | omega | (simp only [Int.reduceToNat] at *; omega)) ?_ | refine hC.iinc [] rfl rfl rfl rfl (by first | omega | (simp only [Int.reduceToNat] at *; omega)) ?_ | refine hC.go [] _ rfl rfl ?_ | (intro h; first | exact (h rfl).elim | (exfalso; cases h; done) | (dsimp only [kk_cP, kk_cN] at h) | skip) | (refine hC.call (mm_wordOf l _ _) [] rfl rfl rfl rfl rfl rfl trivial (Nat.le_refl _) ?_; rintro rs w' ⟨rfl, x, rfl⟩)
  all_goals first | rfl | omega | exact Or.inl rfl | exact Or.inr rfl | exact Or.inl ⟨rfl, by omega⟩
set_option maxRecDepth 100000 in
set_option maxHeartbeats 4000000 in
theorem mm_isSign (l : Launch) (d : Nat) (F : Nat → Int) (A : Nat → Nat → Int) (c : Int) : kk_Ctr l d en_t_X11_isSign [(4, 0), (0, c)] (mm_w F A) (fun rs w' => w' = mm_w F A ∧ ((rs = [(0, 1)] ∧ F 7 = 4 ∧ F 9 = c) ∨ rs = [(0, 0)])) := by
  refine kk_ctr en_hM (List.mem_of_getElem? (i := 262) rfl) rfl (Nat.le_of_ble_eq_true rfl) (fun K hC => ?_)
  repeat' first | refine hC.gn [] _ rfl rfl ?_ | refine And.intro ?_ ?_ | exact True.intro | refine hC.iadd [] rfl rfl (by first | omega | (simp only [Int.reduceToNat] at *; omega)) ?_ | refine hC.isub [] rfl rfl (by first | omega | (simp only [Int.reduceToNat] at *; omega)) ?_ | refine hC.imul [] rfl rfl (by first | omega | (simp only [Int.reduceToNat] at *; omega)) ?_ | refine hC.iinc [] rfl rfl rfl rfl (by first | omega | (simp only [Int.reduceToNat] at *; omega)) ?_ | refine hC.go [] _ rfl rfl ?_ | (intro h; first | exact (h rfl).elim | (exfalso; cases h; done) | (dsimp only [kk_cP, kk_cN] at h) | skip)
  all_goals first | rfl | omega | exact Or.inl rfl | exact Or.inr rfl | exact Or.inl ⟨rfl, by omega, by omega⟩
set_option maxRecDepth 100000 in
set_option maxHeartbeats 4000000 in
theorem mm_isName (l : Launch) (d : Nat) (F : Nat → Int) (A : Nat → Nat → Int) : kk_Ctr l (d + 2) en_t_X11_isName [(4, 0)] (mm_w F A) (fun rs w' => w' = mm_w F A ∧ ((rs = [(0, 1)] ∧ F 7 = 2) ∨ rs = [(0, 0)])) := by
  refine kk_ctr en_hM (List.mem_of_getElem? (i := 271) rfl) rfl (Nat.le_of_ble_eq_true rfl) (fun K hC => ?_)
  have key : F 7 = 2 → ∀ (j : Nat) (k : Int), (24 - k).toNat < j → 0 ≤ k → K 12 [(0, (4, 0)), (1, (0, k))] [] (mm_w F A) := by
    intro h7 j
    induction j with
    | zero => intro k h; exact absurd h (Nat.not_lt_zero _)
    | succ j ih =>
      intro k hj hk
      refine hC.go [] _ rfl rfl ?_
      repeat' first | refine hC.gn [12] _ rfl rfl ?_ | refine And.intro ?_ ?_ | exact True.intro | refine hC.iadd [12] rfl rfl (by first | omega | (simp only [Int.reduceToNat] at *; omega)) ?_ | refine hC.isub [12] rfl rfl (by first | omega | (simp only [Int.reduceToNat] at *; omega)) ?_ | refine hC.imul [12] rfl rfl (by first | omega | (simp only [Int.reduceToNat] at *; omega)) ?_ | refine hC.iinc [12] rfl rfl rfl rfl (by first | omega | (simp only [Int.reduceToNat] at *; omega)) ?_ | refine hC.go [12] _ rfl rfl ?_ | (intro h; first | exact (h rfl).elim | (exfalso; cases h; done) | (dsimp only [kk_cP, kk_cN] at h) | skip) | (refine hC.call (mm_wordOf l _ _) [] rfl rfl rfl rfl rfl rfl trivial (Nat.le_refl _) ?_; rintro rs w' ⟨rfl, x, rfl⟩)
      all_goals first | rfl | omega | exact Or.inl rfl | exact Or.inr rfl | exact Or.inl ⟨rfl, by omega⟩ | exact hC.sub [(0, (4, 0)), (1, (0, _))] ⟨rfl, rfl, trivial⟩ (ih _ (by omega) (by omega))
  repeat' first | refine hC.gn [12] _ rfl rfl ?_ | refine And.intro ?_ ?_ | exact True.intro | refine hC.iadd [12] rfl rfl (by first | omega | (simp only [Int.reduceToNat] at *; omega)) ?_ | refine hC.isub [12] rfl rfl (by first | omega | (simp only [Int.reduceToNat] at *; omega)) ?_ | refine hC.imul [12] rfl rfl (by first | omega | (simp only [Int.reduceToNat] at *; omega)) ?_ | refine hC.iinc [12] rfl rfl rfl rfl (by first | omega | (simp only [Int.reduceToNat] at *; omega)) ?_ | refine hC.go [12] _ rfl rfl ?_ | (intro h; first | exact (h rfl).elim | (exfalso; cases h; done) | (dsimp only [kk_cP, kk_cN] at h) | skip)
  all_goals first | rfl | omega | exact Or.inl rfl | exact Or.inr rfl | exact Or.inl ⟨rfl, by omega⟩ | exact hC.sub [(0, (4, 0)), (1, (0, _))] ⟨rfl, rfl, trivial⟩ (key (by omega) _ _ (Nat.lt_succ_self _) (by omega))
set_option maxRecDepth 100000 in
set_option maxHeartbeats 4000000 in
theorem mm_bad (l : Launch) (d : Nat) (F : Nat → Int) (A : Nat → Nat → Int) (k : Int) : kk_Ctr l d en_t_X11_bad [(4, 0), (0, k)] (mm_w F A) (fun rs w' => rs = [(0, 0)] ∧ ∃ x, w' = mm_w (kk_up (kk_up F 10 x) 11 (F 6)) A) := by
  refine kk_ctr en_hM (List.mem_of_getElem? (i := 252) rfl) rfl (Nat.le_of_ble_eq_true rfl) (fun K hC => ?_)
  repeat' first | refine hC.gn [] _ rfl rfl ?_ | refine And.intro ?_ ?_ | exact True.intro | refine hC.iadd [] rfl rfl (by first | omega | (simp only [Int.reduceToNat] at *; omega)) ?_ | refine hC.isub [] rfl rfl (by first | omega | (simp only [Int.reduceToNat] at *; omega)) ?_ | refine hC.imul [] rfl rfl (by first | omega | (simp only [Int.reduceToNat] at *; omega)) ?_ | refine hC.iinc [] rfl rfl rfl rfl (by first | omega | (simp only [Int.reduceToNat] at *; omega)) ?_ | refine hC.go [] _ rfl rfl ?_ | (intro h; first | exact (h rfl).elim | (exfalso; cases h; done) | (dsimp only [kk_cP, kk_cN] at h) | skip)
  all_goals first | rfl | omega | exact Or.inl rfl | exact ⟨_, rfl⟩
set_option maxRecDepth 100000 in
set_option maxHeartbeats 4000000 in
theorem mm_bad_p {F : Nat → Int} (h : mm_ok F) (x y : Int) : mm_p F (kk_up (kk_up F 10 x) 11 y) := ⟨fun k hk => (kk_up_ne (by omega)).trans (kk_up_ne (by omega)), h, Int.le_refl _⟩
/-- what a reading method does: it answers, and goes on if it could -/
def mm_Q1 (F : Nat → Int) (A : Nat → Nat → Int) (P : (Nat → Int) → Prop) : List en_V → List kk_C → Prop := fun rs w' => ∃ F', w' = mm_w F' A ∧ mm_p F F' ∧ ((rs = [(0, 1)] ∧ P F' ∧ (F' 7 = 4 → F 5 < F' 5)) ∨ rs = [(0, 0)])
set_option maxRecDepth 100000 in
set_option maxHeartbeats 4000000 in
theorem mm_readEnd (l : Launch) (d : Nat) (F : Nat → Int) (A : Nat → Nat → Int) (h : mm_ok F) : kk_Ctr l (d + 2) en_t_X11_readEnd [(4, 0)] (mm_w F A) (fun rs w' => ∃ F', w' = mm_w F' A ∧ mm_p F F' ∧ ((rs = [(0, 1)] ∧ F 7 = 4) ∨ rs = [(0, 0)])) := by
  refine kk_ctr en_hM (List.mem_of_getElem? (i := 210) rfl) rfl (Nat.le_of_ble_eq_true rfl) (fun K hC => ?_)
  have hh := h
  repeat' first | refine hC.gn [] _ rfl rfl ?_ | refine And.intro ?_ ?_ | exact True.intro | refine hC.iadd [] rfl rfl (by first | omega | (simp only [Int.reduceToNat] at *; omega)) ?_ | refine hC.isub [] rfl rfl (by first | omega | (simp only [Int.reduceToNat] at *; omega)) ?_ | refine hC.imul [] rfl rfl (by first | omega | (simp only [Int.reduceToNat] at *; omega)) ?_ | refine hC.iinc [] rfl rfl rfl rfl (by first | omega | (simp only [Int.reduceToNat] at *; omega)) ?_ | refine hC.go [] _ rfl rfl ?_ | (intro h; first | exact (h rfl).elim | (exfalso; cases h; done) | (dsimp only [kk_cP, kk_cN] at h) | skip) | (refine hC.same (mm_isSign l _ _ _ _) rfl rfl rfl rfl (Nat.le_refl _) ?_; rintro rs w' ⟨rfl, ⟨rfl, s1, s2⟩ | rfl⟩) | (refine hC.same (mm_bad l _ _ _ _) rfl rfl rfl rfl (Nat.le_refl _) ?_; rintro rs w' ⟨rfl, xb, rfl⟩) | (refine hC.same (mm_go l _ _ _ ?_ ?_ ?_) rfl rfl rfl rfl (Nat.le_refl _) ?_; rotate_left 3; rintro rs w' ⟨rfl, F', rfl, hrd⟩)
  all_goals first | exact hh.1 | exact hh.2.1 | exact hh.2.2.1 | exact Or.inl rfl | exact Or.inr rfl | exact ⟨_, rfl, mm_bad_p hh _ _, Or.inr rfl⟩ | exact ⟨_, rfl, (hrd.p hh).1, Or.inl ⟨rfl, s1⟩⟩
set_option maxRecDepth 100000 in
set_option maxHeartbeats 4000000 in
theorem mm_ok.told {F : Nat → Int} (h : mm_ok F) (x : Int) : mm_ok (kk_up F 13 x) := h
set_option maxRecDepth 100000 in
set_option maxHeartbeats 4000000 in
theorem mm_p.told {F : Nat → Int} (h : mm_ok F) (x : Int) : mm_p F (kk_up F 13 x) := ⟨fun k hk => kk_up_ne (by omega), h, Int.le_refl _⟩
set_option maxRecDepth 100000 in
set_option maxHeartbeats 4000000 in
theorem mm_readNumber (l : Launch) (d : Nat) (F : Nat → Int) (A : Nat → Nat → Int) (a b : Int) (h : mm_ok F) : kk_Ctr l (d + 2) en_t_X11_readNumber [(4, 0), (0, a), (0, b)] (mm_w F A) (mm_Q1 F A (fun F' => a ≤ F' 13 ∧ F' 13 ≤ b)) := by
  have hh := h
  have h3 := hh.told (F 8)
  refine kk_ctr en_hM (List.mem_of_getElem? (i := 274) rfl) rfl (Nat.le_of_ble_eq_true rfl) (fun K hC => ?_)
  repeat' first | refine hC.gn [] _ rfl rfl ?_ | refine And.intro ?_ ?_ | exact True.intro | refine hC.iadd [] rfl rfl (by first | omega | (simp only [Int.reduceToNat] at *; omega)) ?_ | refine hC.isub [] rfl rfl (by first | omega | (simp only [Int.reduceToNat] at *; omega)) ?_ | refine hC.imul [] rfl rfl (by first | omega | (simp only [Int.reduceToNat] at *; omega)) ?_ | refine hC.iinc [] rfl rfl rfl rfl (by first | omega | (simp only [Int.reduceToNat] at *; omega)) ?_ | refine hC.go [] _ rfl rfl ?_ | (intro h; first | exact (h rfl).elim | (exfalso; cases h; done) | (dsimp only [kk_cP, kk_cN] at h) | skip) | (refine hC.call (mm_isIn l _ _ _ _) [] rfl rfl rfl rfl rfl rfl trivial (Nat.le_refl _) ?_; rintro rs w' ⟨rfl, ⟨rfl, h1, h2⟩ | ⟨rfl, h1⟩⟩) | (refine hC.same (mm_bad l _ _ _ _) rfl rfl rfl rfl (Nat.le_refl _) ?_; rintro rs w' ⟨rfl, xb, rfl⟩) | (refine hC.same (mm_go l _ (kk_up F 13 (F 8)) A ?_ ?_ ?_) rfl rfl rfl rfl (Nat.le_refl _) ?_; rotate_left 3; rintro rs w' ⟨rfl, F', rfl, hrd⟩)
  all_goals first | exact hh.1 | exact hh.2.1 | exact hh.2.2.1 | exact Or.inl rfl | exact Or.inr rfl | exact ⟨_, rfl, mm_bad_p hh _ _, Or.inr rfl⟩ | skip
  have e13 : F' 13 = F 8 := hrd.1 13 (by decide) (by decide) (by decide) (by decide) (by decide) (by decide)
  have q := hrd.p h3
  exact ⟨F', rfl, (mm_p.told hh _).tr q.1, Or.inl ⟨rfl, ⟨by omega, by omega⟩, fun g => q.2 (by omega)⟩⟩
