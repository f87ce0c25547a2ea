/-! THE REFERENCE, 23: lines of a book -/
variable {Bm : Nat → Nat → Int}
set_option maxRecDepth 100000 in
set_option maxHeartbeats 4000000 in
theorem mm_find7 (l : Launch) {d d' : Nat} {M : List en_T} {t : en_T} {xc : kk_X} {R : Instr → List en_V → List kk_C → Prop} {K : kk_Q} (hC : kk_Clo l d M t xc R K) (hd : d' + 1 ≤ d) (F : Nat → Int) (A : Nat → Nat → Int) {b m w : Int} {pc nx k : Nat} {i : Instr} {a' : Nat} {L : en_L} {r : List en_V} (hb : 0 ≤ b) (hm : 0 ≤ m) (hbm : b + m ≤ 22) (hf : en_find (en_te t) pc = some (nx, i, a', 4, k)) (hM : M[a']? = some en_t_X11_findIn) (hc : kk_chk (nx, i, a', 4, k) en_t_X11_findIn [(4, 7), (0, b), (0, m), (2, w)] r (mm_w F A) = true)
    (h : K nx L ((0, mm_fi (A 7) w b m.toNat 0) :: r) (mm_w F A)) : K pc L ((2, w) :: (0, m) :: (0, b) :: (4, 7) :: r) (mm_w F A) := by
  refine hC.call (mm_findInF l d' 22 (A 7) b m w hb hbm (by decide) hm) [7] hf hM rfl hc rfl rfl ⟨rfl, trivial⟩ hd ?_
  rintro rs w' ⟨rfl, rfl⟩
  exact h
set_option maxRecDepth 100000 in
set_option maxHeartbeats 4000000 in
theorem mm_readNamed (l : Launch) (d : Nat) (F : Nat → Int) (A : Nat → Nat → Int) (b m : Int) (h : mm_ok F) (hb : 0 ≤ b) (hm : 0 ≤ m) (hbm : b + m ≤ 22) : kk_Ctr l (d + 3) en_t_X11_readNamed [(4, 0), (0, b), (0, m)] (mm_w F A) (mm_Q1 F A (fun F' => 0 ≤ F' 13 ∧ F' 13 < m)) := by
  have hh := h
  refine kk_ctr en_hM (List.mem_of_getElem? (i := 276) rfl) rfl (Nat.le_of_ble_eq_true rfl) (fun K hC => ?_)
  repeat' first | refine hC.gn [] _ rfl rfl ?_ | refine And.intro ?_ ?_ | exact True.intro | refine hC.iadd [] rfl rfl (by first | omega | (simp only [Int.reduceToNat] at *; omega)) ?_ | refine hC.isub [] rfl rfl (by first | omega | (simp only [Int.reduceToNat] at *; omega)) ?_ | refine hC.imul [] rfl rfl (by first | omega | (simp only [Int.reduceToNat] at *; omega)) ?_ | refine hC.iinc [] rfl rfl rfl rfl (by first | omega | (simp only [Int.reduceToNat] at *; omega)) ?_ | refine hC.go [] _ rfl rfl ?_ | (intro h; first | exact (h rfl).elim | (exfalso; cases h; done) | (dsimp only [kk_cP, kk_cN] at h) | skip) | (refine hC.same (mm_isName l _ _ _) rfl rfl rfl rfl (Nat.le_refl _) ?_; rintro rs w' ⟨rfl, ⟨rfl, s1⟩ | rfl⟩) | (refine hC.same (mm_bad l _ _ _ _) rfl rfl rfl rfl (Nat.le_refl _) ?_; rintro rs w' ⟨rfl, xb, rfl⟩)
  all_goals first | exact Or.inl rfl | exact Or.inr rfl | exact ⟨_, rfl, mm_bad_p hh _ _, Or.inr rfl⟩ | skip
  refine mm_find7 l hC (Nat.le_refl _) _ _ hb hm hbm rfl rfl rfl ?_
  have hx := mm_fi_b (f := A 7) (w := F 12) (b := b) m.toNat 0 (by omega)
  generalize mm_fi (A 7) (F 12) b m.toNat 0 = x at hx ⊢
  repeat' first | refine hC.gn [] _ rfl rfl ?_ | refine And.intro ?_ ?_ | exact True.intro | refine hC.iadd [] rfl rfl (by first | omega | (simp only [Int.reduceToNat] at *; omega)) ?_ | refine hC.isub [] rfl rfl (by first | omega | (simp only [Int.reduceToNat] at *; omega)) ?_ | refine hC.imul [] rfl rfl (by first | omega | (simp only [Int.reduceToNat] at *; omega)) ?_ | refine hC.iinc [] rfl rfl rfl rfl (by first | omega | (simp only [Int.reduceToNat] at *; omega)) ?_ | refine hC.go [] _ rfl rfl ?_ | (intro h; first | exact (h rfl).elim | (exfalso; cases h; done) | (dsimp only [kk_cP, kk_cN] at h) | skip) | (refine hC.same (mm_bad l _ (kk_up F 13 x) A _) rfl rfl rfl rfl (Nat.le_refl _) ?_; rintro rs w' ⟨rfl, xb, rfl⟩) | (refine hC.same (mm_go l _ (kk_up F 13 x) A hh.1 hh.2.1 hh.2.2.1) rfl rfl rfl rfl (Nat.le_refl _) ?_; rintro rs w' ⟨rfl, F', rfl, hrd⟩)
  all_goals first | exact Or.inl rfl | exact Or.inr rfl | exact ⟨_, rfl, (mm_p.told hh _).tr (mm_bad_p (hh.told _) _ _), Or.inr rfl⟩ | skip
  have e13 : F' 13 = x := hrd.1 13 (by decide) (by decide) (by decide) (by decide) (by decide) (by decide)
  have q := hrd.p (hh.told x)
  exact ⟨F', rfl, (mm_p.told hh _).tr q.1, Or.inl ⟨rfl, ⟨by omega, by omega⟩, fun g => q.2 (by omega)⟩⟩
set_option maxRecDepth 100000 in
set_option maxHeartbeats 4000000 in
theorem mm_keep (l : Launch) (d : Nat) (F : Nat → Int) (A : Nat → Nat → Int) (a g : Int) (h : 0 ≤ a ∧ a < 120) (hg : g = 0 ∨ g = 1) : kk_Ctr l d en_t_X11_keep [(4, 0), (0, a), (0, g)] (mm_w F A) (fun rs w' => rs = [(0, g)] ∧ ((g = 0 ∧ w' = mm_w F A) ∨ (g = 1 ∧ w' = mm_w F (mm_up A 14 (kk_up (A 14) a.toNat (F 13)))))) := by
  refine kk_ctr en_hM (List.mem_of_getElem? (i := 275) rfl) rfl (Nat.le_of_ble_eq_true rfl) (fun K hC => ?_)
  repeat' first | refine hC.gn [] _ rfl rfl ?_ | refine And.intro ?_ ?_ | exact True.intro | refine hC.iadd [] rfl rfl (by first | omega | (simp only [Int.reduceToNat] at *; omega)) ?_ | refine hC.isub [] rfl rfl (by first | omega | (simp only [Int.reduceToNat] at *; omega)) ?_ | refine hC.imul [] rfl rfl (by first | omega | (simp only [Int.reduceToNat] at *; omega)) ?_ | refine hC.iinc [] rfl rfl rfl rfl (by first | omega | (simp only [Int.reduceToNat] at *; omega)) ?_ | refine hC.go [] _ rfl rfl ?_ | (intro h; first | exact (h rfl).elim | (exfalso; cases h; done) | (dsimp only [kk_cP, kk_cN] at h) | skip)
  all_goals first | rfl | omega | exact Or.inl ⟨by omega, rfl⟩ | exact Or.inr ⟨by omega, rfl⟩
set_option maxRecDepth 100000 in
set_option maxHeartbeats 4000000 in
theorem mm_whatHere (l : Launch) (d : Nat) (F : Nat → Int) (A : Nat → Nat → Int) : kk_Ctr l (d + 3) en_t_X11_whatHere [(4, 0)] (mm_w F A) (fun rs w' => w' = mm_w F A ∧ ∃ x, rs = [(0, x)] ∧ 0 ≤ x ∧ x ≤ 4) := by
  refine kk_ctr en_hM (List.mem_of_getElem? (i := 270) rfl) rfl (Nat.le_of_ble_eq_true rfl) (fun K hC => ?_)
  repeat' first | refine hC.gn [] _ rfl rfl ?_ | refine And.intro ?_ ?_ | exact True.intro | refine hC.iadd [] rfl rfl (by first | omega | (simp only [Int.reduceToNat] at *; omega)) ?_ | refine hC.isub [] rfl rfl (by first | omega | (simp only [Int.reduceToNat] at *; omega)) ?_ | refine hC.imul [] rfl rfl (by first | omega | (simp only [Int.reduceToNat] at *; omega)) ?_ | refine hC.iinc [] rfl rfl rfl rfl (by first | omega | (simp only [Int.reduceToNat] at *; omega)) ?_ | refine hC.go [] _ rfl rfl ?_ | (intro h; first | exact (h rfl).elim | (exfalso; cases h; done) | (dsimp only [kk_cP, kk_cN] at h) | skip) | (refine hC.same (mm_isWord l _ _ _ _) rfl rfl rfl rfl (Nat.le_refl _) ?_; rintro rs w' ⟨rfl, ⟨rfl, s1⟩ | rfl⟩)
  all_goals first | rfl | exact ⟨_, rfl, by decide, by decide⟩
set_option maxRecDepth 100000 in
set_option maxHeartbeats 4000000 in
theorem mm_readDoes (l : Launch) (d : Nat) (F : Nat → Int) (A : Nat → Nat → Int) (a : Int) (h : mm_ok F) (hc : mm_cn (A 2)) (ha : 0 ≤ a ∧ a ≤ 117) (hx : mm_fi (A 7) (F 12) 8 (A 2 1).toNat 0 ≠ -1) : kk_Ctr l (d + 4) en_t_X11_readDoes [(4, 0), (0, a)] (mm_w F A) (fun rs w' => ∃ F' f, w' = mm_w F' (mm_up A 14 f) ∧ mm_p F F' ∧ (∀ k : Nat, (k : Int) ≠ a + 1 → (k : Int) ≠ a + 2 → f k = A 14 k) ∧ ((rs = [(0, 1)] ∧ 0 ≤ f (a + 1).toNat ∧ f (a + 1).toNat ≤ 3 ∧ 0 ≤ f (a + 2).toNat ∧ f (a + 2).toNat ≤ 7) ∨ rs = [(0, 0)])) := by
  have hh := h
  obtain ⟨c1, c2, c3, c4, c5, c6⟩ := id hc
  refine kk_ctr en_hM (List.mem_of_getElem? (i := 273) rfl) rfl (Nat.le_of_ble_eq_true rfl) (fun K hC => ?_)
  have k27 : ∀ (f : Nat → Int), (∀ k : Nat, (k : Int) ≠ a + 1 → f k = A 14 k) → 0 ≤ f (a + 1).toNat ∧ f (a + 1).toNat ≤ 3 → K 27 [(0, (4, 0)), (1, (0, a))] [] (mm_w F (mm_up A 14 f)) := by
    intro f hf hf1
    repeat' first | refine hC.gn [] _ rfl rfl ?_ | refine And.intro ?_ ?_ | exact True.intro | refine hC.iadd [] rfl rfl (by first | omega | (simp only [Int.reduceToNat] at *; omega)) ?_ | refine hC.isub [] rfl rfl (by first | omega | (simp only [Int.reduceToNat] at *; omega)) ?_ | refine hC.imul [] rfl rfl (by first | omega | (simp only [Int.reduceToNat] at *; omega)) ?_ | refine hC.iinc [] rfl rfl rfl rfl (by first | omega | (simp only [Int.reduceToNat] at *; omega)) ?_ | refine hC.go [] _ rfl rfl ?_ | (intro h; first | exact (h rfl).elim | (exfalso; cases h; done) | (dsimp only [kk_cP, kk_cN] at h) | skip)
    refine hC.same (mm_go l _ F (mm_up A 14 f) hh.1 hh.2.1 hh.2.2.1) rfl rfl rfl rfl (Nat.le_refl _) ?_
    rintro rs w' ⟨rfl, F1, rfl, hrd1⟩
    have p1 := (hrd1.p hh).1
    repeat' first | refine hC.gn [] _ rfl rfl ?_ | refine And.intro ?_ ?_ | exact True.intro | refine hC.iadd [] rfl rfl (by first | omega | (simp only [Int.reduceToNat] at *; omega)) ?_ | refine hC.isub [] rfl rfl (by first | omega | (simp only [Int.reduceToNat] at *; omega)) ?_ | refine hC.imul [] rfl rfl (by first | omega | (simp only [Int.reduceToNat] at *; omega)) ?_ | refine hC.iinc [] rfl rfl rfl rfl (by first | omega | (simp only [Int.reduceToNat] at *; omega)) ?_ | refine hC.go [] _ rfl rfl ?_ | (intro h; first | exact (h rfl).elim | (exfalso; cases h; done) | (dsimp only [kk_cP, kk_cN] at h) | skip) | (refine hC.same (mm_isWord l _ _ _ _) rfl rfl rfl rfl (Nat.le_refl _) ?_; rintro rs w' ⟨rfl, ⟨rfl, s1⟩ | rfl⟩) | (refine hC.same (mm_bad l _ _ _ _) rfl rfl rfl rfl (Nat.le_refl _) ?_; rintro rs w' ⟨rfl, xb, rfl⟩)
    all_goals first | exact Or.inl rfl | exact Or.inr rfl | exact ⟨_, f, rfl, p1.tr (mm_bad_p p1.2.1 _ _), fun k q1 _ => hf k q1, Or.inr rfl⟩ | skip
    refine hC.same (mm_go l _ F1 (mm_up A 14 f) p1.2.1.1 p1.2.1.2.1 p1.2.1.2.2.1) rfl rfl rfl rfl (Nat.le_refl _) ?_
    rintro rs w' ⟨rfl, F2, rfl, hrd2⟩
    have p2 := (hrd2.p p1.2.1).1
    repeat' first | refine hC.gn [] _ rfl rfl ?_ | refine And.intro ?_ ?_ | exact True.intro | refine hC.iadd [] rfl rfl (by first | omega | (simp only [Int.reduceToNat] at *; omega)) ?_ | refine hC.isub [] rfl rfl (by first | omega | (simp only [Int.reduceToNat] at *; omega)) ?_ | refine hC.imul [] rfl rfl (by first | omega | (simp only [Int.reduceToNat] at *; omega)) ?_ | refine hC.iinc [] rfl rfl rfl rfl (by first | omega | (simp only [Int.reduceToNat] at *; omega)) ?_ | refine hC.go [] _ rfl rfl ?_ | (intro h; first | exact (h rfl).elim | (exfalso; cases h; done) | (dsimp only [kk_cP, kk_cN] at h) | skip)
    all_goals first | omega | skip
    refine hC.same (mm_readNamed l _ F2 (mm_up A 14 f) 0 (A 2 0) p2.2.1 (by omega) (by omega) (by omega)) rfl rfl rfl rfl (Nat.le_refl _) ?_
    rintro rs w' ⟨F3, rfl, p3, ⟨rfl, ⟨n1, n2⟩, n3⟩ | rfl⟩
    · repeat' first | refine hC.gn [] _ rfl rfl ?_ | refine And.intro ?_ ?_ | exact True.intro | refine hC.iadd [] rfl rfl (by first | omega | (simp only [Int.reduceToNat] at *; omega)) ?_ | refine hC.isub [] rfl rfl (by first | omega | (simp only [Int.reduceToNat] at *; omega)) ?_ | refine hC.imul [] rfl rfl (by first | omega | (simp only [Int.reduceToNat] at *; omega)) ?_ | refine hC.iinc [] rfl rfl rfl rfl (by first | omega | (simp only [Int.reduceToNat] at *; omega)) ?_ | refine hC.go [] _ rfl rfl ?_ | (intro h; first | exact (h rfl).elim | (exfalso; cases h; done) | (dsimp only [kk_cP, kk_cN] at h) | skip)
      refine hC.same (mm_keep l _ F3 (mm_up A 14 f) (a + 2) 1 (by omega) (Or.inr rfl)) rfl rfl rfl rfl (Nat.le_refl _) ?_
      rintro rs w' ⟨rfl, ⟨g0, -⟩ | ⟨-, rfl⟩⟩
      · exact absurd g0 (by decide)
      repeat' first | refine hC.gn [] _ rfl rfl ?_ | refine And.intro ?_ ?_ | exact True.intro | refine hC.iadd [] rfl rfl (by first | omega | (simp only [Int.reduceToNat] at *; omega)) ?_ | refine hC.isub [] rfl rfl (by first | omega | (simp only [Int.reduceToNat] at *; omega)) ?_ | refine hC.imul [] rfl rfl (by first | omega | (simp only [Int.reduceToNat] at *; omega)) ?_ | refine hC.iinc [] rfl rfl rfl rfl (by first | omega | (simp only [Int.reduceToNat] at *; omega)) ?_ | refine hC.go [] _ rfl rfl ?_ | (intro h; first | exact (h rfl).elim | (exfalso; cases h; done) | (dsimp only [kk_cP, kk_cN] at h) | skip)
      all_goals first | exact Or.inl rfl | exact Or.inr rfl | skip
      refine ⟨F3, kk_up f (a + 2).toNat (F3 13), rfl, (p1.tr p2).tr p3, fun k q1 q2 => (kk_up_ne (by omega)).trans (hf k q1), Or.inl ⟨rfl, ?_, ?_, ?_, ?_⟩⟩
      · rw [kk_up_ne (by omega)]; exact hf1.1
      · rw [kk_up_ne (by omega)]; exact hf1.2
      · rw [kk_up_eq]; exact n1
      · rw [kk_up_eq]; omega
    · repeat' first | refine hC.gn [] _ rfl rfl ?_ | refine And.intro ?_ ?_ | exact True.intro | refine hC.iadd [] rfl rfl (by first | omega | (simp only [Int.reduceToNat] at *; omega)) ?_ | refine hC.isub [] rfl rfl (by first | omega | (simp only [Int.reduceToNat] at *; omega)) ?_ | refine hC.imul [] rfl rfl (by first | omega | (simp only [Int.reduceToNat] at *; omega)) ?_ | refine hC.iinc [] rfl rfl rfl rfl (by first | omega | (simp only [Int.reduceToNat] at *; omega)) ?_ | refine hC.go [] _ rfl rfl ?_ | (intro h; first | exact (h rfl).elim | (exfalso; cases h; done) | (dsimp only [kk_cP, kk_cN] at h) | skip)
      refine hC.same (mm_keep l _ F3 (mm_up A 14 f) (a + 2) 0 (by omega) (Or.inl rfl)) rfl rfl rfl rfl (Nat.le_refl _) ?_
      rintro rs w' ⟨rfl, ⟨-, rfl⟩ | ⟨g0, -⟩⟩
      · repeat' first | refine hC.gn [] _ rfl rfl ?_ | refine And.intro ?_ ?_ | exact True.intro | refine hC.iadd [] rfl rfl (by first | omega | (simp only [Int.reduceToNat] at *; omega)) ?_ | refine hC.isub [] rfl rfl (by first | omega | (simp only [Int.reduceToNat] at *; omega)) ?_ | refine hC.imul [] rfl rfl (by first | omega | (simp only [Int.reduceToNat] at *; omega)) ?_ | refine hC.iinc [] rfl rfl rfl rfl (by first | omega | (simp only [Int.reduceToNat] at *; omega)) ?_ | refine hC.go [] _ rfl rfl ?_ | (intro h; first | exact (h rfl).elim | (exfalso; cases h; done) | (dsimp only [kk_cP, kk_cN] at h) | skip)
        all_goals first | exact Or.inl rfl | exact Or.inr rfl | exact ⟨F3, f, rfl, (p1.tr p2).tr p3, fun k q1 _ => hf k q1, Or.inr rfl⟩
      · exact absurd g0 (by decide)
  repeat' first | refine hC.gn [27] _ rfl rfl ?_ | refine And.intro ?_ ?_ | exact True.intro | refine hC.iadd [27] rfl rfl (by first | omega | (simp only [Int.reduceToNat] at *; omega)) ?_ | refine hC.isub [27] rfl rfl (by first | omega | (simp only [Int.reduceToNat] at *; omega)) ?_ | refine hC.imul [27] rfl rfl (by first | omega | (simp only [Int.reduceToNat] at *; omega)) ?_ | refine hC.iinc [27] rfl rfl rfl rfl (by first | omega | (simp only [Int.reduceToNat] at *; omega)) ?_ | refine hC.go [27] _ rfl rfl ?_ | (intro h; first | exact (h rfl).elim | (exfalso; cases h; done) | (dsimp only [kk_cP, kk_cN] at h) | skip)
  all_goals first | omega | skip
  refine mm_find7 l hC (Nat.le_refl _) _ _ (by decide) c3 (show (8 : Int) + A 2 1 ≤ 22 by omega) rfl rfl rfl ?_
  have hb := mm_fi_b (f := A 7) (w := F 12) (b := 8) (A 2 1).toNat 0 (by omega)
  repeat' first | refine hC.gn [27] _ rfl rfl ?_ | refine And.intro ?_ ?_ | exact True.intro | refine hC.iadd [27] rfl rfl (by first | omega | (simp only [Int.reduceToNat] at *; omega)) ?_ | refine hC.isub [27] rfl rfl (by first | omega | (simp only [Int.reduceToNat] at *; omega)) ?_ | refine hC.imul [27] rfl rfl (by first | omega | (simp only [Int.reduceToNat] at *; omega)) ?_ | refine hC.iinc [27] rfl rfl rfl rfl (by first | omega | (simp only [Int.reduceToNat] at *; omega)) ?_ | refine hC.go [27] _ rfl rfl ?_ | (intro h; first | exact (h rfl).elim | (exfalso; cases h; done) | (dsimp only [kk_cP, kk_cN] at h) | skip)
  all_goals first | omega | skip
  exact k27 (kk_up (A 14) (a + 1).toNat (mm_fi (A 7) (F 12) 8 (A 2 1).toNat 0)) (fun k hk => kk_up_ne (by omega)) (by rw [kk_up_eq]; omega)
/-- a line of a book is well read -/
def mm_ln (f : Nat → Int) (j : Nat) : Prop := (0 ≤ f (3 * j) ∧ f (3 * j) ≤ 4) ∧ (f (3 * j) = 1 → 0 ≤ f (3 * j + 1) ∧ f (3 * j + 1) ≤ 9) ∧ (f (3 * j) = 2 → 0 ≤ f (3 * j + 1) ∧ f (3 * j + 1) ≤ 3 ∧ 0 ≤ f (3 * j + 2) ∧ f (3 * j + 2) ≤ 7)
def mm_QB (F : Nat → Int) (A : Nat → Nat → Int) : List en_V → List kk_C → Prop := fun rs w' => ∃ F' f, w' = mm_w F' (mm_up A 14 f) ∧ mm_p F F' ∧ (∀ k : Nat, (k : Int) < 3 * F 40 → f k = A 14 k) ∧ ((rs = [(0, 1)] ∧ F 40 < 40 ∧ mm_ln f (F 40).toNat) ∨ rs = [(0, 0)])
set_option maxRecDepth 100000 in
set_option maxHeartbeats 4000000 in
theorem mm_readBookLine (l : Launch) (d : Nat) (F : Nat → Int) (A : Nat → Nat → Int) (h : mm_ok F) (hc : mm_cn (A 2)) (h4 : 0 ≤ F 40 ∧ F 40 ≤ 40) : kk_Ctr l (d + 5) en_t_X11_readBookLine [(4, 0)] (mm_w F A) (mm_QB F A) := by
  have hh := h
  obtain ⟨c1, c2, c3, c4, c5, c6⟩ := id hc
  refine kk_ctr en_hM (List.mem_of_getElem? (i := 248) rfl) rfl (Nat.le_of_ble_eq_true rfl) (fun K hC => ?_)
  have k81 : ∀ (f : Nat → Int) (x : Int), (∀ k : Nat, (k : Int) < 3 * F 40 → f k = A 14 k) → f (3 * F 40).toNat = x → 0 ≤ x ∧ x ≤ 4 → F 40 < 40 → (x = 2 → mm_fi (A 7) (F 12) 8 (A 2 1).toNat 0 ≠ -1) → K 81 [(0, (4, 0)), (1, (0, x)), (2, (0, 3 * F 40))] [] (mm_w F (mm_up A 14 f)) := by
    intro f x hf hfx x4 h40 hx2
    have ej : (3 * F 40).toNat = 3 * (F 40).toNat := by omega
    have ej1 : (3 * F 40 + 1).toNat = 3 * (F 40).toNat + 1 := by omega
    have ej2 : (3 * F 40 + 2).toNat = 3 * (F 40).toNat + 2 := by omega
    have hfx' : f (3 * (F 40).toNat) = x := by rw [← ej]; exact hfx
    repeat' first | refine hC.gn [] _ rfl rfl ?_ | refine And.intro ?_ ?_ | exact True.intro | refine hC.iadd [] rfl rfl (by first | omega | (simp only [Int.reduceToNat] at *; omega)) ?_ | refine hC.isub [] rfl rfl (by first | omega | (simp only [Int.reduceToNat] at *; omega)) ?_ | refine hC.imul [] rfl rfl (by first | omega | (simp only [Int.reduceToNat] at *; omega)) ?_ | refine hC.iinc [] rfl rfl rfl rfl (by first | omega | (simp only [Int.reduceToNat] at *; omega)) ?_ | refine hC.go [] _ rfl rfl ?_ | (intro h; first | exact (h rfl).elim | (exfalso; cases h; done) | (dsimp only [kk_cP, kk_cN] at h) | skip)
    all_goals first | omega | skip
    · -- another line than of a deed
      refine hC.same (mm_go l _ F (mm_up A 14 f) hh.1 hh.2.1 hh.2.2.1) rfl rfl rfl rfl (Nat.le_refl _) ?_
      rintro rs w' ⟨rfl, F1, rfl, hrd1⟩
      have p1 := (hrd1.p hh).1
      have xn2 : x ≠ 2 := by assumption
      -- a number or name is kept, then the end
      have kp : ∀ (F2 : Nat → Int) (g : Int) (pc : Nat), mm_p F F2 → (pc = 160 ∨ pc = 195 ∨ pc = 225) → (g = 0 ∨ (g = 1 ∧ (x = 1 → 0 ≤ F2 13 ∧ F2 13 ≤ 9))) → K pc [(0, (4, 0)), (1, (0, x)), (2, (0, 3 * F 40))] [(0, g), (0, 3 * F 40 + 1), (4, 0)] (mm_w F2 (mm_up A 14 f)) := by
        intro F2 g pc p2 hpc hg
        have fin : ∀ (B : Nat → Nat → Int) (f' : Nat → Int), B = mm_up A 14 f' → (∀ k : Nat, (k : Int) < 3 * F 40 → f' k = A 14 k) → mm_ln f' (F 40).toNat → ∀ rs w', (∃ F', w' = mm_w F' B ∧ mm_p F2 F' ∧ ((rs = [(0, 1)] ∧ F2 7 = 4) ∨ rs = [(0, 0)])) → mm_QB F A rs w' := by
          rintro B f' rfl q1 q2 rs w' ⟨F', rfl, p3, ⟨rfl, -⟩ | rfl⟩
          · exact ⟨F', f', rfl, p2.tr p3, q1, Or.inl ⟨rfl, h40, q2⟩⟩
          · exact ⟨F', f', rfl, p2.tr p3, q1, Or.inr rfl⟩
        rcases hg with rfl | ⟨rfl, hg⟩
        · rcases hpc with rfl | rfl | rfl
          all_goals
            refine hC.same (mm_keep l _ F2 (mm_up A 14 f) (3 * F 40 + 1) 0 (by omega) (Or.inl rfl)) rfl rfl rfl rfl (Nat.le_refl _) ?_
            rintro rs w' ⟨rfl, ⟨-, rfl⟩ | ⟨g0, -⟩⟩
            · repeat' first | refine hC.gn [] _ rfl rfl ?_ | refine And.intro ?_ ?_ | exact True.intro | refine hC.iadd [] rfl rfl (by first | omega | (simp only [Int.reduceToNat] at *; omega)) ?_ | refine hC.isub [] rfl rfl (by first | omega | (simp only [Int.reduceToNat] at *; omega)) ?_ | refine hC.imul [] rfl rfl (by first | omega | (simp only [Int.reduceToNat] at *; omega)) ?_ | refine hC.iinc [] rfl rfl rfl rfl (by first | omega | (simp only [Int.reduceToNat] at *; omega)) ?_ | refine hC.go [] _ rfl rfl ?_ | (intro h; first | exact (h rfl).elim | (exfalso; cases h; done) | (dsimp only [kk_cP, kk_cN] at h) | skip)
              all_goals first | exact Or.inl rfl | exact Or.inr rfl | exact ⟨F2, f, rfl, p2, hf, Or.inr rfl⟩
            · exact absurd g0 (by decide)
        · have hl : mm_ln (kk_up f (3 * F 40 + 1).toNat (F2 13)) (F 40).toNat := by
            rw [ej1]
            unfold mm_ln
            rw [kk_up_ne (by omega), hfx', kk_up_eq]
            exact ⟨x4, hg, fun q => absurd q xn2⟩
          rcases hpc with rfl | rfl | rfl
          all_goals
            refine hC.same (mm_keep l _ F2 (mm_up A 14 f) (3 * F 40 + 1) 1 (by omega) (Or.inr rfl)) rfl rfl rfl rfl (Nat.le_refl _) ?_
            rintro rs w' ⟨rfl, ⟨g0, -⟩ | ⟨-, rfl⟩⟩
            · exact absurd g0 (by decide)
            · repeat' first | refine hC.gn [] _ rfl rfl ?_ | refine And.intro ?_ ?_ | exact True.intro | refine hC.iadd [] rfl rfl (by first | omega | (simp only [Int.reduceToNat] at *; omega)) ?_ | refine hC.isub [] rfl rfl (by first | omega | (simp only [Int.reduceToNat] at *; omega)) ?_ | refine hC.imul [] rfl rfl (by first | omega | (simp only [Int.reduceToNat] at *; omega)) ?_ | refine hC.iinc [] rfl rfl rfl rfl (by first | omega | (simp only [Int.reduceToNat] at *; omega)) ?_ | refine hC.go [] _ rfl rfl ?_ | (intro h; first | exact (h rfl).elim | (exfalso; cases h; done) | (dsimp only [kk_cP, kk_cN] at h) | skip)
              refine hC.same (mm_readEnd l _ F2 (mm_up A 14 (kk_up f (3 * F 40 + 1).toNat (F2 13))) p2.2.1) rfl rfl rfl rfl (Nat.le_refl _) ?_
              intro rs w' hq
              have hQ := fin _ _ rfl (fun k hk => (kk_up_ne (by omega)).trans (hf k hk)) hl rs w' hq
              rcases hq with ⟨F', rfl, p3, ⟨rfl, s4⟩ | rfl⟩
              · repeat' first | refine hC.gn [] _ rfl rfl ?_ | refine And.intro ?_ ?_ | exact True.intro | refine hC.iadd [] rfl rfl (by first | omega | (simp only [Int.reduceToNat] at *; omega)) ?_ | refine hC.isub [] rfl rfl (by first | omega | (simp only [Int.reduceToNat] at *; omega)) ?_ | refine hC.imul [] rfl rfl (by first | omega | (simp only [Int.reduceToNat] at *; omega)) ?_ | refine hC.iinc [] rfl rfl rfl rfl (by first | omega | (simp only [Int.reduceToNat] at *; omega)) ?_ | refine hC.go [] _ rfl rfl ?_ | (intro h; first | exact (h rfl).elim | (exfalso; cases h; done) | (dsimp only [kk_cP, kk_cN] at h) | skip)
                all_goals first | exact Or.inl rfl | exact Or.inr rfl | exact hQ
              · repeat' first | refine hC.gn [] _ rfl rfl ?_ | refine And.intro ?_ ?_ | exact True.intro | refine hC.iadd [] rfl rfl (by first | omega | (simp only [Int.reduceToNat] at *; omega)) ?_ | refine hC.isub [] rfl rfl (by first | omega | (simp only [Int.reduceToNat] at *; omega)) ?_ | refine hC.imul [] rfl rfl (by first | omega | (simp only [Int.reduceToNat] at *; omega)) ?_ | refine hC.iinc [] rfl rfl rfl rfl (by first | omega | (simp only [Int.reduceToNat] at *; omega)) ?_ | refine hC.go [] _ rfl rfl ?_ | (intro h; first | exact (h rfl).elim | (exfalso; cases h; done) | (dsimp only [kk_cP, kk_cN] at h) | skip)
                all_goals first | exact Or.inl rfl | exact Or.inr rfl | exact hQ
      repeat' first | refine hC.gn [160, 195, 225] _ rfl rfl ?_ | refine And.intro ?_ ?_ | exact True.intro | refine hC.iadd [160, 195, 225] rfl rfl (by first | omega | (simp only [Int.reduceToNat] at *; omega)) ?_ | refine hC.isub [160, 195, 225] rfl rfl (by first | omega | (simp only [Int.reduceToNat] at *; omega)) ?_ | refine hC.imul [160, 195, 225] rfl rfl (by first | omega | (simp only [Int.reduceToNat] at *; omega)) ?_ | refine hC.iinc [160, 195, 225] rfl rfl rfl rfl (by first | omega | (simp only [Int.reduceToNat] at *; omega)) ?_ | refine hC.go [160, 195, 225] _ rfl rfl ?_ | (intro h; first | exact (h rfl).elim | (exfalso; cases h; done) | (dsimp only [kk_cP, kk_cN] at h) | skip) | (refine hC.same (mm_readNumber l _ F1 (mm_up A 14 f) 0 999 p1.2.1) rfl rfl rfl rfl (Nat.le_refl _) ?_; rintro rs w' ⟨F2, rfl, p2, ⟨rfl, ⟨n1, n2⟩, n3⟩ | rfl⟩) | (refine hC.same (mm_readNumber l _ F1 (mm_up A 14 f) 1 30 p1.2.1) rfl rfl rfl rfl (Nat.le_refl _) ?_; rintro rs w' ⟨F2, rfl, p2, ⟨rfl, ⟨n1, n2⟩, n3⟩ | rfl⟩) | (refine hC.same (mm_readNamed l _ F1 (mm_up A 14 f) 12 (A 2 2) p1.2.1 (by omega) (by omega) (by omega)) rfl rfl rfl rfl (Nat.le_refl _) ?_; rintro rs w' ⟨F2, rfl, p2, ⟨rfl, ⟨n1, n2⟩, n3⟩ | rfl⟩)
      all_goals first | omega | exact kp F2 1 _ (p1.tr p2) (by first | exact Or.inl rfl | exact Or.inr (Or.inl rfl) | exact Or.inr (Or.inr rfl)) (Or.inr ⟨rfl, fun q => by omega⟩) | exact kp F2 0 _ (p1.tr p2) (by first | exact Or.inl rfl | exact Or.inr (Or.inl rfl) | exact Or.inr (Or.inr rfl)) (Or.inl rfl) | skip
      all_goals
        have hl : mm_ln f (F 40).toNat := by
          unfold mm_ln
          rw [hfx']
          exact ⟨x4, fun q => absurd q (by omega), fun q => absurd q (by omega)⟩
        refine hC.same (mm_readEnd l _ F1 (mm_up A 14 f) p1.2.1) rfl rfl rfl rfl (Nat.le_refl _) ?_
        rintro rs w' ⟨F2, rfl, p2, ⟨rfl, s4⟩ | rfl⟩
        · repeat' first | refine hC.gn [] _ rfl rfl ?_ | refine And.intro ?_ ?_ | exact True.intro | refine hC.iadd [] rfl rfl (by first | omega | (simp only [Int.reduceToNat] at *; omega)) ?_ | refine hC.isub [] rfl rfl (by first | omega | (simp only [Int.reduceToNat] at *; omega)) ?_ | refine hC.imul [] rfl rfl (by first | omega | (simp only [Int.reduceToNat] at *; omega)) ?_ | refine hC.iinc [] rfl rfl rfl rfl (by first | omega | (simp only [Int.reduceToNat] at *; omega)) ?_ | refine hC.go [] _ rfl rfl ?_ | (intro h; first | exact (h rfl).elim | (exfalso; cases h; done) | (dsimp only [kk_cP, kk_cN] at h) | skip)
          all_goals first | exact Or.inl rfl | exact Or.inr rfl | exact ⟨F2, f, rfl, p1.tr p2, hf, Or.inl ⟨rfl, h40, hl⟩⟩
        · repeat' first | refine hC.gn [] _ rfl rfl ?_ | refine And.intro ?_ ?_ | exact True.intro | refine hC.iadd [] rfl rfl (by first | omega | (simp only [Int.reduceToNat] at *; omega)) ?_ | refine hC.isub [] rfl rfl (by first | omega | (simp only [Int.reduceToNat] at *; omega)) ?_ | refine hC.imul [] rfl rfl (by first | omega | (simp only [Int.reduceToNat] at *; omega)) ?_ | refine hC.iinc [] rfl rfl rfl rfl (by first | omega | (simp only [Int.reduceToNat] at *; omega)) ?_ | refine hC.go [] _ rfl rfl ?_ | (intro h; first | exact (h rfl).elim | (exfalso; cases h; done) | (dsimp only [kk_cP, kk_cN] at h) | skip)
          all_goals first | exact Or.inl rfl | exact Or.inr rfl | exact ⟨F2, f, rfl, p1.tr p2, hf, Or.inr rfl⟩
    · have x2 : x = 2 := by assumption
      refine hC.same (mm_readDoes l _ F (mm_up A 14 f) (3 * F 40) hh hc (by omega) (hx2 x2)) rfl rfl rfl rfl (Nat.le_refl _) ?_
      rintro rs w' ⟨F1, f1, rfl, p1, hf1, ⟨rfl, d1, d2, d3, d4⟩ | rfl⟩
      · have hl : mm_ln f1 (F 40).toNat := by
          have e0 : f1 (3 * (F 40).toNat) = 2 := (hf1 _ (by omega) (by omega)).trans (hfx'.trans x2)
          rw [ej1] at d1 d2
          rw [ej2] at d3 d4
          unfold mm_ln
          rw [e0]
          exact ⟨by decide, fun q => absurd q (by decide), fun _ => ⟨d1, d2, d3, d4⟩⟩
        repeat' first | refine hC.gn [] _ rfl rfl ?_ | refine And.intro ?_ ?_ | exact True.intro | refine hC.iadd [] rfl rfl (by first | omega | (simp only [Int.reduceToNat] at *; omega)) ?_ | refine hC.isub [] rfl rfl (by first | omega | (simp only [Int.reduceToNat] at *; omega)) ?_ | refine hC.imul [] rfl rfl (by first | omega | (simp only [Int.reduceToNat] at *; omega)) ?_ | refine hC.iinc [] rfl rfl rfl rfl (by first | omega | (simp only [Int.reduceToNat] at *; omega)) ?_ | refine hC.go [] _ rfl rfl ?_ | (intro h; first | exact (h rfl).elim | (exfalso; cases h; done) | (dsimp only [kk_cP, kk_cN] at h) | skip)
        refine hC.same (mm_readEnd l _ F1 (mm_up (mm_up A 14 f) 14 f1) p1.2.1) rfl rfl rfl rfl (Nat.le_refl _) ?_
        rintro rs w' ⟨F2, rfl, p2, ⟨rfl, s4⟩ | rfl⟩
        · repeat' first | refine hC.gn [] _ rfl rfl ?_ | refine And.intro ?_ ?_ | exact True.intro | refine hC.iadd [] rfl rfl (by first | omega | (simp only [Int.reduceToNat] at *; omega)) ?_ | refine hC.isub [] rfl rfl (by first | omega | (simp only [Int.reduceToNat] at *; omega)) ?_ | refine hC.imul [] rfl rfl (by first | omega | (simp only [Int.reduceToNat] at *; omega)) ?_ | refine hC.iinc [] rfl rfl rfl rfl (by first | omega | (simp only [Int.reduceToNat] at *; omega)) ?_ | refine hC.go [] _ rfl rfl ?_ | (intro h; first | exact (h rfl).elim | (exfalso; cases h; done) | (dsimp only [kk_cP, kk_cN] at h) | skip)
          all_goals first | exact Or.inl rfl | exact Or.inr rfl | exact ⟨F2, f1, rfl, p1.tr p2, fun k hk => (hf1 k (by omega) (by omega)).trans (hf k hk), Or.inl ⟨rfl, h40, hl⟩⟩
        · repeat' first | refine hC.gn [] _ rfl rfl ?_ | refine And.intro ?_ ?_ | exact True.intro | refine hC.iadd [] rfl rfl (by first | omega | (simp only [Int.reduceToNat] at *; omega)) ?_ | refine hC.isub [] rfl rfl (by first | omega | (simp only [Int.reduceToNat] at *; omega)) ?_ | refine hC.imul [] rfl rfl (by first | omega | (simp only [Int.reduceToNat] at *; omega)) ?_ | refine hC.iinc [] rfl rfl rfl rfl (by first | omega | (simp only [Int.reduceToNat] at *; omega)) ?_ | refine hC.go [] _ rfl rfl ?_ | (intro h; first | exact (h rfl).elim | (exfalso; cases h; done) | (dsimp only [kk_cP, kk_cN] at h) | skip)
          all_goals first | exact Or.inl rfl | exact Or.inr rfl | exact ⟨F2, f1, rfl, p1.tr p2, fun k hk => (hf1 k (by omega) (by omega)).trans (hf k hk), Or.inr rfl⟩
      · repeat' first | refine hC.gn [] _ rfl rfl ?_ | refine And.intro ?_ ?_ | exact True.intro | refine hC.iadd [] rfl rfl (by first | omega | (simp only [Int.reduceToNat] at *; omega)) ?_ | refine hC.isub [] rfl rfl (by first | omega | (simp only [Int.reduceToNat] at *; omega)) ?_ | refine hC.imul [] rfl rfl (by first | omega | (simp only [Int.reduceToNat] at *; omega)) ?_ | refine hC.iinc [] rfl rfl rfl rfl (by first | omega | (simp only [Int.reduceToNat] at *; omega)) ?_ | refine hC.go [] _ rfl rfl ?_ | (intro h; first | exact (h rfl).elim | (exfalso; cases h; done) | (dsimp only [kk_cP, kk_cN] at h) | skip)
        all_goals first | exact Or.inl rfl | exact Or.inr rfl | exact ⟨F1, f1, rfl, p1, fun k hk => (hf1 k (by omega) (by omega)).trans (hf k hk), Or.inr rfl⟩
  have k52 : ∀ (x : Int), (0 ≤ x ∧ x ≤ 4) → (x = 2 → mm_fi (A 7) (F 12) 8 (A 2 1).toNat 0 ≠ -1) → K 52 [(0, (4, 0)), (1, (0, x))] [] (mm_w F A) := by
    intro x x0 hx2
    repeat' first | refine hC.gn [81] _ rfl rfl ?_ | refine And.intro ?_ ?_ | exact True.intro | refine hC.iadd [81] rfl rfl (by first | omega | (simp only [Int.reduceToNat] at *; omega)) ?_ | refine hC.isub [81] rfl rfl (by first | omega | (simp only [Int.reduceToNat] at *; omega)) ?_ | refine hC.imul [81] rfl rfl (by first | omega | (simp only [Int.reduceToNat] at *; omega)) ?_ | refine hC.iinc [81] rfl rfl rfl rfl (by first | omega | (simp only [Int.reduceToNat] at *; omega)) ?_ | refine hC.go [81] _ rfl rfl ?_ | (intro h; first | exact (h rfl).elim | (exfalso; cases h; done) | (dsimp only [kk_cP, kk_cN] at h) | skip) | (refine hC.same (mm_bad l _ _ _ _) rfl rfl rfl rfl (Nat.le_refl _) ?_; rintro rs w' ⟨rfl, xb, rfl⟩)
    all_goals first | exact Or.inl rfl | exact Or.inr rfl | omega | exact ⟨_, A 14, rfl, mm_bad_p hh _ _, fun _ _ => rfl, Or.inr rfl⟩ | skip
    exact hC.sub [(0, (4, 0)), (1, (0, x)), (2, (0, 3 * F 40))] ⟨rfl, rfl, rfl, trivial⟩ (k81 (kk_up (A 14) (3 * F 40).toNat x) x (fun k hk => kk_up_ne (by omega)) kk_up_eq x0 (by omega) hx2)
  repeat' first | refine hC.gn [] _ rfl rfl ?_ | refine And.intro ?_ ?_ | exact True.intro | refine hC.iadd [] rfl rfl (by first | omega | (simp only [Int.reduceToNat] at *; omega)) ?_ | refine hC.isub [] rfl rfl (by first | omega | (simp only [Int.reduceToNat] at *; omega)) ?_ | refine hC.imul [] rfl rfl (by first | omega | (simp only [Int.reduceToNat] at *; omega)) ?_ | refine hC.iinc [] rfl rfl rfl rfl (by first | omega | (simp only [Int.reduceToNat] at *; omega)) ?_ | refine hC.go [] _ rfl rfl ?_ | (intro h; first | exact (h rfl).elim | (exfalso; cases h; done) | (dsimp only [kk_cP, kk_cN] at h) | skip)
  refine hC.same (mm_whatHere l _ F A) rfl rfl rfl rfl (Nat.le_refl _) ?_
  rintro rs w' ⟨rfl, x, rfl, x0, x4⟩
  repeat' first | refine hC.gn [52] _ rfl rfl ?_ | refine And.intro ?_ ?_ | exact True.intro | refine hC.iadd [52] rfl rfl (by first | omega | (simp only [Int.reduceToNat] at *; omega)) ?_ | refine hC.isub [52] rfl rfl (by first | omega | (simp only [Int.reduceToNat] at *; omega)) ?_ | refine hC.imul [52] rfl rfl (by first | omega | (simp only [Int.reduceToNat] at *; omega)) ?_ | refine hC.iinc [52] rfl rfl rfl rfl (by first | omega | (simp only [Int.reduceToNat] at *; omega)) ?_ | refine hC.go [52] _ rfl rfl ?_ | (intro h; first | exact (h rfl).elim | (exfalso; cases h; done) | (dsimp only [kk_cP, kk_cN] at h) | skip) | (refine hC.same (mm_isName l _ _ _) rfl rfl rfl rfl (Nat.le_refl _) ?_; rintro rs w' ⟨rfl, ⟨rfl, s1⟩ | rfl⟩) | (refine hC.same (mm_bad l _ _ _ _) rfl rfl rfl rfl (Nat.le_refl _) ?_; rintro rs w' ⟨rfl, xb, rfl⟩)
  all_goals first | exact Or.inl rfl | exact Or.inr rfl | omega | exact hC.sub [(0, (4, 0)), (1, (0, _))] ⟨rfl, rfl, trivial⟩ (k52 x ⟨x0, x4⟩ (fun q => absurd q (by assumption))) | exact ⟨_, A 14, rfl, mm_bad_p hh _ _, fun _ _ => rfl, Or.inr rfl⟩ | skip
  refine mm_find7 l hC (Nat.le_refl _) _ _ (by decide) c3 (show (8 : Int) + A 2 1 ≤ 22 by omega) rfl rfl rfl ?_
  repeat' first | refine hC.gn [52] _ rfl rfl ?_ | refine And.intro ?_ ?_ | exact True.intro | refine hC.iadd [52] rfl rfl (by first | omega | (simp only [Int.reduceToNat] at *; omega)) ?_ | refine hC.isub [52] rfl rfl (by first | omega | (simp only [Int.reduceToNat] at *; omega)) ?_ | refine hC.imul [52] rfl rfl (by first | omega | (simp only [Int.reduceToNat] at *; omega)) ?_ | refine hC.iinc [52] rfl rfl rfl rfl (by first | omega | (simp only [Int.reduceToNat] at *; omega)) ?_ | refine hC.go [52] _ rfl rfl ?_ | (intro h; first | exact (h rfl).elim | (exfalso; cases h; done) | (dsimp only [kk_cP, kk_cN] at h) | skip) | (refine hC.same (mm_bad l _ _ _ _) rfl rfl rfl rfl (Nat.le_refl _) ?_; rintro rs w' ⟨rfl, xb, rfl⟩)
  all_goals first | exact Or.inl rfl | exact Or.inr rfl | omega | exact hC.sub [(0, (4, 0)), (1, (0, _))] ⟨rfl, rfl, trivial⟩ (k52 x ⟨x0, x4⟩ (fun _ => by assumption)) | exact ⟨_, A 14, rfl, mm_bad_p hh _ _, fun _ _ => rfl, Or.inr rfl⟩
