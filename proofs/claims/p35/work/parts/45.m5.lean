/-! THE REFERENCE, 5: a text is begun; a house is read -/
set_option maxRecDepth 100000 in
set_option maxHeartbeats 4000000 in
theorem mm_begin (l : Launch) (d : Nat) (F : Nat → Int) (A : Nat → Nat → Int) (m : Int) (h0 : 0 ≤ F 2) (h1 : F 2 ≤ 940) : kk_Ctr l (d + 2) en_t_X11_begin [(4, 0), (0, m)] (mm_w F A) (fun rs w' => rs = [] ∧ ∃ F', w' = mm_w F' A ∧ mm_ok F' ∧ F' 2 = 0 ∧ F' 0 = 0 ∧ F' 10 = 0 ∧ ∀ k, 12 < k → F' k = F k) := by
  refine kk_ctr en_hM (List.mem_of_getElem? (i := 208) rfl) rfl (Nat.le_of_ble_eq_true rfl) (fun K hC => ?_)
  repeat' first | refine hC.gn [] _ rfl rfl ?_ | refine And.intro ?_ ?_ | exact True.intro | refine hC.iadd [] rfl rfl (by first | omega | (simp only [Int.reduceToNat] at *; omega)) ?_ | refine hC.isub [] rfl rfl (by first | omega | (simp only [Int.reduceToNat] at *; omega)) ?_ | refine hC.imul [] rfl rfl (by first | omega | (simp only [Int.reduceToNat] at *; omega)) ?_ | refine hC.iinc [] rfl rfl rfl rfl (by first | omega | (simp only [Int.reduceToNat] at *; omega)) ?_ | refine hC.go [] _ rfl rfl ?_ | (intro h; first | exact (h rfl).elim | (exfalso; cases h; done) | (dsimp only [kk_cP, kk_cN] at h) | skip)
  refine hC.same (mm_take l _ (kk_up F 0 0) A) rfl rfl rfl rfl (Nat.le_refl _) ?_
  rintro rs w' ⟨rfl, rfl⟩
  repeat' first | refine hC.gn [] _ rfl rfl ?_ | refine And.intro ?_ ?_ | exact True.intro | refine hC.iadd [] rfl rfl (by first | omega | (simp only [Int.reduceToNat] at *; omega)) ?_ | refine hC.isub [] rfl rfl (by first | omega | (simp only [Int.reduceToNat] at *; omega)) ?_ | refine hC.imul [] rfl rfl (by first | omega | (simp only [Int.reduceToNat] at *; omega)) ?_ | refine hC.iinc [] rfl rfl rfl rfl (by first | omega | (simp only [Int.reduceToNat] at *; omega)) ?_ | refine hC.go [] _ rfl rfl ?_ | (intro h; first | exact (h rfl).elim | (exfalso; cases h; done) | (dsimp only [kk_cP, kk_cN] at h) | skip)
  refine hC.same (mm_go l _ (kk_up (kk_up (kk_up (kk_up (kk_up (kk_up F 0 0) 2 0) 3 (F 2)) 4 m) 10 0) 5 0) A (Int.le_refl 0) h0 h1) rfl rfl rfl rfl (Nat.le_refl _) ?_
  rintro rs w' ⟨rfl, F', rfl, hrd⟩
  obtain ⟨g1, g2, g3, g4, g5, g6, g7⟩ := hrd
  have e3 : F' 3 = F 2 := g1 3 (by decide) (by decide) (by decide) (by decide) (by decide) (by decide)
  have g2 : 0 ≤ F' 5 := g2
  have g3 : F' 5 ≤ F 2 := g3
  repeat' first | refine hC.gn [] _ rfl rfl ?_ | refine And.intro ?_ ?_ | exact True.intro | refine hC.iadd [] rfl rfl (by first | omega | (simp only [Int.reduceToNat] at *; omega)) ?_ | refine hC.isub [] rfl rfl (by first | omega | (simp only [Int.reduceToNat] at *; omega)) ?_ | refine hC.imul [] rfl rfl (by first | omega | (simp only [Int.reduceToNat] at *; omega)) ?_ | refine hC.iinc [] rfl rfl rfl rfl (by first | omega | (simp only [Int.reduceToNat] at *; omega)) ?_ | refine hC.go [] _ rfl rfl ?_ | (intro h; first | exact (h rfl).elim | (exfalso; cases h; done) | (dsimp only [kk_cP, kk_cN] at h) | skip)
  · rfl
  · exact ⟨F', rfl, ⟨g2, by omega, by omega, g7⟩, g1 2 (by decide) (by decide) (by decide) (by decide) (by decide) (by decide), g1 0 (by decide) (by decide) (by decide) (by decide) (by decide) (by decide), g1 10 (by decide) (by decide) (by decide) (by decide) (by decide) (by decide), fun k hk => (g1 k (by omega) (by omega) (by omega) (by omega) (by omega) (by omega)).trans ((kk_up_ne (by omega)).trans ((kk_up_ne (by omega)).trans ((kk_up_ne (by omega)).trans ((kk_up_ne (by omega)).trans ((kk_up_ne (by omega)).trans (kk_up_ne (by omega)))))))⟩
-- the counts that are read
def mm_cn (r : Nat → Int) : Prop := 0 ≤ r 0 ∧ r 0 ≤ 8 ∧ 0 ≤ r 1 ∧ r 1 ≤ 4 ∧ 0 ≤ r 2 ∧ r 2 ≤ 10
def mm_nb (n : Nat) (f : Nat → Int) : Prop := ∀ k, k < n → f k ≤ 10460353202
set_option maxRecDepth 100000 in
set_option maxHeartbeats 4000000 in
theorem mm_nb.up {n : Nat} {f : Nat → Int} (h : mm_nb n f) {i : Nat} {v : Int} (hv : v ≤ 10460353202) : mm_nb n (kk_up f i v) := by
  intro k hk
  by_cases hki : k = i
  · rw [hki, kk_up_eq]; exact hv
  · rw [kk_up_ne hki]; exact h k hk
-- a name is sought among those that are read
set_option maxRecDepth 100000 in
set_option maxHeartbeats 4000000 in
theorem mm_find8 (l : Launch) {d d' : Nat} {M : List en_T} {t : en_T} {xc : kk_X} {R : Instr → List en_V → List kk_C → Prop} {K : kk_Q} (hC : kk_Clo l d M t xc R K) (hd : d' + 1 ≤ d) (F : Nat → Int) (A : Nat → Nat → Int) {b m w : Int} {pc nx k : Nat} {i : Instr} {a' : Nat} {L : en_L} {r : List en_V} (hb : 0 ≤ b) (hm : 0 ≤ m) (hbm : b + m ≤ 22) (hf : en_find (en_te t) pc = some (nx, i, a', 4, k)) (hM : M[a']? = some en_t_X11_findIn) (hc : kk_chk (nx, i, a', 4, k) en_t_X11_findIn [(4, 8), (0, b), (0, m), (2, w)] r (mm_w F A) = true)
    (h : ∀ x : Int, -1 ≤ x → x < m → K nx L ((0, x) :: r) (mm_w F A)) : K pc L ((2, w) :: (0, m) :: (0, b) :: (4, 8) :: r) (mm_w F A) := by
  refine hC.call (mm_findIn l d' 22 (A 8) b m w hb hbm (by decide) hm) [8] hf hM rfl hc rfl rfl ⟨rfl, trivial⟩ hd ?_
  rintro rs w' ⟨rfl, x, rfl, h1, h2⟩
  exact h x h1 h2
set_option maxRecDepth 100000 in
set_option maxHeartbeats 4000000 in
theorem mm_readNew (l : Launch) (d : Nat) (F : Nat → Int) (A : Nat → Nat → Int) (s : Int) (h : mm_ok F) (hr : mm_cn (A 3)) (hn : mm_nb 22 (A 8)) (s0 : 0 ≤ s) (s1 : s < 22) : kk_Ctr l (d + 3) en_t_X11_readNew [(4, 0), (0, s)] (mm_w F A) (fun rs w' => ∃ F' f, w' = mm_w F' (mm_up A 8 f) ∧ mm_p F F' ∧ mm_nb 22 f ∧ ((rs = [(0, 1)] ∧ (F' 7 = 4 → F 5 < F' 5)) ∨ rs = [(0, 0)])) := by
  have hh := h
  obtain ⟨c1, c2, c3, c4, c5, c6⟩ := hr
  refine kk_ctr en_hM (List.mem_of_getElem? (i := 287) rfl) rfl (Nat.le_of_ble_eq_true rfl) (fun K hC => ?_)
  repeat' first | refine hC.gn [] _ rfl rfl ?_ | refine And.intro ?_ ?_ | exact True.intro | refine hC.iadd [] rfl rfl (by first | omega | (simp only [Int.reduceToNat] at *; omega)) ?_ | refine hC.isub [] rfl rfl (by first | omega | (simp only [Int.reduceToNat] at *; omega)) ?_ | refine hC.imul [] rfl rfl (by first | omega | (simp only [Int.reduceToNat] at *; omega)) ?_ | refine hC.iinc [] rfl rfl rfl rfl (by first | omega | (simp only [Int.reduceToNat] at *; omega)) ?_ | refine hC.go [] _ rfl rfl ?_ | (intro h; first | exact (h rfl).elim | (exfalso; cases h; done) | (dsimp only [kk_cP, kk_cN] at h) | skip) | (refine hC.same (mm_isName l _ _ _) rfl rfl rfl rfl (Nat.le_refl _) ?_; rintro rs w' ⟨rfl, ⟨rfl, s1⟩ | rfl⟩) | (refine hC.same (mm_bad l _ _ _ _) rfl rfl rfl rfl (Nat.le_refl _) ?_; rintro rs w' ⟨rfl, xb, rfl⟩) | (refine mm_find8 l hC (Nat.le_refl _) _ _ ?_ ?_ ?_ rfl rfl rfl ?_; rotate_left 3; intro x hx1 hx2) | (refine hC.same (mm_go l _ F (mm_up A 8 (kk_up (A 8) s.toNat (F 12))) ?_ ?_ ?_) rfl rfl rfl rfl (Nat.le_refl _) ?_; rotate_left 3; rintro rs w' ⟨rfl, F', rfl, hrd⟩)
  all_goals first | omega | exact hh.1 | exact hh.2.1 | exact hh.2.2.1 | exact Or.inl rfl | exact Or.inr rfl | exact c1 | exact c3 | exact c5 | (show _ + A 3 0 ≤ 22; omega) | (show _ + A 3 1 ≤ 22; omega) | (show _ + A 3 2 ≤ 22; omega) | exact ⟨_, A 8, rfl, mm_bad_p hh _ _, hn, Or.inr rfl⟩ | exact ⟨F', _, rfl, (hrd.p hh).1, hn.up (hh.2.2.2 s1), Or.inl ⟨rfl, fun g => (hrd.p hh).2 (by omega)⟩⟩
