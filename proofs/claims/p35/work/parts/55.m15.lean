/-! THE REFERENCE, 15: what is so of it at all times; deeds, nights, days -/
variable {Bm : Nat → Nat → Int}
def mm_sg (n2 : Int) (g : Nat → Int) : Prop := -1 ≤ g 1 ∧ g 1 ≤ 9 ∧ (∀ c, c < 10 → 0 ≤ g (2 + c) ∧ g (2 + c) ≤ 9) ∧ (0 < n2 → ∃ c, c < 10 ∧ 1 ≤ g (2 + c)) ∧ 0 ≤ g 82 ∧ g 82 ≤ 16
set_option maxRecDepth 100000 in
set_option maxHeartbeats 4000000 in
theorem mm_sg_vS {N g : Nat → Int} {n2 : Int} (h : mm_sg n2 g) (e2 : N 2 = n2) (e : ∀ k, k < 83 → N (67 + k) = g k) : mm_vS N := by
  obtain ⟨h1, h2, h3, h4, h5, h6⟩ := h
  have eb : ∀ c, c < 10 → N (69 + c) = g (2 + c) := fun c hc => by rw [← e (2 + c) (by omega)]; congr 1; omega
  have e1 : N 68 = g 1 := e 1 (by decide)
  have e82 : N 149 = g 82 := e 82 (by decide)
  refine ⟨by omega, by omega, fun c hc => by rw [eb c hc]; exact h3 c hc, fun hq => ?_, by omega, by omega⟩
  obtain ⟨c, q1, q2⟩ := h4 (by omega)
  exact ⟨c, q1, by rw [eb c q1]; exact q2⟩
set_option maxRecDepth 100000 in
set_option maxHeartbeats 4000000 in
theorem mm_vS_sg {N g : Nat → Int} {n2 : Int} (h : mm_vS N) (e2 : N 2 = n2) (e : ∀ k, k < 83 → g k = N (67 + k)) : mm_sg n2 g := by
  obtain ⟨h1, h2, h3, h4, h5, h6⟩ := h
  have eb : ∀ c, c < 10 → g (2 + c) = N (69 + c) := fun c hc => by rw [e (2 + c) (by omega)]; congr 1; omega
  have e1 : g 1 = N 68 := e 1 (by decide)
  have e82 : g 82 = N 149 := e 82 (by decide)
  refine ⟨by omega, by omega, fun c hc => by rw [eb c hc]; exact h3 c hc, fun hq => ?_, by omega, by omega⟩
  obtain ⟨c, q1, q2⟩ := h4 (by omega)
  exact ⟨c, q1, by rw [eb c q1]; exact q2⟩
def mm_ng (g : Nat → Int) : Prop := ∀ k : Nat, k < 60 → (g (4 * k) = 1 ∨ g (4 * k) = 2 ∨ g (4 * k) = 3 → 0 ≤ g (4 * k + 1) ∧ g (4 * k + 1) < k) ∧ (g (4 * k) = 2 ∨ g (4 * k) = 3 → 0 ≤ g (4 * k + 2) ∧ g (4 * k + 2) < k) ∧ (g (4 * k) = 69 ∨ g (4 * k) = 70 → 0 ≤ g (4 * k + 1) ∧ g (4 * k + 1) ≤ 3)
set_option maxRecDepth 100000 in
set_option maxHeartbeats 4000000 in
theorem mm_ng.eq {g g' : Nat → Int} (h : mm_ng g) (e : ∀ k, k < 240 → g' k = g k) : mm_ng g' := by
  intro k hk
  rw [e (4 * k) (by omega), e (4 * k + 1) (by omega), e (4 * k + 2) (by omega)]
  exact h k hk
def mm_Gd (N : Nat → Int) : Prop := mm_rH N ∧ mm_vS N ∧ 0 ≤ N 151 ∧ N 151 < 60 ∧ mm_ng (fun k => N (152 + k))
set_option maxRecDepth 100000 in
set_option maxHeartbeats 4000000 in
theorem mm_rH.eq {N N' : Nat → Int} (h : mm_rH N) (e : ∀ k, k < 67 → N' k = N k) : mm_rH N' := by
  obtain ⟨⟨c1, c2, c3, c4, c5, c6⟩, hs, h5, h4⟩ := h
  exact ⟨⟨by rw [e 0 (by decide)]; exact c1, by rw [e 0 (by decide)]; exact c2, by rw [e 1 (by decide)]; exact c3, by rw [e 1 (by decide)]; exact c4, by rw [e 2 (by decide)]; exact c5, by rw [e 2 (by decide)]; exact c6⟩, fun c hc => by rw [e (5 + c) (by omega)]; exact hs c hc, by rw [e 2 (by decide), e 5 (by decide)]; exact h5, by rw [e 4 (by decide)]; exact h4⟩
set_option maxRecDepth 100000 in
set_option maxHeartbeats 4000000 in
theorem mm_vS.eq {N N' : Nat → Int} (h : mm_vS N) (e : ∀ k, (k < 89 ∨ 133 ≤ k) → N' k = N k) : mm_vS N' := by
  obtain ⟨h1, h2, h3, h4, h5, h6⟩ := h
  refine ⟨by rw [e 68 (by decide)]; exact h1, by rw [e 68 (by decide)]; exact h2, fun c hc => by rw [e (69 + c) (by omega)]; exact h3 c hc, fun hq => ?_, by rw [e 149 (by decide)]; exact h5, by rw [e 149 (by decide)]; exact h6⟩
  obtain ⟨c, q1, q2⟩ := h4 (by rw [← e 2 (by decide)]; exact hq)
  exact ⟨c, q1, by rw [e (69 + c) (by omega)]; exact q2⟩
set_option maxRecDepth 100000 in
set_option maxHeartbeats 4000000 in
theorem mm_Gd.eq {N N' : Nat → Int} (h : mm_Gd N) (e : ∀ k, k < 392 → N' k = N k) : mm_Gd N' := by
  obtain ⟨h1, h2, h3, h4, h5⟩ := h
  refine ⟨h1.eq (fun k hk => e k (by omega)), mm_sg_vS (mm_vS_sg h2 rfl (g := fun k => N (67 + k)) (fun k _ => rfl)) (e 2 (by decide)) (fun k hk => e _ (by omega)), by rw [e 151 (by decide)]; exact h3, by rw [e 151 (by decide)]; exact h4, h5.eq (fun k hk => e _ (by omega))⟩
/-- only what is so on days differs -/
def mm_st (A A' : Nat → Nat → Int) : Prop := (∀ k, k ≠ 2 → A' k = A k) ∧ (∀ k, k < 67 → A' 2 k = A 2 k) ∧ (∀ k, 150 ≤ k → A' 2 k = A 2 k)
set_option maxRecDepth 100000 in
set_option maxHeartbeats 4000000 in
theorem mm_st.rf {A : Nat → Nat → Int} : mm_st A A := ⟨fun _ _ => rfl, fun _ _ => rfl, fun _ _ => rfl⟩
set_option maxRecDepth 100000 in
set_option maxHeartbeats 4000000 in
theorem mm_st.tr {A A' A'' : Nat → Nat → Int} (h : mm_st A A') (h' : mm_st A' A'') : mm_st A A'' := ⟨fun k hk => (h'.1 k hk).trans (h.1 k hk), fun k hk => (h'.2.1 k hk).trans (h.2.1 k hk), fun k hk => (h'.2.2 k hk).trans (h.2.2 k hk)⟩
set_option maxRecDepth 100000 in
set_option maxHeartbeats 4000000 in
theorem mm_up_ne {A : Nat → Nat → Int} {k j : Nat} {f : Nat → Int} (h : k ≠ j) : mm_up A j f k = A k := by unfold mm_up; rw [mm_bne h]; rfl
set_option maxRecDepth 100000 in
set_option maxHeartbeats 4000000 in
theorem mm_st.up {A : Nat → Nat → Int} {N : Nat → Int} (e1 : ∀ k, k < 67 → N k = A 2 k) (e2 : ∀ k, 150 ≤ k → N k = A 2 k) : mm_st A (mm_up A 2 N) := ⟨fun k hk => mm_up_ne hk, e1, e2⟩
set_option maxRecDepth 100000 in
set_option maxHeartbeats 4000000 in
theorem mm_wr {A : Nat → Nat → Int} {i : Nat} {v : Int} (h1 : 89 ≤ i) (h2 : i < 133) (hv : mm_vS (A 2)) : mm_st A (mm_up A 2 (kk_up (A 2) i v)) ∧ mm_vS (mm_up A 2 (kk_up (A 2) i v) 2) := by
  refine ⟨mm_st.up (fun k hk => kk_up_ne (by omega)) (fun k hk => kk_up_ne (by omega)), ?_⟩
  show mm_vS (kk_up (A 2) i v)
  exact hv.eq (fun k hk => kk_up_ne (by omega))
set_option maxRecDepth 100000 in
set_option maxHeartbeats 4000000 in
theorem mm_Gd.st {A A' : Nat → Nat → Int} (h : mm_Gd (A 2)) (e : mm_st A A') (hv : mm_vS (A' 2)) : mm_Gd (A' 2) := ⟨h.1.eq e.2.1, hv, by rw [e.2.2 151 (by decide)]; exact h.2.2.1, by rw [e.2.2 151 (by decide)]; exact h.2.2.2.1, h.2.2.2.2.eq (fun k _ => e.2.2 _ (by omega))⟩
/-- what is so of the reference at all times -/
-- what no call but feed, house, image and restore changes
def mm_fr (Bm : Nat → Nat → Int) (cv wa fa : Int) (A : Nat → Nat → Int) : Prop := (∀ k, k < 67 → A 2 k = Bm 2 k) ∧ A 7 = Bm 7 ∧ A 1 = Bm 1 ∧ A 4 = Bm 4 ∧ A 9 = Bm 9 ∧ cv = Bm 20 1 ∧ wa = Bm 20 2 ∧ fa = Bm 20 0
def mm_Ia (Bm : Nat → Nat → Int) (s lk tx cv wa fa : Int) (A : Nat → Nat → Int) : Prop := (0 ≤ s ∧ s ≤ 8) ∧ (0 ≤ lk ∧ lk ≤ 4) ∧ (0 ≤ tx ∧ tx ≤ 96) ∧ mm_nb 22 (A 7) ∧ mm_nb 22 (A 8) ∧ mm_nb 44 (A 9) ∧ mm_Gd (A 2) ∧ (∀ j : Nat, (j : Int) < s → mm_sg (A 2 2) (fun k => A 5 (83 * j + k))) ∧ (∀ j : Nat, j < 2 → A 10 j ≠ 0 → mm_Gd (fun k => A 4 (392 * j + k))) ∧ mm_ng (A 16) ∧ mm_fr Bm cv wa fa A
def mm_I (Bm : Nat → Nat → Int) (F : Nat → Int) (A : Nat → Nat → Int) : Prop := (0 ≤ F 2 ∧ F 2 ≤ 940) ∧ mm_Ia Bm (F 23) (F 31) (F 37) (F 26) (F 35) (F 10) A
set_option maxRecDepth 100000 in
set_option maxHeartbeats 4000000 in
theorem mm_Ia.st {s lk tx cv wa fa : Int} {A A' : Nat → Nat → Int} (h : mm_Ia Bm s lk tx cv wa fa A) (e : mm_st A A') (hv : mm_vS (A' 2)) : mm_Ia Bm s lk tx cv wa fa A' := by
  obtain ⟨h1, h2, h3, h4, h5, h6, h7, h8, h9, h10, h11⟩ := h
  refine ⟨h1, h2, h3, by rw [e.1 7 (by decide)]; exact h4, by rw [e.1 8 (by decide)]; exact h5, by rw [e.1 9 (by decide)]; exact h6, h7.st e hv, ?_, ?_, by rw [e.1 16 (by decide)]; exact h10, ⟨fun k hk => (e.2.1 k hk).trans (h11.1 k hk), (e.1 7 (by decide)).trans h11.2.1, (e.1 1 (by decide)).trans h11.2.2.1, (e.1 4 (by decide)).trans h11.2.2.2.1, (e.1 9 (by decide)).trans h11.2.2.2.2.1, h11.2.2.2.2.2⟩⟩
  · rw [e.1 5 (by decide), e.2.1 2 (by decide)]; exact h8
  · rw [e.1 10 (by decide), e.1 4 (by decide)]; exact h9
set_option maxRecDepth 100000 in
set_option maxHeartbeats 4000000 in
theorem mm_I.fs {F F' : Nat → Int} {A : Nat → Nat → Int} (h : mm_I Bm F A) (h2 : F' 2 = F 2) (h3 : F' 23 = F 23) (h4 : F' 31 = F 31) (h5 : F' 37 = F 37) (h6 : F' 26 = F 26) (h7 : F' 35 = F 35) (h8 : F' 10 = F 10) : mm_I Bm F' A := by
  unfold mm_I
  rw [h2, h3, h4, h5, h6, h7, h8]
  exact h
set_option maxRecDepth 100000 in
set_option maxHeartbeats 4000000 in
theorem mm_I.cn {F : Nat → Int} {A : Nat → Nat → Int} (h : mm_I Bm F A) : mm_cn (A 2) := h.2.2.2.2.2.2.2.1.1.1
set_option maxRecDepth 100000 in
set_option maxHeartbeats 4000000 in
theorem mm_I.gd {F : Nat → Int} {A : Nat → Nat → Int} (h : mm_I Bm F A) : mm_Gd (A 2) := h.2.2.2.2.2.2.2.1
set_option maxRecDepth 100000 in
set_option maxHeartbeats 4000000 in
theorem mm_I.rH {F : Nat → Int} {A : Nat → Nat → Int} (h : mm_I Bm F A) : mm_rH (A 2) := h.gd.1
set_option maxRecDepth 100000 in
set_option maxHeartbeats 4000000 in
theorem mm_I.vS {F : Nat → Int} {A : Nat → Nat → Int} (h : mm_I Bm F A) : mm_vS (A 2) := h.gd.2.1
/-- behind a call: an answer, and all is well -/
def mm_Po (Bm : Nat → Nat → Int) (t : Int) (kp : Nat → Int) (ty : Nat) : List en_V → List kk_C → Prop := fun rs w' => ∃ F' A' x, w' = mm_w F' A' ∧ rs = [(ty, x)] ∧ mm_I Bm F' A' ∧ F' 2 = t ∧ A' 10 = kp
/-- a reader of the state: all stays -/
def mm_Rd (F : Nat → Int) (A : Nat → Nat → Int) : List en_V → List kk_C → Prop := fun rs w' => w' = mm_w F A ∧ ∃ x, rs = [(0, x)]
set_option maxRecDepth 100000 in
set_option maxHeartbeats 4000000 in
theorem mm_isMonk (l : Launch) {d : Nat} (F : Nat → Int) (A : Nat → Nat → Int) (x : Int) (h0 : mm_cn (A 2)) : kk_Ctr l (d + 1) en_t_X11_isMonk [(4, 0), (0, x)] (mm_w F A) (fun rs w' => w' = mm_w F A ∧ ((rs = [(0, 1)] ∧ 0 ≤ x ∧ x < A 2 1 ∧ x ≤ 3) ∨ rs = [(0, 0)])) := by
  obtain ⟨c1, c2, c3, c4, c5, c6⟩ := h0
  refine kk_ctr en_hM (List.mem_of_getElem? (i := 213) rfl) rfl (Nat.le_of_ble_eq_true rfl) (fun K hC => ?_)
  repeat' first | refine hC.gn [] _ rfl rfl ?_ | refine And.intro ?_ ?_ | exact True.intro | refine hC.iadd [] rfl rfl (by first | omega | (simp only [Int.reduceToNat] at *; omega)) ?_ | refine hC.isub [] rfl rfl (by first | omega | (simp only [Int.reduceToNat] at *; omega)) ?_ | refine hC.imul [] rfl rfl (by first | omega | (simp only [Int.reduceToNat] at *; omega)) ?_ | refine hC.iinc [] rfl rfl rfl rfl (by first | omega | (simp only [Int.reduceToNat] at *; omega)) ?_ | refine hC.go [] _ rfl rfl ?_ | (intro h; first | exact (h rfl).elim | (exfalso; cases h; done) | (dsimp only [kk_cP, kk_cN] at h) | skip) | (refine hC.call (mm_isIn l _ _ _ _) [] rfl rfl rfl rfl rfl rfl trivial (Nat.le_refl _) ?_; rintro rs w' ⟨rfl, ⟨rfl, h1, h2⟩ | ⟨rfl, h1⟩⟩)
  all_goals try simp only [Int.reduceToNat] at h1
  all_goals try simp only [Int.reduceToNat] at h2
  all_goals first | rfl | exact Or.inl rfl | exact Or.inr rfl | omega | (simp only [Int.reduceToNat] at *; omega) | (exact Or.inl ⟨rfl, by omega, by omega, by omega⟩) | (exact Or.inr rfl)
set_option maxRecDepth 100000 in
set_option maxHeartbeats 4000000 in
theorem mm_isChapter (l : Launch) {d : Nat} (F : Nat → Int) (A : Nat → Nat → Int) (x : Int) (h0 : mm_cn (A 2)) : kk_Ctr l (d + 1) en_t_X11_isChapter [(4, 0), (0, x)] (mm_w F A) (fun rs w' => w' = mm_w F A ∧ ((rs = [(0, 1)] ∧ 0 ≤ x ∧ x < A 2 2 ∧ x ≤ 9) ∨ rs = [(0, 0)])) := by
  obtain ⟨c1, c2, c3, c4, c5, c6⟩ := h0
  refine kk_ctr en_hM (List.mem_of_getElem? (i := 211) rfl) rfl (Nat.le_of_ble_eq_true rfl) (fun K hC => ?_)
  repeat' first | refine hC.gn [] _ rfl rfl ?_ | refine And.intro ?_ ?_ | exact True.intro | refine hC.iadd [] rfl rfl (by first | omega | (simp only [Int.reduceToNat] at *; omega)) ?_ | refine hC.isub [] rfl rfl (by first | omega | (simp only [Int.reduceToNat] at *; omega)) ?_ | refine hC.imul [] rfl rfl (by first | omega | (simp only [Int.reduceToNat] at *; omega)) ?_ | refine hC.iinc [] rfl rfl rfl rfl (by first | omega | (simp only [Int.reduceToNat] at *; omega)) ?_ | refine hC.go [] _ rfl rfl ?_ | (intro h; first | exact (h rfl).elim | (exfalso; cases h; done) | (dsimp only [kk_cP, kk_cN] at h) | skip) | (refine hC.call (mm_isIn l _ _ _ _) [] rfl rfl rfl rfl rfl rfl trivial (Nat.le_refl _) ?_; rintro rs w' ⟨rfl, ⟨rfl, h1, h2⟩ | ⟨rfl, h1⟩⟩)
  all_goals try simp only [Int.reduceToNat] at h1
  all_goals try simp only [Int.reduceToNat] at h2
  all_goals first | rfl | exact Or.inl rfl | exact Or.inr rfl | omega | (simp only [Int.reduceToNat] at *; omega) | (exact Or.inl ⟨rfl, by omega, by omega, by omega⟩) | (exact Or.inr rfl)
set_option maxRecDepth 100000 in
set_option maxHeartbeats 4000000 in
theorem mm_doOne (l : Launch) (d : Nat) (F : Nat → Int) (A : Nat → Nat → Int) (m e : Int) (h1 : 0 ≤ m) (h2 : m ≤ 3) (h3 : 0 ≤ e) (h4 : e ≤ 7) (hv : mm_vS (A 2)) : kk_Ctr l (d + 1) en_t_X11_doOne [(4, 0), (0, m), (0, e)] (mm_w F A) (fun rs w' => rs = [] ∧ ∃ A', w' = mm_w F A' ∧ mm_st A A' ∧ mm_vS (A' 2)) := by
  refine kk_ctr en_hM (List.mem_of_getElem? (i := 226) rfl) rfl (Nat.le_of_ble_eq_true rfl) (fun K hC => ?_)
  have k90 : ∀ (B : Nat → Nat → Int), (mm_st A B) → (mm_vS (B 2)) → K 90 [(0, (4, 0)), (1, (0, m)), (2, (0, e))] [] (mm_w F B) := by
    intro B hs hb
    repeat' first | refine hC.gn [] _ rfl rfl ?_ | refine And.intro ?_ ?_ | exact True.intro | refine hC.iadd [] rfl rfl (by first | omega | (simp only [Int.reduceToNat] at *; omega)) ?_ | refine hC.isub [] rfl rfl (by first | omega | (simp only [Int.reduceToNat] at *; omega)) ?_ | refine hC.imul [] rfl rfl (by first | omega | (simp only [Int.reduceToNat] at *; omega)) ?_ | refine hC.iinc [] rfl rfl rfl rfl (by first | omega | (simp only [Int.reduceToNat] at *; omega)) ?_ | refine hC.go [] _ rfl rfl ?_ | (intro h; first | exact (h rfl).elim | (exfalso; cases h; done) | (dsimp only [kk_cP, kk_cN] at h) | skip)
    all_goals first | rfl | omega | exact ⟨_, rfl⟩ | exact Or.inl rfl | exact Or.inr rfl | (simp only [Int.reduceToNat] at *; omega) | exact ⟨B, rfl, hs, hb⟩
  have k55 : ∀ (B : Nat → Nat → Int), (mm_st A B) → (mm_vS (B 2)) → K 55 [(0, (4, 0)), (1, (0, m)), (2, (0, e))] [] (mm_w F B) := by
    intro B hs hb
    repeat' first | refine hC.gn [90] _ rfl rfl ?_ | refine And.intro ?_ ?_ | exact True.intro | refine hC.iadd [90] rfl rfl (by first | omega | (simp only [Int.reduceToNat] at *; omega)) ?_ | refine hC.isub [90] rfl rfl (by first | omega | (simp only [Int.reduceToNat] at *; omega)) ?_ | refine hC.imul [90] rfl rfl (by first | omega | (simp only [Int.reduceToNat] at *; omega)) ?_ | refine hC.iinc [90] rfl rfl rfl rfl (by first | omega | (simp only [Int.reduceToNat] at *; omega)) ?_ | refine hC.go [90] _ rfl rfl ?_ | (intro h; first | exact (h rfl).elim | (exfalso; cases h; done) | (dsimp only [kk_cP, kk_cN] at h) | skip)
    all_goals first | rfl | omega | exact ⟨_, rfl⟩ | exact Or.inl rfl | exact Or.inr rfl | (simp only [Int.reduceToNat] at *; omega) | exact k90 B hs hb | exact k90 (mm_up B 2 (kk_up (B 2) (89 + m).toNat _)) (hs.tr (mm_wr (by omega) (by omega) hb).1) (mm_wr (by omega) (by omega) hb).2
  have k28 : ∀ (B : Nat → Nat → Int), (mm_st A B) → (mm_vS (B 2)) → K 28 [(0, (4, 0)), (1, (0, m)), (2, (0, e))] [] (mm_w F B) := by
    intro B hs hb
    repeat' first | refine hC.gn [55] _ rfl rfl ?_ | refine And.intro ?_ ?_ | exact True.intro | refine hC.iadd [55] rfl rfl (by first | omega | (simp only [Int.reduceToNat] at *; omega)) ?_ | refine hC.isub [55] rfl rfl (by first | omega | (simp only [Int.reduceToNat] at *; omega)) ?_ | refine hC.imul [55] rfl rfl (by first | omega | (simp only [Int.reduceToNat] at *; omega)) ?_ | refine hC.iinc [55] rfl rfl rfl rfl (by first | omega | (simp only [Int.reduceToNat] at *; omega)) ?_ | refine hC.go [55] _ rfl rfl ?_ | (intro h; first | exact (h rfl).elim | (exfalso; cases h; done) | (dsimp only [kk_cP, kk_cN] at h) | skip)
    refine hC.same (mm_workOf l _ F B m e h1 h2 h3 h4) rfl rfl rfl rfl (Nat.le_refl _) ?_
    rintro rs w' ⟨rfl, rfl⟩
    repeat' first | refine hC.gn [55] _ rfl rfl ?_ | refine And.intro ?_ ?_ | exact True.intro | refine hC.iadd [55] rfl rfl (by first | omega | (simp only [Int.reduceToNat] at *; omega)) ?_ | refine hC.isub [55] rfl rfl (by first | omega | (simp only [Int.reduceToNat] at *; omega)) ?_ | refine hC.imul [55] rfl rfl (by first | omega | (simp only [Int.reduceToNat] at *; omega)) ?_ | refine hC.iinc [55] rfl rfl rfl rfl (by first | omega | (simp only [Int.reduceToNat] at *; omega)) ?_ | refine hC.go [55] _ rfl rfl ?_ | (intro h; first | exact (h rfl).elim | (exfalso; cases h; done) | (dsimp only [kk_cP, kk_cN] at h) | skip)
    all_goals first | rfl | omega | exact ⟨_, rfl⟩ | exact Or.inl rfl | exact Or.inr rfl | (simp only [Int.reduceToNat] at *; omega) | exact k55 B hs hb | exact k55 (mm_up B 2 (kk_up (B 2) (101 + 8 * m + e).toNat _)) (hs.tr (mm_wr (by omega) (by omega) hb).1) (mm_wr (by omega) (by omega) hb).2
  have k15 : ∀ (B : Nat → Nat → Int), (mm_st A B) → (mm_vS (B 2)) → K 15 [(0, (4, 0)), (1, (0, m)), (2, (0, e))] [] (mm_w F B) := by
    intro B hs hb
    repeat' first | refine hC.gn [28] _ rfl rfl ?_ | refine And.intro ?_ ?_ | exact True.intro | refine hC.iadd [28] rfl rfl (by first | omega | (simp only [Int.reduceToNat] at *; omega)) ?_ | refine hC.isub [28] rfl rfl (by first | omega | (simp only [Int.reduceToNat] at *; omega)) ?_ | refine hC.imul [28] rfl rfl (by first | omega | (simp only [Int.reduceToNat] at *; omega)) ?_ | refine hC.iinc [28] rfl rfl rfl rfl (by first | omega | (simp only [Int.reduceToNat] at *; omega)) ?_ | refine hC.go [28] _ rfl rfl ?_ | (intro h; first | exact (h rfl).elim | (exfalso; cases h; done) | (dsimp only [kk_cP, kk_cN] at h) | skip)
    all_goals first | rfl | omega | exact ⟨_, rfl⟩ | exact Or.inl rfl | exact Or.inr rfl | (simp only [Int.reduceToNat] at *; omega) | exact k28 (mm_up B 2 (kk_up (B 2) (97 + m).toNat _)) (hs.tr (mm_wr (by omega) (by omega) hb).1) (mm_wr (by omega) (by omega) hb).2
  repeat' first | refine hC.gn [15] _ rfl rfl ?_ | refine And.intro ?_ ?_ | exact True.intro | refine hC.iadd [15] rfl rfl (by first | omega | (simp only [Int.reduceToNat] at *; omega)) ?_ | refine hC.isub [15] rfl rfl (by first | omega | (simp only [Int.reduceToNat] at *; omega)) ?_ | refine hC.imul [15] rfl rfl (by first | omega | (simp only [Int.reduceToNat] at *; omega)) ?_ | refine hC.iinc [15] rfl rfl rfl rfl (by first | omega | (simp only [Int.reduceToNat] at *; omega)) ?_ | refine hC.go [15] _ rfl rfl ?_ | (intro h; first | exact (h rfl).elim | (exfalso; cases h; done) | (dsimp only [kk_cP, kk_cN] at h) | skip)
  all_goals first | rfl | omega | exact ⟨_, rfl⟩ | exact Or.inl rfl | exact Or.inr rfl | (simp only [Int.reduceToNat] at *; omega) | exact k15 (mm_up A 2 (kk_up (A 2) (93 + m).toNat _)) (mm_wr (by omega) (by omega) hv).1 (mm_wr (by omega) (by omega) hv).2
set_option maxRecDepth 100000 in
set_option maxHeartbeats 4000000 in
theorem mm_why (l : Launch) (d : Nat) (F : Nat → Int) (A : Nat → Nat → Int) (q x y : Int) (hv : mm_vS (A 2)) (h1 : q = 1 → 0 ≤ x ∧ x ≤ 9) (h2 : q = 2 → 0 ≤ x ∧ x ≤ 3) : kk_Ctr l (d + 2) en_t_X11_why [(4, 0), (0, q), (0, x), (0, y)] (mm_w F A) (fun rs w' => w' = mm_w F A ∧ ∃ r, rs = [(0, r)] ∧ (r = 0 → (q = 0 → A 2 2 ≠ 0) ∧ (q = 1 → A 2 (69 + x).toNat ≠ 0))) := by
  refine kk_ctr en_hM (List.mem_of_getElem? (i := 222) rfl) rfl (Nat.le_of_ble_eq_true rfl) (fun K hC => ?_)
  repeat' first | refine hC.gn [] _ rfl rfl ?_ | refine And.intro ?_ ?_ | exact True.intro | refine hC.iadd [] rfl rfl (by first | omega | (simp only [Int.reduceToNat] at *; omega)) ?_ | refine hC.isub [] rfl rfl (by first | omega | (simp only [Int.reduceToNat] at *; omega)) ?_ | refine hC.imul [] rfl rfl (by first | omega | (simp only [Int.reduceToNat] at *; omega)) ?_ | refine hC.iinc [] rfl rfl rfl rfl (by first | omega | (simp only [Int.reduceToNat] at *; omega)) ?_ | refine hC.go [] _ rfl rfl ?_ | (intro h; first | exact (h rfl).elim | (exfalso; cases h; done) | (dsimp only [kk_cP, kk_cN] at h) | skip) | (refine hC.same (mm_whyNone l _ _ _ (by assumption)) rfl rfl rfl rfl (Nat.le_refl _) ?_; rintro rs w' ⟨rfl, xw, rfl, hw⟩) | (refine hC.same (mm_holds l _ _ _ (by assumption)) rfl rfl rfl rfl (Nat.le_refl _) ?_; rintro rs w' ⟨rfl, ⟨rfl, o1⟩ | ⟨rfl, o1⟩⟩) | (refine hC.same (mm_barredNow l _ _ _ (by assumption)) rfl rfl rfl rfl (Nat.le_refl _) ?_; rintro rs w' ⟨rfl, xm, rfl⟩) | (refine hC.call (mm_has l _ _ _) [] rfl rfl rfl rfl rfl rfl trivial (Nat.le_refl _) ?_; rintro rs w' ⟨rfl, rfl | rfl⟩)
  all_goals first | rfl | omega | (exact ⟨_, rfl, fun g => absurd g (by decide)⟩) | (exact ⟨_, rfl, fun _ => ⟨fun g => by omega, fun g => by omega⟩⟩) | (exact ⟨_, rfl, fun g => ⟨fun _ => (hw g).2, fun g => by omega⟩⟩)
set_option maxRecDepth 100000 in
set_option maxHeartbeats 4000000 in
theorem mm_wants (l : Launch) (d : Nat) (F : Nat → Int) (A : Nat → Nat → Int) (m e : Int) (h1 : 0 ≤ m) (h2 : m ≤ 3) (h3 : 0 ≤ e) (h4 : e ≤ 7) (hv : mm_vS (A 2)) : kk_Ctr l (d + 2) en_t_X11_wants [(4, 0), (0, m), (0, e)] (mm_w F A) (fun rs w' => w' = mm_w F A ∧ (rs = [(0, 1)] ∨ rs = [(0, 0)])) := by
  refine kk_ctr en_hM (List.mem_of_getElem? (i := 266) rfl) rfl (Nat.le_of_ble_eq_true rfl) (fun K hC => ?_)
  repeat' first | refine hC.gn [] _ rfl rfl ?_ | refine And.intro ?_ ?_ | exact True.intro | refine hC.iadd [] rfl rfl (by first | omega | (simp only [Int.reduceToNat] at *; omega)) ?_ | refine hC.isub [] rfl rfl (by first | omega | (simp only [Int.reduceToNat] at *; omega)) ?_ | refine hC.imul [] rfl rfl (by first | omega | (simp only [Int.reduceToNat] at *; omega)) ?_ | refine hC.iinc [] rfl rfl rfl rfl (by first | omega | (simp only [Int.reduceToNat] at *; omega)) ?_ | refine hC.go [] _ rfl rfl ?_ | (intro h; first | exact (h rfl).elim | (exfalso; cases h; done) | (dsimp only [kk_cP, kk_cN] at h) | skip) | (refine hC.same (mm_mustNow l _ _ _ (by assumption)) rfl rfl rfl rfl (Nat.le_refl _) ?_; rintro rs w' ⟨rfl, xm, rfl⟩) | (refine hC.call (mm_has l _ _ _) [] rfl rfl rfl rfl rfl rfl trivial (Nat.le_refl _) ?_; rintro rs w' ⟨rfl, rfl | rfl⟩)
  all_goals first | rfl | omega | exact Or.inl rfl | exact Or.inr rfl | skip
  all_goals
    refine hC.same (mm_workOf l _ F A m e h1 h2 h3 h4) rfl rfl rfl rfl (Nat.le_refl _) ?_
    rintro rs w' ⟨rfl, rfl⟩
    repeat' first | refine hC.gn [] _ rfl rfl ?_ | refine And.intro ?_ ?_ | exact True.intro | refine hC.iadd [] rfl rfl (by first | omega | (simp only [Int.reduceToNat] at *; omega)) ?_ | refine hC.isub [] rfl rfl (by first | omega | (simp only [Int.reduceToNat] at *; omega)) ?_ | refine hC.imul [] rfl rfl (by first | omega | (simp only [Int.reduceToNat] at *; omega)) ?_ | refine hC.iinc [] rfl rfl rfl rfl (by first | omega | (simp only [Int.reduceToNat] at *; omega)) ?_ | refine hC.go [] _ rfl rfl ?_ | (intro h; first | exact (h rfl).elim | (exfalso; cases h; done) | (dsimp only [kk_cP, kk_cN] at h) | skip)
    all_goals first | rfl | omega | exact Or.inl rfl | exact Or.inr rfl
set_option maxRecDepth 100000 in
set_option maxHeartbeats 4000000 in
theorem mm_nightComes (l : Launch) (d : Nat) (F : Nat → Int) (A : Nat → Nat → Int) (hv : mm_vS (A 2)) (hm : 0 ≤ A 2 1 ∧ A 2 1 ≤ 4) : kk_Ctr l (d + 2) en_t_X11_nightComes [(4, 0)] (mm_w F A) (fun rs w' => ∃ A' x, w' = mm_w F A' ∧ rs = [(0, x)] ∧ mm_st A A' ∧ mm_vS (A' 2)) := by
  refine kk_ctr en_hM (List.mem_of_getElem? (i := 228) rfl) rfl (Nat.le_of_ble_eq_true rfl) (fun K hC => ?_)
  have k82 : ∀ (B : Nat → Nat → Int) (x : Int), (mm_st A B) → (mm_vS (B 2)) → K 82 [(0, (4, 0)), (1, (0, x))] [] (mm_w F B) := by
    intro B x hs hb
    repeat' first | refine hC.gn [] _ rfl rfl ?_ | refine And.intro ?_ ?_ | exact True.intro | refine hC.iadd [] rfl rfl (by first | omega | (simp only [Int.reduceToNat] at *; omega)) ?_ | refine hC.isub [] rfl rfl (by first | omega | (simp only [Int.reduceToNat] at *; omega)) ?_ | refine hC.imul [] rfl rfl (by first | omega | (simp only [Int.reduceToNat] at *; omega)) ?_ | refine hC.iinc [] rfl rfl rfl rfl (by first | omega | (simp only [Int.reduceToNat] at *; omega)) ?_ | refine hC.go [] _ rfl rfl ?_ | (intro h; first | exact (h rfl).elim | (exfalso; cases h; done) | (dsimp only [kk_cP, kk_cN] at h) | skip)
    all_goals first | omega | skip
    refine ⟨mm_up B 2 (kk_up (kk_up (B 2) 68 (-1)) 67 _), _, rfl, rfl, hs.tr (mm_st.up (fun k hk => (kk_up_ne (by omega)).trans (kk_up_ne (by omega))) (fun k hk => (kk_up_ne (by omega)).trans (kk_up_ne (by omega)))), ?_⟩
    obtain ⟨v1, v2, v3, v4, v5, v6⟩ := hb
    exact ⟨(show (-1 : Int) ≤ -1 by decide), (show (-1 : Int) ≤ 9 by decide), fun c hc => by
      have := v3 c hc
      show 0 ≤ kk_up (kk_up (B 2) 68 (-1)) 67 _ (69 + c) ∧ kk_up (kk_up (B 2) 68 (-1)) 67 _ (69 + c) ≤ 9
      rw [kk_up_ne (by omega), kk_up_ne (by omega)]; exact this, fun hq => by
      obtain ⟨c, q1, q2⟩ := v4 hq
      refine ⟨c, q1, ?_⟩
      show 1 ≤ kk_up (kk_up (B 2) 68 (-1)) 67 _ (69 + c)
      rw [kk_up_ne (by omega), kk_up_ne (by omega)]; exact q2, v5, v6⟩
  have k4 : ∀ (n : Nat) (i x : Int) (B : Nat → Nat → Int), (5 - i).toNat < n → (0 ≤ i ∧ i ≤ 4) → (mm_st A B) → (mm_vS (B 2)) → K 4 [(0, (4, 0)), (1, (0, x)), (2, (0, i))] [] (mm_w F B) := by
    intro n
    induction n with
    | zero => intro i x B hz; exact absurd hz (Nat.not_lt_zero _)
    | succ n ih =>
      intro i x B hn h0 hs hb
      have k76 : ∀ (x : Int) (B : Nat → Nat → Int), (i < 4) → (mm_st A B) → (mm_vS (B 2)) → K 76 [(0, (4, 0)), (1, (0, x)), (2, (0, i))] [] (mm_w F B) := by
        intro x B hi hs hb
        repeat' first | refine hC.gn [4] _ rfl rfl ?_ | refine And.intro ?_ ?_ | exact True.intro | refine hC.iadd [4] rfl rfl (by first | omega | (simp only [Int.reduceToNat] at *; omega)) ?_ | refine hC.isub [4] rfl rfl (by first | omega | (simp only [Int.reduceToNat] at *; omega)) ?_ | refine hC.imul [4] rfl rfl (by first | omega | (simp only [Int.reduceToNat] at *; omega)) ?_ | refine hC.iinc [4] rfl rfl rfl rfl (by first | omega | (simp only [Int.reduceToNat] at *; omega)) ?_ | refine hC.go [4] _ rfl rfl ?_ | (intro h; first | exact (h rfl).elim | (exfalso; cases h; done) | (dsimp only [kk_cP, kk_cN] at h) | skip)
        all_goals first | rfl | omega | exact ⟨_, rfl⟩ | exact Or.inl rfl | exact Or.inr rfl | (simp only [Int.reduceToNat] at *; omega) | exact hC.sub [(0, (4, 0)), (1, (0, _)), (2, (0, _))] ⟨rfl, rfl, rfl, trivial⟩ (ih _ _ B (by omega) (by omega) hs hb)
      have k62 : ∀ (x y : Int) (B : Nat → Nat → Int), (i < 4) → (mm_st A B) → (mm_vS (B 2)) → K 62 [(0, (4, 0)), (1, (0, x)), (2, (0, i)), (3, (0, y))] [] (mm_w F B) := by
        intro x y B hi hs hb
        repeat' first | refine hC.gn [76] _ rfl rfl ?_ | refine And.intro ?_ ?_ | exact True.intro | refine hC.iadd [76] rfl rfl (by first | omega | (simp only [Int.reduceToNat] at *; omega)) ?_ | refine hC.isub [76] rfl rfl (by first | omega | (simp only [Int.reduceToNat] at *; omega)) ?_ | refine hC.imul [76] rfl rfl (by first | omega | (simp only [Int.reduceToNat] at *; omega)) ?_ | refine hC.iinc [76] rfl rfl rfl rfl (by first | omega | (simp only [Int.reduceToNat] at *; omega)) ?_ | refine hC.go [76] _ rfl rfl ?_ | (intro h; first | exact (h rfl).elim | (exfalso; cases h; done) | (dsimp only [kk_cP, kk_cN] at h) | skip)
        all_goals first | rfl | omega | exact ⟨_, rfl⟩ | exact Or.inl rfl | exact Or.inr rfl | (simp only [Int.reduceToNat] at *; omega) | exact hC.sub [(0, (4, 0)), (1, (0, _)), (2, (0, _))] ⟨rfl, rfl, rfl, trivial⟩ (k76 _ (mm_up B 2 (kk_up (B 2) (93 + i).toNat _)) hi (hs.tr (mm_wr (by omega) (by omega) hb).1) (mm_wr (by omega) (by omega) hb).2)
      have e1 : B 2 1 = A 2 1 := hs.2.1 1 (by decide)
      refine hC.go [] _ rfl rfl ?_
      repeat' first | refine hC.gn [4, 62, 82] _ rfl rfl ?_ | refine And.intro ?_ ?_ | exact True.intro | refine hC.iadd [4, 62, 82] rfl rfl (by first | omega | (simp only [Int.reduceToNat] at *; omega)) ?_ | refine hC.isub [4, 62, 82] rfl rfl (by first | omega | (simp only [Int.reduceToNat] at *; omega)) ?_ | refine hC.imul [4, 62, 82] rfl rfl (by first | omega | (simp only [Int.reduceToNat] at *; omega)) ?_ | refine hC.iinc [4, 62, 82] rfl rfl rfl rfl (by first | omega | (simp only [Int.reduceToNat] at *; omega)) ?_ | refine hC.go [4, 62, 82] _ rfl rfl ?_ | (intro h; first | exact (h rfl).elim | (exfalso; cases h; done) | (dsimp only [kk_cP, kk_cN] at h) | skip) | (refine hC.same (mm_mustNow l _ _ _ (by assumption)) rfl rfl rfl rfl (Nat.le_refl _) ?_; rintro rs w' ⟨rfl, xm, rfl⟩) | (refine hC.call (mm_bits l _ _) [] rfl rfl rfl rfl rfl rfl trivial (Nat.le_refl _) ?_; rintro rs w' ⟨rfl, xk, rfl⟩) | (refine hC.call (mm_least l _ _ _) [] rfl rfl rfl rfl rfl rfl trivial (Nat.le_refl _) ?_; rintro rs w' ⟨rfl, rfl⟩)
      all_goals first | rfl | omega | exact ⟨_, rfl⟩ | exact Or.inl rfl | exact Or.inr rfl | (simp only [Int.reduceToNat] at *; omega) | exact hb | exact hC.sub [(0, (4, 0)), (1, (0, _))] ⟨rfl, rfl, trivial⟩ (k82 B _ hs hb) | exact hC.sub [(0, (4, 0)), (1, (0, _)), (2, (0, _)), (3, (0, _))] ⟨rfl, rfl, rfl, rfl, trivial⟩ (k62 _ _ (mm_up B 2 (kk_up (B 2) (89 + i).toNat _)) (by first | omega | (simp only [Int.reduceToNat] at *; omega)) (hs.tr (mm_wr (by omega) (by omega) hb).1) (mm_wr (by omega) (by omega) hb).2)
  repeat' first | refine hC.gn [4] _ rfl rfl ?_ | refine And.intro ?_ ?_ | exact True.intro | refine hC.iadd [4] rfl rfl (by first | omega | (simp only [Int.reduceToNat] at *; omega)) ?_ | refine hC.isub [4] rfl rfl (by first | omega | (simp only [Int.reduceToNat] at *; omega)) ?_ | refine hC.imul [4] rfl rfl (by first | omega | (simp only [Int.reduceToNat] at *; omega)) ?_ | refine hC.iinc [4] rfl rfl rfl rfl (by first | omega | (simp only [Int.reduceToNat] at *; omega)) ?_ | refine hC.go [4] _ rfl rfl ?_ | (intro h; first | exact (h rfl).elim | (exfalso; cases h; done) | (dsimp only [kk_cP, kk_cN] at h) | skip)
  exact hC.sub [(0, (4, 0)), (1, (0, _)), (2, (0, _))] ⟨rfl, rfl, rfl, trivial⟩ (k4 _ _ _ A (Nat.lt_succ_self _) (by omega) mm_st.rf hv)
