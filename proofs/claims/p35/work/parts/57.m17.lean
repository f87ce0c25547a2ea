/-! THE REFERENCE, 17: calls -/
variable {Bm : Nat → Nat → Int}
/-- j bytes of x, written from p on -/
def fbs (f : Nat → Int) (p x : Int) : Nat → Nat → Int
  | 0 => f
  | j + 1 => kk_up (fbs f p x j) (p + (j : Int)).toNat (kk_i2 3 (kk_i2 8 x (24 - 8 * (j : Int))) 255)
def fb5 (f : Nat → Int) (p a b c e g : Int) : Nat → Int := fbs (fbs (fbs (fbs (fbs f p a 4) (p + 4) b 4) (p + 4 + 4) c 4) (p + 4 + 4 + 4) e 4) (p + 4 + 4 + 4 + 4) g 4
set_option maxRecDepth 100000 in
set_option maxHeartbeats 4000000 in
theorem mm_come (l : Launch) (d : Nat) (F : Nat → Int) (A : Nat → Nat → Int) (x : Int) (h0 : 0 ≤ F 2) (h1 : F 2 ≤ 936) : kk_Ctr l d en_t_X11_come [(4, 0), (0, x)] (mm_w F A) (fun rs w' => rs = [] ∧ ∃ G, w' = mm_w G (mm_up A 1 (fbs (A 1) (F 2) x 4)) ∧ (∀ k, k ≠ 2 → G k = F k) ∧ G 2 = F 2 + 4) := by
  refine kk_ctr en_hM (List.mem_of_getElem? (i := 207) rfl) rfl (Nat.le_of_ble_eq_true rfl) (fun K hC => ?_)
  have k3 : ∀ (n : Nat) (i : Int) (j : Nat) (G : Nat → Int), 5 - j < n → (j ≤ 4 ∧ i = 24 - 8 * (j : Int)) → (∀ k, k ≠ 2 → G k = F k) → (G 2 = F 2 + (j : Int)) → K 3 [(0, (4, 0)), (1, (0, x)), (2, (0, i))] [] (mm_w G (mm_up A 1 (fbs (A 1) (F 2) x j))) := by
    intro n
    induction n with
    | zero => intro i j G hz; exact absurd hz (Nat.not_lt_zero _)
    | succ n ih =>
      intro i j G hn g0 g1 g2
      refine hC.go [] _ rfl rfl ?_
      repeat' first | refine hC.gn [3] _ rfl rfl ?_ | refine And.intro ?_ ?_ | exact True.intro | refine hC.iadd [3] rfl rfl (by first | omega | (simp only [Int.reduceToNat] at *; omega)) ?_ | refine hC.isub [3] rfl rfl (by first | omega | (simp only [Int.reduceToNat] at *; omega)) ?_ | refine hC.imul [3] rfl rfl (by first | omega | (simp only [Int.reduceToNat] at *; omega)) ?_ | refine hC.iinc [3] rfl rfl rfl rfl (by first | omega | (simp only [Int.reduceToNat] at *; omega)) ?_ | refine hC.go [3] _ rfl rfl ?_ | (intro h; first | exact (h rfl).elim | (exfalso; cases h; done) | (dsimp only [kk_cP, kk_cN] at h) | skip)
      all_goals first | rfl | omega | ((obtain rfl : j = 4 := (by omega)); exact ⟨G, rfl, g1, g2⟩) | skip
      have eg : (G 2).toNat = (F 2 + (j : Int)).toNat := by rw [g2]
      obtain ⟨-, rfl⟩ := g0
      rw [eg]
      exact hC.sub [(0, (4, 0)), (1, (0, _)), (2, (0, _))] ⟨rfl, rfl, rfl, trivial⟩ (ih _ (j + 1) (kk_up G 2 (G 2 + 1)) (by omega) (by omega) (fun k hk => (kk_up_ne hk).trans (g1 k hk)) (show G 2 + 1 = F 2 + ((j + 1 : Nat) : Int) by omega))
  repeat' first | refine hC.gn [3] _ rfl rfl ?_ | refine And.intro ?_ ?_ | exact True.intro | refine hC.iadd [3] rfl rfl (by first | omega | (simp only [Int.reduceToNat] at *; omega)) ?_ | refine hC.isub [3] rfl rfl (by first | omega | (simp only [Int.reduceToNat] at *; omega)) ?_ | refine hC.imul [3] rfl rfl (by first | omega | (simp only [Int.reduceToNat] at *; omega)) ?_ | refine hC.iinc [3] rfl rfl rfl rfl (by first | omega | (simp only [Int.reduceToNat] at *; omega)) ?_ | refine hC.go [3] _ rfl rfl ?_ | (intro h; first | exact (h rfl).elim | (exfalso; cases h; done) | (dsimp only [kk_cP, kk_cN] at h) | skip)
  exact hC.sub [(0, (4, 0)), (1, (0, _)), (2, (0, _))] ⟨rfl, rfl, rfl, trivial⟩ (k3 _ _ 0 F (Nat.lt_succ_self _) (by omega) (fun k _ => rfl) (by omega))
set_option maxRecDepth 100000 in
set_option maxHeartbeats 4000000 in
theorem mm_fr.up1 {A : Nat → Nat → Int} {f : Nat → Int} {s s' lk tx cv wa fa : Int} (h : mm_Ia Bm s lk tx cv wa fa A) : mm_Ia (mm_up Bm 1 f) s lk tx cv wa fa (mm_up A 1 f) := by
  obtain ⟨h1, h2, h3, h4, h5, h6, h7, h8, h9, h10, f1, f2, f3, f4, f5⟩ := h
  exact ⟨h1, h2, h3, h4, h5, h6, h7, h8, h9, h10, f1, f2, rfl, f4, f5⟩
set_option maxRecDepth 100000 in
set_option maxHeartbeats 4000000 in
theorem mm_feed (l : Launch) (d : Nat) (F : Nat → Int) (A : Nat → Nat → Int) (a b c e f : Int) (hI : mm_I Bm F A) : kk_Ctr l (d + 1) en_t_X11_feed [(4, 0), (0, a), (0, b), (0, c), (0, e), (0, f)] (mm_w F A) (fun rs w' => ∃ F' f1, w' = mm_w F' (mm_up A 1 f1) ∧ mm_I (mm_up Bm 1 f1) F' (mm_up A 1 f1) ∧ ((F 2 ≤ 920 ∧ F' 2 = F 2 + 20 ∧ rs = [(0, F 2 + 20)] ∧ f1 = fb5 (A 1) (F 2) a b c e f) ∨ (920 < F 2 ∧ F' 2 = F 2 ∧ rs = [(0, -1)] ∧ f1 = A 1))) := by
  refine kk_ctr en_hM (List.mem_of_getElem? (i := 168) rfl) rfl (Nat.le_of_ble_eq_true rfl) (fun K hC => ?_)
  repeat' first | refine hC.gn [5] _ rfl rfl ?_ | refine And.intro ?_ ?_ | exact True.intro | refine hC.iadd [5] rfl rfl (by first | omega | (simp only [Int.reduceToNat] at *; omega)) ?_ | refine hC.isub [5] rfl rfl (by first | omega | (simp only [Int.reduceToNat] at *; omega)) ?_ | refine hC.imul [5] rfl rfl (by first | omega | (simp only [Int.reduceToNat] at *; omega)) ?_ | refine hC.iinc [5] rfl rfl rfl rfl (by first | omega | (simp only [Int.reduceToNat] at *; omega)) ?_ | refine hC.go [5] _ rfl rfl ?_ | (intro h; first | exact (h rfl).elim | (exfalso; cases h; done) | (dsimp only [kk_cP, kk_cN] at h) | skip)
  refine (show ∀ F1 : Nat → Int, F1 2 = F 2 → mm_I Bm F1 A → K 5 [(0, (4, 0)), (1, (0, a)), (2, (0, b)), (3, (0, c)), (4, (0, e)), (5, (0, f))] [] (mm_w F1 A) from ?_) (kk_up F 0 0) rfl hI
  clear hI
  intro F1 e2 hI
  have hI2 := hI.1
  repeat' first | refine hC.gn [] _ rfl rfl ?_ | refine And.intro ?_ ?_ | exact True.intro | refine hC.iadd [] rfl rfl (by first | omega | (simp only [Int.reduceToNat] at *; omega)) ?_ | refine hC.isub [] rfl rfl (by first | omega | (simp only [Int.reduceToNat] at *; omega)) ?_ | refine hC.imul [] rfl rfl (by first | omega | (simp only [Int.reduceToNat] at *; omega)) ?_ | refine hC.iinc [] rfl rfl rfl rfl (by first | omega | (simp only [Int.reduceToNat] at *; omega)) ?_ | refine hC.go [] _ rfl rfl ?_ | (intro h; first | exact (h rfl).elim | (exfalso; cases h; done) | (dsimp only [kk_cP, kk_cN] at h) | skip)
  all_goals first | omega | exact ⟨F1, A 1, rfl, ⟨hI.1, mm_fr.up1 (s' := 0) (f := A 1) hI.2⟩, Or.inr ⟨by omega, e2, rfl, rfl⟩⟩ | skip
  refine hC.same (mm_come l _ F1 A _ (by omega) (by omega)) rfl rfl rfl rfl (Nat.le_refl _) ?_
  rintro rs w' ⟨rfl, G1, rfl, g1, g2⟩
  repeat' first | refine hC.gn [] _ rfl rfl ?_ | refine And.intro ?_ ?_ | exact True.intro | refine hC.iadd [] rfl rfl (by first | omega | (simp only [Int.reduceToNat] at *; omega)) ?_ | refine hC.isub [] rfl rfl (by first | omega | (simp only [Int.reduceToNat] at *; omega)) ?_ | refine hC.imul [] rfl rfl (by first | omega | (simp only [Int.reduceToNat] at *; omega)) ?_ | refine hC.iinc [] rfl rfl rfl rfl (by first | omega | (simp only [Int.reduceToNat] at *; omega)) ?_ | refine hC.go [] _ rfl rfl ?_ | (intro h; first | exact (h rfl).elim | (exfalso; cases h; done) | (dsimp only [kk_cP, kk_cN] at h) | skip)
  refine hC.same (mm_come l _ G1 (mm_up A 1 _) _ (by omega) (by omega)) rfl rfl rfl rfl (Nat.le_refl _) ?_
  rintro rs w' ⟨rfl, G2, rfl, g3, g4⟩
  repeat' first | refine hC.gn [] _ rfl rfl ?_ | refine And.intro ?_ ?_ | exact True.intro | refine hC.iadd [] rfl rfl (by first | omega | (simp only [Int.reduceToNat] at *; omega)) ?_ | refine hC.isub [] rfl rfl (by first | omega | (simp only [Int.reduceToNat] at *; omega)) ?_ | refine hC.imul [] rfl rfl (by first | omega | (simp only [Int.reduceToNat] at *; omega)) ?_ | refine hC.iinc [] rfl rfl rfl rfl (by first | omega | (simp only [Int.reduceToNat] at *; omega)) ?_ | refine hC.go [] _ rfl rfl ?_ | (intro h; first | exact (h rfl).elim | (exfalso; cases h; done) | (dsimp only [kk_cP, kk_cN] at h) | skip)
  refine hC.same (mm_come l _ G2 (mm_up (mm_up A 1 _) 1 _) _ (by omega) (by omega)) rfl rfl rfl rfl (Nat.le_refl _) ?_
  rintro rs w' ⟨rfl, G3, rfl, g5, g6⟩
  repeat' first | refine hC.gn [] _ rfl rfl ?_ | refine And.intro ?_ ?_ | exact True.intro | refine hC.iadd [] rfl rfl (by first | omega | (simp only [Int.reduceToNat] at *; omega)) ?_ | refine hC.isub [] rfl rfl (by first | omega | (simp only [Int.reduceToNat] at *; omega)) ?_ | refine hC.imul [] rfl rfl (by first | omega | (simp only [Int.reduceToNat] at *; omega)) ?_ | refine hC.iinc [] rfl rfl rfl rfl (by first | omega | (simp only [Int.reduceToNat] at *; omega)) ?_ | refine hC.go [] _ rfl rfl ?_ | (intro h; first | exact (h rfl).elim | (exfalso; cases h; done) | (dsimp only [kk_cP, kk_cN] at h) | skip)
  refine hC.same (mm_come l _ G3 (mm_up (mm_up (mm_up A 1 _) 1 _) 1 _) _ (by omega) (by omega)) rfl rfl rfl rfl (Nat.le_refl _) ?_
  rintro rs w' ⟨rfl, G4, rfl, g7, g8⟩
  repeat' first | refine hC.gn [] _ rfl rfl ?_ | refine And.intro ?_ ?_ | exact True.intro | refine hC.iadd [] rfl rfl (by first | omega | (simp only [Int.reduceToNat] at *; omega)) ?_ | refine hC.isub [] rfl rfl (by first | omega | (simp only [Int.reduceToNat] at *; omega)) ?_ | refine hC.imul [] rfl rfl (by first | omega | (simp only [Int.reduceToNat] at *; omega)) ?_ | refine hC.iinc [] rfl rfl rfl rfl (by first | omega | (simp only [Int.reduceToNat] at *; omega)) ?_ | refine hC.go [] _ rfl rfl ?_ | (intro h; first | exact (h rfl).elim | (exfalso; cases h; done) | (dsimp only [kk_cP, kk_cN] at h) | skip)
  refine hC.same (mm_come l _ G4 (mm_up (mm_up (mm_up (mm_up A 1 _) 1 _) 1 _) 1 _) _ (by omega) (by omega)) rfl rfl rfl rfl (Nat.le_refl _) ?_
  rintro rs w' ⟨rfl, G5, rfl, g9, g10⟩
  repeat' first | refine hC.gn [] _ rfl rfl ?_ | refine And.intro ?_ ?_ | exact True.intro | refine hC.iadd [] rfl rfl (by first | omega | (simp only [Int.reduceToNat] at *; omega)) ?_ | refine hC.isub [] rfl rfl (by first | omega | (simp only [Int.reduceToNat] at *; omega)) ?_ | refine hC.imul [] rfl rfl (by first | omega | (simp only [Int.reduceToNat] at *; omega)) ?_ | refine hC.iinc [] rfl rfl rfl rfl (by first | omega | (simp only [Int.reduceToNat] at *; omega)) ?_ | refine hC.go [] _ rfl rfl ?_ | (intro h; first | exact (h rfl).elim | (exfalso; cases h; done) | (dsimp only [kk_cP, kk_cN] at h) | skip)
  have gg : ∀ k, k ≠ 2 → G5 k = F1 k := fun k hk => (g9 k hk).trans ((g7 k hk).trans ((g5 k hk).trans ((g3 k hk).trans (g1 k hk))))
  have e5 : G5 2 = F 2 + 20 := by omega
  refine ⟨G5, fb5 (A 1) (F 2) a b c e f, ?_, ⟨by omega, ?_⟩, Or.inl ⟨by omega, e5, by rw [← e5], rfl⟩⟩
  · unfold fb5
    rw [g8, g6, g4, g2, e2]
    rfl
  · rw [gg 23 (by decide), gg 31 (by decide), gg 37 (by decide), gg 26 (by decide), gg 35 (by decide), gg 10 (by decide)]
    exact mm_fr.up1 (s' := 0) hI.2
set_option maxRecDepth 100000 in
set_option maxHeartbeats 4000000 in
theorem mm_faultI (l : Launch) (d : Nat) (F : Nat → Int) (A : Nat → Nat → Int) (hI : mm_I Bm F A) : kk_Ctr l d en_t_X11_fault [(4, 0)] (mm_w F A) (mm_Po Bm (F 2) (A 10) 0) := by
  refine kk_ctr en_hM (List.mem_of_getElem? (i := 171) rfl) rfl (Nat.le_of_ble_eq_true rfl) (fun K hC => ?_)
  repeat' first | refine hC.gn [] _ rfl rfl ?_ | refine And.intro ?_ ?_ | exact True.intro | refine hC.iadd [] rfl rfl (by first | omega | (simp only [Int.reduceToNat] at *; omega)) ?_ | refine hC.isub [] rfl rfl (by first | omega | (simp only [Int.reduceToNat] at *; omega)) ?_ | refine hC.imul [] rfl rfl (by first | omega | (simp only [Int.reduceToNat] at *; omega)) ?_ | refine hC.iinc [] rfl rfl rfl rfl (by first | omega | (simp only [Int.reduceToNat] at *; omega)) ?_ | refine hC.go [] _ rfl rfl ?_ | (intro h; first | exact (h rfl).elim | (exfalso; cases h; done) | (dsimp only [kk_cP, kk_cN] at h) | skip)
  exact ⟨kk_up F 0 0, A, _, rfl, rfl, hI, rfl, rfl⟩
set_option maxRecDepth 100000 in
set_option maxHeartbeats 4000000 in
theorem mm_coveringI (l : Launch) (d : Nat) (F : Nat → Int) (A : Nat → Nat → Int) (hI : mm_I Bm F A) : kk_Ctr l d en_t_X11_covering [(4, 0)] (mm_w F A) (mm_Po Bm (F 2) (A 10) 0) := by
  refine kk_ctr en_hM (List.mem_of_getElem? (i := 185) rfl) rfl (Nat.le_of_ble_eq_true rfl) (fun K hC => ?_)
  repeat' first | refine hC.gn [] _ rfl rfl ?_ | refine And.intro ?_ ?_ | exact True.intro | refine hC.iadd [] rfl rfl (by first | omega | (simp only [Int.reduceToNat] at *; omega)) ?_ | refine hC.isub [] rfl rfl (by first | omega | (simp only [Int.reduceToNat] at *; omega)) ?_ | refine hC.imul [] rfl rfl (by first | omega | (simp only [Int.reduceToNat] at *; omega)) ?_ | refine hC.iinc [] rfl rfl rfl rfl (by first | omega | (simp only [Int.reduceToNat] at *; omega)) ?_ | refine hC.go [] _ rfl rfl ?_ | (intro h; first | exact (h rfl).elim | (exfalso; cases h; done) | (dsimp only [kk_cP, kk_cN] at h) | skip)
  exact ⟨kk_up F 0 0, A, _, rfl, rfl, hI, rfl, rfl⟩
set_option maxRecDepth 100000 in
set_option maxHeartbeats 4000000 in
theorem mm_watchI (l : Launch) (d : Nat) (F : Nat → Int) (A : Nat → Nat → Int) (hI : mm_I Bm F A) : kk_Ctr l d en_t_X11_watch [(4, 0)] (mm_w F A) (mm_Po Bm (F 2) (A 10) 0) := by
  refine kk_ctr en_hM (List.mem_of_getElem? (i := 193) rfl) rfl (Nat.le_of_ble_eq_true rfl) (fun K hC => ?_)
  repeat' first | refine hC.gn [] _ rfl rfl ?_ | refine And.intro ?_ ?_ | exact True.intro | refine hC.iadd [] rfl rfl (by first | omega | (simp only [Int.reduceToNat] at *; omega)) ?_ | refine hC.isub [] rfl rfl (by first | omega | (simp only [Int.reduceToNat] at *; omega)) ?_ | refine hC.imul [] rfl rfl (by first | omega | (simp only [Int.reduceToNat] at *; omega)) ?_ | refine hC.iinc [] rfl rfl rfl rfl (by first | omega | (simp only [Int.reduceToNat] at *; omega)) ?_ | refine hC.go [] _ rfl rfl ?_ | (intro h; first | exact (h rfl).elim | (exfalso; cases h; done) | (dsimp only [kk_cP, kk_cN] at h) | skip)
  exact ⟨kk_up F 0 0, A, _, rfl, rfl, hI, rfl, rfl⟩
set_option maxRecDepth 100000 in
set_option maxHeartbeats 4000000 in
theorem mm_countI (l : Launch) (d : Nat) (F : Nat → Int) (A : Nat → Nat → Int) (q : Int) (hI : mm_I Bm F A) : kk_Ctr l d en_t_X11_count [(4, 0), (0, q)] (mm_w F A) (mm_Po Bm (F 2) (A 10) 0) := by
  refine kk_ctr en_hM (List.mem_of_getElem? (i := 205) rfl) rfl (Nat.le_of_ble_eq_true rfl) (fun K hC => ?_)
  repeat' first | refine hC.gn [] _ rfl rfl ?_ | refine And.intro ?_ ?_ | exact True.intro | refine hC.iadd [] rfl rfl (by first | omega | (simp only [Int.reduceToNat] at *; omega)) ?_ | refine hC.isub [] rfl rfl (by first | omega | (simp only [Int.reduceToNat] at *; omega)) ?_ | refine hC.imul [] rfl rfl (by first | omega | (simp only [Int.reduceToNat] at *; omega)) ?_ | refine hC.iinc [] rfl rfl rfl rfl (by first | omega | (simp only [Int.reduceToNat] at *; omega)) ?_ | refine hC.go [] _ rfl rfl ?_ | (intro h; first | exact (h rfl).elim | (exfalso; cases h; done) | (dsimp only [kk_cP, kk_cN] at h) | skip)
  all_goals first | rfl | omega | exact ⟨_, rfl⟩ | exact Or.inl rfl | exact Or.inr rfl | (simp only [Int.reduceToNat] at *; omega) | exact ⟨kk_up F 0 0, A, _, rfl, rfl, hI, rfl, rfl⟩
set_option maxRecDepth 100000 in
set_option maxHeartbeats 4000000 in
theorem mm_chapterI (l : Launch) (d : Nat) (F : Nat → Int) (A : Nat → Nat → Int) (c q : Int) (hI : mm_I Bm F A) : kk_Ctr l (d + 2) en_t_X11_chapter [(4, 0), (0, c), (0, q)] (mm_w F A) (mm_Po Bm (F 2) (A 10) 0) := by
  refine kk_ctr en_hM (List.mem_of_getElem? (i := 172) rfl) rfl (Nat.le_of_ble_eq_true rfl) (fun K hC => ?_)
  repeat' first | refine hC.gn [5] _ rfl rfl ?_ | refine And.intro ?_ ?_ | exact True.intro | refine hC.iadd [5] rfl rfl (by first | omega | (simp only [Int.reduceToNat] at *; omega)) ?_ | refine hC.isub [5] rfl rfl (by first | omega | (simp only [Int.reduceToNat] at *; omega)) ?_ | refine hC.imul [5] rfl rfl (by first | omega | (simp only [Int.reduceToNat] at *; omega)) ?_ | refine hC.iinc [5] rfl rfl rfl rfl (by first | omega | (simp only [Int.reduceToNat] at *; omega)) ?_ | refine hC.go [5] _ rfl rfl ?_ | (intro h; first | exact (h rfl).elim | (exfalso; cases h; done) | (dsimp only [kk_cP, kk_cN] at h) | skip)
  refine (show ∀ F1 : Nat → Int, F1 2 = F 2 → mm_I Bm F1 A → K 5 [(0, (4, 0)), (1, (0, c)), (2, (0, q))] [] (mm_w F1 A) from ?_) (kk_up F 0 0) rfl hI
  clear hI
  intro F1 e2 hI
  repeat' first | refine hC.gn [] _ rfl rfl ?_ | refine And.intro ?_ ?_ | exact True.intro | refine hC.iadd [] rfl rfl (by first | omega | (simp only [Int.reduceToNat] at *; omega)) ?_ | refine hC.isub [] rfl rfl (by first | omega | (simp only [Int.reduceToNat] at *; omega)) ?_ | refine hC.imul [] rfl rfl (by first | omega | (simp only [Int.reduceToNat] at *; omega)) ?_ | refine hC.iinc [] rfl rfl rfl rfl (by first | omega | (simp only [Int.reduceToNat] at *; omega)) ?_ | refine hC.go [] _ rfl rfl ?_ | (intro h; first | exact (h rfl).elim | (exfalso; cases h; done) | (dsimp only [kk_cP, kk_cN] at h) | skip) | (refine hC.same (mm_isChapter l _ _ _ hI.cn) rfl rfl rfl rfl (Nat.le_refl _) ?_; rintro rs w' ⟨rfl, ⟨rfl, u1, u2, u3⟩ | rfl⟩) | (refine hC.same (mm_refuse l _ F1 A) rfl rfl rfl rfl (Nat.le_refl _) ?_; rintro rs w' ⟨rfl, rfl⟩)
  all_goals first | rfl | omega | exact ⟨_, rfl⟩ | exact Or.inl rfl | exact Or.inr rfl | (simp only [Int.reduceToNat] at *; omega) | exact ⟨F1, A, _, rfl, rfl, hI, e2, rfl⟩ | exact ⟨kk_up F1 0 1, A, _, rfl, rfl, hI, e2, rfl⟩
set_option maxRecDepth 100000 in
set_option maxHeartbeats 4000000 in
theorem mm_worksOf (l : Launch) (d : Nat) (F : Nat → Int) (A : Nat → Nat → Int) (m : Int) (h1 : 0 ≤ m) (h2 : m ≤ 3) : kk_Ctr l (d + 1) en_t_X11_worksOf [(4, 0), (0, m)] (mm_w F A) (mm_Rd F A) := by
  refine kk_ctr en_hM (List.mem_of_getElem? (i := 214) rfl) rfl (Nat.le_of_ble_eq_true rfl) (fun K hC => ?_)
  have k4 : ∀ (n : Nat) (i : Int) (x : Int), (9 - i).toNat < n → (0 ≤ i ∧ i ≤ 8) → K 4 [(0, (4, 0)), (1, (0, m)), (2, (0, x)), (3, (0, i))] [] (mm_w F A) := by
    intro n
    induction n with
    | zero => intro i x hz; exact absurd hz (Nat.not_lt_zero _)
    | succ n ih =>
      intro i x hn h0
      refine hC.go [] _ rfl rfl ?_
      repeat' first | refine hC.gn [4] _ rfl rfl ?_ | refine And.intro ?_ ?_ | exact True.intro | refine hC.iadd [4] rfl rfl (by first | omega | (simp only [Int.reduceToNat] at *; omega)) ?_ | refine hC.isub [4] rfl rfl (by first | omega | (simp only [Int.reduceToNat] at *; omega)) ?_ | refine hC.imul [4] rfl rfl (by first | omega | (simp only [Int.reduceToNat] at *; omega)) ?_ | refine hC.iinc [4] rfl rfl rfl rfl (by first | omega | (simp only [Int.reduceToNat] at *; omega)) ?_ | refine hC.go [4] _ rfl rfl ?_ | (intro h; first | exact (h rfl).elim | (exfalso; cases h; done) | (dsimp only [kk_cP, kk_cN] at h) | skip) | (refine hC.same (mm_workOf l _ _ _ m i (by omega) (by omega) (by omega) (by omega)) rfl rfl rfl rfl (Nat.le_refl _) ?_; rintro rs w' ⟨rfl, rfl⟩)
      all_goals first | rfl | omega | exact ⟨_, rfl⟩ | exact Or.inl rfl | exact Or.inr rfl | (simp only [Int.reduceToNat] at *; omega) | exact hC.sub [(0, (4, 0)), (1, (0, _)), (2, (0, _)), (3, (0, _))] ⟨rfl, rfl, rfl, rfl, trivial⟩ (ih _ _ (by omega) (by omega))
  repeat' first | refine hC.gn [4] _ rfl rfl ?_ | refine And.intro ?_ ?_ | exact True.intro | refine hC.iadd [4] rfl rfl (by first | omega | (simp only [Int.reduceToNat] at *; omega)) ?_ | refine hC.isub [4] rfl rfl (by first | omega | (simp only [Int.reduceToNat] at *; omega)) ?_ | refine hC.imul [4] rfl rfl (by first | omega | (simp only [Int.reduceToNat] at *; omega)) ?_ | refine hC.iinc [4] rfl rfl rfl rfl (by first | omega | (simp only [Int.reduceToNat] at *; omega)) ?_ | refine hC.go [4] _ rfl rfl ?_ | (intro h; first | exact (h rfl).elim | (exfalso; cases h; done) | (dsimp only [kk_cP, kk_cN] at h) | skip)
  exact hC.sub [(0, (4, 0)), (1, (0, _)), (2, (0, _)), (3, (0, _))] ⟨rfl, rfl, rfl, rfl, trivial⟩ (k4 _ _ _ (Nat.lt_succ_self _) (by omega))
set_option maxRecDepth 100000 in
set_option maxHeartbeats 4000000 in
theorem mm_workLeft (l : Launch) (d : Nat) (F : Nat → Int) (A : Nat → Nat → Int) (m : Int) (h1 : 0 ≤ m) (h2 : m ≤ 3) : kk_Ctr l (d + 1) en_t_X11_workLeft [(4, 0), (0, m)] (mm_w F A) (mm_Rd F A) := by
  refine kk_ctr en_hM (List.mem_of_getElem? (i := 215) rfl) rfl (Nat.le_of_ble_eq_true rfl) (fun K hC => ?_)
  have k4 : ∀ (n : Nat) (i : Int) (x : Int), (9 - i).toNat < n → (0 ≤ i ∧ i ≤ 8) → K 4 [(0, (4, 0)), (1, (0, m)), (2, (0, x)), (3, (0, i))] [] (mm_w F A) := by
    intro n
    induction n with
    | zero => intro i x hz; exact absurd hz (Nat.not_lt_zero _)
    | succ n ih =>
      intro i x hn h0
      refine hC.go [] _ rfl rfl ?_
      repeat' first | refine hC.gn [4] _ rfl rfl ?_ | refine And.intro ?_ ?_ | exact True.intro | refine hC.iadd [4] rfl rfl (by first | omega | (simp only [Int.reduceToNat] at *; omega)) ?_ | refine hC.isub [4] rfl rfl (by first | omega | (simp only [Int.reduceToNat] at *; omega)) ?_ | refine hC.imul [4] rfl rfl (by first | omega | (simp only [Int.reduceToNat] at *; omega)) ?_ | refine hC.iinc [4] rfl rfl rfl rfl (by first | omega | (simp only [Int.reduceToNat] at *; omega)) ?_ | refine hC.go [4] _ rfl rfl ?_ | (intro h; first | exact (h rfl).elim | (exfalso; cases h; done) | (dsimp only [kk_cP, kk_cN] at h) | skip) | (refine hC.same (mm_workOf l _ _ _ m i (by omega) (by omega) (by omega) (by omega)) rfl rfl rfl rfl (Nat.le_refl _) ?_; rintro rs w' ⟨rfl, rfl⟩)
      all_goals first | rfl | omega | exact ⟨_, rfl⟩ | exact Or.inl rfl | exact Or.inr rfl | (simp only [Int.reduceToNat] at *; omega) | exact hC.sub [(0, (4, 0)), (1, (0, _)), (2, (0, _)), (3, (0, _))] ⟨rfl, rfl, rfl, rfl, trivial⟩ (ih _ _ (by omega) (by omega))
  repeat' first | refine hC.gn [4] _ rfl rfl ?_ | refine And.intro ?_ ?_ | exact True.intro | refine hC.iadd [4] rfl rfl (by first | omega | (simp only [Int.reduceToNat] at *; omega)) ?_ | refine hC.isub [4] rfl rfl (by first | omega | (simp only [Int.reduceToNat] at *; omega)) ?_ | refine hC.imul [4] rfl rfl (by first | omega | (simp only [Int.reduceToNat] at *; omega)) ?_ | refine hC.iinc [4] rfl rfl rfl rfl (by first | omega | (simp only [Int.reduceToNat] at *; omega)) ?_ | refine hC.go [4] _ rfl rfl ?_ | (intro h; first | exact (h rfl).elim | (exfalso; cases h; done) | (dsimp only [kk_cP, kk_cN] at h) | skip)
  exact hC.sub [(0, (4, 0)), (1, (0, _)), (2, (0, _)), (3, (0, _))] ⟨rfl, rfl, rfl, rfl, trivial⟩ (k4 _ _ _ (Nat.lt_succ_self _) (by omega))
set_option maxRecDepth 100000 in
set_option maxHeartbeats 4000000 in
theorem mm_monkI (l : Launch) (d : Nat) (F : Nat → Int) (A : Nat → Nat → Int) (m q : Int) (hI : mm_I Bm F A) : kk_Ctr l (d + 2) en_t_X11_monk [(4, 0), (0, m), (0, q)] (mm_w F A) (mm_Po Bm (F 2) (A 10) 0) := by
  refine kk_ctr en_hM (List.mem_of_getElem? (i := 173) rfl) rfl (Nat.le_of_ble_eq_true rfl) (fun K hC => ?_)
  repeat' first | refine hC.gn [5] _ rfl rfl ?_ | refine And.intro ?_ ?_ | exact True.intro | refine hC.iadd [5] rfl rfl (by first | omega | (simp only [Int.reduceToNat] at *; omega)) ?_ | refine hC.isub [5] rfl rfl (by first | omega | (simp only [Int.reduceToNat] at *; omega)) ?_ | refine hC.imul [5] rfl rfl (by first | omega | (simp only [Int.reduceToNat] at *; omega)) ?_ | refine hC.iinc [5] rfl rfl rfl rfl (by first | omega | (simp only [Int.reduceToNat] at *; omega)) ?_ | refine hC.go [5] _ rfl rfl ?_ | (intro h; first | exact (h rfl).elim | (exfalso; cases h; done) | (dsimp only [kk_cP, kk_cN] at h) | skip)
  refine (show ∀ F1 : Nat → Int, F1 2 = F 2 → mm_I Bm F1 A → K 5 [(0, (4, 0)), (1, (0, m)), (2, (0, q))] [] (mm_w F1 A) from ?_) (kk_up F 0 0) rfl hI
  clear hI
  intro F1 e2 hI
  repeat' first | refine hC.gn [] _ rfl rfl ?_ | refine And.intro ?_ ?_ | exact True.intro | refine hC.iadd [] rfl rfl (by first | omega | (simp only [Int.reduceToNat] at *; omega)) ?_ | refine hC.isub [] rfl rfl (by first | omega | (simp only [Int.reduceToNat] at *; omega)) ?_ | refine hC.imul [] rfl rfl (by first | omega | (simp only [Int.reduceToNat] at *; omega)) ?_ | refine hC.iinc [] rfl rfl rfl rfl (by first | omega | (simp only [Int.reduceToNat] at *; omega)) ?_ | refine hC.go [] _ rfl rfl ?_ | (intro h; first | exact (h rfl).elim | (exfalso; cases h; done) | (dsimp only [kk_cP, kk_cN] at h) | skip) | (refine hC.same (mm_isMonk l _ _ _ hI.cn) rfl rfl rfl rfl (Nat.le_refl _) ?_; rintro rs w' ⟨rfl, ⟨rfl, o1, o2, o3⟩ | rfl⟩) | (refine hC.same (mm_refuse l _ F1 A) rfl rfl rfl rfl (Nat.le_refl _) ?_; rintro rs w' ⟨rfl, rfl⟩) | (refine hC.same (mm_worksOf l _ _ _ _ o1 o3) rfl rfl rfl rfl (Nat.le_refl _) ?_; rintro rs w' ⟨rfl, xw, rfl⟩) | (refine hC.same (mm_workLeft l _ _ _ _ o1 o3) rfl rfl rfl rfl (Nat.le_refl _) ?_; rintro rs w' ⟨rfl, xw, rfl⟩)
  all_goals first | rfl | omega | exact ⟨_, rfl⟩ | exact Or.inl rfl | exact Or.inr rfl | (simp only [Int.reduceToNat] at *; omega) | exact ⟨F1, A, _, rfl, rfl, hI, e2, rfl⟩ | exact ⟨kk_up F1 0 1, A, _, rfl, rfl, hI, e2, rfl⟩
set_option maxRecDepth 100000 in
set_option maxHeartbeats 4000000 in
theorem mm_leftI (l : Launch) (d : Nat) (F : Nat → Int) (A : Nat → Nat → Int) (m e : Int) (hI : mm_I Bm F A) : kk_Ctr l (d + 2) en_t_X11_left [(4, 0), (0, m), (0, e)] (mm_w F A) (mm_Po Bm (F 2) (A 10) 0) := by
  refine kk_ctr en_hM (List.mem_of_getElem? (i := 174) rfl) rfl (Nat.le_of_ble_eq_true rfl) (fun K hC => ?_)
  repeat' first | refine hC.gn [5] _ rfl rfl ?_ | refine And.intro ?_ ?_ | exact True.intro | refine hC.iadd [5] rfl rfl (by first | omega | (simp only [Int.reduceToNat] at *; omega)) ?_ | refine hC.isub [5] rfl rfl (by first | omega | (simp only [Int.reduceToNat] at *; omega)) ?_ | refine hC.imul [5] rfl rfl (by first | omega | (simp only [Int.reduceToNat] at *; omega)) ?_ | refine hC.iinc [5] rfl rfl rfl rfl (by first | omega | (simp only [Int.reduceToNat] at *; omega)) ?_ | refine hC.go [5] _ rfl rfl ?_ | (intro h; first | exact (h rfl).elim | (exfalso; cases h; done) | (dsimp only [kk_cP, kk_cN] at h) | skip)
  refine (show ∀ F1 : Nat → Int, F1 2 = F 2 → mm_I Bm F1 A → K 5 [(0, (4, 0)), (1, (0, m)), (2, (0, e))] [] (mm_w F1 A) from ?_) (kk_up F 0 0) rfl hI
  clear hI
  intro F1 e2 hI
  have c8 := hI.cn.2.1
  repeat' first | refine hC.gn [] _ rfl rfl ?_ | refine And.intro ?_ ?_ | exact True.intro | refine hC.iadd [] rfl rfl (by first | omega | (simp only [Int.reduceToNat] at *; omega)) ?_ | refine hC.isub [] rfl rfl (by first | omega | (simp only [Int.reduceToNat] at *; omega)) ?_ | refine hC.imul [] rfl rfl (by first | omega | (simp only [Int.reduceToNat] at *; omega)) ?_ | refine hC.iinc [] rfl rfl rfl rfl (by first | omega | (simp only [Int.reduceToNat] at *; omega)) ?_ | refine hC.go [] _ rfl rfl ?_ | (intro h; first | exact (h rfl).elim | (exfalso; cases h; done) | (dsimp only [kk_cP, kk_cN] at h) | skip) | (refine hC.same (mm_isMonk l _ _ _ hI.cn) rfl rfl rfl rfl (Nat.le_refl _) ?_; rintro rs w' ⟨rfl, ⟨rfl, o1, o2, o3⟩ | rfl⟩) | (refine hC.same (mm_isDeed l _ _ _ ⟨hI.cn.1, hI.cn.2.1⟩) rfl rfl rfl rfl (Nat.le_refl _) ?_; rintro rs w' ⟨rfl, ⟨rfl, v1, v2⟩ | ⟨rfl, v1⟩⟩)
  all_goals first | rfl | omega | exact ⟨_, rfl⟩ | exact Or.inl rfl | exact Or.inr rfl | (simp only [Int.reduceToNat] at *; omega) | exact ⟨F1, A, _, rfl, rfl, hI, e2, rfl⟩ | skip
  refine hC.same (mm_workOf l _ F1 A m e (by omega) (by omega) (by omega) (by omega)) rfl rfl rfl rfl (Nat.le_refl _) ?_
  rintro rs w' ⟨rfl, rfl⟩
  repeat' first | refine hC.gn [] _ rfl rfl ?_ | refine And.intro ?_ ?_ | exact True.intro | refine hC.iadd [] rfl rfl (by first | omega | (simp only [Int.reduceToNat] at *; omega)) ?_ | refine hC.isub [] rfl rfl (by first | omega | (simp only [Int.reduceToNat] at *; omega)) ?_ | refine hC.imul [] rfl rfl (by first | omega | (simp only [Int.reduceToNat] at *; omega)) ?_ | refine hC.iinc [] rfl rfl rfl rfl (by first | omega | (simp only [Int.reduceToNat] at *; omega)) ?_ | refine hC.go [] _ rfl rfl ?_ | (intro h; first | exact (h rfl).elim | (exfalso; cases h; done) | (dsimp only [kk_cP, kk_cN] at h) | skip)
  exact ⟨F1, A, _, rfl, rfl, hI, e2, rfl⟩
set_option maxRecDepth 100000 in
set_option maxHeartbeats 4000000 in
theorem mm_nowI (l : Launch) (d : Nat) (F : Nat → Int) (A : Nat → Nat → Int) (q : Int) (hI : mm_I Bm F A) : kk_Ctr l (d + 2) en_t_X11_now [(4, 0), (0, q)] (mm_w F A) (mm_Po Bm (F 2) (A 10) 0) := by
  refine kk_ctr en_hM (List.mem_of_getElem? (i := 175) rfl) rfl (Nat.le_of_ble_eq_true rfl) (fun K hC => ?_)
  repeat' first | refine hC.gn [5] _ rfl rfl ?_ | refine And.intro ?_ ?_ | exact True.intro | refine hC.iadd [5] rfl rfl (by first | omega | (simp only [Int.reduceToNat] at *; omega)) ?_ | refine hC.isub [5] rfl rfl (by first | omega | (simp only [Int.reduceToNat] at *; omega)) ?_ | refine hC.imul [5] rfl rfl (by first | omega | (simp only [Int.reduceToNat] at *; omega)) ?_ | refine hC.iinc [5] rfl rfl rfl rfl (by first | omega | (simp only [Int.reduceToNat] at *; omega)) ?_ | refine hC.go [5] _ rfl rfl ?_ | (intro h; first | exact (h rfl).elim | (exfalso; cases h; done) | (dsimp only [kk_cP, kk_cN] at h) | skip)
  refine (show ∀ F1 : Nat → Int, F1 2 = F 2 → mm_I Bm F1 A → K 5 [(0, (4, 0)), (1, (0, q))] [] (mm_w F1 A) from ?_) (kk_up F 0 0) rfl hI
  clear hI
  intro F1 e2 hI
  have hvv := hI.vS
  repeat' first | refine hC.gn [] _ rfl rfl ?_ | refine And.intro ?_ ?_ | exact True.intro | refine hC.iadd [] rfl rfl (by first | omega | (simp only [Int.reduceToNat] at *; omega)) ?_ | refine hC.isub [] rfl rfl (by first | omega | (simp only [Int.reduceToNat] at *; omega)) ?_ | refine hC.imul [] rfl rfl (by first | omega | (simp only [Int.reduceToNat] at *; omega)) ?_ | refine hC.iinc [] rfl rfl rfl rfl (by first | omega | (simp only [Int.reduceToNat] at *; omega)) ?_ | refine hC.go [] _ rfl rfl ?_ | (intro h; first | exact (h rfl).elim | (exfalso; cases h; done) | (dsimp only [kk_cP, kk_cN] at h) | skip) | (refine hC.same (mm_mustNow l _ _ _ (by assumption)) rfl rfl rfl rfl (Nat.le_refl _) ?_; rintro rs w' ⟨rfl, xm, rfl⟩) | (refine hC.same (mm_barredNow l _ _ _ (by assumption)) rfl rfl rfl rfl (Nat.le_refl _) ?_; rintro rs w' ⟨rfl, xm, rfl⟩) | (refine hC.same (mm_inBox l _ _ _) rfl rfl rfl rfl (Nat.le_refl _) ?_; rintro rs w' ⟨rfl, rfl⟩) | (refine hC.same (mm_sum l _ _ _ 89 4 (by decide)) rfl rfl rfl rfl (Nat.le_refl _) ?_; rintro rs w' ⟨rfl, rfl⟩) | (refine hC.same (mm_sum l _ _ _ 101 32 (by decide)) rfl rfl rfl rfl (Nat.le_refl _) ?_; rintro rs w' ⟨rfl, rfl⟩)
  all_goals first | rfl | omega | exact ⟨_, rfl⟩ | exact Or.inl rfl | exact Or.inr rfl | (simp only [Int.reduceToNat] at *; omega) | exact ⟨F1, A, _, rfl, rfl, hI, e2, rfl⟩
set_option maxRecDepth 100000 in
set_option maxHeartbeats 4000000 in
theorem mm_drawI (l : Launch) (d : Nat) (F : Nat → Int) (A : Nat → Nat → Int) (x : Int) (hI : mm_I Bm F A) : kk_Ctr l (d + 4) en_t_X11_draw [(4, 0), (0, x)] (mm_w F A) (mm_Po Bm (F 2) (A 10) 0) := by
  refine kk_ctr en_hM (List.mem_of_getElem? (i := 176) rfl) rfl (Nat.le_of_ble_eq_true rfl) (fun K hC => ?_)
  repeat' first | refine hC.gn [5] _ rfl rfl ?_ | refine And.intro ?_ ?_ | exact True.intro | refine hC.iadd [5] rfl rfl (by first | omega | (simp only [Int.reduceToNat] at *; omega)) ?_ | refine hC.isub [5] rfl rfl (by first | omega | (simp only [Int.reduceToNat] at *; omega)) ?_ | refine hC.imul [5] rfl rfl (by first | omega | (simp only [Int.reduceToNat] at *; omega)) ?_ | refine hC.iinc [5] rfl rfl rfl rfl (by first | omega | (simp only [Int.reduceToNat] at *; omega)) ?_ | refine hC.go [5] _ rfl rfl ?_ | (intro h; first | exact (h rfl).elim | (exfalso; cases h; done) | (dsimp only [kk_cP, kk_cN] at h) | skip)
  refine (show ∀ F1 : Nat → Int, F1 2 = F 2 → mm_I Bm F1 A → K 5 [(0, (4, 0)), (1, (0, x))] [] (mm_w F1 A) from ?_) (kk_up F 0 0) rfl hI
  clear hI
  intro F1 e2 hI
  repeat' first | refine hC.gn [] _ rfl rfl ?_ | refine And.intro ?_ ?_ | exact True.intro | refine hC.iadd [] rfl rfl (by first | omega | (simp only [Int.reduceToNat] at *; omega)) ?_ | refine hC.isub [] rfl rfl (by first | omega | (simp only [Int.reduceToNat] at *; omega)) ?_ | refine hC.imul [] rfl rfl (by first | omega | (simp only [Int.reduceToNat] at *; omega)) ?_ | refine hC.iinc [] rfl rfl rfl rfl (by first | omega | (simp only [Int.reduceToNat] at *; omega)) ?_ | refine hC.go [] _ rfl rfl ?_ | (intro h; first | exact (h rfl).elim | (exfalso; cases h; done) | (dsimp only [kk_cP, kk_cN] at h) | skip)
  refine hC.same (mm_why l _ F1 A 0 0 0 hI.vS (by omega) (by omega)) rfl rfl rfl rfl (Nat.le_refl _) ?_
  rintro rs w' ⟨rfl, r, rfl, hr⟩
  repeat' first | refine hC.gn [] _ rfl rfl ?_ | refine And.intro ?_ ?_ | exact True.intro | refine hC.iadd [] rfl rfl (by first | omega | (simp only [Int.reduceToNat] at *; omega)) ?_ | refine hC.isub [] rfl rfl (by first | omega | (simp only [Int.reduceToNat] at *; omega)) ?_ | refine hC.imul [] rfl rfl (by first | omega | (simp only [Int.reduceToNat] at *; omega)) ?_ | refine hC.iinc [] rfl rfl rfl rfl (by first | omega | (simp only [Int.reduceToNat] at *; omega)) ?_ | refine hC.go [] _ rfl rfl ?_ | (intro h; first | exact (h rfl).elim | (exfalso; cases h; done) | (dsimp only [kk_cP, kk_cN] at h) | skip) | (refine hC.same (mm_snap l _ _ _ hI.2.1 hI.vS hI.2.2.2.2.2.2.2.2.1) rfl rfl rfl rfl (Nat.le_refl _) ?_; rintro rs w' ⟨rfl, G, f, rfl, hG, hG8, hsn⟩)
  all_goals first | exact ⟨F1, A, _, rfl, rfl, hI, e2, rfl⟩ | skip
  have hJ : mm_I Bm G (mm_up A 5 f) := hI.snap hG hG8 hsn
  have h2 := (hr (by assumption)).1 rfl
  have h20 := hI.cn.2.2.2.2.1
  refine hC.same (mm_drawOne l _ (kk_up G 25 x) (mm_up A 5 f) hI.rH hI.vS (show 0 < A 2 2 by omega)) rfl rfl rfl rfl (Nat.le_refl _) ?_
  rintro rs w' ⟨rfl, s, N, rfl, q1, q2, q3, q4⟩
  repeat' first | refine hC.gn [] _ rfl rfl ?_ | refine And.intro ?_ ?_ | exact True.intro | refine hC.iadd [] rfl rfl (by first | omega | (simp only [Int.reduceToNat] at *; omega)) ?_ | refine hC.isub [] rfl rfl (by first | omega | (simp only [Int.reduceToNat] at *; omega)) ?_ | refine hC.imul [] rfl rfl (by first | omega | (simp only [Int.reduceToNat] at *; omega)) ?_ | refine hC.iinc [] rfl rfl rfl rfl (by first | omega | (simp only [Int.reduceToNat] at *; omega)) ?_ | refine hC.go [] _ rfl rfl ?_ | (intro h; first | exact (h rfl).elim | (exfalso; cases h; done) | (dsimp only [kk_cP, kk_cN] at h) | skip)
  all_goals first | rfl | omega | exact ⟨_, rfl⟩ | exact Or.inl rfl | exact Or.inr rfl | (simp only [Int.reduceToNat] at *; omega) | exact ⟨kk_up (kk_up G 25 x) 25 s, mm_up (mm_up A 5 f) 2 N, _, rfl, rfl, ⟨hJ.1, hJ.2.st (mm_st.up (fun k hk => q1 k (by omega)) q2) q3⟩, (hG 2 (by decide)).trans e2, rfl⟩
set_option maxRecDepth 100000 in
set_option maxHeartbeats 4000000 in
theorem mm_foldI (l : Launch) (d : Nat) (F : Nat → Int) (A : Nat → Nat → Int) (c : Int) (hI : mm_I Bm F A) : kk_Ctr l (d + 3) en_t_X11_fold [(4, 0), (0, c)] (mm_w F A) (mm_Po Bm (F 2) (A 10) 0) := by
  refine kk_ctr en_hM (List.mem_of_getElem? (i := 177) rfl) rfl (Nat.le_of_ble_eq_true rfl) (fun K hC => ?_)
  repeat' first | refine hC.gn [5] _ rfl rfl ?_ | refine And.intro ?_ ?_ | exact True.intro | refine hC.iadd [5] rfl rfl (by first | omega | (simp only [Int.reduceToNat] at *; omega)) ?_ | refine hC.isub [5] rfl rfl (by first | omega | (simp only [Int.reduceToNat] at *; omega)) ?_ | refine hC.imul [5] rfl rfl (by first | omega | (simp only [Int.reduceToNat] at *; omega)) ?_ | refine hC.iinc [5] rfl rfl rfl rfl (by first | omega | (simp only [Int.reduceToNat] at *; omega)) ?_ | refine hC.go [5] _ rfl rfl ?_ | (intro h; first | exact (h rfl).elim | (exfalso; cases h; done) | (dsimp only [kk_cP, kk_cN] at h) | skip)
  refine (show ∀ F1 : Nat → Int, F1 2 = F 2 → mm_I Bm F1 A → K 5 [(0, (4, 0)), (1, (0, c))] [] (mm_w F1 A) from ?_) (kk_up F 0 0) rfl hI
  clear hI
  intro F1 e2 hI
  repeat' first | refine hC.gn [] _ rfl rfl ?_ | refine And.intro ?_ ?_ | exact True.intro | refine hC.iadd [] rfl rfl (by first | omega | (simp only [Int.reduceToNat] at *; omega)) ?_ | refine hC.isub [] rfl rfl (by first | omega | (simp only [Int.reduceToNat] at *; omega)) ?_ | refine hC.imul [] rfl rfl (by first | omega | (simp only [Int.reduceToNat] at *; omega)) ?_ | refine hC.iinc [] rfl rfl rfl rfl (by first | omega | (simp only [Int.reduceToNat] at *; omega)) ?_ | refine hC.go [] _ rfl rfl ?_ | (intro h; first | exact (h rfl).elim | (exfalso; cases h; done) | (dsimp only [kk_cP, kk_cN] at h) | skip) | (refine hC.same (mm_isChapter l _ _ _ hI.cn) rfl rfl rfl rfl (Nat.le_refl _) ?_; rintro rs w' ⟨rfl, ⟨rfl, u1, u2, u3⟩ | rfl⟩)
  all_goals first | exact ⟨F1, A, _, rfl, rfl, hI, e2, rfl⟩ | skip
  obtain ⟨c', rfl⟩ := Int.eq_ofNat_of_zero_le u1
  refine hC.same (mm_why l _ F1 A 1 c' 0 hI.vS (by omega) (by omega)) rfl rfl rfl rfl (Nat.le_refl _) ?_
  rintro rs w' ⟨rfl, r, rfl, hr⟩
  repeat' first | refine hC.gn [] _ rfl rfl ?_ | refine And.intro ?_ ?_ | exact True.intro | refine hC.iadd [] rfl rfl (by first | omega | (simp only [Int.reduceToNat] at *; omega)) ?_ | refine hC.isub [] rfl rfl (by first | omega | (simp only [Int.reduceToNat] at *; omega)) ?_ | refine hC.imul [] rfl rfl (by first | omega | (simp only [Int.reduceToNat] at *; omega)) ?_ | refine hC.iinc [] rfl rfl rfl rfl (by first | omega | (simp only [Int.reduceToNat] at *; omega)) ?_ | refine hC.go [] _ rfl rfl ?_ | (intro h; first | exact (h rfl).elim | (exfalso; cases h; done) | (dsimp only [kk_cP, kk_cN] at h) | skip) | (refine hC.same (mm_snap l _ _ _ hI.2.1 hI.vS hI.2.2.2.2.2.2.2.2.1) rfl rfl rfl rfl (Nat.le_refl _) ?_; rintro rs w' ⟨rfl, G, f, rfl, hG, hG8, hsn⟩)
  all_goals first | exact ⟨F1, A, _, rfl, rfl, hI, e2, rfl⟩ | skip
  have hJ : mm_I Bm G (mm_up A 5 f) := hI.snap hG hG8 hsn
  have h2 := (hr (by assumption)).2 rfl
  have h3 : A 2 (69 + c') ≠ 0 := h2
  have h4 := hI.vS.2.2.1 c' (by omega)
  refine hC.same (mm_comes l _ G (mm_up A 5 f) c' (by omega) hI.rH hI.vS (show 1 ≤ A 2 (69 + c') by omega)) rfl rfl rfl rfl (Nat.le_refl _) ?_
  rintro rs w' ⟨rfl, N, rfl, q1, q2, q3, q4⟩
  repeat' first | refine hC.gn [] _ rfl rfl ?_ | refine And.intro ?_ ?_ | exact True.intro | refine hC.iadd [] rfl rfl (by first | omega | (simp only [Int.reduceToNat] at *; omega)) ?_ | refine hC.isub [] rfl rfl (by first | omega | (simp only [Int.reduceToNat] at *; omega)) ?_ | refine hC.imul [] rfl rfl (by first | omega | (simp only [Int.reduceToNat] at *; omega)) ?_ | refine hC.iinc [] rfl rfl rfl rfl (by first | omega | (simp only [Int.reduceToNat] at *; omega)) ?_ | refine hC.go [] _ rfl rfl ?_ | (intro h; first | exact (h rfl).elim | (exfalso; cases h; done) | (dsimp only [kk_cP, kk_cN] at h) | skip)
  all_goals first | rfl | omega | exact ⟨_, rfl⟩ | exact Or.inl rfl | exact Or.inr rfl | (simp only [Int.reduceToNat] at *; omega) | exact ⟨G, mm_up (mm_up A 5 f) 2 N, _, rfl, rfl, ⟨hJ.1, hJ.2.st (mm_st.up (fun k hk => q1 k (by omega)) q2) q3⟩, (hG 2 (by decide)).trans e2, rfl⟩
set_option maxRecDepth 100000 in
set_option maxHeartbeats 4000000 in
theorem mm_doesI (l : Launch) (d : Nat) (F : Nat → Int) (A : Nat → Nat → Int) (m e : Int) (hI : mm_I Bm F A) : kk_Ctr l (d + 3) en_t_X11_does [(4, 0), (0, m), (0, e)] (mm_w F A) (mm_Po Bm (F 2) (A 10) 0) := by
  refine kk_ctr en_hM (List.mem_of_getElem? (i := 178) rfl) rfl (Nat.le_of_ble_eq_true rfl) (fun K hC => ?_)
  repeat' first | refine hC.gn [5] _ rfl rfl ?_ | refine And.intro ?_ ?_ | exact True.intro | refine hC.iadd [5] rfl rfl (by first | omega | (simp only [Int.reduceToNat] at *; omega)) ?_ | refine hC.isub [5] rfl rfl (by first | omega | (simp only [Int.reduceToNat] at *; omega)) ?_ | refine hC.imul [5] rfl rfl (by first | omega | (simp only [Int.reduceToNat] at *; omega)) ?_ | refine hC.iinc [5] rfl rfl rfl rfl (by first | omega | (simp only [Int.reduceToNat] at *; omega)) ?_ | refine hC.go [5] _ rfl rfl ?_ | (intro h; first | exact (h rfl).elim | (exfalso; cases h; done) | (dsimp only [kk_cP, kk_cN] at h) | skip)
  refine (show ∀ F1 : Nat → Int, F1 2 = F 2 → mm_I Bm F1 A → K 5 [(0, (4, 0)), (1, (0, m)), (2, (0, e))] [] (mm_w F1 A) from ?_) (kk_up F 0 0) rfl hI
  clear hI
  intro F1 e2 hI
  have c8 := hI.cn.2.1
  repeat' first | refine hC.gn [] _ rfl rfl ?_ | refine And.intro ?_ ?_ | exact True.intro | refine hC.iadd [] rfl rfl (by first | omega | (simp only [Int.reduceToNat] at *; omega)) ?_ | refine hC.isub [] rfl rfl (by first | omega | (simp only [Int.reduceToNat] at *; omega)) ?_ | refine hC.imul [] rfl rfl (by first | omega | (simp only [Int.reduceToNat] at *; omega)) ?_ | refine hC.iinc [] rfl rfl rfl rfl (by first | omega | (simp only [Int.reduceToNat] at *; omega)) ?_ | refine hC.go [] _ rfl rfl ?_ | (intro h; first | exact (h rfl).elim | (exfalso; cases h; done) | (dsimp only [kk_cP, kk_cN] at h) | skip) | (refine hC.same (mm_isMonk l _ _ _ hI.cn) rfl rfl rfl rfl (Nat.le_refl _) ?_; rintro rs w' ⟨rfl, ⟨rfl, o1, o2, o3⟩ | rfl⟩) | (refine hC.same (mm_isDeed l _ _ _ ⟨hI.cn.1, hI.cn.2.1⟩) rfl rfl rfl rfl (Nat.le_refl _) ?_; rintro rs w' ⟨rfl, ⟨rfl, v1, v2⟩ | ⟨rfl, v1⟩⟩)
  all_goals first | exact ⟨F1, A, _, rfl, rfl, hI, e2, rfl⟩ | skip
  refine hC.same (mm_why l _ F1 A 2 m e hI.vS (by omega) (by omega)) rfl rfl rfl rfl (Nat.le_refl _) ?_
  rintro rs w' ⟨rfl, r, rfl, hr⟩
  repeat' first | refine hC.gn [] _ rfl rfl ?_ | refine And.intro ?_ ?_ | exact True.intro | refine hC.iadd [] rfl rfl (by first | omega | (simp only [Int.reduceToNat] at *; omega)) ?_ | refine hC.isub [] rfl rfl (by first | omega | (simp only [Int.reduceToNat] at *; omega)) ?_ | refine hC.imul [] rfl rfl (by first | omega | (simp only [Int.reduceToNat] at *; omega)) ?_ | refine hC.iinc [] rfl rfl rfl rfl (by first | omega | (simp only [Int.reduceToNat] at *; omega)) ?_ | refine hC.go [] _ rfl rfl ?_ | (intro h; first | exact (h rfl).elim | (exfalso; cases h; done) | (dsimp only [kk_cP, kk_cN] at h) | skip) | (refine hC.same (mm_snap l _ _ _ hI.2.1 hI.vS hI.2.2.2.2.2.2.2.2.1) rfl rfl rfl rfl (Nat.le_refl _) ?_; rintro rs w' ⟨rfl, G, f, rfl, hG, hG8, hsn⟩)
  all_goals first | exact ⟨F1, A, _, rfl, rfl, hI, e2, rfl⟩ | skip
  have hJ : mm_I Bm G (mm_up A 5 f) := hI.snap hG hG8 hsn
  refine hC.same (mm_doOne l _ G (mm_up A 5 f) m e (by omega) (by omega) (by omega) (by omega) hI.vS) rfl rfl rfl rfl (Nat.le_refl _) ?_
  rintro rs w' ⟨rfl, B, rfl, q1, q2⟩
  repeat' first | refine hC.gn [] _ rfl rfl ?_ | refine And.intro ?_ ?_ | exact True.intro | refine hC.iadd [] rfl rfl (by first | omega | (simp only [Int.reduceToNat] at *; omega)) ?_ | refine hC.isub [] rfl rfl (by first | omega | (simp only [Int.reduceToNat] at *; omega)) ?_ | refine hC.imul [] rfl rfl (by first | omega | (simp only [Int.reduceToNat] at *; omega)) ?_ | refine hC.iinc [] rfl rfl rfl rfl (by first | omega | (simp only [Int.reduceToNat] at *; omega)) ?_ | refine hC.go [] _ rfl rfl ?_ | (intro h; first | exact (h rfl).elim | (exfalso; cases h; done) | (dsimp only [kk_cP, kk_cN] at h) | skip)
  all_goals first | rfl | omega | exact ⟨_, rfl⟩ | exact Or.inl rfl | exact Or.inr rfl | (simp only [Int.reduceToNat] at *; omega) | exact ⟨G, B, _, rfl, rfl, ⟨hJ.1, hJ.2.st q1 q2⟩, (hG 2 (by decide)).trans e2, q1.1 10 (by decide)⟩
set_option maxRecDepth 100000 in
set_option maxHeartbeats 4000000 in
theorem mm_nightI (l : Launch) (d : Nat) (F : Nat → Int) (A : Nat → Nat → Int) (hI : mm_I Bm F A) : kk_Ctr l (d + 3) en_t_X11_night [(4, 0)] (mm_w F A) (mm_Po Bm (F 2) (A 10) 0) := by
  refine kk_ctr en_hM (List.mem_of_getElem? (i := 179) rfl) rfl (Nat.le_of_ble_eq_true rfl) (fun K hC => ?_)
  repeat' first | refine hC.gn [5] _ rfl rfl ?_ | refine And.intro ?_ ?_ | exact True.intro | refine hC.iadd [5] rfl rfl (by first | omega | (simp only [Int.reduceToNat] at *; omega)) ?_ | refine hC.isub [5] rfl rfl (by first | omega | (simp only [Int.reduceToNat] at *; omega)) ?_ | refine hC.imul [5] rfl rfl (by first | omega | (simp only [Int.reduceToNat] at *; omega)) ?_ | refine hC.iinc [5] rfl rfl rfl rfl (by first | omega | (simp only [Int.reduceToNat] at *; omega)) ?_ | refine hC.go [5] _ rfl rfl ?_ | (intro h; first | exact (h rfl).elim | (exfalso; cases h; done) | (dsimp only [kk_cP, kk_cN] at h) | skip)
  refine (show ∀ F1 : Nat → Int, F1 2 = F 2 → mm_I Bm F1 A → K 5 [(0, (4, 0))] [] (mm_w F1 A) from ?_) (kk_up F 0 0) rfl hI
  clear hI
  intro F1 e2 hI
  have hvv := hI.vS
  repeat' first | refine hC.gn [] _ rfl rfl ?_ | refine And.intro ?_ ?_ | exact True.intro | refine hC.iadd [] rfl rfl (by first | omega | (simp only [Int.reduceToNat] at *; omega)) ?_ | refine hC.isub [] rfl rfl (by first | omega | (simp only [Int.reduceToNat] at *; omega)) ?_ | refine hC.imul [] rfl rfl (by first | omega | (simp only [Int.reduceToNat] at *; omega)) ?_ | refine hC.iinc [] rfl rfl rfl rfl (by first | omega | (simp only [Int.reduceToNat] at *; omega)) ?_ | refine hC.go [] _ rfl rfl ?_ | (intro h; first | exact (h rfl).elim | (exfalso; cases h; done) | (dsimp only [kk_cP, kk_cN] at h) | skip) | (refine hC.same (mm_holds l _ _ _ (by assumption)) rfl rfl rfl rfl (Nat.le_refl _) ?_; rintro rs w' ⟨rfl, ⟨rfl, o1⟩ | ⟨rfl, o1⟩⟩) | (refine hC.same (mm_snap l _ _ _ hI.2.1 hI.vS hI.2.2.2.2.2.2.2.2.1) rfl rfl rfl rfl (Nat.le_refl _) ?_; rintro rs w' ⟨rfl, G, f, rfl, hG, hG8, hsn⟩)
  all_goals first | exact ⟨F1, A, _, rfl, rfl, hI, e2, rfl⟩ | skip
  have hJ : mm_I Bm G (mm_up A 5 f) := hI.snap hG hG8 hsn
  refine hC.same (mm_nightComes l _ G (mm_up A 5 f) hI.vS ⟨hI.cn.2.2.1, hI.cn.2.2.2.1⟩) rfl rfl rfl rfl (Nat.le_refl _) ?_
  rintro rs w' ⟨B, y, rfl, rfl, q1, q2⟩
  repeat' first | refine hC.gn [] _ rfl rfl ?_ | refine And.intro ?_ ?_ | exact True.intro | refine hC.iadd [] rfl rfl (by first | omega | (simp only [Int.reduceToNat] at *; omega)) ?_ | refine hC.isub [] rfl rfl (by first | omega | (simp only [Int.reduceToNat] at *; omega)) ?_ | refine hC.imul [] rfl rfl (by first | omega | (simp only [Int.reduceToNat] at *; omega)) ?_ | refine hC.iinc [] rfl rfl rfl rfl (by first | omega | (simp only [Int.reduceToNat] at *; omega)) ?_ | refine hC.go [] _ rfl rfl ?_ | (intro h; first | exact (h rfl).elim | (exfalso; cases h; done) | (dsimp only [kk_cP, kk_cN] at h) | skip)
  exact ⟨G, B, _, rfl, rfl, ⟨hJ.1, hJ.2.st q1 q2⟩, (hG 2 (by decide)).trans e2, q1.1 10 (by decide)⟩
set_option maxRecDepth 100000 in
set_option maxHeartbeats 4000000 in
theorem mm_daysI (l : Launch) (d : Nat) (F : Nat → Int) (A : Nat → Nat → Int) (k x : Int) (hI : mm_I Bm F A) : kk_Ctr l (d + 5) en_t_X11_days [(4, 0), (0, k), (0, x)] (mm_w F A) (mm_Po Bm (F 2) (A 10) 0) := by
  refine kk_ctr en_hM (List.mem_of_getElem? (i := 180) rfl) rfl (Nat.le_of_ble_eq_true rfl) (fun K hC => ?_)
  repeat' first | refine hC.gn [5] _ rfl rfl ?_ | refine And.intro ?_ ?_ | exact True.intro | refine hC.iadd [5] rfl rfl (by first | omega | (simp only [Int.reduceToNat] at *; omega)) ?_ | refine hC.isub [5] rfl rfl (by first | omega | (simp only [Int.reduceToNat] at *; omega)) ?_ | refine hC.imul [5] rfl rfl (by first | omega | (simp only [Int.reduceToNat] at *; omega)) ?_ | refine hC.iinc [5] rfl rfl rfl rfl (by first | omega | (simp only [Int.reduceToNat] at *; omega)) ?_ | refine hC.go [5] _ rfl rfl ?_ | (intro h; first | exact (h rfl).elim | (exfalso; cases h; done) | (dsimp only [kk_cP, kk_cN] at h) | skip)
  refine (show ∀ F1 : Nat → Int, F1 2 = F 2 → mm_I Bm F1 A → K 5 [(0, (4, 0)), (1, (0, k)), (2, (0, x))] [] (mm_w F1 A) from ?_) (kk_up F 0 0) rfl hI
  clear hI
  intro F1 e2 hI
  repeat' first | refine hC.gn [] _ rfl rfl ?_ | refine And.intro ?_ ?_ | exact True.intro | refine hC.iadd [] rfl rfl (by first | omega | (simp only [Int.reduceToNat] at *; omega)) ?_ | refine hC.isub [] rfl rfl (by first | omega | (simp only [Int.reduceToNat] at *; omega)) ?_ | refine hC.imul [] rfl rfl (by first | omega | (simp only [Int.reduceToNat] at *; omega)) ?_ | refine hC.iinc [] rfl rfl rfl rfl (by first | omega | (simp only [Int.reduceToNat] at *; omega)) ?_ | refine hC.go [] _ rfl rfl ?_ | (intro h; first | exact (h rfl).elim | (exfalso; cases h; done) | (dsimp only [kk_cP, kk_cN] at h) | skip) | (refine hC.call (mm_isIn l _ _ _ _) [] rfl rfl rfl rfl rfl rfl trivial (Nat.le_refl _) ?_; rintro rs w' ⟨rfl, ⟨rfl, h1, h2⟩ | ⟨rfl, h1⟩⟩) | (refine hC.same (mm_snap l _ _ _ hI.2.1 hI.vS hI.2.2.2.2.2.2.2.2.1) rfl rfl rfl rfl (Nat.le_refl _) ?_; rintro rs w' ⟨rfl, G, f, rfl, hG, hG8, hsn⟩)
  all_goals first | rfl | omega | exact ⟨_, rfl⟩ | exact Or.inl rfl | exact Or.inr rfl | (simp only [Int.reduceToNat] at *; omega) | exact ⟨F1, A, _, rfl, rfl, hI, e2, rfl⟩ | skip
  have hJ : mm_I Bm G (mm_up A 5 f) := hI.snap hG hG8 hsn
  have h20 := hI.cn.2.2.2.2.1
  have h2n : A 2 2 ≠ 0 := by assumption
  refine hC.same (mm_passDays l _ G (mm_up A 5 f) k x hI.rH hI.vS (show 0 < A 2 2 by omega)) rfl rfl rfl rfl (Nat.le_refl _) ?_
  rintro rs w' ⟨G', B, y, rfl, rfl, hG', q1, q2⟩
  repeat' first | refine hC.gn [] _ rfl rfl ?_ | refine And.intro ?_ ?_ | exact True.intro | refine hC.iadd [] rfl rfl (by first | omega | (simp only [Int.reduceToNat] at *; omega)) ?_ | refine hC.isub [] rfl rfl (by first | omega | (simp only [Int.reduceToNat] at *; omega)) ?_ | refine hC.imul [] rfl rfl (by first | omega | (simp only [Int.reduceToNat] at *; omega)) ?_ | refine hC.iinc [] rfl rfl rfl rfl (by first | omega | (simp only [Int.reduceToNat] at *; omega)) ?_ | refine hC.go [] _ rfl rfl ?_ | (intro h; first | exact (h rfl).elim | (exfalso; cases h; done) | (dsimp only [kk_cP, kk_cN] at h) | skip)
  refine ⟨G', B, _, rfl, rfl, ⟨by rw [hG' 2 (by decide)]; exact hJ.1, ?_⟩, (hG' 2 (by decide)).trans ((hG 2 (by decide)).trans e2), q1.1 10 (by decide)⟩
  rw [hG' 23 (by decide), hG' 31 (by decide), hG' 37 (by decide), hG' 26 (by decide), hG' 35 (by decide), hG' 10 (by decide)]
  exact hJ.2.st q1 q2
set_option maxRecDepth 100000 in
set_option maxHeartbeats 4000000 in
theorem mm_undoI (l : Launch) (d : Nat) (F : Nat → Int) (A : Nat → Nat → Int) (hI : mm_I Bm F A) : kk_Ctr l d en_t_X11_undo [(4, 0)] (mm_w F A) (mm_Po Bm (F 2) (A 10) 0) := by
  refine kk_ctr en_hM (List.mem_of_getElem? (i := 181) rfl) rfl (Nat.le_of_ble_eq_true rfl) (fun K hC => ?_)
  repeat' first | refine hC.gn [5] _ rfl rfl ?_ | refine And.intro ?_ ?_ | exact True.intro | refine hC.iadd [5] rfl rfl (by first | omega | (simp only [Int.reduceToNat] at *; omega)) ?_ | refine hC.isub [5] rfl rfl (by first | omega | (simp only [Int.reduceToNat] at *; omega)) ?_ | refine hC.imul [5] rfl rfl (by first | omega | (simp only [Int.reduceToNat] at *; omega)) ?_ | refine hC.iinc [5] rfl rfl rfl rfl (by first | omega | (simp only [Int.reduceToNat] at *; omega)) ?_ | refine hC.go [5] _ rfl rfl ?_ | (intro h; first | exact (h rfl).elim | (exfalso; cases h; done) | (dsimp only [kk_cP, kk_cN] at h) | skip)
  refine (show ∀ F1 : Nat → Int, F1 2 = F 2 → mm_I Bm F1 A → K 5 [(0, (4, 0))] [] (mm_w F1 A) from ?_) (kk_up F 0 0) rfl hI
  clear hI
  intro F1 e2 hI
  have h8 := hI.2.1
  have k26 : ∀ (n : Nat) (i : Int) (G : Nat → Int) (N : Nat → Int), (83 - i).toNat < n → (0 ≤ i ∧ i ≤ 83) → (∀ k, k ≠ 23 → G k = F1 k) → (0 ≤ G 23 ∧ G 23 = F1 23 - 1) → (∀ k, (k < 67 ∨ 150 ≤ k) → N k = A 2 k) → (∀ k : Nat, (k : Int) < i → N (67 + k) = A 5 ((83 * G 23).toNat + k)) → K 26 [(0, (4, 0)), (1, (0, i))] [] (mm_w G (mm_up A 2 N)) := by
    intro n
    induction n with
    | zero => intro i G N hz; exact absurd hz (Nat.not_lt_zero _)
    | succ n ih =>
      intro i G N hn g0 g1 g2 g3 g4
      refine hC.go [] _ rfl rfl ?_
      repeat' first | refine hC.gn [26] _ rfl rfl ?_ | refine And.intro ?_ ?_ | exact True.intro | refine hC.iadd [26] rfl rfl (by first | omega | (simp only [Int.reduceToNat] at *; omega)) ?_ | refine hC.isub [26] rfl rfl (by first | omega | (simp only [Int.reduceToNat] at *; omega)) ?_ | refine hC.imul [26] rfl rfl (by first | omega | (simp only [Int.reduceToNat] at *; omega)) ?_ | refine hC.iinc [26] rfl rfl rfl rfl (by first | omega | (simp only [Int.reduceToNat] at *; omega)) ?_ | refine hC.go [26] _ rfl rfl ?_ | (intro h; first | exact (h rfl).elim | (exfalso; cases h; done) | (dsimp only [kk_cP, kk_cN] at h) | skip)
      all_goals first | rfl | omega | skip
      · refine ⟨G, mm_up A 2 N, _, rfl, rfl, ⟨by rw [g1 2 (by decide)]; exact hI.1, ?_⟩, (g1 2 (by decide)).trans e2, rfl⟩
        rw [g1 31 (by decide), g1 37 (by decide), g1 26 (by decide), g1 35 (by decide), g1 10 (by decide)]
        have hsn := hI.2.2.2.2.2.2.2.2.1
        have hv : mm_vS (mm_up A 2 N 2) := mm_sg_vS (N := N) (hsn (G 23).toNat (by omega)) (g3 2 (by decide)) (fun k hk => by
          rw [g4 k (by omega), show (83 * G 23).toNat = 83 * (G 23).toNat by omega])
        obtain ⟨z1, z2, z3, z4, z5, z6, z7, z8, z9, z10⟩ := hI.2.st (mm_st.up (fun k hk => g3 k (Or.inl hk)) (fun k hk => g3 k (Or.inr hk))) hv
        exact ⟨by omega, z2, z3, z4, z5, z6, z7, fun j hj => z8 j (by omega), z9, z10⟩
      · refine hC.sub [(0, (4, 0)), (1, (0, _))] ⟨rfl, rfl, trivial⟩ (ih _ G (kk_up N (67 + i).toNat (A 5 (83 * G 23 + i).toNat)) (by omega) (by omega) g1 g2 (fun k hk => (kk_up_ne (by omega)).trans (g3 k hk)) (fun k hk => ?_))
        by_cases hq : (k : Int) = i
        · rw [show 67 + k = (67 + i).toNat by omega, kk_up_eq, show (83 * G 23 + i).toNat = (83 * G 23).toNat + k by omega]
        · rw [kk_up_ne (by omega)]
          exact g4 k (by omega)
  repeat' first | refine hC.gn [26] _ rfl rfl ?_ | refine And.intro ?_ ?_ | exact True.intro | refine hC.iadd [26] rfl rfl (by first | omega | (simp only [Int.reduceToNat] at *; omega)) ?_ | refine hC.isub [26] rfl rfl (by first | omega | (simp only [Int.reduceToNat] at *; omega)) ?_ | refine hC.imul [26] rfl rfl (by first | omega | (simp only [Int.reduceToNat] at *; omega)) ?_ | refine hC.iinc [26] rfl rfl rfl rfl (by first | omega | (simp only [Int.reduceToNat] at *; omega)) ?_ | refine hC.go [26] _ rfl rfl ?_ | (intro h; first | exact (h rfl).elim | (exfalso; cases h; done) | (dsimp only [kk_cP, kk_cN] at h) | skip)
  all_goals first | rfl | exact ⟨F1, A, _, rfl, rfl, hI, e2, rfl⟩ | skip
  exact hC.sub [(0, (4, 0)), (1, (0, _))] ⟨rfl, rfl, trivial⟩ (k26 _ _ (kk_up F1 23 (F1 23 - 1)) (A 2) (Nat.lt_succ_self _) (by omega) (fun k hk => kk_up_ne hk) (show 0 ≤ F1 23 - 1 ∧ F1 23 - 1 = F1 23 - 1 by omega) (fun k _ => rfl) (fun k hk => absurd hk (by omega)))
set_option maxRecDepth 100000 in
set_option maxHeartbeats 4000000 in
theorem mm_agoI (l : Launch) (d : Nat) (F : Nat → Int) (A : Nat → Nat → Int) (k : Int) (hI : mm_I Bm F A) : kk_Ctr l (d + 1) en_t_X11_ago [(4, 0), (0, k)] (mm_w F A) (mm_Po Bm (F 2) (A 10) 0) := by
  refine kk_ctr en_hM (List.mem_of_getElem? (i := 195) rfl) rfl (Nat.le_of_ble_eq_true rfl) (fun K hC => ?_)
  repeat' first | refine hC.gn [5] _ rfl rfl ?_ | refine And.intro ?_ ?_ | exact True.intro | refine hC.iadd [5] rfl rfl (by first | omega | (simp only [Int.reduceToNat] at *; omega)) ?_ | refine hC.isub [5] rfl rfl (by first | omega | (simp only [Int.reduceToNat] at *; omega)) ?_ | refine hC.imul [5] rfl rfl (by first | omega | (simp only [Int.reduceToNat] at *; omega)) ?_ | refine hC.iinc [5] rfl rfl rfl rfl (by first | omega | (simp only [Int.reduceToNat] at *; omega)) ?_ | refine hC.go [5] _ rfl rfl ?_ | (intro h; first | exact (h rfl).elim | (exfalso; cases h; done) | (dsimp only [kk_cP, kk_cN] at h) | skip)
  refine (show ∀ F1 : Nat → Int, F1 2 = F 2 → mm_I Bm F1 A → K 5 [(0, (4, 0)), (1, (0, k))] [] (mm_w F1 A) from ?_) (kk_up F 0 0) rfl hI
  clear hI
  intro F1 e2 hI
  have v5 := hI.vS.2.2.2.2.1
  have v6 := hI.vS.2.2.2.2.2
  have v5' : 0 ≤ A 2 (Int.toNat 149) ∧ A 2 (Int.toNat 149) ≤ 16 := ⟨v5, v6⟩
  repeat' first | refine hC.gn [] _ rfl rfl ?_ | refine And.intro ?_ ?_ | exact True.intro | refine hC.iadd [] rfl rfl (by first | omega | (simp only [Int.reduceToNat] at *; omega)) ?_ | refine hC.isub [] rfl rfl (by first | omega | (simp only [Int.reduceToNat] at *; omega)) ?_ | refine hC.imul [] rfl rfl (by first | omega | (simp only [Int.reduceToNat] at *; omega)) ?_ | refine hC.iinc [] rfl rfl rfl rfl (by first | omega | (simp only [Int.reduceToNat] at *; omega)) ?_ | refine hC.go [] _ rfl rfl ?_ | (intro h; first | exact (h rfl).elim | (exfalso; cases h; done) | (dsimp only [kk_cP, kk_cN] at h) | skip) | (refine hC.call (mm_isIn l _ _ _ _) [] rfl rfl rfl rfl rfl rfl trivial (Nat.le_refl _) ?_; rintro rs w' ⟨rfl, ⟨rfl, h1, h2⟩ | ⟨rfl, h1⟩⟩)
  all_goals first | rfl | omega | exact ⟨_, rfl⟩ | exact Or.inl rfl | exact Or.inr rfl | (simp only [Int.reduceToNat] at *; omega) | exact ⟨F1, A, _, rfl, rfl, hI, e2, rfl⟩
