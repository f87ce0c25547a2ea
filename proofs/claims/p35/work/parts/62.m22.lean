/-! THE REFERENCE, 22: notices, odds; names found; lines of a book -/
variable {Bm : Nat → Nat → Int}
set_option maxRecDepth 100000 in
set_option maxHeartbeats 4000000 in
theorem mm_I.tx {F G : Nat → Int} {A : Nat → Nat → Int} {f : Nat → Int} (hI : mm_I Bm F A) (hG : ∀ k, k ≠ 37 → G k = F k) (h : 0 ≤ G 37 ∧ G 37 ≤ 96) : mm_I Bm G (mm_up A 13 f) := by
  refine ⟨by rw [hG 2 (by decide)]; exact hI.1, ?_⟩
  rw [hG 23 (by decide), hG 31 (by decide), hG 26 (by decide), hG 35 (by decide), hG 10 (by decide)]
  obtain ⟨z1, z2, z3, z4⟩ := hI.2
  exact ⟨z1, z2, h, z4⟩
set_option maxRecDepth 100000 in
set_option maxHeartbeats 4000000 in
theorem mm_noticeI (l : Launch) (d : Nat) (F : Nat → Int) (A : Nat → Nat → Int) (hI : mm_I Bm F A) : kk_Ctr l (d + 10) en_t_X11_notice [(4, 0)] (mm_w F A) (mm_Po Bm (F 2) (A 10) 0) := by
  refine kk_ctr en_hM (List.mem_of_getElem? (i := 196) rfl) rfl (Nat.le_of_ble_eq_true rfl) (fun K hC => ?_)
  repeat' first | refine hC.gn [5] _ rfl rfl ?_ | refine And.intro ?_ ?_ | exact True.intro | refine hC.iadd [5] rfl rfl (by first | omega | (simp only [Int.reduceToNat] at *; omega)) ?_ | refine hC.isub [5] rfl rfl (by first | omega | (simp only [Int.reduceToNat] at *; omega)) ?_ | refine hC.imul [5] rfl rfl (by first | omega | (simp only [Int.reduceToNat] at *; omega)) ?_ | refine hC.iinc [5] rfl rfl rfl rfl (by first | omega | (simp only [Int.reduceToNat] at *; omega)) ?_ | refine hC.go [5] _ rfl rfl ?_ | (intro h; first | exact (h rfl).elim | (exfalso; cases h; done) | (dsimp only [kk_cP, kk_cN] at h) | skip)
  refine (show ∀ F1 : Nat → Int, F1 2 = F 2 → mm_I Bm F1 A → K 5 [(0, (4, 0))] [] (mm_w F1 A) from ?_) (kk_up F 0 0) rfl hI
  clear hI
  intro F1 e2 hI
  have hvv := hI.vS
  have hnm : mm_nb 22 (A 7) := hI.2.2.2.2.1
  have k101 : ∀ (n : Nat) (i : Int) (G : Nat → Int) (f : Nat → Int), (9 - i).toNat < n → (0 ≤ i ∧ i ≤ 8) → (∀ k, k ≠ 37 → G k = F1 k) → (0 ≤ G 37 ∧ G 37 ≤ 15 + 8 * i) → K 101 [(0, (4, 0)), (1, (0, i))] [] (mm_w G (mm_up A 13 f)) := by
    intro n
    induction n with
    | zero => intro i G f hz; exact absurd hz (Nat.not_lt_zero _)
    | succ n ih =>
      intro i G f hn i0 hG h7
      have k128 : ∀ (G : Nat → Int) (f : Nat → Int), (i < 8) → (∀ k, k ≠ 37 → G k = F1 k) → (0 ≤ G 37 ∧ G 37 ≤ 15 + 8 * (i + 1)) → K 128 [(0, (4, 0)), (1, (0, i))] [] (mm_w G (mm_up A 13 f)) := by
        intro G f i8 hG h7
        repeat' first | refine hC.gn [101] _ rfl rfl ?_ | refine And.intro ?_ ?_ | exact True.intro | refine hC.iadd [101] rfl rfl (by first | omega | (simp only [Int.reduceToNat] at *; omega)) ?_ | refine hC.isub [101] rfl rfl (by first | omega | (simp only [Int.reduceToNat] at *; omega)) ?_ | refine hC.imul [101] rfl rfl (by first | omega | (simp only [Int.reduceToNat] at *; omega)) ?_ | refine hC.iinc [101] rfl rfl rfl rfl (by first | omega | (simp only [Int.reduceToNat] at *; omega)) ?_ | refine hC.go [101] _ rfl rfl ?_ | (intro h; first | exact (h rfl).elim | (exfalso; cases h; done) | (dsimp only [kk_cP, kk_cN] at h) | skip)
        all_goals first | rfl | omega | exact ⟨_, rfl⟩ | exact Or.inl rfl | exact Or.inr rfl | (simp only [Int.reduceToNat] at *; omega) | exact hC.sub [(0, (4, 0)), (1, (0, _))] ⟨rfl, rfl, trivial⟩ (ih _ G f (by omega) (by omega) hG h7)
      have hv1 : mm_vS (mm_up A 13 f 2) := hvv
      refine hC.go [] _ rfl rfl ?_
      repeat' first | refine hC.gn [101, 128] _ rfl rfl ?_ | refine And.intro ?_ ?_ | exact True.intro | refine hC.iadd [101, 128] rfl rfl (by first | omega | (simp only [Int.reduceToNat] at *; omega)) ?_ | refine hC.isub [101, 128] rfl rfl (by first | omega | (simp only [Int.reduceToNat] at *; omega)) ?_ | refine hC.imul [101, 128] rfl rfl (by first | omega | (simp only [Int.reduceToNat] at *; omega)) ?_ | refine hC.iinc [101, 128] rfl rfl rfl rfl (by first | omega | (simp only [Int.reduceToNat] at *; omega)) ?_ | refine hC.go [101, 128] _ rfl rfl ?_ | (intro h; first | exact (h rfl).elim | (exfalso; cases h; done) | (dsimp only [kk_cP, kk_cN] at h) | skip) | (refine hC.same (mm_mustNow l _ _ _ (by assumption)) rfl rfl rfl rfl (Nat.le_refl _) ?_; rintro rs w' ⟨rfl, xm, rfl⟩) | (refine hC.call (mm_has l _ _ _) [] rfl rfl rfl rfl rfl rfl trivial (Nat.le_refl _) ?_; rintro rs w' ⟨rfl, rfl | rfl⟩)
      all_goals first | omega | exact ⟨G, mm_up A 13 f, _, rfl, rfl, hI.tx hG (by omega), (hG 2 (by decide)).trans e2, rfl⟩ | exact hC.sub [(0, (4, 0)), (1, (0, _))] ⟨rfl, rfl, trivial⟩ (k128 G f (by omega) hG (by omega)) | skip
      refine hC.same (mm_writeNext l _ G (mm_up A 13 f) (A 7 i.toNat) (hnm i.toNat (by omega)) (by omega) (by omega)) rfl rfl rfl rfl (Nat.le_refl _) ?_
      rintro rs w' ⟨rfl, G', f', rfl, g1, g2, g3⟩
      exact hC.sub [(0, (4, 0)), (1, (0, _))] ⟨rfl, rfl, trivial⟩ (k128 G' f' (by omega) (fun k hk => (g1 k hk).trans (hG k hk)) (by omega))
  -- behind texts = 0
  have k10 : ∀ (G : Nat → Int), (∀ k, k ≠ 37 → G k = F1 k) → G 37 = 0 → K 10 [(0, (4, 0))] [] (mm_w G A) := by
    intro G hG g7
    have v2 : A 2 (Int.toNat 68) ≤ 9 := hvv.2.1
    repeat' first | refine hC.gn [] _ rfl rfl ?_ | refine And.intro ?_ ?_ | exact True.intro | refine hC.iadd [] rfl rfl (by first | omega | (simp only [Int.reduceToNat] at *; omega)) ?_ | refine hC.isub [] rfl rfl (by first | omega | (simp only [Int.reduceToNat] at *; omega)) ?_ | refine hC.imul [] rfl rfl (by first | omega | (simp only [Int.reduceToNat] at *; omega)) ?_ | refine hC.iinc [] rfl rfl rfl rfl (by first | omega | (simp only [Int.reduceToNat] at *; omega)) ?_ | refine hC.go [] _ rfl rfl ?_ | (intro h; first | exact (h rfl).elim | (exfalso; cases h; done) | (dsimp only [kk_cP, kk_cN] at h) | skip) | (refine hC.same (mm_holds l _ _ _ (by assumption)) rfl rfl rfl rfl (Nat.le_refl _) ?_; rintro rs w' ⟨rfl, ⟨rfl, o1⟩ | ⟨rfl, o1⟩⟩) | (refine hC.call (mm_spelt2 l _ _ _ _ _ _ _ _ (by omega) (by omega) (by omega) (by omega) (by omega) (by omega) (by omega)) [] rfl rfl rfl rfl rfl rfl trivial (Nat.le_refl _) ?_; rintro rs w' ⟨rfl, xs, rfl, hxs⟩)
    all_goals first | omega | (simp only [Int.reduceToNat] at *; omega) | skip
    · have o2 : 0 ≤ A 2 (Int.toNat 68) := o1
      have hq := hnm (12 + A 2 (Int.toNat 68)).toNat (by omega)
      refine hC.same (mm_writeWord l 7 (d + 1) G A (A 7 (12 + A 2 (Int.toNat 68)).toNat) (by decide) hq (by decide) (by omega) (by omega)) rfl rfl rfl rfl (Nat.le_refl _) ?_
      rintro rs w' ⟨rfl, G', f', rfl, g1, g2, g3⟩
      have g3 : G' 37 ≤ G 37 + 7 := g3
      repeat' first | refine hC.gn [] _ rfl rfl ?_ | refine And.intro ?_ ?_ | exact True.intro | refine hC.iadd [] rfl rfl (by first | omega | (simp only [Int.reduceToNat] at *; omega)) ?_ | refine hC.isub [] rfl rfl (by first | omega | (simp only [Int.reduceToNat] at *; omega)) ?_ | refine hC.imul [] rfl rfl (by first | omega | (simp only [Int.reduceToNat] at *; omega)) ?_ | refine hC.iinc [] rfl rfl rfl rfl (by first | omega | (simp only [Int.reduceToNat] at *; omega)) ?_ | refine hC.go [] _ rfl rfl ?_ | (intro h; first | exact (h rfl).elim | (exfalso; cases h; done) | (dsimp only [kk_cP, kk_cN] at h) | skip) | (refine hC.call (mm_spelt2 l _ _ _ _ _ _ _ _ (by omega) (by omega) (by omega) (by omega) (by omega) (by omega) (by omega)) [] rfl rfl rfl rfl rfl rfl trivial (Nat.le_refl _) ?_; rintro rs w' ⟨rfl, xs, rfl, hxs⟩)
      refine hC.same (mm_writeNext l _ G' (mm_up A 13 f') xs hxs (by omega) (by omega)) rfl rfl rfl rfl (Nat.le_refl _) ?_
      rintro rs w' ⟨rfl, G2, f2, rfl, q1, q2, q3⟩
      have q3 : G2 37 ≤ G' 37 + 8 := q3
      repeat' first | refine hC.gn [101] _ rfl rfl ?_ | refine And.intro ?_ ?_ | exact True.intro | refine hC.iadd [101] rfl rfl (by first | omega | (simp only [Int.reduceToNat] at *; omega)) ?_ | refine hC.isub [101] rfl rfl (by first | omega | (simp only [Int.reduceToNat] at *; omega)) ?_ | refine hC.imul [101] rfl rfl (by first | omega | (simp only [Int.reduceToNat] at *; omega)) ?_ | refine hC.iinc [101] rfl rfl rfl rfl (by first | omega | (simp only [Int.reduceToNat] at *; omega)) ?_ | refine hC.go [101] _ rfl rfl ?_ | (intro h; first | exact (h rfl).elim | (exfalso; cases h; done) | (dsimp only [kk_cP, kk_cN] at h) | skip)
      exact hC.sub [(0, (4, 0)), (1, (0, _))] ⟨rfl, rfl, trivial⟩ (k101 _ _ G2 f2 (Nat.lt_succ_self _) (by omega) (fun k hk => (q1 k hk).trans ((g1 k hk).trans (hG k hk))) (by omega))
    · refine hC.same (mm_writeWord l 7 (d + 1) G A xs (by decide) hxs (by decide) (by omega) (by omega)) rfl rfl rfl rfl (Nat.le_refl _) ?_
      rintro rs w' ⟨rfl, G', f', rfl, g1, g2, g3⟩
      have g3 : G' 37 ≤ G 37 + 7 := g3
      repeat' first | refine hC.gn [] _ rfl rfl ?_ | refine And.intro ?_ ?_ | exact True.intro | refine hC.iadd [] rfl rfl (by first | omega | (simp only [Int.reduceToNat] at *; omega)) ?_ | refine hC.isub [] rfl rfl (by first | omega | (simp only [Int.reduceToNat] at *; omega)) ?_ | refine hC.imul [] rfl rfl (by first | omega | (simp only [Int.reduceToNat] at *; omega)) ?_ | refine hC.iinc [] rfl rfl rfl rfl (by first | omega | (simp only [Int.reduceToNat] at *; omega)) ?_ | refine hC.go [] _ rfl rfl ?_ | (intro h; first | exact (h rfl).elim | (exfalso; cases h; done) | (dsimp only [kk_cP, kk_cN] at h) | skip) | (refine hC.call (mm_spelt2 l _ _ _ _ _ _ _ _ (by omega) (by omega) (by omega) (by omega) (by omega) (by omega) (by omega)) [] rfl rfl rfl rfl rfl rfl trivial (Nat.le_refl _) ?_; rintro rs w' ⟨rfl, xs, rfl, hxs⟩)
      refine hC.same (mm_writeNext l _ G' (mm_up A 13 f') xs (by assumption) (by omega) (by omega)) rfl rfl rfl rfl (Nat.le_refl _) ?_
      rintro rs w' ⟨rfl, G2, f2, rfl, q1, q2, q3⟩
      have q3 : G2 37 ≤ G' 37 + 8 := q3
      repeat' first | refine hC.gn [] _ rfl rfl ?_ | refine And.intro ?_ ?_ | exact True.intro | refine hC.iadd [] rfl rfl (by first | omega | (simp only [Int.reduceToNat] at *; omega)) ?_ | refine hC.isub [] rfl rfl (by first | omega | (simp only [Int.reduceToNat] at *; omega)) ?_ | refine hC.imul [] rfl rfl (by first | omega | (simp only [Int.reduceToNat] at *; omega)) ?_ | refine hC.iinc [] rfl rfl rfl rfl (by first | omega | (simp only [Int.reduceToNat] at *; omega)) ?_ | refine hC.go [] _ rfl rfl ?_ | (intro h; first | exact (h rfl).elim | (exfalso; cases h; done) | (dsimp only [kk_cP, kk_cN] at h) | skip)
      have hG2 : ∀ k, k ≠ 37 → G2 k = F1 k := fun k hk => (q1 k hk).trans ((g1 k hk).trans (hG k hk))
      exact ⟨G2, mm_up A 13 f2, _, rfl, rfl, hI.tx hG2 (by omega), (hG2 2 (by decide)).trans e2, rfl⟩
  repeat' first | refine hC.gn [10] _ rfl rfl ?_ | refine And.intro ?_ ?_ | exact True.intro | refine hC.iadd [10] rfl rfl (by first | omega | (simp only [Int.reduceToNat] at *; omega)) ?_ | refine hC.isub [10] rfl rfl (by first | omega | (simp only [Int.reduceToNat] at *; omega)) ?_ | refine hC.imul [10] rfl rfl (by first | omega | (simp only [Int.reduceToNat] at *; omega)) ?_ | refine hC.iinc [10] rfl rfl rfl rfl (by first | omega | (simp only [Int.reduceToNat] at *; omega)) ?_ | refine hC.go [10] _ rfl rfl ?_ | (intro h; first | exact (h rfl).elim | (exfalso; cases h; done) | (dsimp only [kk_cP, kk_cN] at h) | skip)
  exact k10 (kk_up F1 37 0) (fun k hk => kk_up_ne hk) rfl
set_option maxRecDepth 100000 in
set_option maxHeartbeats 4000000 in
theorem mm_oddsI (l : Launch) (d : Nat) (F : Nat → Int) (A : Nat → Nat → Int) (mo m nn x : Int) (hI : mm_I Bm F A) : kk_Ctr l (d + 5) en_t_X11_odds [(4, 0), (0, mo), (0, m), (0, nn), (0, x)] (mm_w F A) (mm_Po Bm (F 2) (A 10) 0) := by
  refine kk_ctr en_hM (List.mem_of_getElem? (i := 198) rfl) rfl (Nat.le_of_ble_eq_true rfl) (fun K hC => ?_)
  repeat' first | refine hC.gn [5] _ rfl rfl ?_ | refine And.intro ?_ ?_ | exact True.intro | refine hC.iadd [5] rfl rfl (by first | omega | (simp only [Int.reduceToNat] at *; omega)) ?_ | refine hC.isub [5] rfl rfl (by first | omega | (simp only [Int.reduceToNat] at *; omega)) ?_ | refine hC.imul [5] rfl rfl (by first | omega | (simp only [Int.reduceToNat] at *; omega)) ?_ | refine hC.iinc [5] rfl rfl rfl rfl (by first | omega | (simp only [Int.reduceToNat] at *; omega)) ?_ | refine hC.go [5] _ rfl rfl ?_ | (intro h; first | exact (h rfl).elim | (exfalso; cases h; done) | (dsimp only [kk_cP, kk_cN] at h) | skip)
  refine (show ∀ F1 : Nat → Int, F1 2 = F 2 → mm_I Bm F1 A → K 5 [(0, (4, 0)), (1, (0, mo)), (2, (0, m)), (3, (0, nn)), (4, (0, x))] [] (mm_w F1 A) from ?_) (kk_up F 0 0) rfl hI
  clear hI
  intro F1 e2 hI
  have k54 : ∀ (n : Nat) (i : Int) (y : Int) (f : Nat → Int) (G : Nat → Int) (B : Nat → Nat → Int), (31 - i).toNat < n → (0 ≤ i ∧ i ≤ 30 ∧ nn ≤ 30 ∧ 0 ≤ mo ∧ mo ≤ 3 ∧ A 2 2 ≠ 0) → (mm_sg (A 2 2) f) → (∀ k, k ≠ 25 → G k = F1 k) → (mm_st (mm_up A 6 f) B) → (mm_vS (B 2)) → K 54 [(0, (4, 0)), (1, (0, mo)), (2, (0, m)), (3, (0, nn)), (4, (0, x)), (5, (0, y)), (6, (0, i))] [] (mm_w G B) := by
    intro n
    induction n with
    | zero => intro i y f G B hz; exact absurd hz (Nat.not_lt_zero _)
    | succ n ih =>
      intro i y f G B hn i0 hf hG hs hb
      have h20 := hI.cn.2.2.2.2.1
      have b2 : B 2 2 = A 2 2 := hs.2.1 2 (by decide)
      have k82 : ∀ (y : Int) (G : Nat → Int) (B : Nat → Nat → Int), (i < 30) → (∀ k, k ≠ 25 → G k = F1 k) → (mm_st (mm_up A 6 f) B) → K 82 [(0, (4, 0)), (1, (0, mo)), (2, (0, m)), (3, (0, nn)), (4, (0, x)), (5, (0, y)), (6, (0, i))] [] (mm_w G B) := by
        intro y G B i8 hG hs
        repeat' first | refine hC.gn [54] _ rfl rfl ?_ | refine And.intro ?_ ?_ | exact True.intro | refine hC.iadd [54] rfl rfl (by first | omega | (simp only [Int.reduceToNat] at *; omega)) ?_ | refine hC.isub [54] rfl rfl (by first | omega | (simp only [Int.reduceToNat] at *; omega)) ?_ | refine hC.imul [54] rfl rfl (by first | omega | (simp only [Int.reduceToNat] at *; omega)) ?_ | refine hC.iinc [54] rfl rfl rfl rfl (by first | omega | (simp only [Int.reduceToNat] at *; omega)) ?_ | refine hC.go [54] _ rfl rfl ?_ | (intro h; first | exact (h rfl).elim | (exfalso; cases h; done) | (dsimp only [kk_cP, kk_cN] at h) | skip)
        refine hC.same (mm_takeBack l _ G B) rfl rfl rfl rfl (Nat.le_refl _) ?_
        rintro rs w' ⟨rfl, N, rfl, hst, hN⟩
        have e6 : B 6 = f := hs.1 6 (by decide)
        have hv : mm_vS (mm_up B 2 N 2) := mm_sg_vS (N := N) hf ((hst.2.1 2 (by decide)).trans (hs.2.1 2 (by decide))) (fun k hk => (hN k hk).trans (by rw [e6]))
        repeat' first | refine hC.gn [54] _ rfl rfl ?_ | refine And.intro ?_ ?_ | exact True.intro | refine hC.iadd [54] rfl rfl (by first | omega | (simp only [Int.reduceToNat] at *; omega)) ?_ | refine hC.isub [54] rfl rfl (by first | omega | (simp only [Int.reduceToNat] at *; omega)) ?_ | refine hC.imul [54] rfl rfl (by first | omega | (simp only [Int.reduceToNat] at *; omega)) ?_ | refine hC.iinc [54] rfl rfl rfl rfl (by first | omega | (simp only [Int.reduceToNat] at *; omega)) ?_ | refine hC.go [54] _ rfl rfl ?_ | (intro h; first | exact (h rfl).elim | (exfalso; cases h; done) | (dsimp only [kk_cP, kk_cN] at h) | skip)
        exact hC.sub [(0, (4, 0)), (1, (0, _)), (2, (0, _)), (3, (0, _)), (4, (0, _)), (5, (0, _)), (6, (0, _))] ⟨rfl, rfl, rfl, rfl, rfl, rfl, rfl, trivial⟩ (ih _ _ f G (mm_up B 2 N) (by omega) (by omega) hf hG (hs.tr hst) hv)
      refine hC.go [] _ rfl rfl ?_
      repeat' first | refine hC.gn [54] _ rfl rfl ?_ | refine And.intro ?_ ?_ | exact True.intro | refine hC.iadd [54] rfl rfl (by first | omega | (simp only [Int.reduceToNat] at *; omega)) ?_ | refine hC.isub [54] rfl rfl (by first | omega | (simp only [Int.reduceToNat] at *; omega)) ?_ | refine hC.imul [54] rfl rfl (by first | omega | (simp only [Int.reduceToNat] at *; omega)) ?_ | refine hC.iinc [54] rfl rfl rfl rfl (by first | omega | (simp only [Int.reduceToNat] at *; omega)) ?_ | refine hC.go [54] _ rfl rfl ?_ | (intro h; first | exact (h rfl).elim | (exfalso; cases h; done) | (dsimp only [kk_cP, kk_cN] at h) | skip)
      all_goals first | omega | skip
      · refine ⟨G, B, _, rfl, rfl, ⟨by rw [hG 2 (by decide)]; exact hI.1, ?_⟩, (hG 2 (by decide)).trans e2, hs.1 10 (by decide)⟩
        rw [hG 23 (by decide), hG 31 (by decide), hG 37 (by decide), hG 26 (by decide), hG 35 (by decide), hG 10 (by decide)]
        exact mm_Ia.st (A := mm_up A 6 f) hI.2 hs hb
      · refine hC.same (mm_passDays l _ G B m _ (hI.rH.eq hs.2.1) hb (by omega)) rfl rfl rfl rfl (Nat.le_refl _) ?_
        rintro rs w' ⟨G', B', y', rfl, rfl, hG', hs', hb'⟩
        repeat' first | refine hC.gn [54] _ rfl rfl ?_ | refine And.intro ?_ ?_ | exact True.intro | refine hC.iadd [54] rfl rfl (by first | omega | (simp only [Int.reduceToNat] at *; omega)) ?_ | refine hC.isub [54] rfl rfl (by first | omega | (simp only [Int.reduceToNat] at *; omega)) ?_ | refine hC.imul [54] rfl rfl (by first | omega | (simp only [Int.reduceToNat] at *; omega)) ?_ | refine hC.iinc [54] rfl rfl rfl rfl (by first | omega | (simp only [Int.reduceToNat] at *; omega)) ?_ | refine hC.go [54] _ rfl rfl ?_ | (intro h; first | exact (h rfl).elim | (exfalso; cases h; done) | (dsimp only [kk_cP, kk_cN] at h) | skip)
        refine hC.same (mm_workLeft l _ G' B' mo (by omega) (by omega)) rfl rfl rfl rfl (Nat.le_refl _) ?_
        rintro rs w' ⟨rfl, z, rfl⟩
        repeat' first | refine hC.gn [54, 82] _ rfl rfl ?_ | refine And.intro ?_ ?_ | exact True.intro | refine hC.iadd [54, 82] rfl rfl (by first | omega | (simp only [Int.reduceToNat] at *; omega)) ?_ | refine hC.isub [54, 82] rfl rfl (by first | omega | (simp only [Int.reduceToNat] at *; omega)) ?_ | refine hC.imul [54, 82] rfl rfl (by first | omega | (simp only [Int.reduceToNat] at *; omega)) ?_ | refine hC.iinc [54, 82] rfl rfl rfl rfl (by first | omega | (simp only [Int.reduceToNat] at *; omega)) ?_ | refine hC.go [54, 82] _ rfl rfl ?_ | (intro h; first | exact (h rfl).elim | (exfalso; cases h; done) | (dsimp only [kk_cP, kk_cN] at h) | skip)
        all_goals exact hC.sub [(0, (4, 0)), (1, (0, _)), (2, (0, _)), (3, (0, _)), (4, (0, _)), (5, (0, _)), (6, (0, _))] ⟨rfl, rfl, rfl, rfl, rfl, rfl, rfl, trivial⟩ (k82 _ G' B' (by omega) (fun k hk => (hG' k hk).trans (hG k hk)) (hs.tr hs'))
  repeat' first | refine hC.gn [] _ rfl rfl ?_ | refine And.intro ?_ ?_ | exact True.intro | refine hC.iadd [] rfl rfl (by first | omega | (simp only [Int.reduceToNat] at *; omega)) ?_ | refine hC.isub [] rfl rfl (by first | omega | (simp only [Int.reduceToNat] at *; omega)) ?_ | refine hC.imul [] rfl rfl (by first | omega | (simp only [Int.reduceToNat] at *; omega)) ?_ | refine hC.iinc [] rfl rfl rfl rfl (by first | omega | (simp only [Int.reduceToNat] at *; omega)) ?_ | refine hC.go [] _ rfl rfl ?_ | (intro h; first | exact (h rfl).elim | (exfalso; cases h; done) | (dsimp only [kk_cP, kk_cN] at h) | skip) | (refine hC.same (mm_isMonk l _ _ _ hI.cn) rfl rfl rfl rfl (Nat.le_refl _) ?_; rintro rs w' ⟨rfl, ⟨rfl, o1, o2, o3⟩ | rfl⟩) | (refine hC.call (mm_isIn l _ _ _ _) [] rfl rfl rfl rfl rfl rfl trivial (Nat.le_refl _) ?_; rintro rs w' ⟨rfl, ⟨rfl, h1, h2⟩ | ⟨rfl, h1⟩⟩)
  all_goals first | rfl | omega | exact ⟨_, rfl⟩ | exact Or.inl rfl | exact Or.inr rfl | (simp only [Int.reduceToNat] at *; omega) | exact ⟨F1, A, _, rfl, rfl, hI, e2, rfl⟩ | skip
  have h2n : A 2 2 ≠ 0 := by assumption
  refine hC.same (mm_layAside l _ F1 A) rfl rfl rfl rfl (Nat.le_refl _) ?_
  rintro rs w' ⟨rfl, f, rfl, hf⟩
  repeat' first | refine hC.gn [54] _ rfl rfl ?_ | refine And.intro ?_ ?_ | exact True.intro | refine hC.iadd [54] rfl rfl (by first | omega | (simp only [Int.reduceToNat] at *; omega)) ?_ | refine hC.isub [54] rfl rfl (by first | omega | (simp only [Int.reduceToNat] at *; omega)) ?_ | refine hC.imul [54] rfl rfl (by first | omega | (simp only [Int.reduceToNat] at *; omega)) ?_ | refine hC.iinc [54] rfl rfl rfl rfl (by first | omega | (simp only [Int.reduceToNat] at *; omega)) ?_ | refine hC.go [54] _ rfl rfl ?_ | (intro h; first | exact (h rfl).elim | (exfalso; cases h; done) | (dsimp only [kk_cP, kk_cN] at h) | skip)
  exact hC.sub [(0, (4, 0)), (1, (0, _)), (2, (0, _)), (3, (0, _)), (4, (0, _)), (5, (0, _)), (6, (0, _))] ⟨rfl, rfl, rfl, rfl, rfl, rfl, rfl, trivial⟩ (k54 _ _ _ f F1 (mm_up A 6 f) (Nat.lt_succ_self _) (by omega) (mm_vS_sg hI.vS rfl hf) (fun _ _ => rfl) mm_st.rf hI.vS)
/-- the first of so many names that is w -/
def mm_fi (f : Nat → Int) (w b : Int) : Nat → Int → Int
  | 0, _ => -1
  | n + 1, i => if f (b + i).toNat = w then i else mm_fi f w b n (i + 1)
set_option maxRecDepth 100000 in
set_option maxHeartbeats 4000000 in
theorem mm_fi_b {f : Nat → Int} {w b : Int} : ∀ (n : Nat) (i : Int), 0 ≤ i → mm_fi f w b n i = -1 ∨ (i ≤ mm_fi f w b n i ∧ mm_fi f w b n i < i + n)
  | 0, _, _ => Or.inl rfl
  | n + 1, i, h => by
    have e1 : mm_fi f w b (n + 1) i = if f (b + i).toNat = w then i else mm_fi f w b n (i + 1) := rfl
    rw [e1]
    by_cases hq : f (b + i).toNat = w
    · rw [if_pos hq]; right; omega
    · rw [if_neg hq]
      rcases mm_fi_b (f := f) (w := w) (b := b) n (i + 1) (by omega) with h1 | h1
      · left; exact h1
      · right; omega
set_option maxRecDepth 100000 in
set_option maxHeartbeats 4000000 in
theorem mm_findInF (l : Launch) (d : Nat) (n : Nat) (f : Nat → Int) (base many : Int) (w : Int) (hb : 0 ≤ base) (hm : base + many ≤ n) (hn : n ≤ 1000) (h0 : 0 ≤ many) : kk_Ctr l d en_t_X11_findIn [(4, 0), (0, base), (0, many), (2, w)] [(2, n, [], f)] (fun rs w' => w' = [(2, n, [], f)] ∧ rs = [(0, mm_fi f w base many.toNat 0)]) := by
  refine kk_ctr en_hM (List.mem_of_getElem? (i := 272) rfl) rfl (Nat.le_of_ble_eq_true rfl) (fun K hC => ?_)
  have key : ∀ (j : Nat) (i : Int), many - i = j → 0 ≤ i → mm_fi f w base many.toNat 0 = mm_fi f w base j i → K 3 [(0, (4, 0)), (1, (0, base)), (2, (0, many)), (3, (2, w)), (5, (0, i))] [] [(2, n, [], f)] := by
    intro j
    induction j with
    | zero =>
      intro i hj hi he
      refine hC.go [] _ rfl rfl ?_
      repeat' first | refine hC.gn [3] _ rfl rfl ?_ | refine And.intro ?_ ?_ | exact True.intro | refine hC.iadd [3] rfl rfl (by first | omega | (simp only [Int.reduceToNat] at *; omega)) ?_ | refine hC.isub [3] rfl rfl (by first | omega | (simp only [Int.reduceToNat] at *; omega)) ?_ | refine hC.imul [3] rfl rfl (by first | omega | (simp only [Int.reduceToNat] at *; omega)) ?_ | refine hC.iinc [3] rfl rfl rfl rfl (by first | omega | (simp only [Int.reduceToNat] at *; omega)) ?_ | refine hC.go [3] _ rfl rfl ?_ | (intro h; first | exact (h rfl).elim | (exfalso; cases h; done) | (dsimp only [kk_cP, kk_cN] at h) | skip)
      all_goals first | omega | rfl | (rw [he]; rfl)
    | succ j ih =>
      intro i hj hi he
      have e1 : mm_fi f w base (j + 1) i = if f (base + i).toNat = w then i else mm_fi f w base j (i + 1) := rfl
      refine hC.go [] _ rfl rfl ?_
      repeat' first | refine hC.gn [3] _ rfl rfl ?_ | refine And.intro ?_ ?_ | exact True.intro | refine hC.iadd [3] rfl rfl (by first | omega | (simp only [Int.reduceToNat] at *; omega)) ?_ | refine hC.isub [3] rfl rfl (by first | omega | (simp only [Int.reduceToNat] at *; omega)) ?_ | refine hC.imul [3] rfl rfl (by first | omega | (simp only [Int.reduceToNat] at *; omega)) ?_ | refine hC.iinc [3] rfl rfl rfl rfl (by first | omega | (simp only [Int.reduceToNat] at *; omega)) ?_ | refine hC.go [3] _ rfl rfl ?_ | (intro h; first | exact (h rfl).elim | (exfalso; cases h; done) | (dsimp only [kk_cP, kk_cN] at h) | skip)
      all_goals first | omega | rfl | skip
      · have hq : f (base + i).toNat ≠ w := fun g => by
          have hz : kk_cmp (f (base + i).toNat) w ≠ 0 := by assumption
          exact hz (kk_cmp0.mpr g)
        exact hC.sub [(0, (4, 0)), (1, (0, base)), (2, (0, many)), (3, (2, w)), (5, (0, _))] ⟨rfl, rfl, rfl, rfl, rfl, trivial⟩ (ih _ (by omega) (by omega) (by rw [he, e1, if_neg hq]))
      · have hq : f (base + i).toNat = w := by
          have hz : kk_cmp (f (base + i).toNat) w = 0 := by assumption
          exact kk_cmp0.mp hz
        rw [he, e1, if_pos hq]
  repeat' first | refine hC.gn [3] _ rfl rfl ?_ | refine And.intro ?_ ?_ | exact True.intro | refine hC.iadd [3] rfl rfl (by first | omega | (simp only [Int.reduceToNat] at *; omega)) ?_ | refine hC.isub [3] rfl rfl (by first | omega | (simp only [Int.reduceToNat] at *; omega)) ?_ | refine hC.imul [3] rfl rfl (by first | omega | (simp only [Int.reduceToNat] at *; omega)) ?_ | refine hC.iinc [3] rfl rfl rfl rfl (by first | omega | (simp only [Int.reduceToNat] at *; omega)) ?_ | refine hC.go [3] _ rfl rfl ?_ | (intro h; first | exact (h rfl).elim | (exfalso; cases h; done) | (dsimp only [kk_cP, kk_cN] at h) | skip)
  exact hC.sub [(0, (4, 0)), (1, (0, base)), (2, (0, many)), (3, (2, w)), (5, (0, _))] ⟨rfl, rfl, rfl, rfl, rfl, trivial⟩ (key many.toNat 0 (by omega) (by omega) rfl)
