/-! THE REFERENCE, 21: fair, notices, odds -/
variable {Bm : Nat → Nat → Int}
set_option maxRecDepth 100000 in
set_option maxHeartbeats 4000000 in
theorem mm_fairI (l : Launch) (d : Nat) (F : Nat → Int) (A : Nat → Nat → Int) (hI : mm_I Bm F A) : kk_Ctr l (d + 3) en_t_X11_fair [(4, 0)] (mm_w F A) (mm_Po Bm 0 (A 10) 0) := by
  refine kk_ctr en_hM (List.mem_of_getElem? (i := 190) rfl) rfl (Nat.le_of_ble_eq_true rfl) (fun K hC => ?_)
  repeat' first | refine hC.gn [5] _ rfl rfl ?_ | refine And.intro ?_ ?_ | exact True.intro | refine hC.iadd [5] rfl rfl (by first | omega | (simp only [Int.reduceToNat] at *; omega)) ?_ | refine hC.isub [5] rfl rfl (by first | omega | (simp only [Int.reduceToNat] at *; omega)) ?_ | refine hC.imul [5] rfl rfl (by first | omega | (simp only [Int.reduceToNat] at *; omega)) ?_ | refine hC.iinc [5] rfl rfl rfl rfl (by first | omega | (simp only [Int.reduceToNat] at *; omega)) ?_ | refine hC.go [5] _ rfl rfl ?_ | (intro h; first | exact (h rfl).elim | (exfalso; cases h; done) | (dsimp only [kk_cP, kk_cN] at h) | skip)
  refine (show ∀ F1 : Nat → Int, F1 2 = F 2 → mm_I Bm F1 A → K 5 [(0, (4, 0))] [] (mm_w F1 A) from ?_) (kk_up F 0 0) rfl hI
  clear hI
  intro F1 e2 hI
  have hI2 := hI.1
  have k9 : ∀ (G : Nat → Int) (nn : Int), G 2 = 0 → mm_I Bm G A → 0 ≤ nn → nn ≤ 940 → K 9 [(0, (4, 0))] [(0, nn)] (mm_w G A) := by
    intro G nn G2 hJ nn0 nn9
    have hcn := hJ.cn
    have k144 : ∀ (b : Int) (up : Int) (bl : Int) (f : Nat → Int) (B : Nat → Nat → Int), (∀ k, k < 83 → f k = A 2 (67 + k)) → (mm_st (mm_up A 6 f) B) → K 144 [(0, (4, 0)), (2, (2, up)), (4, (2, bl)), (6, (0, b))] [] (mm_w G B) := by
      intro b up bl f B hf hs
      repeat' first | refine hC.gn [] _ rfl rfl ?_ | refine And.intro ?_ ?_ | exact True.intro | refine hC.iadd [] rfl rfl (by first | omega | (simp only [Int.reduceToNat] at *; omega)) ?_ | refine hC.isub [] rfl rfl (by first | omega | (simp only [Int.reduceToNat] at *; omega)) ?_ | refine hC.imul [] rfl rfl (by first | omega | (simp only [Int.reduceToNat] at *; omega)) ?_ | refine hC.iinc [] rfl rfl rfl rfl (by first | omega | (simp only [Int.reduceToNat] at *; omega)) ?_ | refine hC.go [] _ rfl rfl ?_ | (intro h; first | exact (h rfl).elim | (exfalso; cases h; done) | (dsimp only [kk_cP, kk_cN] at h) | skip)
      refine hC.same (mm_takeBack l _ G B) rfl rfl rfl rfl (Nat.le_refl _) ?_
      rintro rs w' ⟨rfl, N, rfl, hst, hN⟩
      have e6 : B 6 = f := hs.1 6 (by decide)
      have hv : mm_vS (mm_up B 2 N 2) := mm_sg_vS (N := N) (mm_vS_sg hJ.vS rfl (g := fun k => A 2 (67 + k)) (fun _ _ => rfl)) ((hst.2.1 2 (by decide)).trans (hs.2.1 2 (by decide))) (fun k hk => (hN k hk).trans (by rw [e6]; exact hf k hk))
      have hz : mm_Ia Bm (G 23) (G 31) (G 37) (G 26) (G 35) (G 10) (mm_up B 2 N) := mm_Ia.st (A := mm_up A 6 f) hJ.2 (hs.tr hst) hv
      have h10 : mm_up B 2 N 10 = A 10 := hs.1 10 (by decide)
      repeat' first | refine hC.gn [] _ rfl rfl ?_ | refine And.intro ?_ ?_ | exact True.intro | refine hC.iadd [] rfl rfl (by first | omega | (simp only [Int.reduceToNat] at *; omega)) ?_ | refine hC.isub [] rfl rfl (by first | omega | (simp only [Int.reduceToNat] at *; omega)) ?_ | refine hC.imul [] rfl rfl (by first | omega | (simp only [Int.reduceToNat] at *; omega)) ?_ | refine hC.iinc [] rfl rfl rfl rfl (by first | omega | (simp only [Int.reduceToNat] at *; omega)) ?_ | refine hC.go [] _ rfl rfl ?_ | (intro h; first | exact (h rfl).elim | (exfalso; cases h; done) | (dsimp only [kk_cP, kk_cN] at h) | skip)
      all_goals first | exact ⟨G, mm_up B 2 N, _, rfl, rfl, ⟨hJ.1, hz⟩, G2, h10⟩ | exact ⟨kk_up (kk_up G 33 up) 34 bl, mm_up B 2 N, _, rfl, rfl, ⟨hJ.1, hz⟩, G2, h10⟩
    have k67 : ∀ (n : Nat) (i : Int) (b : Int) (up : Int) (bl : Int) (f : Nat → Int) (B : Nat → Nat → Int), (9 - i).toNat < n → (0 ≤ i ∧ i ≤ 8) → (nn ≤ 8) → (∀ j : Nat, (j : Int) < nn → 0 ≤ A 1 j ∧ A 1 j ≤ 9) → (∀ k, k < 83 → f k = A 2 (67 + k)) → (mm_st (mm_up A 6 f) B) → (mm_vS (B 2)) → K 67 [(0, (4, 0)), (1, (0, nn)), (2, (2, up)), (4, (2, bl)), (6, (0, b)), (7, (0, i))] [] (mm_w G B) := by
      intro n
      induction n with
      | zero => intro i b up bl f B hz; exact absurd hz (Nat.not_lt_zero _)
      | succ n ih =>
        intro i b up bl f B hn i0 nn1 ht hf hs hb
        have e1 : B 1 = A 1 := hs.1 1 (by decide)
        have hti : i < nn → 0 ≤ B 1 i.toNat ∧ B 1 i.toNat ≤ 9 := fun q => by rw [e1]; exact ht i.toNat (by omega)
        have k88 : ∀ (c : Nat), (c ≤ 9 ∧ i < nn) → K 88 [(0, (4, 0)), (1, (0, nn)), (2, (2, up)), (4, (2, bl)), (6, (0, b)), (7, (0, i)), (8, (0, (c : Int)))] [] (mm_w G B) := by
          intro c cc
          repeat' first | refine hC.gn [67] _ rfl rfl ?_ | refine And.intro ?_ ?_ | exact True.intro | refine hC.iadd [67] rfl rfl (by first | omega | (simp only [Int.reduceToNat] at *; omega)) ?_ | refine hC.isub [67] rfl rfl (by first | omega | (simp only [Int.reduceToNat] at *; omega)) ?_ | refine hC.imul [67] rfl rfl (by first | omega | (simp only [Int.reduceToNat] at *; omega)) ?_ | refine hC.iinc [67] rfl rfl rfl rfl (by first | omega | (simp only [Int.reduceToNat] at *; omega)) ?_ | refine hC.go [67] _ rfl rfl ?_ | (intro h; first | exact (h rfl).elim | (exfalso; cases h; done) | (dsimp only [kk_cP, kk_cN] at h) | skip)
          all_goals first | omega | exact hC.sub [(0, (4, 0)), (1, (0, _)), (2, (2, _)), (4, (2, _)), (6, (0, _)), (7, (0, _))] ⟨rfl, rfl, rfl, rfl, rfl, rfl, trivial⟩ (ih _ _ _ _ f B (by omega) (by omega) nn1 ht hf hs hb) | skip
          have hbc := hb.2.2.1 c (by omega)
          have hne : B 2 (69 + c) ≠ 0 := by assumption
          refine hC.same (mm_inBox l _ G B) rfl rfl rfl rfl (Nat.le_refl _) ?_
          rintro rs w' ⟨rfl, rfl⟩
          repeat' first | refine hC.gn [67] _ rfl rfl ?_ | refine And.intro ?_ ?_ | exact True.intro | refine hC.iadd [67] rfl rfl (by first | omega | (simp only [Int.reduceToNat] at *; omega)) ?_ | refine hC.isub [67] rfl rfl (by first | omega | (simp only [Int.reduceToNat] at *; omega)) ?_ | refine hC.imul [67] rfl rfl (by first | omega | (simp only [Int.reduceToNat] at *; omega)) ?_ | refine hC.iinc [67] rfl rfl rfl rfl (by first | omega | (simp only [Int.reduceToNat] at *; omega)) ?_ | refine hC.go [67] _ rfl rfl ?_ | (intro h; first | exact (h rfl).elim | (exfalso; cases h; done) | (dsimp only [kk_cP, kk_cN] at h) | skip)
          refine hC.same (mm_comes l _ G B c (by omega) (hJ.rH.eq hs.2.1) hb (by omega)) rfl rfl rfl rfl (Nat.le_refl _) ?_
          rintro rs w' ⟨rfl, N, rfl, q1, q2, q3, q4⟩
          repeat' first | refine hC.gn [67] _ rfl rfl ?_ | refine And.intro ?_ ?_ | exact True.intro | refine hC.iadd [67] rfl rfl (by first | omega | (simp only [Int.reduceToNat] at *; omega)) ?_ | refine hC.isub [67] rfl rfl (by first | omega | (simp only [Int.reduceToNat] at *; omega)) ?_ | refine hC.imul [67] rfl rfl (by first | omega | (simp only [Int.reduceToNat] at *; omega)) ?_ | refine hC.iinc [67] rfl rfl rfl rfl (by first | omega | (simp only [Int.reduceToNat] at *; omega)) ?_ | refine hC.go [67] _ rfl rfl ?_ | (intro h; first | exact (h rfl).elim | (exfalso; cases h; done) | (dsimp only [kk_cP, kk_cN] at h) | skip)
          exact hC.sub [(0, (4, 0)), (1, (0, _)), (2, (2, _)), (4, (2, _)), (6, (0, _)), (7, (0, _))] ⟨rfl, rfl, rfl, rfl, rfl, rfl, trivial⟩ (ih _ _ _ _ f (mm_up B 2 N) (by omega) (by omega) nn1 ht hf (hs.tr (mm_st.up (fun k hk => q1 k (by omega)) q2)) q3)
        refine hC.go [] _ rfl rfl ?_
        repeat' first | refine hC.gn [67, 88, 144] _ rfl rfl ?_ | refine And.intro ?_ ?_ | exact True.intro | refine hC.iadd [67, 88, 144] rfl rfl (by first | omega | (simp only [Int.reduceToNat] at *; omega)) ?_ | refine hC.isub [67, 88, 144] rfl rfl (by first | omega | (simp only [Int.reduceToNat] at *; omega)) ?_ | refine hC.imul [67, 88, 144] rfl rfl (by first | omega | (simp only [Int.reduceToNat] at *; omega)) ?_ | refine hC.iinc [67, 88, 144] rfl rfl rfl rfl (by first | omega | (simp only [Int.reduceToNat] at *; omega)) ?_ | refine hC.go [67, 88, 144] _ rfl rfl ?_ | (intro h; first | exact (h rfl).elim | (exfalso; cases h; done) | (dsimp only [kk_cP, kk_cN] at h) | skip)
        all_goals first | omega | exact hC.sub [(0, (4, 0)), (2, (2, _)), (4, (2, _)), (6, (0, _))] ⟨rfl, rfl, rfl, rfl, trivial⟩ (k144 _ _ _ f B hf hs) | skip
        obtain ⟨c, hc⟩ := Int.eq_ofNat_of_zero_le (hti (by omega)).1
        have hq := k88 c (by have := hti (by omega); omega)
        rw [← hc] at hq
        exact hC.sub [(0, (4, 0)), (1, (0, _)), (2, (2, _)), (4, (2, _)), (6, (0, _)), (7, (0, _)), (8, (0, _))] ⟨rfl, rfl, rfl, rfl, rfl, rfl, rfl, trivial⟩ hq
    have k25 : ∀ (n : Nat) (i : Int), (9 - i).toNat < n → (0 ≤ i ∧ i ≤ 8) → (nn ≤ 8) → (∀ j : Nat, (j : Int) < i → 0 ≤ A 1 j ∧ A 1 j ≤ 9) → K 25 [(0, (4, 0)), (1, (0, nn)), (2, (0, i))] [] (mm_w G A) := by
      intro n
      induction n with
      | zero => intro i hz; exact absurd hz (Nat.not_lt_zero _)
      | succ n ih =>
        intro i hn i0 nn1 ht
        refine hC.go [] _ rfl rfl ?_
        repeat' first | refine hC.gn [25] _ rfl rfl ?_ | refine And.intro ?_ ?_ | exact True.intro | refine hC.iadd [25] rfl rfl (by first | omega | (simp only [Int.reduceToNat] at *; omega)) ?_ | refine hC.isub [25] rfl rfl (by first | omega | (simp only [Int.reduceToNat] at *; omega)) ?_ | refine hC.imul [25] rfl rfl (by first | omega | (simp only [Int.reduceToNat] at *; omega)) ?_ | refine hC.iinc [25] rfl rfl rfl rfl (by first | omega | (simp only [Int.reduceToNat] at *; omega)) ?_ | refine hC.go [25] _ rfl rfl ?_ | (intro h; first | exact (h rfl).elim | (exfalso; cases h; done) | (dsimp only [kk_cP, kk_cN] at h) | skip) | (refine hC.same (mm_isChapter l _ _ _ hcn) rfl rfl rfl rfl (Nat.le_refl _) ?_; rintro rs w' ⟨rfl, ⟨rfl, u1, u2, u3⟩ | rfl⟩)
        all_goals first | omega | exact ⟨G, A, _, rfl, rfl, hJ, G2, rfl⟩ | skip
        · refine hC.same (mm_layAside l _ G A) rfl rfl rfl rfl (Nat.le_refl _) ?_
          rintro rs w' ⟨rfl, f, rfl, hf⟩
          repeat' first | refine hC.gn [67] _ rfl rfl ?_ | refine And.intro ?_ ?_ | exact True.intro | refine hC.iadd [67] rfl rfl (by first | omega | (simp only [Int.reduceToNat] at *; omega)) ?_ | refine hC.isub [67] rfl rfl (by first | omega | (simp only [Int.reduceToNat] at *; omega)) ?_ | refine hC.imul [67] rfl rfl (by first | omega | (simp only [Int.reduceToNat] at *; omega)) ?_ | refine hC.iinc [67] rfl rfl rfl rfl (by first | omega | (simp only [Int.reduceToNat] at *; omega)) ?_ | refine hC.go [67] _ rfl rfl ?_ | (intro h; first | exact (h rfl).elim | (exfalso; cases h; done) | (dsimp only [kk_cP, kk_cN] at h) | skip)
          exact hC.sub [(0, (4, 0)), (1, (0, _)), (2, (2, _)), (4, (2, _)), (6, (0, _)), (7, (0, _))] ⟨rfl, rfl, rfl, rfl, rfl, rfl, trivial⟩ (k67 _ _ _ _ _ f (mm_up A 6 f) (Nat.lt_succ_self _) (by omega) nn1 (fun j hj => ht j (by omega)) hf mm_st.rf hJ.vS)
        · exact hC.sub [(0, (4, 0)), (1, (0, _)), (2, (0, _))] ⟨rfl, rfl, rfl, trivial⟩ (ih _ (by omega) (by omega) nn1 (fun j hj => by
            by_cases hq : j = i.toNat
            · subst hq; exact ⟨u1, u3⟩
            · exact ht j (by omega)))
    repeat' first | refine hC.gn [25] _ rfl rfl ?_ | refine And.intro ?_ ?_ | exact True.intro | refine hC.iadd [25] rfl rfl (by first | omega | (simp only [Int.reduceToNat] at *; omega)) ?_ | refine hC.isub [25] rfl rfl (by first | omega | (simp only [Int.reduceToNat] at *; omega)) ?_ | refine hC.imul [25] rfl rfl (by first | omega | (simp only [Int.reduceToNat] at *; omega)) ?_ | refine hC.iinc [25] rfl rfl rfl rfl (by first | omega | (simp only [Int.reduceToNat] at *; omega)) ?_ | refine hC.go [25] _ rfl rfl ?_ | (intro h; first | exact (h rfl).elim | (exfalso; cases h; done) | (dsimp only [kk_cP, kk_cN] at h) | skip) | (refine hC.call (mm_isIn l _ _ _ _) [] rfl rfl rfl rfl rfl rfl trivial (Nat.le_refl _) ?_; rintro rs w' ⟨rfl, ⟨rfl, h1, h2⟩ | ⟨rfl, h1⟩⟩)
    all_goals first | omega | exact ⟨G, A, _, rfl, rfl, hJ, G2, rfl⟩ | skip
    exact hC.sub [(0, (4, 0)), (1, (0, _)), (2, (0, _))] ⟨rfl, rfl, rfl, trivial⟩ (k25 _ _ (Nat.lt_succ_self _) (by omega) (by omega) (fun j hj => absurd hj (by omega)))
  repeat' first | refine hC.gn [9] _ rfl rfl ?_ | refine And.intro ?_ ?_ | exact True.intro | refine hC.iadd [9] rfl rfl (by first | omega | (simp only [Int.reduceToNat] at *; omega)) ?_ | refine hC.isub [9] rfl rfl (by first | omega | (simp only [Int.reduceToNat] at *; omega)) ?_ | refine hC.imul [9] rfl rfl (by first | omega | (simp only [Int.reduceToNat] at *; omega)) ?_ | refine hC.iinc [9] rfl rfl rfl rfl (by first | omega | (simp only [Int.reduceToNat] at *; omega)) ?_ | refine hC.go [9] _ rfl rfl ?_ | (intro h; first | exact (h rfl).elim | (exfalso; cases h; done) | (dsimp only [kk_cP, kk_cN] at h) | skip) | (refine hC.same (mm_take l _ F1 A) rfl rfl rfl rfl (Nat.le_refl _) ?_; rintro rs w' ⟨rfl, rfl⟩)
  exact k9 (kk_up F1 2 0) (F1 2) rfl ⟨⟨Int.le_refl 0, (show (0 : Int) ≤ 940 by decide)⟩, hI.2⟩ hI2.1 hI2.2
set_option maxRecDepth 100000 in
set_option maxHeartbeats 4000000 in
theorem mm_write (l : Launch) (d : Nat) (F : Nat → Int) (A : Nat → Nat → Int) (c : Int) (h0 : 0 ≤ F 37) (h1 : F 37 < 96) : kk_Ctr l d en_t_X11_write [(4, 0), (0, c)] (mm_w F A) (fun rs w' => rs = [] ∧ ∃ f, w' = mm_w (kk_up F 37 (F 37 + 1)) (mm_up A 13 f)) := by
  refine kk_ctr en_hM (List.mem_of_getElem? (i := 269) rfl) rfl (Nat.le_of_ble_eq_true rfl) (fun K hC => ?_)
  repeat' first | refine hC.gn [] _ rfl rfl ?_ | refine And.intro ?_ ?_ | exact True.intro | refine hC.iadd [] rfl rfl (by first | omega | (simp only [Int.reduceToNat] at *; omega)) ?_ | refine hC.isub [] rfl rfl (by first | omega | (simp only [Int.reduceToNat] at *; omega)) ?_ | refine hC.imul [] rfl rfl (by first | omega | (simp only [Int.reduceToNat] at *; omega)) ?_ | refine hC.iinc [] rfl rfl rfl rfl (by first | omega | (simp only [Int.reduceToNat] at *; omega)) ?_ | refine hC.go [] _ rfl rfl ?_ | (intro h; first | exact (h rfl).elim | (exfalso; cases h; done) | (dsimp only [kk_cP, kk_cN] at h) | skip)
  all_goals first | rfl | omega | exact ⟨_, rfl⟩ | exact Or.inl rfl | exact Or.inr rfl | (simp only [Int.reduceToNat] at *; omega) | exact ⟨kk_up (A 13) (F 37).toNat c, rfl⟩
theorem kk_cmpl {x y : Int} : kk_cmp x y < 0 ↔ x < y := by
  unfold kk_cmp
  split
  · constructor <;> intro h <;> omega
  · split <;> constructor <;> intro h <;> omega
theorem kk_ldiv27 {x : Int} (h0 : 0 ≤ x) (h1 : x ≤ 10460353202) : kk_l2 6 x 27 = x / 27 := by
  show (Int64.ofInt x / Int64.ofInt 27).toInt = x / 27
  rw [← Int64.ofInt_tdiv (by show (-9223372036854775808 : Int) ≤ x; omega) (by show x ≤ 9223372036854775807; omega) (by decide) (by decide), Int.tdiv_eq_ediv_of_nonneg h0]
  exact Int64.toInt_ofInt_of_le (by omega) (by omega)
def mm_wrt (F : Nat → Int) (A : Nat → Nat → Int) (j : Nat) : List en_V → List kk_C → Prop := fun rs w' => rs = [] ∧ ∃ G f, w' = mm_w G (mm_up A 13 f) ∧ (∀ k, k ≠ 37 → G k = F k) ∧ F 37 ≤ G 37 ∧ G 37 ≤ F 37 + j
set_option maxRecDepth 100000 in
set_option maxHeartbeats 4000000 in
theorem mm_writeWord (l : Launch) : ∀ (j d : Nat) (F : Nat → Int) (A : Nat → Nat → Int) (x : Int), j ≤ 7 → x ≤ mm_B j - 1 → 1 ≤ j → 0 ≤ F 37 → F 37 + j ≤ 96 → kk_Ctr l (d + j + 1) en_t_X11_writeWord [(4, 0), (2, x)] (mm_w F A) (mm_wrt F A j) := by
  intro j
  induction j with
  | zero => intro d F A x _ _ h; omega
  | succ j ih =>
    intro d F A x j7 hx _ h0 h9
    obtain ⟨e1, e2, e3⟩ := mm_B_s (k := j) (by omega)
    have eB := mm_B_le (j + 1)
    refine kk_ctr en_hM (List.mem_of_getElem? (i := 245) rfl) rfl (Nat.le_of_ble_eq_true rfl) (fun K hC => ?_)
    have k17 : ∀ (G : Nat → Int) (f : Nat → Int), (∀ k, k ≠ 37 → G k = F k) → (F 37 ≤ G 37) → (G 37 ≤ F 37 + j) → K 17 [(0, (4, 0)), (1, (2, x))] [] (mm_w G (mm_up A 13 f)) := by
      intro G f g1 g2 g3
      repeat' first | refine hC.gn [] _ rfl rfl ?_ | refine And.intro ?_ ?_ | exact True.intro | refine hC.iadd [] rfl rfl (by first | omega | (simp only [Int.reduceToNat] at *; omega)) ?_ | refine hC.isub [] rfl rfl (by first | omega | (simp only [Int.reduceToNat] at *; omega)) ?_ | refine hC.imul [] rfl rfl (by first | omega | (simp only [Int.reduceToNat] at *; omega)) ?_ | refine hC.iinc [] rfl rfl rfl rfl (by first | omega | (simp only [Int.reduceToNat] at *; omega)) ?_ | refine hC.go [] _ rfl rfl ?_ | (intro h; first | exact (h rfl).elim | (exfalso; cases h; done) | (dsimp only [kk_cP, kk_cN] at h) | skip)
      all_goals first | omega | decide | skip
      refine hC.same (mm_write l _ G (mm_up A 13 f) _ (by omega) (by omega)) rfl rfl rfl rfl (Nat.le_refl _) ?_
      rintro rs w' ⟨rfl, f', rfl⟩
      repeat' first | refine hC.gn [] _ rfl rfl ?_ | refine And.intro ?_ ?_ | exact True.intro | refine hC.iadd [] rfl rfl (by first | omega | (simp only [Int.reduceToNat] at *; omega)) ?_ | refine hC.isub [] rfl rfl (by first | omega | (simp only [Int.reduceToNat] at *; omega)) ?_ | refine hC.imul [] rfl rfl (by first | omega | (simp only [Int.reduceToNat] at *; omega)) ?_ | refine hC.iinc [] rfl rfl rfl rfl (by first | omega | (simp only [Int.reduceToNat] at *; omega)) ?_ | refine hC.go [] _ rfl rfl ?_ | (intro h; first | exact (h rfl).elim | (exfalso; cases h; done) | (dsimp only [kk_cP, kk_cN] at h) | skip)
      · rfl
      · exact ⟨kk_up G 37 (G 37 + 1), f', rfl, fun k hk => (kk_up_ne hk).trans (g1 k hk), (show F 37 ≤ G 37 + 1 by omega), (show G 37 + 1 ≤ F 37 + ((j + 1 : Nat) : Int) by omega)⟩
    repeat' first | refine hC.gn [17] _ rfl rfl ?_ | refine And.intro ?_ ?_ | exact True.intro | refine hC.iadd [17] rfl rfl (by first | omega | (simp only [Int.reduceToNat] at *; omega)) ?_ | refine hC.isub [17] rfl rfl (by first | omega | (simp only [Int.reduceToNat] at *; omega)) ?_ | refine hC.imul [17] rfl rfl (by first | omega | (simp only [Int.reduceToNat] at *; omega)) ?_ | refine hC.iinc [17] rfl rfl rfl rfl (by first | omega | (simp only [Int.reduceToNat] at *; omega)) ?_ | refine hC.go [17] _ rfl rfl ?_ | (intro h; first | exact (h rfl).elim | (exfalso; cases h; done) | (dsimp only [kk_cP, kk_cN] at h) | skip)
    all_goals first | omega | decide | exact k17 F (A 13) (fun _ _ => rfl) (by omega) (by omega) | skip
    have hc : ¬ x < 27 := fun g => by
      have h1 := kk_cmpl.mpr g
      have h2 : 0 ≤ kk_cmp x 27 := by assumption
      omega
    have j1 : 1 ≤ j := by
      by_cases hq : j = 0
      · subst hq
        have hx' : x ≤ 27 - 1 := hx
        omega
      · omega
    refine hC.same (ih d F A (kk_l2 6 x 27) (by omega) (by rw [kk_ldiv27 (by omega) (by omega)]; omega) j1 h0 (by omega)) rfl rfl rfl rfl (Nat.le_refl _) ?_
    rintro rs w' ⟨rfl, G, f, rfl, g1, g2, g3⟩
    exact k17 G f g1 g2 g3
set_option maxRecDepth 100000 in
set_option maxHeartbeats 4000000 in
theorem mm_writeNext (l : Launch) (d : Nat) (F : Nat → Int) (A : Nat → Nat → Int) (x : Int) (hx : x ≤ 10460353202) (h0 : 0 ≤ F 37) (h9 : F 37 + 8 ≤ 96) : kk_Ctr l (d + 9) en_t_X11_writeNext [(4, 0), (2, x)] (mm_w F A) (mm_wrt F A 8) := by
  refine kk_ctr en_hM (List.mem_of_getElem? (i := 246) rfl) rfl (Nat.le_of_ble_eq_true rfl) (fun K hC => ?_)
  repeat' first | refine hC.gn [] _ rfl rfl ?_ | refine And.intro ?_ ?_ | exact True.intro | refine hC.iadd [] rfl rfl (by first | omega | (simp only [Int.reduceToNat] at *; omega)) ?_ | refine hC.isub [] rfl rfl (by first | omega | (simp only [Int.reduceToNat] at *; omega)) ?_ | refine hC.imul [] rfl rfl (by first | omega | (simp only [Int.reduceToNat] at *; omega)) ?_ | refine hC.iinc [] rfl rfl rfl rfl (by first | omega | (simp only [Int.reduceToNat] at *; omega)) ?_ | refine hC.go [] _ rfl rfl ?_ | (intro h; first | exact (h rfl).elim | (exfalso; cases h; done) | (dsimp only [kk_cP, kk_cN] at h) | skip)
  refine hC.same (mm_write l _ F A _ (by omega) (by omega)) rfl rfl rfl rfl (Nat.le_refl _) ?_
  rintro rs w' ⟨rfl, f', rfl⟩
  repeat' first | refine hC.gn [] _ rfl rfl ?_ | refine And.intro ?_ ?_ | exact True.intro | refine hC.iadd [] rfl rfl (by first | omega | (simp only [Int.reduceToNat] at *; omega)) ?_ | refine hC.isub [] rfl rfl (by first | omega | (simp only [Int.reduceToNat] at *; omega)) ?_ | refine hC.imul [] rfl rfl (by first | omega | (simp only [Int.reduceToNat] at *; omega)) ?_ | refine hC.iinc [] rfl rfl rfl rfl (by first | omega | (simp only [Int.reduceToNat] at *; omega)) ?_ | refine hC.go [] _ rfl rfl ?_ | (intro h; first | exact (h rfl).elim | (exfalso; cases h; done) | (dsimp only [kk_cP, kk_cN] at h) | skip)
  refine hC.same (mm_writeWord l 7 d (kk_up F 37 (F 37 + 1)) (mm_up A 13 f') x (by decide) hx (by decide) (show 0 ≤ F 37 + 1 by omega) (show F 37 + 1 + 7 ≤ 96 by omega)) rfl rfl rfl rfl (Nat.le_refl _) ?_
  rintro rs w' ⟨rfl, G, f, rfl, g1, g2, g3⟩
  have g2 : F 37 + 1 ≤ G 37 := g2
  have g3 : G 37 ≤ F 37 + 1 + 7 := g3
  repeat' first | refine hC.gn [] _ rfl rfl ?_ | refine And.intro ?_ ?_ | exact True.intro | refine hC.iadd [] rfl rfl (by first | omega | (simp only [Int.reduceToNat] at *; omega)) ?_ | refine hC.isub [] rfl rfl (by first | omega | (simp only [Int.reduceToNat] at *; omega)) ?_ | refine hC.imul [] rfl rfl (by first | omega | (simp only [Int.reduceToNat] at *; omega)) ?_ | refine hC.iinc [] rfl rfl rfl rfl (by first | omega | (simp only [Int.reduceToNat] at *; omega)) ?_ | refine hC.go [] _ rfl rfl ?_ | (intro h; first | exact (h rfl).elim | (exfalso; cases h; done) | (dsimp only [kk_cP, kk_cN] at h) | skip)
  · rfl
  · exact ⟨G, f, rfl, fun k hk => (g1 k hk).trans (kk_up_ne hk), by omega, (show G 37 ≤ F 37 + 8 by omega)⟩
set_option maxRecDepth 100000 in
set_option maxHeartbeats 4000000 in
theorem mm_sp {x c M N : Int} (h0 : 0 ≤ x ∧ x ≤ M) (h1 : M ≤ 387420488) (h3 : 97 ≤ c ∧ c ≤ 122) (h4 : 27 * M + 26 ≤ N) : 0 ≤ kk_l2 1 (kk_l2 0 (kk_l2 2 27 x) c) 96 ∧ kk_l2 1 (kk_l2 0 (kk_l2 2 27 x) c) 96 ≤ N := by
  rw [kk_lmul (by omega), kk_ladd (by omega), kk_lsub (by omega)]
  omega
set_option maxRecDepth 100000 in
set_option maxHeartbeats 4000000 in
theorem mm_sp0 {a : Int} (h3 : 97 ≤ a ∧ a ≤ 122) : 0 ≤ kk_l2 1 a 96 ∧ kk_l2 1 a 96 ≤ 26 := by
  rw [kk_lsub (by omega)]
  omega
set_option maxRecDepth 100000 in
set_option maxHeartbeats 4000000 in
theorem mm_spelt2 (l : Launch) (d : Nat) (a b c e f g u : Int) (ha : 97 ≤ a ∧ a ≤ 122) (hb : 97 ≤ b ∧ b ≤ 122) (hc : c ≤ 0 ∨ 97 ≤ c ∧ c ≤ 122) (he : e ≤ 0 ∨ 97 ≤ e ∧ e ≤ 122) (hf : f ≤ 0 ∨ 97 ≤ f ∧ f ≤ 122) (hg : g ≤ 0 ∨ 97 ≤ g ∧ g ≤ 122) (hu : u ≤ 0 ∨ 97 ≤ u ∧ u ≤ 122) : kk_Ctr l d en_t_X11_spelt [(0, a), (0, b), (0, c), (0, e), (0, f), (0, g), (0, u)] [] (fun rs w' => w' = [] ∧ ∃ x, rs = [(2, x)] ∧ x ≤ 10460353202) := by
  refine kk_ctr en_hM (List.mem_of_getElem? (i := 244) rfl) rfl (Nat.le_of_ble_eq_true rfl) (fun K hC => ?_)
  have k120 : ∀ x : Int, 0 ≤ x ∧ x ≤ 10460353202 → K 120 [(7, (2, x))] [] [] := by
    intro x hx
    refine hC.go [] _ rfl rfl ?_
    repeat' first | refine hC.gn [] _ rfl rfl ?_ | refine And.intro ?_ ?_ | exact True.intro | refine hC.iadd [] rfl rfl (by first | omega | (simp only [Int.reduceToNat] at *; omega)) ?_ | refine hC.isub [] rfl rfl (by first | omega | (simp only [Int.reduceToNat] at *; omega)) ?_ | refine hC.imul [] rfl rfl (by first | omega | (simp only [Int.reduceToNat] at *; omega)) ?_ | refine hC.iinc [] rfl rfl rfl rfl (by first | omega | (simp only [Int.reduceToNat] at *; omega)) ?_ | refine hC.go [] _ rfl rfl ?_ | (intro h; first | exact (h rfl).elim | (exfalso; cases h; done) | (dsimp only [kk_cP, kk_cN] at h) | skip)
    all_goals first | rfl | exact ⟨_, rfl, hx.2⟩
  have k99 : ∀ x : Int, 0 ≤ x ∧ x ≤ 387420488 → K 99 [(6, (0, u)), (7, (2, x))] [] [] := by
    intro x hx
    refine hC.go [] _ rfl rfl ?_
    repeat' first | refine hC.gn [120] _ rfl rfl ?_ | refine And.intro ?_ ?_ | exact True.intro | refine hC.iadd [120] rfl rfl (by first | omega | (simp only [Int.reduceToNat] at *; omega)) ?_ | refine hC.isub [120] rfl rfl (by first | omega | (simp only [Int.reduceToNat] at *; omega)) ?_ | refine hC.imul [120] rfl rfl (by first | omega | (simp only [Int.reduceToNat] at *; omega)) ?_ | refine hC.iinc [120] rfl rfl rfl rfl (by first | omega | (simp only [Int.reduceToNat] at *; omega)) ?_ | refine hC.go [120] _ rfl rfl ?_ | (intro h; first | exact (h rfl).elim | (exfalso; cases h; done) | (dsimp only [kk_cP, kk_cN] at h) | skip)
    all_goals first | exact hC.sub [(7, (2, _))] ⟨rfl, trivial⟩ (k120 x (by omega)) | exact hC.sub [(7, (2, _))] ⟨rfl, trivial⟩ (k120 _ (mm_sp hx (by decide) (by omega) (by decide)))
  have k78 : ∀ x : Int, 0 ≤ x ∧ x ≤ 14348906 → K 78 [(5, (0, g)), (6, (0, u)), (7, (2, x))] [] [] := by
    intro x hx
    refine hC.go [] _ rfl rfl ?_
    repeat' first | refine hC.gn [99] _ rfl rfl ?_ | refine And.intro ?_ ?_ | exact True.intro | refine hC.iadd [99] rfl rfl (by first | omega | (simp only [Int.reduceToNat] at *; omega)) ?_ | refine hC.isub [99] rfl rfl (by first | omega | (simp only [Int.reduceToNat] at *; omega)) ?_ | refine hC.imul [99] rfl rfl (by first | omega | (simp only [Int.reduceToNat] at *; omega)) ?_ | refine hC.iinc [99] rfl rfl rfl rfl (by first | omega | (simp only [Int.reduceToNat] at *; omega)) ?_ | refine hC.go [99] _ rfl rfl ?_ | (intro h; first | exact (h rfl).elim | (exfalso; cases h; done) | (dsimp only [kk_cP, kk_cN] at h) | skip)
    all_goals first | exact hC.sub [(6, (0, u)), (7, (2, _))] ⟨rfl, rfl, trivial⟩ (k99 x (by omega)) | exact hC.sub [(6, (0, u)), (7, (2, _))] ⟨rfl, rfl, trivial⟩ (k99 _ (mm_sp hx (by decide) (by omega) (by decide)))
  have k57 : ∀ x : Int, 0 ≤ x ∧ x ≤ 531440 → K 57 [(4, (0, f)), (5, (0, g)), (6, (0, u)), (7, (2, x))] [] [] := by
    intro x hx
    refine hC.go [] _ rfl rfl ?_
    repeat' first | refine hC.gn [78] _ rfl rfl ?_ | refine And.intro ?_ ?_ | exact True.intro | refine hC.iadd [78] rfl rfl (by first | omega | (simp only [Int.reduceToNat] at *; omega)) ?_ | refine hC.isub [78] rfl rfl (by first | omega | (simp only [Int.reduceToNat] at *; omega)) ?_ | refine hC.imul [78] rfl rfl (by first | omega | (simp only [Int.reduceToNat] at *; omega)) ?_ | refine hC.iinc [78] rfl rfl rfl rfl (by first | omega | (simp only [Int.reduceToNat] at *; omega)) ?_ | refine hC.go [78] _ rfl rfl ?_ | (intro h; first | exact (h rfl).elim | (exfalso; cases h; done) | (dsimp only [kk_cP, kk_cN] at h) | skip)
    all_goals first | exact hC.sub [(5, (0, g)), (6, (0, u)), (7, (2, _))] ⟨rfl, rfl, rfl, trivial⟩ (k78 x (by omega)) | exact hC.sub [(5, (0, g)), (6, (0, u)), (7, (2, _))] ⟨rfl, rfl, rfl, trivial⟩ (k78 _ (mm_sp hx (by decide) (by omega) (by decide)))
  have k38 : ∀ x : Int, 0 ≤ x ∧ x ≤ 19682 → K 38 [(3, (0, e)), (4, (0, f)), (5, (0, g)), (6, (0, u)), (7, (2, x))] [] [] := by
    intro x hx
    refine hC.go [] _ rfl rfl ?_
    repeat' first | refine hC.gn [57] _ rfl rfl ?_ | refine And.intro ?_ ?_ | exact True.intro | refine hC.iadd [57] rfl rfl (by first | omega | (simp only [Int.reduceToNat] at *; omega)) ?_ | refine hC.isub [57] rfl rfl (by first | omega | (simp only [Int.reduceToNat] at *; omega)) ?_ | refine hC.imul [57] rfl rfl (by first | omega | (simp only [Int.reduceToNat] at *; omega)) ?_ | refine hC.iinc [57] rfl rfl rfl rfl (by first | omega | (simp only [Int.reduceToNat] at *; omega)) ?_ | refine hC.go [57] _ rfl rfl ?_ | (intro h; first | exact (h rfl).elim | (exfalso; cases h; done) | (dsimp only [kk_cP, kk_cN] at h) | skip)
    all_goals first | exact hC.sub [(4, (0, f)), (5, (0, g)), (6, (0, u)), (7, (2, _))] ⟨rfl, rfl, rfl, rfl, trivial⟩ (k57 x (by omega)) | exact hC.sub [(4, (0, f)), (5, (0, g)), (6, (0, u)), (7, (2, _))] ⟨rfl, rfl, rfl, rfl, trivial⟩ (k57 _ (mm_sp hx (by decide) (by omega) (by decide)))
  have k20 : ∀ x : Int, 0 ≤ x ∧ x ≤ 728 → K 19 [(2, (0, c)), (3, (0, e)), (4, (0, f)), (5, (0, g)), (6, (0, u)), (7, (2, x))] [] [] := by
    intro x hx
    refine hC.go [] _ rfl rfl ?_
    repeat' first | refine hC.gn [38] _ rfl rfl ?_ | refine And.intro ?_ ?_ | exact True.intro | refine hC.iadd [38] rfl rfl (by first | omega | (simp only [Int.reduceToNat] at *; omega)) ?_ | refine hC.isub [38] rfl rfl (by first | omega | (simp only [Int.reduceToNat] at *; omega)) ?_ | refine hC.imul [38] rfl rfl (by first | omega | (simp only [Int.reduceToNat] at *; omega)) ?_ | refine hC.iinc [38] rfl rfl rfl rfl (by first | omega | (simp only [Int.reduceToNat] at *; omega)) ?_ | refine hC.go [38] _ rfl rfl ?_ | (intro h; first | exact (h rfl).elim | (exfalso; cases h; done) | (dsimp only [kk_cP, kk_cN] at h) | skip)
    all_goals first | exact hC.sub [(3, (0, e)), (4, (0, f)), (5, (0, g)), (6, (0, u)), (7, (2, _))] ⟨rfl, rfl, rfl, rfl, rfl, trivial⟩ (k38 x (by omega)) | exact hC.sub [(3, (0, e)), (4, (0, f)), (5, (0, g)), (6, (0, u)), (7, (2, _))] ⟨rfl, rfl, rfl, rfl, rfl, trivial⟩ (k38 _ (mm_sp hx (by decide) (by omega) (by decide)))
  repeat' first | refine hC.gn [19] _ rfl rfl ?_ | refine And.intro ?_ ?_ | exact True.intro | refine hC.iadd [19] rfl rfl (by first | omega | (simp only [Int.reduceToNat] at *; omega)) ?_ | refine hC.isub [19] rfl rfl (by first | omega | (simp only [Int.reduceToNat] at *; omega)) ?_ | refine hC.imul [19] rfl rfl (by first | omega | (simp only [Int.reduceToNat] at *; omega)) ?_ | refine hC.iinc [19] rfl rfl rfl rfl (by first | omega | (simp only [Int.reduceToNat] at *; omega)) ?_ | refine hC.go [19] _ rfl rfl ?_ | (intro h; first | exact (h rfl).elim | (exfalso; cases h; done) | (dsimp only [kk_cP, kk_cN] at h) | skip)
  refine hC.sub [(2, (0, c)), (3, (0, e)), (4, (0, f)), (5, (0, g)), (6, (0, u)), (7, (2, _))] ⟨rfl, rfl, rfl, rfl, rfl, rfl, trivial⟩ (k20 _ (mm_sp (mm_sp0 ha) (by decide) hb (by decide)))
