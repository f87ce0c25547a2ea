/-! BOOKS: the reference's call -/
set_option maxRecDepth 100000 in
set_option maxHeartbeats 4000000 in
theorem mm_xBook (l : Launch) (d : Nat) {Bm : Nat → Nat → Int} {a : Int → Int} {res : Nat → Int} {Hs : Nat → Nat → Int} (F : Nat → Int) (A : Nat → Nat → Int) (lv : Int) (hI : mm_I Bm F A) (hz : rz res) (ha : (fun i => tt_v 940 (F 2) (A 1) i) = a) (hB : mb_G Hs A) : kk_Ctr l (d + 6) en_t_X11_book [(4, 0), (0, lv)] (mm_w F A) (fun rs w' => ∃ F' A' x, w' = mm_w F' A' ∧ rs = [(0, x)] ∧ A' 10 = A 10 ∧ ((¬ (0 ≤ lv ∧ lv ≤ 1) ∧ mm_I Bm F' A' ∧ F' 2 = F 2) ∨ ((0 ≤ lv ∧ lv ≤ 1) ∧ ∃ v, mm_I (fu Bm v) F' A' ∧ F' 2 = 0 ∧ bk_fl (bk_lines (tk_ob (F 2) 400 a res) (tk_nx (F 2) 400 a res) Hs 41 0 (tk_sk a 940 0)) v))) := by
  generalize hsp : bk_lines (tk_ob (F 2) 400 a res) (tk_nx (F 2) 400 a res) Hs 41 0 (tk_sk a 940 0) = sp
  refine kk_ctr en_hM (List.mem_of_getElem? (i := 199) rfl) rfl (Nat.le_of_ble_eq_true rfl) (fun K hC => ?_)
  repeat' first | refine hC.gn [5] _ rfl rfl ?_ | refine And.intro ?_ ?_ | exact True.intro | refine hC.iadd [5] rfl rfl (by first | omega | (simp only [Int.reduceToNat] at *; omega)) ?_ | refine hC.isub [5] rfl rfl (by first | omega | (simp only [Int.reduceToNat] at *; omega)) ?_ | refine hC.imul [5] rfl rfl (by first | omega | (simp only [Int.reduceToNat] at *; omega)) ?_ | refine hC.iinc [5] rfl rfl rfl rfl (by first | omega | (simp only [Int.reduceToNat] at *; omega)) ?_ | refine hC.go [5] _ rfl rfl ?_ | (intro h; first | exact (h rfl).elim | (exfalso; cases h; done) | (dsimp only [kk_cP, kk_cN] at h) | skip)
  refine (show ∀ F1 : Nat → Int, F1 2 = F 2 → mm_I Bm F1 A → K 5 [(0, (4, 0)), (1, (0, lv))] [] (mm_w F1 A) from ?_) (kk_up F 0 0) rfl hI
  clear hI
  intro F1 e2 hI
  have hI2 := hI.1
  have hmI : ∀ (G : Nat → Int) (f : Nat → Int) (v : Int), G 2 = 0 → (∀ k, 13 < k → k ≠ 40 → G k = F1 k) → G 10 = v → mm_I (fu Bm v) G (mm_up A 14 f) := fun G f v g2 hG h10 => by
    refine ⟨by rw [g2]; decide, ?_⟩
    rw [hG 23 (by decide) (by decide), hG 31 (by decide) (by decide), hG 37 (by decide) (by decide), hG 26 (by decide) (by decide), hG 35 (by decide) (by decide), h10]
    obtain ⟨z1, z2, z3, z4, z5, z6, z7, z8, z9, z10, z11⟩ := hI.2
    exact ⟨z1, z2, z3, z4, z5, z6, z7, z8, z9, z10, z11.fu⟩
  -- behind the lines: all that is left
  have k103 : ∀ (k w : Int) (G : Nat → Int) (B : Nat → Nat → Int), bk_fl sp 0 → mm_I (fu Bm 0) G B → G 2 = 0 → B 10 = A 10 → mm_sg (B 2 2) (B 6) → 0 ≤ lv ∧ lv ≤ 1 → K 103 [(0, (4, 0)), (1, (0, lv)), (2, (0, k)), (3, (0, w))] [] (mm_w G B) := by
    intro k w G B hv hJ G2 b10 b6 lv1
    have k143 : ∀ (g : Nat → Int), K 143 [(0, (4, 0)), (1, (0, lv)), (2, (0, k)), (3, (0, w))] [] (mm_w G (mm_up B 15 g)) := by
      intro g
      repeat' first | refine hC.gn [] _ rfl rfl ?_ | refine And.intro ?_ ?_ | exact True.intro | refine hC.iadd [] rfl rfl (by first | omega | (simp only [Int.reduceToNat] at *; omega)) ?_ | refine hC.isub [] rfl rfl (by first | omega | (simp only [Int.reduceToNat] at *; omega)) ?_ | refine hC.imul [] rfl rfl (by first | omega | (simp only [Int.reduceToNat] at *; omega)) ?_ | refine hC.iinc [] rfl rfl rfl rfl (by first | omega | (simp only [Int.reduceToNat] at *; omega)) ?_ | refine hC.go [] _ rfl rfl ?_ | (intro h; first | exact (h rfl).elim | (exfalso; cases h; done) | (dsimp only [kk_cP, kk_cN] at h) | skip)
      all_goals first | exact Or.inr rfl | skip
      all_goals
        refine hC.same (mm_stay (Bm := fu Bm 0) l _ (kk_up G 41 1) (mm_up B 15 g) _ hJ b6) rfl rfl rfl rfl (Nat.le_refl _) ?_
        rintro rs w' ⟨rfl, G', B', rfl, hJ', hG', b10'⟩
        repeat' first | refine hC.gn [] _ rfl rfl ?_ | refine And.intro ?_ ?_ | exact True.intro | refine hC.iadd [] rfl rfl (by first | omega | (simp only [Int.reduceToNat] at *; omega)) ?_ | refine hC.isub [] rfl rfl (by first | omega | (simp only [Int.reduceToNat] at *; omega)) ?_ | refine hC.imul [] rfl rfl (by first | omega | (simp only [Int.reduceToNat] at *; omega)) ?_ | refine hC.iinc [] rfl rfl rfl rfl (by first | omega | (simp only [Int.reduceToNat] at *; omega)) ?_ | refine hC.go [] _ rfl rfl ?_ | (intro h; first | exact (h rfl).elim | (exfalso; cases h; done) | (dsimp only [kk_cP, kk_cN] at h) | skip)
        all_goals exact ⟨G', B', _, rfl, rfl, b10'.trans b10, Or.inr ⟨lv1, 0, hJ', (hG' 2 (by decide)).trans G2, hv⟩⟩
    repeat' first | refine hC.gn [130] _ rfl rfl ?_ | refine And.intro ?_ ?_ | exact True.intro | refine hC.iadd [130] rfl rfl (by first | omega | (simp only [Int.reduceToNat] at *; omega)) ?_ | refine hC.isub [130] rfl rfl (by first | omega | (simp only [Int.reduceToNat] at *; omega)) ?_ | refine hC.imul [130] rfl rfl (by first | omega | (simp only [Int.reduceToNat] at *; omega)) ?_ | refine hC.iinc [130] rfl rfl rfl rfl (by first | omega | (simp only [Int.reduceToNat] at *; omega)) ?_ | refine hC.go [130] _ rfl rfl ?_ | (intro h; first | exact (h rfl).elim | (exfalso; cases h; done) | (dsimp only [kk_cP, kk_cN] at h) | skip)
    all_goals first | omega | skip
    refine (show ∀ g : Nat → Int, K 130 [(0, (4, 0)), (1, (0, lv)), (2, (0, k)), (3, (0, w))] [] (mm_w G (mm_up B 15 g)) from ?_) (kk_up (kk_up (kk_up (B 15) 0 w) 1 k) 2 (B 2 67))
    intro g
    repeat' first | refine hC.gn [143] _ rfl rfl ?_ | refine And.intro ?_ ?_ | exact True.intro | refine hC.iadd [143] rfl rfl (by first | omega | (simp only [Int.reduceToNat] at *; omega)) ?_ | refine hC.isub [143] rfl rfl (by first | omega | (simp only [Int.reduceToNat] at *; omega)) ?_ | refine hC.imul [143] rfl rfl (by first | omega | (simp only [Int.reduceToNat] at *; omega)) ?_ | refine hC.iinc [143] rfl rfl rfl rfl (by first | omega | (simp only [Int.reduceToNat] at *; omega)) ?_ | refine hC.go [143] _ rfl rfl ?_ | (intro h; first | exact (h rfl).elim | (exfalso; cases h; done) | (dsimp only [kk_cP, kk_cN] at h) | skip)
    refine hC.same (mm_sum l _ G (mm_up B 15 g) 89 4 (by decide)) rfl rfl rfl rfl (Nat.le_refl _) ?_
    rintro rs w' ⟨rfl, rfl⟩
    repeat' first | refine hC.gn [143] _ rfl rfl ?_ | refine And.intro ?_ ?_ | exact True.intro | refine hC.iadd [143] rfl rfl (by first | omega | (simp only [Int.reduceToNat] at *; omega)) ?_ | refine hC.isub [143] rfl rfl (by first | omega | (simp only [Int.reduceToNat] at *; omega)) ?_ | refine hC.imul [143] rfl rfl (by first | omega | (simp only [Int.reduceToNat] at *; omega)) ?_ | refine hC.iinc [143] rfl rfl rfl rfl (by first | omega | (simp only [Int.reduceToNat] at *; omega)) ?_ | refine hC.go [143] _ rfl rfl ?_ | (intro h; first | exact (h rfl).elim | (exfalso; cases h; done) | (dsimp only [kk_cP, kk_cN] at h) | skip)
    all_goals first | omega | exact k143 (kk_up g 3 _)
  have kx : ∀ (k : Int) (w : Int) (G : Nat → Int) (B : Nat → Nat → Int), (w ≠ 0) → (bk_fl sp 0) → (mm_I (fu Bm 0) G B) → (G 2 = 0) → (B 10 = A 10) → (mm_sg (B 2 2) (B 6)) → (0 ≤ lv ∧ lv ≤ 1) → K 73 [(0, (4, 0)), (1, (0, lv)), (2, (0, k)), (3, (0, w))] [] (mm_w G B) := by
    intro k w G B hw hv hJ G2 b10 b6 lv1
    repeat' first | refine hC.gn [103] _ rfl rfl ?_ | refine And.intro ?_ ?_ | exact True.intro | refine hC.iadd [103] rfl rfl (by first | omega | (simp only [Int.reduceToNat] at *; omega)) ?_ | refine hC.isub [103] rfl rfl (by first | omega | (simp only [Int.reduceToNat] at *; omega)) ?_ | refine hC.imul [103] rfl rfl (by first | omega | (simp only [Int.reduceToNat] at *; omega)) ?_ | refine hC.iinc [103] rfl rfl rfl rfl (by first | omega | (simp only [Int.reduceToNat] at *; omega)) ?_ | refine hC.go [103] _ rfl rfl ?_ | (intro h; first | exact (h rfl).elim | (exfalso; cases h; done) | (dsimp only [kk_cP, kk_cN] at h) | skip)
    all_goals first | exact k103 k w G B hv hJ G2 b10 b6 lv1 | (exfalso; exact hw (by assumption))
  have k73 : ∀ (n : Nat) (k : Nat) (w : Int) (G : Nat → Int) (B : Nat → Nat → Int), (41 - k) < n → (w = 0) → ((k : Int) ≤ G 40 ∧ G 40 ≤ 40) → (bk_fl sp 0) → (mm_I (fu Bm 0) G B) → (G 2 = 0) → (B 10 = A 10) → (mm_sg (B 2 2) (B 6)) → (∀ j : Nat, (j : Int) < G 40 → mm_ln (B 14) j) → (0 ≤ lv ∧ lv ≤ 1) → K 73 [(0, (4, 0)), (1, (0, lv)), (2, (0, (k : Int))), (3, (0, w))] [] (mm_w G B) := by
    intro n
    induction n with
    | zero => intro k w G B hz; exact absurd hz (Nat.not_lt_zero _)
    | succ n ih =>
      intro k w G B hn hw hk hv hJ G2 b10 b6 hln lv1
      refine hC.go [] _ rfl rfl ?_
      repeat' first | refine hC.gn [73, 103] _ rfl rfl ?_ | refine And.intro ?_ ?_ | exact True.intro | refine hC.iadd [73, 103] rfl rfl (by first | omega | (simp only [Int.reduceToNat] at *; omega)) ?_ | refine hC.isub [73, 103] rfl rfl (by first | omega | (simp only [Int.reduceToNat] at *; omega)) ?_ | refine hC.imul [73, 103] rfl rfl (by first | omega | (simp only [Int.reduceToNat] at *; omega)) ?_ | refine hC.iinc [73, 103] rfl rfl rfl rfl (by first | omega | (simp only [Int.reduceToNat] at *; omega)) ?_ | refine hC.go [73, 103] _ rfl rfl ?_ | (intro h; first | exact (h rfl).elim | (exfalso; cases h; done) | (dsimp only [kk_cP, kk_cN] at h) | skip)
      all_goals first | exact k103 k w G B hv hJ G2 b10 b6 lv1 | (exfalso; omega) | skip
      refine hC.same (mm_goBy l _ G B k hJ.rH hJ.vS (by omega) (hln k (by omega))) rfl rfl rfl rfl (Nat.le_refl _) ?_
      rintro rs w' ⟨⟨y, rfl⟩, G', B', rfl, hG', hs', hb'⟩
      have hJ' : mm_I (fu Bm 0) G' B' := by
        refine ⟨by rw [hG' 2 (by decide)]; exact hJ.1, ?_⟩
        rw [hG' 23 (by decide), hG' 31 (by decide), hG' 37 (by decide), hG' 26 (by decide), hG' 35 (by decide), hG' 10 (by decide)]
        exact hJ.2.st hs' hb'
      have g2' : G' 2 = 0 := (hG' 2 (by decide)).trans G2
      have b10' : B' 10 = A 10 := (hs'.1 10 (by decide)).trans b10
      have b6' : mm_sg (B' 2 2) (B' 6) := by rw [hs'.1 6 (by decide), hs'.2.1 2 (by decide)]; exact b6
      have g40 : G' 40 = G 40 := hG' 40 (by decide)
      have hln' : ∀ j : Nat, (j : Int) < G' 40 → mm_ln (B' 14) j := fun j hj => by rw [hs'.1 14 (by decide)]; exact hln j (by omega)
      repeat' first | refine hC.gn [73] _ rfl rfl ?_ | refine And.intro ?_ ?_ | exact True.intro | refine hC.iadd [73] rfl rfl (by first | omega | (simp only [Int.reduceToNat] at *; omega)) ?_ | refine hC.isub [73] rfl rfl (by first | omega | (simp only [Int.reduceToNat] at *; omega)) ?_ | refine hC.imul [73] rfl rfl (by first | omega | (simp only [Int.reduceToNat] at *; omega)) ?_ | refine hC.iinc [73] rfl rfl rfl rfl (by first | omega | (simp only [Int.reduceToNat] at *; omega)) ?_ | refine hC.go [73] _ rfl rfl ?_ | (intro h; first | exact (h rfl).elim | (exfalso; cases h; done) | (dsimp only [kk_cP, kk_cN] at h) | skip)
      · exact hC.sub [(0, (4, 0)), (1, (0, lv)), (2, (0, (k : Int))), (3, (0, y))] ⟨rfl, rfl, rfl, rfl, trivial⟩ (kx k y G' B' (by assumption) hv hJ' g2' b10' b6' lv1)
      · exact hC.sub [(0, (4, 0)), (1, (0, lv)), (2, (0, ((k + 1 : Nat) : Int))), (3, (0, y))] ⟨rfl, rfl, rfl, rfl, trivial⟩ (ih (k + 1) y G' B' (by omega) (by assumption) (by omega) hv hJ' g2' b10' b6' hln' lv1)
  have k30 : ∀ (n : Nat) (G : Nat → Int) (f : Nat → Int) (g : Nat) (c1 : Int), (41 - G 40).toNat < n → (rmw (F 2) 400 a res c1 G A) → (0 ≤ G 40 ∧ G 40 ≤ 40) → ((g : Int) + G 40 = 41) → (bk_lines (tk_ob (F 2) 400 a res) (tk_nx (F 2) 400 a res) Hs g (G 40) c1 = sp) → (G 2 = 0) → (G 10 = 0) → (∀ k, 13 < k → k ≠ 40 → G k = F1 k) → (∀ j : Nat, (j : Int) < G 40 → mm_ln f j) → (0 ≤ lv ∧ lv ≤ 1) → K 30 [(0, (4, 0)), (1, (0, lv))] [] (mm_w G (mm_up A 14 f)) := by
    intro n
    induction n with
    | zero => intro G f g c1 hz; exact absurd hz (Nat.not_lt_zero _)
    | succ n ih =>
      intro G f g c1 hn hr g40 gf hs G2 G10 hG hln lv1
      have hk1 := hr.tok.k1
      have hr' : rmw (F 2) 400 a res c1 G (mm_up A 14 f) := hr
      obtain ⟨g', rfl⟩ : ∃ g', g = g' + 1 := ⟨g - 1, by omega⟩
      refine hC.go [] _ rfl rfl ?_
      repeat' first | refine hC.gn [30, 73] _ rfl rfl ?_ | refine And.intro ?_ ?_ | exact True.intro | refine hC.iadd [30, 73] rfl rfl (by first | omega | (simp only [Int.reduceToNat] at *; omega)) ?_ | refine hC.isub [30, 73] rfl rfl (by first | omega | (simp only [Int.reduceToNat] at *; omega)) ?_ | refine hC.imul [30, 73] rfl rfl (by first | omega | (simp only [Int.reduceToNat] at *; omega)) ?_ | refine hC.iinc [30, 73] rfl rfl rfl rfl (by first | omega | (simp only [Int.reduceToNat] at *; omega)) ?_ | refine hC.go [30, 73] _ rfl rfl ?_ | (intro h; first | exact (h rfl).elim | (exfalso; cases h; done) | (dsimp only [kk_cP, kk_cN] at h) | skip)
      all_goals first | omega | skip
      · have he : tk_ob (F 2) 400 a res c1 3 = 1 := hk1.mp (by assumption)
        have hv : bk_fl sp 0 := Or.inl ⟨_, hs.symm.trans (bk_lines_e he), rfl⟩
        refine hC.same (mm_layAside l _ G (mm_up A 14 f)) rfl rfl rfl rfl (Nat.le_refl _) ?_
        rintro rs w' ⟨rfl, g0, rfl, hg⟩
        repeat' first | refine hC.gn [73] _ rfl rfl ?_ | refine And.intro ?_ ?_ | exact True.intro | refine hC.iadd [73] rfl rfl (by first | omega | (simp only [Int.reduceToNat] at *; omega)) ?_ | refine hC.isub [73] rfl rfl (by first | omega | (simp only [Int.reduceToNat] at *; omega)) ?_ | refine hC.imul [73] rfl rfl (by first | omega | (simp only [Int.reduceToNat] at *; omega)) ?_ | refine hC.iinc [73] rfl rfl rfl rfl (by first | omega | (simp only [Int.reduceToNat] at *; omega)) ?_ | refine hC.go [73] _ rfl rfl ?_ | (intro h; first | exact (h rfl).elim | (exfalso; cases h; done) | (dsimp only [kk_cP, kk_cN] at h) | skip)
        exact hC.sub [(0, (4, 0)), (1, (0, lv)), (2, (0, ((0 : Nat) : Int))), (3, (0, 0))] ⟨rfl, rfl, rfl, rfl, trivial⟩ (k73 _ 0 0 G (mm_up (mm_up A 14 f) 6 g0) (Nat.lt_succ_self _) rfl (by omega) hv (hmI G f 0 G2 hG G10) G2 rfl (mm_vS_sg hI.vS rfl hg) hln lv1)
      · have hne : tk_ob (F 2) 400 a res c1 3 ≠ 1 := fun q => absurd (hk1.mpr q) (by assumption)
        have hs1 := (bk_lines_n hne).symm.trans hs
        refine hC.same (mz_readBookLine l _ G (mm_up A 14 f) hz hr' (Hs := Hs) hI.cn (show mb_G Hs (mm_up A 14 f) from hB) g40) rfl rfl rfl rfl (Nat.le_refl _) ?_
        rintro rs w' ⟨F', f', rfl, hfr, ⟨c', es, rfl, h40, hl, hK⟩ | ⟨e, es, rfl, hE⟩⟩
        · have e40 : F' 40 = G 40 := hK.1.1 40 (by decide)
          have hs2 := hs1.symm.trans (sp_b_k es)
          have hr2 : rmw (F 2) 400 a res c' F' A := hK.2.2
          repeat' first | refine hC.gn [30] _ rfl rfl ?_ | refine And.intro ?_ ?_ | exact True.intro | refine hC.iadd [30] rfl rfl (by first | omega | (simp only [Int.reduceToNat] at *; omega)) ?_ | refine hC.isub [30] rfl rfl (by first | omega | (simp only [Int.reduceToNat] at *; omega)) ?_ | refine hC.imul [30] rfl rfl (by first | omega | (simp only [Int.reduceToNat] at *; omega)) ?_ | refine hC.iinc [30] rfl rfl rfl rfl (by first | omega | (simp only [Int.reduceToNat] at *; omega)) ?_ | refine hC.go [30] _ rfl rfl ?_ | (intro h; first | exact (h rfl).elim | (exfalso; cases h; done) | (dsimp only [kk_cP, kk_cN] at h) | skip)
          refine ih (kk_up F' 40 (F' 40 + 1)) f' g' c' (show (41 - (F' 40 + 1)).toNat < n by omega) hr2 (show 0 ≤ F' 40 + 1 ∧ F' 40 + 1 ≤ 40 by omega) (show (g' : Int) + (F' 40 + 1) = 41 by omega) (show bk_lines (tk_ob (F 2) 400 a res) (tk_nx (F 2) 400 a res) Hs g' (F' 40 + 1) c' = sp by rw [e40]; exact hs2.symm) ((hK.1.1 2 (by decide)).trans G2) (show F' 10 = 0 from hK.2.1.trans G10) (fun k q1 q2 => (kk_up_ne q2).trans ((hK.1.1 k (Or.inr q1)).trans (hG k q1 q2))) (fun j hj => ?_) lv1
          have hj : (j : Int) < F' 40 + 1 := hj
          by_cases hq : (j : Int) < G 40
          · have h1 := hln j hq
            have e : ∀ z : Nat, z < 3 → f' (3 * j + z) = f (3 * j + z) := fun z hz => hfr (3 * j + z) (by omega)
            have e0 := e 0 (by decide)
            have e1 := e 1 (by decide)
            have e2' := e 2 (by decide)
            unfold mm_ln at h1 ⊢
            rw [show f' (3 * j) = f (3 * j) from e0, e1, e2']
            exact h1
          · rw [show j = (G 40).toNat by omega]
            exact hl
        · have hs2 := hs1.symm.trans (sp_b_e es)
          repeat' first | refine hC.gn [30] _ rfl rfl ?_ | refine And.intro ?_ ?_ | exact True.intro | refine hC.iadd [30] rfl rfl (by first | omega | (simp only [Int.reduceToNat] at *; omega)) ?_ | refine hC.isub [30] rfl rfl (by first | omega | (simp only [Int.reduceToNat] at *; omega)) ?_ | refine hC.imul [30] rfl rfl (by first | omega | (simp only [Int.reduceToNat] at *; omega)) ?_ | refine hC.iinc [30] rfl rfl rfl rfl (by first | omega | (simp only [Int.reduceToNat] at *; omega)) ?_ | refine hC.go [30] _ rfl rfl ?_ | (intro h; first | exact (h rfl).elim | (exfalso; cases h; done) | (dsimp only [kk_cP, kk_cN] at h) | skip)
          exact ⟨F', mm_up A 14 f', _, rfl, rfl, rfl, Or.inr ⟨lv1, F' 10, hmI F' f' (F' 10) ((hE.1.1 2 (by decide)).trans G2) (fun k q1 q2 => (hE.1.1 k (Or.inr q1)).trans (hG k q1 q2)) rfl, (hE.1.1 2 (by decide)).trans G2, Or.inr ⟨e, hs2, hE.2.1⟩⟩⟩
  repeat' first | refine hC.gn [] _ rfl rfl ?_ | refine And.intro ?_ ?_ | exact True.intro | refine hC.iadd [] rfl rfl (by first | omega | (simp only [Int.reduceToNat] at *; omega)) ?_ | refine hC.isub [] rfl rfl (by first | omega | (simp only [Int.reduceToNat] at *; omega)) ?_ | refine hC.imul [] rfl rfl (by first | omega | (simp only [Int.reduceToNat] at *; omega)) ?_ | refine hC.iinc [] rfl rfl rfl rfl (by first | omega | (simp only [Int.reduceToNat] at *; omega)) ?_ | refine hC.go [] _ rfl rfl ?_ | (intro h; first | exact (h rfl).elim | (exfalso; cases h; done) | (dsimp only [kk_cP, kk_cN] at h) | skip) | (refine hC.call (mm_isIn l _ _ _ _) [] rfl rfl rfl rfl rfl rfl trivial (Nat.le_refl _) ?_; rintro rs w' ⟨rfl, ⟨rfl, h1, h2⟩ | ⟨rfl, h1⟩⟩)
  all_goals first | exact ⟨F1, A, _, rfl, rfl, rfl, Or.inl ⟨by omega, hI, e2⟩⟩ | skip
  refine hC.same (mz_begin (a := a) (res := res) l _ F1 A 400 hI2.1 hI2.2 (by rw [e2]; exact ha)) rfl rfl rfl rfl (Nat.le_refl _) ?_
  rintro rs w' ⟨rfl, G, rfl, g2, g0, g10, gg, hr⟩
  rw [e2] at hr
  repeat' first | refine hC.gn [30] _ rfl rfl ?_ | refine And.intro ?_ ?_ | exact True.intro | refine hC.iadd [30] rfl rfl (by first | omega | (simp only [Int.reduceToNat] at *; omega)) ?_ | refine hC.isub [30] rfl rfl (by first | omega | (simp only [Int.reduceToNat] at *; omega)) ?_ | refine hC.imul [30] rfl rfl (by first | omega | (simp only [Int.reduceToNat] at *; omega)) ?_ | refine hC.iinc [30] rfl rfl rfl rfl (by first | omega | (simp only [Int.reduceToNat] at *; omega)) ?_ | refine hC.go [30] _ rfl rfl ?_ | (intro h; first | exact (h rfl).elim | (exfalso; cases h; done) | (dsimp only [kk_cP, kk_cN] at h) | skip)
  exact k30 _ (kk_up G 40 0) (A 14) 41 _ (Nat.lt_succ_self _) (show rmw (F 2) 400 a res (tk_sk a 940 0) (kk_up G 40 0) A from hr) (show (0 : Int) ≤ 0 ∧ (0 : Int) ≤ 40 by decide) (show ((41 : Nat) : Int) + 0 = 41 by decide) hsp g2 g10 (fun k q1 q2 => (kk_up_ne q2).trans (gg k (by omega))) (fun j hj => absurd (show (j : Int) < 0 from hj) (by omega)) (by omega)
