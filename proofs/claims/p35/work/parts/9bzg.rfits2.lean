/-! FITS: the reference's call -/
theorem dn_zero {a : Nat → Int} {w v : Int} {j : Nat} : (kk_i2 3 w (dn a true (j + 1)) = 0 ∧ kk_i2 3 v (dn a false (j + 1)) = 0) ↔ (kk_i2 3 w (dn a true j) = 0 ∧ kk_i2 3 v (dn a false j) = 0) ∧ (if a (2 * j + 1) = 1 then kk_i2 3 w (kk_i2 6 1 (a (2 * j))) = 0 else kk_i2 3 v (kk_i2 6 1 (a (2 * j))) = 0) := by
  by_cases h : a (2 * j + 1) = 1
  · rw [dn_y (decide_eq_true h), dn_n (q := false) (by rw [decide_eq_true h]; decide), kk_and_or, if_pos h]
    constructor
    · rintro ⟨⟨q1, q2⟩, q3⟩; exact ⟨⟨q1, q3⟩, q2⟩
    · rintro ⟨⟨q1, q2⟩, q3⟩; exact ⟨⟨q1, q3⟩, q2⟩
  · rw [dn_n (q := true) (by rw [decide_eq_false h]; decide), dn_y (decide_eq_false h), kk_and_or, if_neg h]
    constructor
    · rintro ⟨q1, q2, q3⟩; exact ⟨⟨q1, q2⟩, q3⟩
    · rintro ⟨⟨q1, q2⟩, q3⟩; exact ⟨q1, q2, q3⟩
theorem dn_says {a : Nat → Int} {u v : Int} {j : Nat} (hu : 0 ≤ u ∧ u < 256) (hv : 0 ≤ v ∧ v < 256) (he : 0 ≤ a (2 * j) ∧ a (2 * j) < 8) (hd : bgt v (a (2 * j)) → ¬ bgt u (a (2 * j))) : (kk_i2 3 v (dn a true (j + 1)) = 0 ∧ kk_i2 3 u (dn a false (j + 1)) = 0) ↔ (kk_i2 3 v (dn a true j) = 0 ∧ kk_i2 3 u (dn a false j) = 0) ∧ sy u v (a (2 * j)) ≠ (if a (2 * j + 1) = 1 then 2 else 1) := by
  rw [dn_zero, bgt_mask hu he, bgt_mask hv he]
  refine and_congr_right (fun _ => ?_)
  by_cases h : a (2 * j + 1) = 1
  · rw [if_pos h, if_pos h]
    by_cases h1 : bgt u (a (2 * j))
    · have h2 : ¬ bgt v (a (2 * j)) := fun g => hd g h1
      rw [sy_1 h1]
      exact ⟨fun _ => by decide, fun _ => h2⟩
    · by_cases h2 : bgt v (a (2 * j))
      · rw [sy_2 h1 h2]
        exact ⟨fun g => absurd h2 g, fun g => absurd rfl g⟩
      · rw [sy_0 h1 h2]
        exact ⟨fun _ => by decide, fun _ => h2⟩
  · rw [if_neg h, if_neg h]
    by_cases h1 : bgt u (a (2 * j))
    · rw [sy_1 h1]
      exact ⟨fun g => absurd h1 g, fun g => absurd rfl g⟩
    · by_cases h2 : bgt v (a (2 * j))
      · rw [sy_2 h1 h2]
        exact ⟨fun _ => by decide, fun _ => h1⟩
      · rw [sy_0 h1 h2]
        exact ⟨fun _ => by decide, fun _ => h1⟩
set_option maxRecDepth 100000 in
set_option maxHeartbeats 4000000 in
theorem mm_xFits (l : Launch) (d : Nat) {Bm : Nat → Nat → Int} (F : Nat → Int) (A : Nat → Nat → Int) (hI : mm_I Bm F A) (hr : mm_rg Bm) (hd : dj (fun j => Bm 2 (15 + j)) (fun j => Bm 2 (25 + j))) : kk_Ctr l (d + 3) en_t_X11_fits [(4, 0)] (mm_w F A) (fun rs w' => ∃ F' A', w' = mm_w F' A' ∧ mm_I (mu Bm 2 (wt_V Bm (F 2) (Bm 20 2))) F' A' ∧ F' 2 = 0 ∧ A' 10 = A 10 ∧ ∃ x, rs = [(0, x)] ∧ x = ft_V Bm (F 2)) := by
  have hI2 := hI.1
  have hcn0 := hI.cn
  obtain ⟨c1, c2, c3, c4, c5, c6⟩ := hI.cn
  have fr := hI.f2
  have f1 := hI.f1
  have hr' : mm_rg A := fun j hj => by rw [fr (15 + j) (by omega), fr (25 + j) (by omega)]; exact hr j hj
  have hd' : dj (fun j => A 2 (15 + j)) (fun j => A 2 (25 + j)) := hd.eq (fun j hj => ⟨fr _ (by omega), fr _ (by omega)⟩)
  obtain ⟨t, ht⟩ : ∃ t, F 2 = t := ⟨_, rfl⟩
  have t0 : 0 ≤ t ∧ t ≤ 940 := by rw [← ht]; exact hI2
  have hv : ft_v (A 2 0) (A 2 2) (fun j => A 2 (15 + j)) (fun j => A 2 (25 + j)) (A 1) t = ft_V Bm t := by
    rw [fr 0 (by decide), fr 2 (by decide), f1]
    exact ft_eq (by rw [← fr 2 (by decide)]; exact c6) (fun j hj => ⟨fr _ (by omega), fr _ (by omega)⟩) (fun _ _ => rfl)
  have hVr := ft_r (n0 := A 2 0) (n2 := A 2 2) (t := t) (m := fun j => A 2 (15 + j)) (b := fun j => A 2 (25 + j)) (a := A 1) c5 c6
  have hP2 := p2_le (n := (A 2 2).toNat) (by omega)
  have hno : ¬ ft_ok (A 2 0) t (A 1) → ft_V Bm t = -1 := fun h => by rw [← hv]; exact if_neg h
  have hye : ft_ok (A 2 0) t (A 1) → ft_V Bm t = fc (fun j => A 2 (15 + j)) (fun j => A 2 (25 + j)) (dn (A 1) true (t / 2).toNat) (dn (A 1) false (t / 2).toNat) (A 2 2).toNat := fun h => by rw [← hv]; exact if_pos h
  have hW0 : ¬ 0 < ft_V Bm t → wt_V Bm t (Bm 20 2) = Bm 20 2 := fun h => if_neg h
  have hW1 : 0 < ft_V Bm t → wt_V Bm t (Bm 20 2) = ((wr (fun e => ml (fun j => A 2 (15 + j)) (fun j => A 2 (25 + j)) (ft_V Bm t) (e : Int) (A 2 2).toNat) (A 2 0).toNat : Nat) : Int) := fun h => by
    rw [show wt_V Bm t (Bm 20 2) = _ from if_pos h, fr 0 (by decide), fr 2 (by decide)]
    congr 1
    exact wr_eq (fun e => ml_eq (fun j hj => ⟨(fr _ (by rw [← fr 2 (by decide)] at hj; omega)).symm, (fr _ (by rw [← fr 2 (by decide)] at hj; omega)).symm⟩)) _
  rw [hv] at hVr
  clear hv
  rw [ht]
  generalize ft_V Bm t = V at *
  generalize wt_V Bm t (Bm 20 2) = W at *
  have hf' : ∀ e : Nat, e < 8 → 0 < V → mxs (fun t => an (fun j => A 2 (15 + j)) (fun j => A 2 (25 + j)) V (e : Int) (t : Int) 10) 3 = ml (fun j => A 2 (15 + j)) (fun j => A 2 (25 + j)) V (e : Int) (A 2 2).toNat := fun e he h0 => by
    have q := an_ml (m := fun j => A 2 (15 + j)) (b := fun j => A 2 (25 + j)) (s := V.toNat) (n := (A 2 2).toNat) (e := (e : Int)) hr' (by omega) hd' (by omega) (by omega)
    rw [show ((V.toNat : Nat) : Int) = V by omega] at q
    exact q
  generalize hf : (fun e : Nat => ml (fun j => A 2 (15 + j)) (fun j => A 2 (25 + j)) V (e : Int) (A 2 2).toNat) = f at hW1
  have hf2 : ∀ e : Nat, e < 8 → 0 < V → mxs (fun t => an (fun j => A 2 (15 + j)) (fun j => A 2 (25 + j)) V (e : Int) (t : Int) 10) 3 = f e := fun e he h0 => (hf' e he h0).trans (congrFun hf e)
  clear hf hf' fr hr hd
  refine kk_ctr en_hM (List.mem_of_getElem? (i := 192) rfl) rfl (Nat.le_of_ble_eq_true rfl) (fun K hC => ?_)
  repeat' first | refine hC.gn [5] _ rfl rfl ?_ | refine And.intro ?_ ?_ | exact True.intro | refine hC.iadd [5] rfl rfl (by first | omega | (simp only [Int.reduceToNat] at *; omega)) ?_ | refine hC.isub [5] rfl rfl (by first | omega | (simp only [Int.reduceToNat] at *; omega)) ?_ | refine hC.imul [5] rfl rfl (by first | omega | (simp only [Int.reduceToNat] at *; omega)) ?_ | refine hC.iinc [5] rfl rfl rfl rfl (by first | omega | (simp only [Int.reduceToNat] at *; omega)) ?_ | refine hC.go [5] _ rfl rfl ?_ | (intro h; first | exact (h rfl).elim | (exfalso; cases h; done) | (dsimp only [kk_cP, kk_cN] at h) | skip)
  refine (show ∀ F1 : Nat → Int, F1 2 = F 2 → mm_I Bm F1 A → K 5 [(0, (4, 0))] [] (mm_w F1 A) from ?_) (kk_up F 0 0) rfl hI
  clear hI
  intro F1 e2 hI
  have k9 : ∀ (G : Nat → Int), G 2 = 0 → mm_I Bm G A → K 9 [(0, (4, 0))] [(0, t)] (mm_w G A) := by
    intro G G2 hJ
    have hcn := hJ.cn
    have fin0 : ¬ 0 < V → mm_I (mu Bm 2 W) G A := fun h => by rw [hW0 h, mu_id]; exact hJ
    have k177 : ∀ (n : Nat) (i : Int) (H : Nat → Int), (9 - i).toNat < n → (1 ≤ i ∧ i ≤ 8) → (i ≤ A 2 0) → (∀ j, j ≠ 35 → H j = G j) → (H 35 = ((wr f i.toNat : Nat) : Int)) → (0 < V) → K 177 [(0, (4, 0)), (2, (0, V)), (3, (0, i))] [] (mm_w H A) := by
      intro n
      induction n with
      | zero => intro i H hz; exact absurd hz (Nat.not_lt_zero _)
      | succ n ih =>
        intro i H hn i0 i1 hH h35 hS
        have ei : ((i.toNat : Nat) : Int) = i := by omega
        have e1 : (i + 1).toNat = i.toNat + 1 := by omega
        have wl := wr_le (f := f) (k := i.toNat)
        refine hC.go [] _ rfl rfl ?_
        repeat' first | refine hC.gn [177] _ rfl rfl ?_ | refine And.intro ?_ ?_ | exact True.intro | refine hC.iadd [177] rfl rfl (by first | omega | (simp only [Int.reduceToNat] at *; omega)) ?_ | refine hC.isub [177] rfl rfl (by first | omega | (simp only [Int.reduceToNat] at *; omega)) ?_ | refine hC.imul [177] rfl rfl (by first | omega | (simp only [Int.reduceToNat] at *; omega)) ?_ | refine hC.iinc [177] rfl rfl rfl rfl (by first | omega | (simp only [Int.reduceToNat] at *; omega)) ?_ | refine hC.go [177] _ rfl rfl ?_ | (intro h; first | exact (h rfl).elim | (exfalso; cases h; done) | (dsimp only [kk_cP, kk_cN] at h) | skip)
        all_goals first | rfl | omega | skip
        · have h' : A 2 0 ≤ i := h
          exact ⟨H, A, rfl, mm_I.wat hJ hH (h35.trans (by rw [hW1 hS, show i = A 2 0 by omega])), (hH 2 (by decide)).trans G2, rfl, _, rfl, rfl⟩
        · have h' : i < A 2 0 := h
          refine hC.same (mm_xAlikeBy l _ H A V i ⟨by omega, by omega⟩ ⟨by omega, by omega⟩ hr') rfl rfl rfl rfl (Nat.le_refl _) ?_
          rintro rs w' ⟨rfl, z1, rfl, hz1⟩
          repeat' first | refine hC.gn [177] _ rfl rfl ?_ | refine And.intro ?_ ?_ | exact True.intro | refine hC.iadd [177] rfl rfl (by first | omega | (simp only [Int.reduceToNat] at *; omega)) ?_ | refine hC.isub [177] rfl rfl (by first | omega | (simp only [Int.reduceToNat] at *; omega)) ?_ | refine hC.imul [177] rfl rfl (by first | omega | (simp only [Int.reduceToNat] at *; omega)) ?_ | refine hC.iinc [177] rfl rfl rfl rfl (by first | omega | (simp only [Int.reduceToNat] at *; omega)) ?_ | refine hC.go [177] _ rfl rfl ?_ | (intro h; first | exact (h rfl).elim | (exfalso; cases h; done) | (dsimp only [kk_cP, kk_cN] at h) | skip)
          refine hC.same (mm_xAlikeBy l _ H A V (H 35) ⟨by omega, by omega⟩ ⟨by omega, by omega⟩ hr') rfl rfl rfl rfl (Nat.le_refl _) ?_
          rintro rs w' ⟨rfl, z2, rfl, hz2⟩
          have q1 : z1 = f i.toNat := by rw [hz1, ← hf2 i.toNat (by omega) hS, ei]
          have q2 : z2 = f (wr f i.toNat) := by rw [hz2, ← hf2 (wr f i.toNat) (by omega) hS, h35]
          repeat' first | refine hC.gn [177] _ rfl rfl ?_ | refine And.intro ?_ ?_ | exact True.intro | refine hC.iadd [177] rfl rfl (by first | omega | (simp only [Int.reduceToNat] at *; omega)) ?_ | refine hC.isub [177] rfl rfl (by first | omega | (simp only [Int.reduceToNat] at *; omega)) ?_ | refine hC.imul [177] rfl rfl (by first | omega | (simp only [Int.reduceToNat] at *; omega)) ?_ | refine hC.iinc [177] rfl rfl rfl rfl (by first | omega | (simp only [Int.reduceToNat] at *; omega)) ?_ | refine hC.go [177] _ rfl rfl ?_ | (intro h; first | exact (h rfl).elim | (exfalso; cases h; done) | (dsimp only [kk_cP, kk_cN] at h) | skip)
          all_goals first | rfl | omega | skip
          · have h6 : z2 ≤ z1 := h
            exact hC.sub [(0, (4, 0)), (2, (0, _)), (3, (0, _))] ⟨rfl, rfl, rfl, trivial⟩ (ih _ H (by omega) (by omega) (by omega) hH (by rw [e1, wr_n (by omega)]; exact h35) hS)
          · have h6 : z1 < z2 := h
            exact hC.sub [(0, (4, 0)), (2, (0, _)), (3, (0, _))] ⟨rfl, rfl, rfl, trivial⟩ (ih _ (kk_up H 35 i) (by omega) (by omega) (by omega) (fun j hj => (kk_up_ne hj).trans (hH j hj)) (by rw [e1, wr_y (by omega), kk_up_eq, ei]) hS)
    by_cases hP : ft_ok (A 2 0) t (A 1)
    · have hV := hye hP
      obtain ⟨⟨t2, t16⟩, te, hk⟩ := hP
      have hn1 : 1 ≤ A 2 0 := by have := hk 0 (by omega); omega
      have k74 : ∀ (n : Nat) (c : Int) (s : Int), (11 - c).toNat < n → (0 ≤ c ∧ c ≤ 10) → (c ≤ A 2 2) → (s = fc (fun j => A 2 (15 + j)) (fun j => A 2 (25 + j)) (dn (A 1) true (t / 2).toNat) (dn (A 1) false (t / 2).toNat) c.toNat) → K 74 [(0, (4, 0)), (1, (0, t)), (2, (0, s)), (3, (0, c))] [] (mm_w G A) := by
        intro n
        induction n with
        | zero => intro c s hz; exact absurd hz (Nat.not_lt_zero _)
        | succ n ih =>
          intro c s hn g0 g1 g2
          have ih74 := ih
          have ec : ((c.toNat : Nat) : Int) = c := by omega
          have e1 : (c + 1).toNat = c.toNat + 1 := by omega
          have t1 : (15 + c).toNat = 15 + c.toNat := by omega
          have t2 : (25 + c).toNat = 25 + c.toNat := by omega
          have k90 : ∀ (n : Nat) (i : Int) (j : Nat) (b : Int), (20 - i).toNat < n → (i = 2 * (j : Int)) → (i ≤ t) → (c < A 2 2) → ((b = 0 ∧ ¬ (kk_i2 3 (A 2 (25 + c.toNat)) (dn (A 1) true j) = 0 ∧ kk_i2 3 (A 2 (15 + c.toNat)) (dn (A 1) false j) = 0)) ∨ (b = 1 ∧ kk_i2 3 (A 2 (25 + c.toNat)) (dn (A 1) true j) = 0 ∧ kk_i2 3 (A 2 (15 + c.toNat)) (dn (A 1) false j) = 0)) → K 90 [(0, (4, 0)), (1, (0, t)), (2, (0, s)), (3, (0, c)), (4, (0, b)), (5, (0, i))] [] (mm_w G A) := by
            intro n
            induction n with
            | zero => intro i j b hz; exact absurd hz (Nat.not_lt_zero _)
            | succ n ih =>
              intro i j b hn i0 i1 c9 hb
              refine hC.go [] _ rfl rfl ?_
              repeat' first | refine hC.gn [90, 74] _ rfl rfl ?_ | refine And.intro ?_ ?_ | exact True.intro | refine hC.iadd [90, 74] rfl rfl (by first | omega | (simp only [Int.reduceToNat] at *; omega)) ?_ | refine hC.isub [90, 74] rfl rfl (by first | omega | (simp only [Int.reduceToNat] at *; omega)) ?_ | refine hC.imul [90, 74] rfl rfl (by first | omega | (simp only [Int.reduceToNat] at *; omega)) ?_ | refine hC.iinc [90, 74] rfl rfl rfl rfl (by first | omega | (simp only [Int.reduceToNat] at *; omega)) ?_ | refine hC.go [90, 74] _ rfl rfl ?_ | (intro h; first | exact (h rfl).elim | (exfalso; cases h; done) | (dsimp only [kk_cP, kk_cN] at h) | skip)
              all_goals first | rfl | omega | skip
              · have h' : t ≤ i := by assumption
                have h6 : b = 0 := h
                have hj : (t / 2).toNat = j := by omega
                rcases hb with ⟨-, q⟩ | ⟨q, -⟩
                · exact hC.sub [(0, (4, 0)), (1, (0, _)), (2, (0, _)), (3, (0, _))] ⟨rfl, rfl, rfl, rfl, trivial⟩ (ih74 _ _ (by omega) (by omega) (by omega) (by rw [e1, fc_n (by rw [hj]; exact q), g2]))
                · omega
              · have h' : t ≤ i := by assumption
                have h6 : b ≠ 0 := h
                have hj : (t / 2).toNat = j := by omega
                rcases hb with ⟨q, -⟩ | ⟨-, q⟩
                · omega
                · exact hC.sub [(0, (4, 0)), (1, (0, _)), (2, (0, _)), (3, (0, _))] ⟨rfl, rfl, rfl, rfl, trivial⟩ (ih74 _ _ (by omega) (by omega) (by omega) (by rw [e1, fc_y (by rw [hj]; exact q), g2, ec]))
              · have h' : i < t := by assumption
                have h6 : b = 0 := h
                rcases hb with ⟨-, q⟩ | ⟨q, -⟩
                · exact hC.sub [(0, (4, 0)), (1, (0, _)), (2, (0, _)), (3, (0, _)), (4, (0, _)), (5, (0, _))] ⟨rfl, rfl, rfl, rfl, rfl, rfl, trivial⟩ (ih _ (j + 1) _ (by omega) (by omega) (by omega) c9 (Or.inl ⟨rfl, fun g => q (dn_zero.mp g).1⟩))
                · omega
              · have h' : i < t := by assumption
                have h6 : b ≠ 0 := h
                have hkj := hk j (by omega)
                have ti : i.toNat = 2 * j := by omega
                have ti1 : (i + 1).toNat = 2 * j + 1 := by omega
                have hs := dn_says (a := A 1) (j := j) (hr' c.toNat (by omega)).1 (hr' c.toNat (by omega)).2 ⟨hkj.1.1, by omega⟩ (hd' c.toNat (by omega) (A 1 (2 * j)) ⟨hkj.1.1, by omega⟩)
                rcases hb with ⟨q, -⟩ | ⟨-, q⟩
                · omega
                refine hC.same (mm_xSaysOf l _ G A c (A 1 i.toNat) (by omega) (by rw [ti]; omega) hr') rfl rfl rfl rfl (Nat.le_refl _) ?_
                rintro rs w' ⟨rfl, z, rfl, hz⟩
                rw [ti] at hz
                repeat' first | refine hC.gn [90, 74] _ rfl rfl ?_ | refine And.intro ?_ ?_ | exact True.intro | refine hC.iadd [90, 74] rfl rfl (by first | omega | (simp only [Int.reduceToNat] at *; omega)) ?_ | refine hC.isub [90, 74] rfl rfl (by first | omega | (simp only [Int.reduceToNat] at *; omega)) ?_ | refine hC.imul [90, 74] rfl rfl (by first | omega | (simp only [Int.reduceToNat] at *; omega)) ?_ | refine hC.iinc [90, 74] rfl rfl rfl rfl (by first | omega | (simp only [Int.reduceToNat] at *; omega)) ?_ | refine hC.go [90, 74] _ rfl rfl ?_ | (intro h; first | exact (h rfl).elim | (exfalso; cases h; done) | (dsimp only [kk_cP, kk_cN] at h) | skip)
                all_goals first | rfl | omega | skip
                · have h7 : A 1 (i + 1).toNat ≠ 1 := by assumption
                  have h8 : z = 1 := h
                  rw [ti1] at h7
                  rw [if_neg h7] at hs
                  exact hC.sub [(0, (4, 0)), (1, (0, _)), (2, (0, _)), (3, (0, _)), (4, (0, _)), (5, (0, _))] ⟨rfl, rfl, rfl, rfl, rfl, rfl, trivial⟩ (ih _ (j + 1) _ (by omega) (by omega) (by omega) c9 (Or.inl ⟨rfl, fun g => (hs.mp g).2 (hz.symm.trans h8)⟩))
                · have h7 : A 1 (i + 1).toNat ≠ 1 := by assumption
                  have h8 : z ≠ 1 := h
                  rw [ti1] at h7
                  rw [if_neg h7] at hs
                  exact hC.sub [(0, (4, 0)), (1, (0, _)), (2, (0, _)), (3, (0, _)), (4, (0, _)), (5, (0, _))] ⟨rfl, rfl, rfl, rfl, rfl, rfl, trivial⟩ (ih _ (j + 1) _ (by omega) (by omega) (by omega) c9 (Or.inr ⟨rfl, hs.mpr ⟨q, fun g => h8 (hz.trans g)⟩⟩))
                · have h7 : A 1 (i + 1).toNat = 1 := by assumption
                  have h8 : z = 2 := h
                  rw [ti1] at h7
                  rw [if_pos h7] at hs
                  exact hC.sub [(0, (4, 0)), (1, (0, _)), (2, (0, _)), (3, (0, _)), (4, (0, _)), (5, (0, _))] ⟨rfl, rfl, rfl, rfl, rfl, rfl, trivial⟩ (ih _ (j + 1) _ (by omega) (by omega) (by omega) c9 (Or.inl ⟨rfl, fun g => (hs.mp g).2 (hz.symm.trans h8)⟩))
                · have h7 : A 1 (i + 1).toNat = 1 := by assumption
                  have h8 : z ≠ 2 := h
                  rw [ti1] at h7
                  rw [if_pos h7] at hs
                  exact hC.sub [(0, (4, 0)), (1, (0, _)), (2, (0, _)), (3, (0, _)), (4, (0, _)), (5, (0, _))] ⟨rfl, rfl, rfl, rfl, rfl, rfl, trivial⟩ (ih _ (j + 1) _ (by omega) (by omega) (by omega) c9 (Or.inr ⟨rfl, hs.mpr ⟨q, fun g => h8 (hz.trans g)⟩⟩))
          refine hC.go [] _ rfl rfl ?_
          repeat' first | refine hC.gn [74, 90, 177] _ rfl rfl ?_ | refine And.intro ?_ ?_ | exact True.intro | refine hC.iadd [74, 90, 177] rfl rfl (by first | omega | (simp only [Int.reduceToNat] at *; omega)) ?_ | refine hC.isub [74, 90, 177] rfl rfl (by first | omega | (simp only [Int.reduceToNat] at *; omega)) ?_ | refine hC.imul [74, 90, 177] rfl rfl (by first | omega | (simp only [Int.reduceToNat] at *; omega)) ?_ | refine hC.iinc [74, 90, 177] rfl rfl rfl rfl (by first | omega | (simp only [Int.reduceToNat] at *; omega)) ?_ | refine hC.go [74, 90, 177] _ rfl rfl ?_ | (intro h; first | exact (h rfl).elim | (exfalso; cases h; done) | (dsimp only [kk_cP, kk_cN] at h) | skip)
          all_goals first | rfl | omega | skip
          · have h' : A 2 2 ≤ c := by assumption
            have h6 : s ≠ 0 := h
            have es : s = V := by rw [g2, hV, show c = A 2 2 by omega]
            have hs0 := (fc_r (m := fun j => A 2 (15 + j)) (b := fun j => A 2 (25 + j)) (D := dn (A 1) true (t / 2).toNat) (E := dn (A 1) false (t / 2).toNat) (k := c.toNat) (by omega)).1
            rw [← g2] at hs0
            subst es
            exact hC.sub [(0, (4, 0)), (2, (0, _)), (3, (0, _))] ⟨rfl, rfl, rfl, trivial⟩ (k177 _ _ (kk_up G 35 0) (Nat.lt_succ_self _) (by omega) (by omega) (fun j hj => kk_up_ne hj) (by rw [kk_up_eq]; show (0 : Int) = ((wr f 1 : Nat) : Int); rw [wr_1]; rfl) (by omega))
          · have h' : A 2 2 ≤ c := by assumption
            have h6 : s = 0 := h
            have es : s = V := by rw [g2, hV, show c = A 2 2 by omega]
            exact ⟨G, A, rfl, fin0 (by omega), G2, rfl, _, rfl, by omega⟩
          · have h' : c < A 2 2 := h
            exact hC.sub [(0, (4, 0)), (1, (0, _)), (2, (0, _)), (3, (0, _)), (4, (0, _)), (5, (0, _))] ⟨rfl, rfl, rfl, rfl, rfl, rfl, trivial⟩ (k90 _ _ 0 _ (Nat.lt_succ_self _) (by omega) (by omega) h' (Or.inr ⟨rfl, kk_and_z _, kk_and_z _⟩))
      have k32 : ∀ (n : Nat) (i : Int) (j : Nat), (20 - i).toNat < n → (i = 2 * (j : Int)) → (i ≤ t) → K 32 [(0, (4, 0)), (1, (0, t)), (2, (0, i))] [] (mm_w G A) := by
        intro n
        induction n with
        | zero => intro i j hz; exact absurd hz (Nat.not_lt_zero _)
        | succ n ih =>
          intro i j hn i0 i1
          refine hC.go [] _ rfl rfl ?_
          repeat' first | refine hC.gn [32, 74] _ rfl rfl ?_ | refine And.intro ?_ ?_ | exact True.intro | refine hC.iadd [32, 74] rfl rfl (by first | omega | (simp only [Int.reduceToNat] at *; omega)) ?_ | refine hC.isub [32, 74] rfl rfl (by first | omega | (simp only [Int.reduceToNat] at *; omega)) ?_ | refine hC.imul [32, 74] rfl rfl (by first | omega | (simp only [Int.reduceToNat] at *; omega)) ?_ | refine hC.iinc [32, 74] rfl rfl rfl rfl (by first | omega | (simp only [Int.reduceToNat] at *; omega)) ?_ | refine hC.go [32, 74] _ rfl rfl ?_ | (intro h; first | exact (h rfl).elim | (exfalso; cases h; done) | (dsimp only [kk_cP, kk_cN] at h) | skip)
          all_goals first | rfl | omega | skip
          · have h' : t ≤ i := h
            exact hC.sub [(0, (4, 0)), (1, (0, _)), (2, (0, _)), (3, (0, _))] ⟨rfl, rfl, rfl, rfl, trivial⟩ (k74 _ _ _ (Nat.lt_succ_self _) (by omega) (by omega) rfl)
          · have h' : i < t := h
            have hkj := hk j (by omega)
            have ti : i.toNat = 2 * j := by omega
            have ti1 : (i + 1).toNat = 2 * j + 1 := by omega
            rw [← ti1, ← ti] at hkj
            refine hC.same (mm_isDeed l G A _ ⟨hcn.1, hcn.2.1⟩) rfl rfl rfl rfl (Nat.le_refl _) ?_
            rintro rs w' ⟨rfl, ⟨rfl, v1, v2⟩ | ⟨rfl, v1⟩⟩
            · repeat' first | refine hC.gn [32, 74] _ rfl rfl ?_ | refine And.intro ?_ ?_ | exact True.intro | refine hC.iadd [32, 74] rfl rfl (by first | omega | (simp only [Int.reduceToNat] at *; omega)) ?_ | refine hC.isub [32, 74] rfl rfl (by first | omega | (simp only [Int.reduceToNat] at *; omega)) ?_ | refine hC.imul [32, 74] rfl rfl (by first | omega | (simp only [Int.reduceToNat] at *; omega)) ?_ | refine hC.iinc [32, 74] rfl rfl rfl rfl (by first | omega | (simp only [Int.reduceToNat] at *; omega)) ?_ | refine hC.go [32, 74] _ rfl rfl ?_ | (intro h; first | exact (h rfl).elim | (exfalso; cases h; done) | (dsimp only [kk_cP, kk_cN] at h) | skip)
              all_goals first | rfl | omega | skip
              · exact hC.sub [(0, (4, 0)), (1, (0, _)), (2, (0, _))] ⟨rfl, rfl, rfl, trivial⟩ (ih _ (j + 1) (by omega) (by omega) (by omega))
            · exact absurd hkj.1 v1
      repeat' first | refine hC.gn [32] _ rfl rfl ?_ | refine And.intro ?_ ?_ | exact True.intro | refine hC.iadd [32] rfl rfl (by first | omega | (simp only [Int.reduceToNat] at *; omega)) ?_ | refine hC.isub [32] rfl rfl (by first | omega | (simp only [Int.reduceToNat] at *; omega)) ?_ | refine hC.imul [32] rfl rfl (by first | omega | (simp only [Int.reduceToNat] at *; omega)) ?_ | refine hC.iinc [32] rfl rfl rfl rfl (by first | omega | (simp only [Int.reduceToNat] at *; omega)) ?_ | refine hC.go [32] _ rfl rfl ?_ | (intro h; first | exact (h rfl).elim | (exfalso; cases h; done) | (dsimp only [kk_cP, kk_cN] at h) | skip)
      all_goals first | rfl | omega | skip
      · exfalso
        have h6 : kk_i2 10 t 2 ≠ 0 := h
        rw [kk_irem ⟨by omega, by omega⟩ ⟨by decide, by decide⟩, Int.tmod_eq_emod_of_nonneg (by omega)] at h6
        omega
      · refine hC.call (mm_isIn l _ _ _ _) [] rfl rfl rfl rfl rfl rfl trivial (Nat.le_refl _) ?_
        rintro rs w' ⟨rfl, ⟨rfl, h1, h2⟩ | ⟨rfl, h1⟩⟩
        · repeat' first | refine hC.gn [32] _ rfl rfl ?_ | refine And.intro ?_ ?_ | exact True.intro | refine hC.iadd [32] rfl rfl (by first | omega | (simp only [Int.reduceToNat] at *; omega)) ?_ | refine hC.isub [32] rfl rfl (by first | omega | (simp only [Int.reduceToNat] at *; omega)) ?_ | refine hC.imul [32] rfl rfl (by first | omega | (simp only [Int.reduceToNat] at *; omega)) ?_ | refine hC.iinc [32] rfl rfl rfl rfl (by first | omega | (simp only [Int.reduceToNat] at *; omega)) ?_ | refine hC.go [32] _ rfl rfl ?_ | (intro h; first | exact (h rfl).elim | (exfalso; cases h; done) | (dsimp only [kk_cP, kk_cN] at h) | skip)
          exact hC.sub [(0, (4, 0)), (1, (0, _)), (2, (0, _))] ⟨rfl, rfl, rfl, trivial⟩ (k32 _ _ 0 (Nat.lt_succ_self _) (by omega) (by omega))
        · exfalso
          rw [kk_idiv2 (by omega) (by omega)] at h1
          omega
    · have hV := hno hP
      have k32 : ∀ (n : Nat) (i : Int) (j : Nat), (20 - i).toNat < n → (i = 2 * (j : Int)) → (i ≤ t) → (t ≤ 16 ∧ 2 ≤ t ∧ t % 2 = 0) → (∀ k : Nat, k < j → (0 ≤ A 1 (2 * k) ∧ A 1 (2 * k) < A 2 0) ∧ A 1 (2 * k + 1) ≤ 1) → K 32 [(0, (4, 0)), (1, (0, t)), (2, (0, i))] [] (mm_w G A) := by
        intro n
        induction n with
        | zero => intro i j hz; exact absurd hz (Nat.not_lt_zero _)
        | succ n ih =>
          intro i j hn i0 i1 i2 i3
          refine hC.go [] _ rfl rfl ?_
          repeat' first | refine hC.gn [32, 70] _ rfl rfl ?_ | refine And.intro ?_ ?_ | exact True.intro | refine hC.iadd [32, 70] rfl rfl (by first | omega | (simp only [Int.reduceToNat] at *; omega)) ?_ | refine hC.isub [32, 70] rfl rfl (by first | omega | (simp only [Int.reduceToNat] at *; omega)) ?_ | refine hC.imul [32, 70] rfl rfl (by first | omega | (simp only [Int.reduceToNat] at *; omega)) ?_ | refine hC.iinc [32, 70] rfl rfl rfl rfl (by first | omega | (simp only [Int.reduceToNat] at *; omega)) ?_ | refine hC.go [32, 70] _ rfl rfl ?_ | (intro h; first | exact (h rfl).elim | (exfalso; cases h; done) | (dsimp only [kk_cP, kk_cN] at h) | skip)
          all_goals first | rfl | omega | skip
          · have h' : t ≤ i := h
            exact absurd ⟨⟨i2.2.1, i2.1⟩, i2.2.2, fun k hk => i3 k (by omega)⟩ hP
          · have h' : i < t := h
            have ti : i.toNat = 2 * j := by omega
            have ti1 : (i + 1).toNat = 2 * j + 1 := by omega
            refine hC.same (mm_isDeed l G A _ ⟨hcn.1, hcn.2.1⟩) rfl rfl rfl rfl (Nat.le_refl _) ?_
            rintro rs w' ⟨rfl, ⟨rfl, v1, v2⟩ | ⟨rfl, v1⟩⟩
            · rw [ti] at v1 v2
              repeat' first | refine hC.gn [32, 70] _ rfl rfl ?_ | refine And.intro ?_ ?_ | exact True.intro | refine hC.iadd [32, 70] rfl rfl (by first | omega | (simp only [Int.reduceToNat] at *; omega)) ?_ | refine hC.isub [32, 70] rfl rfl (by first | omega | (simp only [Int.reduceToNat] at *; omega)) ?_ | refine hC.imul [32, 70] rfl rfl (by first | omega | (simp only [Int.reduceToNat] at *; omega)) ?_ | refine hC.iinc [32, 70] rfl rfl rfl rfl (by first | omega | (simp only [Int.reduceToNat] at *; omega)) ?_ | refine hC.go [32, 70] _ rfl rfl ?_ | (intro h; first | exact (h rfl).elim | (exfalso; cases h; done) | (dsimp only [kk_cP, kk_cN] at h) | skip)
              all_goals first | rfl | omega | skip
              · have h6 : A 1 (i + 1).toNat ≤ 1 := h
                rw [ti1] at h6
                refine hC.sub [(0, (4, 0)), (1, (0, _)), (2, (0, _))] ⟨rfl, rfl, rfl, trivial⟩ (ih _ (j + 1) (by omega) (by omega) (by omega) i2 (fun k hk => ?_))
                by_cases e : k = j
                · rw [e]; exact ⟨⟨v1, v2⟩, h6⟩
                · exact i3 k (by omega)
              · exact ⟨G, A, rfl, fin0 (by omega), G2, rfl, _, rfl, hV.symm⟩
            · repeat' first | refine hC.gn [32, 70] _ rfl rfl ?_ | refine And.intro ?_ ?_ | exact True.intro | refine hC.iadd [32, 70] rfl rfl (by first | omega | (simp only [Int.reduceToNat] at *; omega)) ?_ | refine hC.isub [32, 70] rfl rfl (by first | omega | (simp only [Int.reduceToNat] at *; omega)) ?_ | refine hC.imul [32, 70] rfl rfl (by first | omega | (simp only [Int.reduceToNat] at *; omega)) ?_ | refine hC.iinc [32, 70] rfl rfl rfl rfl (by first | omega | (simp only [Int.reduceToNat] at *; omega)) ?_ | refine hC.go [32, 70] _ rfl rfl ?_ | (intro h; first | exact (h rfl).elim | (exfalso; cases h; done) | (dsimp only [kk_cP, kk_cN] at h) | skip)
              all_goals first | rfl | omega | skip
              exact ⟨G, A, rfl, fin0 (by omega), G2, rfl, _, rfl, hV.symm⟩
      repeat' first | refine hC.gn [32] _ rfl rfl ?_ | refine And.intro ?_ ?_ | exact True.intro | refine hC.iadd [32] rfl rfl (by first | omega | (simp only [Int.reduceToNat] at *; omega)) ?_ | refine hC.isub [32] rfl rfl (by first | omega | (simp only [Int.reduceToNat] at *; omega)) ?_ | refine hC.imul [32] rfl rfl (by first | omega | (simp only [Int.reduceToNat] at *; omega)) ?_ | refine hC.iinc [32] rfl rfl rfl rfl (by first | omega | (simp only [Int.reduceToNat] at *; omega)) ?_ | refine hC.go [32] _ rfl rfl ?_ | (intro h; first | exact (h rfl).elim | (exfalso; cases h; done) | (dsimp only [kk_cP, kk_cN] at h) | skip)
      all_goals first | rfl | omega | skip
      · exact ⟨G, A, rfl, fin0 (by omega), G2, rfl, _, rfl, hV.symm⟩
      · have h6 : kk_i2 10 t 2 = 0 := h
        rw [kk_irem ⟨by omega, by omega⟩ ⟨by decide, by decide⟩, Int.tmod_eq_emod_of_nonneg (by omega)] at h6
        refine hC.call (mm_isIn l _ _ _ _) [] rfl rfl rfl rfl rfl rfl trivial (Nat.le_refl _) ?_
        rintro rs w' ⟨rfl, ⟨rfl, h1, h2⟩ | ⟨rfl, h1⟩⟩
        · rw [kk_idiv2 (by omega) (by omega)] at h1 h2
          repeat' first | refine hC.gn [32] _ rfl rfl ?_ | refine And.intro ?_ ?_ | exact True.intro | refine hC.iadd [32] rfl rfl (by first | omega | (simp only [Int.reduceToNat] at *; omega)) ?_ | refine hC.isub [32] rfl rfl (by first | omega | (simp only [Int.reduceToNat] at *; omega)) ?_ | refine hC.imul [32] rfl rfl (by first | omega | (simp only [Int.reduceToNat] at *; omega)) ?_ | refine hC.iinc [32] rfl rfl rfl rfl (by first | omega | (simp only [Int.reduceToNat] at *; omega)) ?_ | refine hC.go [32] _ rfl rfl ?_ | (intro h; first | exact (h rfl).elim | (exfalso; cases h; done) | (dsimp only [kk_cP, kk_cN] at h) | skip)
          exact hC.sub [(0, (4, 0)), (1, (0, _)), (2, (0, _))] ⟨rfl, rfl, rfl, trivial⟩ (k32 _ _ 0 (Nat.lt_succ_self _) (by omega) (by omega) (by omega) (fun k hk => absurd hk (by omega)))
        · repeat' first | refine hC.gn [32] _ rfl rfl ?_ | refine And.intro ?_ ?_ | exact True.intro | refine hC.iadd [32] rfl rfl (by first | omega | (simp only [Int.reduceToNat] at *; omega)) ?_ | refine hC.isub [32] rfl rfl (by first | omega | (simp only [Int.reduceToNat] at *; omega)) ?_ | refine hC.imul [32] rfl rfl (by first | omega | (simp only [Int.reduceToNat] at *; omega)) ?_ | refine hC.iinc [32] rfl rfl rfl rfl (by first | omega | (simp only [Int.reduceToNat] at *; omega)) ?_ | refine hC.go [32] _ rfl rfl ?_ | (intro h; first | exact (h rfl).elim | (exfalso; cases h; done) | (dsimp only [kk_cP, kk_cN] at h) | skip)
          all_goals first | rfl | omega | skip
          exact ⟨G, A, rfl, fin0 (by omega), G2, rfl, _, rfl, hV.symm⟩
  repeat' first | refine hC.gn [9] _ rfl rfl ?_ | refine And.intro ?_ ?_ | exact True.intro | refine hC.iadd [9] rfl rfl (by first | omega | (simp only [Int.reduceToNat] at *; omega)) ?_ | refine hC.isub [9] rfl rfl (by first | omega | (simp only [Int.reduceToNat] at *; omega)) ?_ | refine hC.imul [9] rfl rfl (by first | omega | (simp only [Int.reduceToNat] at *; omega)) ?_ | refine hC.iinc [9] rfl rfl rfl rfl (by first | omega | (simp only [Int.reduceToNat] at *; omega)) ?_ | refine hC.go [9] _ rfl rfl ?_ | (intro h; first | exact (h rfl).elim | (exfalso; cases h; done) | (dsimp only [kk_cP, kk_cN] at h) | skip)
  refine hC.same (mm_take l _ F1 A) rfl rfl rfl rfl (Nat.le_refl _) ?_
  rintro rs w' ⟨rfl, rfl⟩
  have e9 : F1 2 = t := e2.trans ht
  rw [e9]
  exact k9 (kk_up F1 2 0) rfl ⟨⟨Int.le_refl 0, (show (0 : Int) ≤ 940 by decide)⟩, hI.2⟩
