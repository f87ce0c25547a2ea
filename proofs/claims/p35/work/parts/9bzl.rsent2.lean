/-! SENTENCES: the reference's ones, and the whole -/
section RS2
variable (l : Launch) {tn mo : Int} {a : Int → Int} {res : Nat → Int} {G : Nat → Nat → Int}
set_option maxRecDepth 100000 in
set_option maxHeartbeats 4000000 in
theorem mm_xReadSaidS (d D m : Nat) (hD : 6 ≤ D) (hz : rz res) (hB : ∀ (c : Int) (F : Nat → Int) (A : Nat → Nat → Int), 8 - F 45 + 1 ≤ m → mm_S F A → rmw tn mo a res c F A → mm_hG G A → kk_Ctr l (d + D) en_t_X11_readBracket [(4, 0)] (mm_w F A) (mm_xQS 1 tn mo a res (fun r => ∃ r0, sE tn mo a res G 0 (F 45) c (F 44) r0 ∧ r = sn_br (tk_ob tn mo a res) (tk_nx tn mo a res) r0) F A)) (hN : ∀ (c : Int) (F : Nat → Int) (A : Nat → Nat → Int), 8 - F 45 + 1 ≤ m → mm_S F A → rmw tn mo a res c F A → mm_hG G A → kk_Ctr l (d + D) en_t_X11_readNot [(4, 0)] (mm_w F A) (mm_xQS 0 tn mo a res (sE tn mo a res G 4 (F 45) c (F 44)) F A)) (c : Int) (F : Nat → Int) (A : Nat → Nat → Int) (hm : 8 - F 45 ≤ m) (hS : mm_S F A) (hr : rmw tn mo a res c F A) (hG : mm_hG G A) : kk_Ctr l (d + D + 1) en_t_X11_readSaid [(4, 0)] (mm_w F A) (mm_xQS 1 tn mo a res (sE tn mo a res G 4 (F 45) c (F 44)) F A) := by
  obtain ⟨hh, h44, h45, h43, hng, hcn⟩ := id hS
  refine kk_ctr en_hM (List.mem_of_getElem? (i := 290) rfl) rfl (Nat.le_of_ble_eq_true rfl) (fun K hC => ?_)
  have k166 : ∀ (gd : Int) (H : Nat → Int) (h : Nat → Int) (r : sn_R), mm_pw1 F H → mm_ng h → F 44 < H 44 ∧ H 44 ≤ 20 → F 43 ≤ H 43 → sE tn mo a res G 4 (F 45) c (F 44) r → ((∃ s, r = .ok s ∧ gd = 1 ∧ (H 43 - F 43 + 1 ≤ 2 * (H 44 - F 44) ∧ 0 ≤ H 46 ∧ H 46 < H 43) ∧ rmw tn mo a res s.1 H A ∧ H 44 = s.2 ∧ H 10 = F 10) ∨ (∃ e, r = .error e ∧ gd = 0 ∧ H 43 - F 43 ≤ 2 * (H 44 - F 44) ∧ H 10 = e.1 ∧ H 11 = e.2)) → K 166 [(0, (4, 0)), (3, (0, gd))] [] (mm_w H (mm_up A 16 h)) := by
    intro gd H h r hp hg h4 h5 hR hq
    have e45 := hp.2.2
    rcases hq with ⟨s, rfl, rfl, ⟨g1, g2, g3⟩, hr3, e3, e10⟩ | ⟨e, rfl, rfl, g1, g2, g3⟩
    · repeat' first | refine hC.gn [] _ rfl rfl ?_ | refine And.intro ?_ ?_ | exact True.intro | refine hC.iadd [] rfl rfl (by first | omega | (simp only [Int.reduceToNat] at *; omega)) ?_ | refine hC.isub [] rfl rfl (by first | omega | (simp only [Int.reduceToNat] at *; omega)) ?_ | refine hC.imul [] rfl rfl (by first | omega | (simp only [Int.reduceToNat] at *; omega)) ?_ | refine hC.iinc [] rfl rfl rfl rfl (by first | omega | (simp only [Int.reduceToNat] at *; omega)) ?_ | refine hC.go [] _ rfl rfl ?_ | (intro h; first | exact (h rfl).elim | (exfalso; cases h; done) | (dsimp only [kk_cP, kk_cN] at h) | skip)
      all_goals first | omega | exact Or.inl rfl | exact Or.inr rfl | skip
      exact ⟨kk_up H 45 (H 45 - 1), h, .ok s, rfl, ⟨fun k k0 k1 k2 k3 k4 => (kk_up_ne k3).trans (hp.1 k k0 k1 k2 k3 k4), hp.2.1, (show H 45 - 1 = F 45 by omega)⟩, hg, (show F 44 ≤ H 44 ∧ H 44 ≤ 20 by omega), h5, hR, Or.inl ⟨s, rfl, rfl, ⟨h4.1, g1, g2, g3⟩, hr3, e3, e10⟩⟩
    · repeat' first | refine hC.gn [] _ rfl rfl ?_ | refine And.intro ?_ ?_ | exact True.intro | refine hC.iadd [] rfl rfl (by first | omega | (simp only [Int.reduceToNat] at *; omega)) ?_ | refine hC.isub [] rfl rfl (by first | omega | (simp only [Int.reduceToNat] at *; omega)) ?_ | refine hC.imul [] rfl rfl (by first | omega | (simp only [Int.reduceToNat] at *; omega)) ?_ | refine hC.iinc [] rfl rfl rfl rfl (by first | omega | (simp only [Int.reduceToNat] at *; omega)) ?_ | refine hC.go [] _ rfl rfl ?_ | (intro h; first | exact (h rfl).elim | (exfalso; cases h; done) | (dsimp only [kk_cP, kk_cN] at h) | skip)
      all_goals first | omega | exact Or.inl rfl | exact Or.inr rfl | skip
      exact ⟨kk_up H 45 (H 45 - 1), h, .error e, rfl, ⟨fun k k0 k1 k2 k3 k4 => (kk_up_ne k3).trans (hp.1 k k0 k1 k2 k3 k4), hp.2.1, (show H 45 - 1 = F 45 by omega)⟩, hg, (show F 44 ≤ H 44 ∧ H 44 ≤ 20 by omega), h5, hR, Or.inr ⟨e, rfl, rfl, g1, g2, g3⟩⟩
  have k94 : ∀ (o : Int) (w : Int) (G1 : Nat → Int), (mm_pw1 F G1) → (G1 44 = F 44 + 1 ∧ F 44 < 20) → (F 45 < 8) → (G1 43 = F 43) → ((o = 1 ∧ tk_ob tn mo a res c 3 = 40) ∨ (o = 0 ∧ tk_ob tn mo a res c 3 ≠ 40 ∧ 15 ≤ w ∧ w ≤ 23 ∧ tk_ob tn mo a res c 6 = w)) → (rmw tn mo a res (tk_nx tn mo a res c) G1 A) → (G1 10 = F 10) → K 94 [(0, (4, 0)), (1, (0, o)), (2, (0, w))] [] (mm_w G1 A) := by
    intro o w G1 hp g44 g45 g43 hT hr1 h10
    repeat' first | refine hC.gn [166] _ rfl rfl ?_ | refine And.intro ?_ ?_ | exact True.intro | refine hC.iadd [166] rfl rfl (by first | omega | (simp only [Int.reduceToNat] at *; omega)) ?_ | refine hC.isub [166] rfl rfl (by first | omega | (simp only [Int.reduceToNat] at *; omega)) ?_ | refine hC.imul [166] rfl rfl (by first | omega | (simp only [Int.reduceToNat] at *; omega)) ?_ | refine hC.iinc [166] rfl rfl rfl rfl (by first | omega | (simp only [Int.reduceToNat] at *; omega)) ?_ | refine hC.go [166] _ rfl rfl ?_ | (intro h; first | exact (h rfl).elim | (exfalso; cases h; done) | (dsimp only [kk_cP, kk_cN] at h) | skip)
    all_goals have e45 := hp.2.2
    all_goals have hSG : mm_S G1 A := ⟨hp.2.1, by omega, by omega, by omega, hng, hcn⟩
    all_goals have hb : sn_beg (tk_ob tn mo a res) c := by unfold sn_beg; omega
    all_goals have hb2 : ¬ (20 ≤ F 44 ∨ 8 ≤ F 45) := by omega
    all_goals first | omega | skip
    · refine hC.same (mm_xReadCompare l (d + D - 3) G1 A w hr1 hSG (by omega) (by omega)) rfl rfl rfl rfl (by omega) ?_
      rintro rs w' ⟨G2, g2, r, rfl, p2, hg2, q4, hR, ⟨s, rfl, rfl, ⟨q5, q6⟩, hr2, e3, e10⟩ | ⟨e, rfl, rfl, q5, g1, g3⟩⟩
      · have hR' : sE tn mo a res G 4 (F 45) c (F 44) (.ok s) := by rw [hR, g44.1]; exact sn_4c hb hb2 (by omega) (by omega)
        repeat' first | refine hC.gn [166] _ rfl rfl ?_ | refine And.intro ?_ ?_ | exact True.intro | refine hC.iadd [166] rfl rfl (by first | omega | (simp only [Int.reduceToNat] at *; omega)) ?_ | refine hC.isub [166] rfl rfl (by first | omega | (simp only [Int.reduceToNat] at *; omega)) ?_ | refine hC.imul [166] rfl rfl (by first | omega | (simp only [Int.reduceToNat] at *; omega)) ?_ | refine hC.iinc [166] rfl rfl rfl rfl (by first | omega | (simp only [Int.reduceToNat] at *; omega)) ?_ | refine hC.go [166] _ rfl rfl ?_ | (intro h; first | exact (h rfl).elim | (exfalso; cases h; done) | (dsimp only [kk_cP, kk_cN] at h) | skip)
        exact hC.sub [(0, (4, 0)), (3, (0, _))] ⟨rfl, rfl, trivial⟩ (k166 1 G2 g2 _ (hp.tr p2) hg2 (by omega) (by omega) hR' (Or.inl ⟨s, rfl, rfl, ⟨by omega, by omega, by omega⟩, hr2, e3, e10.trans h10⟩))
      · have hR' : sE tn mo a res G 4 (F 45) c (F 44) (.error e) := by rw [hR, g44.1]; exact sn_4c hb hb2 (by omega) (by omega)
        repeat' first | refine hC.gn [166] _ rfl rfl ?_ | refine And.intro ?_ ?_ | exact True.intro | refine hC.iadd [166] rfl rfl (by first | omega | (simp only [Int.reduceToNat] at *; omega)) ?_ | refine hC.isub [166] rfl rfl (by first | omega | (simp only [Int.reduceToNat] at *; omega)) ?_ | refine hC.imul [166] rfl rfl (by first | omega | (simp only [Int.reduceToNat] at *; omega)) ?_ | refine hC.iinc [166] rfl rfl rfl rfl (by first | omega | (simp only [Int.reduceToNat] at *; omega)) ?_ | refine hC.go [166] _ rfl rfl ?_ | (intro h; first | exact (h rfl).elim | (exfalso; cases h; done) | (dsimp only [kk_cP, kk_cN] at h) | skip)
        exact hC.sub [(0, (4, 0)), (3, (0, _))] ⟨rfl, rfl, trivial⟩ (k166 0 G2 g2 _ (hp.tr p2) hg2 (by omega) (by omega) hR' (Or.inr ⟨e, rfl, rfl, by omega, g1, g3⟩))
    · refine hC.same (mm_xReadOf l (d + D - 4) G1 A w hz hG hr1 hSG (by omega) (by omega)) rfl rfl rfl rfl (by omega) ?_
      rintro rs w' ⟨G2, g2, r, rfl, p2, hg2, q4, hR, ⟨s, rfl, rfl, ⟨q5, q6⟩, hr2, e3, e10⟩ | ⟨e, rfl, rfl, q5, g1, g3⟩⟩
      · have hR' : sE tn mo a res G 4 (F 45) c (F 44) (.ok s) := by rw [hR, g44.1]; exact sn_4m hb hb2 (by omega) (by omega) (by omega)
        repeat' first | refine hC.gn [166] _ rfl rfl ?_ | refine And.intro ?_ ?_ | exact True.intro | refine hC.iadd [166] rfl rfl (by first | omega | (simp only [Int.reduceToNat] at *; omega)) ?_ | refine hC.isub [166] rfl rfl (by first | omega | (simp only [Int.reduceToNat] at *; omega)) ?_ | refine hC.imul [166] rfl rfl (by first | omega | (simp only [Int.reduceToNat] at *; omega)) ?_ | refine hC.iinc [166] rfl rfl rfl rfl (by first | omega | (simp only [Int.reduceToNat] at *; omega)) ?_ | refine hC.go [166] _ rfl rfl ?_ | (intro h; first | exact (h rfl).elim | (exfalso; cases h; done) | (dsimp only [kk_cP, kk_cN] at h) | skip)
        exact hC.sub [(0, (4, 0)), (3, (0, _))] ⟨rfl, rfl, trivial⟩ (k166 1 G2 g2 _ (hp.tr p2) hg2 (by omega) (by omega) hR' (Or.inl ⟨s, rfl, rfl, ⟨by omega, by omega, by omega⟩, hr2, e3, e10.trans h10⟩))
      · have hR' : sE tn mo a res G 4 (F 45) c (F 44) (.error e) := by rw [hR, g44.1]; exact sn_4m hb hb2 (by omega) (by omega) (by omega)
        repeat' first | refine hC.gn [166] _ rfl rfl ?_ | refine And.intro ?_ ?_ | exact True.intro | refine hC.iadd [166] rfl rfl (by first | omega | (simp only [Int.reduceToNat] at *; omega)) ?_ | refine hC.isub [166] rfl rfl (by first | omega | (simp only [Int.reduceToNat] at *; omega)) ?_ | refine hC.imul [166] rfl rfl (by first | omega | (simp only [Int.reduceToNat] at *; omega)) ?_ | refine hC.iinc [166] rfl rfl rfl rfl (by first | omega | (simp only [Int.reduceToNat] at *; omega)) ?_ | refine hC.go [166] _ rfl rfl ?_ | (intro h; first | exact (h rfl).elim | (exfalso; cases h; done) | (dsimp only [kk_cP, kk_cN] at h) | skip)
        exact hC.sub [(0, (4, 0)), (3, (0, _))] ⟨rfl, rfl, trivial⟩ (k166 0 G2 g2 _ (hp.tr p2) hg2 (by omega) (by omega) hR' (Or.inr ⟨e, rfl, rfl, by omega, g1, g3⟩))
    · refine hC.same (mm_saysOne l (d + D) G1 A (50 + w) 0 0 0 (by omega) hng (by omega) (by omega) (by omega)) rfl rfl rfl rfl (by omega) ?_
      rintro rs w' ⟨f, y, rfl, rfl, hy, hf⟩
      repeat' first | refine hC.gn [166] _ rfl rfl ?_ | refine And.intro ?_ ?_ | exact True.intro | refine hC.iadd [166] rfl rfl (by first | omega | (simp only [Int.reduceToNat] at *; omega)) ?_ | refine hC.isub [166] rfl rfl (by first | omega | (simp only [Int.reduceToNat] at *; omega)) ?_ | refine hC.imul [166] rfl rfl (by first | omega | (simp only [Int.reduceToNat] at *; omega)) ?_ | refine hC.iinc [166] rfl rfl rfl rfl (by first | omega | (simp only [Int.reduceToNat] at *; omega)) ?_ | refine hC.go [166] _ rfl rfl ?_ | (intro h; first | exact (h rfl).elim | (exfalso; cases h; done) | (dsimp only [kk_cP, kk_cN] at h) | skip)
      exact hC.sub [(0, (4, 0)), (3, (0, _))] ⟨rfl, rfl, trivial⟩ (k166 1 (kk_up (kk_up G1 43 (G1 43 + 1)) 46 y) f (.ok (tk_nx tn mo a res c, F 44 + 1)) (hp.tr ((mm_ps.n hp.2.1 _).tr (mm_ps.t (F := kk_up G1 43 (G1 43 + 1)) hp.2.1 _))) hf (show F 44 < G1 44 ∧ G1 44 ≤ 20 by omega) (show F 43 ≤ G1 43 + 1 by omega) (sn_4p hb hb2 (by omega) (by omega) (by omega)) (Or.inl ⟨_, rfl, rfl, ⟨(show G1 43 + 1 - F 43 + 1 ≤ 2 * (G1 44 - F 44) by omega), (show 0 ≤ y by omega), (show y < G1 43 + 1 by omega)⟩, hr1, g44.1, h10⟩))
    · refine hC.same (hN _ G1 A (by omega) hSG hr1 hG) rfl rfl rfl rfl (Nat.le_refl _) ?_
      rintro rs w' ⟨G2, g2, r, rfl, p2, hg2, q4, q5, hR, ⟨s, rfl, rfl, ⟨q6, q7, q8, q9⟩, hr2, e3, e10⟩ | ⟨e, rfl, rfl, q6, g1, g3⟩⟩
      · rw [e45, g44.1] at hR
        repeat' first | refine hC.gn [166] _ rfl rfl ?_ | refine And.intro ?_ ?_ | exact True.intro | refine hC.iadd [166] rfl rfl (by first | omega | (simp only [Int.reduceToNat] at *; omega)) ?_ | refine hC.isub [166] rfl rfl (by first | omega | (simp only [Int.reduceToNat] at *; omega)) ?_ | refine hC.imul [166] rfl rfl (by first | omega | (simp only [Int.reduceToNat] at *; omega)) ?_ | refine hC.iinc [166] rfl rfl rfl rfl (by first | omega | (simp only [Int.reduceToNat] at *; omega)) ?_ | refine hC.go [166] _ rfl rfl ?_ | (intro h; first | exact (h rfl).elim | (exfalso; cases h; done) | (dsimp only [kk_cP, kk_cN] at h) | skip)
        exact hC.sub [(0, (4, 0)), (3, (0, _))] ⟨rfl, rfl, trivial⟩ (k166 1 G2 g2 _ (hp.tr p2) hg2 (by omega) (by omega) (sn_4n hb hb2 (by omega) (by omega) hR) (Or.inl ⟨s, rfl, rfl, ⟨by omega, by omega, by omega⟩, hr2, e3, e10.trans h10⟩))
      · rw [e45, g44.1] at hR
        repeat' first | refine hC.gn [166] _ rfl rfl ?_ | refine And.intro ?_ ?_ | exact True.intro | refine hC.iadd [166] rfl rfl (by first | omega | (simp only [Int.reduceToNat] at *; omega)) ?_ | refine hC.isub [166] rfl rfl (by first | omega | (simp only [Int.reduceToNat] at *; omega)) ?_ | refine hC.imul [166] rfl rfl (by first | omega | (simp only [Int.reduceToNat] at *; omega)) ?_ | refine hC.iinc [166] rfl rfl rfl rfl (by first | omega | (simp only [Int.reduceToNat] at *; omega)) ?_ | refine hC.go [166] _ rfl rfl ?_ | (intro h; first | exact (h rfl).elim | (exfalso; cases h; done) | (dsimp only [kk_cP, kk_cN] at h) | skip)
        exact hC.sub [(0, (4, 0)), (3, (0, _))] ⟨rfl, rfl, trivial⟩ (k166 0 G2 g2 _ (hp.tr p2) hg2 (by omega) (by omega) (sn_4n hb hb2 (by omega) (by omega) hR) (Or.inr ⟨e, rfl, rfl, by omega, g1, g3⟩))
    · refine hC.same (hB _ G1 A (by omega) hSG hr1 hG) rfl rfl rfl rfl (Nat.le_refl _) ?_
      rintro rs w' ⟨G2, g2, r, rfl, p2, hg2, q4, q5, ⟨r0, hR, hr0⟩, ⟨s, rfl, rfl, ⟨q6, q7, q8, q9⟩, hr2, e3, e10⟩ | ⟨e, rfl, rfl, q6, g1, g3⟩⟩
      · rw [e45, g44.1] at hR
        repeat' first | refine hC.gn [166] _ rfl rfl ?_ | refine And.intro ?_ ?_ | exact True.intro | refine hC.iadd [166] rfl rfl (by first | omega | (simp only [Int.reduceToNat] at *; omega)) ?_ | refine hC.isub [166] rfl rfl (by first | omega | (simp only [Int.reduceToNat] at *; omega)) ?_ | refine hC.imul [166] rfl rfl (by first | omega | (simp only [Int.reduceToNat] at *; omega)) ?_ | refine hC.iinc [166] rfl rfl rfl rfl (by first | omega | (simp only [Int.reduceToNat] at *; omega)) ?_ | refine hC.go [166] _ rfl rfl ?_ | (intro h; first | exact (h rfl).elim | (exfalso; cases h; done) | (dsimp only [kk_cP, kk_cN] at h) | skip)
        exact hC.sub [(0, (4, 0)), (3, (0, _))] ⟨rfl, rfl, trivial⟩ (k166 1 G2 g2 _ (hp.tr p2) hg2 (by omega) (by omega) (by rw [hr0]; exact sn_4br hb hb2 (by omega) hR) (Or.inl ⟨s, rfl, rfl, ⟨by omega, by omega, by omega⟩, hr2, e3, e10.trans h10⟩))
      · rw [e45, g44.1] at hR
        repeat' first | refine hC.gn [166] _ rfl rfl ?_ | refine And.intro ?_ ?_ | exact True.intro | refine hC.iadd [166] rfl rfl (by first | omega | (simp only [Int.reduceToNat] at *; omega)) ?_ | refine hC.isub [166] rfl rfl (by first | omega | (simp only [Int.reduceToNat] at *; omega)) ?_ | refine hC.imul [166] rfl rfl (by first | omega | (simp only [Int.reduceToNat] at *; omega)) ?_ | refine hC.iinc [166] rfl rfl rfl rfl (by first | omega | (simp only [Int.reduceToNat] at *; omega)) ?_ | refine hC.go [166] _ rfl rfl ?_ | (intro h; first | exact (h rfl).elim | (exfalso; cases h; done) | (dsimp only [kk_cP, kk_cN] at h) | skip)
        exact hC.sub [(0, (4, 0)), (3, (0, _))] ⟨rfl, rfl, trivial⟩ (k166 0 G2 g2 _ (hp.tr p2) hg2 (by omega) (by omega) (by rw [hr0]; exact sn_4br hb hb2 (by omega) hR) (Or.inr ⟨e, rfl, rfl, by omega, g1, g3⟩))
  have hT0 : ∀ k : Int, 15 ≤ k → k ≤ 23 → tk_ob tn mo a res c 6 = k → tk_ob tn mo a res c 3 ≠ 0 := fun k k0 k1 q => by
    have := tk_word (tn := tn) (mo := mo) (a := a) (res := res) (c := c) (by omega)
    omega
  have k30 : ∀ (o : Int) (w : Int), ((o = 1 ∧ tk_ob tn mo a res c 3 = 40) ∨ (o = 0 ∧ tk_ob tn mo a res c 3 ≠ 40)) → ((15 ≤ w ∧ w ≤ 23 ∧ tk_ob tn mo a res c 6 = w) ∨ (w = 24 ∧ ¬ (15 ≤ tk_ob tn mo a res c 6 ∧ tk_ob tn mo a res c 6 ≤ 23))) → K 30 [(0, (4, 0)), (1, (0, o)), (2, (0, w))] [] (mm_w F A) := by
    intro o w ho hw
    repeat' first | refine hC.gn [94] _ rfl rfl ?_ | refine And.intro ?_ ?_ | exact True.intro | refine hC.iadd [94] rfl rfl (by first | omega | (simp only [Int.reduceToNat] at *; omega)) ?_ | refine hC.isub [94] rfl rfl (by first | omega | (simp only [Int.reduceToNat] at *; omega)) ?_ | refine hC.imul [94] rfl rfl (by first | omega | (simp only [Int.reduceToNat] at *; omega)) ?_ | refine hC.iinc [94] rfl rfl rfl rfl (by first | omega | (simp only [Int.reduceToNat] at *; omega)) ?_ | refine hC.go [94] _ rfl rfl ?_ | (intro h; first | exact (h rfl).elim | (exfalso; cases h; done) | (dsimp only [kk_cP, kk_cN] at h) | skip)
    all_goals first
      | (refine hC.same (mz_bad1 l (d + D) F A hr) rfl rfl rfl rfl (by omega) ?_
         rintro rs w' ⟨rfl, F1, rfl, hp1, g1, g2⟩
         obtain ⟨p1, b43, b44, b45, b46⟩ := hp1.s
         repeat' first | refine hC.gn [] _ rfl rfl ?_ | refine And.intro ?_ ?_ | exact True.intro | refine hC.iadd [] rfl rfl (by first | omega | (simp only [Int.reduceToNat] at *; omega)) ?_ | refine hC.isub [] rfl rfl (by first | omega | (simp only [Int.reduceToNat] at *; omega)) ?_ | refine hC.imul [] rfl rfl (by first | omega | (simp only [Int.reduceToNat] at *; omega)) ?_ | refine hC.iinc [] rfl rfl rfl rfl (by first | omega | (simp only [Int.reduceToNat] at *; omega)) ?_ | refine hC.go [] _ rfl rfl ?_ | (intro h; first | exact (h rfl).elim | (exfalso; cases h; done) | (dsimp only [kk_cP, kk_cN] at h) | skip)
         all_goals first | exact Or.inl rfl | exact Or.inr rfl | exact ⟨F1, A 16, .error (1, tk_ob tn mo a res c 4), rfl, p1, hng, (show F 44 ≤ F1 44 ∧ F1 44 ≤ 20 by omega), (by omega), sn_41 (by unfold sn_beg; omega), Or.inr ⟨_, rfl, rfl, (show F1 43 - F 43 ≤ 2 * (F1 44 - F 44) by omega), g1, g2⟩⟩)
      | (refine hC.same (mz_bad l (d + D) F A 4 hr (by rcases hw with q | q; exact hT0 w q.1 q.2.1 q.2.2; omega)) rfl rfl rfl rfl (by omega) ?_
         rintro rs w' ⟨rfl, F1, rfl, hp1, g1, g2⟩
         obtain ⟨p1, b43, b44, b45, b46⟩ := hp1.s
         repeat' first | refine hC.gn [] _ rfl rfl ?_ | refine And.intro ?_ ?_ | exact True.intro | refine hC.iadd [] rfl rfl (by first | omega | (simp only [Int.reduceToNat] at *; omega)) ?_ | refine hC.isub [] rfl rfl (by first | omega | (simp only [Int.reduceToNat] at *; omega)) ?_ | refine hC.imul [] rfl rfl (by first | omega | (simp only [Int.reduceToNat] at *; omega)) ?_ | refine hC.iinc [] rfl rfl rfl rfl (by first | omega | (simp only [Int.reduceToNat] at *; omega)) ?_ | refine hC.go [] _ rfl rfl ?_ | (intro h; first | exact (h rfl).elim | (exfalso; cases h; done) | (dsimp only [kk_cP, kk_cN] at h) | skip)
         all_goals first | exact Or.inl rfl | exact Or.inr rfl | exact ⟨F1, A 16, .error (4, tk_ob tn mo a res c 4), rfl, p1, hng, (show F 44 ≤ F1 44 ∧ F1 44 ≤ 20 by omega), (by omega), sn_44 (by unfold sn_beg; omega) (by omega), Or.inr ⟨_, rfl, rfl, (show F1 43 - F 43 ≤ 2 * (F1 44 - F 44) by omega), g1, g2⟩⟩)
      | (refine hC.same (mz_go l (d + D - 1) (kk_up (kk_up F 44 (F 44 + 1)) 45 (F 45 + 1)) A (show rmw tn mo a res c (kk_up (kk_up F 44 (F 44 + 1)) 45 (F 45 + 1)) A from hr)) rfl rfl rfl rfl (by omega) ?_
         rintro rs w' ⟨rfl, G1, rfl, f1, p1, hr1⟩
         have b44 : G1 44 = F 44 + 1 := p1.1 44 (by decide)
         have b45 : G1 45 = F 45 + 1 := p1.1 45 (by decide)
         have b43 : G1 43 = F 43 := p1.1 43 (by decide)
         exact k94 o w G1 ⟨fun k k0 k1 k2 k3 k4 => (p1.1 k k0).trans ((kk_up_ne k3).trans (kk_up_ne k2)), p1.2.1, b45⟩ ⟨b44, by omega⟩ (by omega) b43 (by omega) hr1 f1.f10)
  have k10 : ∀ (n : Nat) (w : Int) (v : Nat) (o : Int), (25 - w).toNat < n → (w = (v : Int)) → (15 ≤ w ∧ w ≤ 24) → ((o = 1 ∧ tk_ob tn mo a res c 3 = 40) ∨ (o = 0 ∧ tk_ob tn mo a res c 3 ≠ 40)) → (∀ j : Int, 15 ≤ j → j < w → tk_ob tn mo a res c 6 ≠ j) → K 10 [(0, (4, 0)), (1, (0, o)), (2, (0, w))] [] (mm_w F A) := by
    intro n
    induction n with
    | zero => intro w v o hz; exact absurd hz (Nat.not_lt_zero _)
    | succ n ih =>
      intro w v o hn hv hw ho hj
      subst hv
      refine hC.go [] _ rfl rfl ?_
      repeat' first | refine hC.gn [10, 30] _ rfl rfl ?_ | refine And.intro ?_ ?_ | exact True.intro | refine hC.iadd [10, 30] rfl rfl (by first | omega | (simp only [Int.reduceToNat] at *; omega)) ?_ | refine hC.isub [10, 30] rfl rfl (by first | omega | (simp only [Int.reduceToNat] at *; omega)) ?_ | refine hC.imul [10, 30] rfl rfl (by first | omega | (simp only [Int.reduceToNat] at *; omega)) ?_ | refine hC.iinc [10, 30] rfl rfl rfl rfl (by first | omega | (simp only [Int.reduceToNat] at *; omega)) ?_ | refine hC.go [10, 30] _ rfl rfl ?_ | (intro h; first | exact (h rfl).elim | (exfalso; cases h; done) | (dsimp only [kk_cP, kk_cN] at h) | skip)
      all_goals first | rfl | omega | skip
      · have h' : 23 < (v : Int) := h
        exact hC.sub [(0, (4, 0)), (1, (0, _)), (2, (0, _))] ⟨rfl, rfl, rfl, trivial⟩ (k30 o (v : Int) ho (Or.inr ⟨by omega, fun q => hj _ q.1 (by omega) rfl⟩))
      · have h' : (v : Int) ≤ 23 := h
        refine hC.same (mz_isWord l (d + D - 2) F A v (by omega) hz hr) rfl rfl rfl rfl (by omega) ?_
        rintro rs w' ⟨rfl, ⟨rfl, t1⟩ | ⟨rfl, t1⟩⟩
        · repeat' first | refine hC.gn [10, 30] _ rfl rfl ?_ | refine And.intro ?_ ?_ | exact True.intro | refine hC.iadd [10, 30] rfl rfl (by first | omega | (simp only [Int.reduceToNat] at *; omega)) ?_ | refine hC.isub [10, 30] rfl rfl (by first | omega | (simp only [Int.reduceToNat] at *; omega)) ?_ | refine hC.imul [10, 30] rfl rfl (by first | omega | (simp only [Int.reduceToNat] at *; omega)) ?_ | refine hC.iinc [10, 30] rfl rfl rfl rfl (by first | omega | (simp only [Int.reduceToNat] at *; omega)) ?_ | refine hC.go [10, 30] _ rfl rfl ?_ | (intro h; first | exact (h rfl).elim | (exfalso; cases h; done) | (dsimp only [kk_cP, kk_cN] at h) | skip)
          exact hC.sub [(0, (4, 0)), (1, (0, _)), (2, (0, _))] ⟨rfl, rfl, rfl, trivial⟩ (k30 o (v : Int) ho (Or.inl ⟨by omega, by omega, t1⟩))
        · repeat' first | refine hC.gn [10, 30] _ rfl rfl ?_ | refine And.intro ?_ ?_ | exact True.intro | refine hC.iadd [10, 30] rfl rfl (by first | omega | (simp only [Int.reduceToNat] at *; omega)) ?_ | refine hC.isub [10, 30] rfl rfl (by first | omega | (simp only [Int.reduceToNat] at *; omega)) ?_ | refine hC.imul [10, 30] rfl rfl (by first | omega | (simp only [Int.reduceToNat] at *; omega)) ?_ | refine hC.iinc [10, 30] rfl rfl rfl rfl (by first | omega | (simp only [Int.reduceToNat] at *; omega)) ?_ | refine hC.go [10, 30] _ rfl rfl ?_ | (intro h; first | exact (h rfl).elim | (exfalso; cases h; done) | (dsimp only [kk_cP, kk_cN] at h) | skip)
          refine hC.sub [(0, (4, 0)), (1, (0, _)), (2, (0, _))] ⟨rfl, rfl, rfl, trivial⟩ (ih ((v : Int) + 1) (v + 1) o (by omega) (by omega) (by omega) ho (fun j j0 j1 => ?_))
          by_cases e : j = (v : Int)
          · rw [e]; exact t1
          · exact hj j j0 (by omega)
  repeat' first | refine hC.gn [] _ rfl rfl ?_ | refine And.intro ?_ ?_ | exact True.intro | refine hC.iadd [] rfl rfl (by first | omega | (simp only [Int.reduceToNat] at *; omega)) ?_ | refine hC.isub [] rfl rfl (by first | omega | (simp only [Int.reduceToNat] at *; omega)) ?_ | refine hC.imul [] rfl rfl (by first | omega | (simp only [Int.reduceToNat] at *; omega)) ?_ | refine hC.iinc [] rfl rfl rfl rfl (by first | omega | (simp only [Int.reduceToNat] at *; omega)) ?_ | refine hC.go [] _ rfl rfl ?_ | (intro h; first | exact (h rfl).elim | (exfalso; cases h; done) | (dsimp only [kk_cP, kk_cN] at h) | skip)
  refine hC.same (mz_isSign l (d + D) F A 40 (by decide) hr) rfl rfl rfl rfl (by omega) ?_
  rintro rs w' ⟨rfl, ⟨rfl, t1⟩ | ⟨rfl, t1⟩⟩
  · repeat' first | refine hC.gn [10] _ rfl rfl ?_ | refine And.intro ?_ ?_ | exact True.intro | refine hC.iadd [10] rfl rfl (by first | omega | (simp only [Int.reduceToNat] at *; omega)) ?_ | refine hC.isub [10] rfl rfl (by first | omega | (simp only [Int.reduceToNat] at *; omega)) ?_ | refine hC.imul [10] rfl rfl (by first | omega | (simp only [Int.reduceToNat] at *; omega)) ?_ | refine hC.iinc [10] rfl rfl rfl rfl (by first | omega | (simp only [Int.reduceToNat] at *; omega)) ?_ | refine hC.go [10] _ rfl rfl ?_ | (intro h; first | exact (h rfl).elim | (exfalso; cases h; done) | (dsimp only [kk_cP, kk_cN] at h) | skip)
    exact hC.sub [(0, (4, 0)), (1, (0, _)), (2, (0, _))] ⟨rfl, rfl, rfl, trivial⟩ (k10 _ 15 15 _ (Nat.lt_succ_self _) rfl (by omega) (Or.inl ⟨rfl, t1⟩) (fun j j0 j1 => by omega))
  · repeat' first | refine hC.gn [10] _ rfl rfl ?_ | refine And.intro ?_ ?_ | exact True.intro | refine hC.iadd [10] rfl rfl (by first | omega | (simp only [Int.reduceToNat] at *; omega)) ?_ | refine hC.isub [10] rfl rfl (by first | omega | (simp only [Int.reduceToNat] at *; omega)) ?_ | refine hC.imul [10] rfl rfl (by first | omega | (simp only [Int.reduceToNat] at *; omega)) ?_ | refine hC.iinc [10] rfl rfl rfl rfl (by first | omega | (simp only [Int.reduceToNat] at *; omega)) ?_ | refine hC.go [10] _ rfl rfl ?_ | (intro h; first | exact (h rfl).elim | (exfalso; cases h; done) | (dsimp only [kk_cP, kk_cN] at h) | skip)
    exact hC.sub [(0, (4, 0)), (1, (0, _)), (2, (0, _))] ⟨rfl, rfl, rfl, trivial⟩ (k10 _ 15 15 _ (Nat.lt_succ_self _) rfl (by omega) (Or.inr ⟨rfl, t1⟩) (fun j j0 j1 => by omega))
set_option maxRecDepth 100000 in
set_option maxHeartbeats 4000000 in
theorem mm_xReadSaid (hz : rz res) : ∀ (m d : Nat) (c : Int) (F : Nat → Int) (A : Nat → Nat → Int), 8 - F 45 ≤ m → mm_S F A → rmw tn mo a res c F A → mm_hG G A → kk_Ctr l (d + (4 * m + 7)) en_t_X11_readSaid [(4, 0)] (mm_w F A) (mm_xQS 1 tn mo a res (sE tn mo a res G 4 (F 45) c (F 44)) F A) := by
  intro m
  induction m with
  | zero =>
    intro d c F A hm hS hr hG
    exact mm_xReadSaidS l d 6 0 (by decide) hz (fun c G B h hT => absurd hT.2.2.1.2 (by omega)) (fun c G B h hT => absurd hT.2.2.1.2 (by omega)) c F A hm hS hr hG
  | succ m ih =>
    intro d c F A hm hS hr hG
    have hA := mm_xReadAnd l d (4 * m + 7) m (by omega) hz (fun c F A h hT hr hG => ih d c F A h hT hr hG)
    have hR := mm_xReadOr l d (4 * m + 7 + 1) m (by omega) hz hA
    have hK := mm_xReadBracket l d (4 * m + 7 + 1 + 1) m (by omega) hR
    have hN := mm_xReadNot l (d + 2) (4 * m + 7) m (fun c F A h hT hr hG => ih (d + 2) c F A h hT hr hG)
    have e1 : d + 2 + (4 * m + 7) + 1 = d + (4 * m + 7 + 1 + 1 + 1) := by omega
    rw [e1] at hN
    have hq := mm_xReadSaidS l d (4 * m + 7 + 1 + 1 + 1) (m + 1) (by omega) hz (fun c G B h hT hr hG => hK c G B (by omega) hT hr hG) (fun c G B h hT hr hG => hN c G B (by omega) hT hr hG) c F A (by omega) hS hr hG
    have e2 : d + (4 * m + 7 + 1 + 1 + 1) + 1 = d + (4 * (m + 1) + 7) := by omega
    rw [e2] at hq
    exact hq
/-- what a sentence answers, and its fault -/
def sn_ans (T : Int → Nat → Int) (r : sn_R) (x f : Int) : Prop := (∃ k, sn_top T r = .ok k ∧ x = k ∧ f = 0) ∨ (∃ e, sn_top T r = .error e ∧ x = kk_i2 1 (-1) e.2 ∧ f = e.1)
theorem sn_ans.det {T : Int → Nat → Int} {r : sn_R} {x f x' f' : Int} (h : sn_ans T r x f) (h' : sn_ans T r x' f') : x = x' ∧ f = f' := by
  rcases h with ⟨k, e, q1, q2⟩ | ⟨k, e, q1, q2⟩ <;> rcases h' with ⟨k', e', q1', q2'⟩ | ⟨k', e', q1', q2'⟩
  · rw [e] at e'; cases e'; exact ⟨q1.trans q1'.symm, q2.trans q2'.symm⟩
  · rw [e] at e'; cases e'
  · rw [e] at e'; cases e'
  · rw [e] at e'; cases e'; exact ⟨q1.trans q1'.symm, q2.trans q2'.symm⟩
set_option maxRecDepth 100000 in
set_option maxHeartbeats 4000000 in
theorem mm_xSentence (d : Nat) {Bm : Nat → Nat → Int} (F : Nat → Int) (A : Nat → Nat → Int) (hI : mm_I Bm F A) (hz : rz res) (ha : (fun i => tt_v 940 (F 2) (A 1) i) = a) (hG : mm_hG G A) : kk_Ctr l (d + 42) en_t_X11_sentence [(4, 0)] (mm_w F A) (fun rs w' => ∃ F' A', w' = mm_w F' A' ∧ mm_I (fu Bm (F' 10)) F' A' ∧ F' 2 = 0 ∧ A' 10 = A 10 ∧ ∃ r x, sE (F 2) 200 a res G 0 0 (tk_sk a 940 0) 0 r ∧ rs = [(0, x)] ∧ sn_ans (tk_ob (F 2) 200 a res) r x (F' 10)) := by
  have hI2 := hI.1
  refine kk_ctr en_hM (List.mem_of_getElem? (i := 201) rfl) rfl (Nat.le_of_ble_eq_true rfl) (fun K hC => ?_)
  have hmI : ∀ (G : Nat → Int) (f : Nat → Int), G 2 = 0 → (∀ k, 13 < k → k ≠ 43 → k ≠ 44 → k ≠ 45 → k ≠ 46 → G k = F k) → mm_ng f → mm_I (fu Bm (G 10)) G (mm_up A 16 f) := fun G f g2 hG hf => by
    refine ⟨by rw [g2]; decide, ?_⟩
    rw [hG 23 (by decide) (by decide) (by decide) (by decide) (by decide), hG 31 (by decide) (by decide) (by decide) (by decide) (by decide), hG 37 (by decide) (by decide) (by decide) (by decide) (by decide), hG 26 (by decide) (by decide) (by decide) (by decide) (by decide), hG 35 (by decide) (by decide) (by decide) (by decide) (by decide)]
    obtain ⟨z1, z2, z3, z4, z5, z6, z7, z8, z9, z10, z11⟩ := hI.2
    exact ⟨z1, z2, z3, z4, z5, z6, z7, z8, z9, hf, z11.fu⟩
  have k79 : ∀ (n : Nat) (i : Int) (G1 : Nat → Int) (f : Nat → Int) (N : Nat → Int) (r : sn_R), (240 - i).toNat < n → (0 ≤ i ∧ i ≤ 240) → (mm_I (fu Bm (G1 10)) G1 (mm_up A 16 f)) → (G1 2 = 0) → (∀ k, k < 150 → N k = A 2 k) → (0 ≤ N 151 ∧ N 151 < 60) → (∀ k : Nat, (k : Int) < i → N (152 + k) = f k) → (sE (F 2) 200 a res G 0 0 (tk_sk a 940 0) 0 r) → (sn_ans (tk_ob (F 2) 200 a res) r (G1 44) (G1 10)) → K 79 [(0, (4, 0)), (1, (0, i))] [] (mm_w G1 (mm_up (mm_up A 16 f) 2 N)) := by
    intro n
    induction n with
    | zero => intro i G1 f N r hz; exact absurd hz (Nat.not_lt_zero _)
    | succ n ih =>
      intro i G1 f N r hn i0 hJ g2 n1 n2 n3 hR hq
      refine hC.go [] _ rfl rfl ?_
      repeat' first | refine hC.gn [79] _ rfl rfl ?_ | refine And.intro ?_ ?_ | exact True.intro | refine hC.iadd [79] rfl rfl (by first | omega | (simp only [Int.reduceToNat] at *; omega)) ?_ | refine hC.isub [79] rfl rfl (by first | omega | (simp only [Int.reduceToNat] at *; omega)) ?_ | refine hC.imul [79] rfl rfl (by first | omega | (simp only [Int.reduceToNat] at *; omega)) ?_ | refine hC.iinc [79] rfl rfl rfl rfl (by first | omega | (simp only [Int.reduceToNat] at *; omega)) ?_ | refine hC.go [79] _ rfl rfl ?_ | (intro h; first | exact (h rfl).elim | (exfalso; cases h; done) | (dsimp only [kk_cP, kk_cN] at h) | skip)
      all_goals first | omega | skip
      · refine ⟨G1, mm_up (mm_up A 16 f) 2 N, rfl, ⟨hJ.1, ?_⟩, g2, rfl, r, _, hR, rfl, hq⟩
        obtain ⟨z1, z2, z3, z4, z5, z6, z7, z8, z9, z10, z11⟩ := hJ.2
        refine ⟨z1, z2, z3, z4, z5, z6, ⟨z7.1.eq (fun k hk => n1 k (by omega)), ?_, n2.1, n2.2, z10.eq (fun k hk => n3 k (by omega))⟩, ?_, z9, z10, ⟨fun k hk => (n1 k (by omega)).trans (z11.1 k hk), z11.2⟩⟩
        · exact mm_sg_vS (N := N) (mm_vS_sg hI.vS rfl (g := fun k => A 2 (67 + k)) (fun _ _ => rfl)) (n1 2 (by decide)) (fun k hk => n1 _ (by omega))
        · intro j hj
          have h9 := z8 j hj
          have e2 : N 2 = A 2 2 := n1 2 (by decide)
          show mm_sg (N 2) _
          rw [e2]
          exact h9
      · refine hC.sub [(0, (4, 0)), (1, (0, _))] ⟨rfl, rfl, trivial⟩ (ih _ G1 f (kk_up N (152 + i).toNat (f i.toNat)) r (by omega) (by omega) hJ g2 (fun k hk => (kk_up_ne (by omega)).trans (n1 k hk)) (by rw [kk_up_ne (by omega)]; exact n2) (fun k hk => ?_) hR hq)
        by_cases hq : (k : Int) = i
        · rw [show 152 + k = (152 + i).toNat by omega, kk_up_eq, show i.toNat = k by omega]
        · rw [kk_up_ne (by omega)]
          exact n3 k (by omega)
  repeat' first | refine hC.gn [] _ rfl rfl ?_ | refine And.intro ?_ ?_ | exact True.intro | refine hC.iadd [] rfl rfl (by first | omega | (simp only [Int.reduceToNat] at *; omega)) ?_ | refine hC.isub [] rfl rfl (by first | omega | (simp only [Int.reduceToNat] at *; omega)) ?_ | refine hC.imul [] rfl rfl (by first | omega | (simp only [Int.reduceToNat] at *; omega)) ?_ | refine hC.iinc [] rfl rfl rfl rfl (by first | omega | (simp only [Int.reduceToNat] at *; omega)) ?_ | refine hC.go [] _ rfl rfl ?_ | (intro h; first | exact (h rfl).elim | (exfalso; cases h; done) | (dsimp only [kk_cP, kk_cN] at h) | skip)
  refine hC.same (mz_begin l _ F A (res := res) 200 hI2.1 hI2.2 ha) rfl rfl rfl rfl (Nat.le_refl _) ?_
  rintro rs w' ⟨rfl, G0, rfl, g2, g0, g10, gg, hr0⟩
  have ho := hr0.ok
  repeat' first | refine hC.gn [] _ rfl rfl ?_ | refine And.intro ?_ ?_ | exact True.intro | refine hC.iadd [] rfl rfl (by first | omega | (simp only [Int.reduceToNat] at *; omega)) ?_ | refine hC.isub [] rfl rfl (by first | omega | (simp only [Int.reduceToNat] at *; omega)) ?_ | refine hC.imul [] rfl rfl (by first | omega | (simp only [Int.reduceToNat] at *; omega)) ?_ | refine hC.iinc [] rfl rfl rfl rfl (by first | omega | (simp only [Int.reduceToNat] at *; omega)) ?_ | refine hC.go [] _ rfl rfl ?_ | (intro h; first | exact (h rfl).elim | (exfalso; cases h; done) | (dsimp only [kk_cP, kk_cN] at h) | skip)
  have hS : mm_S (kk_up (kk_up (kk_up G0 43 0) 44 0) 45 0) A := ⟨ho, (show (0 : Int) ≤ 0 ∧ (0 : Int) ≤ 20 by decide), (show (0 : Int) ≤ 0 ∧ (0 : Int) ≤ 8 by decide), (show (0 : Int) ≤ 0 ∧ (0 : Int) ≤ 2 * 0 by decide), hI.2.2.2.2.2.2.2.2.2.2.1, hI.cn⟩
  have hr1 : rmw (F 2) 200 a res (tk_sk a 940 0) (kk_up (kk_up (kk_up G0 43 0) 44 0) 45 0) A := hr0
  refine hC.same (mm_xReadOr l d (4 * 8 + 7 + 1) 8 (by omega) hz (mm_xReadAnd l d (4 * 8 + 7) 8 (by omega) hz (fun c F A h hT hr hG => mm_xReadSaid l hz 8 d c F A h hT hr hG)) (tk_sk a 940 0) (kk_up (kk_up (kk_up G0 43 0) 44 0) 45 0) A (show (8 : Int) - 0 ≤ 8 by decide) hS hr1 hG) rfl rfl rfl rfl (Nat.le_refl _) ?_
  rintro rs w' ⟨G2, f2, r, rfl, p2, hg2, q4, q5, hR, hq⟩
  have hR : sE (F 2) 200 a res G 0 0 (tk_sk a 940 0) 0 r := hR
  have hfr : ∀ k, 13 < k → k ≠ 43 → k ≠ 44 → k ≠ 45 → k ≠ 46 → G2 k = F k := fun k k0 k1 k2 k3 k4 => (p2.1 k (Or.inr k0) k1 k2 k3 k4).trans ((kk_up_ne k3).trans ((kk_up_ne k2).trans ((kk_up_ne k1).trans (gg k (by omega)))))
  have h20 : G2 2 = 0 := (p2.1 2 (by decide) (by decide) (by decide) (by decide) (by decide)).trans g2
  have hJ := hmI G2 f2 h20 hfr hg2
  rcases hq with ⟨s, rfl, rfl, ⟨q6, q7, q8, q9⟩, hr2, e3, e10⟩ | ⟨e, rfl, rfl, q6, g1, g3⟩
  · have q7 : G2 43 - 0 + 1 ≤ 2 * (G2 44 - 0) := q7
    have q4 : (0 : Int) ≤ G2 44 ∧ G2 44 ≤ 20 := q4
    have e10 : G2 10 = 0 := e10.trans g10
    have hr2' : rmw (F 2) 200 a res s.1 G2 (mm_up A 16 f2) := hr2
    have hk1 := hr2.tok.k1
    repeat' first | refine hC.gn [79] _ rfl rfl ?_ | refine And.intro ?_ ?_ | exact True.intro | refine hC.iadd [79] rfl rfl (by first | omega | (simp only [Int.reduceToNat] at *; omega)) ?_ | refine hC.isub [79] rfl rfl (by first | omega | (simp only [Int.reduceToNat] at *; omega)) ?_ | refine hC.imul [79] rfl rfl (by first | omega | (simp only [Int.reduceToNat] at *; omega)) ?_ | refine hC.iinc [79] rfl rfl rfl rfl (by first | omega | (simp only [Int.reduceToNat] at *; omega)) ?_ | refine hC.go [79] _ rfl rfl ?_ | (intro h; first | exact (h rfl).elim | (exfalso; cases h; done) | (dsimp only [kk_cP, kk_cN] at h) | skip)
    all_goals first | omega | skip
    · have h7 : G2 7 = 0 := h
      exact hC.sub [(0, (4, 0)), (1, (0, _))] ⟨rfl, rfl, trivial⟩ (k79 _ _ G2 f2 (kk_up (kk_up (A 2) 150 1) 151 (G2 46)) (.ok s) (Nat.lt_succ_self _) (by omega) hJ h20 (fun k hk => (kk_up_ne (by omega)).trans (kk_up_ne (by omega))) (show 0 ≤ G2 46 ∧ G2 46 < 60 by omega) (fun k hk => absurd hk (by omega)) hR (Or.inl ⟨s.2, (if_pos (hk1.mp h7)), e3, e10⟩))
    · have h7 : G2 7 ≠ 0 := h
      refine hC.same (mz_bad1 l _ G2 (mm_up A 16 f2) hr2') rfl rfl rfl rfl (Nat.le_refl _) ?_
      rintro rs w' ⟨rfl, F3, rfl, hp3, g1, g3⟩
      have g3 : F3 11 = tk_ob (F 2) 200 a res s.1 4 := g3
      have hJ3 : mm_I (fu Bm (F3 10)) F3 (mm_up A 16 f2) := hmI F3 f2 ((hp3.1 2 (by decide)).trans h20) (fun k k0 k1 k2 k3 k4 => (hp3.1 k (Or.inr k0)).trans (hfr k k0 k1 k2 k3 k4)) hg2
      repeat' first | refine hC.gn [] _ rfl rfl ?_ | refine And.intro ?_ ?_ | exact True.intro | refine hC.iadd [] rfl rfl (by first | omega | (simp only [Int.reduceToNat] at *; omega)) ?_ | refine hC.isub [] rfl rfl (by first | omega | (simp only [Int.reduceToNat] at *; omega)) ?_ | refine hC.imul [] rfl rfl (by first | omega | (simp only [Int.reduceToNat] at *; omega)) ?_ | refine hC.iinc [] rfl rfl rfl rfl (by first | omega | (simp only [Int.reduceToNat] at *; omega)) ?_ | refine hC.go [] _ rfl rfl ?_ | (intro h; first | exact (h rfl).elim | (exfalso; cases h; done) | (dsimp only [kk_cP, kk_cN] at h) | skip)
      exact ⟨F3, mm_up A 16 f2, rfl, hJ3, (hp3.1 2 (by decide)).trans h20, rfl, .ok s, _, hR, rfl, Or.inr ⟨(1, tk_ob (F 2) 200 a res s.1 4), (if_neg (fun q => h7 (hk1.mpr q))), (by rw [g3]), g1⟩⟩
  · repeat' first | refine hC.gn [] _ rfl rfl ?_ | refine And.intro ?_ ?_ | exact True.intro | refine hC.iadd [] rfl rfl (by first | omega | (simp only [Int.reduceToNat] at *; omega)) ?_ | refine hC.isub [] rfl rfl (by first | omega | (simp only [Int.reduceToNat] at *; omega)) ?_ | refine hC.imul [] rfl rfl (by first | omega | (simp only [Int.reduceToNat] at *; omega)) ?_ | refine hC.iinc [] rfl rfl rfl rfl (by first | omega | (simp only [Int.reduceToNat] at *; omega)) ?_ | refine hC.go [] _ rfl rfl ?_ | (intro h; first | exact (h rfl).elim | (exfalso; cases h; done) | (dsimp only [kk_cP, kk_cN] at h) | skip)
    exact ⟨G2, mm_up A 16 f2, rfl, hJ, h20, rfl, .error e, _, hR, rfl, Or.inr ⟨e, rfl, (by rw [g3]), g1⟩⟩
end RS2
