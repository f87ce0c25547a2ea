/-! THE REFERENCE, 26: ones of a sentence -/
variable {Bm : Nat → Nat → Int}
set_option maxRecDepth 100000 in
set_option maxHeartbeats 4000000 in
theorem mm_readBracket (l : Launch) (d d0 : Nat) (m : Nat) (hd : 3 ≤ d0) (hO : ∀ (F : Nat → Int) (A : Nat → Nat → Int), 8 - F 45 ≤ m → mm_S F A → kk_Ctr l (d + d0) en_t_X11_readOr [(4, 0)] (mm_w F A) (mm_QS 1 F A)) (F : Nat → Int) (A : Nat → Nat → Int) (hm : 8 - F 45 ≤ m) (hS : mm_S F A) : kk_Ctr l (d + d0 + 1) en_t_X11_readBracket [(4, 0)] (mm_w F A) (mm_QS 1 F A) := by
  refine kk_ctr en_hM (List.mem_of_getElem? (i := 291) rfl) rfl (Nat.le_of_ble_eq_true rfl) (fun K hC => ?_)
  repeat' first | refine hC.gn [] _ rfl rfl ?_ | refine And.intro ?_ ?_ | exact True.intro | refine hC.iadd [] rfl rfl (by first | omega | (simp only [Int.reduceToNat] at *; omega)) ?_ | refine hC.isub [] rfl rfl (by first | omega | (simp only [Int.reduceToNat] at *; omega)) ?_ | refine hC.imul [] rfl rfl (by first | omega | (simp only [Int.reduceToNat] at *; omega)) ?_ | refine hC.iinc [] rfl rfl rfl rfl (by first | omega | (simp only [Int.reduceToNat] at *; omega)) ?_ | refine hC.go [] _ rfl rfl ?_ | (intro h; first | exact (h rfl).elim | (exfalso; cases h; done) | (dsimp only [kk_cP, kk_cN] at h) | skip)
  refine hC.same (hO F A hm hS) rfl rfl rfl rfl (Nat.le_refl _) ?_
  rintro rs w' ⟨G2, g2, rfl, p2, hg2, q4, q5, ⟨rfl, q6, q7, q8, q9⟩ | ⟨rfl, q6⟩⟩
  · repeat' first | refine hC.gn [] _ rfl rfl ?_ | refine And.intro ?_ ?_ | exact True.intro | refine hC.iadd [] rfl rfl (by first | omega | (simp only [Int.reduceToNat] at *; omega)) ?_ | refine hC.isub [] rfl rfl (by first | omega | (simp only [Int.reduceToNat] at *; omega)) ?_ | refine hC.imul [] rfl rfl (by first | omega | (simp only [Int.reduceToNat] at *; omega)) ?_ | refine hC.iinc [] rfl rfl rfl rfl (by first | omega | (simp only [Int.reduceToNat] at *; omega)) ?_ | refine hC.go [] _ rfl rfl ?_ | (intro h; first | exact (h rfl).elim | (exfalso; cases h; done) | (dsimp only [kk_cP, kk_cN] at h) | skip)
    refine hC.same (mm_isSign l (d + d0) G2 (mm_up A 16 g2) 41) rfl rfl rfl rfl (by omega) ?_
    rintro rs w' ⟨rfl, ⟨rfl, s1, s2⟩ | rfl⟩
    · repeat' first | refine hC.gn [] _ rfl rfl ?_ | refine And.intro ?_ ?_ | exact True.intro | refine hC.iadd [] rfl rfl (by first | omega | (simp only [Int.reduceToNat] at *; omega)) ?_ | refine hC.isub [] rfl rfl (by first | omega | (simp only [Int.reduceToNat] at *; omega)) ?_ | refine hC.imul [] rfl rfl (by first | omega | (simp only [Int.reduceToNat] at *; omega)) ?_ | refine hC.iinc [] rfl rfl rfl rfl (by first | omega | (simp only [Int.reduceToNat] at *; omega)) ?_ | refine hC.go [] _ rfl rfl ?_ | (intro h; first | exact (h rfl).elim | (exfalso; cases h; done) | (dsimp only [kk_cP, kk_cN] at h) | skip)
      refine hC.same (mm_go l (d + d0 - 1) G2 (mm_up A 16 g2) p2.2.1.1 p2.2.1.2.1 p2.2.1.2.2.1) rfl rfl rfl rfl (by omega) ?_
      rintro rs w' ⟨rfl, G1, rfl, hrd1⟩
      obtain ⟨p1, b43, b44, b45, b46⟩ := (hrd1.p p2.2.1).1.s
      repeat' first | refine hC.gn [] _ rfl rfl ?_ | refine And.intro ?_ ?_ | exact True.intro | refine hC.iadd [] rfl rfl (by first | omega | (simp only [Int.reduceToNat] at *; omega)) ?_ | refine hC.isub [] rfl rfl (by first | omega | (simp only [Int.reduceToNat] at *; omega)) ?_ | refine hC.imul [] rfl rfl (by first | omega | (simp only [Int.reduceToNat] at *; omega)) ?_ | refine hC.iinc [] rfl rfl rfl rfl (by first | omega | (simp only [Int.reduceToNat] at *; omega)) ?_ | refine hC.go [] _ rfl rfl ?_ | (intro h; first | exact (h rfl).elim | (exfalso; cases h; done) | (dsimp only [kk_cP, kk_cN] at h) | skip)
      all_goals first | exact Or.inl rfl | exact Or.inr rfl | exact ⟨G1, g2, rfl, p2.tr p1, hg2, by omega, by omega, Or.inl ⟨rfl, by omega, by omega, by omega, by omega⟩⟩
    · repeat' first | refine hC.gn [] _ rfl rfl ?_ | refine And.intro ?_ ?_ | exact True.intro | refine hC.iadd [] rfl rfl (by first | omega | (simp only [Int.reduceToNat] at *; omega)) ?_ | refine hC.isub [] rfl rfl (by first | omega | (simp only [Int.reduceToNat] at *; omega)) ?_ | refine hC.imul [] rfl rfl (by first | omega | (simp only [Int.reduceToNat] at *; omega)) ?_ | refine hC.iinc [] rfl rfl rfl rfl (by first | omega | (simp only [Int.reduceToNat] at *; omega)) ?_ | refine hC.go [] _ rfl rfl ?_ | (intro h; first | exact (h rfl).elim | (exfalso; cases h; done) | (dsimp only [kk_cP, kk_cN] at h) | skip)
      refine hC.same (mm_bad l (d + d0) G2 (mm_up A 16 g2) 1) rfl rfl rfl rfl (by omega) ?_
      rintro rs w' ⟨rfl, xb, rfl⟩
      obtain ⟨p1, b43, b44, b45, b46⟩ := (mm_bad_p p2.2.1 xb (G2 6)).s
      repeat' first | refine hC.gn [] _ rfl rfl ?_ | refine And.intro ?_ ?_ | exact True.intro | refine hC.iadd [] rfl rfl (by first | omega | (simp only [Int.reduceToNat] at *; omega)) ?_ | refine hC.isub [] rfl rfl (by first | omega | (simp only [Int.reduceToNat] at *; omega)) ?_ | refine hC.imul [] rfl rfl (by first | omega | (simp only [Int.reduceToNat] at *; omega)) ?_ | refine hC.iinc [] rfl rfl rfl rfl (by first | omega | (simp only [Int.reduceToNat] at *; omega)) ?_ | refine hC.go [] _ rfl rfl ?_ | (intro h; first | exact (h rfl).elim | (exfalso; cases h; done) | (dsimp only [kk_cP, kk_cN] at h) | skip)
      all_goals first | exact Or.inl rfl | exact Or.inr rfl | exact ⟨_, g2, rfl, p2.tr p1, hg2, q4, q5, Or.inr ⟨rfl, (show G2 43 - F 43 ≤ 2 * (G2 44 - F 44) by omega)⟩⟩
  · repeat' first | refine hC.gn [] _ rfl rfl ?_ | refine And.intro ?_ ?_ | exact True.intro | refine hC.iadd [] rfl rfl (by first | omega | (simp only [Int.reduceToNat] at *; omega)) ?_ | refine hC.isub [] rfl rfl (by first | omega | (simp only [Int.reduceToNat] at *; omega)) ?_ | refine hC.imul [] rfl rfl (by first | omega | (simp only [Int.reduceToNat] at *; omega)) ?_ | refine hC.iinc [] rfl rfl rfl rfl (by first | omega | (simp only [Int.reduceToNat] at *; omega)) ?_ | refine hC.go [] _ rfl rfl ?_ | (intro h; first | exact (h rfl).elim | (exfalso; cases h; done) | (dsimp only [kk_cP, kk_cN] at h) | skip)
    all_goals first | exact Or.inl rfl | exact Or.inr rfl | exact ⟨G2, g2, rfl, p2, hg2, q4, q5, Or.inr ⟨rfl, q6⟩⟩
set_option maxRecDepth 100000 in
set_option maxHeartbeats 4000000 in
theorem mm_readNot (l : Launch) (d d0 : Nat) (m : Nat) (hO : ∀ (F : Nat → Int) (A : Nat → Nat → Int), 8 - F 45 ≤ m → mm_S F A → kk_Ctr l (d + d0) en_t_X11_readSaid [(4, 0)] (mm_w F A) (mm_QS 1 F A)) (F : Nat → Int) (A : Nat → Nat → Int) (hm : 8 - F 45 ≤ m) (hS : mm_S F A) : kk_Ctr l (d + d0 + 1) en_t_X11_readNot [(4, 0)] (mm_w F A) (mm_QS 0 F A) := by
  refine kk_ctr en_hM (List.mem_of_getElem? (i := 292) rfl) rfl (Nat.le_of_ble_eq_true rfl) (fun K hC => ?_)
  repeat' first | refine hC.gn [] _ rfl rfl ?_ | refine And.intro ?_ ?_ | exact True.intro | refine hC.iadd [] rfl rfl (by first | omega | (simp only [Int.reduceToNat] at *; omega)) ?_ | refine hC.isub [] rfl rfl (by first | omega | (simp only [Int.reduceToNat] at *; omega)) ?_ | refine hC.imul [] rfl rfl (by first | omega | (simp only [Int.reduceToNat] at *; omega)) ?_ | refine hC.iinc [] rfl rfl rfl rfl (by first | omega | (simp only [Int.reduceToNat] at *; omega)) ?_ | refine hC.go [] _ rfl rfl ?_ | (intro h; first | exact (h rfl).elim | (exfalso; cases h; done) | (dsimp only [kk_cP, kk_cN] at h) | skip)
  refine hC.same (hO F A hm hS) rfl rfl rfl rfl (Nat.le_refl _) ?_
  rintro rs w' ⟨G2, g2, rfl, p2, hg2, q4, q5, ⟨rfl, q6, q7, q8, q9⟩ | ⟨rfl, q6⟩⟩
  · have h60 : G2 43 < 60 := by have := hS.2.2.2.1; omega
    have h0 := hS.2.2.2.1
    repeat' first | refine hC.gn [] _ rfl rfl ?_ | refine And.intro ?_ ?_ | exact True.intro | refine hC.iadd [] rfl rfl (by first | omega | (simp only [Int.reduceToNat] at *; omega)) ?_ | refine hC.isub [] rfl rfl (by first | omega | (simp only [Int.reduceToNat] at *; omega)) ?_ | refine hC.imul [] rfl rfl (by first | omega | (simp only [Int.reduceToNat] at *; omega)) ?_ | refine hC.iinc [] rfl rfl rfl rfl (by first | omega | (simp only [Int.reduceToNat] at *; omega)) ?_ | refine hC.go [] _ rfl rfl ?_ | (intro h; first | exact (h rfl).elim | (exfalso; cases h; done) | (dsimp only [kk_cP, kk_cN] at h) | skip)
    refine hC.same (mm_saysOne l (d + d0) G2 (mm_up A 16 g2) 1 (G2 46) 0 0 (by omega) hg2 (by omega) (by omega) (by omega)) rfl rfl rfl rfl (by omega) ?_
    rintro rs w' ⟨f, y, rfl, rfl, hy, hf⟩
    repeat' first | refine hC.gn [] _ rfl rfl ?_ | refine And.intro ?_ ?_ | exact True.intro | refine hC.iadd [] rfl rfl (by first | omega | (simp only [Int.reduceToNat] at *; omega)) ?_ | refine hC.isub [] rfl rfl (by first | omega | (simp only [Int.reduceToNat] at *; omega)) ?_ | refine hC.imul [] rfl rfl (by first | omega | (simp only [Int.reduceToNat] at *; omega)) ?_ | refine hC.iinc [] rfl rfl rfl rfl (by first | omega | (simp only [Int.reduceToNat] at *; omega)) ?_ | refine hC.go [] _ rfl rfl ?_ | (intro h; first | exact (h rfl).elim | (exfalso; cases h; done) | (dsimp only [kk_cP, kk_cN] at h) | skip)
    all_goals first | exact Or.inl rfl | exact Or.inr rfl | skip
    exact ⟨kk_up (kk_up G2 43 (G2 43 + 1)) 46 y, f, rfl, p2.tr ((mm_ps.n p2.2.1 _).tr (mm_ps.t (F := kk_up G2 43 (G2 43 + 1)) p2.2.1 _)), hf, q4, (show F 43 ≤ G2 43 + 1 by omega), Or.inl ⟨rfl, q6, (show G2 43 + 1 - F 43 + 0 ≤ 2 * (G2 44 - F 44) by omega), (show 0 ≤ y by omega), (show y < G2 43 + 1 by omega)⟩⟩
  · repeat' first | refine hC.gn [] _ rfl rfl ?_ | refine And.intro ?_ ?_ | exact True.intro | refine hC.iadd [] rfl rfl (by first | omega | (simp only [Int.reduceToNat] at *; omega)) ?_ | refine hC.isub [] rfl rfl (by first | omega | (simp only [Int.reduceToNat] at *; omega)) ?_ | refine hC.imul [] rfl rfl (by first | omega | (simp only [Int.reduceToNat] at *; omega)) ?_ | refine hC.iinc [] rfl rfl rfl rfl (by first | omega | (simp only [Int.reduceToNat] at *; omega)) ?_ | refine hC.go [] _ rfl rfl ?_ | (intro h; first | exact (h rfl).elim | (exfalso; cases h; done) | (dsimp only [kk_cP, kk_cN] at h) | skip)
    all_goals first | exact Or.inl rfl | exact Or.inr rfl | exact ⟨G2, g2, rfl, p2, hg2, q4, q5, Or.inr ⟨rfl, q6⟩⟩
/-- what a one may have changed before it is left again -/
def mm_pw1 (F F' : Nat → Int) : Prop := (∀ k, (k < 5 ∨ 13 < k) → k ≠ 43 → k ≠ 44 → k ≠ 45 → k ≠ 46 → F' k = F k) ∧ mm_ok F' ∧ F' 45 = F 45 + 1
set_option maxRecDepth 100000 in
set_option maxHeartbeats 4000000 in
theorem mm_pw1.tr {F F' F'' : Nat → Int} (h : mm_pw1 F F') (h' : mm_ps F' F'') : mm_pw1 F F'' := ⟨fun k h0 h1 h2 h3 h4 => (h'.1 k h0 h1 h2 h3 h4).trans (h.1 k h0 h1 h2 h3 h4), h'.2.1, h'.2.2.trans h.2.2⟩
set_option maxRecDepth 100000 in
set_option maxHeartbeats 4000000 in
theorem mm_readSaidS (l : Launch) (d D m : Nat) (hD : 6 ≤ D) (hB : ∀ (F : Nat → Int) (A : Nat → Nat → Int), 8 - F 45 + 1 ≤ m → mm_S F A → kk_Ctr l (d + D) en_t_X11_readBracket [(4, 0)] (mm_w F A) (mm_QS 1 F A)) (hN : ∀ (F : Nat → Int) (A : Nat → Nat → Int), 8 - F 45 + 1 ≤ m → mm_S F A → kk_Ctr l (d + D) en_t_X11_readNot [(4, 0)] (mm_w F A) (mm_QS 0 F A)) (F : Nat → Int) (A : Nat → Nat → Int) (hm : 8 - F 45 ≤ m) (hS : mm_S F A) : kk_Ctr l (d + D + 1) en_t_X11_readSaid [(4, 0)] (mm_w F A) (mm_QS 1 F A) := by
  obtain ⟨hh, h44, h45, h43, hng, hcn⟩ := id hS
  refine kk_ctr en_hM (List.mem_of_getElem? (i := 290) rfl) rfl (Nat.le_of_ble_eq_true rfl) (fun K hC => ?_)
  have k166 : ∀ (gd : Int) (H : Nat → Int) (h : Nat → Int), mm_pw1 F H → mm_ng h → F 44 < H 44 ∧ H 44 ≤ 20 → F 43 ≤ H 43 → (gd = 1 ∧ H 43 - F 43 + 1 ≤ 2 * (H 44 - F 44) ∧ 0 ≤ H 46 ∧ H 46 < H 43) ∨ (gd = 0 ∧ H 43 - F 43 ≤ 2 * (H 44 - F 44)) → K 166 [(0, (4, 0)), (3, (0, gd))] [] (mm_w H (mm_up A 16 h)) := by
    intro gd H h hp hg h4 h5 hq
    have e45 := hp.2.2
    repeat' first | refine hC.gn [] _ rfl rfl ?_ | refine And.intro ?_ ?_ | exact True.intro | refine hC.iadd [] rfl rfl (by first | omega | (simp only [Int.reduceToNat] at *; omega)) ?_ | refine hC.isub [] rfl rfl (by first | omega | (simp only [Int.reduceToNat] at *; omega)) ?_ | refine hC.imul [] rfl rfl (by first | omega | (simp only [Int.reduceToNat] at *; omega)) ?_ | refine hC.iinc [] rfl rfl rfl rfl (by first | omega | (simp only [Int.reduceToNat] at *; omega)) ?_ | refine hC.go [] _ rfl rfl ?_ | (intro h; first | exact (h rfl).elim | (exfalso; cases h; done) | (dsimp only [kk_cP, kk_cN] at h) | skip)
    all_goals first | omega | skip
    refine ⟨kk_up H 45 (H 45 - 1), h, rfl, ⟨fun k k0 k1 k2 k3 k4 => (kk_up_ne k3).trans (hp.1 k k0 k1 k2 k3 k4), hp.2.1, (show H 45 - 1 = F 45 by omega)⟩, hg, (show F 44 ≤ H 44 ∧ H 44 ≤ 20 by omega), h5, ?_⟩
    rcases hq with ⟨rfl, g1, g2, g3⟩ | ⟨rfl, g1⟩
    · exact Or.inl ⟨rfl, h4.1, g1, g2, g3⟩
    · exact Or.inr ⟨rfl, g1⟩
  have k94 : ∀ (o : Int) (w : Int) (G : Nat → Int), (mm_pw1 F G) → (G 44 = F 44 + 1 ∧ F 44 < 20) → (F 45 < 8) → (G 43 = F 43) → (15 ≤ w ∧ w ≤ 24 ∧ (o = 0 → w ≤ 23)) → K 94 [(0, (4, 0)), (1, (0, o)), (2, (0, w))] [] (mm_w G A) := by
    intro o w G hp g44 g45 g43 hw
    repeat' first | refine hC.gn [166] _ rfl rfl ?_ | refine And.intro ?_ ?_ | exact True.intro | refine hC.iadd [166] rfl rfl (by first | omega | (simp only [Int.reduceToNat] at *; omega)) ?_ | refine hC.isub [166] rfl rfl (by first | omega | (simp only [Int.reduceToNat] at *; omega)) ?_ | refine hC.imul [166] rfl rfl (by first | omega | (simp only [Int.reduceToNat] at *; omega)) ?_ | refine hC.iinc [166] rfl rfl rfl rfl (by first | omega | (simp only [Int.reduceToNat] at *; omega)) ?_ | refine hC.go [166] _ rfl rfl ?_ | (intro h; first | exact (h rfl).elim | (exfalso; cases h; done) | (dsimp only [kk_cP, kk_cN] at h) | skip)
    all_goals have e45 := hp.2.2
    all_goals have hSG : mm_S G A := ⟨hp.2.1, by omega, by omega, by omega, hng, hcn⟩
    all_goals first | omega | skip
    · refine hC.same (mm_readCompare l (d + D - 3) G A w hSG (by omega) (by omega)) rfl rfl rfl rfl (by omega) ?_
      rintro rs w' ⟨G2, g2, rfl, p2, hg2, q4, ⟨rfl, q5, q6⟩ | ⟨rfl, q5⟩⟩
      · repeat' first | refine hC.gn [166] _ rfl rfl ?_ | refine And.intro ?_ ?_ | exact True.intro | refine hC.iadd [166] rfl rfl (by first | omega | (simp only [Int.reduceToNat] at *; omega)) ?_ | refine hC.isub [166] rfl rfl (by first | omega | (simp only [Int.reduceToNat] at *; omega)) ?_ | refine hC.imul [166] rfl rfl (by first | omega | (simp only [Int.reduceToNat] at *; omega)) ?_ | refine hC.iinc [166] rfl rfl rfl rfl (by first | omega | (simp only [Int.reduceToNat] at *; omega)) ?_ | refine hC.go [166] _ rfl rfl ?_ | (intro h; first | exact (h rfl).elim | (exfalso; cases h; done) | (dsimp only [kk_cP, kk_cN] at h) | skip)
        exact hC.sub [(0, (4, 0)), (3, (0, _))] ⟨rfl, rfl, trivial⟩ (k166 1 G2 g2 (hp.tr p2) hg2 (by omega) (by omega) (Or.inl ⟨rfl, by omega, by omega, by omega⟩))
      · repeat' first | refine hC.gn [166] _ rfl rfl ?_ | refine And.intro ?_ ?_ | exact True.intro | refine hC.iadd [166] rfl rfl (by first | omega | (simp only [Int.reduceToNat] at *; omega)) ?_ | refine hC.isub [166] rfl rfl (by first | omega | (simp only [Int.reduceToNat] at *; omega)) ?_ | refine hC.imul [166] rfl rfl (by first | omega | (simp only [Int.reduceToNat] at *; omega)) ?_ | refine hC.iinc [166] rfl rfl rfl rfl (by first | omega | (simp only [Int.reduceToNat] at *; omega)) ?_ | refine hC.go [166] _ rfl rfl ?_ | (intro h; first | exact (h rfl).elim | (exfalso; cases h; done) | (dsimp only [kk_cP, kk_cN] at h) | skip)
        exact hC.sub [(0, (4, 0)), (3, (0, _))] ⟨rfl, rfl, trivial⟩ (k166 0 G2 g2 (hp.tr p2) hg2 (by omega) (by omega) (Or.inr ⟨rfl, by omega⟩))
    · refine hC.same (mm_readOf l (d + D - 4) G A w hSG (by omega) (by omega)) rfl rfl rfl rfl (by omega) ?_
      rintro rs w' ⟨G2, g2, rfl, p2, hg2, q4, ⟨rfl, q5, q6⟩ | ⟨rfl, q5⟩⟩
      · repeat' first | refine hC.gn [166] _ rfl rfl ?_ | refine And.intro ?_ ?_ | exact True.intro | refine hC.iadd [166] rfl rfl (by first | omega | (simp only [Int.reduceToNat] at *; omega)) ?_ | refine hC.isub [166] rfl rfl (by first | omega | (simp only [Int.reduceToNat] at *; omega)) ?_ | refine hC.imul [166] rfl rfl (by first | omega | (simp only [Int.reduceToNat] at *; omega)) ?_ | refine hC.iinc [166] rfl rfl rfl rfl (by first | omega | (simp only [Int.reduceToNat] at *; omega)) ?_ | refine hC.go [166] _ rfl rfl ?_ | (intro h; first | exact (h rfl).elim | (exfalso; cases h; done) | (dsimp only [kk_cP, kk_cN] at h) | skip)
        exact hC.sub [(0, (4, 0)), (3, (0, _))] ⟨rfl, rfl, trivial⟩ (k166 1 G2 g2 (hp.tr p2) hg2 (by omega) (by omega) (Or.inl ⟨rfl, by omega, by omega, by omega⟩))
      · repeat' first | refine hC.gn [166] _ rfl rfl ?_ | refine And.intro ?_ ?_ | exact True.intro | refine hC.iadd [166] rfl rfl (by first | omega | (simp only [Int.reduceToNat] at *; omega)) ?_ | refine hC.isub [166] rfl rfl (by first | omega | (simp only [Int.reduceToNat] at *; omega)) ?_ | refine hC.imul [166] rfl rfl (by first | omega | (simp only [Int.reduceToNat] at *; omega)) ?_ | refine hC.iinc [166] rfl rfl rfl rfl (by first | omega | (simp only [Int.reduceToNat] at *; omega)) ?_ | refine hC.go [166] _ rfl rfl ?_ | (intro h; first | exact (h rfl).elim | (exfalso; cases h; done) | (dsimp only [kk_cP, kk_cN] at h) | skip)
        exact hC.sub [(0, (4, 0)), (3, (0, _))] ⟨rfl, rfl, trivial⟩ (k166 0 G2 g2 (hp.tr p2) hg2 (by omega) (by omega) (Or.inr ⟨rfl, by omega⟩))
    · refine hC.same (mm_saysOne l (d + D) G A (50 + w) 0 0 0 (by omega) hng (by omega) (by omega) (by omega)) rfl rfl rfl rfl (by omega) ?_
      rintro rs w' ⟨f, y, rfl, rfl, hy, hf⟩
      repeat' first | refine hC.gn [166] _ rfl rfl ?_ | refine And.intro ?_ ?_ | exact True.intro | refine hC.iadd [166] rfl rfl (by first | omega | (simp only [Int.reduceToNat] at *; omega)) ?_ | refine hC.isub [166] rfl rfl (by first | omega | (simp only [Int.reduceToNat] at *; omega)) ?_ | refine hC.imul [166] rfl rfl (by first | omega | (simp only [Int.reduceToNat] at *; omega)) ?_ | refine hC.iinc [166] rfl rfl rfl rfl (by first | omega | (simp only [Int.reduceToNat] at *; omega)) ?_ | refine hC.go [166] _ rfl rfl ?_ | (intro h; first | exact (h rfl).elim | (exfalso; cases h; done) | (dsimp only [kk_cP, kk_cN] at h) | skip)
      exact hC.sub [(0, (4, 0)), (3, (0, _))] ⟨rfl, rfl, trivial⟩ (k166 1 (kk_up (kk_up G 43 (G 43 + 1)) 46 y) f (hp.tr ((mm_ps.n hp.2.1 _).tr (mm_ps.t (F := kk_up G 43 (G 43 + 1)) hp.2.1 _))) hf (show F 44 < G 44 ∧ G 44 ≤ 20 by omega) (show F 43 ≤ G 43 + 1 by omega) (Or.inl ⟨rfl, (show G 43 + 1 - F 43 + 1 ≤ 2 * (G 44 - F 44) by omega), (show 0 ≤ y by omega), (show y < G 43 + 1 by omega)⟩))
    · refine hC.same (hN G A (by omega) hSG) rfl rfl rfl rfl (Nat.le_refl _) ?_
      rintro rs w' ⟨G2, g2, rfl, p2, hg2, q4, q5, ⟨rfl, q6, q7, q8, q9⟩ | ⟨rfl, q6⟩⟩
      · repeat' first | refine hC.gn [166] _ rfl rfl ?_ | refine And.intro ?_ ?_ | exact True.intro | refine hC.iadd [166] rfl rfl (by first | omega | (simp only [Int.reduceToNat] at *; omega)) ?_ | refine hC.isub [166] rfl rfl (by first | omega | (simp only [Int.reduceToNat] at *; omega)) ?_ | refine hC.imul [166] rfl rfl (by first | omega | (simp only [Int.reduceToNat] at *; omega)) ?_ | refine hC.iinc [166] rfl rfl rfl rfl (by first | omega | (simp only [Int.reduceToNat] at *; omega)) ?_ | refine hC.go [166] _ rfl rfl ?_ | (intro h; first | exact (h rfl).elim | (exfalso; cases h; done) | (dsimp only [kk_cP, kk_cN] at h) | skip)
        exact hC.sub [(0, (4, 0)), (3, (0, _))] ⟨rfl, rfl, trivial⟩ (k166 1 G2 g2 (hp.tr p2) hg2 (by omega) (by omega) (Or.inl ⟨rfl, by omega, by omega, by omega⟩))
      · repeat' first | refine hC.gn [166] _ rfl rfl ?_ | refine And.intro ?_ ?_ | exact True.intro | refine hC.iadd [166] rfl rfl (by first | omega | (simp only [Int.reduceToNat] at *; omega)) ?_ | refine hC.isub [166] rfl rfl (by first | omega | (simp only [Int.reduceToNat] at *; omega)) ?_ | refine hC.imul [166] rfl rfl (by first | omega | (simp only [Int.reduceToNat] at *; omega)) ?_ | refine hC.iinc [166] rfl rfl rfl rfl (by first | omega | (simp only [Int.reduceToNat] at *; omega)) ?_ | refine hC.go [166] _ rfl rfl ?_ | (intro h; first | exact (h rfl).elim | (exfalso; cases h; done) | (dsimp only [kk_cP, kk_cN] at h) | skip)
        exact hC.sub [(0, (4, 0)), (3, (0, _))] ⟨rfl, rfl, trivial⟩ (k166 0 G2 g2 (hp.tr p2) hg2 (by omega) (by omega) (Or.inr ⟨rfl, by omega⟩))
    · refine hC.same (hB G A (by omega) hSG) rfl rfl rfl rfl (Nat.le_refl _) ?_
      rintro rs w' ⟨G2, g2, rfl, p2, hg2, q4, q5, ⟨rfl, q6, q7, q8, q9⟩ | ⟨rfl, q6⟩⟩
      · repeat' first | refine hC.gn [166] _ rfl rfl ?_ | refine And.intro ?_ ?_ | exact True.intro | refine hC.iadd [166] rfl rfl (by first | omega | (simp only [Int.reduceToNat] at *; omega)) ?_ | refine hC.isub [166] rfl rfl (by first | omega | (simp only [Int.reduceToNat] at *; omega)) ?_ | refine hC.imul [166] rfl rfl (by first | omega | (simp only [Int.reduceToNat] at *; omega)) ?_ | refine hC.iinc [166] rfl rfl rfl rfl (by first | omega | (simp only [Int.reduceToNat] at *; omega)) ?_ | refine hC.go [166] _ rfl rfl ?_ | (intro h; first | exact (h rfl).elim | (exfalso; cases h; done) | (dsimp only [kk_cP, kk_cN] at h) | skip)
        exact hC.sub [(0, (4, 0)), (3, (0, _))] ⟨rfl, rfl, trivial⟩ (k166 1 G2 g2 (hp.tr p2) hg2 (by omega) (by omega) (Or.inl ⟨rfl, by omega, by omega, by omega⟩))
      · repeat' first | refine hC.gn [166] _ rfl rfl ?_ | refine And.intro ?_ ?_ | exact True.intro | refine hC.iadd [166] rfl rfl (by first | omega | (simp only [Int.reduceToNat] at *; omega)) ?_ | refine hC.isub [166] rfl rfl (by first | omega | (simp only [Int.reduceToNat] at *; omega)) ?_ | refine hC.imul [166] rfl rfl (by first | omega | (simp only [Int.reduceToNat] at *; omega)) ?_ | refine hC.iinc [166] rfl rfl rfl rfl (by first | omega | (simp only [Int.reduceToNat] at *; omega)) ?_ | refine hC.go [166] _ rfl rfl ?_ | (intro h; first | exact (h rfl).elim | (exfalso; cases h; done) | (dsimp only [kk_cP, kk_cN] at h) | skip)
        exact hC.sub [(0, (4, 0)), (3, (0, _))] ⟨rfl, rfl, trivial⟩ (k166 0 G2 g2 (hp.tr p2) hg2 (by omega) (by omega) (Or.inr ⟨rfl, by omega⟩))
  have k30 : ∀ (o : Int) (w : Int), (o = 0 ∨ o = 1) → (15 ≤ w ∧ w ≤ 24) → K 30 [(0, (4, 0)), (1, (0, o)), (2, (0, w))] [] (mm_w F A) := by
    intro o w ho hw
    repeat' first | refine hC.gn [94] _ rfl rfl ?_ | refine And.intro ?_ ?_ | exact True.intro | refine hC.iadd [94] rfl rfl (by first | omega | (simp only [Int.reduceToNat] at *; omega)) ?_ | refine hC.isub [94] rfl rfl (by first | omega | (simp only [Int.reduceToNat] at *; omega)) ?_ | refine hC.imul [94] rfl rfl (by first | omega | (simp only [Int.reduceToNat] at *; omega)) ?_ | refine hC.iinc [94] rfl rfl rfl rfl (by first | omega | (simp only [Int.reduceToNat] at *; omega)) ?_ | refine hC.go [94] _ rfl rfl ?_ | (intro h; first | exact (h rfl).elim | (exfalso; cases h; done) | (dsimp only [kk_cP, kk_cN] at h) | skip)
    all_goals first
      | (refine hC.same (mm_bad l (d + D) F A _) rfl rfl rfl rfl (by omega) ?_
         rintro rs w' ⟨rfl, xb, rfl⟩
         obtain ⟨p1, b43, b44, b45, b46⟩ := (mm_bad_p hh xb (F 6)).s
         repeat' first | refine hC.gn [] _ rfl rfl ?_ | refine And.intro ?_ ?_ | exact True.intro | refine hC.iadd [] rfl rfl (by first | omega | (simp only [Int.reduceToNat] at *; omega)) ?_ | refine hC.isub [] rfl rfl (by first | omega | (simp only [Int.reduceToNat] at *; omega)) ?_ | refine hC.imul [] rfl rfl (by first | omega | (simp only [Int.reduceToNat] at *; omega)) ?_ | refine hC.iinc [] rfl rfl rfl rfl (by first | omega | (simp only [Int.reduceToNat] at *; omega)) ?_ | refine hC.go [] _ rfl rfl ?_ | (intro h; first | exact (h rfl).elim | (exfalso; cases h; done) | (dsimp only [kk_cP, kk_cN] at h) | skip)
         all_goals first | exact Or.inl rfl | exact Or.inr rfl | exact ⟨_, A 16, rfl, p1, hng, (show F 44 ≤ F 44 ∧ F 44 ≤ 20 by omega), Int.le_refl _, Or.inr ⟨rfl, (show F 43 - F 43 ≤ 2 * (F 44 - F 44) by omega)⟩⟩)
      | (refine hC.same (mm_go l (d + D - 1) (kk_up (kk_up F 44 (F 44 + 1)) 45 (F 45 + 1)) A hh.1 hh.2.1 hh.2.2.1) rfl rfl rfl rfl (by omega) ?_
         rintro rs w' ⟨rfl, G, rfl, hrd⟩
         have p1 := (mm_rd.p (F := kk_up (kk_up F 44 (F 44 + 1)) 45 (F 45 + 1)) hh hrd).1
         have b44 : G 44 = F 44 + 1 := p1.1 44 (by decide)
         have b45 : G 45 = F 45 + 1 := p1.1 45 (by decide)
         have b43 : G 43 = F 43 := p1.1 43 (by decide)
         exact k94 o w G ⟨fun k k0 k1 k2 k3 k4 => (p1.1 k k0).trans ((kk_up_ne k3).trans (kk_up_ne k2)), p1.2.1, b45⟩ ⟨b44, by omega⟩ (by omega) b43 (by omega))
  have k10 : ∀ (n : Nat) (w : Int) (o : Int), (25 - w).toNat < n → (15 ≤ w ∧ w ≤ 24) → (o = 0 ∨ o = 1) → K 10 [(0, (4, 0)), (1, (0, o)), (2, (0, w))] [] (mm_w F A) := by
    intro n
    induction n with
    | zero => intro w o hz; exact absurd hz (Nat.not_lt_zero _)
    | succ n ih =>
      intro w o hn hw ho
      refine hC.go [] _ rfl rfl ?_
      repeat' first | refine hC.gn [10, 30] _ rfl rfl ?_ | refine And.intro ?_ ?_ | exact True.intro | refine hC.iadd [10, 30] rfl rfl (by first | omega | (simp only [Int.reduceToNat] at *; omega)) ?_ | refine hC.isub [10, 30] rfl rfl (by first | omega | (simp only [Int.reduceToNat] at *; omega)) ?_ | refine hC.imul [10, 30] rfl rfl (by first | omega | (simp only [Int.reduceToNat] at *; omega)) ?_ | refine hC.iinc [10, 30] rfl rfl rfl rfl (by first | omega | (simp only [Int.reduceToNat] at *; omega)) ?_ | refine hC.go [10, 30] _ rfl rfl ?_ | (intro h; first | exact (h rfl).elim | (exfalso; cases h; done) | (dsimp only [kk_cP, kk_cN] at h) | skip) | (refine hC.same (mm_isWord l (d + D - 2) F A _) rfl rfl rfl rfl (by omega) ?_; rintro rs w' ⟨rfl, ⟨rfl, s1⟩ | rfl⟩)
      all_goals first | omega | exact hC.sub [(0, (4, 0)), (1, (0, _)), (2, (0, _))] ⟨rfl, rfl, rfl, trivial⟩ (k30 o w ho hw) | exact hC.sub [(0, (4, 0)), (1, (0, _)), (2, (0, _))] ⟨rfl, rfl, rfl, trivial⟩ (ih _ _ (by omega) (by omega) ho)
  repeat' first | refine hC.gn [] _ rfl rfl ?_ | refine And.intro ?_ ?_ | exact True.intro | refine hC.iadd [] rfl rfl (by first | omega | (simp only [Int.reduceToNat] at *; omega)) ?_ | refine hC.isub [] rfl rfl (by first | omega | (simp only [Int.reduceToNat] at *; omega)) ?_ | refine hC.imul [] rfl rfl (by first | omega | (simp only [Int.reduceToNat] at *; omega)) ?_ | refine hC.iinc [] rfl rfl rfl rfl (by first | omega | (simp only [Int.reduceToNat] at *; omega)) ?_ | refine hC.go [] _ rfl rfl ?_ | (intro h; first | exact (h rfl).elim | (exfalso; cases h; done) | (dsimp only [kk_cP, kk_cN] at h) | skip)
  refine hC.same (mm_isSign l (d + D) F A 40) rfl rfl rfl rfl (by omega) ?_
  rintro rs w' ⟨rfl, ⟨rfl, s1, s2⟩ | rfl⟩
  · repeat' first | refine hC.gn [10] _ rfl rfl ?_ | refine And.intro ?_ ?_ | exact True.intro | refine hC.iadd [10] rfl rfl (by first | omega | (simp only [Int.reduceToNat] at *; omega)) ?_ | refine hC.isub [10] rfl rfl (by first | omega | (simp only [Int.reduceToNat] at *; omega)) ?_ | refine hC.imul [10] rfl rfl (by first | omega | (simp only [Int.reduceToNat] at *; omega)) ?_ | refine hC.iinc [10] rfl rfl rfl rfl (by first | omega | (simp only [Int.reduceToNat] at *; omega)) ?_ | refine hC.go [10] _ rfl rfl ?_ | (intro h; first | exact (h rfl).elim | (exfalso; cases h; done) | (dsimp only [kk_cP, kk_cN] at h) | skip)
    exact hC.sub [(0, (4, 0)), (1, (0, _)), (2, (0, _))] ⟨rfl, rfl, rfl, trivial⟩ (k10 _ _ _ (Nat.lt_succ_self _) (by omega) (Or.inr rfl))
  · repeat' first | refine hC.gn [10] _ rfl rfl ?_ | refine And.intro ?_ ?_ | exact True.intro | refine hC.iadd [10] rfl rfl (by first | omega | (simp only [Int.reduceToNat] at *; omega)) ?_ | refine hC.isub [10] rfl rfl (by first | omega | (simp only [Int.reduceToNat] at *; omega)) ?_ | refine hC.imul [10] rfl rfl (by first | omega | (simp only [Int.reduceToNat] at *; omega)) ?_ | refine hC.iinc [10] rfl rfl rfl rfl (by first | omega | (simp only [Int.reduceToNat] at *; omega)) ?_ | refine hC.go [10] _ rfl rfl ?_ | (intro h; first | exact (h rfl).elim | (exfalso; cases h; done) | (dsimp only [kk_cP, kk_cN] at h) | skip)
    exact hC.sub [(0, (4, 0)), (1, (0, _)), (2, (0, _))] ⟨rfl, rfl, rfl, trivial⟩ (k10 _ _ _ (Nat.lt_succ_self _) (by omega) (Or.inl rfl))
set_option maxRecDepth 100000 in
set_option maxHeartbeats 4000000 in
theorem mm_readSaid (l : Launch) : ∀ (m d : Nat) (F : Nat → Int) (A : Nat → Nat → Int), 8 - F 45 ≤ m → mm_S F A → kk_Ctr l (d + (4 * m + 7)) en_t_X11_readSaid [(4, 0)] (mm_w F A) (mm_QS 1 F A) := by
  intro m
  induction m with
  | zero =>
    intro d F A hm hS
    exact mm_readSaidS l d 6 0 (by decide) (fun G B h hT => absurd hT.2.2.1.2 (by omega)) (fun G B h hT => absurd hT.2.2.1.2 (by omega)) F A hm hS
  | succ m ih =>
    intro d F A hm hS
    have hA := fun (F : Nat → Int) (A : Nat → Nat → Int) (h : 8 - F 45 ≤ m) (hT : mm_S F A) => mm_readAnd l d (4 * m + 7) m (by omega) (fun F A h hT => ih d F A h hT) F A h hT
    have hR := fun (F : Nat → Int) (A : Nat → Nat → Int) (h : 8 - F 45 ≤ m) (hT : mm_S F A) => mm_readOr l d (4 * m + 7 + 1) m (by omega) hA F A h hT
    have hK := fun (F : Nat → Int) (A : Nat → Nat → Int) (h : 8 - F 45 ≤ m) (hT : mm_S F A) => mm_readBracket l d (4 * m + 7 + 1 + 1) m (by omega) hR F A h hT
    have hN := fun (F : Nat → Int) (A : Nat → Nat → Int) (h : 8 - F 45 ≤ m) (hT : mm_S F A) => mm_readNot l (d + 2) (4 * m + 7) m (fun F A h hT => ih (d + 2) F A h hT) F A h hT
    have e1 : d + 2 + (4 * m + 7) + 1 = d + (4 * m + 7 + 1 + 1 + 1) := by omega
    rw [e1] at hN
    have hq := mm_readSaidS l d (4 * m + 7 + 1 + 1 + 1) (m + 1) (by omega) (fun G B h hT => hK G B (by omega) hT) (fun G B h hT => hN G B (by omega) hT) F A (by omega) hS
    have e2 : d + (4 * m + 7 + 1 + 1 + 1) + 1 = d + (4 * (m + 1) + 7) := by omega
    rw [e2] at hq
    exact hq
