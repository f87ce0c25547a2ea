/-! THE REFERENCE, 25: a sentence is read -/
variable {Bm : Nat → Nat → Int}
set_option maxRecDepth 100000 in
set_option maxHeartbeats 4000000 in
theorem mm_saysOne (l : Launch) (d : Nat) (F : Nat → Int) (A : Nat → Nat → Int) (x a b r : Int) (h0 : 0 ≤ F 43 ∧ F 43 < 60) (hg : mm_ng (A 16)) (h1 : x = 1 ∨ x = 2 ∨ x = 3 → 0 ≤ a ∧ a < F 43) (h2 : x = 2 ∨ x = 3 → 0 ≤ b ∧ b < F 43) (h3 : x = 69 ∨ x = 70 → 0 ≤ a ∧ a ≤ 3) : kk_Ctr l d en_t_X11_saysOne [(4, 0), (0, x), (0, a), (0, b), (0, r)] (mm_w F A) (fun rs w' => ∃ f y, w' = mm_w (kk_up F 43 (F 43 + 1)) (mm_up A 16 f) ∧ rs = [(0, y)] ∧ y = F 43 ∧ mm_ng f) := by
  refine kk_ctr en_hM (List.mem_of_getElem? (i := 279) rfl) rfl (Nat.le_of_ble_eq_true rfl) (fun K hC => ?_)
  repeat' first | refine hC.gn [] _ rfl rfl ?_ | refine And.intro ?_ ?_ | exact True.intro | refine hC.iadd [] rfl rfl (by first | omega | (simp only [Int.reduceToNat] at *; omega)) ?_ | refine hC.isub [] rfl rfl (by first | omega | (simp only [Int.reduceToNat] at *; omega)) ?_ | refine hC.imul [] rfl rfl (by first | omega | (simp only [Int.reduceToNat] at *; omega)) ?_ | refine hC.iinc [] rfl rfl rfl rfl (by first | omega | (simp only [Int.reduceToNat] at *; omega)) ?_ | refine hC.go [] _ rfl rfl ?_ | (intro h; first | exact (h rfl).elim | (exfalso; cases h; done) | (dsimp only [kk_cP, kk_cN] at h) | skip)
  all_goals first | omega | skip
  refine ⟨kk_up (kk_up (kk_up (kk_up (A 16) (4 * F 43).toNat x) (4 * F 43 + 1).toNat a) (4 * F 43 + 2).toNat b) (4 * F 43 + 3).toNat r, _, rfl, rfl, (show F 43 + 1 - 1 = F 43 by omega), fun k hk => ?_⟩
  by_cases hq : (k : Int) = F 43
  · have e0 : kk_up (kk_up (kk_up (kk_up (A 16) (4 * F 43).toNat x) (4 * F 43 + 1).toNat a) (4 * F 43 + 2).toNat b) (4 * F 43 + 3).toNat r (4 * k) = x := by
      rw [kk_up_ne (by omega), kk_up_ne (by omega), kk_up_ne (by omega), show 4 * k = (4 * F 43).toNat by omega, kk_up_eq]
    have e1 : kk_up (kk_up (kk_up (kk_up (A 16) (4 * F 43).toNat x) (4 * F 43 + 1).toNat a) (4 * F 43 + 2).toNat b) (4 * F 43 + 3).toNat r (4 * k + 1) = a := by
      rw [kk_up_ne (by omega), kk_up_ne (by omega), show 4 * k + 1 = (4 * F 43 + 1).toNat by omega, kk_up_eq]
    have e2 : kk_up (kk_up (kk_up (kk_up (A 16) (4 * F 43).toNat x) (4 * F 43 + 1).toNat a) (4 * F 43 + 2).toNat b) (4 * F 43 + 3).toNat r (4 * k + 2) = b := by
      rw [kk_up_ne (by omega), show 4 * k + 2 = (4 * F 43 + 2).toNat by omega, kk_up_eq]
    rw [e0, e1, e2]
    exact ⟨fun q => by have := h1 q; omega, fun q => by have := h2 q; omega, h3⟩
  · rw [kk_up_ne (by omega), kk_up_ne (by omega), kk_up_ne (by omega), kk_up_ne (by omega), kk_up_ne (by omega), kk_up_ne (by omega), kk_up_ne (by omega), kk_up_ne (by omega), kk_up_ne (by omega), kk_up_ne (by omega), kk_up_ne (by omega), kk_up_ne (by omega)]
    exact hg k hk
def mm_ps (F F' : Nat → Int) : Prop := (∀ k, (k < 5 ∨ 13 < k) → k ≠ 43 → k ≠ 44 → k ≠ 45 → k ≠ 46 → F' k = F k) ∧ mm_ok F' ∧ F' 45 = F 45
set_option maxRecDepth 100000 in
set_option maxHeartbeats 4000000 in
theorem mm_p.s {F F' : Nat → Int} (h : mm_p F F') : mm_ps F F' ∧ F' 43 = F 43 ∧ F' 44 = F 44 ∧ F' 45 = F 45 ∧ F' 46 = F 46 := ⟨⟨fun k hk _ _ _ _ => h.1 k hk, h.2.1, h.1 45 (by decide)⟩, h.1 43 (by decide), h.1 44 (by decide), h.1 45 (by decide), h.1 46 (by decide)⟩
set_option maxRecDepth 100000 in
set_option maxHeartbeats 4000000 in
theorem mm_ps.tr {F F' F'' : Nat → Int} (h : mm_ps F F') (h' : mm_ps F' F'') : mm_ps F F'' := ⟨fun k h0 h1 h2 h3 h4 => (h'.1 k h0 h1 h2 h3 h4).trans (h.1 k h0 h1 h2 h3 h4), h'.2.1, h'.2.2.trans h.2.2⟩
set_option maxRecDepth 100000 in
set_option maxHeartbeats 4000000 in
theorem mm_ps.n {F : Nat → Int} (h : mm_ok F) (x : Int) : mm_ps F (kk_up F 43 x) := ⟨fun k _ h1 _ _ _ => kk_up_ne h1, h, rfl⟩
set_option maxRecDepth 100000 in
set_option maxHeartbeats 4000000 in
theorem mm_ps.t {F : Nat → Int} (h : mm_ok F) (x : Int) : mm_ps F (kk_up F 46 x) := ⟨fun k _ _ _ _ h1 => kk_up_ne h1, h, rfl⟩
/-- where a sentence is being read -/
def mm_S (F : Nat → Int) (A : Nat → Nat → Int) : Prop := mm_ok F ∧ (0 ≤ F 44 ∧ F 44 ≤ 20) ∧ (0 ≤ F 45 ∧ F 45 ≤ 8) ∧ (0 ≤ F 43 ∧ F 43 ≤ 2 * F 44) ∧ mm_ng (A 16) ∧ mm_cn (A 2)
/-- behind a part of it; s: how much less the nodes grow -/
def mm_QS (s : Int) (F : Nat → Int) (A : Nat → Nat → Int) : List en_V → List kk_C → Prop := fun rs w' => ∃ F' f, w' = mm_w F' (mm_up A 16 f) ∧ mm_ps F F' ∧ mm_ng f ∧ (F 44 ≤ F' 44 ∧ F' 44 ≤ 20) ∧ F 43 ≤ F' 43 ∧ ((rs = [(0, 1)] ∧ F 44 < F' 44 ∧ F' 43 - F 43 + s ≤ 2 * (F' 44 - F 44) ∧ 0 ≤ F' 46 ∧ F' 46 < F' 43) ∨ (rs = [(0, 0)] ∧ F' 43 - F 43 ≤ 2 * (F' 44 - F 44)))
/-- behind a one that has no part -/
def mm_QL (F : Nat → Int) (A : Nat → Nat → Int) : List en_V → List kk_C → Prop := fun rs w' => ∃ F' f, w' = mm_w F' (mm_up A 16 f) ∧ mm_ps F F' ∧ mm_ng f ∧ F' 44 = F 44 ∧ ((rs = [(0, 1)] ∧ F' 43 = F 43 + 1 ∧ F' 46 = F 43) ∨ (rs = [(0, 0)] ∧ F' 43 = F 43))
set_option maxRecDepth 100000 in
set_option maxHeartbeats 4000000 in
theorem mm_readOf (l : Launch) (d : Nat) (F : Nat → Int) (A : Nat → Nat → Int) (w : Int) (hS : mm_S F A) (h40 : F 43 < 60) (hw : 19 ≤ w ∧ w ≤ 20) : kk_Ctr l (d + 4) en_t_X11_readOf [(4, 0), (0, w)] (mm_w F A) (mm_QL F A) := by
  obtain ⟨hh, h44, h45, h43, hg, c1, c2, c3, c4, c5, c6⟩ := hS
  refine kk_ctr en_hM (List.mem_of_getElem? (i := 293) rfl) rfl (Nat.le_of_ble_eq_true rfl) (fun K hC => ?_)
  repeat' first | refine hC.gn [] _ rfl rfl ?_ | refine And.intro ?_ ?_ | exact True.intro | refine hC.iadd [] rfl rfl (by first | omega | (simp only [Int.reduceToNat] at *; omega)) ?_ | refine hC.isub [] rfl rfl (by first | omega | (simp only [Int.reduceToNat] at *; omega)) ?_ | refine hC.imul [] rfl rfl (by first | omega | (simp only [Int.reduceToNat] at *; omega)) ?_ | refine hC.iinc [] rfl rfl rfl rfl (by first | omega | (simp only [Int.reduceToNat] at *; omega)) ?_ | refine hC.go [] _ rfl rfl ?_ | (intro h; first | exact (h rfl).elim | (exfalso; cases h; done) | (dsimp only [kk_cP, kk_cN] at h) | skip)
  all_goals first | omega | skip
  refine hC.same (mm_readNamed l _ F A 8 (A 2 1) hh (by omega) (by omega) (by omega)) rfl rfl rfl rfl (Nat.le_refl _) ?_
  rintro rs w' ⟨F1, rfl, p1, ⟨rfl, ⟨n1, n2⟩, n3⟩ | rfl⟩
  · obtain ⟨s1, e43, e44, e45, e46⟩ := p1.s
    repeat' first | refine hC.gn [] _ rfl rfl ?_ | refine And.intro ?_ ?_ | exact True.intro | refine hC.iadd [] rfl rfl (by first | omega | (simp only [Int.reduceToNat] at *; omega)) ?_ | refine hC.isub [] rfl rfl (by first | omega | (simp only [Int.reduceToNat] at *; omega)) ?_ | refine hC.imul [] rfl rfl (by first | omega | (simp only [Int.reduceToNat] at *; omega)) ?_ | refine hC.iinc [] rfl rfl rfl rfl (by first | omega | (simp only [Int.reduceToNat] at *; omega)) ?_ | refine hC.go [] _ rfl rfl ?_ | (intro h; first | exact (h rfl).elim | (exfalso; cases h; done) | (dsimp only [kk_cP, kk_cN] at h) | skip)
    refine hC.same (mm_saysOne l _ F1 A (50 + w) (F1 13) 0 0 (by omega) hg (by omega) (by omega) (by omega)) rfl rfl rfl rfl (Nat.le_refl _) ?_
    rintro rs w' ⟨f, y, rfl, rfl, hy, hf⟩
    repeat' first | refine hC.gn [] _ rfl rfl ?_ | refine And.intro ?_ ?_ | exact True.intro | refine hC.iadd [] rfl rfl (by first | omega | (simp only [Int.reduceToNat] at *; omega)) ?_ | refine hC.isub [] rfl rfl (by first | omega | (simp only [Int.reduceToNat] at *; omega)) ?_ | refine hC.imul [] rfl rfl (by first | omega | (simp only [Int.reduceToNat] at *; omega)) ?_ | refine hC.iinc [] rfl rfl rfl rfl (by first | omega | (simp only [Int.reduceToNat] at *; omega)) ?_ | refine hC.go [] _ rfl rfl ?_ | (intro h; first | exact (h rfl).elim | (exfalso; cases h; done) | (dsimp only [kk_cP, kk_cN] at h) | skip)
    all_goals first | exact Or.inl rfl | exact Or.inr rfl | skip
    exact ⟨kk_up (kk_up F1 43 (F1 43 + 1)) 46 y, f, rfl, s1.tr ((mm_ps.n s1.2.1 _).tr (mm_ps.t (F := kk_up F1 43 (F1 43 + 1)) s1.2.1 _)), hf, e44, Or.inl ⟨rfl, (show F1 43 + 1 = F 43 + 1 by omega), (show y = F 43 by omega)⟩⟩
  · obtain ⟨s1, e43, e44, e45, e46⟩ := p1.s
    repeat' first | refine hC.gn [] _ rfl rfl ?_ | refine And.intro ?_ ?_ | exact True.intro | refine hC.iadd [] rfl rfl (by first | omega | (simp only [Int.reduceToNat] at *; omega)) ?_ | refine hC.isub [] rfl rfl (by first | omega | (simp only [Int.reduceToNat] at *; omega)) ?_ | refine hC.imul [] rfl rfl (by first | omega | (simp only [Int.reduceToNat] at *; omega)) ?_ | refine hC.iinc [] rfl rfl rfl rfl (by first | omega | (simp only [Int.reduceToNat] at *; omega)) ?_ | refine hC.go [] _ rfl rfl ?_ | (intro h; first | exact (h rfl).elim | (exfalso; cases h; done) | (dsimp only [kk_cP, kk_cN] at h) | skip)
    all_goals first | exact Or.inl rfl | exact Or.inr rfl | exact ⟨F1, A 16, rfl, s1, hg, e44, Or.inr ⟨rfl, e43⟩⟩
set_option maxRecDepth 100000 in
set_option maxHeartbeats 4000000 in
theorem mm_readCompare (l : Launch) (d : Nat) (F : Nat → Int) (A : Nat → Nat → Int) (w : Int) (hS : mm_S F A) (h40 : F 43 < 60) (hw : 21 ≤ w ∧ w ≤ 23) : kk_Ctr l (d + 3) en_t_X11_readCompare [(4, 0), (0, w)] (mm_w F A) (mm_QL F A) := by
  obtain ⟨hh, h44, h45, h43, hg, -⟩ := hS
  refine kk_ctr en_hM (List.mem_of_getElem? (i := 294) rfl) rfl (Nat.le_of_ble_eq_true rfl) (fun K hC => ?_)
  have k33 : ∀ (u : Int), (u = 0) → K 33 [(0, (4, 0)), (1, (0, w))] [] (mm_w F A) := by
    intro u hu
    repeat' first | refine hC.gn [] _ rfl rfl ?_ | refine And.intro ?_ ?_ | exact True.intro | refine hC.iadd [] rfl rfl (by first | omega | (simp only [Int.reduceToNat] at *; omega)) ?_ | refine hC.isub [] rfl rfl (by first | omega | (simp only [Int.reduceToNat] at *; omega)) ?_ | refine hC.imul [] rfl rfl (by first | omega | (simp only [Int.reduceToNat] at *; omega)) ?_ | refine hC.iinc [] rfl rfl rfl rfl (by first | omega | (simp only [Int.reduceToNat] at *; omega)) ?_ | refine hC.go [] _ rfl rfl ?_ | (intro h; first | exact (h rfl).elim | (exfalso; cases h; done) | (dsimp only [kk_cP, kk_cN] at h) | skip) | (refine hC.same (mm_go l _ F A hh.1 hh.2.1 hh.2.2.1) rfl rfl rfl rfl (Nat.le_refl _) ?_; rintro rs w' ⟨rfl, F1, rfl, hrd1⟩)
    have p1 := (hrd1.p hh).1
    refine hC.same (mm_readNumber l _ F1 A 0 999 p1.2.1) rfl rfl rfl rfl (Nat.le_refl _) ?_
    rintro rs w' ⟨F2, rfl, p2, ⟨rfl, ⟨n1, n2⟩, n3⟩ | rfl⟩
    · obtain ⟨s1, e43, e44, e45, e46⟩ := (p1.tr p2).s
      repeat' first | refine hC.gn [] _ rfl rfl ?_ | refine And.intro ?_ ?_ | exact True.intro | refine hC.iadd [] rfl rfl (by first | omega | (simp only [Int.reduceToNat] at *; omega)) ?_ | refine hC.isub [] rfl rfl (by first | omega | (simp only [Int.reduceToNat] at *; omega)) ?_ | refine hC.imul [] rfl rfl (by first | omega | (simp only [Int.reduceToNat] at *; omega)) ?_ | refine hC.iinc [] rfl rfl rfl rfl (by first | omega | (simp only [Int.reduceToNat] at *; omega)) ?_ | refine hC.go [] _ rfl rfl ?_ | (intro h; first | exact (h rfl).elim | (exfalso; cases h; done) | (dsimp only [kk_cP, kk_cN] at h) | skip)
      refine hC.same (mm_saysOne l _ F2 A (50 + w) 0 (F2 13) (F 9) (by omega) hg (by omega) (by omega) (by omega)) rfl rfl rfl rfl (Nat.le_refl _) ?_
      rintro rs w' ⟨f, y, rfl, rfl, hy, hf⟩
      repeat' first | refine hC.gn [] _ rfl rfl ?_ | refine And.intro ?_ ?_ | exact True.intro | refine hC.iadd [] rfl rfl (by first | omega | (simp only [Int.reduceToNat] at *; omega)) ?_ | refine hC.isub [] rfl rfl (by first | omega | (simp only [Int.reduceToNat] at *; omega)) ?_ | refine hC.imul [] rfl rfl (by first | omega | (simp only [Int.reduceToNat] at *; omega)) ?_ | refine hC.iinc [] rfl rfl rfl rfl (by first | omega | (simp only [Int.reduceToNat] at *; omega)) ?_ | refine hC.go [] _ rfl rfl ?_ | (intro h; first | exact (h rfl).elim | (exfalso; cases h; done) | (dsimp only [kk_cP, kk_cN] at h) | skip)
      all_goals first | exact Or.inl rfl | exact Or.inr rfl | skip
      exact ⟨kk_up (kk_up F2 43 (F2 43 + 1)) 46 y, f, rfl, s1.tr ((mm_ps.n s1.2.1 _).tr (mm_ps.t (F := kk_up F2 43 (F2 43 + 1)) s1.2.1 _)), hf, e44, Or.inl ⟨rfl, (show F2 43 + 1 = F 43 + 1 by omega), (show y = F 43 by omega)⟩⟩
    · obtain ⟨s1, e43, e44, e45, e46⟩ := (p1.tr p2).s
      repeat' first | refine hC.gn [] _ rfl rfl ?_ | refine And.intro ?_ ?_ | exact True.intro | refine hC.iadd [] rfl rfl (by first | omega | (simp only [Int.reduceToNat] at *; omega)) ?_ | refine hC.isub [] rfl rfl (by first | omega | (simp only [Int.reduceToNat] at *; omega)) ?_ | refine hC.imul [] rfl rfl (by first | omega | (simp only [Int.reduceToNat] at *; omega)) ?_ | refine hC.iinc [] rfl rfl rfl rfl (by first | omega | (simp only [Int.reduceToNat] at *; omega)) ?_ | refine hC.go [] _ rfl rfl ?_ | (intro h; first | exact (h rfl).elim | (exfalso; cases h; done) | (dsimp only [kk_cP, kk_cN] at h) | skip)
      all_goals first | exact Or.inl rfl | exact Or.inr rfl | exact ⟨F2, A 16, rfl, s1, hg, e44, Or.inr ⟨rfl, e43⟩⟩
  repeat' first | refine hC.gn [33] _ rfl rfl ?_ | refine And.intro ?_ ?_ | exact True.intro | refine hC.iadd [33] rfl rfl (by first | omega | (simp only [Int.reduceToNat] at *; omega)) ?_ | refine hC.isub [33] rfl rfl (by first | omega | (simp only [Int.reduceToNat] at *; omega)) ?_ | refine hC.imul [33] rfl rfl (by first | omega | (simp only [Int.reduceToNat] at *; omega)) ?_ | refine hC.iinc [33] rfl rfl rfl rfl (by first | omega | (simp only [Int.reduceToNat] at *; omega)) ?_ | refine hC.go [33] _ rfl rfl ?_ | (intro h; first | exact (h rfl).elim | (exfalso; cases h; done) | (dsimp only [kk_cP, kk_cN] at h) | skip) | (refine hC.same (mm_isSign l _ _ _ _) rfl rfl rfl rfl (Nat.le_refl _) ?_; rintro rs w' ⟨rfl, ⟨rfl, s1, s2⟩ | rfl⟩) | (refine hC.same (mm_bad l _ _ _ _) rfl rfl rfl rfl (Nat.le_refl _) ?_; rintro rs w' ⟨rfl, xb, rfl⟩)
  all_goals first | exact Or.inl rfl | exact Or.inr rfl | exact k33 0 rfl | skip
  all_goals
    obtain ⟨s1, e43, e44, e45, e46⟩ := (mm_bad_p hh xb (F 6)).s
    exact ⟨_, A 16, rfl, s1, hg, e44, Or.inr ⟨rfl, e43⟩⟩
set_option maxRecDepth 100000 in
set_option maxHeartbeats 4000000 in
theorem mm_S.of {F F' : Nat → Int} {A : Nat → Nat → Int} {f : Nat → Int} (hS : mm_S F A) (hp : mm_ps F F') (hf : mm_ng f) (h4 : F 44 ≤ F' 44 ∧ F' 44 ≤ 20) (h5 : F 43 ≤ F' 43) (h6 : F' 43 - F 43 ≤ 2 * (F' 44 - F 44)) : mm_S F' (mm_up A 16 f) := by
  obtain ⟨hh, h44, h45, h43, hg, hc⟩ := hS
  have e45 := hp.2.2
  exact ⟨hp.2.1, by omega, by omega, by omega, hf, hc⟩
-- a row of ones, joined
set_option maxRecDepth 100000 in
set_option maxHeartbeats 4000000 in
theorem mm_readAnd (l : Launch) (d d0 : Nat) (m : Nat) (hd : 3 ≤ d0) (hO : ∀ (F : Nat → Int) (A : Nat → Nat → Int), 8 - F 45 ≤ m → mm_S F A → kk_Ctr l (d + d0) en_t_X11_readSaid [(4, 0)] (mm_w F A) (mm_QS 1 F A)) (F : Nat → Int) (A : Nat → Nat → Int) (hm : 8 - F 45 ≤ m) (hS : mm_S F A) : kk_Ctr l (d + d0 + 1) en_t_X11_readAnd [(4, 0)] (mm_w F A) (mm_QS 1 F A) := by
  refine kk_ctr en_hM (List.mem_of_getElem? (i := 278) rfl) rfl (Nat.le_of_ble_eq_true rfl) (fun K hC => ?_)
  have k14 : ∀ (n : Nat) (a : Int) (G : Nat → Int) (g : Nat → Int), (21 - G 44).toNat < n → (mm_ps F G) → (mm_ng g) → (F 44 < G 44 ∧ G 44 ≤ 20) → (F 43 ≤ G 43) → (G 43 - F 43 + 1 ≤ 2 * (G 44 - F 44)) → (0 ≤ a ∧ a < G 43) → K 14 [(0, (4, 0)), (1, (0, a))] [] (mm_w G (mm_up A 16 g)) := by
    intro n
    induction n with
    | zero => intro a G g hz; exact absurd hz (Nat.not_lt_zero _)
    | succ n ih =>
      intro a G g hn hp hg h4 h5 h6 ha
      have e45 := hp.2.2
      have hS1 := hS.of hp hg (by omega) h5 (by omega)
      refine hC.go [] _ rfl rfl ?_
      repeat' first | refine hC.gn [] _ rfl rfl ?_ | refine And.intro ?_ ?_ | exact True.intro | refine hC.iadd [] rfl rfl (by first | omega | (simp only [Int.reduceToNat] at *; omega)) ?_ | refine hC.isub [] rfl rfl (by first | omega | (simp only [Int.reduceToNat] at *; omega)) ?_ | refine hC.imul [] rfl rfl (by first | omega | (simp only [Int.reduceToNat] at *; omega)) ?_ | refine hC.iinc [] rfl rfl rfl rfl (by first | omega | (simp only [Int.reduceToNat] at *; omega)) ?_ | refine hC.go [] _ rfl rfl ?_ | (intro h; first | exact (h rfl).elim | (exfalso; cases h; done) | (dsimp only [kk_cP, kk_cN] at h) | skip)
      refine hC.same (mm_isWord l (d + d0 - 2) G (mm_up A 16 g) 14) rfl rfl rfl rfl (by omega) ?_
      rintro rs w' ⟨rfl, ⟨rfl, s1⟩ | rfl⟩
      · repeat' first | refine hC.gn [] _ rfl rfl ?_ | refine And.intro ?_ ?_ | exact True.intro | refine hC.iadd [] rfl rfl (by first | omega | (simp only [Int.reduceToNat] at *; omega)) ?_ | refine hC.isub [] rfl rfl (by first | omega | (simp only [Int.reduceToNat] at *; omega)) ?_ | refine hC.imul [] rfl rfl (by first | omega | (simp only [Int.reduceToNat] at *; omega)) ?_ | refine hC.iinc [] rfl rfl rfl rfl (by first | omega | (simp only [Int.reduceToNat] at *; omega)) ?_ | refine hC.go [] _ rfl rfl ?_ | (intro h; first | exact (h rfl).elim | (exfalso; cases h; done) | (dsimp only [kk_cP, kk_cN] at h) | skip)
        refine hC.same (mm_go l (d + d0 - 1) G (mm_up A 16 g) hp.2.1.1 hp.2.1.2.1 hp.2.1.2.2.1) rfl rfl rfl rfl (by omega) ?_
        rintro rs w' ⟨rfl, G1, rfl, hrd1⟩
        obtain ⟨p1, b43, b44, b45, b46⟩ := (hrd1.p hp.2.1).1.s
        repeat' first | refine hC.gn [] _ rfl rfl ?_ | refine And.intro ?_ ?_ | exact True.intro | refine hC.iadd [] rfl rfl (by first | omega | (simp only [Int.reduceToNat] at *; omega)) ?_ | refine hC.isub [] rfl rfl (by first | omega | (simp only [Int.reduceToNat] at *; omega)) ?_ | refine hC.imul [] rfl rfl (by first | omega | (simp only [Int.reduceToNat] at *; omega)) ?_ | refine hC.iinc [] rfl rfl rfl rfl (by first | omega | (simp only [Int.reduceToNat] at *; omega)) ?_ | refine hC.go [] _ rfl rfl ?_ | (intro h; first | exact (h rfl).elim | (exfalso; cases h; done) | (dsimp only [kk_cP, kk_cN] at h) | skip)
        refine hC.same (hO G1 (mm_up A 16 g) (by omega) (hS1.of (f := g) p1 hg (by omega) (by omega) (by omega))) rfl rfl rfl rfl (Nat.le_refl _) ?_
        rintro rs w' ⟨G2, g2, rfl, p2, hg2, q4, q5, ⟨rfl, q6, q7, q8, q9⟩ | ⟨rfl, q6⟩⟩
        · repeat' first | refine hC.gn [] _ rfl rfl ?_ | refine And.intro ?_ ?_ | exact True.intro | refine hC.iadd [] rfl rfl (by first | omega | (simp only [Int.reduceToNat] at *; omega)) ?_ | refine hC.isub [] rfl rfl (by first | omega | (simp only [Int.reduceToNat] at *; omega)) ?_ | refine hC.imul [] rfl rfl (by first | omega | (simp only [Int.reduceToNat] at *; omega)) ?_ | refine hC.iinc [] rfl rfl rfl rfl (by first | omega | (simp only [Int.reduceToNat] at *; omega)) ?_ | refine hC.go [] _ rfl rfl ?_ | (intro h; first | exact (h rfl).elim | (exfalso; cases h; done) | (dsimp only [kk_cP, kk_cN] at h) | skip)
          have h60 : G2 43 < 60 := by have := hS.2.2.2.1; omega
          refine hC.same (mm_saysOne l (d + d0) G2 (mm_up (mm_up A 16 g) 16 g2) 2 a (G2 46) 0 (by omega) hg2 (by omega) (by omega) (by omega)) rfl rfl rfl rfl (by omega) ?_
          rintro rs w' ⟨f, y, rfl, rfl, hy, hf⟩
          repeat' first | refine hC.gn [14] _ rfl rfl ?_ | refine And.intro ?_ ?_ | exact True.intro | refine hC.iadd [14] rfl rfl (by first | omega | (simp only [Int.reduceToNat] at *; omega)) ?_ | refine hC.isub [14] rfl rfl (by first | omega | (simp only [Int.reduceToNat] at *; omega)) ?_ | refine hC.imul [14] rfl rfl (by first | omega | (simp only [Int.reduceToNat] at *; omega)) ?_ | refine hC.iinc [14] rfl rfl rfl rfl (by first | omega | (simp only [Int.reduceToNat] at *; omega)) ?_ | refine hC.go [14] _ rfl rfl ?_ | (intro h; first | exact (h rfl).elim | (exfalso; cases h; done) | (dsimp only [kk_cP, kk_cN] at h) | skip)
          exact hC.sub [(0, (4, 0)), (1, (0, _))] ⟨rfl, rfl, trivial⟩ (ih _ (kk_up G2 43 (G2 43 + 1)) f (show (21 - G2 44).toNat < n by omega) ((hp.tr p1).tr (p2.tr (mm_ps.n p2.2.1 _))) hf (show F 44 < G2 44 ∧ G2 44 ≤ 20 by omega) (show F 43 ≤ G2 43 + 1 by omega) (show G2 43 + 1 - F 43 + 1 ≤ 2 * (G2 44 - F 44) by omega) (show 0 ≤ y ∧ y < G2 43 + 1 by omega))
        · repeat' first | refine hC.gn [] _ rfl rfl ?_ | refine And.intro ?_ ?_ | exact True.intro | refine hC.iadd [] rfl rfl (by first | omega | (simp only [Int.reduceToNat] at *; omega)) ?_ | refine hC.isub [] rfl rfl (by first | omega | (simp only [Int.reduceToNat] at *; omega)) ?_ | refine hC.imul [] rfl rfl (by first | omega | (simp only [Int.reduceToNat] at *; omega)) ?_ | refine hC.iinc [] rfl rfl rfl rfl (by first | omega | (simp only [Int.reduceToNat] at *; omega)) ?_ | refine hC.go [] _ rfl rfl ?_ | (intro h; first | exact (h rfl).elim | (exfalso; cases h; done) | (dsimp only [kk_cP, kk_cN] at h) | skip)
          all_goals first | exact Or.inl rfl | exact Or.inr rfl | exact ⟨G2, g2, rfl, (hp.tr p1).tr p2, hg2, by omega, by omega, Or.inr ⟨rfl, by omega⟩⟩
      · repeat' first | refine hC.gn [] _ rfl rfl ?_ | refine And.intro ?_ ?_ | exact True.intro | refine hC.iadd [] rfl rfl (by first | omega | (simp only [Int.reduceToNat] at *; omega)) ?_ | refine hC.isub [] rfl rfl (by first | omega | (simp only [Int.reduceToNat] at *; omega)) ?_ | refine hC.imul [] rfl rfl (by first | omega | (simp only [Int.reduceToNat] at *; omega)) ?_ | refine hC.iinc [] rfl rfl rfl rfl (by first | omega | (simp only [Int.reduceToNat] at *; omega)) ?_ | refine hC.go [] _ rfl rfl ?_ | (intro h; first | exact (h rfl).elim | (exfalso; cases h; done) | (dsimp only [kk_cP, kk_cN] at h) | skip)
        all_goals first | exact Or.inl rfl | exact Or.inr rfl | skip
        exact ⟨kk_up G 46 a, g, rfl, hp.tr (mm_ps.t hp.2.1 _), hg, (show F 44 ≤ G 44 ∧ G 44 ≤ 20 by omega), h5, Or.inl ⟨rfl, h4.1, h6, ha.1, ha.2⟩⟩
  repeat' first | refine hC.gn [] _ rfl rfl ?_ | refine And.intro ?_ ?_ | exact True.intro | refine hC.iadd [] rfl rfl (by first | omega | (simp only [Int.reduceToNat] at *; omega)) ?_ | refine hC.isub [] rfl rfl (by first | omega | (simp only [Int.reduceToNat] at *; omega)) ?_ | refine hC.imul [] rfl rfl (by first | omega | (simp only [Int.reduceToNat] at *; omega)) ?_ | refine hC.iinc [] rfl rfl rfl rfl (by first | omega | (simp only [Int.reduceToNat] at *; omega)) ?_ | refine hC.go [] _ rfl rfl ?_ | (intro h; first | exact (h rfl).elim | (exfalso; cases h; done) | (dsimp only [kk_cP, kk_cN] at h) | skip)
  refine hC.same (hO F A hm hS) rfl rfl rfl rfl (Nat.le_refl _) ?_
  rintro rs w' ⟨G2, g2, rfl, p2, hg2, q4, q5, ⟨rfl, q6, q7, q8, q9⟩ | ⟨rfl, q6⟩⟩
  · repeat' first | refine hC.gn [14] _ rfl rfl ?_ | refine And.intro ?_ ?_ | exact True.intro | refine hC.iadd [14] rfl rfl (by first | omega | (simp only [Int.reduceToNat] at *; omega)) ?_ | refine hC.isub [14] rfl rfl (by first | omega | (simp only [Int.reduceToNat] at *; omega)) ?_ | refine hC.imul [14] rfl rfl (by first | omega | (simp only [Int.reduceToNat] at *; omega)) ?_ | refine hC.iinc [14] rfl rfl rfl rfl (by first | omega | (simp only [Int.reduceToNat] at *; omega)) ?_ | refine hC.go [14] _ rfl rfl ?_ | (intro h; first | exact (h rfl).elim | (exfalso; cases h; done) | (dsimp only [kk_cP, kk_cN] at h) | skip)
    exact hC.sub [(0, (4, 0)), (1, (0, _))] ⟨rfl, rfl, trivial⟩ (k14 _ _ G2 g2 (Nat.lt_succ_self _) p2 hg2 (by omega) q5 q7 (by omega))
  · repeat' first | refine hC.gn [] _ rfl rfl ?_ | refine And.intro ?_ ?_ | exact True.intro | refine hC.iadd [] rfl rfl (by first | omega | (simp only [Int.reduceToNat] at *; omega)) ?_ | refine hC.isub [] rfl rfl (by first | omega | (simp only [Int.reduceToNat] at *; omega)) ?_ | refine hC.imul [] rfl rfl (by first | omega | (simp only [Int.reduceToNat] at *; omega)) ?_ | refine hC.iinc [] rfl rfl rfl rfl (by first | omega | (simp only [Int.reduceToNat] at *; omega)) ?_ | refine hC.go [] _ rfl rfl ?_ | (intro h; first | exact (h rfl).elim | (exfalso; cases h; done) | (dsimp only [kk_cP, kk_cN] at h) | skip)
    all_goals first | exact Or.inl rfl | exact Or.inr rfl | exact ⟨G2, g2, rfl, p2, hg2, q4, q5, Or.inr ⟨rfl, q6⟩⟩
set_option maxRecDepth 100000 in
set_option maxHeartbeats 4000000 in
theorem mm_readOr (l : Launch) (d d0 : Nat) (m : Nat) (hd : 3 ≤ d0) (hO : ∀ (F : Nat → Int) (A : Nat → Nat → Int), 8 - F 45 ≤ m → mm_S F A → kk_Ctr l (d + d0) en_t_X11_readAnd [(4, 0)] (mm_w F A) (mm_QS 1 F A)) (F : Nat → Int) (A : Nat → Nat → Int) (hm : 8 - F 45 ≤ m) (hS : mm_S F A) : kk_Ctr l (d + d0 + 1) en_t_X11_readOr [(4, 0)] (mm_w F A) (mm_QS 1 F A) := by
  refine kk_ctr en_hM (List.mem_of_getElem? (i := 251) rfl) rfl (Nat.le_of_ble_eq_true rfl) (fun K hC => ?_)
  have k14 : ∀ (n : Nat) (a : Int) (G : Nat → Int) (g : Nat → Int), (21 - G 44).toNat < n → (mm_ps F G) → (mm_ng g) → (F 44 < G 44 ∧ G 44 ≤ 20) → (F 43 ≤ G 43) → (G 43 - F 43 + 1 ≤ 2 * (G 44 - F 44)) → (0 ≤ a ∧ a < G 43) → K 14 [(0, (4, 0)), (1, (0, a))] [] (mm_w G (mm_up A 16 g)) := by
    intro n
    induction n with
    | zero => intro a G g hz; exact absurd hz (Nat.not_lt_zero _)
    | succ n ih =>
      intro a G g hn hp hg h4 h5 h6 ha
      have e45 := hp.2.2
      have hS1 := hS.of hp hg (by omega) h5 (by omega)
      refine hC.go [] _ rfl rfl ?_
      repeat' first | refine hC.gn [] _ rfl rfl ?_ | refine And.intro ?_ ?_ | exact True.intro | refine hC.iadd [] rfl rfl (by first | omega | (simp only [Int.reduceToNat] at *; omega)) ?_ | refine hC.isub [] rfl rfl (by first | omega | (simp only [Int.reduceToNat] at *; omega)) ?_ | refine hC.imul [] rfl rfl (by first | omega | (simp only [Int.reduceToNat] at *; omega)) ?_ | refine hC.iinc [] rfl rfl rfl rfl (by first | omega | (simp only [Int.reduceToNat] at *; omega)) ?_ | refine hC.go [] _ rfl rfl ?_ | (intro h; first | exact (h rfl).elim | (exfalso; cases h; done) | (dsimp only [kk_cP, kk_cN] at h) | skip)
      refine hC.same (mm_isWord l (d + d0 - 2) G (mm_up A 16 g) 13) rfl rfl rfl rfl (by omega) ?_
      rintro rs w' ⟨rfl, ⟨rfl, s1⟩ | rfl⟩
      · repeat' first | refine hC.gn [] _ rfl rfl ?_ | refine And.intro ?_ ?_ | exact True.intro | refine hC.iadd [] rfl rfl (by first | omega | (simp only [Int.reduceToNat] at *; omega)) ?_ | refine hC.isub [] rfl rfl (by first | omega | (simp only [Int.reduceToNat] at *; omega)) ?_ | refine hC.imul [] rfl rfl (by first | omega | (simp only [Int.reduceToNat] at *; omega)) ?_ | refine hC.iinc [] rfl rfl rfl rfl (by first | omega | (simp only [Int.reduceToNat] at *; omega)) ?_ | refine hC.go [] _ rfl rfl ?_ | (intro h; first | exact (h rfl).elim | (exfalso; cases h; done) | (dsimp only [kk_cP, kk_cN] at h) | skip)
        refine hC.same (mm_go l (d + d0 - 1) G (mm_up A 16 g) hp.2.1.1 hp.2.1.2.1 hp.2.1.2.2.1) rfl rfl rfl rfl (by omega) ?_
        rintro rs w' ⟨rfl, G1, rfl, hrd1⟩
        obtain ⟨p1, b43, b44, b45, b46⟩ := (hrd1.p hp.2.1).1.s
        repeat' first | refine hC.gn [] _ rfl rfl ?_ | refine And.intro ?_ ?_ | exact True.intro | refine hC.iadd [] rfl rfl (by first | omega | (simp only [Int.reduceToNat] at *; omega)) ?_ | refine hC.isub [] rfl rfl (by first | omega | (simp only [Int.reduceToNat] at *; omega)) ?_ | refine hC.imul [] rfl rfl (by first | omega | (simp only [Int.reduceToNat] at *; omega)) ?_ | refine hC.iinc [] rfl rfl rfl rfl (by first | omega | (simp only [Int.reduceToNat] at *; omega)) ?_ | refine hC.go [] _ rfl rfl ?_ | (intro h; first | exact (h rfl).elim | (exfalso; cases h; done) | (dsimp only [kk_cP, kk_cN] at h) | skip)
        refine hC.same (hO G1 (mm_up A 16 g) (by omega) (hS1.of (f := g) p1 hg (by omega) (by omega) (by omega))) rfl rfl rfl rfl (Nat.le_refl _) ?_
        rintro rs w' ⟨G2, g2, rfl, p2, hg2, q4, q5, ⟨rfl, q6, q7, q8, q9⟩ | ⟨rfl, q6⟩⟩
        · repeat' first | refine hC.gn [] _ rfl rfl ?_ | refine And.intro ?_ ?_ | exact True.intro | refine hC.iadd [] rfl rfl (by first | omega | (simp only [Int.reduceToNat] at *; omega)) ?_ | refine hC.isub [] rfl rfl (by first | omega | (simp only [Int.reduceToNat] at *; omega)) ?_ | refine hC.imul [] rfl rfl (by first | omega | (simp only [Int.reduceToNat] at *; omega)) ?_ | refine hC.iinc [] rfl rfl rfl rfl (by first | omega | (simp only [Int.reduceToNat] at *; omega)) ?_ | refine hC.go [] _ rfl rfl ?_ | (intro h; first | exact (h rfl).elim | (exfalso; cases h; done) | (dsimp only [kk_cP, kk_cN] at h) | skip)
          have h60 : G2 43 < 60 := by have := hS.2.2.2.1; omega
          refine hC.same (mm_saysOne l (d + d0) G2 (mm_up (mm_up A 16 g) 16 g2) 3 a (G2 46) 0 (by omega) hg2 (by omega) (by omega) (by omega)) rfl rfl rfl rfl (by omega) ?_
          rintro rs w' ⟨f, y, rfl, rfl, hy, hf⟩
          repeat' first | refine hC.gn [14] _ rfl rfl ?_ | refine And.intro ?_ ?_ | exact True.intro | refine hC.iadd [14] rfl rfl (by first | omega | (simp only [Int.reduceToNat] at *; omega)) ?_ | refine hC.isub [14] rfl rfl (by first | omega | (simp only [Int.reduceToNat] at *; omega)) ?_ | refine hC.imul [14] rfl rfl (by first | omega | (simp only [Int.reduceToNat] at *; omega)) ?_ | refine hC.iinc [14] rfl rfl rfl rfl (by first | omega | (simp only [Int.reduceToNat] at *; omega)) ?_ | refine hC.go [14] _ rfl rfl ?_ | (intro h; first | exact (h rfl).elim | (exfalso; cases h; done) | (dsimp only [kk_cP, kk_cN] at h) | skip)
          exact hC.sub [(0, (4, 0)), (1, (0, _))] ⟨rfl, rfl, trivial⟩ (ih _ (kk_up G2 43 (G2 43 + 1)) f (show (21 - G2 44).toNat < n by omega) ((hp.tr p1).tr (p2.tr (mm_ps.n p2.2.1 _))) hf (show F 44 < G2 44 ∧ G2 44 ≤ 20 by omega) (show F 43 ≤ G2 43 + 1 by omega) (show G2 43 + 1 - F 43 + 1 ≤ 2 * (G2 44 - F 44) by omega) (show 0 ≤ y ∧ y < G2 43 + 1 by omega))
        · repeat' first | refine hC.gn [] _ rfl rfl ?_ | refine And.intro ?_ ?_ | exact True.intro | refine hC.iadd [] rfl rfl (by first | omega | (simp only [Int.reduceToNat] at *; omega)) ?_ | refine hC.isub [] rfl rfl (by first | omega | (simp only [Int.reduceToNat] at *; omega)) ?_ | refine hC.imul [] rfl rfl (by first | omega | (simp only [Int.reduceToNat] at *; omega)) ?_ | refine hC.iinc [] rfl rfl rfl rfl (by first | omega | (simp only [Int.reduceToNat] at *; omega)) ?_ | refine hC.go [] _ rfl rfl ?_ | (intro h; first | exact (h rfl).elim | (exfalso; cases h; done) | (dsimp only [kk_cP, kk_cN] at h) | skip)
          all_goals first | exact Or.inl rfl | exact Or.inr rfl | exact ⟨G2, g2, rfl, (hp.tr p1).tr p2, hg2, by omega, by omega, Or.inr ⟨rfl, by omega⟩⟩
      · repeat' first | refine hC.gn [] _ rfl rfl ?_ | refine And.intro ?_ ?_ | exact True.intro | refine hC.iadd [] rfl rfl (by first | omega | (simp only [Int.reduceToNat] at *; omega)) ?_ | refine hC.isub [] rfl rfl (by first | omega | (simp only [Int.reduceToNat] at *; omega)) ?_ | refine hC.imul [] rfl rfl (by first | omega | (simp only [Int.reduceToNat] at *; omega)) ?_ | refine hC.iinc [] rfl rfl rfl rfl (by first | omega | (simp only [Int.reduceToNat] at *; omega)) ?_ | refine hC.go [] _ rfl rfl ?_ | (intro h; first | exact (h rfl).elim | (exfalso; cases h; done) | (dsimp only [kk_cP, kk_cN] at h) | skip)
        all_goals first | exact Or.inl rfl | exact Or.inr rfl | skip
        exact ⟨kk_up G 46 a, g, rfl, hp.tr (mm_ps.t hp.2.1 _), hg, (show F 44 ≤ G 44 ∧ G 44 ≤ 20 by omega), h5, Or.inl ⟨rfl, h4.1, h6, ha.1, ha.2⟩⟩
  repeat' first | refine hC.gn [] _ rfl rfl ?_ | refine And.intro ?_ ?_ | exact True.intro | refine hC.iadd [] rfl rfl (by first | omega | (simp only [Int.reduceToNat] at *; omega)) ?_ | refine hC.isub [] rfl rfl (by first | omega | (simp only [Int.reduceToNat] at *; omega)) ?_ | refine hC.imul [] rfl rfl (by first | omega | (simp only [Int.reduceToNat] at *; omega)) ?_ | refine hC.iinc [] rfl rfl rfl rfl (by first | omega | (simp only [Int.reduceToNat] at *; omega)) ?_ | refine hC.go [] _ rfl rfl ?_ | (intro h; first | exact (h rfl).elim | (exfalso; cases h; done) | (dsimp only [kk_cP, kk_cN] at h) | skip)
  refine hC.same (hO F A hm hS) rfl rfl rfl rfl (Nat.le_refl _) ?_
  rintro rs w' ⟨G2, g2, rfl, p2, hg2, q4, q5, ⟨rfl, q6, q7, q8, q9⟩ | ⟨rfl, q6⟩⟩
  · repeat' first | refine hC.gn [14] _ rfl rfl ?_ | refine And.intro ?_ ?_ | exact True.intro | refine hC.iadd [14] rfl rfl (by first | omega | (simp only [Int.reduceToNat] at *; omega)) ?_ | refine hC.isub [14] rfl rfl (by first | omega | (simp only [Int.reduceToNat] at *; omega)) ?_ | refine hC.imul [14] rfl rfl (by first | omega | (simp only [Int.reduceToNat] at *; omega)) ?_ | refine hC.iinc [14] rfl rfl rfl rfl (by first | omega | (simp only [Int.reduceToNat] at *; omega)) ?_ | refine hC.go [14] _ rfl rfl ?_ | (intro h; first | exact (h rfl).elim | (exfalso; cases h; done) | (dsimp only [kk_cP, kk_cN] at h) | skip)
    exact hC.sub [(0, (4, 0)), (1, (0, _))] ⟨rfl, rfl, trivial⟩ (k14 _ _ G2 g2 (Nat.lt_succ_self _) p2 hg2 (by omega) q5 q7 (by omega))
  · repeat' first | refine hC.gn [] _ rfl rfl ?_ | refine And.intro ?_ ?_ | exact True.intro | refine hC.iadd [] rfl rfl (by first | omega | (simp only [Int.reduceToNat] at *; omega)) ?_ | refine hC.isub [] rfl rfl (by first | omega | (simp only [Int.reduceToNat] at *; omega)) ?_ | refine hC.imul [] rfl rfl (by first | omega | (simp only [Int.reduceToNat] at *; omega)) ?_ | refine hC.iinc [] rfl rfl rfl rfl (by first | omega | (simp only [Int.reduceToNat] at *; omega)) ?_ | refine hC.go [] _ rfl rfl ?_ | (intro h; first | exact (h rfl).elim | (exfalso; cases h; done) | (dsimp only [kk_cP, kk_cN] at h) | skip)
    all_goals first | exact Or.inl rfl | exact Or.inr rfl | exact ⟨G2, g2, rfl, p2, hg2, q4, q5, Or.inr ⟨rfl, q6⟩⟩
