/-! READING, 4: a token -/
def sx_f (O O1 : Nat → Nat → Int) : Prop := (∀ p, p ≠ 0 → O1 p = O p) ∧ ∀ k, (k < 3 ∨ 9 ≤ k) → O1 0 k = O 0 k
theorem sx_f.up {O O1 : Nat → Nat → Int} (h : sx_f O O1) {b : Nat} {v : Int} (hb : 3 ≤ b ∧ b < 9) : sx_f O (mm_up O1 0 (kk_up (O1 0) b v)) := by
  refine ⟨fun p hp => by rw [mm_up_ne hp]; exact h.1 p hp, fun k hk => ?_⟩
  show kk_up (O1 0) b v k = O 0 k
  rw [kk_up_ne (by omega)]
  exact h.2 k hk
theorem sx_f.run {O O1 O2 : Nat → Nat → Int} (h : sx_f O O1) (h2 : rx_f O1 O2) : sx_f O O2 := ⟨fun p hp => (h2.1 p hp).trans (h.1 p hp), fun k hk => (h2.2 k (by omega) (by omega) (by omega) (by omega) (by omega)).trans (h.2 k hk)⟩
/-- what the run from q gives: kind, name or number, the reserved word -/
def tk_R (a : Int → Int) (res : Nat → Int) (q : Int) (r : Nat → Int) : Prop := ∃ L D nm nu, rq a q (r 5) L D nm nu ∧ r 5 = tk_en a 940 q ∧ ((D = 0 ∧ L ≤ 7 ∧ r 3 = 2 ∧ r 7 = nm ∧ rw_I res nm (r 6)) ∨ (¬ (D = 0 ∧ L ≤ 7) ∧ r 6 = -1 ∧ ((L = 0 ∧ D ≤ 3 ∧ r 3 = 3 ∧ r 8 = nu) ∨ (¬ (L = 0 ∧ D ≤ 3) ∧ r 3 = 0))))
/-- the token at q, the first place that is no blank: p is where the reader stood -/
def tk_T (n most : Int) (a : Int → Int) (res : Nat → Int) (p q : Int) (r : Nat → Int) : Prop :=
  ((most < n ∧ most ≤ q) ∧ r 3 = 0 ∧ r 4 = most ∧ r 5 = p ∧ r 6 = -1) ∨ (¬ (most < n ∧ most ≤ q) ∧ n ≤ q ∧ r 3 = 1 ∧ r 4 = n ∧ r 5 = p ∧ r 6 = -1) ∨ (¬ (most < n ∧ most ≤ q) ∧ q < n ∧ r 4 = q ∧ ((tk_an (a q) = true ∧ tk_R a res q r) ∨ (tk_an (a q) = false ∧ r 5 = q + 1 ∧ r 6 = -1 ∧ ((tk_sg (a q) = true ∧ r 3 = a q) ∨ (tk_sg (a q) = false ∧ r 3 = 0)))))
set_option maxRecDepth 100000 in
set_option maxHeartbeats 4000000 in
theorem rr_xStep (l : Launch) (d : Nat) (O A : Nat → Nat → Int) (h9 : 0 ≤ O 2 1 ∧ O 2 1 ≤ 940) (hp : 0 ≤ O 0 5 ∧ O 0 5 ≤ 940) : kk_Ctr l (d + 2) en_t_X6_step [(4, 0)] (cx_R O A) (fun rs w' => ∃ O' A', w' = cx_R O' A' ∧ rs = [] ∧ A' = A ∧ sx_f O O' ∧ tk_T (O 2 1) (O 0 2) (rx_a O A) (A 1) (O 0 5) (tk_sk (rx_a O A) 940 (O 0 5)) (O' 0)) := by
  generalize hq0 : tk_sk (rx_a O A) 940 (O 0 5) = q
  refine kk_ctr en_hM (List.mem_of_getElem? (i := 123) rfl) rfl (Nat.le_of_ble_eq_true rfl) (fun K hC => ?_)
  have k129 : ∀ (O1 : Nat → Nat → Int), sx_f O O1 → O1 0 6 = -1 → O1 0 4 = q → 0 ≤ q → q < O 2 1 → ¬ (O 0 2 < O 2 1 ∧ O 0 2 ≤ q) → K 129 [(0, (4, 0))] [] (cx_R O1 A) := by
    intro O1 hf h6 h4 q0 qn hm
    have e2 : O1 2 = O 2 := hf.1 2 (by decide)
    have e1 : O1 2 1 = O 2 1 := congrFun e2 1
    have ra : rx_a O1 A = rx_a O A := by funext j; unfold rx_a; rw [e1]
    have ra4 : tt_v 940 (O1 2 1) (A 3) (O1 0 4) = rx_a O A q := by rw [e1, h4]; rfl
    have krun : tk_an (rx_a O A q) = true → K 163 [(0, (4, 0))] [] (cx_R O1 A) := by
      intro han
      repeat' first | refine hC.gw [] _ rfl rfl ?_ | refine And.intro ?_ ?_ | exact True.intro | refine hC.iadd [] rfl rfl (by first | omega | (simp only [Int.reduceToNat] at *; omega)) ?_ | refine hC.isub [] rfl rfl (by first | omega | (simp only [Int.reduceToNat] at *; omega)) ?_ | refine hC.imul [] rfl rfl (by first | omega | (simp only [Int.reduceToNat] at *; omega)) ?_ | refine hC.iinc [] rfl rfl rfl rfl (by first | omega | (simp only [Int.reduceToNat] at *; omega)) ?_ | refine hC.pfw (W := cx_R) [] rfl rfl rfl rfl rfl rfl ?_ ?_ | refine hC.iaw (W := cx_R) [] rfl rfl rfl rfl ?_ ?_ | refine hC.law (W := cx_R) [] rfl rfl rfl rfl ?_ ?_ | refine hC.cpw (W := cx_R) [] rfl rfl rfl rfl rfl rfl ?_ | refine hC.cpl (W := cx_R) [] rfl rfl rfl rfl rfl rfl ?_ | refine hC.go [] _ rfl rfl ?_ | (intro h; first | exact (h rfl).elim | (exfalso; cases h; done) | (dsimp only [kk_cP, kk_cN] at h) | skip)
      refine hC.same (rr_xRun l _ _ _ (by omega) (by omega)) rfl rfl rfl rfl (Nat.le_refl _) ?_
      rintro rs w' ⟨O2, A2, rfl, rfl, rfl, hf2, L, D, nm, nu, hr, he, hk⟩
      rw [ra, h4] at hr he
      have e24 : O2 0 4 = q := (hf2.2 4 (by decide) (by decide) (by decide) (by decide) (by decide)).trans h4
      repeat' first | refine hC.gw [] _ rfl rfl ?_ | refine And.intro ?_ ?_ | exact True.intro | refine hC.iadd [] rfl rfl (by first | omega | (simp only [Int.reduceToNat] at *; omega)) ?_ | refine hC.isub [] rfl rfl (by first | omega | (simp only [Int.reduceToNat] at *; omega)) ?_ | refine hC.imul [] rfl rfl (by first | omega | (simp only [Int.reduceToNat] at *; omega)) ?_ | refine hC.iinc [] rfl rfl rfl rfl (by first | omega | (simp only [Int.reduceToNat] at *; omega)) ?_ | refine hC.pfw (W := cx_R) [] rfl rfl rfl rfl rfl rfl ?_ ?_ | refine hC.iaw (W := cx_R) [] rfl rfl rfl rfl ?_ ?_ | refine hC.law (W := cx_R) [] rfl rfl rfl rfl ?_ ?_ | refine hC.cpw (W := cx_R) [] rfl rfl rfl rfl rfl rfl ?_ | refine hC.cpl (W := cx_R) [] rfl rfl rfl rfl rfl rfl ?_ | refine hC.go [] _ rfl rfl ?_ | (intro h; first | exact (h rfl).elim | (exfalso; cases h; done) | (dsimp only [kk_cP, kk_cN] at h) | skip)
      refine ⟨_, _, rfl, rfl, rfl, hf.run hf2, Or.inr (Or.inr ⟨hm, qn, e24, Or.inl ⟨han, L, D, nm, nu, hr, he, ?_⟩⟩)⟩
      rcases hk with hk | ⟨k1, k2, k3⟩
      · exact Or.inl hk
      · exact Or.inr ⟨k1, k2.trans h6, k3⟩
    have k170 : tk_an (rx_a O A q) = false → K 170 [(0, (4, 0))] [] (cx_R O1 A) := by
      intro han
      have k180 : ∀ (O1 : Nat → Nat → Int), sx_f O O1 → O1 0 6 = -1 → O1 0 4 = q → O1 0 5 = q + 1 → K 180 [(0, (4, 0))] [] (cx_R O1 A) := by
        intro O1 hf h6 h4 h5
        have e2 : O1 2 = O 2 := hf.1 2 (by decide)
        have e1 : O1 2 1 = O 2 1 := congrFun e2 1
        have ra4 : tt_v 940 (O1 2 1) (A 3) (O1 0 4) = rx_a O A q := by rw [e1, h4]; rfl
        repeat' first | refine hC.gw [] _ rfl rfl ?_ | refine And.intro ?_ ?_ | exact True.intro | refine hC.iadd [] rfl rfl (by first | omega | (simp only [Int.reduceToNat] at *; omega)) ?_ | refine hC.isub [] rfl rfl (by first | omega | (simp only [Int.reduceToNat] at *; omega)) ?_ | refine hC.imul [] rfl rfl (by first | omega | (simp only [Int.reduceToNat] at *; omega)) ?_ | refine hC.iinc [] rfl rfl rfl rfl (by first | omega | (simp only [Int.reduceToNat] at *; omega)) ?_ | refine hC.pfw (W := cx_R) [] rfl rfl rfl rfl rfl rfl ?_ ?_ | refine hC.iaw (W := cx_R) [] rfl rfl rfl rfl ?_ ?_ | refine hC.law (W := cx_R) [] rfl rfl rfl rfl ?_ ?_ | refine hC.cpw (W := cx_R) [] rfl rfl rfl rfl rfl rfl ?_ | refine hC.cpl (W := cx_R) [] rfl rfl rfl rfl rfl rfl ?_ | refine hC.go [] _ rfl rfl ?_ | (intro h; first | exact (h rfl).elim | (exfalso; cases h; done) | (dsimp only [kk_cP, kk_cN] at h) | skip) | (refine hC.rd ce_R_T (tt_at l _ _ _ _) rfl rfl rfl rfl rfl rfl (Nat.le_refl _) ?_; rintro rs rfl) | (refine hC.call (rr_xSign l _ _) [] rfl rfl rfl rfl rfl rfl trivial (Nat.le_refl _) ?_; rintro rs w' ⟨rfl, ⟨rfl, hsg⟩ | ⟨rfl, hsg⟩⟩)
        · exact ⟨_, _, rfl, rfl, rfl, hf.up (by omega), Or.inr (Or.inr ⟨hm, qn, h4, Or.inr ⟨han, h5, h6, Or.inl ⟨by rw [← ra4]; exact hsg, ra4⟩⟩⟩)⟩
        · exact ⟨_, _, rfl, rfl, rfl, hf.up (by omega), Or.inr (Or.inr ⟨hm, qn, h4, Or.inr ⟨han, h5, h6, Or.inr ⟨by rw [← ra4]; exact hsg, rfl⟩⟩⟩)⟩
      repeat' first | refine hC.gw [180] _ rfl rfl ?_ | refine And.intro ?_ ?_ | exact True.intro | refine hC.iadd [180] rfl rfl (by first | omega | (simp only [Int.reduceToNat] at *; omega)) ?_ | refine hC.isub [180] rfl rfl (by first | omega | (simp only [Int.reduceToNat] at *; omega)) ?_ | refine hC.imul [180] rfl rfl (by first | omega | (simp only [Int.reduceToNat] at *; omega)) ?_ | refine hC.iinc [180] rfl rfl rfl rfl (by first | omega | (simp only [Int.reduceToNat] at *; omega)) ?_ | refine hC.pfw (W := cx_R) [180] rfl rfl rfl rfl rfl rfl ?_ ?_ | refine hC.iaw (W := cx_R) [180] rfl rfl rfl rfl ?_ ?_ | refine hC.law (W := cx_R) [180] rfl rfl rfl rfl ?_ ?_ | refine hC.cpw (W := cx_R) [180] rfl rfl rfl rfl rfl rfl ?_ | refine hC.cpl (W := cx_R) [180] rfl rfl rfl rfl rfl rfl ?_ | refine hC.go [180] _ rfl rfl ?_ | (intro h; first | exact (h rfl).elim | (exfalso; cases h; done) | (dsimp only [kk_cP, kk_cN] at h) | skip)
      all_goals first | omega | exact k180 _ (hf.up (by omega)) h6 h4 (by show O1 0 4 + 1 = q + 1; rw [h4])
    repeat' first | refine hC.gw [163, 170] _ rfl rfl ?_ | refine And.intro ?_ ?_ | exact True.intro | refine hC.iadd [163, 170] rfl rfl (by first | omega | (simp only [Int.reduceToNat] at *; omega)) ?_ | refine hC.isub [163, 170] rfl rfl (by first | omega | (simp only [Int.reduceToNat] at *; omega)) ?_ | refine hC.imul [163, 170] rfl rfl (by first | omega | (simp only [Int.reduceToNat] at *; omega)) ?_ | refine hC.iinc [163, 170] rfl rfl rfl rfl (by first | omega | (simp only [Int.reduceToNat] at *; omega)) ?_ | refine hC.pfw (W := cx_R) [163, 170] rfl rfl rfl rfl rfl rfl ?_ ?_ | refine hC.iaw (W := cx_R) [163, 170] rfl rfl rfl rfl ?_ ?_ | refine hC.law (W := cx_R) [163, 170] rfl rfl rfl rfl ?_ ?_ | refine hC.cpw (W := cx_R) [163, 170] rfl rfl rfl rfl rfl rfl ?_ | refine hC.cpl (W := cx_R) [163, 170] rfl rfl rfl rfl rfl rfl ?_ | refine hC.go [163, 170] _ rfl rfl ?_ | (intro h; first | exact (h rfl).elim | (exfalso; cases h; done) | (dsimp only [kk_cP, kk_cN] at h) | skip) | (refine hC.rd ce_R_T (tt_at l _ _ _ _) rfl rfl rfl rfl rfl rfl (Nat.le_refl _) ?_; rintro rs rfl) | (refine hC.call (rr_xLetter l _ _) [] rfl rfl rfl rfl rfl rfl trivial (Nat.le_refl _) ?_; rintro rs w' ⟨rfl, ⟨rfl, hlt⟩ | ⟨rfl, hlt⟩⟩) | (refine hC.call (rr_xDigit l _ _) [] rfl rfl rfl rfl rfl rfl trivial (Nat.le_refl _) ?_; rintro rs w' ⟨rfl, ⟨rfl, hdg⟩ | ⟨rfl, hdg⟩⟩)
    · exact krun (by unfold tk_an; rw [show tk_lt (rx_a O A q) = true by rw [← ra4]; exact hlt]; rfl)
    · exact krun (by unfold tk_an; rw [show tk_dg (rx_a O A q) = true by rw [← ra4]; exact hdg, Bool.or_true])
    · exact k170 (by unfold tk_an; rw [show tk_lt (rx_a O A q) = false by rw [← ra4]; exact hlt, show tk_dg (rx_a O A q) = false by rw [← ra4]; exact hdg]; rfl)
  have k55 : ∀ (O1 : Nat → Nat → Int), sx_f O O1 → O1 0 6 = -1 → O1 0 4 = q → 0 ≤ q → O1 0 5 = O 0 5 → K 55 [(0, (4, 0))] [] (cx_R O1 A) := by
    intro O1 hf h6 h4 q0 h5
    have e2 : O1 2 = O 2 := hf.1 2 (by decide)
    have e1 : O1 2 1 = O 2 1 := congrFun e2 1
    have em : O1 0 2 = O 0 2 := hf.2 2 (by omega)
    repeat' first | refine hC.gw [129] _ rfl rfl ?_ | refine And.intro ?_ ?_ | exact True.intro | refine hC.iadd [129] rfl rfl (by first | omega | (simp only [Int.reduceToNat] at *; omega)) ?_ | refine hC.isub [129] rfl rfl (by first | omega | (simp only [Int.reduceToNat] at *; omega)) ?_ | refine hC.imul [129] rfl rfl (by first | omega | (simp only [Int.reduceToNat] at *; omega)) ?_ | refine hC.iinc [129] rfl rfl rfl rfl (by first | omega | (simp only [Int.reduceToNat] at *; omega)) ?_ | refine hC.pfw (W := cx_R) [129] rfl rfl rfl rfl rfl rfl ?_ ?_ | refine hC.iaw (W := cx_R) [129] rfl rfl rfl rfl ?_ ?_ | refine hC.law (W := cx_R) [129] rfl rfl rfl rfl ?_ ?_ | refine hC.cpw (W := cx_R) [129] rfl rfl rfl rfl rfl rfl ?_ | refine hC.cpl (W := cx_R) [129] rfl rfl rfl rfl rfl rfl ?_ | refine hC.go [129] _ rfl rfl ?_ | (intro h; first | exact (h rfl).elim | (exfalso; cases h; done) | (dsimp only [kk_cP, kk_cN] at h) | skip)
    all_goals first | exact k129 O1 hf h6 h4 q0 (by omega) (by omega) | exact ⟨_, _, rfl, rfl, rfl, (hf.up (b := 4) (by omega)).up (by omega), Or.inl ⟨⟨by omega, by omega⟩, rfl, em, h5, h6⟩⟩ | exact ⟨_, _, rfl, rfl, rfl, (hf.up (b := 4) (by omega)).up (by omega), Or.inr (Or.inl ⟨by omega, by omega, rfl, e1, h5, h6⟩)⟩
  have k15 : ∀ (n : Nat) (i : Int) (f : Nat) (O1 : Nat → Nat → Int), (941 - i).toNat < n → (0 ≤ i ∧ i ≤ 940) → (sx_f O O1) → (O1 0 6 = -1) → (O1 0 5 = O 0 5) → (0 ≤ O1 0 4 ∧ O1 0 4 ≤ 940) → ((f : Int) = 940 - i) → (tk_sk (rx_a O A) f (O1 0 4) = q) → K 15 [(0, (4, 0)), (1, (0, i))] [] (cx_R O1 A) := by
    intro n
    induction n with
    | zero => intro i f O1 hz; exact absurd hz (Nat.not_lt_zero _)
    | succ n ih =>
      intro i f O1 hn g0 hf h6 h5 g4 hu he
      refine hC.go [] _ rfl rfl ?_
      repeat' first | refine hC.gw [15, 55] _ rfl rfl ?_ | refine And.intro ?_ ?_ | exact True.intro | refine hC.iadd [15, 55] rfl rfl (by first | omega | (simp only [Int.reduceToNat] at *; omega)) ?_ | refine hC.isub [15, 55] rfl rfl (by first | omega | (simp only [Int.reduceToNat] at *; omega)) ?_ | refine hC.imul [15, 55] rfl rfl (by first | omega | (simp only [Int.reduceToNat] at *; omega)) ?_ | refine hC.iinc [15, 55] rfl rfl rfl rfl (by first | omega | (simp only [Int.reduceToNat] at *; omega)) ?_ | refine hC.pfw (W := cx_R) [15, 55] rfl rfl rfl rfl rfl rfl ?_ ?_ | refine hC.iaw (W := cx_R) [15, 55] rfl rfl rfl rfl ?_ ?_ | refine hC.law (W := cx_R) [15, 55] rfl rfl rfl rfl ?_ ?_ | refine hC.cpw (W := cx_R) [15, 55] rfl rfl rfl rfl rfl rfl ?_ | refine hC.cpl (W := cx_R) [15, 55] rfl rfl rfl rfl rfl rfl ?_ | refine hC.go [15, 55] _ rfl rfl ?_ | (intro h; first | exact (h rfl).elim | (exfalso; cases h; done) | (dsimp only [kk_cP, kk_cN] at h) | skip) | (refine hC.rd ce_R_T (tt_at l _ _ _ _) rfl rfl rfl rfl rfl rfl (Nat.le_refl _) ?_; rintro rs rfl) | (refine hC.call (rr_xBlank l _ _) [] rfl rfl rfl rfl rfl rfl trivial (Nat.le_refl _) ?_; rintro rs w' ⟨rfl, ⟨rfl, hbl⟩ | ⟨rfl, hbl⟩⟩)
      all_goals have e1 : O1 2 1 = O 2 1 := congrFun (hf.1 2 (by decide)) 1
      all_goals have ra4 : tt_v 940 (O1 2 1) (A 3) (O1 0 4) = rx_a O A (O1 0 4) := by rw [e1]; rfl
      · have hf0 : f = 0 := by omega
        subst hf0
        have he : O1 0 4 = q := he
        exact hC.sub [(0, (4, 0))] ⟨rfl, trivial⟩ (k55 O1 hf h6 he (by omega) h5)
      · have hb : tk_bl (rx_a O A (O1 0 4)) = true := by rw [← ra4]; exact hbl
        have hn4 : O1 0 4 < O 2 1 := by
          by_cases hlt : O1 0 4 < O 2 1
          · exact hlt
          · have e : rx_a O A (O1 0 4) = -1 := if_neg (by omega)
            rw [e] at hb
            cases hb
        obtain ⟨f', rfl⟩ : ∃ f', f = f' + 1 := ⟨f - 1, by omega⟩
        exact hC.sub [(0, (4, 0)), (1, (0, _))] ⟨rfl, rfl, trivial⟩ (ih _ f' _ (by omega) (by omega) (hf.up (by omega)) h6 h5 (by show 0 ≤ O1 0 4 + 1 ∧ O1 0 4 + 1 ≤ 940; omega) (by omega) (by rw [← he]; exact (tk_sk_y hb).symm))
      · have hb : tk_bl (rx_a O A (O1 0 4)) = false := by rw [← ra4]; exact hbl
        have h4 : O1 0 4 = q := by rw [← he]; exact (tk_sk_n hb).symm
        exact hC.sub [(0, (4, 0))] ⟨rfl, trivial⟩ (k55 O1 hf h6 h4 (by omega) h5)
  repeat' first | refine hC.gw [15] _ rfl rfl ?_ | refine And.intro ?_ ?_ | exact True.intro | refine hC.iadd [15] rfl rfl (by first | omega | (simp only [Int.reduceToNat] at *; omega)) ?_ | refine hC.isub [15] rfl rfl (by first | omega | (simp only [Int.reduceToNat] at *; omega)) ?_ | refine hC.imul [15] rfl rfl (by first | omega | (simp only [Int.reduceToNat] at *; omega)) ?_ | refine hC.iinc [15] rfl rfl rfl rfl (by first | omega | (simp only [Int.reduceToNat] at *; omega)) ?_ | refine hC.pfw (W := cx_R) [15] rfl rfl rfl rfl rfl rfl ?_ ?_ | refine hC.iaw (W := cx_R) [15] rfl rfl rfl rfl ?_ ?_ | refine hC.law (W := cx_R) [15] rfl rfl rfl rfl ?_ ?_ | refine hC.cpw (W := cx_R) [15] rfl rfl rfl rfl rfl rfl ?_ | refine hC.cpl (W := cx_R) [15] rfl rfl rfl rfl rfl rfl ?_ | refine hC.go [15] _ rfl rfl ?_ | (intro h; first | exact (h rfl).elim | (exfalso; cases h; done) | (dsimp only [kk_cP, kk_cN] at h) | skip)
  exact hC.sub [(0, (4, 0)), (1, (0, _))] ⟨rfl, rfl, trivial⟩ (k15 _ _ 940 _ (Nat.lt_succ_self _) (by omega) (((show sx_f O O from ⟨fun _ _ => rfl, fun _ _ => rfl⟩).up (b := 6) (by omega)).up (by omega)) rfl rfl hp (by omega) hq0)
