/-! THE LAW, 3: its turns -/
def lx_c (Ln : Nat) (xs : Nat → Int) : kk_X := fun k => match k with
  | 3 => some (Ln, xs)
  | k => kk_x4 k
def lx_R : Instr → List en_V → List kk_C → Prop := fun i st _ => i = .ireturn ∧ st = [(0, 1)]
abbrev lx_L (i : Int) : en_L := [(0, (6, 3)), (1, (4, 0)), (2, (4, 168)), (3, (4, 185)), (4, (0, i))]
section LT
variable {l : Launch} {Ln : Nat} {xs : Nat → Int} {K K2 : kk_Q} {tl a b : Int} {O A : Nat → Nat → Int} {i : Int} 
set_option maxRecDepth 100000 in
set_option maxHeartbeats 4000000 in
theorem lt_feed (iL : (Ln : Int) ≤ 100000) (i0 : 0 ≤ i) (i6 : i + 6 ≤ (Ln : Int)) (hC : kk_Clo l 200 en_M en_t_L_law (lx_c Ln xs) lx_R K) (hE : lw_E tl a b O A) (kn : ∀ tl a b O A, lw_E tl a b O A → K 1221 (lx_L i) [] (cx_LW O A)) : K 208 (lx_L i) [] (cx_LW O A) := by
  obtain ⟨Bc, Bm, hI, hA⟩ := hE
  repeat' first | refine hC.gw [239, 1221] _ rfl rfl ?_ | refine And.intro ?_ ?_ | exact True.intro | refine hC.iadd [239, 1221] rfl rfl (by first | omega | (simp only [Int.reduceToNat] at *; omega)) ?_ | refine hC.isub [239, 1221] rfl rfl (by first | omega | (simp only [Int.reduceToNat] at *; omega)) ?_ | refine hC.imul [239, 1221] rfl rfl (by first | omega | (simp only [Int.reduceToNat] at *; omega)) ?_ | refine hC.iinc [239, 1221] rfl rfl rfl rfl (by first | omega | (simp only [Int.reduceToNat] at *; omega)) ?_ | refine hC.pfw (W := cx_LW) [239, 1221] rfl rfl rfl rfl rfl rfl ?_ ?_ | refine hC.iaw (W := cx_LW) [239, 1221] rfl rfl rfl rfl ?_ ?_ | refine hC.law (W := cx_LW) [239, 1221] rfl rfl rfl rfl ?_ ?_ | refine hC.cpw (W := cx_LW) [239, 1221] rfl rfl rfl rfl rfl rfl ?_ | refine hC.cpl (W := cx_LW) [239, 1221] rfl rfl rfl rfl rfl rfl ?_ | refine hC.go [239, 1221] _ rfl rfl ?_ | (intro h; first | exact (h rfl).elim | (exfalso; cases h; done) | (dsimp only [kk_cP, kk_cN] at h) | skip)
  all_goals first | omega | skip
  refine lw_x hC (cr_feed l _ _ _ _ _ _ hI.cls _ _ _ _ _) (fun rs w' ⟨O', A', t', f', h1, h2⟩ => ⟨O', A', h1, (⟨t', f', h2⟩ : ∃ t' f', ci_J (Bc.1, mm_up Bc.2 2 f') t' a b O' A' ∧ ((940 < tl + 20 ∧ t' = tl ∧ rs = [(0, -1)] ∧ f' = Bc.2 2) ∨ (tl + 20 ≤ 940 ∧ t' = tl + 20 ∧ rs = [(0, tl + 20)] ∧ f' = fb5 (Bc.2 2) tl (xs (i + 1).toNat) (xs (i + 2).toNat) (xs (i + 3).toNat) (xs (i + 4).toNat) (xs (i + 5).toNat))))⟩) rfl rfl rfl rfl rfl rfl (Nat.le_refl _) ?_
  rintro rs O' A' ⟨t', f', hJ, hrs⟩ O1 A1 e1 e2
  have hI1 := hI.nx hJ e1 e2
  have hx : ∃ x, rs = [(0, x)] := by rcases hrs with ⟨-, -, h, -⟩ | ⟨-, -, h, -⟩ <;> exact ⟨_, h⟩
  obtain ⟨x, rfl⟩ := hx
  have ht : (940 < tl + 20 ∧ t' = tl ∧ f' = Bc.2 2) ∨ (tl + 20 ≤ 940 ∧ t' = tl + 20 ∧ f' = fb5 (Bc.2 2) tl (xs (i + 1).toNat) (xs (i + 2).toNat) (xs (i + 3).toNat) (xs (i + 4).toNat) (xs (i + 5).toNat)) := by
    rcases hrs with ⟨h1, h2, -, h3⟩ | ⟨h1, h2, -, h3⟩
    · exact Or.inl ⟨h1, h2, h3⟩
    · exact Or.inr ⟨h1, h2, h3⟩
  clear hrs hJ e1 e2 hI
  repeat' first | refine hC.gw [274, 1221] _ rfl rfl ?_ | refine And.intro ?_ ?_ | exact True.intro | refine hC.iadd [274, 1221] rfl rfl (by first | omega | (simp only [Int.reduceToNat] at *; omega)) ?_ | refine hC.isub [274, 1221] rfl rfl (by first | omega | (simp only [Int.reduceToNat] at *; omega)) ?_ | refine hC.imul [274, 1221] rfl rfl (by first | omega | (simp only [Int.reduceToNat] at *; omega)) ?_ | refine hC.iinc [274, 1221] rfl rfl rfl rfl (by first | omega | (simp only [Int.reduceToNat] at *; omega)) ?_ | refine hC.pfw (W := cx_LW) [274, 1221] rfl rfl rfl rfl rfl rfl ?_ ?_ | refine hC.iaw (W := cx_LW) [274, 1221] rfl rfl rfl rfl ?_ ?_ | refine hC.law (W := cx_LW) [274, 1221] rfl rfl rfl rfl ?_ ?_ | refine hC.cpw (W := cx_LW) [274, 1221] rfl rfl rfl rfl rfl rfl ?_ | refine hC.cpl (W := cx_LW) [274, 1221] rfl rfl rfl rfl rfl rfl ?_ | refine hC.go [274, 1221] _ rfl rfl ?_ | (intro h; first | exact (h rfl).elim | (exfalso; cases h; done) | (dsimp only [kk_cP, kk_cN] at h) | skip)
  all_goals first | omega | skip
  refine lw_m (Φ := fun rs F' A' => ∃ f1, mm_I (mm_up Bm 1 f1) F' A' ∧ A' 10 = cc_in pW_M A1 10 ∧ ((O1 168 2 ≤ 920 ∧ F' 2 = O1 168 2 + 20 ∧ rs = [(0, O1 168 2 + 20)] ∧ f1 = fb5 (cc_in pW_M A1 1) (O1 168 2) (xs (i + 1).toNat) (xs (i + 2).toNat) (xs (i + 3).toNat) (xs (i + 4).toNat) (xs (i + 5).toNat)) ∨ (920 < O1 168 2 ∧ F' 2 = O1 168 2 ∧ rs = [(0, -1)] ∧ f1 = cc_in pW_M A1 1))) hC (mm_feed l _ _ _ _ _ _ _ _ hI1.2.1) (fun rs w' ⟨F', f1, h1, h2, h3⟩ => ⟨F', _, h1, f1, h2, rfl, h3⟩) rfl rfl rfl rfl rfl rfl (Nat.le_refl _) ?_
  rintro rs F' A' ⟨f1, h3, h5, hrs⟩ O2 A2 e1 e2 e3
  have hI2 := hI1.nm h3 e1 e2 e3
  have eT : O1 168 2 = tl := hI1.2.2.1
  have eF : cc_in pW_M A1 1 = Bm 1 := hI1.2.1.fr.2.2.1
  have hAe : al (Bc.1, mm_up Bc.2 2 f') (mm_up Bm 1 f1) t' a b := by
    have h940 := hA.1.1
    rw [eT, eF] at hrs
    rcases ht with ⟨q1, q2, q3⟩ | ⟨q1, q2, q3⟩
    · rcases hrs with ⟨g1, -⟩ | ⟨g1, g2, -, g3⟩
      · omega
      · rw [q2, q3, g3]
        exact hA.tape h940 hA.1.2.1
    · rcases hrs with ⟨g1, g2, -, g3⟩ | ⟨g1, -⟩
      · rw [q2, q3, g3]
        exact hA.tape (by omega) (fb5_eq h940.1 hA.1.2.1)
      · omega
  rw [h5, show cc_in pW_M A1 10 0 = a from hI1.2.2.2.1, show cc_in pW_M A1 10 1 = b from hI1.2.2.2.2, show F' 2 = t' by rcases hrs with ⟨h1, h2, -⟩ | ⟨h1, h2, -⟩ <;> omega] at hI2
  have hx : ∃ x, rs = [(0, x)] := by rcases hrs with ⟨-, -, h, -⟩ | ⟨-, -, h, -⟩ <;> exact ⟨_, h⟩
  obtain ⟨y, rfl⟩ := hx
  clear hrs hI1 e1 e2 e3
  have hI := hI2
  repeat' first | refine hC.gw [1221] _ rfl rfl ?_ | refine And.intro ?_ ?_ | exact True.intro | refine hC.iadd [1221] rfl rfl (by first | omega | (simp only [Int.reduceToNat] at *; omega)) ?_ | refine hC.isub [1221] rfl rfl (by first | omega | (simp only [Int.reduceToNat] at *; omega)) ?_ | refine hC.imul [1221] rfl rfl (by first | omega | (simp only [Int.reduceToNat] at *; omega)) ?_ | refine hC.iinc [1221] rfl rfl rfl rfl (by first | omega | (simp only [Int.reduceToNat] at *; omega)) ?_ | refine hC.pfw (W := cx_LW) [1221] rfl rfl rfl rfl rfl rfl ?_ ?_ | refine hC.iaw (W := cx_LW) [1221] rfl rfl rfl rfl ?_ ?_ | refine hC.law (W := cx_LW) [1221] rfl rfl rfl rfl ?_ ?_ | refine hC.cpw (W := cx_LW) [1221] rfl rfl rfl rfl rfl rfl ?_ | refine hC.cpl (W := cx_LW) [1221] rfl rfl rfl rfl rfl rfl ?_ | refine hC.go [1221] _ rfl rfl ?_ | (intro h; first | exact (h rfl).elim | (exfalso; cases h; done) | (dsimp only [kk_cP, kk_cN] at h) | skip)
  all_goals first | omega | exact hC.sub (lx_L i) ⟨rfl, rfl, rfl, rfl, rfl, trivial⟩ (kn _ _ _ _ _ ⟨_, _, hI, hAe⟩)
set_option maxRecDepth 100000 in
set_option maxHeartbeats 4000000 in
theorem lt_end (iL : (Ln : Int) ≤ 100000) (i0 : 0 ≤ i) (i6 : i + 6 ≤ (Ln : Int)) (hC : kk_Clo l 200 en_M en_t_L_law (lx_c Ln xs) lx_R K) (hE : lw_E tl a b O A) (kn : ∀ tl a b O A, lw_E tl a b O A → K 1221 (lx_L i) [] (cx_LW O A)) : K 281 (lx_L i) [] (cx_LW O A) := by
  obtain ⟨Bc, Bm, hI, hA⟩ := hE
  repeat' first | refine hC.gw [288, 1221] _ rfl rfl ?_ | refine And.intro ?_ ?_ | exact True.intro | refine hC.iadd [288, 1221] rfl rfl (by first | omega | (simp only [Int.reduceToNat] at *; omega)) ?_ | refine hC.isub [288, 1221] rfl rfl (by first | omega | (simp only [Int.reduceToNat] at *; omega)) ?_ | refine hC.imul [288, 1221] rfl rfl (by first | omega | (simp only [Int.reduceToNat] at *; omega)) ?_ | refine hC.iinc [288, 1221] rfl rfl rfl rfl (by first | omega | (simp only [Int.reduceToNat] at *; omega)) ?_ | refine hC.pfw (W := cx_LW) [288, 1221] rfl rfl rfl rfl rfl rfl ?_ ?_ | refine hC.iaw (W := cx_LW) [288, 1221] rfl rfl rfl rfl ?_ ?_ | refine hC.law (W := cx_LW) [288, 1221] rfl rfl rfl rfl ?_ ?_ | refine hC.cpw (W := cx_LW) [288, 1221] rfl rfl rfl rfl rfl rfl ?_ | refine hC.cpl (W := cx_LW) [288, 1221] rfl rfl rfl rfl rfl rfl ?_ | refine hC.go [288, 1221] _ rfl rfl ?_ | (intro h; first | exact (h rfl).elim | (exfalso; cases h; done) | (dsimp only [kk_cP, kk_cN] at h) | skip)
  all_goals first | omega | skip
  refine lw_x (Φ := fun rs O' A' => ∃ t', ci_J Bc t' a b O' A' ∧ (((xs (i + 1).toNat < 0 ∨ tl < xs (i + 1).toNat) ∧ t' = tl ∧ rs = [(0, 0)]) ∨ (0 ≤ xs (i + 1).toNat ∧ xs (i + 1).toNat ≤ tl ∧ t' = xs (i + 1).toNat ∧ rs = [(0, 1)]))) hC (cr_end l _ _ _ _ _ _ hI.cls _) (fun rs w' ⟨O', A', t', h1, h2⟩ => ⟨O', A', h1, t', h2⟩) rfl rfl rfl rfl rfl rfl (Nat.le_refl _) ?_
  rintro rs O' A' ⟨t', hJ, hrs⟩ O1 A1 e1 e2
  have hI1 := hI.nx hJ e1 e2
  have hx : ∃ x, rs = [(0, x)] := by rcases hrs with ⟨-, -, h⟩ | ⟨-, -, -, h⟩ <;> exact ⟨_, h⟩
  obtain ⟨x, rfl⟩ := hx
  generalize hv : xs (i + 1).toNat = v at hrs
  have ht : ((v < 0 ∨ tl < v) ∧ t' = tl) ∨ (0 ≤ v ∧ v ≤ tl ∧ t' = v) := by
    rcases hrs with ⟨h1, h2, -⟩ | ⟨h0, h1, h2, -⟩
    · exact Or.inl ⟨h1, h2⟩
    · exact Or.inr ⟨h0, h1, h2⟩
  have hAe : al Bc Bm t' a b := by
    rcases ht with ht | ht
    · exact hA.le (Or.inl (by omega))
    · exact hA.end (by omega) (by omega)
  clear hrs hJ e1 e2 hI
  repeat' first | refine hC.gw [299, 1221] _ rfl rfl ?_ | refine And.intro ?_ ?_ | exact True.intro | refine hC.iadd [299, 1221] rfl rfl (by first | omega | (simp only [Int.reduceToNat] at *; omega)) ?_ | refine hC.isub [299, 1221] rfl rfl (by first | omega | (simp only [Int.reduceToNat] at *; omega)) ?_ | refine hC.imul [299, 1221] rfl rfl (by first | omega | (simp only [Int.reduceToNat] at *; omega)) ?_ | refine hC.iinc [299, 1221] rfl rfl rfl rfl (by first | omega | (simp only [Int.reduceToNat] at *; omega)) ?_ | refine hC.pfw (W := cx_LW) [299, 1221] rfl rfl rfl rfl rfl rfl ?_ ?_ | refine hC.iaw (W := cx_LW) [299, 1221] rfl rfl rfl rfl ?_ ?_ | refine hC.law (W := cx_LW) [299, 1221] rfl rfl rfl rfl ?_ ?_ | refine hC.cpw (W := cx_LW) [299, 1221] rfl rfl rfl rfl rfl rfl ?_ | refine hC.cpl (W := cx_LW) [299, 1221] rfl rfl rfl rfl rfl rfl ?_ | refine hC.go [299, 1221] _ rfl rfl ?_ | (intro h; first | exact (h rfl).elim | (exfalso; cases h; done) | (dsimp only [kk_cP, kk_cN] at h) | skip)
  all_goals first | omega | skip
  refine lw_m (Φ := fun rs F' A' => mm_I Bm F' A' ∧ A' 10 = cc_in pW_M A1 10 ∧ ((0 ≤ v ∧ v ≤ O1 168 2 ∧ F' 2 = v) ∨ (¬ (0 ≤ v ∧ v ≤ O1 168 2) ∧ F' 2 = O1 168 2)) ∧ ∃ y, rs = [(0, y)]) hC (mm_end l _ _ _ _) (fun rs w' h => ?_) rfl rfl rfl rfl rfl rfl (Nat.le_refl _) ?_
  · rw [hv] at h
    have hm := hI1.2.1
    rcases h with ⟨h1, h2, rfl, rfl⟩ | ⟨h1, rfl, rfl⟩
    · exact ⟨_, _, rfl, ⟨(show 0 ≤ v ∧ v ≤ 940 from ⟨h1, Int.le_trans h2 hm.1.2⟩), hm.2⟩, rfl, Or.inl ⟨h1, h2, rfl⟩, _, rfl⟩
    · exact ⟨_, _, rfl, ⟨hm.1, hm.2⟩, rfl, Or.inr ⟨h1, rfl⟩, _, rfl⟩
  rintro rs F' A' ⟨h3, h5, hf, y, rfl⟩ O2 A2 e1 e2 e3
  have hI2 := hI1.nm h3 e1 e2 e3
  have eT : O1 168 2 = tl := hI1.2.2.1
  rw [h5, show cc_in pW_M A1 10 0 = a from hI1.2.2.2.1, show cc_in pW_M A1 10 1 = b from hI1.2.2.2.2, show F' 2 = t' by rcases hf with ⟨h1, h2, h6⟩ | ⟨h1, h2⟩ <;> omega] at hI2
  clear hf hI1 e1 e2 e3
  have hI := hI2
  repeat' first | refine hC.gw [1221] _ rfl rfl ?_ | refine And.intro ?_ ?_ | exact True.intro | refine hC.iadd [1221] rfl rfl (by first | omega | (simp only [Int.reduceToNat] at *; omega)) ?_ | refine hC.isub [1221] rfl rfl (by first | omega | (simp only [Int.reduceToNat] at *; omega)) ?_ | refine hC.imul [1221] rfl rfl (by first | omega | (simp only [Int.reduceToNat] at *; omega)) ?_ | refine hC.iinc [1221] rfl rfl rfl rfl (by first | omega | (simp only [Int.reduceToNat] at *; omega)) ?_ | refine hC.pfw (W := cx_LW) [1221] rfl rfl rfl rfl rfl rfl ?_ ?_ | refine hC.iaw (W := cx_LW) [1221] rfl rfl rfl rfl ?_ ?_ | refine hC.law (W := cx_LW) [1221] rfl rfl rfl rfl ?_ ?_ | refine hC.cpw (W := cx_LW) [1221] rfl rfl rfl rfl rfl rfl ?_ | refine hC.cpl (W := cx_LW) [1221] rfl rfl rfl rfl rfl rfl ?_ | refine hC.go [1221] _ rfl rfl ?_ | (intro h; first | exact (h rfl).elim | (exfalso; cases h; done) | (dsimp only [kk_cP, kk_cN] at h) | skip)
  all_goals first | omega | exact hC.sub (lx_L i) ⟨rfl, rfl, rfl, rfl, rfl, trivial⟩ (kn _ _ _ _ _ ⟨_, _, hI, (by first | exact hA.le (Or.inl rfl) | exact hA.le (Or.inr rfl) | assumption)⟩)
def cr_G (Bc : ci_B) (tl k0 k1 : Int) (rs : List en_V) (O' A' : Nat → Nat → Int) : Prop := ∃ B' o0 A0, ci_J B' 0 k0 k1 O' A' ∧ hz0 o0 A0 ∧ ((∃ e, sp_lines (tk_ob tl 900 (fun i => tt_v 940 tl (Bc.2 2) i) (Bc.2 4)) (tk_nx tl 900 (fun i => tt_v 940 tl (Bc.2 2) i) (Bc.2 4)) 941 0 (tk_sk (fun i => tt_v 940 tl (Bc.2 2) i) 940 0) o0 A0 = .error e ∧ rs = [(0, kk_i2 1 (-1) e.2)] ∧ O' 0 15 = e.1 ∧ B' = cu Bc 15 e.1) ∨ (∃ s, sp_lines (tk_ob tl 900 (fun i => tt_v 940 tl (Bc.2 2) i) (Bc.2 4)) (tk_nx tl 900 (fun i => tt_v 940 tl (Bc.2 2) i) (Bc.2 4)) 941 0 (tk_sk (fun i => tt_v 940 tl (Bc.2 2) i) 940 0) o0 A0 = .ok s ∧ rs = [(0, s.1)] ∧ O' 0 15 = 0 ∧ (B'.2 2 = Bc.2 2 ∧ B'.2 4 = Bc.2 4 ∧ hcp 103 B' 103 Bc ∧ hcp 124 B' 124 Bc ∧ B'.1 0 16 = Bc.1 0 16 ∧ B'.1 0 17 = Bc.1 0 17 ∧ B'.1 0 15 = 0) ∧ (B'.1 5 6 = s.2.1 6 ∧ B'.1 5 7 = s.2.1 7) ∧ B'.2 6 = s.2.2 1 ∧ B'.2 7 = s.2.2 2 ∧ B'.2 8 = s.2.2 3 ∧ B'.2 9 = s.2.2 4 ∧ B'.2 10 = s.2.2 5 ∧ B'.2 11 = s.2.2 6))
set_option maxRecDepth 100000 in
set_option maxHeartbeats 4000000 in
theorem lt_house (iL : (Ln : Int) ≤ 100000) (i0 : 0 ≤ i) (i6 : i + 6 ≤ (Ln : Int)) (hC : kk_Clo l 200 en_M en_t_L_law (lx_c Ln xs) lx_R K) (hE : lw_E tl a b O A) (kn : ∀ tl a b O A, lw_E tl a b O A → K 1221 (lx_L i) [] (cx_LW O A)) : K 306 (lx_L i) [] (cx_LW O A) := by
  obtain ⟨Bc, Bm, hI, hA⟩ := hE
  repeat' first | refine hC.gw [1221] _ rfl rfl ?_ | refine And.intro ?_ ?_ | exact True.intro | refine hC.iadd [1221] rfl rfl (by first | omega | (simp only [Int.reduceToNat] at *; omega)) ?_ | refine hC.isub [1221] rfl rfl (by first | omega | (simp only [Int.reduceToNat] at *; omega)) ?_ | refine hC.imul [1221] rfl rfl (by first | omega | (simp only [Int.reduceToNat] at *; omega)) ?_ | refine hC.iinc [1221] rfl rfl rfl rfl (by first | omega | (simp only [Int.reduceToNat] at *; omega)) ?_ | refine hC.pfw (W := cx_LW) [1221] rfl rfl rfl rfl rfl rfl ?_ ?_ | refine hC.iaw (W := cx_LW) [1221] rfl rfl rfl rfl ?_ ?_ | refine hC.law (W := cx_LW) [1221] rfl rfl rfl rfl ?_ ?_ | refine hC.cpw (W := cx_LW) [1221] rfl rfl rfl rfl rfl rfl ?_ | refine hC.cpl (W := cx_LW) [1221] rfl rfl rfl rfl rfl rfl ?_ | refine hC.go [1221] _ rfl rfl ?_ | (intro h; first | exact (h rfl).elim | (exfalso; cases h; done) | (dsimp only [kk_cP, kk_cN] at h) | skip)
  refine lw_x (Φ := cr_G Bc tl a b) hC (cr_house l _ _ _ _ _ _ hI.cls) (fun rs w' ⟨O', A', B', o0, A0, h1, h2⟩ => ⟨O', A', h1, B', o0, A0, h2⟩) rfl rfl rfl rfl rfl rfl (Nat.le_refl _) ?_
  rintro rs O' A' ⟨B', o0, A0, hJ, hz, hrs⟩ O1 A1 e1 e2
  have hI1 := hI.nx hJ e1 e2
  have hx : ∃ x, rs = [(0, x)] ∧ ((∃ e, sp_lines (tk_ob tl 900 (fun i => tt_v 940 tl (Bc.2 2) i) (Bc.2 4)) (tk_nx tl 900 (fun i => tt_v 940 tl (Bc.2 2) i) (Bc.2 4)) 941 0 (tk_sk (fun i => tt_v 940 tl (Bc.2 2) i) 940 0) o0 A0 = .error e ∧ x = kk_i2 1 (-1) e.2) ∨ (∃ s, sp_lines (tk_ob tl 900 (fun i => tt_v 940 tl (Bc.2 2) i) (Bc.2 4)) (tk_nx tl 900 (fun i => tt_v 940 tl (Bc.2 2) i) (Bc.2 4)) 941 0 (tk_sk (fun i => tt_v 940 tl (Bc.2 2) i) 940 0) o0 A0 = .ok s ∧ x = s.1)) := by
    rcases hrs with ⟨e, es, h, -⟩ | ⟨s, es, h, -⟩
    · exact ⟨_, h, Or.inl ⟨e, es, rfl⟩⟩
    · exact ⟨_, h, Or.inr ⟨s, es, rfl⟩⟩
  obtain ⟨x, rfl, hx⟩ := hx
  clear hJ e1 e2 hI
  repeat' first | refine hC.gw [1221] _ rfl rfl ?_ | refine And.intro ?_ ?_ | exact True.intro | refine hC.iadd [1221] rfl rfl (by first | omega | (simp only [Int.reduceToNat] at *; omega)) ?_ | refine hC.isub [1221] rfl rfl (by first | omega | (simp only [Int.reduceToNat] at *; omega)) ?_ | refine hC.imul [1221] rfl rfl (by first | omega | (simp only [Int.reduceToNat] at *; omega)) ?_ | refine hC.iinc [1221] rfl rfl rfl rfl (by first | omega | (simp only [Int.reduceToNat] at *; omega)) ?_ | refine hC.pfw (W := cx_LW) [1221] rfl rfl rfl rfl rfl rfl ?_ ?_ | refine hC.iaw (W := cx_LW) [1221] rfl rfl rfl rfl ?_ ?_ | refine hC.law (W := cx_LW) [1221] rfl rfl rfl rfl ?_ ?_ | refine hC.cpw (W := cx_LW) [1221] rfl rfl rfl rfl rfl rfl ?_ | refine hC.cpl (W := cx_LW) [1221] rfl rfl rfl rfl rfl rfl ?_ | refine hC.go [1221] _ rfl rfl ?_ | (intro h; first | exact (h rfl).elim | (exfalso; cases h; done) | (dsimp only [kk_cP, kk_cN] at h) | skip)
  have eT : O1 168 2 = tl := hI1.2.2.1
  have fr := hI1.2.1.fr
  have ha : (fun i => tt_v 940 (O1 168 2) (cc_in pW_M A1 1) i) = (fun i => tt_v 940 tl (Bc.2 2) i) := by
    rw [eT, fr.2.2.1]
    exact hA.text
  refine lw_m (Φ := fun rs F' A' => ∃ y, rs = [(0, y)] ∧ x = y ∧ mm_I (fu (sb Bm A') (F' 10)) F' A' ∧ F' 2 = 0 ∧ A' 10 = cc_in pW_M A1 10 ∧ al B' (fu (sb Bm A') (F' 10)) 0 a b) hC (mz_house l _ (O1 168) (cc_in pW_M A1) hA.1.2.2.1 hI1.2.1.1.1 hI1.2.1.1.2 hI1.2.1.2.2.2.2.2.1 ha o0 A0 hz) (fun rs w' h => ?_) rfl rfl rfl rfl rfl rfl (Nat.le_refl _) ?_
  · obtain ⟨F', A', y, h1, h2, f2, f0, ffr, ar, n8, hq⟩ := h
    have ar4 : A' 4 = Bm 4 := (ar 4 (by decide) (by decide) (by decide) (by decide)).trans fr.2.2.2.1
    have ar9 : A' 9 = Bm 9 := (ar 9 (by decide) (by decide) (by decide) (by decide)).trans fr.2.2.2.2.1
    have ar1 : A' 1 = Bm 1 := (ar 1 (by decide) (by decide) (by decide) (by decide)).trans fr.2.2.1
    have ar10 : A' 10 = cc_in pW_M A1 10 := ar 10 (by decide) (by decide) (by decide) (by decide)
    rw [eT] at hq
    rcases hq with ⟨e, es, ey, q10, q2, q7, q23⟩ | ⟨s, es, ey, q10, qm, q7, qr, qv, qz, q23⟩
    · have exy : x = y := by
        rcases hx with ⟨e', es', hx⟩ | ⟨s', es', hx⟩
        · rw [es] at es'; cases es'; rw [hx, ey]
        · rw [es] at es'; cases es'
      refine ⟨F', A', h1, y, h2, exy, mm_houseI hI1.2.1 f2 ffr ar n8 (Or.inl ⟨q2, q7, q23⟩), f2, ar10, ?_⟩
      rcases hrs with ⟨e', es', -, -, rfl⟩ | ⟨s', es', -⟩
      · rw [es'] at es
        cases es
        rw [q10]
        refine al.flt ((hA.le (Or.inr rfl)).sameb ar1 (fun k hk => ?_) (fun k _ => ?_) ar4 ar9) _
        · rw [q2]; exact fr.1 k hk
        · rw [q7, fr.2.1]
      · rw [es'] at es; cases es
    · have exy : x = y := by
        rcases hx with ⟨e', es', hx⟩ | ⟨s', es', hx⟩
        · rw [es] at es'; cases es'
        · rw [es] at es'; cases es'; rw [hx, ey]
      refine ⟨F', A', h1, y, h2, exy, mm_houseI hI1.2.1 f2 ffr ar n8 (Or.inr ⟨q7, qr, qv, qz, q23⟩), f2, ar10, ?_⟩
      rcases hrs with ⟨e', es', -⟩ | ⟨s', es', -, -, ⟨k2, k4, k103, k124, ks⟩, ko, ka⟩
      · rw [es'] at es; cases es
      · rw [es'] at es
        cases es
        rw [q10]
        exact hA.hou k2 k4 k103 k124 ks ko ka (sp_lines_d es' hz.dr).2.2 qm ar1 ar4 ar9
  rintro rs F' A' ⟨y, rfl, hxy, h3, h4, h5, hAe⟩ O2 A2 e1 e2 e3
  have hI2 := hI1.nm h3 e1 e2 e3
  rw [h4, h5, show cc_in pW_M A1 10 0 = a from hI1.2.2.2.1, show cc_in pW_M A1 10 1 = b from hI1.2.2.2.2] at hI2
  clear hI1 hx hrs hz fr ha
  have hI := hI2
  clear hI2
  repeat' first | refine hC.gw [1221] _ rfl rfl ?_ | refine And.intro ?_ ?_ | exact True.intro | refine hC.iadd [1221] rfl rfl (by first | omega | (simp only [Int.reduceToNat] at *; omega)) ?_ | refine hC.isub [1221] rfl rfl (by first | omega | (simp only [Int.reduceToNat] at *; omega)) ?_ | refine hC.imul [1221] rfl rfl (by first | omega | (simp only [Int.reduceToNat] at *; omega)) ?_ | refine hC.iinc [1221] rfl rfl rfl rfl (by first | omega | (simp only [Int.reduceToNat] at *; omega)) ?_ | refine hC.pfw (W := cx_LW) [1221] rfl rfl rfl rfl rfl rfl ?_ ?_ | refine hC.iaw (W := cx_LW) [1221] rfl rfl rfl rfl ?_ ?_ | refine hC.law (W := cx_LW) [1221] rfl rfl rfl rfl ?_ ?_ | refine hC.cpw (W := cx_LW) [1221] rfl rfl rfl rfl rfl rfl ?_ | refine hC.cpl (W := cx_LW) [1221] rfl rfl rfl rfl rfl rfl ?_ | refine hC.go [1221] _ rfl rfl ?_ | (intro h; first | exact (h rfl).elim | (exfalso; cases h; done) | (dsimp only [kk_cP, kk_cN] at h) | skip)
  all_goals first | omega | exact absurd hxy (by assumption) | exact hC.sub (lx_L i) ⟨rfl, rfl, rfl, rfl, rfl, trivial⟩ (kn _ _ _ _ _ ⟨_, _, hI, hAe⟩)
set_option maxRecDepth 100000 in
set_option maxHeartbeats 4000000 in
theorem lt_fault (iL : (Ln : Int) ≤ 100000) (i0 : 0 ≤ i) (i6 : i + 6 ≤ (Ln : Int)) (hC : kk_Clo l 200 en_M en_t_L_law (lx_c Ln xs) lx_R K) (hE : lw_E tl a b O A) (kn : ∀ tl a b O A, lw_E tl a b O A → K 1221 (lx_L i) [] (cx_LW O A)) : K 319 (lx_L i) [] (cx_LW O A) := by
  obtain ⟨Bc, Bm, hI, hA⟩ := hE
  repeat' first | refine hC.gw [1221] _ rfl rfl ?_ | refine And.intro ?_ ?_ | exact True.intro | refine hC.iadd [1221] rfl rfl (by first | omega | (simp only [Int.reduceToNat] at *; omega)) ?_ | refine hC.isub [1221] rfl rfl (by first | omega | (simp only [Int.reduceToNat] at *; omega)) ?_ | refine hC.imul [1221] rfl rfl (by first | omega | (simp only [Int.reduceToNat] at *; omega)) ?_ | refine hC.iinc [1221] rfl rfl rfl rfl (by first | omega | (simp only [Int.reduceToNat] at *; omega)) ?_ | refine hC.pfw (W := cx_LW) [1221] rfl rfl rfl rfl rfl rfl ?_ ?_ | refine hC.iaw (W := cx_LW) [1221] rfl rfl rfl rfl ?_ ?_ | refine hC.law (W := cx_LW) [1221] rfl rfl rfl rfl ?_ ?_ | refine hC.cpw (W := cx_LW) [1221] rfl rfl rfl rfl rfl rfl ?_ | refine hC.cpl (W := cx_LW) [1221] rfl rfl rfl rfl rfl rfl ?_ | refine hC.go [1221] _ rfl rfl ?_ | (intro h; first | exact (h rfl).elim | (exfalso; cases h; done) | (dsimp only [kk_cP, kk_cN] at h) | skip) | (refine lw_x1 hC hI (by decide) (cr_fault l _ _ _ _ _ _ hI.cls) rfl rfl rfl rfl rfl rfl (Nat.le_refl _) ?_; intro x O A hI) | (refine lw_m2 hC hI (by decide) (mm_faultI l _ _ _ hI.2.1) rfl rfl rfl rfl rfl rfl (Nat.le_refl _) ?_; intro x O A hI)
  all_goals first | omega | exact hC.sub (lx_L i) ⟨rfl, rfl, rfl, rfl, rfl, trivial⟩ (kn _ _ _ _ _ ⟨_, _, hI, (by first | exact hA.le (Or.inl rfl) | exact hA.le (Or.inr rfl) | assumption)⟩)
set_option maxRecDepth 100000 in
set_option maxHeartbeats 4000000 in
theorem lt_chapter (hl0 : l.stackTraces = false) (iL : (Ln : Int) ≤ 100000) (i0 : 0 ≤ i) (i6 : i + 6 ≤ (Ln : Int)) (hC : kk_Clo l 200 en_M en_t_L_law (lx_c Ln xs) lx_R K) (hE : lw_E tl a b O A) (hC2 : kk_Clo l 200 en_M en_t_L_law (lx_c Ln xs) lx_R K2) (hW : ∀ {pc nx x a b k : Nat} {L : en_L} {st as r : List en_V} {w : List kk_C} {t' : en_T} {Φ : List en_V → List kk_C → Prop} {d' : Nat}, en_find (en_te en_t_L_law) pc = some (nx, .invokestatic x, a, b, k) → en_M[a]? = some t' → en_take b [] st = some (as, r) → k ≠ 7 ∧ k ≠ 1 ∧ k ≠ 2 → r.length ≤ 4 → d' + 1 ≤ 200 → kk_CtrW l d' t' as w Φ → (∀ rs w', Φ rs w' → K2 nx L (rs ++ r) w') → K pc L st w) (kn : ∀ tl a b O A, lw_E tl a b O A → K2 1221 (lx_L i) [] (cx_LW O A)) : K 332 (lx_L i) [] (cx_LW O A) := by
  obtain ⟨Bc, Bm, hI, hA⟩ := hE
  repeat' first | refine hC.gw [346] _ rfl rfl ?_ | refine And.intro ?_ ?_ | exact True.intro | refine hC.iadd [346] rfl rfl (by first | omega | (simp only [Int.reduceToNat] at *; omega)) ?_ | refine hC.isub [346] rfl rfl (by first | omega | (simp only [Int.reduceToNat] at *; omega)) ?_ | refine hC.imul [346] rfl rfl (by first | omega | (simp only [Int.reduceToNat] at *; omega)) ?_ | refine hC.iinc [346] rfl rfl rfl rfl (by first | omega | (simp only [Int.reduceToNat] at *; omega)) ?_ | refine hC.pfw (W := cx_LW) [346] rfl rfl rfl rfl rfl rfl ?_ ?_ | refine hC.iaw (W := cx_LW) [346] rfl rfl rfl rfl ?_ ?_ | refine hC.law (W := cx_LW) [346] rfl rfl rfl rfl ?_ ?_ | refine hC.cpw (W := cx_LW) [346] rfl rfl rfl rfl rfl rfl ?_ | refine hC.cpl (W := cx_LW) [346] rfl rfl rfl rfl rfl rfl ?_ | refine hC.go [346] _ rfl rfl ?_ | (intro h; first | exact (h rfl).elim | (exfalso; cases h; done) | (dsimp only [kk_cP, kk_cN] at h) | skip)
  all_goals first | omega | skip
  refine hW rfl rfl rfl (by decide) (by decide) (Nat.le_refl _) (lc_chapter hl0 _ _ _ hI) ?_
  rintro rs w' ⟨O', A', rfl, hI2, x, rfl⟩
  have hC := hC2
  clear hI
  have hI := hI2
  clear hI2
  repeat' first | refine hC.gw [1221] _ rfl rfl ?_ | refine And.intro ?_ ?_ | exact True.intro | refine hC.iadd [1221] rfl rfl (by first | omega | (simp only [Int.reduceToNat] at *; omega)) ?_ | refine hC.isub [1221] rfl rfl (by first | omega | (simp only [Int.reduceToNat] at *; omega)) ?_ | refine hC.imul [1221] rfl rfl (by first | omega | (simp only [Int.reduceToNat] at *; omega)) ?_ | refine hC.iinc [1221] rfl rfl rfl rfl (by first | omega | (simp only [Int.reduceToNat] at *; omega)) ?_ | refine hC.pfw (W := cx_LW) [1221] rfl rfl rfl rfl rfl rfl ?_ ?_ | refine hC.iaw (W := cx_LW) [1221] rfl rfl rfl rfl ?_ ?_ | refine hC.law (W := cx_LW) [1221] rfl rfl rfl rfl ?_ ?_ | refine hC.cpw (W := cx_LW) [1221] rfl rfl rfl rfl rfl rfl ?_ | refine hC.cpl (W := cx_LW) [1221] rfl rfl rfl rfl rfl rfl ?_ | refine hC.go [1221] _ rfl rfl ?_ | (intro h; first | exact (h rfl).elim | (exfalso; cases h; done) | (dsimp only [kk_cP, kk_cN] at h) | skip) | (refine lw_m2 hC hI (by decide) (mm_chapterI l _ _ _ _ _ hI.2.1) rfl rfl rfl rfl rfl rfl (Nat.le_refl _) ?_; intro x O A hI)
  all_goals first | omega | exact hC.sub (lx_L i) ⟨rfl, rfl, rfl, rfl, rfl, trivial⟩ (kn _ _ _ _ _ ⟨_, _, hI, (by first | exact hA.le (Or.inl rfl) | exact hA.le (Or.inr rfl) | assumption)⟩)
set_option maxRecDepth 100000 in
set_option maxHeartbeats 4000000 in
theorem lt_monk (hl0 : l.stackTraces = false) (iL : (Ln : Int) ≤ 100000) (i0 : 0 ≤ i) (i6 : i + 6 ≤ (Ln : Int)) (hC : kk_Clo l 200 en_M en_t_L_law (lx_c Ln xs) lx_R K) (hE : lw_E tl a b O A) (hC2 : kk_Clo l 200 en_M en_t_L_law (lx_c Ln xs) lx_R K2) (hW : ∀ {pc nx x a b k : Nat} {L : en_L} {st as r : List en_V} {w : List kk_C} {t' : en_T} {Φ : List en_V → List kk_C → Prop} {d' : Nat}, en_find (en_te en_t_L_law) pc = some (nx, .invokestatic x, a, b, k) → en_M[a]? = some t' → en_take b [] st = some (as, r) → k ≠ 7 ∧ k ≠ 1 ∧ k ≠ 2 → r.length ≤ 4 → d' + 1 ≤ 200 → kk_CtrW l d' t' as w Φ → (∀ rs w', Φ rs w' → K2 nx L (rs ++ r) w') → K pc L st w) (kn : ∀ tl a b O A, lw_E tl a b O A → K2 1221 (lx_L i) [] (cx_LW O A)) : K 372 (lx_L i) [] (cx_LW O A) := by
  obtain ⟨Bc, Bm, hI, hA⟩ := hE
  repeat' first | refine hC.gw [386] _ rfl rfl ?_ | refine And.intro ?_ ?_ | exact True.intro | refine hC.iadd [386] rfl rfl (by first | omega | (simp only [Int.reduceToNat] at *; omega)) ?_ | refine hC.isub [386] rfl rfl (by first | omega | (simp only [Int.reduceToNat] at *; omega)) ?_ | refine hC.imul [386] rfl rfl (by first | omega | (simp only [Int.reduceToNat] at *; omega)) ?_ | refine hC.iinc [386] rfl rfl rfl rfl (by first | omega | (simp only [Int.reduceToNat] at *; omega)) ?_ | refine hC.pfw (W := cx_LW) [386] rfl rfl rfl rfl rfl rfl ?_ ?_ | refine hC.iaw (W := cx_LW) [386] rfl rfl rfl rfl ?_ ?_ | refine hC.law (W := cx_LW) [386] rfl rfl rfl rfl ?_ ?_ | refine hC.cpw (W := cx_LW) [386] rfl rfl rfl rfl rfl rfl ?_ | refine hC.cpl (W := cx_LW) [386] rfl rfl rfl rfl rfl rfl ?_ | refine hC.go [386] _ rfl rfl ?_ | (intro h; first | exact (h rfl).elim | (exfalso; cases h; done) | (dsimp only [kk_cP, kk_cN] at h) | skip)
  all_goals first | omega | skip
  refine hW rfl rfl rfl (by decide) (by decide) (Nat.le_refl _) (lc_monk hl0 _ _ _ hI) ?_
  rintro rs w' ⟨O', A', rfl, hI2, x, rfl⟩
  have hC := hC2
  clear hI
  have hI := hI2
  clear hI2
  repeat' first | refine hC.gw [1221] _ rfl rfl ?_ | refine And.intro ?_ ?_ | exact True.intro | refine hC.iadd [1221] rfl rfl (by first | omega | (simp only [Int.reduceToNat] at *; omega)) ?_ | refine hC.isub [1221] rfl rfl (by first | omega | (simp only [Int.reduceToNat] at *; omega)) ?_ | refine hC.imul [1221] rfl rfl (by first | omega | (simp only [Int.reduceToNat] at *; omega)) ?_ | refine hC.iinc [1221] rfl rfl rfl rfl (by first | omega | (simp only [Int.reduceToNat] at *; omega)) ?_ | refine hC.pfw (W := cx_LW) [1221] rfl rfl rfl rfl rfl rfl ?_ ?_ | refine hC.iaw (W := cx_LW) [1221] rfl rfl rfl rfl ?_ ?_ | refine hC.law (W := cx_LW) [1221] rfl rfl rfl rfl ?_ ?_ | refine hC.cpw (W := cx_LW) [1221] rfl rfl rfl rfl rfl rfl ?_ | refine hC.cpl (W := cx_LW) [1221] rfl rfl rfl rfl rfl rfl ?_ | refine hC.go [1221] _ rfl rfl ?_ | (intro h; first | exact (h rfl).elim | (exfalso; cases h; done) | (dsimp only [kk_cP, kk_cN] at h) | skip) | (refine lw_m2 hC hI (by decide) (mm_monkI l _ _ _ _ _ hI.2.1) rfl rfl rfl rfl rfl rfl (Nat.le_refl _) ?_; intro x O A hI)
  all_goals first | omega | exact hC.sub (lx_L i) ⟨rfl, rfl, rfl, rfl, rfl, trivial⟩ (kn _ _ _ _ _ ⟨_, _, hI, (by first | exact hA.le (Or.inl rfl) | exact hA.le (Or.inr rfl) | assumption)⟩)
set_option maxRecDepth 100000 in
set_option maxHeartbeats 4000000 in
theorem lt_left (iL : (Ln : Int) ≤ 100000) (i0 : 0 ≤ i) (i6 : i + 6 ≤ (Ln : Int)) (hC : kk_Clo l 200 en_M en_t_L_law (lx_c Ln xs) lx_R K) (hE : lw_E tl a b O A) (kn : ∀ tl a b O A, lw_E tl a b O A → K 1221 (lx_L i) [] (cx_LW O A)) : K 412 (lx_L i) [] (cx_LW O A) := by
  obtain ⟨Bc, Bm, hI, hA⟩ := hE
  repeat' first | refine hC.gw [1221] _ rfl rfl ?_ | refine And.intro ?_ ?_ | exact True.intro | refine hC.iadd [1221] rfl rfl (by first | omega | (simp only [Int.reduceToNat] at *; omega)) ?_ | refine hC.isub [1221] rfl rfl (by first | omega | (simp only [Int.reduceToNat] at *; omega)) ?_ | refine hC.imul [1221] rfl rfl (by first | omega | (simp only [Int.reduceToNat] at *; omega)) ?_ | refine hC.iinc [1221] rfl rfl rfl rfl (by first | omega | (simp only [Int.reduceToNat] at *; omega)) ?_ | refine hC.pfw (W := cx_LW) [1221] rfl rfl rfl rfl rfl rfl ?_ ?_ | refine hC.iaw (W := cx_LW) [1221] rfl rfl rfl rfl ?_ ?_ | refine hC.law (W := cx_LW) [1221] rfl rfl rfl rfl ?_ ?_ | refine hC.cpw (W := cx_LW) [1221] rfl rfl rfl rfl rfl rfl ?_ | refine hC.cpl (W := cx_LW) [1221] rfl rfl rfl rfl rfl rfl ?_ | refine hC.go [1221] _ rfl rfl ?_ | (intro h; first | exact (h rfl).elim | (exfalso; cases h; done) | (dsimp only [kk_cP, kk_cN] at h) | skip) | (refine lw_x1 hC hI (by decide) (cr_left l _ _ _ _ _ _ hI.cls _ _) rfl rfl rfl rfl rfl rfl (Nat.le_refl _) ?_; intro x O A hI) | (refine lw_m2 hC hI (by decide) (mm_leftI l _ _ _ _ _ hI.2.1) rfl rfl rfl rfl rfl rfl (Nat.le_refl _) ?_; intro x O A hI)
  all_goals first | omega | exact hC.sub (lx_L i) ⟨rfl, rfl, rfl, rfl, rfl, trivial⟩ (kn _ _ _ _ _ ⟨_, _, hI, (by first | exact hA.le (Or.inl rfl) | exact hA.le (Or.inr rfl) | assumption)⟩)
set_option maxRecDepth 100000 in
set_option maxHeartbeats 4000000 in
theorem lt_now (iL : (Ln : Int) ≤ 100000) (i0 : 0 ≤ i) (i6 : i + 6 ≤ (Ln : Int)) (hC : kk_Clo l 200 en_M en_t_L_law (lx_c Ln xs) lx_R K) (hE : lw_E tl a b O A) (kn : ∀ tl a b O A, lw_E tl a b O A → K 1221 (lx_L i) [] (cx_LW O A)) : K 449 (lx_L i) [] (cx_LW O A) := by
  obtain ⟨Bc, Bm, hI, hA⟩ := hE
  repeat' first | refine hC.gw [1221] _ rfl rfl ?_ | refine And.intro ?_ ?_ | exact True.intro | refine hC.iadd [1221] rfl rfl (by first | omega | (simp only [Int.reduceToNat] at *; omega)) ?_ | refine hC.isub [1221] rfl rfl (by first | omega | (simp only [Int.reduceToNat] at *; omega)) ?_ | refine hC.imul [1221] rfl rfl (by first | omega | (simp only [Int.reduceToNat] at *; omega)) ?_ | refine hC.iinc [1221] rfl rfl rfl rfl (by first | omega | (simp only [Int.reduceToNat] at *; omega)) ?_ | refine hC.pfw (W := cx_LW) [1221] rfl rfl rfl rfl rfl rfl ?_ ?_ | refine hC.iaw (W := cx_LW) [1221] rfl rfl rfl rfl ?_ ?_ | refine hC.law (W := cx_LW) [1221] rfl rfl rfl rfl ?_ ?_ | refine hC.cpw (W := cx_LW) [1221] rfl rfl rfl rfl rfl rfl ?_ | refine hC.cpl (W := cx_LW) [1221] rfl rfl rfl rfl rfl rfl ?_ | refine hC.go [1221] _ rfl rfl ?_ | (intro h; first | exact (h rfl).elim | (exfalso; cases h; done) | (dsimp only [kk_cP, kk_cN] at h) | skip) | (refine lw_x1 hC hI (by decide) (cr_now l _ _ _ _ _ _ hI.cls _) rfl rfl rfl rfl rfl rfl (Nat.le_refl _) ?_; intro x O A hI) | (refine lw_m2 hC hI (by decide) (mm_nowI l _ _ _ _ hI.2.1) rfl rfl rfl rfl rfl rfl (Nat.le_refl _) ?_; intro x O A hI)
  all_goals first | omega | exact hC.sub (lx_L i) ⟨rfl, rfl, rfl, rfl, rfl, trivial⟩ (kn _ _ _ _ _ ⟨_, _, hI, (by first | exact hA.le (Or.inl rfl) | exact hA.le (Or.inr rfl) | assumption)⟩)
set_option maxRecDepth 100000 in
set_option maxHeartbeats 4000000 in
theorem lt_draw (iL : (Ln : Int) ≤ 100000) (i0 : 0 ≤ i) (i6 : i + 6 ≤ (Ln : Int)) (hC : kk_Clo l 200 en_M en_t_L_law (lx_c Ln xs) lx_R K) (hE : lw_E tl a b O A) (kn : ∀ tl a b O A, lw_E tl a b O A → K 1221 (lx_L i) [] (cx_LW O A)) : K 474 (lx_L i) [] (cx_LW O A) := by
  obtain ⟨Bc, Bm, hI, hA⟩ := hE
  repeat' first | refine hC.gw [1221] _ rfl rfl ?_ | refine And.intro ?_ ?_ | exact True.intro | refine hC.iadd [1221] rfl rfl (by first | omega | (simp only [Int.reduceToNat] at *; omega)) ?_ | refine hC.isub [1221] rfl rfl (by first | omega | (simp only [Int.reduceToNat] at *; omega)) ?_ | refine hC.imul [1221] rfl rfl (by first | omega | (simp only [Int.reduceToNat] at *; omega)) ?_ | refine hC.iinc [1221] rfl rfl rfl rfl (by first | omega | (simp only [Int.reduceToNat] at *; omega)) ?_ | refine hC.pfw (W := cx_LW) [1221] rfl rfl rfl rfl rfl rfl ?_ ?_ | refine hC.iaw (W := cx_LW) [1221] rfl rfl rfl rfl ?_ ?_ | refine hC.law (W := cx_LW) [1221] rfl rfl rfl rfl ?_ ?_ | refine hC.cpw (W := cx_LW) [1221] rfl rfl rfl rfl rfl rfl ?_ | refine hC.cpl (W := cx_LW) [1221] rfl rfl rfl rfl rfl rfl ?_ | refine hC.go [1221] _ rfl rfl ?_ | (intro h; first | exact (h rfl).elim | (exfalso; cases h; done) | (dsimp only [kk_cP, kk_cN] at h) | skip) | (refine lw_x1 hC hI (by decide) (cr_draw l _ _ _ _ _ _ hI.cls _) rfl rfl rfl rfl rfl rfl (Nat.le_refl _) ?_; intro x O A hI) | (refine lw_m2 hC hI (by decide) (mm_drawI l _ _ _ _ hI.2.1) rfl rfl rfl rfl rfl rfl (Nat.le_refl _) ?_; intro x O A hI)
  all_goals first | omega | exact hC.sub (lx_L i) ⟨rfl, rfl, rfl, rfl, rfl, trivial⟩ (kn _ _ _ _ _ ⟨_, _, hI, (by first | exact hA.le (Or.inl rfl) | exact hA.le (Or.inr rfl) | assumption)⟩)
set_option maxRecDepth 100000 in
set_option maxHeartbeats 4000000 in
theorem lt_fold (iL : (Ln : Int) ≤ 100000) (i0 : 0 ≤ i) (i6 : i + 6 ≤ (Ln : Int)) (hC : kk_Clo l 200 en_M en_t_L_law (lx_c Ln xs) lx_R K) (hE : lw_E tl a b O A) (kn : ∀ tl a b O A, lw_E tl a b O A → K 1221 (lx_L i) [] (cx_LW O A)) : K 499 (lx_L i) [] (cx_LW O A) := by
  obtain ⟨Bc, Bm, hI, hA⟩ := hE
  repeat' first | refine hC.gw [1221] _ rfl rfl ?_ | refine And.intro ?_ ?_ | exact True.intro | refine hC.iadd [1221] rfl rfl (by first | omega | (simp only [Int.reduceToNat] at *; omega)) ?_ | refine hC.isub [1221] rfl rfl (by first | omega | (simp only [Int.reduceToNat] at *; omega)) ?_ | refine hC.imul [1221] rfl rfl (by first | omega | (simp only [Int.reduceToNat] at *; omega)) ?_ | refine hC.iinc [1221] rfl rfl rfl rfl (by first | omega | (simp only [Int.reduceToNat] at *; omega)) ?_ | refine hC.pfw (W := cx_LW) [1221] rfl rfl rfl rfl rfl rfl ?_ ?_ | refine hC.iaw (W := cx_LW) [1221] rfl rfl rfl rfl ?_ ?_ | refine hC.law (W := cx_LW) [1221] rfl rfl rfl rfl ?_ ?_ | refine hC.cpw (W := cx_LW) [1221] rfl rfl rfl rfl rfl rfl ?_ | refine hC.cpl (W := cx_LW) [1221] rfl rfl rfl rfl rfl rfl ?_ | refine hC.go [1221] _ rfl rfl ?_ | (intro h; first | exact (h rfl).elim | (exfalso; cases h; done) | (dsimp only [kk_cP, kk_cN] at h) | skip) | (refine lw_x1 hC hI (by decide) (cr_fold l _ _ _ _ _ _ hI.cls _) rfl rfl rfl rfl rfl rfl (Nat.le_refl _) ?_; intro x O A hI) | (refine lw_m2 hC hI (by decide) (mm_foldI l _ _ _ _ hI.2.1) rfl rfl rfl rfl rfl rfl (Nat.le_refl _) ?_; intro x O A hI)
  all_goals first | omega | exact hC.sub (lx_L i) ⟨rfl, rfl, rfl, rfl, rfl, trivial⟩ (kn _ _ _ _ _ ⟨_, _, hI, (by first | exact hA.le (Or.inl rfl) | exact hA.le (Or.inr rfl) | assumption)⟩)
set_option maxRecDepth 100000 in
set_option maxHeartbeats 4000000 in
theorem lt_does (iL : (Ln : Int) ≤ 100000) (i0 : 0 ≤ i) (i6 : i + 6 ≤ (Ln : Int)) (hC : kk_Clo l 200 en_M en_t_L_law (lx_c Ln xs) lx_R K) (hE : lw_E tl a b O A) (kn : ∀ tl a b O A, lw_E tl a b O A → K 1221 (lx_L i) [] (cx_LW O A)) : K 524 (lx_L i) [] (cx_LW O A) := by
  obtain ⟨Bc, Bm, hI, hA⟩ := hE
  repeat' first | refine hC.gw [1221] _ rfl rfl ?_ | refine And.intro ?_ ?_ | exact True.intro | refine hC.iadd [1221] rfl rfl (by first | omega | (simp only [Int.reduceToNat] at *; omega)) ?_ | refine hC.isub [1221] rfl rfl (by first | omega | (simp only [Int.reduceToNat] at *; omega)) ?_ | refine hC.imul [1221] rfl rfl (by first | omega | (simp only [Int.reduceToNat] at *; omega)) ?_ | refine hC.iinc [1221] rfl rfl rfl rfl (by first | omega | (simp only [Int.reduceToNat] at *; omega)) ?_ | refine hC.pfw (W := cx_LW) [1221] rfl rfl rfl rfl rfl rfl ?_ ?_ | refine hC.iaw (W := cx_LW) [1221] rfl rfl rfl rfl ?_ ?_ | refine hC.law (W := cx_LW) [1221] rfl rfl rfl rfl ?_ ?_ | refine hC.cpw (W := cx_LW) [1221] rfl rfl rfl rfl rfl rfl ?_ | refine hC.cpl (W := cx_LW) [1221] rfl rfl rfl rfl rfl rfl ?_ | refine hC.go [1221] _ rfl rfl ?_ | (intro h; first | exact (h rfl).elim | (exfalso; cases h; done) | (dsimp only [kk_cP, kk_cN] at h) | skip) | (refine lw_x1 hC hI (by decide) (cr_does l _ _ _ _ _ _ hI.cls _ _) rfl rfl rfl rfl rfl rfl (Nat.le_refl _) ?_; intro x O A hI) | (refine lw_m2 hC hI (by decide) (mm_doesI l _ _ _ _ _ hI.2.1) rfl rfl rfl rfl rfl rfl (Nat.le_refl _) ?_; intro x O A hI)
  all_goals first | omega | exact hC.sub (lx_L i) ⟨rfl, rfl, rfl, rfl, rfl, trivial⟩ (kn _ _ _ _ _ ⟨_, _, hI, (by first | exact hA.le (Or.inl rfl) | exact hA.le (Or.inr rfl) | assumption)⟩)
set_option maxRecDepth 100000 in
set_option maxHeartbeats 4000000 in
theorem lt_night (iL : (Ln : Int) ≤ 100000) (i0 : 0 ≤ i) (i6 : i + 6 ≤ (Ln : Int)) (hC : kk_Clo l 200 en_M en_t_L_law (lx_c Ln xs) lx_R K) (hE : lw_E tl a b O A) (kn : ∀ tl a b O A, lw_E tl a b O A → K 1221 (lx_L i) [] (cx_LW O A)) : K 561 (lx_L i) [] (cx_LW O A) := by
  obtain ⟨Bc, Bm, hI, hA⟩ := hE
  repeat' first | refine hC.gw [1221] _ rfl rfl ?_ | refine And.intro ?_ ?_ | exact True.intro | refine hC.iadd [1221] rfl rfl (by first | omega | (simp only [Int.reduceToNat] at *; omega)) ?_ | refine hC.isub [1221] rfl rfl (by first | omega | (simp only [Int.reduceToNat] at *; omega)) ?_ | refine hC.imul [1221] rfl rfl (by first | omega | (simp only [Int.reduceToNat] at *; omega)) ?_ | refine hC.iinc [1221] rfl rfl rfl rfl (by first | omega | (simp only [Int.reduceToNat] at *; omega)) ?_ | refine hC.pfw (W := cx_LW) [1221] rfl rfl rfl rfl rfl rfl ?_ ?_ | refine hC.iaw (W := cx_LW) [1221] rfl rfl rfl rfl ?_ ?_ | refine hC.law (W := cx_LW) [1221] rfl rfl rfl rfl ?_ ?_ | refine hC.cpw (W := cx_LW) [1221] rfl rfl rfl rfl rfl rfl ?_ | refine hC.cpl (W := cx_LW) [1221] rfl rfl rfl rfl rfl rfl ?_ | refine hC.go [1221] _ rfl rfl ?_ | (intro h; first | exact (h rfl).elim | (exfalso; cases h; done) | (dsimp only [kk_cP, kk_cN] at h) | skip) | (refine lw_x1 hC hI (by decide) (cr_night l _ _ _ _ _ _ hI.cls) rfl rfl rfl rfl rfl rfl (Nat.le_refl _) ?_; intro x O A hI) | (refine lw_m2 hC hI (by decide) (mm_nightI l _ _ _ hI.2.1) rfl rfl rfl rfl rfl rfl (Nat.le_refl _) ?_; intro x O A hI)
  all_goals first | omega | exact hC.sub (lx_L i) ⟨rfl, rfl, rfl, rfl, rfl, trivial⟩ (kn _ _ _ _ _ ⟨_, _, hI, (by first | exact hA.le (Or.inl rfl) | exact hA.le (Or.inr rfl) | assumption)⟩)
set_option maxRecDepth 100000 in
set_option maxHeartbeats 4000000 in
theorem lt_days (iL : (Ln : Int) ≤ 100000) (i0 : 0 ≤ i) (i6 : i + 6 ≤ (Ln : Int)) (hC : kk_Clo l 200 en_M en_t_L_law (lx_c Ln xs) lx_R K) (hE : lw_E tl a b O A) (kn : ∀ tl a b O A, lw_E tl a b O A → K 1221 (lx_L i) [] (cx_LW O A)) : K 574 (lx_L i) [] (cx_LW O A) := by
  obtain ⟨Bc, Bm, hI, hA⟩ := hE
  repeat' first | refine hC.gw [1221] _ rfl rfl ?_ | refine And.intro ?_ ?_ | exact True.intro | refine hC.iadd [1221] rfl rfl (by first | omega | (simp only [Int.reduceToNat] at *; omega)) ?_ | refine hC.isub [1221] rfl rfl (by first | omega | (simp only [Int.reduceToNat] at *; omega)) ?_ | refine hC.imul [1221] rfl rfl (by first | omega | (simp only [Int.reduceToNat] at *; omega)) ?_ | refine hC.iinc [1221] rfl rfl rfl rfl (by first | omega | (simp only [Int.reduceToNat] at *; omega)) ?_ | refine hC.pfw (W := cx_LW) [1221] rfl rfl rfl rfl rfl rfl ?_ ?_ | refine hC.iaw (W := cx_LW) [1221] rfl rfl rfl rfl ?_ ?_ | refine hC.law (W := cx_LW) [1221] rfl rfl rfl rfl ?_ ?_ | refine hC.cpw (W := cx_LW) [1221] rfl rfl rfl rfl rfl rfl ?_ | refine hC.cpl (W := cx_LW) [1221] rfl rfl rfl rfl rfl rfl ?_ | refine hC.go [1221] _ rfl rfl ?_ | (intro h; first | exact (h rfl).elim | (exfalso; cases h; done) | (dsimp only [kk_cP, kk_cN] at h) | skip) | (refine lw_x1 hC hI (by decide) (cr_days l _ _ _ _ _ _ hI.cls _ _) rfl rfl rfl rfl rfl rfl (Nat.le_refl _) ?_; intro x O A hI) | (refine lw_m2 hC hI (by decide) (mm_daysI l _ _ _ _ _ hI.2.1) rfl rfl rfl rfl rfl rfl (Nat.le_refl _) ?_; intro x O A hI)
  all_goals first | omega | exact hC.sub (lx_L i) ⟨rfl, rfl, rfl, rfl, rfl, trivial⟩ (kn _ _ _ _ _ ⟨_, _, hI, (by first | exact hA.le (Or.inl rfl) | exact hA.le (Or.inr rfl) | assumption)⟩)
set_option maxRecDepth 100000 in
set_option maxHeartbeats 4000000 in
theorem lt_undo (iL : (Ln : Int) ≤ 100000) (i0 : 0 ≤ i) (i6 : i + 6 ≤ (Ln : Int)) (hC : kk_Clo l 200 en_M en_t_L_law (lx_c Ln xs) lx_R K) (hE : lw_E tl a b O A) (kn : ∀ tl a b O A, lw_E tl a b O A → K 1221 (lx_L i) [] (cx_LW O A)) : K 611 (lx_L i) [] (cx_LW O A) := by
  obtain ⟨Bc, Bm, hI, hA⟩ := hE
  repeat' first | refine hC.gw [1221] _ rfl rfl ?_ | refine And.intro ?_ ?_ | exact True.intro | refine hC.iadd [1221] rfl rfl (by first | omega | (simp only [Int.reduceToNat] at *; omega)) ?_ | refine hC.isub [1221] rfl rfl (by first | omega | (simp only [Int.reduceToNat] at *; omega)) ?_ | refine hC.imul [1221] rfl rfl (by first | omega | (simp only [Int.reduceToNat] at *; omega)) ?_ | refine hC.iinc [1221] rfl rfl rfl rfl (by first | omega | (simp only [Int.reduceToNat] at *; omega)) ?_ | refine hC.pfw (W := cx_LW) [1221] rfl rfl rfl rfl rfl rfl ?_ ?_ | refine hC.iaw (W := cx_LW) [1221] rfl rfl rfl rfl ?_ ?_ | refine hC.law (W := cx_LW) [1221] rfl rfl rfl rfl ?_ ?_ | refine hC.cpw (W := cx_LW) [1221] rfl rfl rfl rfl rfl rfl ?_ | refine hC.cpl (W := cx_LW) [1221] rfl rfl rfl rfl rfl rfl ?_ | refine hC.go [1221] _ rfl rfl ?_ | (intro h; first | exact (h rfl).elim | (exfalso; cases h; done) | (dsimp only [kk_cP, kk_cN] at h) | skip) | (refine lw_x1 hC hI (by decide) (cr_undo l _ _ _ _ _ _ hI.cls) rfl rfl rfl rfl rfl rfl (Nat.le_refl _) ?_; intro x O A hI) | (refine lw_m2 hC hI (by decide) (mm_undoI l _ _ _ hI.2.1) rfl rfl rfl rfl rfl rfl (Nat.le_refl _) ?_; intro x O A hI)
  all_goals first | omega | exact hC.sub (lx_L i) ⟨rfl, rfl, rfl, rfl, rfl, trivial⟩ (kn _ _ _ _ _ ⟨_, _, hI, (by first | exact hA.le (Or.inl rfl) | exact hA.le (Or.inr rfl) | assumption)⟩)
set_option maxRecDepth 100000 in
set_option maxHeartbeats 4000000 in
theorem lt_free (iL : (Ln : Int) ≤ 100000) (i0 : 0 ≤ i) (i6 : i + 6 ≤ (Ln : Int)) (hC : kk_Clo l 200 en_M en_t_L_law (lx_c Ln xs) lx_R K) (hE : lw_E tl a b O A) (kn : ∀ tl a b O A, lw_E tl a b O A → K 1221 (lx_L i) [] (cx_LW O A)) : K 624 (lx_L i) [] (cx_LW O A) := by
  obtain ⟨Bc, Bm, hI, hA⟩ := hE
  repeat' first | refine hC.gw [1221] _ rfl rfl ?_ | refine And.intro ?_ ?_ | exact True.intro | refine hC.iadd [1221] rfl rfl (by first | omega | (simp only [Int.reduceToNat] at *; omega)) ?_ | refine hC.isub [1221] rfl rfl (by first | omega | (simp only [Int.reduceToNat] at *; omega)) ?_ | refine hC.imul [1221] rfl rfl (by first | omega | (simp only [Int.reduceToNat] at *; omega)) ?_ | refine hC.iinc [1221] rfl rfl rfl rfl (by first | omega | (simp only [Int.reduceToNat] at *; omega)) ?_ | refine hC.pfw (W := cx_LW) [1221] rfl rfl rfl rfl rfl rfl ?_ ?_ | refine hC.iaw (W := cx_LW) [1221] rfl rfl rfl rfl ?_ ?_ | refine hC.law (W := cx_LW) [1221] rfl rfl rfl rfl ?_ ?_ | refine hC.cpw (W := cx_LW) [1221] rfl rfl rfl rfl rfl rfl ?_ | refine hC.cpl (W := cx_LW) [1221] rfl rfl rfl rfl rfl rfl ?_ | refine hC.go [1221] _ rfl rfl ?_ | (intro h; first | exact (h rfl).elim | (exfalso; cases h; done) | (dsimp only [kk_cP, kk_cN] at h) | skip) | (refine lw_x1 hC hI (by decide) (cr_free l _ _ _ _ _ _ hI.cls) rfl rfl rfl rfl rfl rfl (Nat.le_refl _) ?_; intro x O A hI) | (refine lw_m2 hC hI (by decide) (mm_freeI l _ _ _ hI.2.1) rfl rfl rfl rfl rfl rfl (Nat.le_refl _) ?_; intro x O A hI)
  all_goals first | omega | exact hC.sub (lx_L i) ⟨rfl, rfl, rfl, rfl, rfl, trivial⟩ (kn _ _ _ _ _ ⟨_, _, hI, (by first | exact hA.le (Or.inl rfl) | exact hA.le (Or.inr rfl) | assumption)⟩)
set_option maxRecDepth 100000 in
set_option maxHeartbeats 4000000 in
theorem lt_quarrels (iL : (Ln : Int) ≤ 100000) (i0 : 0 ≤ i) (i6 : i + 6 ≤ (Ln : Int)) (hC : kk_Clo l 200 en_M en_t_L_law (lx_c Ln xs) lx_R K) (hE : lw_E tl a b O A) (kn : ∀ tl a b O A, lw_E tl a b O A → K 1221 (lx_L i) [] (cx_LW O A)) : K 637 (lx_L i) [] (cx_LW O A) := by
  obtain ⟨Bc, Bm, hI, hA⟩ := hE
  repeat' first | refine hC.gw [1221] _ rfl rfl ?_ | refine And.intro ?_ ?_ | exact True.intro | refine hC.iadd [1221] rfl rfl (by first | omega | (simp only [Int.reduceToNat] at *; omega)) ?_ | refine hC.isub [1221] rfl rfl (by first | omega | (simp only [Int.reduceToNat] at *; omega)) ?_ | refine hC.imul [1221] rfl rfl (by first | omega | (simp only [Int.reduceToNat] at *; omega)) ?_ | refine hC.iinc [1221] rfl rfl rfl rfl (by first | omega | (simp only [Int.reduceToNat] at *; omega)) ?_ | refine hC.pfw (W := cx_LW) [1221] rfl rfl rfl rfl rfl rfl ?_ ?_ | refine hC.iaw (W := cx_LW) [1221] rfl rfl rfl rfl ?_ ?_ | refine hC.law (W := cx_LW) [1221] rfl rfl rfl rfl ?_ ?_ | refine hC.cpw (W := cx_LW) [1221] rfl rfl rfl rfl rfl rfl ?_ | refine hC.cpl (W := cx_LW) [1221] rfl rfl rfl rfl rfl rfl ?_ | refine hC.go [1221] _ rfl rfl ?_ | (intro h; first | exact (h rfl).elim | (exfalso; cases h; done) | (dsimp only [kk_cP, kk_cN] at h) | skip) | (refine lw_x1 hC hI (by decide) (cr_quarrels l _ _ _ _ _ _ hI.cls _) rfl rfl rfl rfl rfl rfl (Nat.le_refl _) ?_; intro x O A hI) | (refine lw_m2 hC hI (by decide) (mm_quarrelsI l _ _ _ _ hI.2.1) rfl rfl rfl rfl rfl rfl (Nat.le_refl _) ?_; intro x O A hI)
  all_goals first | omega | exact hC.sub (lx_L i) ⟨rfl, rfl, rfl, rfl, rfl, trivial⟩ (kn _ _ _ _ _ ⟨_, _, hI, (by first | exact hA.le (Or.inl rfl) | exact hA.le (Or.inr rfl) | assumption)⟩)
set_option maxRecDepth 100000 in
set_option maxHeartbeats 4000000 in
theorem lt_cover (iL : (Ln : Int) ≤ 100000) (i0 : 0 ≤ i) (i6 : i + 6 ≤ (Ln : Int)) (hC : kk_Clo l 200 en_M en_t_L_law (lx_c Ln xs) lx_R K) (hE : lw_E tl a b O A) (kn : ∀ tl a b O A, lw_E tl a b O A → K 1221 (lx_L i) [] (cx_LW O A)) : K 662 (lx_L i) [] (cx_LW O A) := by
  obtain ⟨Bc, Bm, hI, hA⟩ := hE
  repeat' first | refine hC.gw [1221] _ rfl rfl ?_ | refine And.intro ?_ ?_ | exact True.intro | refine hC.iadd [1221] rfl rfl (by first | omega | (simp only [Int.reduceToNat] at *; omega)) ?_ | refine hC.isub [1221] rfl rfl (by first | omega | (simp only [Int.reduceToNat] at *; omega)) ?_ | refine hC.imul [1221] rfl rfl (by first | omega | (simp only [Int.reduceToNat] at *; omega)) ?_ | refine hC.iinc [1221] rfl rfl rfl rfl (by first | omega | (simp only [Int.reduceToNat] at *; omega)) ?_ | refine hC.pfw (W := cx_LW) [1221] rfl rfl rfl rfl rfl rfl ?_ ?_ | refine hC.iaw (W := cx_LW) [1221] rfl rfl rfl rfl ?_ ?_ | refine hC.law (W := cx_LW) [1221] rfl rfl rfl rfl ?_ ?_ | refine hC.cpw (W := cx_LW) [1221] rfl rfl rfl rfl rfl rfl ?_ | refine hC.cpl (W := cx_LW) [1221] rfl rfl rfl rfl rfl rfl ?_ | refine hC.go [1221] _ rfl rfl ?_ | (intro h; first | exact (h rfl).elim | (exfalso; cases h; done) | (dsimp only [kk_cP, kk_cN] at h) | skip)
  refine lw_x (Φ := fun rs O' A' => ci_J (cu Bc 16 (cg_V Bm)) tl a b O' A' ∧ ∃ x, rs = [(0, x)] ∧ x = cv_V Bm) hC (cr_xCover l _ _ _ hI.cls hA) (fun rs w' h => h) rfl rfl rfl rfl rfl rfl (Nat.le_refl _) ?_
  rintro rs O' A' ⟨hJ, x, rfl, hx⟩ O1 A1 e1 e2
  have hI1 := hI.nx hJ e1 e2
  clear hJ e1 e2 hI
  repeat' first | refine hC.gw [1221] _ rfl rfl ?_ | refine And.intro ?_ ?_ | exact True.intro | refine hC.iadd [1221] rfl rfl (by first | omega | (simp only [Int.reduceToNat] at *; omega)) ?_ | refine hC.isub [1221] rfl rfl (by first | omega | (simp only [Int.reduceToNat] at *; omega)) ?_ | refine hC.imul [1221] rfl rfl (by first | omega | (simp only [Int.reduceToNat] at *; omega)) ?_ | refine hC.iinc [1221] rfl rfl rfl rfl (by first | omega | (simp only [Int.reduceToNat] at *; omega)) ?_ | refine hC.pfw (W := cx_LW) [1221] rfl rfl rfl rfl rfl rfl ?_ ?_ | refine hC.iaw (W := cx_LW) [1221] rfl rfl rfl rfl ?_ ?_ | refine hC.law (W := cx_LW) [1221] rfl rfl rfl rfl ?_ ?_ | refine hC.cpw (W := cx_LW) [1221] rfl rfl rfl rfl rfl rfl ?_ | refine hC.cpl (W := cx_LW) [1221] rfl rfl rfl rfl rfl rfl ?_ | refine hC.go [1221] _ rfl rfl ?_ | (intro h; first | exact (h rfl).elim | (exfalso; cases h; done) | (dsimp only [kk_cP, kk_cN] at h) | skip)
  refine lw_m (Φ := fun rs F' A' => mm_I (mu Bm 1 (cg_V Bm)) F' A' ∧ F' 2 = O1 168 2 ∧ A' 10 = cc_in pW_M A1 10 ∧ ∃ y, rs = [(0, y)] ∧ y = cv_V Bm) hC (mm_xCover l _ _ _ hI1.2.1) (fun rs w' h => h) rfl rfl rfl rfl rfl rfl (Nat.le_refl _) ?_
  rintro rs F' A' ⟨h3, h4, h5, y, rfl, hy⟩ O2 A2 e1 e2 e3
  have hI2 := hI1.nm h3 e1 e2 e3
  have eT : O1 168 2 = tl := hI1.2.2.1
  have hxy : x = y := hx.trans hy.symm
  have hAe := hA.cov (cg_V Bm)
  rw [h5, show cc_in pW_M A1 10 0 = a from hI1.2.2.2.1, show cc_in pW_M A1 10 1 = b from hI1.2.2.2.2, show F' 2 = tl by omega] at hI2
  clear hI1 e1 e2 e3 hx hy
  have hI := hI2
  repeat' first | refine hC.gw [1221] _ rfl rfl ?_ | refine And.intro ?_ ?_ | exact True.intro | refine hC.iadd [1221] rfl rfl (by first | omega | (simp only [Int.reduceToNat] at *; omega)) ?_ | refine hC.isub [1221] rfl rfl (by first | omega | (simp only [Int.reduceToNat] at *; omega)) ?_ | refine hC.imul [1221] rfl rfl (by first | omega | (simp only [Int.reduceToNat] at *; omega)) ?_ | refine hC.iinc [1221] rfl rfl rfl rfl (by first | omega | (simp only [Int.reduceToNat] at *; omega)) ?_ | refine hC.pfw (W := cx_LW) [1221] rfl rfl rfl rfl rfl rfl ?_ ?_ | refine hC.iaw (W := cx_LW) [1221] rfl rfl rfl rfl ?_ ?_ | refine hC.law (W := cx_LW) [1221] rfl rfl rfl rfl ?_ ?_ | refine hC.cpw (W := cx_LW) [1221] rfl rfl rfl rfl rfl rfl ?_ | refine hC.cpl (W := cx_LW) [1221] rfl rfl rfl rfl rfl rfl ?_ | refine hC.go [1221] _ rfl rfl ?_ | (intro h; first | exact (h rfl).elim | (exfalso; cases h; done) | (dsimp only [kk_cP, kk_cN] at h) | skip)
  all_goals first | omega | exact absurd hxy (by assumption) | exact hC.sub (lx_L i) ⟨rfl, rfl, rfl, rfl, rfl, trivial⟩ (kn _ _ _ _ _ ⟨_, _, hI, hAe⟩)
set_option maxRecDepth 100000 in
set_option maxHeartbeats 4000000 in
theorem lt_covering (iL : (Ln : Int) ≤ 100000) (i0 : 0 ≤ i) (i6 : i + 6 ≤ (Ln : Int)) (hC : kk_Clo l 200 en_M en_t_L_law (lx_c Ln xs) lx_R K) (hE : lw_E tl a b O A) (kn : ∀ tl a b O A, lw_E tl a b O A → K 1221 (lx_L i) [] (cx_LW O A)) : K 675 (lx_L i) [] (cx_LW O A) := by
  obtain ⟨Bc, Bm, hI, hA⟩ := hE
  repeat' first | refine hC.gw [1221] _ rfl rfl ?_ | refine And.intro ?_ ?_ | exact True.intro | refine hC.iadd [1221] rfl rfl (by first | omega | (simp only [Int.reduceToNat] at *; omega)) ?_ | refine hC.isub [1221] rfl rfl (by first | omega | (simp only [Int.reduceToNat] at *; omega)) ?_ | refine hC.imul [1221] rfl rfl (by first | omega | (simp only [Int.reduceToNat] at *; omega)) ?_ | refine hC.iinc [1221] rfl rfl rfl rfl (by first | omega | (simp only [Int.reduceToNat] at *; omega)) ?_ | refine hC.pfw (W := cx_LW) [1221] rfl rfl rfl rfl rfl rfl ?_ ?_ | refine hC.iaw (W := cx_LW) [1221] rfl rfl rfl rfl ?_ ?_ | refine hC.law (W := cx_LW) [1221] rfl rfl rfl rfl ?_ ?_ | refine hC.cpw (W := cx_LW) [1221] rfl rfl rfl rfl rfl rfl ?_ | refine hC.cpl (W := cx_LW) [1221] rfl rfl rfl rfl rfl rfl ?_ | refine hC.go [1221] _ rfl rfl ?_ | (intro h; first | exact (h rfl).elim | (exfalso; cases h; done) | (dsimp only [kk_cP, kk_cN] at h) | skip) | (refine lw_x1 hC hI (by decide) (cr_covering l _ _ _ _ _ _ hI.cls) rfl rfl rfl rfl rfl rfl (Nat.le_refl _) ?_; intro x O A hI) | (refine lw_m2 hC hI (by decide) (mm_coveringI l _ _ _ hI.2.1) rfl rfl rfl rfl rfl rfl (Nat.le_refl _) ?_; intro x O A hI)
  all_goals first | omega | exact hC.sub (lx_L i) ⟨rfl, rfl, rfl, rfl, rfl, trivial⟩ (kn _ _ _ _ _ ⟨_, _, hI, (by first | exact hA.le (Or.inl rfl) | exact hA.le (Or.inr rfl) | assumption)⟩)
set_option maxRecDepth 100000 in
set_option maxHeartbeats 4000000 in
theorem lt_allowed (hl0 : l.stackTraces = false) (iL : (Ln : Int) ≤ 100000) (i0 : 0 ≤ i) (i6 : i + 6 ≤ (Ln : Int)) (hC : kk_Clo l 200 en_M en_t_L_law (lx_c Ln xs) lx_R K) (hE : lw_E tl a b O A) (hC2 : kk_Clo l 200 en_M en_t_L_law (lx_c Ln xs) lx_R K2) (hW : ∀ {pc nx x a b k : Nat} {L : en_L} {st as r : List en_V} {w : List kk_C} {t' : en_T} {Φ : List en_V → List kk_C → Prop} {d' : Nat}, en_find (en_te en_t_L_law) pc = some (nx, .invokestatic x, a, b, k) → en_M[a]? = some t' → en_take b [] st = some (as, r) → k ≠ 7 ∧ k ≠ 1 ∧ k ≠ 2 → r.length ≤ 4 → d' + 1 ≤ 200 → kk_CtrW l d' t' as w Φ → (∀ rs w', Φ rs w' → K2 nx L (rs ++ r) w') → K pc L st w) (kn : ∀ tl a b O A, lw_E tl a b O A → K2 1221 (lx_L i) [] (cx_LW O A)) : K 688 (lx_L i) [] (cx_LW O A) := by
  obtain ⟨Bc, Bm, hI, hA⟩ := hE
  repeat' first | refine hC.gw [702] _ rfl rfl ?_ | refine And.intro ?_ ?_ | exact True.intro | refine hC.iadd [702] rfl rfl (by first | omega | (simp only [Int.reduceToNat] at *; omega)) ?_ | refine hC.isub [702] rfl rfl (by first | omega | (simp only [Int.reduceToNat] at *; omega)) ?_ | refine hC.imul [702] rfl rfl (by first | omega | (simp only [Int.reduceToNat] at *; omega)) ?_ | refine hC.iinc [702] rfl rfl rfl rfl (by first | omega | (simp only [Int.reduceToNat] at *; omega)) ?_ | refine hC.pfw (W := cx_LW) [702] rfl rfl rfl rfl rfl rfl ?_ ?_ | refine hC.iaw (W := cx_LW) [702] rfl rfl rfl rfl ?_ ?_ | refine hC.law (W := cx_LW) [702] rfl rfl rfl rfl ?_ ?_ | refine hC.cpw (W := cx_LW) [702] rfl rfl rfl rfl rfl rfl ?_ | refine hC.cpl (W := cx_LW) [702] rfl rfl rfl rfl rfl rfl ?_ | refine hC.go [702] _ rfl rfl ?_ | (intro h; first | exact (h rfl).elim | (exfalso; cases h; done) | (dsimp only [kk_cP, kk_cN] at h) | skip)
  all_goals first | omega | skip
  refine hW rfl rfl rfl (by decide) (by decide) (Nat.le_refl _) (lc_allowed hl0 _ _ _ hI) ?_
  rintro rs w' ⟨O', A', rfl, hI2, x, rfl⟩
  have hC := hC2
  clear hI
  have hI := hI2
  clear hI2
  repeat' first | refine hC.gw [1221] _ rfl rfl ?_ | refine And.intro ?_ ?_ | exact True.intro | refine hC.iadd [1221] rfl rfl (by first | omega | (simp only [Int.reduceToNat] at *; omega)) ?_ | refine hC.isub [1221] rfl rfl (by first | omega | (simp only [Int.reduceToNat] at *; omega)) ?_ | refine hC.imul [1221] rfl rfl (by first | omega | (simp only [Int.reduceToNat] at *; omega)) ?_ | refine hC.iinc [1221] rfl rfl rfl rfl (by first | omega | (simp only [Int.reduceToNat] at *; omega)) ?_ | refine hC.pfw (W := cx_LW) [1221] rfl rfl rfl rfl rfl rfl ?_ ?_ | refine hC.iaw (W := cx_LW) [1221] rfl rfl rfl rfl ?_ ?_ | refine hC.law (W := cx_LW) [1221] rfl rfl rfl rfl ?_ ?_ | refine hC.cpw (W := cx_LW) [1221] rfl rfl rfl rfl rfl rfl ?_ | refine hC.cpl (W := cx_LW) [1221] rfl rfl rfl rfl rfl rfl ?_ | refine hC.go [1221] _ rfl rfl ?_ | (intro h; first | exact (h rfl).elim | (exfalso; cases h; done) | (dsimp only [kk_cP, kk_cN] at h) | skip) | (refine lw_m2 hC hI (by decide) (mm_allowedI l _ _ _ _ _ hI.2.1) rfl rfl rfl rfl rfl rfl (Nat.le_refl _) ?_; intro x O A hI)
  all_goals first | omega | exact hC.sub (lx_L i) ⟨rfl, rfl, rfl, rfl, rfl, trivial⟩ (kn _ _ _ _ _ ⟨_, _, hI, (by first | exact hA.le (Or.inl rfl) | exact hA.le (Or.inr rfl) | assumption)⟩)
set_option maxRecDepth 100000 in
set_option maxHeartbeats 4000000 in
theorem lt_finish (hl0 : l.stackTraces = false) (iL : (Ln : Int) ≤ 100000) (i0 : 0 ≤ i) (i6 : i + 6 ≤ (Ln : Int)) (hC : kk_Clo l 200 en_M en_t_L_law (lx_c Ln xs) lx_R K) (hE : lw_E tl a b O A) (hC2 : kk_Clo l 200 en_M en_t_L_law (lx_c Ln xs) lx_R K2) (hW : ∀ {pc nx x a b k : Nat} {L : en_L} {st as r : List en_V} {w : List kk_C} {t' : en_T} {Φ : List en_V → List kk_C → Prop} {d' : Nat}, en_find (en_te en_t_L_law) pc = some (nx, .invokestatic x, a, b, k) → en_M[a]? = some t' → en_take b [] st = some (as, r) → k ≠ 7 ∧ k ≠ 1 ∧ k ≠ 2 → r.length ≤ 4 → d' + 1 ≤ 200 → kk_CtrW l d' t' as w Φ → (∀ rs w', Φ rs w' → K2 nx L (rs ++ r) w') → K pc L st w) (kn : ∀ tl a b O A, lw_E tl a b O A → K2 1221 (lx_L i) [] (cx_LW O A)) : K 728 (lx_L i) [] (cx_LW O A) := by
  obtain ⟨Bc, Bm, hI, hA⟩ := hE
  repeat' first | refine hC.gw [754] _ rfl rfl ?_ | refine And.intro ?_ ?_ | exact True.intro | refine hC.iadd [754] rfl rfl (by first | omega | (simp only [Int.reduceToNat] at *; omega)) ?_ | refine hC.isub [754] rfl rfl (by first | omega | (simp only [Int.reduceToNat] at *; omega)) ?_ | refine hC.imul [754] rfl rfl (by first | omega | (simp only [Int.reduceToNat] at *; omega)) ?_ | refine hC.iinc [754] rfl rfl rfl rfl (by first | omega | (simp only [Int.reduceToNat] at *; omega)) ?_ | refine hC.pfw (W := cx_LW) [754] rfl rfl rfl rfl rfl rfl ?_ ?_ | refine hC.iaw (W := cx_LW) [754] rfl rfl rfl rfl ?_ ?_ | refine hC.law (W := cx_LW) [754] rfl rfl rfl rfl ?_ ?_ | refine hC.cpw (W := cx_LW) [754] rfl rfl rfl rfl rfl rfl ?_ | refine hC.cpl (W := cx_LW) [754] rfl rfl rfl rfl rfl rfl ?_ | refine hC.go [754] _ rfl rfl ?_ | (intro h; first | exact (h rfl).elim | (exfalso; cases h; done) | (dsimp only [kk_cP, kk_cN] at h) | skip)
  all_goals first | omega | skip
  refine hW rfl rfl rfl (by decide) (by decide) (Nat.le_refl _) (lc_finish hl0 _ _ _ _ _ hI) ?_
  rintro rs w' ⟨O', A', rfl, hI2, x, rfl⟩
  have hC := hC2
  clear hI
  have hI := hI2
  clear hI2
  repeat' first | refine hC.gw [1221] _ rfl rfl ?_ | refine And.intro ?_ ?_ | exact True.intro | refine hC.iadd [1221] rfl rfl (by first | omega | (simp only [Int.reduceToNat] at *; omega)) ?_ | refine hC.isub [1221] rfl rfl (by first | omega | (simp only [Int.reduceToNat] at *; omega)) ?_ | refine hC.imul [1221] rfl rfl (by first | omega | (simp only [Int.reduceToNat] at *; omega)) ?_ | refine hC.iinc [1221] rfl rfl rfl rfl (by first | omega | (simp only [Int.reduceToNat] at *; omega)) ?_ | refine hC.pfw (W := cx_LW) [1221] rfl rfl rfl rfl rfl rfl ?_ ?_ | refine hC.iaw (W := cx_LW) [1221] rfl rfl rfl rfl ?_ ?_ | refine hC.law (W := cx_LW) [1221] rfl rfl rfl rfl ?_ ?_ | refine hC.cpw (W := cx_LW) [1221] rfl rfl rfl rfl rfl rfl ?_ | refine hC.cpl (W := cx_LW) [1221] rfl rfl rfl rfl rfl rfl ?_ | refine hC.go [1221] _ rfl rfl ?_ | (intro h; first | exact (h rfl).elim | (exfalso; cases h; done) | (dsimp only [kk_cP, kk_cN] at h) | skip) | (refine lw_m2 hC hI (by decide) (mm_finishI l _ _ _ _ _ _ _ hI.2.1) rfl rfl rfl rfl rfl rfl (Nat.le_refl _) ?_; intro x O A hI)
  all_goals first | omega | exact hC.sub (lx_L i) ⟨rfl, rfl, rfl, rfl, rfl, trivial⟩ (kn _ _ _ _ _ ⟨_, _, hI, (by first | exact hA.le (Or.inl rfl) | exact hA.le (Or.inr rfl) | assumption)⟩)
set_option maxRecDepth 100000 in
set_option maxHeartbeats 4000000 in
theorem lt_most (iL : (Ln : Int) ≤ 100000) (i0 : 0 ≤ i) (i6 : i + 6 ≤ (Ln : Int)) (hC : kk_Clo l 200 en_M en_t_L_law (lx_c Ln xs) lx_R K) (hE : lw_E tl a b O A) (kn : ∀ tl a b O A, lw_E tl a b O A → K 1221 (lx_L i) [] (cx_LW O A)) : K 792 (lx_L i) [] (cx_LW O A) := by
  obtain ⟨Bc, Bm, hI, hA⟩ := hE
  repeat' first | refine hC.gw [1221] _ rfl rfl ?_ | refine And.intro ?_ ?_ | exact True.intro | refine hC.iadd [1221] rfl rfl (by first | omega | (simp only [Int.reduceToNat] at *; omega)) ?_ | refine hC.isub [1221] rfl rfl (by first | omega | (simp only [Int.reduceToNat] at *; omega)) ?_ | refine hC.imul [1221] rfl rfl (by first | omega | (simp only [Int.reduceToNat] at *; omega)) ?_ | refine hC.iinc [1221] rfl rfl rfl rfl (by first | omega | (simp only [Int.reduceToNat] at *; omega)) ?_ | refine hC.pfw (W := cx_LW) [1221] rfl rfl rfl rfl rfl rfl ?_ ?_ | refine hC.iaw (W := cx_LW) [1221] rfl rfl rfl rfl ?_ ?_ | refine hC.law (W := cx_LW) [1221] rfl rfl rfl rfl ?_ ?_ | refine hC.cpw (W := cx_LW) [1221] rfl rfl rfl rfl rfl rfl ?_ | refine hC.cpl (W := cx_LW) [1221] rfl rfl rfl rfl rfl rfl ?_ | refine hC.go [1221] _ rfl rfl ?_ | (intro h; first | exact (h rfl).elim | (exfalso; cases h; done) | (dsimp only [kk_cP, kk_cN] at h) | skip) | (refine lw_x1 hC hI (by decide) (cr_most l _ _ _ _ _ _ hI.cls _) rfl rfl rfl rfl rfl rfl (Nat.le_refl _) ?_; intro x O A hI) | (refine lw_m2 hC hI (by decide) (mm_mostI l _ _ _ _ hI.2.1) rfl rfl rfl rfl rfl rfl (Nat.le_refl _) ?_; intro x O A hI)
  all_goals first | omega | exact hC.sub (lx_L i) ⟨rfl, rfl, rfl, rfl, rfl, trivial⟩ (kn _ _ _ _ _ ⟨_, _, hI, (by first | exact hA.le (Or.inl rfl) | exact hA.le (Or.inr rfl) | assumption)⟩)
set_option maxRecDepth 100000 in
set_option maxHeartbeats 4000000 in
theorem lt_mostAt (iL : (Ln : Int) ≤ 100000) (i0 : 0 ≤ i) (i6 : i + 6 ≤ (Ln : Int)) (hC : kk_Clo l 200 en_M en_t_L_law (lx_c Ln xs) lx_R K) (hE : lw_E tl a b O A) (kn : ∀ tl a b O A, lw_E tl a b O A → K 1221 (lx_L i) [] (cx_LW O A)) : K 817 (lx_L i) [] (cx_LW O A) := by
  obtain ⟨Bc, Bm, hI, hA⟩ := hE
  repeat' first | refine hC.gw [1221] _ rfl rfl ?_ | refine And.intro ?_ ?_ | exact True.intro | refine hC.iadd [1221] rfl rfl (by first | omega | (simp only [Int.reduceToNat] at *; omega)) ?_ | refine hC.isub [1221] rfl rfl (by first | omega | (simp only [Int.reduceToNat] at *; omega)) ?_ | refine hC.imul [1221] rfl rfl (by first | omega | (simp only [Int.reduceToNat] at *; omega)) ?_ | refine hC.iinc [1221] rfl rfl rfl rfl (by first | omega | (simp only [Int.reduceToNat] at *; omega)) ?_ | refine hC.pfw (W := cx_LW) [1221] rfl rfl rfl rfl rfl rfl ?_ ?_ | refine hC.iaw (W := cx_LW) [1221] rfl rfl rfl rfl ?_ ?_ | refine hC.law (W := cx_LW) [1221] rfl rfl rfl rfl ?_ ?_ | refine hC.cpw (W := cx_LW) [1221] rfl rfl rfl rfl rfl rfl ?_ | refine hC.cpl (W := cx_LW) [1221] rfl rfl rfl rfl rfl rfl ?_ | refine hC.go [1221] _ rfl rfl ?_ | (intro h; first | exact (h rfl).elim | (exfalso; cases h; done) | (dsimp only [kk_cP, kk_cN] at h) | skip) | (refine lw_x1 hC hI (by decide) (cr_mostAt l _ _ _ _ _ _ hI.cls _) rfl rfl rfl rfl rfl rfl (Nat.le_refl _) ?_; intro x O A hI) | (refine lw_m2 hC hI (by decide) (mm_mostAtI l _ _ _ _ hI.2.1) rfl rfl rfl rfl rfl rfl (Nat.le_refl _) ?_; intro x O A hI)
  all_goals first | omega | exact hC.sub (lx_L i) ⟨rfl, rfl, rfl, rfl, rfl, trivial⟩ (kn _ _ _ _ _ ⟨_, _, hI, (by first | exact hA.le (Or.inl rfl) | exact hA.le (Or.inr rfl) | assumption)⟩)
set_option maxRecDepth 100000 in
set_option maxHeartbeats 4000000 in
theorem lt_fair (iL : (Ln : Int) ≤ 100000) (i0 : 0 ≤ i) (i6 : i + 6 ≤ (Ln : Int)) (hC : kk_Clo l 200 en_M en_t_L_law (lx_c Ln xs) lx_R K) (hE : lw_E tl a b O A) (kn : ∀ tl a b O A, lw_E tl a b O A → K 1221 (lx_L i) [] (cx_LW O A)) : K 842 (lx_L i) [] (cx_LW O A) := by
  obtain ⟨Bc, Bm, hI, hA⟩ := hE
  repeat' first | refine hC.gw [1221] _ rfl rfl ?_ | refine And.intro ?_ ?_ | exact True.intro | refine hC.iadd [1221] rfl rfl (by first | omega | (simp only [Int.reduceToNat] at *; omega)) ?_ | refine hC.isub [1221] rfl rfl (by first | omega | (simp only [Int.reduceToNat] at *; omega)) ?_ | refine hC.imul [1221] rfl rfl (by first | omega | (simp only [Int.reduceToNat] at *; omega)) ?_ | refine hC.iinc [1221] rfl rfl rfl rfl (by first | omega | (simp only [Int.reduceToNat] at *; omega)) ?_ | refine hC.pfw (W := cx_LW) [1221] rfl rfl rfl rfl rfl rfl ?_ ?_ | refine hC.iaw (W := cx_LW) [1221] rfl rfl rfl rfl ?_ ?_ | refine hC.law (W := cx_LW) [1221] rfl rfl rfl rfl ?_ ?_ | refine hC.cpw (W := cx_LW) [1221] rfl rfl rfl rfl rfl rfl ?_ | refine hC.cpl (W := cx_LW) [1221] rfl rfl rfl rfl rfl rfl ?_ | refine hC.go [1221] _ rfl rfl ?_ | (intro h; first | exact (h rfl).elim | (exfalso; cases h; done) | (dsimp only [kk_cP, kk_cN] at h) | skip) | (refine lw_x1 hC hI (by decide) (cr_fair l _ _ _ _ _ _ hI.cls) rfl rfl rfl rfl rfl rfl (Nat.le_refl _) ?_; intro x O A hI) | (refine lw_m1 hC hI (by decide) (mm_fairI l _ _ _ hI.2.1) rfl rfl rfl rfl rfl rfl (Nat.le_refl _) ?_; intro x O A hI)
  all_goals first | omega | exact hC.sub (lx_L i) ⟨rfl, rfl, rfl, rfl, rfl, trivial⟩ (kn _ _ _ _ _ ⟨_, _, hI, (by first | exact hA.le (Or.inl rfl) | exact hA.le (Or.inr rfl) | assumption)⟩)
set_option maxRecDepth 100000 in
set_option maxHeartbeats 4000000 in
theorem lt_chance (hl0 : l.stackTraces = false) (iL : (Ln : Int) ≤ 100000) (i0 : 0 ≤ i) (i6 : i + 6 ≤ (Ln : Int)) (hC : kk_Clo l 200 en_M en_t_L_law (lx_c Ln xs) lx_R K) (hE : lw_E tl a b O A) (hC2 : kk_Clo l 200 en_M en_t_L_law (lx_c Ln xs) lx_R K2) (hW : ∀ {pc nx x a b k : Nat} {L : en_L} {st as r : List en_V} {w : List kk_C} {t' : en_T} {Φ : List en_V → List kk_C → Prop} {d' : Nat}, en_find (en_te en_t_L_law) pc = some (nx, .invokestatic x, a, b, k) → en_M[a]? = some t' → en_take b [] st = some (as, r) → k ≠ 7 ∧ k ≠ 1 ∧ k ≠ 2 → r.length ≤ 4 → d' + 1 ≤ 200 → kk_CtrW l d' t' as w Φ → (∀ rs w', Φ rs w' → K2 nx L (rs ++ r) w') → K pc L st w) (kn : ∀ tl a b O A, lw_E tl a b O A → K2 1221 (lx_L i) [] (cx_LW O A)) : K 855 (lx_L i) [] (cx_LW O A) := by
  obtain ⟨Bc, Bm, hI, hA⟩ := hE
  repeat' first | refine hC.gw [863] _ rfl rfl ?_ | refine And.intro ?_ ?_ | exact True.intro | refine hC.iadd [863] rfl rfl (by first | omega | (simp only [Int.reduceToNat] at *; omega)) ?_ | refine hC.isub [863] rfl rfl (by first | omega | (simp only [Int.reduceToNat] at *; omega)) ?_ | refine hC.imul [863] rfl rfl (by first | omega | (simp only [Int.reduceToNat] at *; omega)) ?_ | refine hC.iinc [863] rfl rfl rfl rfl (by first | omega | (simp only [Int.reduceToNat] at *; omega)) ?_ | refine hC.pfw (W := cx_LW) [863] rfl rfl rfl rfl rfl rfl ?_ ?_ | refine hC.iaw (W := cx_LW) [863] rfl rfl rfl rfl ?_ ?_ | refine hC.law (W := cx_LW) [863] rfl rfl rfl rfl ?_ ?_ | refine hC.cpw (W := cx_LW) [863] rfl rfl rfl rfl rfl rfl ?_ | refine hC.cpl (W := cx_LW) [863] rfl rfl rfl rfl rfl rfl ?_ | refine hC.go [863] _ rfl rfl ?_ | (intro h; first | exact (h rfl).elim | (exfalso; cases h; done) | (dsimp only [kk_cP, kk_cN] at h) | skip)
  all_goals first | omega | skip
  refine hW rfl rfl rfl (by decide) (by decide) (Nat.le_refl _) (lc_chance hl0 _ _ hI) ?_
  rintro rs w' ⟨O', A', rfl, hI2, x, rfl⟩
  have hC := hC2
  clear hI
  have hI := hI2
  clear hI2
  repeat' first | refine hC.gw [1221] _ rfl rfl ?_ | refine And.intro ?_ ?_ | exact True.intro | refine hC.iadd [1221] rfl rfl (by first | omega | (simp only [Int.reduceToNat] at *; omega)) ?_ | refine hC.isub [1221] rfl rfl (by first | omega | (simp only [Int.reduceToNat] at *; omega)) ?_ | refine hC.imul [1221] rfl rfl (by first | omega | (simp only [Int.reduceToNat] at *; omega)) ?_ | refine hC.iinc [1221] rfl rfl rfl rfl (by first | omega | (simp only [Int.reduceToNat] at *; omega)) ?_ | refine hC.pfw (W := cx_LW) [1221] rfl rfl rfl rfl rfl rfl ?_ ?_ | refine hC.iaw (W := cx_LW) [1221] rfl rfl rfl rfl ?_ ?_ | refine hC.law (W := cx_LW) [1221] rfl rfl rfl rfl ?_ ?_ | refine hC.cpw (W := cx_LW) [1221] rfl rfl rfl rfl rfl rfl ?_ | refine hC.cpl (W := cx_LW) [1221] rfl rfl rfl rfl rfl rfl ?_ | refine hC.go [1221] _ rfl rfl ?_ | (intro h; first | exact (h rfl).elim | (exfalso; cases h; done) | (dsimp only [kk_cP, kk_cN] at h) | skip) | (refine lw_m2 hC hI (by decide) (mm_chanceI l _ _ _ _ hI.2.1) rfl rfl rfl rfl rfl rfl (Nat.le_refl _) ?_; intro x O A hI)
  all_goals first | omega | exact hC.sub (lx_L i) ⟨rfl, rfl, rfl, rfl, rfl, trivial⟩ (kn _ _ _ _ _ ⟨_, _, hI, (by first | exact hA.le (Or.inl rfl) | exact hA.le (Or.inr rfl) | assumption)⟩)
set_option maxRecDepth 100000 in
set_option maxHeartbeats 4000000 in
theorem lt_fits (iL : (Ln : Int) ≤ 100000) (i0 : 0 ≤ i) (i6 : i + 6 ≤ (Ln : Int)) (hC : kk_Clo l 200 en_M en_t_L_law (lx_c Ln xs) lx_R K) (hE : lw_E tl a b O A) (kn : ∀ tl a b O A, lw_E tl a b O A → K 1221 (lx_L i) [] (cx_LW O A)) : K 883 (lx_L i) [] (cx_LW O A) := by
  obtain ⟨Bc, Bm, hI, hA⟩ := hE
  repeat' first | refine hC.gw [1221] _ rfl rfl ?_ | refine And.intro ?_ ?_ | exact True.intro | refine hC.iadd [1221] rfl rfl (by first | omega | (simp only [Int.reduceToNat] at *; omega)) ?_ | refine hC.isub [1221] rfl rfl (by first | omega | (simp only [Int.reduceToNat] at *; omega)) ?_ | refine hC.imul [1221] rfl rfl (by first | omega | (simp only [Int.reduceToNat] at *; omega)) ?_ | refine hC.iinc [1221] rfl rfl rfl rfl (by first | omega | (simp only [Int.reduceToNat] at *; omega)) ?_ | refine hC.pfw (W := cx_LW) [1221] rfl rfl rfl rfl rfl rfl ?_ ?_ | refine hC.iaw (W := cx_LW) [1221] rfl rfl rfl rfl ?_ ?_ | refine hC.law (W := cx_LW) [1221] rfl rfl rfl rfl ?_ ?_ | refine hC.cpw (W := cx_LW) [1221] rfl rfl rfl rfl rfl rfl ?_ | refine hC.cpl (W := cx_LW) [1221] rfl rfl rfl rfl rfl rfl ?_ | refine hC.go [1221] _ rfl rfl ?_ | (intro h; first | exact (h rfl).elim | (exfalso; cases h; done) | (dsimp only [kk_cP, kk_cN] at h) | skip)
  refine lw_x (Φ := fun rs O' A' => ci_J (cu Bc 17 (wt_V Bm tl (Bm 20 2))) 0 a b O' A' ∧ ∃ x, rs = [(0, x)] ∧ x = ft_V Bm tl) hC (cr_xFits l _ _ _ hI.cls hA) (fun rs w' h => h) rfl rfl rfl rfl rfl rfl (Nat.le_refl _) ?_
  rintro rs O' A' ⟨hJ, x, rfl, hx⟩ O1 A1 e1 e2
  have hI1 := hI.nx hJ e1 e2
  clear hJ e1 e2 hI
  repeat' first | refine hC.gw [1221] _ rfl rfl ?_ | refine And.intro ?_ ?_ | exact True.intro | refine hC.iadd [1221] rfl rfl (by first | omega | (simp only [Int.reduceToNat] at *; omega)) ?_ | refine hC.isub [1221] rfl rfl (by first | omega | (simp only [Int.reduceToNat] at *; omega)) ?_ | refine hC.imul [1221] rfl rfl (by first | omega | (simp only [Int.reduceToNat] at *; omega)) ?_ | refine hC.iinc [1221] rfl rfl rfl rfl (by first | omega | (simp only [Int.reduceToNat] at *; omega)) ?_ | refine hC.pfw (W := cx_LW) [1221] rfl rfl rfl rfl rfl rfl ?_ ?_ | refine hC.iaw (W := cx_LW) [1221] rfl rfl rfl rfl ?_ ?_ | refine hC.law (W := cx_LW) [1221] rfl rfl rfl rfl ?_ ?_ | refine hC.cpw (W := cx_LW) [1221] rfl rfl rfl rfl rfl rfl ?_ | refine hC.cpl (W := cx_LW) [1221] rfl rfl rfl rfl rfl rfl ?_ | refine hC.go [1221] _ rfl rfl ?_ | (intro h; first | exact (h rfl).elim | (exfalso; cases h; done) | (dsimp only [kk_cP, kk_cN] at h) | skip)
  have eT : O1 168 2 = tl := hI1.2.2.1
  refine lw_m (Φ := fun rs F' A' => mm_I (mu Bm 2 (wt_V Bm (O1 168 2) (Bm 20 2))) F' A' ∧ F' 2 = 0 ∧ A' 10 = cc_in pW_M A1 10 ∧ ∃ y, rs = [(0, y)] ∧ y = ft_V Bm (O1 168 2)) hC (mm_xFits l _ _ _ hI1.2.1 (hA.rg) (hA.dj)) (fun rs w' h => h) rfl rfl rfl rfl rfl rfl (Nat.le_refl _) ?_
  rintro rs F' A' ⟨h3, h4, h5, y, rfl, hy⟩ O2 A2 e1 e2 e3
  rw [eT] at h3 hy
  have hI2 := hI1.nm h3 e1 e2 e3
  have hxy : x = y := hx.trans hy.symm
  have hAe := (hA.le (t' := 0) (Or.inr rfl)).wat (wt_V Bm tl (Bm 20 2))
  rw [h5, show cc_in pW_M A1 10 0 = a from hI1.2.2.2.1, show cc_in pW_M A1 10 1 = b from hI1.2.2.2.2, h4] at hI2
  clear hI1 e1 e2 e3 hx hy
  have hI := hI2
  repeat' first | refine hC.gw [1221] _ rfl rfl ?_ | refine And.intro ?_ ?_ | exact True.intro | refine hC.iadd [1221] rfl rfl (by first | omega | (simp only [Int.reduceToNat] at *; omega)) ?_ | refine hC.isub [1221] rfl rfl (by first | omega | (simp only [Int.reduceToNat] at *; omega)) ?_ | refine hC.imul [1221] rfl rfl (by first | omega | (simp only [Int.reduceToNat] at *; omega)) ?_ | refine hC.iinc [1221] rfl rfl rfl rfl (by first | omega | (simp only [Int.reduceToNat] at *; omega)) ?_ | refine hC.pfw (W := cx_LW) [1221] rfl rfl rfl rfl rfl rfl ?_ ?_ | refine hC.iaw (W := cx_LW) [1221] rfl rfl rfl rfl ?_ ?_ | refine hC.law (W := cx_LW) [1221] rfl rfl rfl rfl ?_ ?_ | refine hC.cpw (W := cx_LW) [1221] rfl rfl rfl rfl rfl rfl ?_ | refine hC.cpl (W := cx_LW) [1221] rfl rfl rfl rfl rfl rfl ?_ | refine hC.go [1221] _ rfl rfl ?_ | (intro h; first | exact (h rfl).elim | (exfalso; cases h; done) | (dsimp only [kk_cP, kk_cN] at h) | skip)
  all_goals first | omega | exact absurd hxy (by assumption) | exact hC.sub (lx_L i) ⟨rfl, rfl, rfl, rfl, rfl, trivial⟩ (kn _ _ _ _ _ ⟨_, _, hI, hAe⟩)
set_option maxRecDepth 100000 in
set_option maxHeartbeats 4000000 in
theorem lt_watch (iL : (Ln : Int) ≤ 100000) (i0 : 0 ≤ i) (i6 : i + 6 ≤ (Ln : Int)) (hC : kk_Clo l 200 en_M en_t_L_law (lx_c Ln xs) lx_R K) (hE : lw_E tl a b O A) (kn : ∀ tl a b O A, lw_E tl a b O A → K 1221 (lx_L i) [] (cx_LW O A)) : K 896 (lx_L i) [] (cx_LW O A) := by
  obtain ⟨Bc, Bm, hI, hA⟩ := hE
  repeat' first | refine hC.gw [1221] _ rfl rfl ?_ | refine And.intro ?_ ?_ | exact True.intro | refine hC.iadd [1221] rfl rfl (by first | omega | (simp only [Int.reduceToNat] at *; omega)) ?_ | refine hC.isub [1221] rfl rfl (by first | omega | (simp only [Int.reduceToNat] at *; omega)) ?_ | refine hC.imul [1221] rfl rfl (by first | omega | (simp only [Int.reduceToNat] at *; omega)) ?_ | refine hC.iinc [1221] rfl rfl rfl rfl (by first | omega | (simp only [Int.reduceToNat] at *; omega)) ?_ | refine hC.pfw (W := cx_LW) [1221] rfl rfl rfl rfl rfl rfl ?_ ?_ | refine hC.iaw (W := cx_LW) [1221] rfl rfl rfl rfl ?_ ?_ | refine hC.law (W := cx_LW) [1221] rfl rfl rfl rfl ?_ ?_ | refine hC.cpw (W := cx_LW) [1221] rfl rfl rfl rfl rfl rfl ?_ | refine hC.cpl (W := cx_LW) [1221] rfl rfl rfl rfl rfl rfl ?_ | refine hC.go [1221] _ rfl rfl ?_ | (intro h; first | exact (h rfl).elim | (exfalso; cases h; done) | (dsimp only [kk_cP, kk_cN] at h) | skip) | (refine lw_x1 hC hI (by decide) (cr_watch l _ _ _ _ _ _ hI.cls) rfl rfl rfl rfl rfl rfl (Nat.le_refl _) ?_; intro x O A hI) | (refine lw_m2 hC hI (by decide) (mm_watchI l _ _ _ hI.2.1) rfl rfl rfl rfl rfl rfl (Nat.le_refl _) ?_; intro x O A hI)
  all_goals first | omega | exact hC.sub (lx_L i) ⟨rfl, rfl, rfl, rfl, rfl, trivial⟩ (kn _ _ _ _ _ ⟨_, _, hI, (by first | exact hA.le (Or.inl rfl) | exact hA.le (Or.inr rfl) | assumption)⟩)
set_option maxRecDepth 100000 in
set_option maxHeartbeats 4000000 in
theorem lt_waits (iL : (Ln : Int) ≤ 100000) (i0 : 0 ≤ i) (i6 : i + 6 ≤ (Ln : Int)) (hC : kk_Clo l 200 en_M en_t_L_law (lx_c Ln xs) lx_R K) (hE : lw_E tl a b O A) (kn : ∀ tl a b O A, lw_E tl a b O A → K 1221 (lx_L i) [] (cx_LW O A)) : K 909 (lx_L i) [] (cx_LW O A) := by
  obtain ⟨Bc, Bm, hI, hA⟩ := hE
  repeat' first | refine hC.gw [1221] _ rfl rfl ?_ | refine And.intro ?_ ?_ | exact True.intro | refine hC.iadd [1221] rfl rfl (by first | omega | (simp only [Int.reduceToNat] at *; omega)) ?_ | refine hC.isub [1221] rfl rfl (by first | omega | (simp only [Int.reduceToNat] at *; omega)) ?_ | refine hC.imul [1221] rfl rfl (by first | omega | (simp only [Int.reduceToNat] at *; omega)) ?_ | refine hC.iinc [1221] rfl rfl rfl rfl (by first | omega | (simp only [Int.reduceToNat] at *; omega)) ?_ | refine hC.pfw (W := cx_LW) [1221] rfl rfl rfl rfl rfl rfl ?_ ?_ | refine hC.iaw (W := cx_LW) [1221] rfl rfl rfl rfl ?_ ?_ | refine hC.law (W := cx_LW) [1221] rfl rfl rfl rfl ?_ ?_ | refine hC.cpw (W := cx_LW) [1221] rfl rfl rfl rfl rfl rfl ?_ | refine hC.cpl (W := cx_LW) [1221] rfl rfl rfl rfl rfl rfl ?_ | refine hC.go [1221] _ rfl rfl ?_ | (intro h; first | exact (h rfl).elim | (exfalso; cases h; done) | (dsimp only [kk_cP, kk_cN] at h) | skip) | (refine lw_x1 hC hI (by decide) (cr_waits l _ _ _ _ _ _ hI.cls _) rfl rfl rfl rfl rfl rfl (Nat.le_refl _) ?_; intro x O A hI) | (refine lw_m2 hC hI (by decide) (mm_waitsI l _ _ _ _ hI.2.1) rfl rfl rfl rfl rfl rfl (Nat.le_refl _) ?_; intro x O A hI)
  all_goals first | omega | exact hC.sub (lx_L i) ⟨rfl, rfl, rfl, rfl, rfl, trivial⟩ (kn _ _ _ _ _ ⟨_, _, hI, (by first | exact hA.le (Or.inl rfl) | exact hA.le (Or.inr rfl) | assumption)⟩)
set_option maxRecDepth 100000 in
set_option maxHeartbeats 4000000 in
theorem lt_ago (iL : (Ln : Int) ≤ 100000) (i0 : 0 ≤ i) (i6 : i + 6 ≤ (Ln : Int)) (hC : kk_Clo l 200 en_M en_t_L_law (lx_c Ln xs) lx_R K) (hE : lw_E tl a b O A) (kn : ∀ tl a b O A, lw_E tl a b O A → K 1221 (lx_L i) [] (cx_LW O A)) : K 934 (lx_L i) [] (cx_LW O A) := by
  obtain ⟨Bc, Bm, hI, hA⟩ := hE
  repeat' first | refine hC.gw [1221] _ rfl rfl ?_ | refine And.intro ?_ ?_ | exact True.intro | refine hC.iadd [1221] rfl rfl (by first | omega | (simp only [Int.reduceToNat] at *; omega)) ?_ | refine hC.isub [1221] rfl rfl (by first | omega | (simp only [Int.reduceToNat] at *; omega)) ?_ | refine hC.imul [1221] rfl rfl (by first | omega | (simp only [Int.reduceToNat] at *; omega)) ?_ | refine hC.iinc [1221] rfl rfl rfl rfl (by first | omega | (simp only [Int.reduceToNat] at *; omega)) ?_ | refine hC.pfw (W := cx_LW) [1221] rfl rfl rfl rfl rfl rfl ?_ ?_ | refine hC.iaw (W := cx_LW) [1221] rfl rfl rfl rfl ?_ ?_ | refine hC.law (W := cx_LW) [1221] rfl rfl rfl rfl ?_ ?_ | refine hC.cpw (W := cx_LW) [1221] rfl rfl rfl rfl rfl rfl ?_ | refine hC.cpl (W := cx_LW) [1221] rfl rfl rfl rfl rfl rfl ?_ | refine hC.go [1221] _ rfl rfl ?_ | (intro h; first | exact (h rfl).elim | (exfalso; cases h; done) | (dsimp only [kk_cP, kk_cN] at h) | skip) | (refine lw_x1 hC hI (by decide) (cr_ago l _ _ _ _ _ _ hI.cls _) rfl rfl rfl rfl rfl rfl (Nat.le_refl _) ?_; intro x O A hI) | (refine lw_m2 hC hI (by decide) (mm_agoI l _ _ _ _ hI.2.1) rfl rfl rfl rfl rfl rfl (Nat.le_refl _) ?_; intro x O A hI)
  all_goals first | omega | exact hC.sub (lx_L i) ⟨rfl, rfl, rfl, rfl, rfl, trivial⟩ (kn _ _ _ _ _ ⟨_, _, hI, (by first | exact hA.le (Or.inl rfl) | exact hA.le (Or.inr rfl) | assumption)⟩)
set_option maxRecDepth 100000 in
set_option maxHeartbeats 4000000 in
theorem lt_notice (iL : (Ln : Int) ≤ 100000) (i0 : 0 ≤ i) (i6 : i + 6 ≤ (Ln : Int)) (hC : kk_Clo l 200 en_M en_t_L_law (lx_c Ln xs) lx_R K) (hE : lw_E tl a b O A) (kn : ∀ tl a b O A, lw_E tl a b O A → K 1221 (lx_L i) [] (cx_LW O A)) : K 959 (lx_L i) [] (cx_LW O A) := by
  obtain ⟨Bc, Bm, hI, hA⟩ := hE
  repeat' first | refine hC.gw [1221] _ rfl rfl ?_ | refine And.intro ?_ ?_ | exact True.intro | refine hC.iadd [1221] rfl rfl (by first | omega | (simp only [Int.reduceToNat] at *; omega)) ?_ | refine hC.isub [1221] rfl rfl (by first | omega | (simp only [Int.reduceToNat] at *; omega)) ?_ | refine hC.imul [1221] rfl rfl (by first | omega | (simp only [Int.reduceToNat] at *; omega)) ?_ | refine hC.iinc [1221] rfl rfl rfl rfl (by first | omega | (simp only [Int.reduceToNat] at *; omega)) ?_ | refine hC.pfw (W := cx_LW) [1221] rfl rfl rfl rfl rfl rfl ?_ ?_ | refine hC.iaw (W := cx_LW) [1221] rfl rfl rfl rfl ?_ ?_ | refine hC.law (W := cx_LW) [1221] rfl rfl rfl rfl ?_ ?_ | refine hC.cpw (W := cx_LW) [1221] rfl rfl rfl rfl rfl rfl ?_ | refine hC.cpl (W := cx_LW) [1221] rfl rfl rfl rfl rfl rfl ?_ | refine hC.go [1221] _ rfl rfl ?_ | (intro h; first | exact (h rfl).elim | (exfalso; cases h; done) | (dsimp only [kk_cP, kk_cN] at h) | skip) | (refine lw_x1 hC hI (by decide) (cr_notice l _ _ _ _ _ _ hI.cls) rfl rfl rfl rfl rfl rfl (Nat.le_refl _) ?_; intro x O A hI) | (refine lw_m2 hC hI (by decide) (mm_noticeI l _ _ _ hI.2.1) rfl rfl rfl rfl rfl rfl (Nat.le_refl _) ?_; intro x O A hI)
  all_goals first | omega | exact hC.sub (lx_L i) ⟨rfl, rfl, rfl, rfl, rfl, trivial⟩ (kn _ _ _ _ _ ⟨_, _, hI, (by first | exact hA.le (Or.inl rfl) | exact hA.le (Or.inr rfl) | assumption)⟩)
set_option maxRecDepth 100000 in
set_option maxHeartbeats 4000000 in
theorem lt_byteAt (iL : (Ln : Int) ≤ 100000) (i0 : 0 ≤ i) (i6 : i + 6 ≤ (Ln : Int)) (hC : kk_Clo l 200 en_M en_t_L_law (lx_c Ln xs) lx_R K) (hE : lw_E tl a b O A) (kn : ∀ tl a b O A, lw_E tl a b O A → K 1221 (lx_L i) [] (cx_LW O A)) : K 972 (lx_L i) [] (cx_LW O A) := by
  obtain ⟨Bc, Bm, hI, hA⟩ := hE
  repeat' first | refine hC.gw [1221] _ rfl rfl ?_ | refine And.intro ?_ ?_ | exact True.intro | refine hC.iadd [1221] rfl rfl (by first | omega | (simp only [Int.reduceToNat] at *; omega)) ?_ | refine hC.isub [1221] rfl rfl (by first | omega | (simp only [Int.reduceToNat] at *; omega)) ?_ | refine hC.imul [1221] rfl rfl (by first | omega | (simp only [Int.reduceToNat] at *; omega)) ?_ | refine hC.iinc [1221] rfl rfl rfl rfl (by first | omega | (simp only [Int.reduceToNat] at *; omega)) ?_ | refine hC.pfw (W := cx_LW) [1221] rfl rfl rfl rfl rfl rfl ?_ ?_ | refine hC.iaw (W := cx_LW) [1221] rfl rfl rfl rfl ?_ ?_ | refine hC.law (W := cx_LW) [1221] rfl rfl rfl rfl ?_ ?_ | refine hC.cpw (W := cx_LW) [1221] rfl rfl rfl rfl rfl rfl ?_ | refine hC.cpl (W := cx_LW) [1221] rfl rfl rfl rfl rfl rfl ?_ | refine hC.go [1221] _ rfl rfl ?_ | (intro h; first | exact (h rfl).elim | (exfalso; cases h; done) | (dsimp only [kk_cP, kk_cN] at h) | skip) | (refine lw_x1 hC hI (by decide) (cr_byteAt l _ _ _ _ _ _ hI.cls _) rfl rfl rfl rfl rfl rfl (Nat.le_refl _) ?_; intro x O A hI) | (refine lw_m2 hC hI (by decide) (mm_byteAtI l _ _ _ _ hI.2.1) rfl rfl rfl rfl rfl rfl (Nat.le_refl _) ?_; intro x O A hI)
  all_goals first | omega | exact hC.sub (lx_L i) ⟨rfl, rfl, rfl, rfl, rfl, trivial⟩ (kn _ _ _ _ _ ⟨_, _, hI, (by first | exact hA.le (Or.inl rfl) | exact hA.le (Or.inr rfl) | assumption)⟩)
set_option maxRecDepth 100000 in
set_option maxHeartbeats 4000000 in
theorem lt_odds (iL : (Ln : Int) ≤ 100000) (i0 : 0 ≤ i) (i6 : i + 6 ≤ (Ln : Int)) (hC : kk_Clo l 200 en_M en_t_L_law (lx_c Ln xs) lx_R K) (hE : lw_E tl a b O A) (kn : ∀ tl a b O A, lw_E tl a b O A → K 1221 (lx_L i) [] (cx_LW O A)) : K 997 (lx_L i) [] (cx_LW O A) := by
  obtain ⟨Bc, Bm, hI, hA⟩ := hE
  repeat' first | refine hC.gw [1221] _ rfl rfl ?_ | refine And.intro ?_ ?_ | exact True.intro | refine hC.iadd [1221] rfl rfl (by first | omega | (simp only [Int.reduceToNat] at *; omega)) ?_ | refine hC.isub [1221] rfl rfl (by first | omega | (simp only [Int.reduceToNat] at *; omega)) ?_ | refine hC.imul [1221] rfl rfl (by first | omega | (simp only [Int.reduceToNat] at *; omega)) ?_ | refine hC.iinc [1221] rfl rfl rfl rfl (by first | omega | (simp only [Int.reduceToNat] at *; omega)) ?_ | refine hC.pfw (W := cx_LW) [1221] rfl rfl rfl rfl rfl rfl ?_ ?_ | refine hC.iaw (W := cx_LW) [1221] rfl rfl rfl rfl ?_ ?_ | refine hC.law (W := cx_LW) [1221] rfl rfl rfl rfl ?_ ?_ | refine hC.cpw (W := cx_LW) [1221] rfl rfl rfl rfl rfl rfl ?_ | refine hC.cpl (W := cx_LW) [1221] rfl rfl rfl rfl rfl rfl ?_ | refine hC.go [1221] _ rfl rfl ?_ | (intro h; first | exact (h rfl).elim | (exfalso; cases h; done) | (dsimp only [kk_cP, kk_cN] at h) | skip) | (refine lw_x1 hC hI (by decide) (cr_odds l _ _ _ _ _ _ hI.cls _ _ _ _) rfl rfl rfl rfl rfl rfl (Nat.le_refl _) ?_; intro x O A hI) | (refine lw_m2 hC hI (by decide) (mm_oddsI l _ _ _ _ _ _ _ hI.2.1) rfl rfl rfl rfl rfl rfl (Nat.le_refl _) ?_; intro x O A hI)
  all_goals first | omega | exact hC.sub (lx_L i) ⟨rfl, rfl, rfl, rfl, rfl, trivial⟩ (kn _ _ _ _ _ ⟨_, _, hI, (by first | exact hA.le (Or.inl rfl) | exact hA.le (Or.inr rfl) | assumption)⟩)
set_option maxRecDepth 100000 in
set_option maxHeartbeats 4000000 in
theorem lt_book (iL : (Ln : Int) ≤ 100000) (i0 : 0 ≤ i) (i6 : i + 6 ≤ (Ln : Int)) (hC : kk_Clo l 200 en_M en_t_L_law (lx_c Ln xs) lx_R K) (hE : lw_E tl a b O A) (kn : ∀ tl a b O A, lw_E tl a b O A → K 1221 (lx_L i) [] (cx_LW O A)) : K 1058 (lx_L i) [] (cx_LW O A) := by
  obtain ⟨Bc, Bm, hI, hA⟩ := hE
  repeat' first | refine hC.gw [1065, 1221] _ rfl rfl ?_ | refine And.intro ?_ ?_ | exact True.intro | refine hC.iadd [1065, 1221] rfl rfl (by first | omega | (simp only [Int.reduceToNat] at *; omega)) ?_ | refine hC.isub [1065, 1221] rfl rfl (by first | omega | (simp only [Int.reduceToNat] at *; omega)) ?_ | refine hC.imul [1065, 1221] rfl rfl (by first | omega | (simp only [Int.reduceToNat] at *; omega)) ?_ | refine hC.iinc [1065, 1221] rfl rfl rfl rfl (by first | omega | (simp only [Int.reduceToNat] at *; omega)) ?_ | refine hC.pfw (W := cx_LW) [1065, 1221] rfl rfl rfl rfl rfl rfl ?_ ?_ | refine hC.iaw (W := cx_LW) [1065, 1221] rfl rfl rfl rfl ?_ ?_ | refine hC.law (W := cx_LW) [1065, 1221] rfl rfl rfl rfl ?_ ?_ | refine hC.cpw (W := cx_LW) [1065, 1221] rfl rfl rfl rfl rfl rfl ?_ | refine hC.cpl (W := cx_LW) [1065, 1221] rfl rfl rfl rfl rfl rfl ?_ | refine hC.go [1065, 1221] _ rfl rfl ?_ | (intro h; first | exact (h rfl).elim | (exfalso; cases h; done) | (dsimp only [kk_cP, kk_cN] at h) | skip)
  all_goals first | omega | skip
  refine lw_x (Φ := fun rs O' A' => (∃ x, rs = [(0, x)]) ∧ ((¬ (0 ≤ xs (i + 1).toNat ∧ xs (i + 1).toNat ≤ 1) ∧ ci_J Bc tl a b O' A') ∨ ((0 ≤ xs (i + 1).toNat ∧ xs (i + 1).toNat ≤ 1) ∧ ∃ v, ci_J (cu Bc 15 v) 0 a b O' A' ∧ bk_fl (bk_lines (tk_ob tl 400 (fun i => tt_v 940 tl (Bc.2 2) i) (Bc.2 4)) (tk_nx tl 400 (fun i => tt_v 940 tl (Bc.2 2) i) (Bc.2 4)) (fun p => Bc.2 (5 + p)) 41 0 (tk_sk (fun i => tt_v 940 tl (Bc.2 2) i) 940 0)) v))) hC (cr_xBook l _ _ _ hI.cls _) (fun rs w' h => h) rfl rfl rfl rfl rfl rfl (Nat.le_refl _) ?_
  rintro rs O' A' ⟨⟨x, rfl⟩, hq⟩ O1 A1 e1 e2
  generalize hv : xs (i + 1).toNat = v at hq
  have hq : ∃ B' t', lw_H B' Bm t' a b tl a b O1 A1 ∧ ((¬ (0 ≤ v ∧ v ≤ 1) ∧ t' = tl ∧ B' = Bc) ∨ ((0 ≤ v ∧ v ≤ 1) ∧ t' = 0 ∧ ∃ z, B' = cu Bc 15 z ∧ bk_fl (bk_lines (tk_ob tl 400 (fun i => tt_v 940 tl (Bc.2 2) i) (Bc.2 4)) (tk_nx tl 400 (fun i => tt_v 940 tl (Bc.2 2) i) (Bc.2 4)) (fun p => Bc.2 (5 + p)) 41 0 (tk_sk (fun i => tt_v 940 tl (Bc.2 2) i) 940 0)) z)) := by
    rcases hq with ⟨q1, hJ⟩ | ⟨q1, z, hJ, q2⟩
    · exact ⟨Bc, tl, hI.nx hJ e1 e2, Or.inl ⟨q1, rfl, rfl⟩⟩
    · exact ⟨cu Bc 15 z, 0, hI.nx hJ e1 e2, Or.inr ⟨q1, rfl, z, rfl, q2⟩⟩
  obtain ⟨B', t', hI1, hq⟩ := hq
  clear e1 e2 hI
  repeat' first | refine hC.gw [1076, 1221] _ rfl rfl ?_ | refine And.intro ?_ ?_ | exact True.intro | refine hC.iadd [1076, 1221] rfl rfl (by first | omega | (simp only [Int.reduceToNat] at *; omega)) ?_ | refine hC.isub [1076, 1221] rfl rfl (by first | omega | (simp only [Int.reduceToNat] at *; omega)) ?_ | refine hC.imul [1076, 1221] rfl rfl (by first | omega | (simp only [Int.reduceToNat] at *; omega)) ?_ | refine hC.iinc [1076, 1221] rfl rfl rfl rfl (by first | omega | (simp only [Int.reduceToNat] at *; omega)) ?_ | refine hC.pfw (W := cx_LW) [1076, 1221] rfl rfl rfl rfl rfl rfl ?_ ?_ | refine hC.iaw (W := cx_LW) [1076, 1221] rfl rfl rfl rfl ?_ ?_ | refine hC.law (W := cx_LW) [1076, 1221] rfl rfl rfl rfl ?_ ?_ | refine hC.cpw (W := cx_LW) [1076, 1221] rfl rfl rfl rfl rfl rfl ?_ | refine hC.cpl (W := cx_LW) [1076, 1221] rfl rfl rfl rfl rfl rfl ?_ | refine hC.go [1076, 1221] _ rfl rfl ?_ | (intro h; first | exact (h rfl).elim | (exfalso; cases h; done) | (dsimp only [kk_cP, kk_cN] at h) | skip)
  all_goals first | omega | skip
  have eT : O1 168 2 = tl := hI1.2.2.1
  have fr := hI1.2.1.fr
  have ha : (fun i => tt_v 940 (O1 168 2) (cc_in pW_M A1 1) i) = (fun i => tt_v 940 tl (Bc.2 2) i) := by
    rw [eT, fr.2.2.1]
    exact hA.text
  have hG : mb_G (fun p => Bc.2 (5 + p)) (cc_in pW_M A1) := by
    obtain ⟨-, -, -, ⟨-, ⟨n0, n1, n2⟩, -, -, -, m0, m1, m2⟩, -⟩ := hA.1
    refine ⟨⟨(fr.1 0 (by decide)).trans n0, (fr.1 1 (by decide)).trans n1, (fr.1 2 (by decide)).trans n2⟩, ?_⟩
    rw [fr.2.1]
    exact ⟨m0, m1, m2⟩
  refine lw_m (Φ := fun rs F' A' => (∃ y, rs = [(0, y)]) ∧ A' 10 = cc_in pW_M A1 10 ∧ ((¬ (0 ≤ v ∧ v ≤ 1) ∧ mm_I Bm F' A' ∧ F' 2 = O1 168 2) ∨ ((0 ≤ v ∧ v ≤ 1) ∧ ∃ z, mm_I (fu Bm z) F' A' ∧ F' 2 = 0 ∧ bk_fl (bk_lines (tk_ob (O1 168 2) 400 (fun i => tt_v 940 tl (Bc.2 2) i) (Bc.2 4)) (tk_nx (O1 168 2) 400 (fun i => tt_v 940 tl (Bc.2 2) i) (Bc.2 4)) (fun p => Bc.2 (5 + p)) 41 0 (tk_sk (fun i => tt_v 940 tl (Bc.2 2) i) 940 0)) z))) hC (mm_xBook l _ _ _ _ hI1.2.1 hA.1.2.2.1 ha hG) (fun rs w' h => ?_) rfl rfl rfl rfl rfl rfl (Nat.le_refl _) ?_
  · rw [hv] at h
    obtain ⟨F', A', y, h1, h2, h3, h4⟩ := h
    exact ⟨F', A', h1, ⟨y, h2⟩, h3, h4⟩
  rintro rs F' A' ⟨⟨y, rfl⟩, h5, hf⟩ O2 A2 e1 e2 e3
  have hf : ∃ M', lw_H B' M' t' a b t' a b O2 A2 ∧ al B' M' t' a b := by
    rcases hq with ⟨q1, et, eb⟩ | ⟨q1, et, z, eb, q2⟩
    · rw [et, eb] at hI1 ⊢
      rcases hf with ⟨-, h3, h4⟩ | ⟨q3, -⟩
      · have hI2 := hI1.nm h3 e1 e2 e3
        rw [h5, show cc_in pW_M A1 10 0 = a from hI1.2.2.2.1, show cc_in pW_M A1 10 1 = b from hI1.2.2.2.2, show F' 2 = tl by omega] at hI2
        exact ⟨_, hI2, hA⟩
      · exact absurd q3 q1
    · rw [et, eb] at hI1 ⊢
      rcases hf with ⟨q3, -⟩ | ⟨-, z', h3, h4, q4⟩
      · exact absurd q1 q3
      · rw [eT] at q4
        have hz := q2.det q4
        subst hz
        have hI2 := hI1.nm h3 e1 e2 e3
        rw [h5, show cc_in pW_M A1 10 0 = a from hI1.2.2.2.1, show cc_in pW_M A1 10 1 = b from hI1.2.2.2.2, h4] at hI2
        exact ⟨_, hI2, (hA.le (Or.inr rfl)).flt _⟩
  obtain ⟨M', hI, hAe⟩ := hf
  clear hI1 e1 e2 e3 hq fr ha hG hA
  repeat' first | refine hC.gw [1221] _ rfl rfl ?_ | refine And.intro ?_ ?_ | exact True.intro | refine hC.iadd [1221] rfl rfl (by first | omega | (simp only [Int.reduceToNat] at *; omega)) ?_ | refine hC.isub [1221] rfl rfl (by first | omega | (simp only [Int.reduceToNat] at *; omega)) ?_ | refine hC.imul [1221] rfl rfl (by first | omega | (simp only [Int.reduceToNat] at *; omega)) ?_ | refine hC.iinc [1221] rfl rfl rfl rfl (by first | omega | (simp only [Int.reduceToNat] at *; omega)) ?_ | refine hC.pfw (W := cx_LW) [1221] rfl rfl rfl rfl rfl rfl ?_ ?_ | refine hC.iaw (W := cx_LW) [1221] rfl rfl rfl rfl ?_ ?_ | refine hC.law (W := cx_LW) [1221] rfl rfl rfl rfl ?_ ?_ | refine hC.cpw (W := cx_LW) [1221] rfl rfl rfl rfl rfl rfl ?_ | refine hC.cpl (W := cx_LW) [1221] rfl rfl rfl rfl rfl rfl ?_ | refine hC.go [1221] _ rfl rfl ?_ | (intro h; first | exact (h rfl).elim | (exfalso; cases h; done) | (dsimp only [kk_cP, kk_cN] at h) | skip)
  all_goals first | omega | exact hC.sub (lx_L i) ⟨rfl, rfl, rfl, rfl, rfl, trivial⟩ (kn _ _ _ _ _ ⟨_, _, hI, hAe⟩)
set_option maxRecDepth 100000 in
set_option maxHeartbeats 4000000 in
theorem lt_told (iL : (Ln : Int) ≤ 100000) (i0 : 0 ≤ i) (i6 : i + 6 ≤ (Ln : Int)) (hC : kk_Clo l 200 en_M en_t_L_law (lx_c Ln xs) lx_R K) (hE : lw_E tl a b O A) (kn : ∀ tl a b O A, lw_E tl a b O A → K 1221 (lx_L i) [] (cx_LW O A)) : K 1083 (lx_L i) [] (cx_LW O A) := by
  obtain ⟨Bc, Bm, hI, hA⟩ := hE
  repeat' first | refine hC.gw [1221] _ rfl rfl ?_ | refine And.intro ?_ ?_ | exact True.intro | refine hC.iadd [1221] rfl rfl (by first | omega | (simp only [Int.reduceToNat] at *; omega)) ?_ | refine hC.isub [1221] rfl rfl (by first | omega | (simp only [Int.reduceToNat] at *; omega)) ?_ | refine hC.imul [1221] rfl rfl (by first | omega | (simp only [Int.reduceToNat] at *; omega)) ?_ | refine hC.iinc [1221] rfl rfl rfl rfl (by first | omega | (simp only [Int.reduceToNat] at *; omega)) ?_ | refine hC.pfw (W := cx_LW) [1221] rfl rfl rfl rfl rfl rfl ?_ ?_ | refine hC.iaw (W := cx_LW) [1221] rfl rfl rfl rfl ?_ ?_ | refine hC.law (W := cx_LW) [1221] rfl rfl rfl rfl ?_ ?_ | refine hC.cpw (W := cx_LW) [1221] rfl rfl rfl rfl rfl rfl ?_ | refine hC.cpl (W := cx_LW) [1221] rfl rfl rfl rfl rfl rfl ?_ | refine hC.go [1221] _ rfl rfl ?_ | (intro h; first | exact (h rfl).elim | (exfalso; cases h; done) | (dsimp only [kk_cP, kk_cN] at h) | skip) | (refine lw_x1 hC hI (by decide) (cr_told l _ _ _ _ _ _ hI.cls _) rfl rfl rfl rfl rfl rfl (Nat.le_refl _) ?_; intro x O A hI) | (refine lw_m2 hC hI (by decide) (mm_toldI l _ _ _ _ hI.2.1) rfl rfl rfl rfl rfl rfl (Nat.le_refl _) ?_; intro x O A hI)
  all_goals first | omega | exact hC.sub (lx_L i) ⟨rfl, rfl, rfl, rfl, rfl, trivial⟩ (kn _ _ _ _ _ ⟨_, _, hI, (by first | exact hA.le (Or.inl rfl) | exact hA.le (Or.inr rfl) | assumption)⟩)
set_option maxRecDepth 100000 in
set_option maxHeartbeats 4000000 in
theorem lt_sentence (iL : (Ln : Int) ≤ 100000) (i0 : 0 ≤ i) (i6 : i + 6 ≤ (Ln : Int)) (hC : kk_Clo l 200 en_M en_t_L_law (lx_c Ln xs) lx_R K) (hE : lw_E tl a b O A) (kn : ∀ tl a b O A, lw_E tl a b O A → K 1221 (lx_L i) [] (cx_LW O A)) : K 1108 (lx_L i) [] (cx_LW O A) := by
  obtain ⟨Bc, Bm, hI, hA⟩ := hE
  repeat' first | refine hC.gw [1221] _ rfl rfl ?_ | refine And.intro ?_ ?_ | exact True.intro | refine hC.iadd [1221] rfl rfl (by first | omega | (simp only [Int.reduceToNat] at *; omega)) ?_ | refine hC.isub [1221] rfl rfl (by first | omega | (simp only [Int.reduceToNat] at *; omega)) ?_ | refine hC.imul [1221] rfl rfl (by first | omega | (simp only [Int.reduceToNat] at *; omega)) ?_ | refine hC.iinc [1221] rfl rfl rfl rfl (by first | omega | (simp only [Int.reduceToNat] at *; omega)) ?_ | refine hC.pfw (W := cx_LW) [1221] rfl rfl rfl rfl rfl rfl ?_ ?_ | refine hC.iaw (W := cx_LW) [1221] rfl rfl rfl rfl ?_ ?_ | refine hC.law (W := cx_LW) [1221] rfl rfl rfl rfl ?_ ?_ | refine hC.cpw (W := cx_LW) [1221] rfl rfl rfl rfl rfl rfl ?_ | refine hC.cpl (W := cx_LW) [1221] rfl rfl rfl rfl rfl rfl ?_ | refine hC.go [1221] _ rfl rfl ?_ | (intro h; first | exact (h rfl).elim | (exfalso; cases h; done) | (dsimp only [kk_cP, kk_cN] at h) | skip)
  refine lw_x (Φ := fun rs O' A' => ∃ v, ci_J (cu Bc 15 v) 0 a b O' A' ∧ ∃ r x, sE tl 200 (fun i => tt_v 940 tl (Bc.2 2) i) (Bc.2 4) Bc.2 0 0 (tk_sk (fun i => tt_v 940 tl (Bc.2 2) i) 940 0) 0 r ∧ rs = [(0, x)] ∧ sn_ans (tk_ob tl 200 (fun i => tt_v 940 tl (Bc.2 2) i) (Bc.2 4)) r x v) hC (cr_xSentence l _ _ _ hI.cls) (fun rs w' h => h) rfl rfl rfl rfl rfl rfl (Nat.le_refl _) ?_
  rintro rs O' A' ⟨v, hJ, r, x, hR, rfl, hx⟩ O1 A1 e1 e2
  have hI1 := hI.nx hJ e1 e2
  clear hJ e1 e2 hI
  repeat' first | refine hC.gw [1221] _ rfl rfl ?_ | refine And.intro ?_ ?_ | exact True.intro | refine hC.iadd [1221] rfl rfl (by first | omega | (simp only [Int.reduceToNat] at *; omega)) ?_ | refine hC.isub [1221] rfl rfl (by first | omega | (simp only [Int.reduceToNat] at *; omega)) ?_ | refine hC.imul [1221] rfl rfl (by first | omega | (simp only [Int.reduceToNat] at *; omega)) ?_ | refine hC.iinc [1221] rfl rfl rfl rfl (by first | omega | (simp only [Int.reduceToNat] at *; omega)) ?_ | refine hC.pfw (W := cx_LW) [1221] rfl rfl rfl rfl rfl rfl ?_ ?_ | refine hC.iaw (W := cx_LW) [1221] rfl rfl rfl rfl ?_ ?_ | refine hC.law (W := cx_LW) [1221] rfl rfl rfl rfl ?_ ?_ | refine hC.cpw (W := cx_LW) [1221] rfl rfl rfl rfl rfl rfl ?_ | refine hC.cpl (W := cx_LW) [1221] rfl rfl rfl rfl rfl rfl ?_ | refine hC.go [1221] _ rfl rfl ?_ | (intro h; first | exact (h rfl).elim | (exfalso; cases h; done) | (dsimp only [kk_cP, kk_cN] at h) | skip)
  have eT : O1 168 2 = tl := hI1.2.2.1
  have fr := hI1.2.1.fr
  have ha : (fun i => tt_v 940 (O1 168 2) (cc_in pW_M A1 1) i) = (fun i => tt_v 940 tl (Bc.2 2) i) := by
    rw [eT, fr.2.2.1]
    exact hA.text
  have hG : mm_hG Bc.2 (cc_in pW_M A1) := by
    obtain ⟨-, -, -, ⟨-, ⟨-, n1, -⟩, -, -, -, -, n8, -⟩, -⟩ := hA.1
    refine ⟨(fr.1 1 (by decide)).trans n1, ?_⟩
    rw [fr.2.1]
    exact n8
  refine lw_m (Φ := fun rs F' A' => mm_I (fu Bm (F' 10)) F' A' ∧ F' 2 = 0 ∧ A' 10 = cc_in pW_M A1 10 ∧ ∃ r' y, sE (O1 168 2) 200 (fun i => tt_v 940 tl (Bc.2 2) i) (Bc.2 4) Bc.2 0 0 (tk_sk (fun i => tt_v 940 tl (Bc.2 2) i) 940 0) 0 r' ∧ rs = [(0, y)] ∧ sn_ans (tk_ob (O1 168 2) 200 (fun i => tt_v 940 tl (Bc.2 2) i) (Bc.2 4)) r' y (F' 10)) hC (mm_xSentence l _ _ _ hI1.2.1 hA.1.2.2.1 ha hG) (fun rs w' h => h) rfl rfl rfl rfl rfl rfl (Nat.le_refl _) ?_
  rintro rs F' A' ⟨h3, h4, h5, r', y, hR', rfl, hy⟩ O2 A2 e1 e2 e3
  rw [eT] at hR' hy
  have hI2 := hI1.nm h3 e1 e2 e3
  have er := hR.det hR'
  subst er
  have hxy : x = y := (hx.det hy).1
  have hv : v = F' 10 := (hx.det hy).2
  subst hv
  have hAe : al (cu Bc 15 (F' 10)) (fu Bm (F' 10)) 0 a b := (hA.le (Or.inr rfl)).flt _
  rw [h5, show cc_in pW_M A1 10 0 = a from hI1.2.2.2.1, show cc_in pW_M A1 10 1 = b from hI1.2.2.2.2, h4] at hI2
  clear hI1 e1 e2 e3 hx hy hR hR' ha hG fr
  have hI := hI2
  clear hI2
  repeat' first | refine hC.gw [1221] _ rfl rfl ?_ | refine And.intro ?_ ?_ | exact True.intro | refine hC.iadd [1221] rfl rfl (by first | omega | (simp only [Int.reduceToNat] at *; omega)) ?_ | refine hC.isub [1221] rfl rfl (by first | omega | (simp only [Int.reduceToNat] at *; omega)) ?_ | refine hC.imul [1221] rfl rfl (by first | omega | (simp only [Int.reduceToNat] at *; omega)) ?_ | refine hC.iinc [1221] rfl rfl rfl rfl (by first | omega | (simp only [Int.reduceToNat] at *; omega)) ?_ | refine hC.pfw (W := cx_LW) [1221] rfl rfl rfl rfl rfl rfl ?_ ?_ | refine hC.iaw (W := cx_LW) [1221] rfl rfl rfl rfl ?_ ?_ | refine hC.law (W := cx_LW) [1221] rfl rfl rfl rfl ?_ ?_ | refine hC.cpw (W := cx_LW) [1221] rfl rfl rfl rfl rfl rfl ?_ | refine hC.cpl (W := cx_LW) [1221] rfl rfl rfl rfl rfl rfl ?_ | refine hC.go [1221] _ rfl rfl ?_ | (intro h; first | exact (h rfl).elim | (exfalso; cases h; done) | (dsimp only [kk_cP, kk_cN] at h) | skip)
  all_goals first | omega | exact absurd hxy (by assumption) | exact hC.sub (lx_L i) ⟨rfl, rfl, rfl, rfl, rfl, trivial⟩ (kn _ _ _ _ _ ⟨_, _, hI, hAe⟩)
set_option maxRecDepth 100000 in
set_option maxHeartbeats 4000000 in
theorem lt_said (iL : (Ln : Int) ≤ 100000) (i0 : 0 ≤ i) (i6 : i + 6 ≤ (Ln : Int)) (hC : kk_Clo l 200 en_M en_t_L_law (lx_c Ln xs) lx_R K) (hE : lw_E tl a b O A) (kn : ∀ tl a b O A, lw_E tl a b O A → K 1221 (lx_L i) [] (cx_LW O A)) : K 1121 (lx_L i) [] (cx_LW O A) := by
  obtain ⟨Bc, Bm, hI, hA⟩ := hE
  repeat' first | refine hC.gw [1221] _ rfl rfl ?_ | refine And.intro ?_ ?_ | exact True.intro | refine hC.iadd [1221] rfl rfl (by first | omega | (simp only [Int.reduceToNat] at *; omega)) ?_ | refine hC.isub [1221] rfl rfl (by first | omega | (simp only [Int.reduceToNat] at *; omega)) ?_ | refine hC.imul [1221] rfl rfl (by first | omega | (simp only [Int.reduceToNat] at *; omega)) ?_ | refine hC.iinc [1221] rfl rfl rfl rfl (by first | omega | (simp only [Int.reduceToNat] at *; omega)) ?_ | refine hC.pfw (W := cx_LW) [1221] rfl rfl rfl rfl rfl rfl ?_ ?_ | refine hC.iaw (W := cx_LW) [1221] rfl rfl rfl rfl ?_ ?_ | refine hC.law (W := cx_LW) [1221] rfl rfl rfl rfl ?_ ?_ | refine hC.cpw (W := cx_LW) [1221] rfl rfl rfl rfl rfl rfl ?_ | refine hC.cpl (W := cx_LW) [1221] rfl rfl rfl rfl rfl rfl ?_ | refine hC.go [1221] _ rfl rfl ?_ | (intro h; first | exact (h rfl).elim | (exfalso; cases h; done) | (dsimp only [kk_cP, kk_cN] at h) | skip) | (refine lw_x1 hC hI (by decide) (cr_said l _ _ _ _ _ _ hI.cls _) rfl rfl rfl rfl rfl rfl (Nat.le_refl _) ?_; intro x O A hI) | (refine lw_m2 hC hI (by decide) (mm_saidI l _ _ _ _ hI.2.1) rfl rfl rfl rfl rfl rfl (Nat.le_refl _) ?_; intro x O A hI)
  all_goals first | omega | exact hC.sub (lx_L i) ⟨rfl, rfl, rfl, rfl, rfl, trivial⟩ (kn _ _ _ _ _ ⟨_, _, hI, (by first | exact hA.le (Or.inl rfl) | exact hA.le (Or.inr rfl) | assumption)⟩)
set_option maxRecDepth 100000 in
set_option maxHeartbeats 4000000 in
theorem lt_image (iL : (Ln : Int) ≤ 100000) (i0 : 0 ≤ i) (i6 : i + 6 ≤ (Ln : Int)) (hC : kk_Clo l 200 en_M en_t_L_law (lx_c Ln xs) lx_R K) (hE : lw_E tl a b O A) (kn : ∀ tl a b O A, lw_E tl a b O A → K 1221 (lx_L i) [] (cx_LW O A)) : K 1146 (lx_L i) [] (cx_LW O A) := by
  obtain ⟨Bc, Bm, hI, hA⟩ := hE
  repeat' first | refine hC.gw [1153, 1221] _ rfl rfl ?_ | refine And.intro ?_ ?_ | exact True.intro | refine hC.iadd [1153, 1221] rfl rfl (by first | omega | (simp only [Int.reduceToNat] at *; omega)) ?_ | refine hC.isub [1153, 1221] rfl rfl (by first | omega | (simp only [Int.reduceToNat] at *; omega)) ?_ | refine hC.imul [1153, 1221] rfl rfl (by first | omega | (simp only [Int.reduceToNat] at *; omega)) ?_ | refine hC.iinc [1153, 1221] rfl rfl rfl rfl (by first | omega | (simp only [Int.reduceToNat] at *; omega)) ?_ | refine hC.pfw (W := cx_LW) [1153, 1221] rfl rfl rfl rfl rfl rfl ?_ ?_ | refine hC.iaw (W := cx_LW) [1153, 1221] rfl rfl rfl rfl ?_ ?_ | refine hC.law (W := cx_LW) [1153, 1221] rfl rfl rfl rfl ?_ ?_ | refine hC.cpw (W := cx_LW) [1153, 1221] rfl rfl rfl rfl rfl rfl ?_ | refine hC.cpl (W := cx_LW) [1153, 1221] rfl rfl rfl rfl rfl rfl ?_ | refine hC.go [1153, 1221] _ rfl rfl ?_ | (intro h; first | exact (h rfl).elim | (exfalso; cases h; done) | (dsimp only [kk_cP, kk_cN] at h) | skip)
  all_goals first | omega | skip
  refine lw_x (Φ := fun rs O' A' => ∃ a' b' B', ci_J B' tl a' b' O' A' ∧ ((xs (i + 1).toNat = 0 ∧ a' = 1 ∧ b' = b ∧ rs = [(0, 1)] ∧ ci_mvhhi0 Bc Bc B') ∨ (xs (i + 1).toNat = 1 ∧ a' = a ∧ b' = 1 ∧ rs = [(0, 1)] ∧ ci_mvhhi1 Bc Bc B') ∨ ((xs (i + 1).toNat < 0 ∨ 1 < xs (i + 1).toNat) ∧ a' = a ∧ b' = b ∧ rs = [(0, 0)] ∧ B' = Bc))) hC (cr_image l _ _ _ _ _ _ hI.cls _) (fun rs w' ⟨O', A', a', b', B', h1, h2⟩ => ⟨O', A', h1, a', b', B', h2⟩) rfl rfl rfl rfl rfl rfl (Nat.le_refl _) ?_
  rintro rs O' A' ⟨a', b', B', hJ, hrs⟩ O1 A1 e1 e2
  have hI1 := hI.nx hJ e1 e2
  generalize hv : xs (i + 1).toNat = v at hrs
  have hx : ∃ x, rs = [(0, x)] ∧ ((v = 0 ∧ a' = 1 ∧ b' = b ∧ x = 1 ∧ ci_mvhhi0 Bc Bc B') ∨ (v = 1 ∧ a' = a ∧ b' = 1 ∧ x = 1 ∧ ci_mvhhi1 Bc Bc B') ∨ ((v < 0 ∨ 1 < v) ∧ a' = a ∧ b' = b ∧ x = 0 ∧ B' = Bc)) := by
    rcases hrs with ⟨h1, h2, h3, h, hm⟩ | ⟨h1, h2, h3, h, hm⟩ | ⟨h1, h2, h3, h, hm⟩
    · exact ⟨_, h, Or.inl ⟨h1, h2, h3, rfl, hm⟩⟩
    · exact ⟨_, h, Or.inr (Or.inl ⟨h1, h2, h3, rfl, hm⟩)⟩
    · exact ⟨_, h, Or.inr (Or.inr ⟨h1, h2, h3, rfl, hm⟩)⟩
  obtain ⟨x, rfl, hx⟩ := hx
  clear hrs hJ e1 e2 hI
  repeat' first | refine hC.gw [1164, 1221] _ rfl rfl ?_ | refine And.intro ?_ ?_ | exact True.intro | refine hC.iadd [1164, 1221] rfl rfl (by first | omega | (simp only [Int.reduceToNat] at *; omega)) ?_ | refine hC.isub [1164, 1221] rfl rfl (by first | omega | (simp only [Int.reduceToNat] at *; omega)) ?_ | refine hC.imul [1164, 1221] rfl rfl (by first | omega | (simp only [Int.reduceToNat] at *; omega)) ?_ | refine hC.iinc [1164, 1221] rfl rfl rfl rfl (by first | omega | (simp only [Int.reduceToNat] at *; omega)) ?_ | refine hC.pfw (W := cx_LW) [1164, 1221] rfl rfl rfl rfl rfl rfl ?_ ?_ | refine hC.iaw (W := cx_LW) [1164, 1221] rfl rfl rfl rfl ?_ ?_ | refine hC.law (W := cx_LW) [1164, 1221] rfl rfl rfl rfl ?_ ?_ | refine hC.cpw (W := cx_LW) [1164, 1221] rfl rfl rfl rfl rfl rfl ?_ | refine hC.cpl (W := cx_LW) [1164, 1221] rfl rfl rfl rfl rfl rfl ?_ | refine hC.go [1164, 1221] _ rfl rfl ?_ | (intro h; first | exact (h rfl).elim | (exfalso; cases h; done) | (dsimp only [kk_cP, kk_cN] at h) | skip)
  all_goals first | omega | skip
  have fr := hI1.2.1.fr
  refine lw_m (Φ := fun rs F' A' => mm_I (sb Bm A') F' A' ∧ F' 2 = O1 168 2 ∧ ∃ y, rs = [(0, y)] ∧ ((v = 0 ∧ A' 10 0 = 1 ∧ A' 10 1 = A1 178 1 ∧ y = 1) ∨ (v = 1 ∧ A' 10 0 = A1 178 0 ∧ A' 10 1 = 1 ∧ y = 1) ∨ ((v < 0 ∨ 1 < v) ∧ A' 10 0 = A1 178 0 ∧ A' 10 1 = A1 178 1 ∧ y = 0)) ∧ al B' (sb Bm A') tl a' b') hC (mm_imageI l _ _ _ _ hI1.2.1) (fun rs w' h => ?_) rfl rfl rfl rfl rfl rfl (Nat.le_refl _) ?_
  · rw [hv] at h
    obtain ⟨F', A', h1, h2, h3, h4⟩ := h
    refine ⟨F', A', h1, h2, h3, ?_⟩
    rcases h4 with ⟨g1, g2, rfl, g4, g5⟩ | ⟨g1, rfl, g4⟩
    · refine ⟨1, rfl, ?_, ?_⟩
      · rw [g4]
        rcases (show v = 0 ∨ v = 1 by omega) with g | g
        · rw [g]; exact Or.inl ⟨rfl, rfl, rfl, rfl⟩
        · rw [g]; exact Or.inr (Or.inl ⟨rfl, rfl, rfl, rfl⟩)
      · rcases hx with ⟨j1, j2, j3, -, jm⟩ | ⟨j1, j2, j3, -, jm⟩ | ⟨j1, -⟩
        · rw [j2, j3]; rw [j1] at g5; exact hA.img0 fr jm g5
        · rw [j2, j3]; rw [j1] at g5; exact hA.img1 fr jm g5
        · omega
    · subst g4
      refine ⟨0, rfl, Or.inr (Or.inr ⟨by omega, rfl, rfl, rfl⟩), ?_⟩
      rcases hx with ⟨j1, -⟩ | ⟨j1, -⟩ | ⟨j1, j2, j3, -, jm⟩
      · omega
      · omega
      · rw [j2, j3, jm]; exact hA.self fr
  rintro rs F' A' ⟨h3, h4, y, rfl, hy, hAe⟩ O2 A2 e1 e2 e3
  have hI2 := hI1.nm h3 e1 e2 e3
  have eT : O1 168 2 = tl := hI1.2.2.1
  have eA : A1 178 0 = a := hI1.2.2.2.1
  have eB : A1 178 1 = b := hI1.2.2.2.2
  have hx' : (v = 0 ∧ a' = 1 ∧ b' = b ∧ x = 1) ∨ (v = 1 ∧ a' = a ∧ b' = 1 ∧ x = 1) ∨ ((v < 0 ∨ 1 < v) ∧ a' = a ∧ b' = b ∧ x = 0) := by
    rcases hx with ⟨j1, j2, j3, j4, -⟩ | ⟨j1, j2, j3, j4, -⟩ | ⟨j1, j2, j3, j4, -⟩
    · exact Or.inl ⟨j1, j2, j3, j4⟩
    · exact Or.inr (Or.inl ⟨j1, j2, j3, j4⟩)
    · exact Or.inr (Or.inr ⟨j1, j2, j3, j4⟩)
  rw [show F' 2 = tl by omega, show A' 10 0 = a' by omega, show A' 10 1 = b' by omega] at hI2
  have hxy : x = y := by omega
  clear hI1 e1 e2 e3 hx hx' hy
  have hI := hI2
  repeat' first | refine hC.gw [1221] _ rfl rfl ?_ | refine And.intro ?_ ?_ | exact True.intro | refine hC.iadd [1221] rfl rfl (by first | omega | (simp only [Int.reduceToNat] at *; omega)) ?_ | refine hC.isub [1221] rfl rfl (by first | omega | (simp only [Int.reduceToNat] at *; omega)) ?_ | refine hC.imul [1221] rfl rfl (by first | omega | (simp only [Int.reduceToNat] at *; omega)) ?_ | refine hC.iinc [1221] rfl rfl rfl rfl (by first | omega | (simp only [Int.reduceToNat] at *; omega)) ?_ | refine hC.pfw (W := cx_LW) [1221] rfl rfl rfl rfl rfl rfl ?_ ?_ | refine hC.iaw (W := cx_LW) [1221] rfl rfl rfl rfl ?_ ?_ | refine hC.law (W := cx_LW) [1221] rfl rfl rfl rfl ?_ ?_ | refine hC.cpw (W := cx_LW) [1221] rfl rfl rfl rfl rfl rfl ?_ | refine hC.cpl (W := cx_LW) [1221] rfl rfl rfl rfl rfl rfl ?_ | refine hC.go [1221] _ rfl rfl ?_ | (intro h; first | exact (h rfl).elim | (exfalso; cases h; done) | (dsimp only [kk_cP, kk_cN] at h) | skip)
  all_goals first | omega | exact absurd hxy (by assumption) | exact hC.sub (lx_L i) ⟨rfl, rfl, rfl, rfl, rfl, trivial⟩ (kn _ _ _ _ _ ⟨_, _, hI, hAe⟩)
set_option maxRecDepth 100000 in
set_option maxHeartbeats 4000000 in
theorem lt_restore (iL : (Ln : Int) ≤ 100000) (i0 : 0 ≤ i) (i6 : i + 6 ≤ (Ln : Int)) (hC : kk_Clo l 200 en_M en_t_L_law (lx_c Ln xs) lx_R K) (hE : lw_E tl a b O A) (kn : ∀ tl a b O A, lw_E tl a b O A → K 1221 (lx_L i) [] (cx_LW O A)) : K 1171 (lx_L i) [] (cx_LW O A) := by
  obtain ⟨Bc, Bm, hI, hA⟩ := hE
  repeat' first | refine hC.gw [1178, 1221] _ rfl rfl ?_ | refine And.intro ?_ ?_ | exact True.intro | refine hC.iadd [1178, 1221] rfl rfl (by first | omega | (simp only [Int.reduceToNat] at *; omega)) ?_ | refine hC.isub [1178, 1221] rfl rfl (by first | omega | (simp only [Int.reduceToNat] at *; omega)) ?_ | refine hC.imul [1178, 1221] rfl rfl (by first | omega | (simp only [Int.reduceToNat] at *; omega)) ?_ | refine hC.iinc [1178, 1221] rfl rfl rfl rfl (by first | omega | (simp only [Int.reduceToNat] at *; omega)) ?_ | refine hC.pfw (W := cx_LW) [1178, 1221] rfl rfl rfl rfl rfl rfl ?_ ?_ | refine hC.iaw (W := cx_LW) [1178, 1221] rfl rfl rfl rfl ?_ ?_ | refine hC.law (W := cx_LW) [1178, 1221] rfl rfl rfl rfl ?_ ?_ | refine hC.cpw (W := cx_LW) [1178, 1221] rfl rfl rfl rfl rfl rfl ?_ | refine hC.cpl (W := cx_LW) [1178, 1221] rfl rfl rfl rfl rfl rfl ?_ | refine hC.go [1178, 1221] _ rfl rfl ?_ | (intro h; first | exact (h rfl).elim | (exfalso; cases h; done) | (dsimp only [kk_cP, kk_cN] at h) | skip)
  all_goals first | omega | skip
  refine lw_x (Φ := fun rs O' A' => ∃ B', ci_J B' tl a b O' A' ∧ ((xs (i + 1).toNat = 0 ∧ a ≠ 0 ∧ rs = [(0, 1)] ∧ ci_mvhhr0 Bc Bc B') ∨ (xs (i + 1).toNat = 1 ∧ b ≠ 0 ∧ rs = [(0, 1)] ∧ ci_mvhhr1 Bc Bc B') ∨ (((xs (i + 1).toNat < 0 ∨ 1 < xs (i + 1).toNat) ∨ (xs (i + 1).toNat = 0 ∧ a = 0) ∨ (xs (i + 1).toNat = 1 ∧ b = 0)) ∧ rs = [(0, 0)] ∧ B' = Bc))) hC (cr_restore l _ _ _ _ _ _ hI.cls _) (fun rs w' ⟨O', A', B', h1, h2⟩ => ⟨O', A', h1, B', h2⟩) rfl rfl rfl rfl rfl rfl (Nat.le_refl _) ?_
  rintro rs O' A' ⟨B', hJ, hrs⟩ O1 A1 e1 e2
  have hI1 := hI.nx hJ e1 e2
  generalize hv : xs (i + 1).toNat = v at hrs
  have hx : ∃ x, rs = [(0, x)] ∧ ((v = 0 ∧ a ≠ 0 ∧ x = 1 ∧ ci_mvhhr0 Bc Bc B') ∨ (v = 1 ∧ b ≠ 0 ∧ x = 1 ∧ ci_mvhhr1 Bc Bc B') ∨ (((v < 0 ∨ 1 < v) ∨ (v = 0 ∧ a = 0) ∨ (v = 1 ∧ b = 0)) ∧ x = 0 ∧ B' = Bc)) := by
    rcases hrs with ⟨h1, h2, h, hm⟩ | ⟨h1, h2, h, hm⟩ | ⟨h1, h, hm⟩
    · exact ⟨_, h, Or.inl ⟨h1, h2, rfl, hm⟩⟩
    · exact ⟨_, h, Or.inr (Or.inl ⟨h1, h2, rfl, hm⟩)⟩
    · exact ⟨_, h, Or.inr (Or.inr ⟨h1, rfl, hm⟩)⟩
  obtain ⟨x, rfl, ht⟩ := hx
  clear hrs hJ e1 e2 hI
  repeat' first | refine hC.gw [1189, 1221] _ rfl rfl ?_ | refine And.intro ?_ ?_ | exact True.intro | refine hC.iadd [1189, 1221] rfl rfl (by first | omega | (simp only [Int.reduceToNat] at *; omega)) ?_ | refine hC.isub [1189, 1221] rfl rfl (by first | omega | (simp only [Int.reduceToNat] at *; omega)) ?_ | refine hC.imul [1189, 1221] rfl rfl (by first | omega | (simp only [Int.reduceToNat] at *; omega)) ?_ | refine hC.iinc [1189, 1221] rfl rfl rfl rfl (by first | omega | (simp only [Int.reduceToNat] at *; omega)) ?_ | refine hC.pfw (W := cx_LW) [1189, 1221] rfl rfl rfl rfl rfl rfl ?_ ?_ | refine hC.iaw (W := cx_LW) [1189, 1221] rfl rfl rfl rfl ?_ ?_ | refine hC.law (W := cx_LW) [1189, 1221] rfl rfl rfl rfl ?_ ?_ | refine hC.cpw (W := cx_LW) [1189, 1221] rfl rfl rfl rfl rfl rfl ?_ | refine hC.cpl (W := cx_LW) [1189, 1221] rfl rfl rfl rfl rfl rfl ?_ | refine hC.go [1189, 1221] _ rfl rfl ?_ | (intro h; first | exact (h rfl).elim | (exfalso; cases h; done) | (dsimp only [kk_cP, kk_cN] at h) | skip)
  all_goals first | omega | skip
  have fr := hI1.2.1.fr
  have eA : cc_in pW_M A1 10 0 = a := hI1.2.2.2.1
  have eB : cc_in pW_M A1 10 1 = b := hI1.2.2.2.2
  refine lw_m (Φ := fun rs F' A' => mm_I (sb Bm A') F' A' ∧ F' 2 = O1 168 2 ∧ A' 10 = cc_in pW_M A1 10 ∧ al B' (sb Bm A') tl a b ∧ ∃ y, rs = [(0, y)]) hC (mm_restoreI l _ _ _ _ hI1.2.1) (fun rs w' h => ?_) rfl rfl rfl rfl rfl rfl (Nat.le_refl _) ?_
  · rw [hv] at h
    obtain ⟨F', A', h1, h2, h3, h4⟩ := h
    rcases h4 with ⟨g1, g2, g3, rfl, g5⟩ | ⟨g1, rfl, g4⟩
    · refine ⟨F', A', h1, h2, h3, g5.1 10 (by decide) (by decide), ?_, 1, rfl⟩
      rcases ht with ⟨j1, j2, -, jm⟩ | ⟨j1, j2, -, jm⟩ | ⟨j1, -⟩
      · rw [j1] at g5; exact hA.rst0 fr j2 jm g5
      · rw [j1] at g5; exact hA.rst1 fr j2 jm g5
      · exfalso
        rcases j1 with j1 | ⟨j1, j2⟩ | ⟨j1, j2⟩
        · omega
        · rw [j1] at g3; exact g3 (eA.trans j2)
        · rw [j1] at g3; exact g3 (eB.trans j2)
    · subst g4
      refine ⟨F', _, h1, h2, h3, rfl, ?_, 0, rfl⟩
      rcases ht with ⟨j1, j2, -, jm⟩ | ⟨j1, j2, -, jm⟩ | ⟨j1, -, jm⟩
      · exact absurd ⟨by omega, by omega, (by rw [j1]; exact fun q => j2 (eA.symm.trans q))⟩ g1
      · exact absurd ⟨by omega, by omega, (by rw [j1]; exact fun q => j2 (eB.symm.trans q))⟩ g1
      · rw [jm]; exact hA.self fr
  rintro rs F' A' ⟨h3, h4, h5, hAe, y, rfl⟩ O2 A2 e1 e2 e3
  have hI2 := hI1.nm h3 e1 e2 e3
  have eT : O1 168 2 = tl := hI1.2.2.1
  rw [h5, eA, eB, show F' 2 = tl by omega] at hI2
  clear hI1 e1 e2 e3 ht
  have hI := hI2
  repeat' first | refine hC.gw [1221] _ rfl rfl ?_ | refine And.intro ?_ ?_ | exact True.intro | refine hC.iadd [1221] rfl rfl (by first | omega | (simp only [Int.reduceToNat] at *; omega)) ?_ | refine hC.isub [1221] rfl rfl (by first | omega | (simp only [Int.reduceToNat] at *; omega)) ?_ | refine hC.imul [1221] rfl rfl (by first | omega | (simp only [Int.reduceToNat] at *; omega)) ?_ | refine hC.iinc [1221] rfl rfl rfl rfl (by first | omega | (simp only [Int.reduceToNat] at *; omega)) ?_ | refine hC.pfw (W := cx_LW) [1221] rfl rfl rfl rfl rfl rfl ?_ ?_ | refine hC.iaw (W := cx_LW) [1221] rfl rfl rfl rfl ?_ ?_ | refine hC.law (W := cx_LW) [1221] rfl rfl rfl rfl ?_ ?_ | refine hC.cpw (W := cx_LW) [1221] rfl rfl rfl rfl rfl rfl ?_ | refine hC.cpl (W := cx_LW) [1221] rfl rfl rfl rfl rfl rfl ?_ | refine hC.go [1221] _ rfl rfl ?_ | (intro h; first | exact (h rfl).elim | (exfalso; cases h; done) | (dsimp only [kk_cP, kk_cN] at h) | skip)
  all_goals first | omega | exact hC.sub (lx_L i) ⟨rfl, rfl, rfl, rfl, rfl, trivial⟩ (kn _ _ _ _ _ ⟨_, _, hI, hAe⟩)
set_option maxRecDepth 100000 in
set_option maxHeartbeats 4000000 in
theorem lt_count (iL : (Ln : Int) ≤ 100000) (i0 : 0 ≤ i) (i6 : i + 6 ≤ (Ln : Int)) (hC : kk_Clo l 200 en_M en_t_L_law (lx_c Ln xs) lx_R K) (hE : lw_E tl a b O A) (kn : ∀ tl a b O A, lw_E tl a b O A → K 1221 (lx_L i) [] (cx_LW O A)) : K 1196 (lx_L i) [] (cx_LW O A) := by
  obtain ⟨Bc, Bm, hI, hA⟩ := hE
  repeat' first | refine hC.gw [1203, 1221] _ rfl rfl ?_ | refine And.intro ?_ ?_ | exact True.intro | refine hC.iadd [1203, 1221] rfl rfl (by first | omega | (simp only [Int.reduceToNat] at *; omega)) ?_ | refine hC.isub [1203, 1221] rfl rfl (by first | omega | (simp only [Int.reduceToNat] at *; omega)) ?_ | refine hC.imul [1203, 1221] rfl rfl (by first | omega | (simp only [Int.reduceToNat] at *; omega)) ?_ | refine hC.iinc [1203, 1221] rfl rfl rfl rfl (by first | omega | (simp only [Int.reduceToNat] at *; omega)) ?_ | refine hC.pfw (W := cx_LW) [1203, 1221] rfl rfl rfl rfl rfl rfl ?_ ?_ | refine hC.iaw (W := cx_LW) [1203, 1221] rfl rfl rfl rfl ?_ ?_ | refine hC.law (W := cx_LW) [1203, 1221] rfl rfl rfl rfl ?_ ?_ | refine hC.cpw (W := cx_LW) [1203, 1221] rfl rfl rfl rfl rfl rfl ?_ | refine hC.cpl (W := cx_LW) [1203, 1221] rfl rfl rfl rfl rfl rfl ?_ | refine hC.go [1203, 1221] _ rfl rfl ?_ | (intro h; first | exact (h rfl).elim | (exfalso; cases h; done) | (dsimp only [kk_cP, kk_cN] at h) | skip)
  all_goals first | omega | skip
  refine lw_x hC (cr_count l _ _ _ _ _ _ hI.cls _) (fun rs w' h => h) rfl rfl rfl rfl rfl rfl (Nat.le_refl _) ?_
  rintro rs O' A' ⟨hJ, x, rfl, -⟩ O1 A1 e1 e2
  have hI1 := hI.nx hJ e1 e2
  clear hJ e1 e2 hI
  have hI := hI1
  clear hI1
  repeat' first | refine hC.gw [1221] _ rfl rfl ?_ | refine And.intro ?_ ?_ | exact True.intro | refine hC.iadd [1221] rfl rfl (by first | omega | (simp only [Int.reduceToNat] at *; omega)) ?_ | refine hC.isub [1221] rfl rfl (by first | omega | (simp only [Int.reduceToNat] at *; omega)) ?_ | refine hC.imul [1221] rfl rfl (by first | omega | (simp only [Int.reduceToNat] at *; omega)) ?_ | refine hC.iinc [1221] rfl rfl rfl rfl (by first | omega | (simp only [Int.reduceToNat] at *; omega)) ?_ | refine hC.pfw (W := cx_LW) [1221] rfl rfl rfl rfl rfl rfl ?_ ?_ | refine hC.iaw (W := cx_LW) [1221] rfl rfl rfl rfl ?_ ?_ | refine hC.law (W := cx_LW) [1221] rfl rfl rfl rfl ?_ ?_ | refine hC.cpw (W := cx_LW) [1221] rfl rfl rfl rfl rfl rfl ?_ | refine hC.cpl (W := cx_LW) [1221] rfl rfl rfl rfl rfl rfl ?_ | refine hC.go [1221] _ rfl rfl ?_ | (intro h; first | exact (h rfl).elim | (exfalso; cases h; done) | (dsimp only [kk_cP, kk_cN] at h) | skip) | (refine lw_m2 hC hI (by decide) (mm_countI l _ _ _ _ hI.2.1) rfl rfl rfl rfl rfl rfl (Nat.le_refl _) ?_; intro x O A hI)
  all_goals first | omega | exact hC.sub (lx_L i) ⟨rfl, rfl, rfl, rfl, rfl, trivial⟩ (kn _ _ _ _ _ ⟨_, _, hI, (by first | exact hA.le (Or.inl rfl) | exact hA.le (Or.inr rfl) | assumption)⟩)
end LT
