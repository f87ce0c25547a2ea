/-! THE CLASS, 23: a sentence is read -/
variable {Rs : Nat → Int}
section CAO
variable {l : Launch} {d : Nat} {M : List en_T} {t : en_T} {xc : kk_X} {R : Instr → List en_V → List kk_C → Prop} {K : kk_Q}
theorem kk_Clo.ao (hC : kk_Clo l d M t xc R K) {W W0 : cc_W} {ps : List Nat} (E : cc_E W W0 ps) (hn : va_nd ps = true) {t' : en_T} {as0 : List en_V} {O A : Nat → Nat → Int} {Φ : List en_V → (Nat → Nat → Int) → Prop} {d' : Nat} (hct : kk_Ctr l d' t' as0 (W0 (cc_in ps O) (cc_in ps A)) (fun rs w' => ∃ O', w' = W0 O' (cc_in ps A) ∧ Φ rs O')) {pc : Nat} {L : en_L} {st : List en_V} {z : kk_Z5} {as r : List en_V} (hf : en_find (en_te t) pc = some z) (hM : M[z.2.2.1]? = some t') (ht : en_take z.2.2.2.1 [] st = some (as, r)) (hc : kk_chk z t' as r (W O A) = true) (hp : as0.all (kk_wfv ps.length) = true) (ha : as = as0.map (kk_ren ps)) (hd : d' + 1 ≤ d)
    (h : ∀ rs O', Φ rs O' → K z.1 L (rs.map (kk_ren ps) ++ r) (W (cc_out O' O ps 0) A)) : K pc L st (W O A) := by
  refine hC.call hct ps hf hM ht hc (cc_prt E hp _ _) ha (E.1 O A) hd ?_
  rintro rs w0' ⟨O', rfl, hΦ⟩
  rw [E.2.1, cc_same hn]
  exact h rs O' hΦ
end CAO
def sh_J (T Bt Rs : Nat → Int) (H G O A : Nat → Nat → Int) : Prop := (ss_I O A ∧ 0 ≤ O 0 5) ∧ hr_J T Bt Rs (cc_in [5, 6, 7, 8, 9, 10, 11, 12, 13, 14, 15] O) (cc_in [5, 6, 7, 8, 9, 10, 11, 12, 13, 14, 15] A) ∧ ∀ p, 5 ≤ p → p < 12 → O p = H p ∧ A p = G p
section SHJ
variable {T Bt : Nat → Int} {H G O A O2 A2 : Nat → Nat → Int}
set_option maxRecDepth 100000 in
set_option maxHeartbeats 4000000 in
theorem sh_J.len (h : sh_J T Bt Rs H G O A) : 0 ≤ cc_in [12, 13, 14, 15] O 2 1 ∧ cc_in [12, 13, 14, 15] O 2 1 ≤ 940 := hr_J.len h.2.1
set_option maxRecDepth 100000 in
set_option maxHeartbeats 4000000 in
theorem sh_J.S (h : sh_J T Bt Rs H G O A) : ss_I (cc_in [0, 1, 2, 3, 4] O) (cc_in [0, 1, 2, 3, 4] A) := h.1.1
set_option maxRecDepth 100000 in
set_option maxHeartbeats 4000000 in
theorem sh_J.out (h : sh_J T Bt Rs H G O A) (hk : O2 2 = cc_in [12, 13, 14, 15] O 2) : sh_J T Bt Rs H G (cc_out O2 O [12, 13, 14, 15] 0) A := by
  refine ⟨h.1, ⟨h.2.1.1, h.2.1.2.1, h.2.1.2.2.1, (show O2 2 = T from hk.trans h.2.1.2.2.2.1), h.2.1.2.2.2.2.1, h.2.1.2.2.2.2.2⟩, fun p h1 h2 => ?_⟩
  rw [cc_out_out (by simp; omega)]
  exact h.2.2 p h1 h2
set_option maxRecDepth 100000 in
set_option maxHeartbeats 4000000 in
theorem sh_J.add (h : sh_J T Bt Rs H G O A) (hI : ss_I O2 A2) (e5 : O2 0 5 = cc_in [0, 1, 2, 3, 4] O 0 5) : sh_J T Bt Rs H G (cc_out O2 O [0, 1, 2, 3, 4] 0) (cc_out A2 A [0, 1, 2, 3, 4] 0) := by
  refine ⟨⟨hI, ?_⟩, ⟨h.2.1.1, h.2.1.2.1, h.2.1.2.2.1, h.2.1.2.2.2.1, h.2.1.2.2.2.2.1, h.2.1.2.2.2.2.2⟩, fun p h1 h2 => ?_⟩
  · show 0 ≤ O2 0 5
    rw [e5]
    exact h.1.2
  · rw [cc_out_out (by simp; omega), cc_out_out (by simp; omega)]
    exact h.2.2 p h1 h2
set_option maxRecDepth 100000 in
set_option maxHeartbeats 4000000 in
theorem sh_J.ones (h : sh_J T Bt Rs H G O A) {v : Int} (hv : 0 ≤ v) : sh_J T Bt Rs H G (mm_up O 0 (kk_up (O 0) 5 v)) A := by
  refine ⟨⟨h.1.1, hv⟩, ⟨h.2.1.1, h.2.1.2.1, h.2.1.2.2.1, h.2.1.2.2.2.1, h.2.1.2.2.2.2.1, h.2.1.2.2.2.2.2⟩, fun p h1 h2 => ?_⟩
  rw [mm_up_ne (by omega)]
  exact h.2.2 p h1 h2
set_option maxRecDepth 100000 in
set_option maxHeartbeats 4000000 in
theorem sh_J.find (h : sh_J T Bt Rs H G O A) (h3 : hr_J T Bt Rs O2 (cc_in [5, 6, 7, 8, 9, 10, 11, 12, 13, 14, 15] A)) (hO : ∀ p, p < 7 → O2 p = cc_in [5, 6, 7, 8, 9, 10, 11, 12, 13, 14, 15] O p) : sh_J T Bt Rs H G (cc_out O2 O [5, 6, 7, 8, 9, 10, 11, 12, 13, 14, 15] 0) A := by
  refine ⟨h.1, ⟨h3.1, h3.2.1, h3.2.2.1, h3.2.2.2.1, h3.2.2.2.2.1, h3.2.2.2.2.2⟩, fun p h1 h2 => ⟨?_, (h.2.2 p h1 h2).2⟩⟩
  have e := (h.2.2 p h1 h2).1
  match p, h1, h2, e with
  | 5, _, _, e => exact (hO 0 (by decide)).trans e
  | 6, _, _, e => exact (hO 1 (by decide)).trans e
  | 7, _, _, e => exact (hO 2 (by decide)).trans e
  | 8, _, _, e => exact (hO 3 (by decide)).trans e
  | 9, _, _, e => exact (hO 4 (by decide)).trans e
  | 10, _, _, e => exact (hO 5 (by decide)).trans e
  | 11, _, _, e => exact (hO 6 (by decide)).trans e
end SHJ
def sh_Q (T Bt Rs : Nat → Int) (H G : Nat → Nat → Int) : List en_V → List kk_C → Prop := fun rs w' => ∃ O' A', w' = cx_SHR O' A' ∧ sh_J T Bt Rs H G O' A' ∧ (rs = [(0, 1)] ∨ rs = [(0, 0)])
set_option maxRecDepth 100000 in
set_option maxHeartbeats 4000000 in
theorem ss_beginsOne (l : Launch) (d : Nat) (O A : Nat → Nat → Int) : kk_Ctr l (d + 1) en_t_X7_beginsOne [(4, 0)] (cx_R O A) (fun rs w' => w' = cx_R O A ∧ (rs = [(0, 1)] ∨ rs = [(0, 0)])) := by
  refine kk_ctr en_hM (List.mem_of_getElem? (i := 149) rfl) rfl (Nat.le_of_ble_eq_true rfl) (fun K hC => ?_)
  repeat' first | refine hC.gw [] _ rfl rfl ?_ | refine And.intro ?_ ?_ | exact True.intro | refine hC.iadd [] rfl rfl (by first | omega | (simp only [Int.reduceToNat] at *; omega)) ?_ | refine hC.isub [] rfl rfl (by first | omega | (simp only [Int.reduceToNat] at *; omega)) ?_ | refine hC.imul [] rfl rfl (by first | omega | (simp only [Int.reduceToNat] at *; omega)) ?_ | refine hC.iinc [] rfl rfl rfl rfl (by first | omega | (simp only [Int.reduceToNat] at *; omega)) ?_ | refine hC.pfw (W := cx_R) [] rfl rfl rfl rfl rfl rfl ?_ ?_ | refine hC.iaw (W := cx_R) [] rfl rfl rfl rfl ?_ ?_ | refine hC.law (W := cx_R) [] rfl rfl rfl rfl ?_ ?_ | refine hC.cpw (W := cx_R) [] rfl rfl rfl rfl rfl rfl ?_ | refine hC.cpl (W := cx_R) [] rfl rfl rfl rfl rfl rfl ?_ | refine hC.go [] _ rfl rfl ?_ | (intro h; first | exact (h rfl).elim | (exfalso; cases h; done) | (dsimp only [kk_cP, kk_cN] at h) | skip) | (refine hC.call (xx_isWithin l _ _ _ _) [] rfl rfl rfl rfl rfl rfl trivial (Nat.le_refl _) ?_; rintro rs w' ⟨rfl, ⟨rfl, w1, w2⟩ | ⟨rfl, w1⟩⟩)
  all_goals first | rfl | omega | exact ⟨_, rfl⟩ | exact Or.inl rfl | exact Or.inr rfl | (simp only [Int.reduceToNat] at *; omega)
set_option maxRecDepth 100000 in
set_option maxHeartbeats 4000000 in
theorem sh_readMonk (l : Launch) (d : Nat) (T Bt : Nat → Int) (H G O A : Nat → Nat → Int) (p : Int) (hJ : sh_J T Bt Rs H G O A) : kk_Ctr l (d + 4) en_t_X7_readMonk [(4, 0), (4, 12), (4, 5), (0, p)] (cx_SHR O A) (sh_Q T Bt Rs H G) := by
  have c4 : A 6 1 ≤ 4 := hJ.2.1.1.2.1.2
  refine kk_ctr en_hM (List.mem_of_getElem? (i := 150) rfl) rfl (Nat.le_of_ble_eq_true rfl) (fun K hC => ?_)
  repeat' first | refine hC.gw [] _ rfl rfl ?_ | refine And.intro ?_ ?_ | exact True.intro | refine hC.iadd [] rfl rfl (by first | omega | (simp only [Int.reduceToNat] at *; omega)) ?_ | refine hC.isub [] rfl rfl (by first | omega | (simp only [Int.reduceToNat] at *; omega)) ?_ | refine hC.imul [] rfl rfl (by first | omega | (simp only [Int.reduceToNat] at *; omega)) ?_ | refine hC.iinc [] rfl rfl rfl rfl (by first | omega | (simp only [Int.reduceToNat] at *; omega)) ?_ | refine hC.pfw (W := cx_SHR) [] rfl rfl rfl rfl rfl rfl ?_ ?_ | refine hC.iaw (W := cx_SHR) [] rfl rfl rfl rfl ?_ ?_ | refine hC.law (W := cx_SHR) [] rfl rfl rfl rfl ?_ ?_ | refine hC.cpw (W := cx_SHR) [] rfl rfl rfl rfl rfl rfl ?_ | refine hC.cpl (W := cx_SHR) [] rfl rfl rfl rfl rfl rfl ?_ | refine hC.go [] _ rfl rfl ?_ | (intro h; first | exact (h rfl).elim | (exfalso; cases h; done) | (dsimp only [kk_cP, kk_cN] at h) | skip)
  refine hC.ao ce_SHR_HR rfl (rr_findName l _ _ _ _ _ _ hJ.2.1 (by omega) (by omega)) rfl rfl rfl rfl rfl rfl (Nat.le_refl _) ?_
  rintro rs O3 ⟨hJ3, hO3, x, rfl, x1, x2⟩
  have x2 : x < A 6 1 := x2
  have hJ4 := hJ.find hJ3 hO3
  clear hJ hJ3 hO3
  repeat' first | refine hC.gw [] _ rfl rfl ?_ | refine And.intro ?_ ?_ | exact True.intro | refine hC.iadd [] rfl rfl (by first | omega | (simp only [Int.reduceToNat] at *; omega)) ?_ | refine hC.isub [] rfl rfl (by first | omega | (simp only [Int.reduceToNat] at *; omega)) ?_ | refine hC.imul [] rfl rfl (by first | omega | (simp only [Int.reduceToNat] at *; omega)) ?_ | refine hC.iinc [] rfl rfl rfl rfl (by first | omega | (simp only [Int.reduceToNat] at *; omega)) ?_ | refine hC.pfw (W := cx_SHR) [] rfl rfl rfl rfl rfl rfl ?_ ?_ | refine hC.iaw (W := cx_SHR) [] rfl rfl rfl rfl ?_ ?_ | refine hC.law (W := cx_SHR) [] rfl rfl rfl rfl ?_ ?_ | refine hC.cpw (W := cx_SHR) [] rfl rfl rfl rfl rfl rfl ?_ | refine hC.cpl (W := cx_SHR) [] rfl rfl rfl rfl rfl rfl ?_ | refine hC.go [] _ rfl rfl ?_ | (intro h; first | exact (h rfl).elim | (exfalso; cases h; done) | (dsimp only [kk_cP, kk_cN] at h) | skip) | (refine hC.at ce_SHR_S (ss_addPart l _ _ _ _ _ _ (sh_J.S (by assumption)) (by intro hp; omega)) rfl rfl rfl rfl rfl rfl (Nat.le_refl _) ?_; rintro rs O9 A9 ⟨rfl, hI9, e9⟩; have hJ9 := sh_J.add (by assumption) hI9 e9) | (refine rw_step hC ce_SHR_R rfl (sh_J.len (by assumption)) (Nat.le_refl _) rfl rfl rfl rfl rfl ?_; intro O2 hk2; have hJ2 := sh_J.out (by assumption) hk2)
  all_goals first | exact ⟨_, _, rfl, hJ2, Or.inl rfl⟩ | exact ⟨_, _, rfl, hJ4, Or.inr rfl⟩ | exact Or.inl rfl | exact Or.inr rfl | omega
set_option maxRecDepth 100000 in
set_option maxHeartbeats 4000000 in
theorem sh_readComparison (l : Launch) (d : Nat) (T Bt : Nat → Int) (H G O A : Nat → Nat → Int) (p : Int) (hp9 : p ≠ 19 ∧ p ≠ 20) (hJ : sh_J T Bt Rs H G O A) : kk_Ctr l (d + 4) en_t_X7_readComparison [(4, 0), (4, 12), (0, p)] (cx_SHR O A) (sh_Q T Bt Rs H G) := by
  refine kk_ctr en_hM (List.mem_of_getElem? (i := 151) rfl) rfl (Nat.le_of_ble_eq_true rfl) (fun K hC => ?_)
  repeat' first | refine hC.gw [] _ rfl rfl ?_ | refine And.intro ?_ ?_ | exact True.intro | refine hC.iadd [] rfl rfl (by first | omega | (simp only [Int.reduceToNat] at *; omega)) ?_ | refine hC.isub [] rfl rfl (by first | omega | (simp only [Int.reduceToNat] at *; omega)) ?_ | refine hC.imul [] rfl rfl (by first | omega | (simp only [Int.reduceToNat] at *; omega)) ?_ | refine hC.iinc [] rfl rfl rfl rfl (by first | omega | (simp only [Int.reduceToNat] at *; omega)) ?_ | refine hC.pfw (W := cx_SHR) [] rfl rfl rfl rfl rfl rfl ?_ ?_ | refine hC.iaw (W := cx_SHR) [] rfl rfl rfl rfl ?_ ?_ | refine hC.law (W := cx_SHR) [] rfl rfl rfl rfl ?_ ?_ | refine hC.cpw (W := cx_SHR) [] rfl rfl rfl rfl rfl rfl ?_ | refine hC.cpl (W := cx_SHR) [] rfl rfl rfl rfl rfl rfl ?_ | refine hC.go [] _ rfl rfl ?_ | (intro h; first | exact (h rfl).elim | (exfalso; cases h; done) | (dsimp only [kk_cP, kk_cN] at h) | skip) | (refine rw_refuse hC ce_SHR_R rfl _ (Nat.le_refl _) rfl rfl rfl rfl rfl ?_; intro O2 hk2; have hJ2 := sh_J.out (by assumption) hk2) | (refine rw_step hC ce_SHR_R rfl (sh_J.len (by assumption)) (Nat.le_refl _) rfl rfl rfl rfl rfl ?_; intro O2 hk2; have hJ2 := sh_J.out (by assumption) hk2) | (refine rw_number hC ce_SHR_R rfl _ _ (Nat.le_refl _) rfl rfl rfl rfl rfl ?_ ?_ <;> intro O2 hk2 <;> (try intro n1 n2) <;> (have hJ2 := sh_J.out (by assumption) hk2)) | (refine hC.at ce_SHR_S (ss_addPart l _ _ _ _ _ _ (sh_J.S (by assumption)) (by intro hp; omega)) rfl rfl rfl rfl rfl rfl (Nat.le_refl _) ?_; rintro rs O9 A9 ⟨rfl, hI9, e9⟩; have hJ9 := sh_J.add (by assumption) hI9 e9)
  all_goals first | exact ⟨_, _, rfl, hJ2, Or.inl rfl⟩ | exact ⟨_, _, rfl, hJ2, Or.inr rfl⟩ | exact Or.inl rfl | exact Or.inr rfl | omega
section SHR
variable (l : Launch) (e : Nat) (T Bt : Nat → Int) (H G : Nat → Nat → Int) (w : Int)
set_option maxRecDepth 100000 in
set_option maxHeartbeats 4000000 in
theorem sh_readAll (hO : ∀ O A, sh_J T Bt Rs H G O A → kk_Ctr l (e + 5) en_t_X7_readOne [(4, 0), (4, 12), (4, 5), (0, w)] (cx_SHR O A) (sh_Q T Bt Rs H G)) (O A : Nat → Nat → Int) (hJ : sh_J T Bt Rs H G O A) : kk_Ctr l (e + 6) en_t_X7_readAll [(4, 0), (4, 12), (4, 5), (0, w)] (cx_SHR O A) (sh_Q T Bt Rs H G) := by
  refine kk_ctr en_hM (List.mem_of_getElem? (i := 143) rfl) rfl (Nat.le_of_ble_eq_true rfl) (fun K hC => ?_)
  have k15 : ∀ (n : Nat) (i : Int) (O1 : Nat → Nat → Int) (A1 : Nat → Nat → Int), (21 - i).toNat < n → (0 ≤ i ∧ i ≤ 20) → (sh_J T Bt Rs H G O1 A1) → K 15 [(0, (4, 0)), (1, (4, 12)), (2, (4, 5)), (3, (0, w)), (4, (0, i))] [] (cx_SHR O1 A1) := by
    intro n
    induction n with
    | zero => intro i O1 A1 hz; exact absurd hz (Nat.not_lt_zero _)
    | succ n ih =>
      intro i O1 A1 hn g0 hJ1
      refine hC.go [] _ rfl rfl ?_
      repeat' first | refine hC.gw [15] _ rfl rfl ?_ | refine And.intro ?_ ?_ | exact True.intro | refine hC.iadd [15] rfl rfl (by first | omega | (simp only [Int.reduceToNat] at *; omega)) ?_ | refine hC.isub [15] rfl rfl (by first | omega | (simp only [Int.reduceToNat] at *; omega)) ?_ | refine hC.imul [15] rfl rfl (by first | omega | (simp only [Int.reduceToNat] at *; omega)) ?_ | refine hC.iinc [15] rfl rfl rfl rfl (by first | omega | (simp only [Int.reduceToNat] at *; omega)) ?_ | refine hC.pfw (W := cx_SHR) [15] rfl rfl rfl rfl rfl rfl ?_ ?_ | refine hC.iaw (W := cx_SHR) [15] rfl rfl rfl rfl ?_ ?_ | refine hC.law (W := cx_SHR) [15] rfl rfl rfl rfl ?_ ?_ | refine hC.cpw (W := cx_SHR) [15] rfl rfl rfl rfl rfl rfl ?_ | refine hC.cpl (W := cx_SHR) [15] rfl rfl rfl rfl rfl rfl ?_ | refine hC.go [15] _ rfl rfl ?_ | (intro h; first | exact (h rfl).elim | (exfalso; cases h; done) | (dsimp only [kk_cP, kk_cN] at h) | skip) | (refine rw_step hC ce_SHR_R rfl (sh_J.len (by assumption)) (Nat.le_refl _) rfl rfl rfl rfl rfl ?_; intro O2 hk2; have hJ2 := sh_J.out (by assumption) hk2) | (refine hC.same (hO _ _ (by assumption)) rfl rfl rfl rfl (Nat.le_refl _) ?_; rintro rs w' ⟨O7, A7, rfl, hJ7, rfl | rfl⟩) | (refine hC.at ce_SHR_S (ss_addPart l _ _ _ _ _ _ (sh_J.S (by assumption)) (by intro hp; omega)) rfl rfl rfl rfl rfl rfl (Nat.le_refl _) ?_; rintro rs O9 A9 ⟨rfl, hI9, e9⟩; have hJ9 := sh_J.add (by assumption) hI9 e9)
      all_goals first | omega | exact hC.sub [(0, (4, 0)), (1, (4, 12)), (2, (4, 5)), (3, (0, _)), (4, (0, _))] ⟨rfl, rfl, rfl, rfl, rfl, trivial⟩ (ih _ _ _ (by omega) (by omega) hJ9) | exact ⟨_, _, rfl, hJ7, Or.inr rfl⟩ | exact ⟨_, _, rfl, hJ1, Or.inl rfl⟩ | exact Or.inl rfl | exact Or.inr rfl
  repeat' first | refine hC.gw [15] _ rfl rfl ?_ | refine And.intro ?_ ?_ | exact True.intro | refine hC.iadd [15] rfl rfl (by first | omega | (simp only [Int.reduceToNat] at *; omega)) ?_ | refine hC.isub [15] rfl rfl (by first | omega | (simp only [Int.reduceToNat] at *; omega)) ?_ | refine hC.imul [15] rfl rfl (by first | omega | (simp only [Int.reduceToNat] at *; omega)) ?_ | refine hC.iinc [15] rfl rfl rfl rfl (by first | omega | (simp only [Int.reduceToNat] at *; omega)) ?_ | refine hC.pfw (W := cx_SHR) [15] rfl rfl rfl rfl rfl rfl ?_ ?_ | refine hC.iaw (W := cx_SHR) [15] rfl rfl rfl rfl ?_ ?_ | refine hC.law (W := cx_SHR) [15] rfl rfl rfl rfl ?_ ?_ | refine hC.cpw (W := cx_SHR) [15] rfl rfl rfl rfl rfl rfl ?_ | refine hC.cpl (W := cx_SHR) [15] rfl rfl rfl rfl rfl rfl ?_ | refine hC.go [15] _ rfl rfl ?_ | (intro h; first | exact (h rfl).elim | (exfalso; cases h; done) | (dsimp only [kk_cP, kk_cN] at h) | skip) | (refine hC.same (hO _ _ (by assumption)) rfl rfl rfl rfl (Nat.le_refl _) ?_; rintro rs w' ⟨O7, A7, rfl, hJ7, rfl | rfl⟩)
  all_goals first | omega | exact hC.sub [(0, (4, 0)), (1, (4, 12)), (2, (4, 5)), (3, (0, _)), (4, (0, _))] ⟨rfl, rfl, rfl, rfl, rfl, trivial⟩ (k15 _ _ _ _ (Nat.lt_succ_self _) (by omega) hJ7) | exact ⟨_, _, rfl, hJ7, Or.inr rfl⟩ | exact Or.inl rfl | exact Or.inr rfl
set_option maxRecDepth 100000 in
set_option maxHeartbeats 4000000 in
theorem sh_readCondition (hO : ∀ O A, sh_J T Bt Rs H G O A → kk_Ctr l (e + 5) en_t_X7_readOne [(4, 0), (4, 12), (4, 5), (0, w)] (cx_SHR O A) (sh_Q T Bt Rs H G)) (O A : Nat → Nat → Int) (hJ : sh_J T Bt Rs H G O A) : kk_Ctr l (e + 7) en_t_X7_readCondition [(4, 0), (4, 12), (4, 5), (0, w)] (cx_SHR O A) (sh_Q T Bt Rs H G) := by
  refine kk_ctr en_hM (List.mem_of_getElem? (i := 139) rfl) rfl (Nat.le_of_ble_eq_true rfl) (fun K hC => ?_)
  have k15 : ∀ (n : Nat) (i : Int) (O1 : Nat → Nat → Int) (A1 : Nat → Nat → Int), (21 - i).toNat < n → (0 ≤ i ∧ i ≤ 20) → (sh_J T Bt Rs H G O1 A1) → K 15 [(0, (4, 0)), (1, (4, 12)), (2, (4, 5)), (3, (0, w)), (4, (0, i))] [] (cx_SHR O1 A1) := by
    intro n
    induction n with
    | zero => intro i O1 A1 hz; exact absurd hz (Nat.not_lt_zero _)
    | succ n ih =>
      intro i O1 A1 hn g0 hJ1
      refine hC.go [] _ rfl rfl ?_
      repeat' first | refine hC.gw [15] _ rfl rfl ?_ | refine And.intro ?_ ?_ | exact True.intro | refine hC.iadd [15] rfl rfl (by first | omega | (simp only [Int.reduceToNat] at *; omega)) ?_ | refine hC.isub [15] rfl rfl (by first | omega | (simp only [Int.reduceToNat] at *; omega)) ?_ | refine hC.imul [15] rfl rfl (by first | omega | (simp only [Int.reduceToNat] at *; omega)) ?_ | refine hC.iinc [15] rfl rfl rfl rfl (by first | omega | (simp only [Int.reduceToNat] at *; omega)) ?_ | refine hC.pfw (W := cx_SHR) [15] rfl rfl rfl rfl rfl rfl ?_ ?_ | refine hC.iaw (W := cx_SHR) [15] rfl rfl rfl rfl ?_ ?_ | refine hC.law (W := cx_SHR) [15] rfl rfl rfl rfl ?_ ?_ | refine hC.cpw (W := cx_SHR) [15] rfl rfl rfl rfl rfl rfl ?_ | refine hC.cpl (W := cx_SHR) [15] rfl rfl rfl rfl rfl rfl ?_ | refine hC.go [15] _ rfl rfl ?_ | (intro h; first | exact (h rfl).elim | (exfalso; cases h; done) | (dsimp only [kk_cP, kk_cN] at h) | skip) | (refine rw_step hC ce_SHR_R rfl (sh_J.len (by assumption)) (Nat.le_refl _) rfl rfl rfl rfl rfl ?_; intro O2 hk2; have hJ2 := sh_J.out (by assumption) hk2) | (refine hC.same (sh_readAll l e T Bt H G w hO _ _ (by assumption)) rfl rfl rfl rfl (Nat.le_refl _) ?_; rintro rs w' ⟨O7, A7, rfl, hJ7, rfl | rfl⟩) | (refine hC.at ce_SHR_S (ss_addPart l _ _ _ _ _ _ (sh_J.S (by assumption)) (by intro hp; omega)) rfl rfl rfl rfl rfl rfl (Nat.le_refl _) ?_; rintro rs O9 A9 ⟨rfl, hI9, e9⟩; have hJ9 := sh_J.add (by assumption) hI9 e9)
      all_goals first | omega | exact hC.sub [(0, (4, 0)), (1, (4, 12)), (2, (4, 5)), (3, (0, _)), (4, (0, _))] ⟨rfl, rfl, rfl, rfl, rfl, trivial⟩ (ih _ _ _ (by omega) (by omega) hJ9) | exact ⟨_, _, rfl, hJ7, Or.inr rfl⟩ | exact ⟨_, _, rfl, hJ1, Or.inl rfl⟩ | exact Or.inl rfl | exact Or.inr rfl
  repeat' first | refine hC.gw [15] _ rfl rfl ?_ | refine And.intro ?_ ?_ | exact True.intro | refine hC.iadd [15] rfl rfl (by first | omega | (simp only [Int.reduceToNat] at *; omega)) ?_ | refine hC.isub [15] rfl rfl (by first | omega | (simp only [Int.reduceToNat] at *; omega)) ?_ | refine hC.imul [15] rfl rfl (by first | omega | (simp only [Int.reduceToNat] at *; omega)) ?_ | refine hC.iinc [15] rfl rfl rfl rfl (by first | omega | (simp only [Int.reduceToNat] at *; omega)) ?_ | refine hC.pfw (W := cx_SHR) [15] rfl rfl rfl rfl rfl rfl ?_ ?_ | refine hC.iaw (W := cx_SHR) [15] rfl rfl rfl rfl ?_ ?_ | refine hC.law (W := cx_SHR) [15] rfl rfl rfl rfl ?_ ?_ | refine hC.cpw (W := cx_SHR) [15] rfl rfl rfl rfl rfl rfl ?_ | refine hC.cpl (W := cx_SHR) [15] rfl rfl rfl rfl rfl rfl ?_ | refine hC.go [15] _ rfl rfl ?_ | (intro h; first | exact (h rfl).elim | (exfalso; cases h; done) | (dsimp only [kk_cP, kk_cN] at h) | skip) | (refine hC.same (sh_readAll l e T Bt H G w hO _ _ (by assumption)) rfl rfl rfl rfl (Nat.le_refl _) ?_; rintro rs w' ⟨O7, A7, rfl, hJ7, rfl | rfl⟩)
  all_goals first | omega | exact hC.sub [(0, (4, 0)), (1, (4, 12)), (2, (4, 5)), (3, (0, _)), (4, (0, _))] ⟨rfl, rfl, rfl, rfl, rfl, trivial⟩ (k15 _ _ _ _ (Nat.lt_succ_self _) (by omega) hJ7) | exact ⟨_, _, rfl, hJ7, Or.inr rfl⟩ | exact Or.inl rfl | exact Or.inr rfl
set_option maxRecDepth 100000 in
set_option maxHeartbeats 4000000 in
theorem sh_readOne (k : Nat) : ∀ (d : Nat) (O A : Nat → Nat → Int) (w : Int), 8 - w ≤ k → 0 ≤ w → sh_J T Bt Rs H G O A → kk_Ctr l (d + 3 * k + 5) en_t_X7_readOne [(4, 0), (4, 12), (4, 5), (0, w)] (cx_SHR O A) (sh_Q T Bt Rs H G) := by
  induction k with
  | zero =>
    intro d O A w h8 h0 hJ
    show kk_Ctr l (d + 5) _ _ _ _
    refine kk_ctr en_hM (List.mem_of_getElem? (i := 146) rfl) rfl (Nat.le_of_ble_eq_true rfl) (fun K hC => ?_)
    repeat' first | refine hC.gw [34] _ rfl rfl ?_ | refine And.intro ?_ ?_ | exact True.intro | refine hC.iadd [34] rfl rfl (by first | omega | (simp only [Int.reduceToNat] at *; omega)) ?_ | refine hC.isub [34] rfl rfl (by first | omega | (simp only [Int.reduceToNat] at *; omega)) ?_ | refine hC.imul [34] rfl rfl (by first | omega | (simp only [Int.reduceToNat] at *; omega)) ?_ | refine hC.iinc [34] rfl rfl rfl rfl (by first | omega | (simp only [Int.reduceToNat] at *; omega)) ?_ | refine hC.pfw (W := cx_SHR) [34] rfl rfl rfl rfl rfl rfl ?_ ?_ | refine hC.iaw (W := cx_SHR) [34] rfl rfl rfl rfl ?_ ?_ | refine hC.law (W := cx_SHR) [34] rfl rfl rfl rfl ?_ ?_ | refine hC.cpw (W := cx_SHR) [34] rfl rfl rfl rfl rfl rfl ?_ | refine hC.cpl (W := cx_SHR) [34] rfl rfl rfl rfl rfl rfl ?_ | refine hC.go [34] _ rfl rfl ?_ | (intro h; first | exact (h rfl).elim | (exfalso; cases h; done) | (dsimp only [kk_cP, kk_cN] at h) | skip) | (refine hC.rd ce_SHR_R (ss_beginsOne l _ _ _) rfl rfl rfl rfl rfl rfl (Nat.le_refl _) ?_; rintro rs (rfl | rfl)) | (refine rw_refuse hC ce_SHR_R rfl _ (Nat.le_refl _) rfl rfl rfl rfl rfl ?_; intro O2 hk2; have hJ2 := sh_J.out (by assumption) hk2)
    all_goals first | omega | exact ⟨_, _, rfl, hJ2, Or.inr rfl⟩ | exact Or.inl rfl | exact Or.inr rfl
  | succ k ih0 =>
    intro d O A w h8 h0 hJ
    have i1 := fun O A w => ih0 d O A w
    clear ih0
    show kk_Ctr l (d + 3 * k + 3 + 5) _ _ _ _
    generalize d + 3 * k = e at i1 ⊢
    have h0' := hJ.1.2
    refine kk_ctr en_hM (List.mem_of_getElem? (i := 146) rfl) rfl (Nat.le_of_ble_eq_true rfl) (fun K hC => ?_)
    have k44 : ∀ (O A : Nat → Nat → Int), w < 8 → sh_J T Bt Rs H G O A → K 44 [(0, (4, 0)), (1, (4, 12)), (2, (4, 5)), (3, (0, w))] [] (cx_SHR O A) := by
      intro O A hw hJ
      repeat' first | refine hC.gw [] _ rfl rfl ?_ | refine And.intro ?_ ?_ | exact True.intro | refine hC.iadd [] rfl rfl (by first | omega | (simp only [Int.reduceToNat] at *; omega)) ?_ | refine hC.isub [] rfl rfl (by first | omega | (simp only [Int.reduceToNat] at *; omega)) ?_ | refine hC.imul [] rfl rfl (by first | omega | (simp only [Int.reduceToNat] at *; omega)) ?_ | refine hC.iinc [] rfl rfl rfl rfl (by first | omega | (simp only [Int.reduceToNat] at *; omega)) ?_ | refine hC.pfw (W := cx_SHR) [] rfl rfl rfl rfl rfl rfl ?_ ?_ | refine hC.iaw (W := cx_SHR) [] rfl rfl rfl rfl ?_ ?_ | refine hC.law (W := cx_SHR) [] rfl rfl rfl rfl ?_ ?_ | refine hC.cpw (W := cx_SHR) [] rfl rfl rfl rfl rfl rfl ?_ | refine hC.cpl (W := cx_SHR) [] rfl rfl rfl rfl rfl rfl ?_ | refine hC.go [] _ rfl rfl ?_ | (intro h; first | exact (h rfl).elim | (exfalso; cases h; done) | (dsimp only [kk_cP, kk_cN] at h) | skip) | (refine rw_step hC ce_SHR_R rfl (sh_J.len (by assumption)) (Nat.le_refl _) rfl rfl rfl rfl rfl ?_; intro O2 hk2; have hJ2 := sh_J.out (by assumption) hk2) | (refine hC.same (sh_readCondition l e T Bt H G _ (fun O A hJ => i1 O A (w + 1) (by omega) (by omega) hJ) _ _ (by assumption)) rfl rfl rfl rfl (Nat.le_refl _) ?_; rintro rs w' ⟨O7, A7, rfl, hJ7, rfl | rfl⟩) | (refine hC.same (i1 _ _ (w + 1) (by omega) (by omega) (by assumption)) rfl rfl rfl rfl (by omega) ?_; rintro rs w' ⟨O7, A7, rfl, hJ7, rfl | rfl⟩) | (refine hC.at ce_SHR_S (ss_addPart l _ _ _ _ _ _ (sh_J.S (by assumption)) (by intro hp; omega)) rfl rfl rfl rfl rfl rfl (Nat.le_refl _) ?_; rintro rs O9 A9 ⟨rfl, hI9, e9⟩; have hJ9 := sh_J.add (by assumption) hI9 e9) | (refine rw_takeSign hC ce_SHR_R rfl _ (sh_J.len (by assumption)) (Nat.le_refl _) rfl rfl rfl rfl rfl ?_ ?_ <;> intro O2 hk2 <;> (have hJ2 := sh_J.out (by assumption) hk2)) | (refine hC.same (sh_readMonk l _ T Bt H G _ _ _ (by assumption)) rfl rfl rfl rfl (Nat.le_refl _) ?_; rintro rs w' ⟨O7, A7, rfl, hJ7, rfl | rfl⟩) | (refine hC.same (sh_readComparison l _ T Bt H G _ _ _ (by omega) (by assumption)) rfl rfl rfl rfl (Nat.le_refl _) ?_; rintro rs w' ⟨O7, A7, rfl, hJ7, rfl | rfl⟩)
      all_goals first | omega | exact ⟨_, _, rfl, hJ2, Or.inl rfl⟩ | exact ⟨_, _, rfl, hJ2, Or.inr rfl⟩ | exact ⟨_, _, rfl, hJ7, Or.inl rfl⟩ | exact ⟨_, _, rfl, hJ7, Or.inr rfl⟩ | exact ⟨_, _, rfl, hJ9, Or.inl rfl⟩ | exact Or.inl rfl | exact Or.inr rfl
    repeat' first | refine hC.gw [44] _ rfl rfl ?_ | refine And.intro ?_ ?_ | exact True.intro | refine hC.iadd [44] rfl rfl (by first | omega | (simp only [Int.reduceToNat] at *; omega)) ?_ | refine hC.isub [44] rfl rfl (by first | omega | (simp only [Int.reduceToNat] at *; omega)) ?_ | refine hC.imul [44] rfl rfl (by first | omega | (simp only [Int.reduceToNat] at *; omega)) ?_ | refine hC.iinc [44] rfl rfl rfl rfl (by first | omega | (simp only [Int.reduceToNat] at *; omega)) ?_ | refine hC.pfw (W := cx_SHR) [44] rfl rfl rfl rfl rfl rfl ?_ ?_ | refine hC.iaw (W := cx_SHR) [44] rfl rfl rfl rfl ?_ ?_ | refine hC.law (W := cx_SHR) [44] rfl rfl rfl rfl ?_ ?_ | refine hC.cpw (W := cx_SHR) [44] rfl rfl rfl rfl rfl rfl ?_ | refine hC.cpl (W := cx_SHR) [44] rfl rfl rfl rfl rfl rfl ?_ | refine hC.go [44] _ rfl rfl ?_ | (intro h; first | exact (h rfl).elim | (exfalso; cases h; done) | (dsimp only [kk_cP, kk_cN] at h) | skip) | (refine hC.rd ce_SHR_R (ss_beginsOne l _ _ _) rfl rfl rfl rfl rfl rfl (Nat.le_refl _) ?_; rintro rs (rfl | rfl)) | (refine rw_refuse hC ce_SHR_R rfl _ (Nat.le_refl _) rfl rfl rfl rfl rfl ?_; intro O2 hk2; have hJ2 := sh_J.out (by assumption) hk2)
    all_goals first | omega | exact ⟨_, _, rfl, hJ2, Or.inr rfl⟩ | exact Or.inl rfl | exact Or.inr rfl | exact k44 _ _ (by omega) (hJ.ones (by omega))
end SHR
set_option maxRecDepth 100000 in
set_option maxHeartbeats 4000000 in
theorem sh_readFrom (l : Launch) (d : Nat) (T Bt : Nat → Int) (O A : Nat → Nat → Int) (hR : hr_J T Bt Rs (cc_in [5, 6, 7, 8, 9, 10, 11, 12, 13, 14, 15] O) (cc_in [5, 6, 7, 8, 9, 10, 11, 12, 13, 14, 15] A)) : kk_Ctr l (d + 32) en_t_X7_readFrom [(4, 0), (4, 12), (4, 5)] (cx_SHR O A) (sh_Q T Bt Rs O A) := by
  refine kk_ctr en_hM (List.mem_of_getElem? (i := 136) rfl) rfl (Nat.le_of_ble_eq_true rfl) (fun K hC => ?_)
  repeat' first | refine hC.gw [] _ rfl rfl ?_ | refine And.intro ?_ ?_ | exact True.intro | refine hC.iadd [] rfl rfl (by first | omega | (simp only [Int.reduceToNat] at *; omega)) ?_ | refine hC.isub [] rfl rfl (by first | omega | (simp only [Int.reduceToNat] at *; omega)) ?_ | refine hC.imul [] rfl rfl (by first | omega | (simp only [Int.reduceToNat] at *; omega)) ?_ | refine hC.iinc [] rfl rfl rfl rfl (by first | omega | (simp only [Int.reduceToNat] at *; omega)) ?_ | refine hC.pfw (W := cx_SHR) [] rfl rfl rfl rfl rfl rfl ?_ ?_ | refine hC.iaw (W := cx_SHR) [] rfl rfl rfl rfl ?_ ?_ | refine hC.law (W := cx_SHR) [] rfl rfl rfl rfl ?_ ?_ | refine hC.cpw (W := cx_SHR) [] rfl rfl rfl rfl rfl rfl ?_ | refine hC.cpl (W := cx_SHR) [] rfl rfl rfl rfl rfl rfl ?_ | refine hC.go [] _ rfl rfl ?_ | (intro h; first | exact (h rfl).elim | (exfalso; cases h; done) | (dsimp only [kk_cP, kk_cN] at h) | skip)
  refine hC.at ce_SHR_S (ss_clear l _ _ _) rfl rfl rfl rfl rfl rfl (Nat.le_refl _) ?_
  rintro rs O1 A1 ⟨rfl, hI1, e5, e4⟩
  have hJ1 : sh_J T Bt Rs O A (cc_out O1 O [0, 1, 2, 3, 4] 0) (cc_out A1 A [0, 1, 2, 3, 4] 0) := by
    refine ⟨⟨hI1, (show 0 ≤ O1 0 5 by omega)⟩, ⟨hR.1, hR.2.1, hR.2.2.1, hR.2.2.2.1, hR.2.2.2.2.1, hR.2.2.2.2.2⟩, fun p h1 h2 => ?_⟩
    rw [cc_out_out (by simp; omega), cc_out_out (by simp; omega)]
    exact ⟨rfl, rfl⟩
  repeat' first | refine hC.gw [] _ rfl rfl ?_ | refine And.intro ?_ ?_ | exact True.intro | refine hC.iadd [] rfl rfl (by first | omega | (simp only [Int.reduceToNat] at *; omega)) ?_ | refine hC.isub [] rfl rfl (by first | omega | (simp only [Int.reduceToNat] at *; omega)) ?_ | refine hC.imul [] rfl rfl (by first | omega | (simp only [Int.reduceToNat] at *; omega)) ?_ | refine hC.iinc [] rfl rfl rfl rfl (by first | omega | (simp only [Int.reduceToNat] at *; omega)) ?_ | refine hC.pfw (W := cx_SHR) [] rfl rfl rfl rfl rfl rfl ?_ ?_ | refine hC.iaw (W := cx_SHR) [] rfl rfl rfl rfl ?_ ?_ | refine hC.law (W := cx_SHR) [] rfl rfl rfl rfl ?_ ?_ | refine hC.cpw (W := cx_SHR) [] rfl rfl rfl rfl rfl rfl ?_ | refine hC.cpl (W := cx_SHR) [] rfl rfl rfl rfl rfl rfl ?_ | refine hC.go [] _ rfl rfl ?_ | (intro h; first | exact (h rfl).elim | (exfalso; cases h; done) | (dsimp only [kk_cP, kk_cN] at h) | skip)
  refine rw_begin hC ce_SHR_R rfl _ (sh_J.len hJ1) (Nat.le_refl _) rfl rfl rfl rfl rfl ?_
  intro O2 hk2
  have hJ2 := sh_J.out hJ1 hk2
  clear hJ1
  repeat' first | refine hC.gw [] _ rfl rfl ?_ | refine And.intro ?_ ?_ | exact True.intro | refine hC.iadd [] rfl rfl (by first | omega | (simp only [Int.reduceToNat] at *; omega)) ?_ | refine hC.isub [] rfl rfl (by first | omega | (simp only [Int.reduceToNat] at *; omega)) ?_ | refine hC.imul [] rfl rfl (by first | omega | (simp only [Int.reduceToNat] at *; omega)) ?_ | refine hC.iinc [] rfl rfl rfl rfl (by first | omega | (simp only [Int.reduceToNat] at *; omega)) ?_ | refine hC.pfw (W := cx_SHR) [] rfl rfl rfl rfl rfl rfl ?_ ?_ | refine hC.iaw (W := cx_SHR) [] rfl rfl rfl rfl ?_ ?_ | refine hC.law (W := cx_SHR) [] rfl rfl rfl rfl ?_ ?_ | refine hC.cpw (W := cx_SHR) [] rfl rfl rfl rfl rfl rfl ?_ | refine hC.cpl (W := cx_SHR) [] rfl rfl rfl rfl rfl rfl ?_ | refine hC.go [] _ rfl rfl ?_ | (intro h; first | exact (h rfl).elim | (exfalso; cases h; done) | (dsimp only [kk_cP, kk_cN] at h) | skip)
  refine hC.same (sh_readCondition l (d + 24) T Bt O A 0 (fun O' A' hJ => sh_readOne l T Bt O A 8 d O' A' 0 (by omega) (by omega) hJ) _ _ hJ2) rfl rfl rfl rfl (Nat.le_refl _) ?_
  rintro rs w' ⟨O7, A7, rfl, hJ7, rfl | rfl⟩
  all_goals
    clear hJ2
    repeat' first | refine hC.gw [] _ rfl rfl ?_ | refine And.intro ?_ ?_ | exact True.intro | refine hC.iadd [] rfl rfl (by first | omega | (simp only [Int.reduceToNat] at *; omega)) ?_ | refine hC.isub [] rfl rfl (by first | omega | (simp only [Int.reduceToNat] at *; omega)) ?_ | refine hC.imul [] rfl rfl (by first | omega | (simp only [Int.reduceToNat] at *; omega)) ?_ | refine hC.iinc [] rfl rfl rfl rfl (by first | omega | (simp only [Int.reduceToNat] at *; omega)) ?_ | refine hC.pfw (W := cx_SHR) [] rfl rfl rfl rfl rfl rfl ?_ ?_ | refine hC.iaw (W := cx_SHR) [] rfl rfl rfl rfl ?_ ?_ | refine hC.law (W := cx_SHR) [] rfl rfl rfl rfl ?_ ?_ | refine hC.cpw (W := cx_SHR) [] rfl rfl rfl rfl rfl rfl ?_ | refine hC.cpl (W := cx_SHR) [] rfl rfl rfl rfl rfl rfl ?_ | refine hC.go [] _ rfl rfl ?_ | (intro h; first | exact (h rfl).elim | (exfalso; cases h; done) | (dsimp only [kk_cP, kk_cN] at h) | skip) | (refine rw_refuse hC ce_SHR_R rfl _ (Nat.le_refl _) rfl rfl rfl rfl rfl ?_; intro O2 hk2; have hJ2 := sh_J.out (by assumption) hk2)
    all_goals first | omega | exact ⟨_, _, rfl, hJ7, Or.inl rfl⟩ | exact ⟨_, _, rfl, hJ7, Or.inr rfl⟩ | exact ⟨_, _, rfl, hJ2, Or.inr rfl⟩ | exact ⟨_, _, rfl, hJ2, Or.inl rfl⟩ | exact Or.inl rfl | exact Or.inr rfl
