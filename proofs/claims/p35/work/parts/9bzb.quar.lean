/-! QUARRELS -/
theorem kk_or_ne (a b c e : Int) : kk_i2 4 (kk_i2 3 a b) (kk_i2 3 c e) ≠ 0 ↔ (kk_i2 3 a b ≠ 0 ∨ kk_i2 3 c e ≠ 0) := by
  show ((Int32.ofInt (Int32.ofInt a &&& Int32.ofInt b).toInt) ||| (Int32.ofInt (Int32.ofInt c &&& Int32.ofInt e).toInt)).toInt ≠ 0 ↔ ((Int32.ofInt a &&& Int32.ofInt b).toInt ≠ 0 ∨ (Int32.ofInt c &&& Int32.ofInt e).toInt ≠ 0)
  rw [Int32.ofInt_toInt, Int32.ofInt_toInt]
  generalize (Int32.ofInt a &&& Int32.ofInt b) = x
  generalize (Int32.ofInt c &&& Int32.ofInt e) = y
  rw [ne_eq, ne_eq, ne_eq, i32_t0, i32_t0, i32_t0, i32_or0]
  constructor
  · intro h
    by_cases hx : x = 0
    · exact Or.inr (fun hy => h ⟨hx, hy⟩)
    · exact Or.inl hx
  · rintro (h | h) ⟨h1, h2⟩
    · exact h h1
    · exact h h2
def qu_v (m b : Nat → Int) (c : Nat) : Nat → Int
  | 0 => 0
  | k + 1 => if kk_i2 3 (m c) (b k) ≠ 0 ∨ kk_i2 3 (b c) (m k) ≠ 0 then kk_i2 4 (qu_v m b c k) (kk_i2 6 1 (k : Int)) else qu_v m b c k
theorem qu_eq {m b m' b' : Nat → Int} {c : Nat} (hm : ∀ j, j < 10 → m j = m' j) (hb : ∀ j, j < 10 → b j = b' j) (hc : c < 10) : ∀ {k : Nat}, k ≤ 10 → qu_v m b c k = qu_v m' b' c k
  | 0, _ => rfl
  | k + 1, hk => by
    unfold qu_v
    rw [qu_eq hm hb hc (k := k) (by omega), hm c hc, hb c hc, hm k (by omega), hb k (by omega)]
/-- what quarrels answers -/
def qu_V (Bm : Nat → Nat → Int) (c : Int) : Int := if 0 ≤ c ∧ c < Bm 2 2 then qu_v (fun j => Bm 2 (15 + j)) (fun j => Bm 2 (25 + j)) c.toNat (Bm 2 2).toNat else -1
set_option maxRecDepth 100000 in
set_option maxHeartbeats 4000000 in
theorem hh_xQuarrels (l : Launch) (d : Nat) (O A : Nat → Nat → Int) (c : Int) (hc : hh_c A) (h0 : 0 ≤ c) (h9 : c ≤ 9) : kk_Ctr l d en_t_X2_quarrelsWith [(4, 0), (0, c)] (cx_H O A) (fun rs w' => w' = cx_H O A ∧ ∃ x, rs = [(0, x)] ∧ x = qu_v (A 4) (A 5) c.toNat (A 1 2).toNat) := by
  have h2 := hc.2.2
  refine kk_ctr en_hM (List.mem_of_getElem? (i := 63) rfl) rfl (Nat.le_of_ble_eq_true rfl) (fun K hC => ?_)
  have k4 : ∀ (n : Nat) (i : Int) (x : Int), (11 - i).toNat < n → (0 ≤ i ∧ i ≤ 10) → (i ≤ A 1 2) → (x = qu_v (A 4) (A 5) c.toNat i.toNat) → K 4 [(0, (4, 0)), (1, (0, c)), (2, (0, x)), (3, (0, i))] [] (cx_H O A) := by
    intro n
    induction n with
    | zero => intro i x hz; exact absurd hz (Nat.not_lt_zero _)
    | succ n ih =>
      intro i x hn g0 g1 g2
      refine hC.go [] _ rfl rfl ?_
      repeat' first | refine hC.gw [4] _ rfl rfl ?_ | refine And.intro ?_ ?_ | exact True.intro | refine hC.iadd [4] rfl rfl (by first | omega | (simp only [Int.reduceToNat] at *; omega)) ?_ | refine hC.isub [4] rfl rfl (by first | omega | (simp only [Int.reduceToNat] at *; omega)) ?_ | refine hC.imul [4] rfl rfl (by first | omega | (simp only [Int.reduceToNat] at *; omega)) ?_ | refine hC.iinc [4] rfl rfl rfl rfl (by first | omega | (simp only [Int.reduceToNat] at *; omega)) ?_ | refine hC.pfw (W := cx_H) [4] rfl rfl rfl rfl rfl rfl ?_ ?_ | refine hC.iaw (W := cx_H) [4] rfl rfl rfl rfl ?_ ?_ | refine hC.law (W := cx_H) [4] rfl rfl rfl rfl ?_ ?_ | refine hC.cpw (W := cx_H) [4] rfl rfl rfl rfl rfl rfl ?_ | refine hC.cpl (W := cx_H) [4] rfl rfl rfl rfl rfl rfl ?_ | refine hC.go [4] _ rfl rfl ?_ | (intro h; first | exact (h rfl).elim | (exfalso; cases h; done) | (dsimp only [kk_cP, kk_cN] at h) | skip)
      all_goals first | rfl | omega | skip
      · have e : i = A 1 2 := by have h' : A 1 2 ≤ i := h; omega
        exact ⟨_, rfl, by rw [g2, e]⟩
      · have h' : i < A 1 2 := h
        omega
      · have h' : i < A 1 2 := h
        omega
      · have h' : i < A 1 2 := by assumption
        exact hC.sub [(0, (4, 0)), (1, (0, _)), (2, (0, _)), (3, (0, _))] ⟨rfl, rfl, rfl, rfl, trivial⟩ (ih _ _ (by omega) (by omega) (by omega) (by rw [g2, show (i + 1).toNat = i.toNat + 1 by omega]; exact (show qu_v (A 4) (A 5) c.toNat (i.toNat + 1) = _ from if_neg (fun g => absurd h ((kk_or_ne _ _ _ _).mpr g))).symm))
      · have h' : i < A 1 2 := by assumption
        have ei : ((i.toNat : Nat) : Int) = i := by omega
        exact hC.sub [(0, (4, 0)), (1, (0, _)), (2, (0, _)), (3, (0, _))] ⟨rfl, rfl, rfl, rfl, trivial⟩ (ih _ _ (by omega) (by omega) (by omega) (by rw [g2, show (i + 1).toNat = i.toNat + 1 by omega, (show qu_v (A 4) (A 5) c.toNat (i.toNat + 1) = _ from if_pos ((kk_or_ne _ _ _ _).mp h)), ei]))
  repeat' first | refine hC.gw [4] _ rfl rfl ?_ | refine And.intro ?_ ?_ | exact True.intro | refine hC.iadd [4] rfl rfl (by first | omega | (simp only [Int.reduceToNat] at *; omega)) ?_ | refine hC.isub [4] rfl rfl (by first | omega | (simp only [Int.reduceToNat] at *; omega)) ?_ | refine hC.imul [4] rfl rfl (by first | omega | (simp only [Int.reduceToNat] at *; omega)) ?_ | refine hC.iinc [4] rfl rfl rfl rfl (by first | omega | (simp only [Int.reduceToNat] at *; omega)) ?_ | refine hC.pfw (W := cx_H) [4] rfl rfl rfl rfl rfl rfl ?_ ?_ | refine hC.iaw (W := cx_H) [4] rfl rfl rfl rfl ?_ ?_ | refine hC.law (W := cx_H) [4] rfl rfl rfl rfl ?_ ?_ | refine hC.cpw (W := cx_H) [4] rfl rfl rfl rfl rfl rfl ?_ | refine hC.cpl (W := cx_H) [4] rfl rfl rfl rfl rfl rfl ?_ | refine hC.go [4] _ rfl rfl ?_ | (intro h; first | exact (h rfl).elim | (exfalso; cases h; done) | (dsimp only [kk_cP, kk_cN] at h) | skip)
  exact hC.sub [(0, (4, 0)), (1, (0, _)), (2, (0, _)), (3, (0, _))] ⟨rfl, rfl, rfl, rfl, trivial⟩ (k4 _ _ _ (Nat.lt_succ_self _) (by omega) (by omega) rfl)
set_option maxRecDepth 100000 in
set_option maxHeartbeats 4000000 in
theorem cr_xQuarrels (l : Launch) (d : Nat) {Bc : ci_B} {Bm : Nat → Nat → Int} {a b tl : Int} (O A : Nat → Nat → Int) (c : Int) (hJ : ci_J Bc tl a b O A) (hA : al Bc Bm tl a b) : kk_Ctr l (d + 40) en_t_X10_quarrels [(4, 0), (0, c)] (cx_C O A) (fun rs w' => ∃ O' A', w' = cx_C O' A' ∧ ci_J Bc tl a b O' A' ∧ ∃ x, rs = [(0, x)] ∧ x = qu_V Bm c) := by
  obtain ⟨-, -, ⟨-, a1, -, -, a4, a5, -⟩, -⟩ := hJ.fr
  obtain ⟨-, -, -, ⟨⟨-, -, c1, c2⟩, ⟨n0, n1, n2⟩, -, n5, -⟩, -⟩ := hA.1
  have e2 : A 6 2 = Bm 2 2 := (congrFun a1 2).trans n2.symm
  have hb : A 6 2 ≤ 10 := by rw [e2, n2]; exact c2
  have v1 : 0 ≤ c ∧ c < A 6 2 → qu_v (A 9) (A 10) c.toNat (A 6 2).toNat = qu_V Bm c := fun h => by
    unfold qu_V
    rw [if_pos (by rw [← e2]; exact h), e2]
    exact qu_eq (fun j hj => (congrFun a4 j).trans (n5 j hj).2.1.symm) (fun j hj => (congrFun a5 j).trans (n5 j hj).2.2.1.symm) (by omega) (by omega)
  have v0 : ¬ (0 ≤ c ∧ c < A 6 2) → -1 = qu_V Bm c := fun h => (if_neg (by rw [← e2]; exact h)).symm
  generalize qu_V Bm c = V at *
  refine kk_ctr en_hM (List.mem_of_getElem? (i := 14) rfl) rfl (Nat.le_of_ble_eq_true rfl) (fun K hC => ?_)
  repeat' first | refine hC.gw [] _ rfl rfl ?_ | refine And.intro ?_ ?_ | exact True.intro | refine hC.iadd [] rfl rfl (by first | omega | (simp only [Int.reduceToNat] at *; omega)) ?_ | refine hC.isub [] rfl rfl (by first | omega | (simp only [Int.reduceToNat] at *; omega)) ?_ | refine hC.imul [] rfl rfl (by first | omega | (simp only [Int.reduceToNat] at *; omega)) ?_ | refine hC.iinc [] rfl rfl rfl rfl (by first | omega | (simp only [Int.reduceToNat] at *; omega)) ?_ | refine hC.pfw (W := cx_C) [] rfl rfl rfl rfl rfl rfl ?_ ?_ | refine hC.iaw (W := cx_C) [] rfl rfl rfl rfl ?_ ?_ | refine hC.law (W := cx_C) [] rfl rfl rfl rfl ?_ ?_ | refine hC.cpw (W := cx_C) [] rfl rfl rfl rfl rfl rfl ?_ | refine hC.cpl (W := cx_C) [] rfl rfl rfl rfl rfl rfl ?_ | refine hC.go [] _ rfl rfl ?_ | (intro h; first | exact (h rfl).elim | (exfalso; cases h; done) | (dsimp only [kk_cP, kk_cN] at h) | skip)
  refine hC.rd ce_C_H (hh_has l _ _ _ _ _ hJ.house.1 (by omega) (by omega)) rfl rfl rfl rfl rfl rfl (Nat.le_refl _) ?_
  rintro rs (⟨rfl, q1, q2⟩ | ⟨rfl, q1⟩)
  · have q2 : c < A 6 2 := q2
    repeat' first | refine hC.gw [] _ rfl rfl ?_ | refine And.intro ?_ ?_ | exact True.intro | refine hC.iadd [] rfl rfl (by first | omega | (simp only [Int.reduceToNat] at *; omega)) ?_ | refine hC.isub [] rfl rfl (by first | omega | (simp only [Int.reduceToNat] at *; omega)) ?_ | refine hC.imul [] rfl rfl (by first | omega | (simp only [Int.reduceToNat] at *; omega)) ?_ | refine hC.iinc [] rfl rfl rfl rfl (by first | omega | (simp only [Int.reduceToNat] at *; omega)) ?_ | refine hC.pfw (W := cx_C) [] rfl rfl rfl rfl rfl rfl ?_ ?_ | refine hC.iaw (W := cx_C) [] rfl rfl rfl rfl ?_ ?_ | refine hC.law (W := cx_C) [] rfl rfl rfl rfl ?_ ?_ | refine hC.cpw (W := cx_C) [] rfl rfl rfl rfl rfl rfl ?_ | refine hC.cpl (W := cx_C) [] rfl rfl rfl rfl rfl rfl ?_ | refine hC.go [] _ rfl rfl ?_ | (intro h; first | exact (h rfl).elim | (exfalso; cases h; done) | (dsimp only [kk_cP, kk_cN] at h) | skip)
    refine hC.rd ce_C_H (hh_xQuarrels l _ _ _ _ hJ.house.1 (by omega) (by omega)) rfl rfl rfl rfl rfl rfl (Nat.le_refl _) ?_
    rintro rs ⟨x, rfl, hx⟩
    have hx : x = qu_v (A 9) (A 10) c.toNat (A 6 2).toNat := hx
    repeat' first | refine hC.gw [] _ rfl rfl ?_ | refine And.intro ?_ ?_ | exact True.intro | refine hC.iadd [] rfl rfl (by first | omega | (simp only [Int.reduceToNat] at *; omega)) ?_ | refine hC.isub [] rfl rfl (by first | omega | (simp only [Int.reduceToNat] at *; omega)) ?_ | refine hC.imul [] rfl rfl (by first | omega | (simp only [Int.reduceToNat] at *; omega)) ?_ | refine hC.iinc [] rfl rfl rfl rfl (by first | omega | (simp only [Int.reduceToNat] at *; omega)) ?_ | refine hC.pfw (W := cx_C) [] rfl rfl rfl rfl rfl rfl ?_ ?_ | refine hC.iaw (W := cx_C) [] rfl rfl rfl rfl ?_ ?_ | refine hC.law (W := cx_C) [] rfl rfl rfl rfl ?_ ?_ | refine hC.cpw (W := cx_C) [] rfl rfl rfl rfl rfl rfl ?_ | refine hC.cpl (W := cx_C) [] rfl rfl rfl rfl rfl rfl ?_ | refine hC.go [] _ rfl rfl ?_ | (intro h; first | exact (h rfl).elim | (exfalso; cases h; done) | (dsimp only [kk_cP, kk_cN] at h) | skip)
    all_goals first | omega | exact ⟨_, _, rfl, hJ, _, rfl, hx.trans (v1 ⟨q1, q2⟩)⟩
  · have q1 : ¬ (0 ≤ c ∧ c < A 6 2) := q1
    repeat' first | refine hC.gw [] _ rfl rfl ?_ | refine And.intro ?_ ?_ | exact True.intro | refine hC.iadd [] rfl rfl (by first | omega | (simp only [Int.reduceToNat] at *; omega)) ?_ | refine hC.isub [] rfl rfl (by first | omega | (simp only [Int.reduceToNat] at *; omega)) ?_ | refine hC.imul [] rfl rfl (by first | omega | (simp only [Int.reduceToNat] at *; omega)) ?_ | refine hC.iinc [] rfl rfl rfl rfl (by first | omega | (simp only [Int.reduceToNat] at *; omega)) ?_ | refine hC.pfw (W := cx_C) [] rfl rfl rfl rfl rfl rfl ?_ ?_ | refine hC.iaw (W := cx_C) [] rfl rfl rfl rfl ?_ ?_ | refine hC.law (W := cx_C) [] rfl rfl rfl rfl ?_ ?_ | refine hC.cpw (W := cx_C) [] rfl rfl rfl rfl rfl rfl ?_ | refine hC.cpl (W := cx_C) [] rfl rfl rfl rfl rfl rfl ?_ | refine hC.go [] _ rfl rfl ?_ | (intro h; first | exact (h rfl).elim | (exfalso; cases h; done) | (dsimp only [kk_cP, kk_cN] at h) | skip)
    all_goals first | omega | exact ⟨_, _, rfl, hJ, _, rfl, v0 q1⟩
set_option maxRecDepth 100000 in
set_option maxHeartbeats 4000000 in
theorem mm_xIsChapter (l : Launch) {d : Nat} (F : Nat → Int) (A : Nat → Nat → Int) (x : Int) (h0 : mm_cn (A 2)) : kk_Ctr l (d + 1) en_t_X11_isChapter [(4, 0), (0, x)] (mm_w F A) (fun rs w' => w' = mm_w F A ∧ ((rs = [(0, 1)] ∧ 0 ≤ x ∧ x < A 2 2) ∨ (rs = [(0, 0)] ∧ ¬ (0 ≤ x ∧ x < A 2 2)))) := by
  obtain ⟨c1, c2, c3, c4, c5, c6⟩ := h0
  have c5' : 0 ≤ A 2 (Int.toNat 2) ∧ A 2 (Int.toNat 2) ≤ 10 := ⟨c5, c6⟩
  refine kk_ctr en_hM (List.mem_of_getElem? (i := 211) rfl) rfl (Nat.le_of_ble_eq_true rfl) (fun K hC => ?_)
  repeat' first | refine hC.gn [] _ rfl rfl ?_ | refine And.intro ?_ ?_ | exact True.intro | refine hC.iadd [] rfl rfl (by first | omega | (simp only [Int.reduceToNat] at *; omega)) ?_ | refine hC.isub [] rfl rfl (by first | omega | (simp only [Int.reduceToNat] at *; omega)) ?_ | refine hC.imul [] rfl rfl (by first | omega | (simp only [Int.reduceToNat] at *; omega)) ?_ | refine hC.iinc [] rfl rfl rfl rfl (by first | omega | (simp only [Int.reduceToNat] at *; omega)) ?_ | refine hC.go [] _ rfl rfl ?_ | (intro h; first | exact (h rfl).elim | (exfalso; cases h; done) | (dsimp only [kk_cP, kk_cN] at h) | skip) | (refine hC.call (mm_isIn l _ _ _ _) [] rfl rfl rfl rfl rfl rfl trivial (Nat.le_refl _) ?_; rintro rs w' ⟨rfl, ⟨rfl, h1, h2⟩ | ⟨rfl, h1⟩⟩)
  all_goals first | rfl | omega | exact Or.inl rfl | exact Or.inr rfl | skip
  · have h2 : x ≤ A 2 2 - 1 := h2
    exact Or.inl ⟨rfl, by omega, by omega⟩
  · have h1 : ¬ (0 ≤ x ∧ x ≤ A 2 2 - 1) := h1
    exact Or.inr ⟨rfl, by omega⟩
set_option maxRecDepth 100000 in
set_option maxHeartbeats 4000000 in
theorem mm_xQuarrels (l : Launch) (d : Nat) {Bm : Nat → Nat → Int} (F : Nat → Int) (A : Nat → Nat → Int) (c : Int) (hI : mm_I Bm F A) : kk_Ctr l (d + 2) en_t_X11_quarrels [(4, 0), (0, c)] (mm_w F A) (fun rs w' => ∃ F' A', w' = mm_w F' A' ∧ mm_I Bm F' A' ∧ F' 2 = F 2 ∧ A' 10 = A 10 ∧ ∃ x, rs = [(0, x)] ∧ x = qu_V Bm c) := by
  have fr := hI.2.2.2.2.2.2.2.2.2.2.2.1
  obtain ⟨c1, c2, c3, c4, c5, c6⟩ := hI.cn
  have eN : A 2 2 = Bm 2 2 := fr 2 (by decide)
  have v1 : 0 ≤ c ∧ c < A 2 2 → qu_v (fun j => A 2 (15 + j)) (fun j => A 2 (25 + j)) c.toNat (A 2 2).toNat = qu_V Bm c := fun h => by
    unfold qu_V
    rw [if_pos (by rw [← eN]; exact h), eN]
    exact qu_eq (fun j hj => fr (15 + j) (by omega)) (fun j hj => fr (25 + j) (by omega)) (by omega) (by omega)
  have v0 : ¬ (0 ≤ c ∧ c < A 2 2) → -1 = qu_V Bm c := fun h => (if_neg (by rw [← eN]; exact h)).symm
  generalize qu_V Bm c = V at *
  refine kk_ctr en_hM (List.mem_of_getElem? (i := 183) rfl) rfl (Nat.le_of_ble_eq_true rfl) (fun K hC => ?_)
  repeat' first | refine hC.gn [5] _ rfl rfl ?_ | refine And.intro ?_ ?_ | exact True.intro | refine hC.iadd [5] rfl rfl (by first | omega | (simp only [Int.reduceToNat] at *; omega)) ?_ | refine hC.isub [5] rfl rfl (by first | omega | (simp only [Int.reduceToNat] at *; omega)) ?_ | refine hC.imul [5] rfl rfl (by first | omega | (simp only [Int.reduceToNat] at *; omega)) ?_ | refine hC.iinc [5] rfl rfl rfl rfl (by first | omega | (simp only [Int.reduceToNat] at *; omega)) ?_ | refine hC.go [5] _ rfl rfl ?_ | (intro h; first | exact (h rfl).elim | (exfalso; cases h; done) | (dsimp only [kk_cP, kk_cN] at h) | skip)
  refine (show ∀ F1 : Nat → Int, F1 2 = F 2 → mm_I Bm F1 A → K 5 [(0, (4, 0)), (1, (0, c))] [] (mm_w F1 A) from ?_) (kk_up F 0 0) rfl hI
  clear hI
  intro F1 e2 hI
  have k19 : ∀ (n : Nat) (i : Int) (x : Int), (11 - i).toNat < n → (0 ≤ i ∧ i ≤ 10 ∧ 0 ≤ c ∧ c < A 2 2) → (i ≤ A 2 2) → (x = qu_v (fun j => A 2 (15 + j)) (fun j => A 2 (25 + j)) c.toNat i.toNat) → K 19 [(0, (4, 0)), (1, (0, c)), (2, (0, x)), (3, (0, i))] [] (mm_w F1 A) := by
    intro n
    induction n with
    | zero => intro i x hz; exact absurd hz (Nat.not_lt_zero _)
    | succ n ih =>
      intro i x hn g0 g1 g2
      refine hC.go [] _ rfl rfl ?_
      repeat' first | refine hC.gn [19] _ rfl rfl ?_ | refine And.intro ?_ ?_ | exact True.intro | refine hC.iadd [19] rfl rfl (by first | omega | (simp only [Int.reduceToNat] at *; omega)) ?_ | refine hC.isub [19] rfl rfl (by first | omega | (simp only [Int.reduceToNat] at *; omega)) ?_ | refine hC.imul [19] rfl rfl (by first | omega | (simp only [Int.reduceToNat] at *; omega)) ?_ | refine hC.iinc [19] rfl rfl rfl rfl (by first | omega | (simp only [Int.reduceToNat] at *; omega)) ?_ | refine hC.go [19] _ rfl rfl ?_ | (intro h; first | exact (h rfl).elim | (exfalso; cases h; done) | (dsimp only [kk_cP, kk_cN] at h) | skip)
      all_goals first | rfl | omega | skip
      all_goals (have t1 : (15 + c).toNat = 15 + c.toNat := by omega)
      all_goals (have t2 : (25 + c).toNat = 25 + c.toNat := by omega)
      all_goals (have t3 : (15 + i).toNat = 15 + i.toNat := by omega)
      all_goals (have t4 : (25 + i).toNat = 25 + i.toNat := by omega)
      all_goals (have ei : ((i.toNat : Nat) : Int) = i := by omega)
      all_goals (have e1 : (i + 1).toNat = i.toNat + 1 := by omega)
      · have e : i = A 2 2 := by have h' : A 2 2 ≤ i := h; omega
        exact ⟨F1, A, rfl, hI, e2, rfl, _, rfl, (by rw [g2, e]; exact v1 ⟨g0.2.2.1, g0.2.2.2⟩)⟩
      · have h' : i < A 2 2 := by assumption
        rw [t1, t4] at h
        exact hC.sub [(0, (4, 0)), (1, (0, _)), (2, (0, _)), (3, (0, _))] ⟨rfl, rfl, rfl, rfl, trivial⟩ (ih _ _ (by omega) (by omega) (by omega) (by rw [g2, e1, (show qu_v (fun j => A 2 (15 + j)) (fun j => A 2 (25 + j)) c.toNat (i.toNat + 1) = _ from if_pos (Or.inl h)), ei]))
      · have h' : i < A 2 2 := by assumption
        have h3 : kk_i2 3 (A 2 (15 + c).toNat) (A 2 (25 + i).toNat) = 0 := by assumption
        rw [t2, t3] at h
        rw [t1, t4] at h3
        exact hC.sub [(0, (4, 0)), (1, (0, _)), (2, (0, _)), (3, (0, _))] ⟨rfl, rfl, rfl, rfl, trivial⟩ (ih _ _ (by omega) (by omega) (by omega) (by rw [g2, e1]; exact (show qu_v (fun j => A 2 (15 + j)) (fun j => A 2 (25 + j)) c.toNat (i.toNat + 1) = _ from if_neg (fun g => by rcases g with g | g; exact g h3; exact g h)).symm))
      · have h' : i < A 2 2 := by assumption
        rw [t2, t3] at h
        exact hC.sub [(0, (4, 0)), (1, (0, _)), (2, (0, _)), (3, (0, _))] ⟨rfl, rfl, rfl, rfl, trivial⟩ (ih _ _ (by omega) (by omega) (by omega) (by rw [g2, e1, (show qu_v (fun j => A 2 (15 + j)) (fun j => A 2 (25 + j)) c.toNat (i.toNat + 1) = _ from if_pos (Or.inr h)), ei]))
  repeat' first | refine hC.gn [] _ rfl rfl ?_ | refine And.intro ?_ ?_ | exact True.intro | refine hC.iadd [] rfl rfl (by first | omega | (simp only [Int.reduceToNat] at *; omega)) ?_ | refine hC.isub [] rfl rfl (by first | omega | (simp only [Int.reduceToNat] at *; omega)) ?_ | refine hC.imul [] rfl rfl (by first | omega | (simp only [Int.reduceToNat] at *; omega)) ?_ | refine hC.iinc [] rfl rfl rfl rfl (by first | omega | (simp only [Int.reduceToNat] at *; omega)) ?_ | refine hC.go [] _ rfl rfl ?_ | (intro h; first | exact (h rfl).elim | (exfalso; cases h; done) | (dsimp only [kk_cP, kk_cN] at h) | skip)
  refine hC.same (mm_xIsChapter l F1 A c hI.cn) rfl rfl rfl rfl (Nat.le_refl _) ?_
  rintro rs w' ⟨rfl, ⟨rfl, q1, q2⟩ | ⟨rfl, q1⟩⟩
  · repeat' first | refine hC.gn [19] _ rfl rfl ?_ | refine And.intro ?_ ?_ | exact True.intro | refine hC.iadd [19] rfl rfl (by first | omega | (simp only [Int.reduceToNat] at *; omega)) ?_ | refine hC.isub [19] rfl rfl (by first | omega | (simp only [Int.reduceToNat] at *; omega)) ?_ | refine hC.imul [19] rfl rfl (by first | omega | (simp only [Int.reduceToNat] at *; omega)) ?_ | refine hC.iinc [19] rfl rfl rfl rfl (by first | omega | (simp only [Int.reduceToNat] at *; omega)) ?_ | refine hC.go [19] _ rfl rfl ?_ | (intro h; first | exact (h rfl).elim | (exfalso; cases h; done) | (dsimp only [kk_cP, kk_cN] at h) | skip)
    all_goals first | omega | exact hC.sub [(0, (4, 0)), (1, (0, _)), (2, (0, _)), (3, (0, _))] ⟨rfl, rfl, rfl, rfl, trivial⟩ (k19 _ _ _ (Nat.lt_succ_self _) (by omega) (by omega) rfl)
  · repeat' first | refine hC.gn [19] _ rfl rfl ?_ | refine And.intro ?_ ?_ | exact True.intro | refine hC.iadd [19] rfl rfl (by first | omega | (simp only [Int.reduceToNat] at *; omega)) ?_ | refine hC.isub [19] rfl rfl (by first | omega | (simp only [Int.reduceToNat] at *; omega)) ?_ | refine hC.imul [19] rfl rfl (by first | omega | (simp only [Int.reduceToNat] at *; omega)) ?_ | refine hC.iinc [19] rfl rfl rfl rfl (by first | omega | (simp only [Int.reduceToNat] at *; omega)) ?_ | refine hC.go [19] _ rfl rfl ?_ | (intro h; first | exact (h rfl).elim | (exfalso; cases h; done) | (dsimp only [kk_cP, kk_cN] at h) | skip)
    all_goals first | omega | exact ⟨F1, A, rfl, hI, e2, rfl, _, rfl, v0 q1⟩
