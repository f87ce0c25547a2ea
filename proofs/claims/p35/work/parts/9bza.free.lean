/-! FREE: what is never barred -/
def bev (g : Nat → Int) : Nat → Int
  | 0 => 0
  | k + 1 => kk_i2 4 (bev g k) (g k)
theorem bev_eq {f g : Nat → Int} : ∀ {k : Nat}, (∀ j, j < k → f j = g j) → bev f k = bev g k
  | 0, _ => rfl
  | k + 1, h => by
    show kk_i2 4 (bev f k) (f k) = kk_i2 4 (bev g k) (g k)
    rw [bev_eq (k := k) (fun j hj => h j (by omega)), h k (by omega)]
def fr_v (n0 n2 : Int) (g : Nat → Int) : Int := kk_i2 3 (kk_i2 1 (kk_i2 6 1 n0) 1) (kk_i2 5 (bev g n2.toNat) (-1))
theorem fr_eq {n0 n2 : Int} {f g : Nat → Int} (h2 : n2 ≤ 10) (h : ∀ j, j < 10 → f j = g j) : fr_v n0 n2 f = fr_v n0 n2 g := by
  unfold fr_v
  rw [bev_eq (fun j hj => h j (by omega))]
/-- what free answers -/
def fr_V (Bm : Nat → Nat → Int) : Int := fr_v (Bm 2 0) (Bm 2 2) (fun c => Bm 2 (25 + c))
set_option maxRecDepth 100000 in
set_option maxHeartbeats 4000000 in
theorem hh_xFree (l : Launch) (d : Nat) (O A : Nat → Nat → Int) (hc : hh_c A) : kk_Ctr l d en_t_X2_freeDeeds [(4, 0)] (cx_H O A) (fun rs w' => w' = cx_H O A ∧ ∃ x, rs = [(0, x)] ∧ x = fr_v (A 1 0) (A 1 2) (A 5)) := by
  have h2 := hc.2.2
  refine kk_ctr en_hM (List.mem_of_getElem? (i := 62) rfl) rfl (Nat.le_of_ble_eq_true rfl) (fun K hC => ?_)
  have k4 : ∀ (n : Nat) (i : Int) (x : Int), (11 - i).toNat < n → (0 ≤ i ∧ i ≤ 10) → (i ≤ A 1 2) → (x = bev (A 5) i.toNat) → K 4 [(0, (4, 0)), (1, (0, x)), (2, (0, i))] [] (cx_H O A) := by
    intro n
    induction n with
    | zero => intro i x hz; exact absurd hz (Nat.not_lt_zero _)
    | succ n ih =>
      intro i x hn g0 g1 g2
      refine hC.go [] _ rfl rfl ?_
      repeat' first | refine hC.gw [4] _ rfl rfl ?_ | refine And.intro ?_ ?_ | exact True.intro | refine hC.iadd [4] rfl rfl (by first | omega | (simp only [Int.reduceToNat] at *; omega)) ?_ | refine hC.isub [4] rfl rfl (by first | omega | (simp only [Int.reduceToNat] at *; omega)) ?_ | refine hC.imul [4] rfl rfl (by first | omega | (simp only [Int.reduceToNat] at *; omega)) ?_ | refine hC.iinc [4] rfl rfl rfl rfl (by first | omega | (simp only [Int.reduceToNat] at *; omega)) ?_ | refine hC.pfw (W := cx_H) [4] rfl rfl rfl rfl rfl rfl ?_ ?_ | refine hC.iaw (W := cx_H) [4] rfl rfl rfl rfl ?_ ?_ | refine hC.law (W := cx_H) [4] rfl rfl rfl rfl ?_ ?_ | refine hC.cpw (W := cx_H) [4] rfl rfl rfl rfl rfl rfl ?_ | refine hC.cpl (W := cx_H) [4] rfl rfl rfl rfl rfl rfl ?_ | refine hC.go [4] _ rfl rfl ?_ | (intro h; first | exact (h rfl).elim | (exfalso; cases h; done) | (dsimp only [kk_cP, kk_cN] at h) | skip)
      all_goals first | rfl | omega | skip
      · have e : i = A 1 2 := by have h' : A 1 2 ≤ i := h; omega
        refine ⟨_, rfl, ?_⟩
        rw [g2, e]
        rfl
      · have h' : i < A 1 2 := h
        omega
      · have h' : i < A 1 2 := h
        exact hC.sub [(0, (4, 0)), (1, (0, _)), (2, (0, _))] ⟨rfl, rfl, rfl, trivial⟩ (ih _ _ (by omega) (by omega) (by omega) (by rw [g2, show (i + 1).toNat = i.toNat + 1 by omega]; rfl))
  repeat' first | refine hC.gw [4] _ rfl rfl ?_ | refine And.intro ?_ ?_ | exact True.intro | refine hC.iadd [4] rfl rfl (by first | omega | (simp only [Int.reduceToNat] at *; omega)) ?_ | refine hC.isub [4] rfl rfl (by first | omega | (simp only [Int.reduceToNat] at *; omega)) ?_ | refine hC.imul [4] rfl rfl (by first | omega | (simp only [Int.reduceToNat] at *; omega)) ?_ | refine hC.iinc [4] rfl rfl rfl rfl (by first | omega | (simp only [Int.reduceToNat] at *; omega)) ?_ | refine hC.pfw (W := cx_H) [4] rfl rfl rfl rfl rfl rfl ?_ ?_ | refine hC.iaw (W := cx_H) [4] rfl rfl rfl rfl ?_ ?_ | refine hC.law (W := cx_H) [4] rfl rfl rfl rfl ?_ ?_ | refine hC.cpw (W := cx_H) [4] rfl rfl rfl rfl rfl rfl ?_ | refine hC.cpl (W := cx_H) [4] rfl rfl rfl rfl rfl rfl ?_ | refine hC.go [4] _ rfl rfl ?_ | (intro h; first | exact (h rfl).elim | (exfalso; cases h; done) | (dsimp only [kk_cP, kk_cN] at h) | skip)
  exact hC.sub [(0, (4, 0)), (1, (0, _)), (2, (0, _))] ⟨rfl, rfl, rfl, trivial⟩ (k4 _ _ _ (Nat.lt_succ_self _) (by omega) (by omega) rfl)
set_option maxRecDepth 100000 in
set_option maxHeartbeats 4000000 in
theorem cr_xFree (l : Launch) (d : Nat) {Bc : ci_B} {Bm : Nat → Nat → Int} {a b tl : Int} (O A : Nat → Nat → Int) (hJ : ci_J Bc tl a b O A) (hA : al Bc Bm tl a b) : kk_Ctr l (d + 40) en_t_X10_free [(4, 0)] (cx_C O A) (fun rs w' => ∃ O' A', w' = cx_C O' A' ∧ ci_J Bc tl a b O' A' ∧ ∃ x, rs = [(0, x)] ∧ x = fr_V Bm) := by
  obtain ⟨-, -, ⟨-, a1, -, -, -, a5, -⟩, -⟩ := hJ.fr
  obtain ⟨-, -, -, ⟨⟨-, -, -, c2⟩, ⟨n0, n1, n2⟩, -, n5, -⟩, -⟩ := hA.1
  have hv : fr_v (A 6 0) (A 6 2) (A 10) = fr_V Bm := by
    have e0 : A 6 0 = Bm 2 0 := (congrFun a1 0).trans n0.symm
    have e2 : A 6 2 = Bm 2 2 := (congrFun a1 2).trans n2.symm
    rw [e0, e2]
    refine fr_eq (by rw [n2]; exact c2) (fun j hj => ?_)
    exact (congrFun a5 j).trans (n5 j hj).2.2.1.symm
  refine kk_ctr en_hM (List.mem_of_getElem? (i := 13) rfl) rfl (Nat.le_of_ble_eq_true rfl) (fun K hC => ?_)
  repeat' first | refine hC.gw [] _ rfl rfl ?_ | refine And.intro ?_ ?_ | exact True.intro | refine hC.iadd [] rfl rfl (by first | omega | (simp only [Int.reduceToNat] at *; omega)) ?_ | refine hC.isub [] rfl rfl (by first | omega | (simp only [Int.reduceToNat] at *; omega)) ?_ | refine hC.imul [] rfl rfl (by first | omega | (simp only [Int.reduceToNat] at *; omega)) ?_ | refine hC.iinc [] rfl rfl rfl rfl (by first | omega | (simp only [Int.reduceToNat] at *; omega)) ?_ | refine hC.pfw (W := cx_C) [] rfl rfl rfl rfl rfl rfl ?_ ?_ | refine hC.iaw (W := cx_C) [] rfl rfl rfl rfl ?_ ?_ | refine hC.law (W := cx_C) [] rfl rfl rfl rfl ?_ ?_ | refine hC.cpw (W := cx_C) [] rfl rfl rfl rfl rfl rfl ?_ | refine hC.cpl (W := cx_C) [] rfl rfl rfl rfl rfl rfl ?_ | refine hC.go [] _ rfl rfl ?_ | (intro h; first | exact (h rfl).elim | (exfalso; cases h; done) | (dsimp only [kk_cP, kk_cN] at h) | skip)
  refine hC.rd ce_C_H (hh_xFree l _ _ _ hJ.house.1) rfl rfl rfl rfl rfl rfl (Nat.le_refl _) ?_
  rintro rs ⟨x, rfl, hx⟩
  have hx : x = fr_v (A 6 0) (A 6 2) (A 10) := hx
  repeat' first | refine hC.gw [] _ rfl rfl ?_ | refine And.intro ?_ ?_ | exact True.intro | refine hC.iadd [] rfl rfl (by first | omega | (simp only [Int.reduceToNat] at *; omega)) ?_ | refine hC.isub [] rfl rfl (by first | omega | (simp only [Int.reduceToNat] at *; omega)) ?_ | refine hC.imul [] rfl rfl (by first | omega | (simp only [Int.reduceToNat] at *; omega)) ?_ | refine hC.iinc [] rfl rfl rfl rfl (by first | omega | (simp only [Int.reduceToNat] at *; omega)) ?_ | refine hC.pfw (W := cx_C) [] rfl rfl rfl rfl rfl rfl ?_ ?_ | refine hC.iaw (W := cx_C) [] rfl rfl rfl rfl ?_ ?_ | refine hC.law (W := cx_C) [] rfl rfl rfl rfl ?_ ?_ | refine hC.cpw (W := cx_C) [] rfl rfl rfl rfl rfl rfl ?_ | refine hC.cpl (W := cx_C) [] rfl rfl rfl rfl rfl rfl ?_ | refine hC.go [] _ rfl rfl ?_ | (intro h; first | exact (h rfl).elim | (exfalso; cases h; done) | (dsimp only [kk_cP, kk_cN] at h) | skip)
  all_goals first | omega | exact ⟨_, _, rfl, hJ, _, rfl, hx.trans hv⟩
set_option maxRecDepth 100000 in
set_option maxHeartbeats 4000000 in
theorem mm_xBarredEver (l : Launch) (d : Nat) (F : Nat → Int) (A : Nat → Nat → Int) (hc : mm_cn (A 2)) : kk_Ctr l d en_t_X11_barredEver [(4, 0)] (mm_w F A) (fun rs w' => w' = mm_w F A ∧ ∃ x, rs = [(0, x)] ∧ x = bev (fun c => A 2 (25 + c)) (A 2 2).toNat) := by
  obtain ⟨c1, c2, c3, c4, c5, c6⟩ := hc
  refine kk_ctr en_hM (List.mem_of_getElem? (i := 232) rfl) rfl (Nat.le_of_ble_eq_true rfl) (fun K hC => ?_)
  have k4 : ∀ (n : Nat) (i : Int) (x : Int), (11 - i).toNat < n → (0 ≤ i ∧ i ≤ 10) → (i ≤ A 2 2) → (x = bev (fun c => A 2 (25 + c)) i.toNat) → K 4 [(0, (4, 0)), (1, (0, x)), (2, (0, i))] [] (mm_w F A) := by
    intro n
    induction n with
    | zero => intro i x hz; exact absurd hz (Nat.not_lt_zero _)
    | succ n ih =>
      intro i x hn g0 g1 g2
      refine hC.go [] _ rfl rfl ?_
      repeat' first | refine hC.gn [4] _ rfl rfl ?_ | refine And.intro ?_ ?_ | exact True.intro | refine hC.iadd [4] rfl rfl (by first | omega | (simp only [Int.reduceToNat] at *; omega)) ?_ | refine hC.isub [4] rfl rfl (by first | omega | (simp only [Int.reduceToNat] at *; omega)) ?_ | refine hC.imul [4] rfl rfl (by first | omega | (simp only [Int.reduceToNat] at *; omega)) ?_ | refine hC.iinc [4] rfl rfl rfl rfl (by first | omega | (simp only [Int.reduceToNat] at *; omega)) ?_ | refine hC.go [4] _ rfl rfl ?_ | (intro h; first | exact (h rfl).elim | (exfalso; cases h; done) | (dsimp only [kk_cP, kk_cN] at h) | skip)
      all_goals first | rfl | omega | skip
      · have e : i = A 2 2 := by have h' : A 2 2 ≤ i := h; omega
        refine ⟨_, rfl, ?_⟩
        rw [g2, e]
      · have h' : i < A 2 2 := h
        exact hC.sub [(0, (4, 0)), (1, (0, _)), (2, (0, _))] ⟨rfl, rfl, rfl, trivial⟩ (ih _ _ (by omega) (by omega) (by omega) (by rw [g2, show (i + 1).toNat = i.toNat + 1 by omega, show (25 + i).toNat = 25 + i.toNat by omega]; rfl))
  repeat' first | refine hC.gn [4] _ rfl rfl ?_ | refine And.intro ?_ ?_ | exact True.intro | refine hC.iadd [4] rfl rfl (by first | omega | (simp only [Int.reduceToNat] at *; omega)) ?_ | refine hC.isub [4] rfl rfl (by first | omega | (simp only [Int.reduceToNat] at *; omega)) ?_ | refine hC.imul [4] rfl rfl (by first | omega | (simp only [Int.reduceToNat] at *; omega)) ?_ | refine hC.iinc [4] rfl rfl rfl rfl (by first | omega | (simp only [Int.reduceToNat] at *; omega)) ?_ | refine hC.go [4] _ rfl rfl ?_ | (intro h; first | exact (h rfl).elim | (exfalso; cases h; done) | (dsimp only [kk_cP, kk_cN] at h) | skip)
  exact hC.sub [(0, (4, 0)), (1, (0, _)), (2, (0, _))] ⟨rfl, rfl, rfl, trivial⟩ (k4 _ _ _ (Nat.lt_succ_self _) (by omega) (by omega) rfl)
set_option maxRecDepth 100000 in
set_option maxHeartbeats 4000000 in
theorem mm_xAllDeeds (l : Launch) (d : Nat) (F : Nat → Int) (A : Nat → Nat → Int) : kk_Ctr l d en_t_X11_allDeeds [(4, 0)] (mm_w F A) (fun rs w' => w' = mm_w F A ∧ ∃ x, rs = [(0, x)] ∧ x = kk_i2 1 (kk_i2 6 1 (A 2 0)) 1) := by
  refine kk_ctr en_hM (List.mem_of_getElem? (i := 231) rfl) rfl (Nat.le_of_ble_eq_true rfl) (fun K hC => ?_)
  repeat' first | refine hC.gn [] _ rfl rfl ?_ | refine And.intro ?_ ?_ | exact True.intro | refine hC.iadd [] rfl rfl (by first | omega | (simp only [Int.reduceToNat] at *; omega)) ?_ | refine hC.isub [] rfl rfl (by first | omega | (simp only [Int.reduceToNat] at *; omega)) ?_ | refine hC.imul [] rfl rfl (by first | omega | (simp only [Int.reduceToNat] at *; omega)) ?_ | refine hC.iinc [] rfl rfl rfl rfl (by first | omega | (simp only [Int.reduceToNat] at *; omega)) ?_ | refine hC.go [] _ rfl rfl ?_ | (intro h; first | exact (h rfl).elim | (exfalso; cases h; done) | (dsimp only [kk_cP, kk_cN] at h) | skip)
  all_goals first | rfl | omega | exact ⟨_, rfl, rfl⟩
set_option maxRecDepth 100000 in
set_option maxHeartbeats 4000000 in
theorem mm_xFree (l : Launch) (d : Nat) {Bm : Nat → Nat → Int} (F : Nat → Int) (A : Nat → Nat → Int) (hI : mm_I Bm F A) : kk_Ctr l (d + 1) en_t_X11_free [(4, 0)] (mm_w F A) (fun rs w' => ∃ F' A', w' = mm_w F' A' ∧ mm_I Bm F' A' ∧ F' 2 = F 2 ∧ A' 10 = A 10 ∧ ∃ x, rs = [(0, x)] ∧ x = fr_V Bm) := by
  have hcn := hI.cn
  have fr := hI.2.2.2.2.2.2.2.2.2.2.2.1
  have hv : fr_v (A 2 0) (A 2 2) (fun c => A 2 (25 + c)) = fr_V Bm := by
    rw [fr 0 (by decide), fr 2 (by decide)]
    exact fr_eq (by rw [← fr 2 (by decide)]; exact hcn.2.2.2.2.2) (fun j hj => fr (25 + j) (by omega))
  refine kk_ctr en_hM (List.mem_of_getElem? (i := 182) rfl) rfl (Nat.le_of_ble_eq_true rfl) (fun K hC => ?_)
  repeat' first | refine hC.gn [] _ rfl rfl ?_ | refine And.intro ?_ ?_ | exact True.intro | refine hC.iadd [] rfl rfl (by first | omega | (simp only [Int.reduceToNat] at *; omega)) ?_ | refine hC.isub [] rfl rfl (by first | omega | (simp only [Int.reduceToNat] at *; omega)) ?_ | refine hC.imul [] rfl rfl (by first | omega | (simp only [Int.reduceToNat] at *; omega)) ?_ | refine hC.iinc [] rfl rfl rfl rfl (by first | omega | (simp only [Int.reduceToNat] at *; omega)) ?_ | refine hC.go [] _ rfl rfl ?_ | (intro h; first | exact (h rfl).elim | (exfalso; cases h; done) | (dsimp only [kk_cP, kk_cN] at h) | skip)
  refine hC.same (mm_xAllDeeds l _ (kk_up F 0 0) A) rfl rfl rfl rfl (Nat.le_refl _) ?_
  rintro rs w' ⟨rfl, x, rfl, hx⟩
  repeat' first | refine hC.gn [] _ rfl rfl ?_ | refine And.intro ?_ ?_ | exact True.intro | refine hC.iadd [] rfl rfl (by first | omega | (simp only [Int.reduceToNat] at *; omega)) ?_ | refine hC.isub [] rfl rfl (by first | omega | (simp only [Int.reduceToNat] at *; omega)) ?_ | refine hC.imul [] rfl rfl (by first | omega | (simp only [Int.reduceToNat] at *; omega)) ?_ | refine hC.iinc [] rfl rfl rfl rfl (by first | omega | (simp only [Int.reduceToNat] at *; omega)) ?_ | refine hC.go [] _ rfl rfl ?_ | (intro h; first | exact (h rfl).elim | (exfalso; cases h; done) | (dsimp only [kk_cP, kk_cN] at h) | skip)
  refine hC.same (mm_xBarredEver l _ (kk_up F 0 0) A hcn) rfl rfl rfl rfl (Nat.le_refl _) ?_
  rintro rs w' ⟨rfl, y, rfl, hy⟩
  repeat' first | refine hC.gn [] _ rfl rfl ?_ | refine And.intro ?_ ?_ | exact True.intro | refine hC.iadd [] rfl rfl (by first | omega | (simp only [Int.reduceToNat] at *; omega)) ?_ | refine hC.isub [] rfl rfl (by first | omega | (simp only [Int.reduceToNat] at *; omega)) ?_ | refine hC.imul [] rfl rfl (by first | omega | (simp only [Int.reduceToNat] at *; omega)) ?_ | refine hC.iinc [] rfl rfl rfl rfl (by first | omega | (simp only [Int.reduceToNat] at *; omega)) ?_ | refine hC.go [] _ rfl rfl ?_ | (intro h; first | exact (h rfl).elim | (exfalso; cases h; done) | (dsimp only [kk_cP, kk_cN] at h) | skip)
  all_goals first | rfl | omega | exact ⟨kk_up F 0 0, A, rfl, hI, rfl, rfl, _, rfl, (by rw [hx, hy]; exact hv)⟩
