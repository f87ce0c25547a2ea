/-! THE CLASS, 3: arrays filled; bits counted; texts -/
set_option maxRecDepth 100000 in
set_option maxHeartbeats 4000000 in
theorem jj_filli (l : Launch) (d : Nat) (c : Nat) (hn : c ≤ 1000) (O A : Nat → Nat → Int) (v : Int) : kk_Ctr l d en_t_J7_fill_53178 [(4, 0), (0, v)] [(1, c, [], A 0)] (fun rs w' => ∃ (O' A' : Nat → Nat → Int), w' = [(1, c, [], A' 0)] ∧ rs = [] ∧ ∀ j, j < c → A' 0 j = v) := by
  have hb : Nat.blt c 2147483648 = true := Nat.ble_eq_true_of_le (by omega)
  refine kk_ctr en_hM (List.mem_of_getElem? (i := 302) rfl) rfl (Nat.le_of_ble_eq_true rfl) (fun K hC => ?_)
  have k5 : ∀ (n : Nat) (i : Int) (f : Nat → Int), (c + 1 - i).toNat < n → (0 ≤ i ∧ i ≤ c) → (∀ j : Nat, (j : Int) < i → f j = v) → K 5 [(0, (4, 0)), (1, (0, v)), (2, (0, i)), (3, (0, (c : Int)))] [] [(1, c, [], f)] := by
    intro n
    induction n with
    | zero => intro i f hz; exact absurd hz (Nat.not_lt_zero _)
    | succ n ih =>
      intro i f hn h0 h1
      refine hC.go [] _ rfl rfl ?_
      repeat' first | refine hC.gw [5] _ rfl rfl ?_ | refine And.intro ?_ ?_ | exact True.intro | refine hC.iadd [5] rfl rfl (by first | omega | (simp only [Int.reduceToNat] at *; omega)) ?_ | refine hC.isub [5] rfl rfl (by first | omega | (simp only [Int.reduceToNat] at *; omega)) ?_ | refine hC.imul [5] rfl rfl (by first | omega | (simp only [Int.reduceToNat] at *; omega)) ?_ | refine hC.iinc [5] rfl rfl rfl rfl (by first | omega | (simp only [Int.reduceToNat] at *; omega)) ?_ | refine hC.pfw (W := cx_T) [5] rfl rfl rfl rfl rfl rfl ?_ ?_ | refine hC.iaw (W := cx_T) [5] rfl rfl rfl rfl ?_ ?_ | refine hC.law (W := cx_T) [5] rfl rfl rfl rfl ?_ ?_ | refine hC.cpw (W := cx_T) [5] rfl rfl rfl rfl rfl rfl ?_ | refine hC.cpl (W := cx_T) [5] rfl rfl rfl rfl rfl rfl ?_ | refine hC.go [5] _ rfl rfl ?_ | (intro h; first | exact (h rfl).elim | (exfalso; cases h; done) | (dsimp only [kk_cP, kk_cN] at h) | skip)
      all_goals first | rfl | omega | exact ⟨O, fun _ => f, rfl, rfl, fun j hj => h1 j (by omega)⟩ | skip
      refine hC.sub [(0, (4, 0)), (1, (0, _)), (2, (0, _)), (3, (0, _))] ⟨rfl, rfl, rfl, rfl, trivial⟩ (ih _ (kk_up f i.toNat v) (by omega) (by omega) (fun j hj => ?_))
      by_cases hq : j = i.toNat
      · rw [hq, kk_up_eq]
      · rw [kk_up_ne hq]; exact h1 j (by omega)
  repeat' first | refine hC.gn [3] _ rfl rfl ?_ | refine And.intro ?_ ?_ | exact True.intro | refine hC.iadd [3] rfl rfl (by first | omega | (simp only [Int.reduceToNat] at *; omega)) ?_ | refine hC.isub [3] rfl rfl (by first | omega | (simp only [Int.reduceToNat] at *; omega)) ?_ | refine hC.imul [3] rfl rfl (by first | omega | (simp only [Int.reduceToNat] at *; omega)) ?_ | refine hC.iinc [3] rfl rfl rfl rfl (by first | omega | (simp only [Int.reduceToNat] at *; omega)) ?_ | refine hC.go [3] _ rfl rfl ?_ | (intro h; first | exact (h rfl).elim | (exfalso; cases h; done) | (dsimp only [kk_cP, kk_cN] at h) | skip)
  refine hC.go [] _ rfl rfl ?_
  show cond (Nat.blt c 2147483648) (K 4 _ _ _) False
  rw [hb]
  show K 4 _ _ _
  repeat' first | refine hC.gn [5] _ rfl rfl ?_ | refine And.intro ?_ ?_ | exact True.intro | refine hC.iadd [5] rfl rfl (by first | omega | (simp only [Int.reduceToNat] at *; omega)) ?_ | refine hC.isub [5] rfl rfl (by first | omega | (simp only [Int.reduceToNat] at *; omega)) ?_ | refine hC.imul [5] rfl rfl (by first | omega | (simp only [Int.reduceToNat] at *; omega)) ?_ | refine hC.iinc [5] rfl rfl rfl rfl (by first | omega | (simp only [Int.reduceToNat] at *; omega)) ?_ | refine hC.go [5] _ rfl rfl ?_ | (intro h; first | exact (h rfl).elim | (exfalso; cases h; done) | (dsimp only [kk_cP, kk_cN] at h) | skip)
  exact hC.sub [(0, (4, 0)), (1, (0, _)), (2, (0, _)), (3, (0, _))] ⟨rfl, rfl, rfl, rfl, trivial⟩ (k5 _ _ (A 0) (Nat.lt_succ_self _) (by omega) (fun j hj => absurd hj (by omega)))
set_option maxRecDepth 100000 in
set_option maxHeartbeats 4000000 in
theorem jj_filll (l : Launch) (d : Nat) (c : Nat) (hn : c ≤ 1000) (O A : Nat → Nat → Int) (v : Int) : kk_Ctr l d en_t_J7_fill_d0a16 [(4, 0), (2, v)] [(2, c, [], A 0)] (fun rs w' => ∃ (O' A' : Nat → Nat → Int), w' = [(2, c, [], A' 0)] ∧ rs = []) := by
  have hb : Nat.blt c 2147483648 = true := Nat.ble_eq_true_of_le (by omega)
  refine kk_ctr en_hM (List.mem_of_getElem? (i := 303) rfl) rfl (Nat.le_of_ble_eq_true rfl) (fun K hC => ?_)
  have k6 : ∀ (n : Nat) (i : Int) (f : Nat → Int), (c + 1 - i).toNat < n → (0 ≤ i ∧ i ≤ c) → K 6 [(0, (4, 0)), (1, (2, v)), (3, (0, i)), (4, (0, (c : Int)))] [] [(2, c, [], f)] := by
    intro n
    induction n with
    | zero => intro i f hz; exact absurd hz (Nat.not_lt_zero _)
    | succ n ih =>
      intro i f hn h0
      refine hC.go [] _ rfl rfl ?_
      repeat' first | refine hC.gw [6] _ rfl rfl ?_ | refine And.intro ?_ ?_ | exact True.intro | refine hC.iadd [6] rfl rfl (by first | omega | (simp only [Int.reduceToNat] at *; omega)) ?_ | refine hC.isub [6] rfl rfl (by first | omega | (simp only [Int.reduceToNat] at *; omega)) ?_ | refine hC.imul [6] rfl rfl (by first | omega | (simp only [Int.reduceToNat] at *; omega)) ?_ | refine hC.iinc [6] rfl rfl rfl rfl (by first | omega | (simp only [Int.reduceToNat] at *; omega)) ?_ | refine hC.pfw (W := cx_T) [6] rfl rfl rfl rfl rfl rfl ?_ ?_ | refine hC.iaw (W := cx_T) [6] rfl rfl rfl rfl ?_ ?_ | refine hC.law (W := cx_T) [6] rfl rfl rfl rfl ?_ ?_ | refine hC.cpw (W := cx_T) [6] rfl rfl rfl rfl rfl rfl ?_ | refine hC.cpl (W := cx_T) [6] rfl rfl rfl rfl rfl rfl ?_ | refine hC.go [6] _ rfl rfl ?_ | (intro h; first | exact (h rfl).elim | (exfalso; cases h; done) | (dsimp only [kk_cP, kk_cN] at h) | skip)
      all_goals first | rfl | omega | exact ⟨O, fun _ => f, rfl, rfl⟩ | skip
      exact hC.sub [(0, (4, 0)), (1, (2, _)), (3, (0, _)), (4, (0, _))] ⟨rfl, rfl, rfl, rfl, trivial⟩ (ih _ (kk_up f i.toNat v) (by omega) (by omega))
  repeat' first | refine hC.gn [3] _ rfl rfl ?_ | refine And.intro ?_ ?_ | exact True.intro | refine hC.iadd [3] rfl rfl (by first | omega | (simp only [Int.reduceToNat] at *; omega)) ?_ | refine hC.isub [3] rfl rfl (by first | omega | (simp only [Int.reduceToNat] at *; omega)) ?_ | refine hC.imul [3] rfl rfl (by first | omega | (simp only [Int.reduceToNat] at *; omega)) ?_ | refine hC.iinc [3] rfl rfl rfl rfl (by first | omega | (simp only [Int.reduceToNat] at *; omega)) ?_ | refine hC.go [3] _ rfl rfl ?_ | (intro h; first | exact (h rfl).elim | (exfalso; cases h; done) | (dsimp only [kk_cP, kk_cN] at h) | skip)
  refine hC.go [] _ rfl rfl ?_
  show cond (Nat.blt c 2147483648) (K 4 _ _ _) False
  rw [hb]
  show K 4 _ _ _
  repeat' first | refine hC.gn [6] _ rfl rfl ?_ | refine And.intro ?_ ?_ | exact True.intro | refine hC.iadd [6] rfl rfl (by first | omega | (simp only [Int.reduceToNat] at *; omega)) ?_ | refine hC.isub [6] rfl rfl (by first | omega | (simp only [Int.reduceToNat] at *; omega)) ?_ | refine hC.imul [6] rfl rfl (by first | omega | (simp only [Int.reduceToNat] at *; omega)) ?_ | refine hC.iinc [6] rfl rfl rfl rfl (by first | omega | (simp only [Int.reduceToNat] at *; omega)) ?_ | refine hC.go [6] _ rfl rfl ?_ | (intro h; first | exact (h rfl).elim | (exfalso; cases h; done) | (dsimp only [kk_cP, kk_cN] at h) | skip)
  exact hC.sub [(0, (4, 0)), (1, (2, _)), (3, (0, _)), (4, (0, _))] ⟨rfl, rfl, rfl, rfl, trivial⟩ (k6 _ _ (A 0) (Nat.lt_succ_self _) (by omega))
set_option maxRecDepth 100000 in
set_option maxHeartbeats 4000000 in
theorem jj_fi3 (l : Launch) (d : Nat) (O A : Nat → Nat → Int) (v : Int) : kk_Ctr l d en_t_J7_fill_53178 [(4, 0), (0, v)] (cx_ai3 O A) (fun rs w' => ∃ O' A', w' = cx_ai3 O' A' ∧ rs = [] ∧ ∀ j, j < 3 → A' 0 j = v) := jj_filli l d 3 (by decide) O A v
set_option maxRecDepth 100000 in
set_option maxHeartbeats 4000000 in
theorem jj_fi10 (l : Launch) (d : Nat) (O A : Nat → Nat → Int) (v : Int) : kk_Ctr l d en_t_J7_fill_53178 [(4, 0), (0, v)] (cx_ai10 O A) (fun rs w' => ∃ O' A', w' = cx_ai10 O' A' ∧ rs = [] ∧ ∀ j, j < 10 → A' 0 j = v) := jj_filli l d 10 (by decide) O A v
set_option maxRecDepth 100000 in
set_option maxHeartbeats 4000000 in
theorem jj_fi32 (l : Launch) (d : Nat) (O A : Nat → Nat → Int) (v : Int) : kk_Ctr l d en_t_J7_fill_53178 [(4, 0), (0, v)] (cx_ai32 O A) (fun rs w' => ∃ O' A', w' = cx_ai32 O' A' ∧ rs = [] ∧ ∀ j, j < 32 → A' 0 j = v) := jj_filli l d 32 (by decide) O A v
set_option maxRecDepth 100000 in
set_option maxHeartbeats 4000000 in
theorem jj_fi4 (l : Launch) (d : Nat) (O A : Nat → Nat → Int) (v : Int) : kk_Ctr l d en_t_J7_fill_53178 [(4, 0), (0, v)] (cx_ai4 O A) (fun rs w' => ∃ O' A', w' = cx_ai4 O' A' ∧ rs = [] ∧ ∀ j, j < 4 → A' 0 j = v) := jj_filli l d 4 (by decide) O A v
set_option maxRecDepth 100000 in
set_option maxHeartbeats 4000000 in
theorem jj_fi16 (l : Launch) (d : Nat) (O A : Nat → Nat → Int) (v : Int) : kk_Ctr l d en_t_J7_fill_53178 [(4, 0), (0, v)] (cx_ai16 O A) (fun rs w' => ∃ O' A', w' = cx_ai16 O' A' ∧ rs = [] ∧ ∀ j, j < 16 → A' 0 j = v) := jj_filli l d 16 (by decide) O A v
set_option maxRecDepth 100000 in
set_option maxHeartbeats 4000000 in
theorem jj_fl30 (l : Launch) (d : Nat) (O A : Nat → Nat → Int) (v : Int) : kk_Ctr l d en_t_J7_fill_d0a16 [(4, 0), (2, v)] (cx_al30 O A) (fun rs w' => ∃ O' A', w' = cx_al30 O' A' ∧ rs = []) := jj_filll l d 30 (by decide) O A v
set_option maxRecDepth 100000 in
set_option maxHeartbeats 4000000 in
theorem jj_fl9 (l : Launch) (d : Nat) (O A : Nat → Nat → Int) (v : Int) : kk_Ctr l d en_t_J7_fill_d0a16 [(4, 0), (2, v)] (cx_al9 O A) (fun rs w' => ∃ O' A', w' = cx_al9 O' A' ∧ rs = []) := jj_filll l d 9 (by decide) O A v
set_option maxRecDepth 100000 in
set_option maxHeartbeats 4000000 in
theorem jj_bits (l : Launch) (d : Nat) (x : Int) : kk_Ctr l d en_t_J6_bitCount_0f7a4 [(0, x)] [] (fun rs w' => w' = [] ∧ ∃ y, rs = [(0, y)]) := by
  refine kk_ctr en_hM (List.mem_of_getElem? (i := 295) rfl) rfl (Nat.le_of_ble_eq_true rfl) (fun K hC => ?_)
  have k10 : ∀ (y : Int), (y = y) → K 10 [(0, (0, y))] [] [] := by
    intro y hy
    repeat' first | refine hC.gn [24] _ rfl rfl ?_ | refine And.intro ?_ ?_ | exact True.intro | refine hC.iadd [24] rfl rfl (by first | omega | (simp only [Int.reduceToNat] at *; omega)) ?_ | refine hC.isub [24] rfl rfl (by first | omega | (simp only [Int.reduceToNat] at *; omega)) ?_ | refine hC.imul [24] rfl rfl (by first | omega | (simp only [Int.reduceToNat] at *; omega)) ?_ | refine hC.iinc [24] rfl rfl rfl rfl (by first | omega | (simp only [Int.reduceToNat] at *; omega)) ?_ | refine hC.go [24] _ rfl rfl ?_ | (intro h; first | exact (h rfl).elim | (exfalso; cases h; done) | (dsimp only [kk_cP, kk_cN] at h) | skip)
    refine (show ∀ y : Int, K 24 [(0, (0, y))] [] [] from ?_) _
    intro y
    repeat' first | refine hC.gn [34] _ rfl rfl ?_ | refine And.intro ?_ ?_ | exact True.intro | refine hC.iadd [34] rfl rfl (by first | omega | (simp only [Int.reduceToNat] at *; omega)) ?_ | refine hC.isub [34] rfl rfl (by first | omega | (simp only [Int.reduceToNat] at *; omega)) ?_ | refine hC.imul [34] rfl rfl (by first | omega | (simp only [Int.reduceToNat] at *; omega)) ?_ | refine hC.iinc [34] rfl rfl rfl rfl (by first | omega | (simp only [Int.reduceToNat] at *; omega)) ?_ | refine hC.go [34] _ rfl rfl ?_ | (intro h; first | exact (h rfl).elim | (exfalso; cases h; done) | (dsimp only [kk_cP, kk_cN] at h) | skip)
    refine (show ∀ y : Int, K 34 [(0, (0, y))] [] [] from ?_) _
    intro y
    repeat' first | refine hC.gn [41] _ rfl rfl ?_ | refine And.intro ?_ ?_ | exact True.intro | refine hC.iadd [41] rfl rfl (by first | omega | (simp only [Int.reduceToNat] at *; omega)) ?_ | refine hC.isub [41] rfl rfl (by first | omega | (simp only [Int.reduceToNat] at *; omega)) ?_ | refine hC.imul [41] rfl rfl (by first | omega | (simp only [Int.reduceToNat] at *; omega)) ?_ | refine hC.iinc [41] rfl rfl rfl rfl (by first | omega | (simp only [Int.reduceToNat] at *; omega)) ?_ | refine hC.go [41] _ rfl rfl ?_ | (intro h; first | exact (h rfl).elim | (exfalso; cases h; done) | (dsimp only [kk_cP, kk_cN] at h) | skip)
    refine (show ∀ y : Int, K 41 [(0, (0, y))] [] [] from ?_) _
    intro y
    repeat' first | refine hC.gn [48] _ rfl rfl ?_ | refine And.intro ?_ ?_ | exact True.intro | refine hC.iadd [48] rfl rfl (by first | omega | (simp only [Int.reduceToNat] at *; omega)) ?_ | refine hC.isub [48] rfl rfl (by first | omega | (simp only [Int.reduceToNat] at *; omega)) ?_ | refine hC.imul [48] rfl rfl (by first | omega | (simp only [Int.reduceToNat] at *; omega)) ?_ | refine hC.iinc [48] rfl rfl rfl rfl (by first | omega | (simp only [Int.reduceToNat] at *; omega)) ?_ | refine hC.go [48] _ rfl rfl ?_ | (intro h; first | exact (h rfl).elim | (exfalso; cases h; done) | (dsimp only [kk_cP, kk_cN] at h) | skip)
    refine (show ∀ y : Int, K 48 [(0, (0, y))] [] [] from ?_) _
    intro y
    repeat' first | refine hC.gn [] _ rfl rfl ?_ | refine And.intro ?_ ?_ | exact True.intro | refine hC.iadd [] rfl rfl (by first | omega | (simp only [Int.reduceToNat] at *; omega)) ?_ | refine hC.isub [] rfl rfl (by first | omega | (simp only [Int.reduceToNat] at *; omega)) ?_ | refine hC.imul [] rfl rfl (by first | omega | (simp only [Int.reduceToNat] at *; omega)) ?_ | refine hC.iinc [] rfl rfl rfl rfl (by first | omega | (simp only [Int.reduceToNat] at *; omega)) ?_ | refine hC.go [] _ rfl rfl ?_ | (intro h; first | exact (h rfl).elim | (exfalso; cases h; done) | (dsimp only [kk_cP, kk_cN] at h) | skip)
    all_goals first | rfl | omega | exact ⟨_, rfl⟩ | exact Or.inl rfl | exact Or.inr rfl | (simp only [Int.reduceToNat] at *; omega)
  repeat' first | refine hC.gn [10] _ rfl rfl ?_ | refine And.intro ?_ ?_ | exact True.intro | refine hC.iadd [10] rfl rfl (by first | omega | (simp only [Int.reduceToNat] at *; omega)) ?_ | refine hC.isub [10] rfl rfl (by first | omega | (simp only [Int.reduceToNat] at *; omega)) ?_ | refine hC.imul [10] rfl rfl (by first | omega | (simp only [Int.reduceToNat] at *; omega)) ?_ | refine hC.iinc [10] rfl rfl rfl rfl (by first | omega | (simp only [Int.reduceToNat] at *; omega)) ?_ | refine hC.go [10] _ rfl rfl ?_ | (intro h; first | exact (h rfl).elim | (exfalso; cases h; done) | (dsimp only [kk_cP, kk_cN] at h) | skip)
  exact k10 _ rfl
set_option maxRecDepth 100000 in
set_option maxHeartbeats 4000000 in
theorem jj_coder (l : Launch) (d : Nat) (k : Nat) (hk : k = 1 ∨ k = 2) : kk_Ctr l d en_t_J0_coder_7d493 [(6, (k : Int))] [] (fun rs w' => w' = [] ∧ rs = [(0, 0)]) := by
  rcases hk with rfl | rfl
  all_goals
    refine kk_ctr en_hM (List.mem_of_getElem? (i := 298) rfl) rfl (Nat.le_of_ble_eq_true rfl) (fun K hC => ?_)
    repeat' first | refine hC.gn [] _ rfl rfl ?_ | refine And.intro ?_ ?_ | exact True.intro | refine hC.iadd [] rfl rfl (by first | omega | (simp only [Int.reduceToNat] at *; omega)) ?_ | refine hC.isub [] rfl rfl (by first | omega | (simp only [Int.reduceToNat] at *; omega)) ?_ | refine hC.imul [] rfl rfl (by first | omega | (simp only [Int.reduceToNat] at *; omega)) ?_ | refine hC.iinc [] rfl rfl rfl rfl (by first | omega | (simp only [Int.reduceToNat] at *; omega)) ?_ | refine hC.go [] _ rfl rfl ?_ | (intro h; first | exact (h rfl).elim | (exfalso; cases h; done) | (dsimp only [kk_cP, kk_cN] at h) | skip)
    all_goals first | rfl | omega | exact ⟨_, rfl⟩ | exact Or.inl rfl | exact Or.inr rfl | (simp only [Int.reduceToNat] at *; omega)
set_option maxRecDepth 100000 in
set_option maxHeartbeats 4000000 in
theorem jj_isLatin1 (l : Launch) (d : Nat) (k : Nat) (hk : k = 1 ∨ k = 2) : kk_Ctr l d en_t_J0_isLatin1_aae02 [(6, (k : Int))] [] (fun rs w' => w' = [] ∧ rs = [(0, 1)]) := by
  rcases hk with rfl | rfl
  all_goals
    refine kk_ctr en_hM (List.mem_of_getElem? (i := 299) rfl) rfl (Nat.le_of_ble_eq_true rfl) (fun K hC => ?_)
    repeat' first | refine hC.gn [] _ rfl rfl ?_ | refine And.intro ?_ ?_ | exact True.intro | refine hC.iadd [] rfl rfl (by first | omega | (simp only [Int.reduceToNat] at *; omega)) ?_ | refine hC.isub [] rfl rfl (by first | omega | (simp only [Int.reduceToNat] at *; omega)) ?_ | refine hC.imul [] rfl rfl (by first | omega | (simp only [Int.reduceToNat] at *; omega)) ?_ | refine hC.iinc [] rfl rfl rfl rfl (by first | omega | (simp only [Int.reduceToNat] at *; omega)) ?_ | refine hC.go [] _ rfl rfl ?_ | (intro h; first | exact (h rfl).elim | (exfalso; cases h; done) | (dsimp only [kk_cP, kk_cN] at h) | skip)
    all_goals first | rfl | omega | exact ⟨_, rfl⟩ | exact Or.inl rfl | exact Or.inr rfl | (simp only [Int.reduceToNat] at *; omega)
def jj_len (k : Nat) : Int := match k with
  | 1 => 12
  | _ => 6
set_option maxRecDepth 100000 in
set_option maxHeartbeats 4000000 in
theorem jj_length (l : Launch) (d : Nat) (k : Nat) (hk : k = 1 ∨ k = 2) : kk_Ctr l (d + 1) en_t_J0_length_8abf5 [(6, (k : Int))] [] (fun rs w' => w' = [] ∧ rs = [(0, jj_len k)]) := by
  rcases hk with rfl | rfl
  all_goals
    refine kk_ctr en_hM (List.mem_of_getElem? (i := 296) rfl) rfl (Nat.le_of_ble_eq_true rfl) (fun K hC => ?_)
    repeat' first | refine hC.gn [] _ rfl rfl ?_ | refine And.intro ?_ ?_ | exact True.intro | refine hC.iadd [] rfl rfl (by first | omega | (simp only [Int.reduceToNat] at *; omega)) ?_ | refine hC.isub [] rfl rfl (by first | omega | (simp only [Int.reduceToNat] at *; omega)) ?_ | refine hC.imul [] rfl rfl (by first | omega | (simp only [Int.reduceToNat] at *; omega)) ?_ | refine hC.iinc [] rfl rfl rfl rfl (by first | omega | (simp only [Int.reduceToNat] at *; omega)) ?_ | refine hC.go [] _ rfl rfl ?_ | (intro h; first | exact (h rfl).elim | (exfalso; cases h; done) | (dsimp only [kk_cP, kk_cN] at h) | skip) | (refine hC.call (jj_coder l _ 1 (Or.inl rfl)) [] rfl rfl rfl rfl rfl rfl trivial (Nat.le_refl _) ?_; rintro rs w' ⟨rfl, rfl⟩) | (refine hC.call (jj_coder l _ 2 (Or.inr rfl)) [] rfl rfl rfl rfl rfl rfl trivial (Nat.le_refl _) ?_; rintro rs w' ⟨rfl, rfl⟩)
    all_goals first | rfl | omega | exact ⟨_, rfl⟩ | exact Or.inl rfl | exact Or.inr rfl | (simp only [Int.reduceToNat] at *; omega)
set_option maxRecDepth 100000 in
set_option maxHeartbeats 4000000 in
theorem jj_check3 (l : Launch) (d : Nat) (i n : Int) (h : 0 ≤ i ∧ i < n) : kk_Ctr l d en_t_J3_checkIndex_8e157 [(0, i), (0, n), (9, 0)] [] (fun rs w' => w' = [] ∧ rs = [(0, i)]) := by
  refine kk_ctr en_hM (List.mem_of_getElem? (i := 304) rfl) rfl (Nat.le_of_ble_eq_true rfl) (fun K hC => ?_)
  repeat' first | refine hC.gn [] _ rfl rfl ?_ | refine And.intro ?_ ?_ | exact True.intro | refine hC.iadd [] rfl rfl (by first | omega | (simp only [Int.reduceToNat] at *; omega)) ?_ | refine hC.isub [] rfl rfl (by first | omega | (simp only [Int.reduceToNat] at *; omega)) ?_ | refine hC.imul [] rfl rfl (by first | omega | (simp only [Int.reduceToNat] at *; omega)) ?_ | refine hC.iinc [] rfl rfl rfl rfl (by first | omega | (simp only [Int.reduceToNat] at *; omega)) ?_ | refine hC.go [] _ rfl rfl ?_ | (intro h; first | exact (h rfl).elim | (exfalso; cases h; done) | (dsimp only [kk_cP, kk_cN] at h) | skip)
  all_goals first | rfl | omega | exact ⟨_, rfl⟩ | exact Or.inl rfl | exact Or.inr rfl | (simp only [Int.reduceToNat] at *; omega) | (exfalso; omega)
set_option maxRecDepth 100000 in
set_option maxHeartbeats 4000000 in
theorem jj_check0 (l : Launch) (d : Nat) (i n : Int) (h : 0 ≤ i ∧ i < n) : kk_Ctr l (d + 1) en_t_J0_checkIndex_df160 [(0, i), (0, n)] [] (fun rs w' => w' = [] ∧ rs = []) := by
  refine kk_ctr en_hM (List.mem_of_getElem? (i := 300) rfl) rfl (Nat.le_of_ble_eq_true rfl) (fun K hC => ?_)
  repeat' first | refine hC.gn [] _ rfl rfl ?_ | refine And.intro ?_ ?_ | exact True.intro | refine hC.iadd [] rfl rfl (by first | omega | (simp only [Int.reduceToNat] at *; omega)) ?_ | refine hC.isub [] rfl rfl (by first | omega | (simp only [Int.reduceToNat] at *; omega)) ?_ | refine hC.imul [] rfl rfl (by first | omega | (simp only [Int.reduceToNat] at *; omega)) ?_ | refine hC.iinc [] rfl rfl rfl rfl (by first | omega | (simp only [Int.reduceToNat] at *; omega)) ?_ | refine hC.go [] _ rfl rfl ?_ | (intro h; first | exact (h rfl).elim | (exfalso; cases h; done) | (dsimp only [kk_cP, kk_cN] at h) | skip)
  refine hC.call (jj_check3 l _ i n h) [] rfl rfl rfl rfl rfl rfl trivial (Nat.le_refl _) ?_
  rintro rs w' ⟨rfl, rfl⟩
  repeat' first | refine hC.gn [] _ rfl rfl ?_ | refine And.intro ?_ ?_ | exact True.intro | refine hC.iadd [] rfl rfl (by first | omega | (simp only [Int.reduceToNat] at *; omega)) ?_ | refine hC.isub [] rfl rfl (by first | omega | (simp only [Int.reduceToNat] at *; omega)) ?_ | refine hC.imul [] rfl rfl (by first | omega | (simp only [Int.reduceToNat] at *; omega)) ?_ | refine hC.iinc [] rfl rfl rfl rfl (by first | omega | (simp only [Int.reduceToNat] at *; omega)) ?_ | refine hC.go [] _ rfl rfl ?_ | (intro h; first | exact (h rfl).elim | (exfalso; cases h; done) | (dsimp only [kk_cP, kk_cN] at h) | skip)
  all_goals first | rfl | omega | exact ⟨_, rfl⟩ | exact Or.inl rfl | exact Or.inr rfl | (simp only [Int.reduceToNat] at *; omega)
