/-! THE CLASS, 22: texts are written -/
theorem kk_chr (y : Int) : (Int32.ofInt (kk_i2c y)).toUInt32.toUInt16.toUInt32.toInt32 = Int32.ofInt (kk_i2c y) := by
  have e : Int32.ofInt (kk_i2c y) = ((Int32.ofInt y).toUInt32 % 65536).toInt32 := by
    unfold kk_i2c
    rw [Int32.ofInt_toInt]
  rw [e]
  generalize (Int32.ofInt y).toUInt32 = u
  have e1 : ((u % 65536).toInt32).toUInt32 = u % 65536 := rfl
  rw [e1]
  have e2 : (u % 65536).toUInt16.toUInt32 = u % 65536 := by
    apply UInt32.toNat_inj.mp
    simp
  rw [e2]
set_option maxRecDepth 100000 in
set_option maxHeartbeats 4000000 in
theorem jj_charAtL (l : Launch) (d : Nat) (k : Nat) (hk : k = 1 ∨ k = 2) (i : Int) (i0 : 0 ≤ i) (i1 : i < jj_len k) : kk_Ctr l (d + 2) en_t_J1_charAt_3b067 [(6, ((100 + k : Nat) : Int)), (0, i)] [] (fun rs w' => w' = [] ∧ ∃ y, rs = [(0, kk_i2c y)]) := by
  rcases hk with rfl | rfl
  · have i1 : i < 12 := i1
    refine kk_ctr en_hM (List.mem_of_getElem? (i := 301) rfl) rfl (Nat.le_of_ble_eq_true rfl) (fun K hC => ?_)
    repeat' first | refine hC.gn [] _ rfl rfl ?_ | refine And.intro ?_ ?_ | exact True.intro | refine hC.iadd [] rfl rfl (by first | omega | (simp only [Int.reduceToNat] at *; omega)) ?_ | refine hC.isub [] rfl rfl (by first | omega | (simp only [Int.reduceToNat] at *; omega)) ?_ | refine hC.imul [] rfl rfl (by first | omega | (simp only [Int.reduceToNat] at *; omega)) ?_ | refine hC.iinc [] rfl rfl rfl rfl (by first | omega | (simp only [Int.reduceToNat] at *; omega)) ?_ | refine hC.go [] _ rfl rfl ?_ | (intro h; first | exact (h rfl).elim | (exfalso; cases h; done) | (dsimp only [kk_cP, kk_cN] at h) | skip)
    refine hC.call (jj_check0 l _ i 12 ⟨i0, i1⟩) [] rfl rfl rfl rfl rfl rfl trivial (Nat.le_refl _) ?_
    rintro rs w' ⟨rfl, rfl⟩
    repeat' first | refine hC.gn [] _ rfl rfl ?_ | refine And.intro ?_ ?_ | exact True.intro | refine hC.iadd [] rfl rfl (by first | omega | (simp only [Int.reduceToNat] at *; omega)) ?_ | refine hC.isub [] rfl rfl (by first | omega | (simp only [Int.reduceToNat] at *; omega)) ?_ | refine hC.imul [] rfl rfl (by first | omega | (simp only [Int.reduceToNat] at *; omega)) ?_ | refine hC.iinc [] rfl rfl rfl rfl (by first | omega | (simp only [Int.reduceToNat] at *; omega)) ?_ | refine hC.go [] _ rfl rfl ?_ | (intro h; first | exact (h rfl).elim | (exfalso; cases h; done) | (dsimp only [kk_cP, kk_cN] at h) | skip)
    all_goals first | rfl | omega | exact ⟨_, rfl⟩ | exact kk_chr _ | (show i < 12; omega)
  · have i1 : i < 6 := i1
    refine kk_ctr en_hM (List.mem_of_getElem? (i := 301) rfl) rfl (Nat.le_of_ble_eq_true rfl) (fun K hC => ?_)
    repeat' first | refine hC.gn [] _ rfl rfl ?_ | refine And.intro ?_ ?_ | exact True.intro | refine hC.iadd [] rfl rfl (by first | omega | (simp only [Int.reduceToNat] at *; omega)) ?_ | refine hC.isub [] rfl rfl (by first | omega | (simp only [Int.reduceToNat] at *; omega)) ?_ | refine hC.imul [] rfl rfl (by first | omega | (simp only [Int.reduceToNat] at *; omega)) ?_ | refine hC.iinc [] rfl rfl rfl rfl (by first | omega | (simp only [Int.reduceToNat] at *; omega)) ?_ | refine hC.go [] _ rfl rfl ?_ | (intro h; first | exact (h rfl).elim | (exfalso; cases h; done) | (dsimp only [kk_cP, kk_cN] at h) | skip)
    refine hC.call (jj_check0 l _ i 6 ⟨i0, i1⟩) [] rfl rfl rfl rfl rfl rfl trivial (Nat.le_refl _) ?_
    rintro rs w' ⟨rfl, rfl⟩
    repeat' first | refine hC.gn [] _ rfl rfl ?_ | refine And.intro ?_ ?_ | exact True.intro | refine hC.iadd [] rfl rfl (by first | omega | (simp only [Int.reduceToNat] at *; omega)) ?_ | refine hC.isub [] rfl rfl (by first | omega | (simp only [Int.reduceToNat] at *; omega)) ?_ | refine hC.imul [] rfl rfl (by first | omega | (simp only [Int.reduceToNat] at *; omega)) ?_ | refine hC.iinc [] rfl rfl rfl rfl (by first | omega | (simp only [Int.reduceToNat] at *; omega)) ?_ | refine hC.go [] _ rfl rfl ?_ | (intro h; first | exact (h rfl).elim | (exfalso; cases h; done) | (dsimp only [kk_cP, kk_cN] at h) | skip)
    all_goals first | rfl | omega | exact ⟨_, rfl⟩ | exact kk_chr _ | (show i < 6; omega)
set_option maxRecDepth 100000 in
set_option maxHeartbeats 4000000 in
theorem jj_charAt (l : Launch) (d : Nat) (k : Nat) (hk : k = 1 ∨ k = 2) (i : Int) (i0 : 0 ≤ i) (i1 : i < jj_len k) : kk_Ctr l (d + 3) en_t_J0_charAt_5068e [(6, (k : Int)), (0, i)] [] (fun rs w' => w' = [] ∧ ∃ x, rs = [(0, x)]) := by
  rcases hk with rfl | rfl
  · refine kk_ctr en_hM (List.mem_of_getElem? (i := 297) rfl) rfl (Nat.le_of_ble_eq_true rfl) (fun K hC => ?_)
    repeat' first | refine hC.gn [] _ rfl rfl ?_ | refine And.intro ?_ ?_ | exact True.intro | refine hC.iadd [] rfl rfl (by first | omega | (simp only [Int.reduceToNat] at *; omega)) ?_ | refine hC.isub [] rfl rfl (by first | omega | (simp only [Int.reduceToNat] at *; omega)) ?_ | refine hC.imul [] rfl rfl (by first | omega | (simp only [Int.reduceToNat] at *; omega)) ?_ | refine hC.iinc [] rfl rfl rfl rfl (by first | omega | (simp only [Int.reduceToNat] at *; omega)) ?_ | refine hC.go [] _ rfl rfl ?_ | (intro h; first | exact (h rfl).elim | (exfalso; cases h; done) | (dsimp only [kk_cP, kk_cN] at h) | skip)
    refine hC.call (jj_isLatin1 l _ 1 (Or.inl rfl)) [] rfl rfl rfl rfl rfl rfl trivial (Nat.le_refl _) ?_
    rintro rs w' ⟨rfl, rfl⟩
    repeat' first | refine hC.gn [] _ rfl rfl ?_ | refine And.intro ?_ ?_ | exact True.intro | refine hC.iadd [] rfl rfl (by first | omega | (simp only [Int.reduceToNat] at *; omega)) ?_ | refine hC.isub [] rfl rfl (by first | omega | (simp only [Int.reduceToNat] at *; omega)) ?_ | refine hC.imul [] rfl rfl (by first | omega | (simp only [Int.reduceToNat] at *; omega)) ?_ | refine hC.iinc [] rfl rfl rfl rfl (by first | omega | (simp only [Int.reduceToNat] at *; omega)) ?_ | refine hC.go [] _ rfl rfl ?_ | (intro h; first | exact (h rfl).elim | (exfalso; cases h; done) | (dsimp only [kk_cP, kk_cN] at h) | skip)
    refine hC.call (jj_charAtL l _ 1 (Or.inl rfl) i i0 i1) [] rfl rfl rfl rfl rfl rfl trivial (Nat.le_refl _) ?_
    rintro rs w' ⟨rfl, y, rfl⟩
    repeat' first | refine hC.gn [] _ rfl rfl ?_ | refine And.intro ?_ ?_ | exact True.intro | refine hC.iadd [] rfl rfl (by first | omega | (simp only [Int.reduceToNat] at *; omega)) ?_ | refine hC.isub [] rfl rfl (by first | omega | (simp only [Int.reduceToNat] at *; omega)) ?_ | refine hC.imul [] rfl rfl (by first | omega | (simp only [Int.reduceToNat] at *; omega)) ?_ | refine hC.iinc [] rfl rfl rfl rfl (by first | omega | (simp only [Int.reduceToNat] at *; omega)) ?_ | refine hC.go [] _ rfl rfl ?_ | (intro h; first | exact (h rfl).elim | (exfalso; cases h; done) | (dsimp only [kk_cP, kk_cN] at h) | skip)
    all_goals first | rfl | exact ⟨_, rfl⟩ | exact kk_chr _
  · refine kk_ctr en_hM (List.mem_of_getElem? (i := 297) rfl) rfl (Nat.le_of_ble_eq_true rfl) (fun K hC => ?_)
    repeat' first | refine hC.gn [] _ rfl rfl ?_ | refine And.intro ?_ ?_ | exact True.intro | refine hC.iadd [] rfl rfl (by first | omega | (simp only [Int.reduceToNat] at *; omega)) ?_ | refine hC.isub [] rfl rfl (by first | omega | (simp only [Int.reduceToNat] at *; omega)) ?_ | refine hC.imul [] rfl rfl (by first | omega | (simp only [Int.reduceToNat] at *; omega)) ?_ | refine hC.iinc [] rfl rfl rfl rfl (by first | omega | (simp only [Int.reduceToNat] at *; omega)) ?_ | refine hC.go [] _ rfl rfl ?_ | (intro h; first | exact (h rfl).elim | (exfalso; cases h; done) | (dsimp only [kk_cP, kk_cN] at h) | skip)
    refine hC.call (jj_isLatin1 l _ 2 (Or.inr rfl)) [] rfl rfl rfl rfl rfl rfl trivial (Nat.le_refl _) ?_
    rintro rs w' ⟨rfl, rfl⟩
    repeat' first | refine hC.gn [] _ rfl rfl ?_ | refine And.intro ?_ ?_ | exact True.intro | refine hC.iadd [] rfl rfl (by first | omega | (simp only [Int.reduceToNat] at *; omega)) ?_ | refine hC.isub [] rfl rfl (by first | omega | (simp only [Int.reduceToNat] at *; omega)) ?_ | refine hC.imul [] rfl rfl (by first | omega | (simp only [Int.reduceToNat] at *; omega)) ?_ | refine hC.iinc [] rfl rfl rfl rfl (by first | omega | (simp only [Int.reduceToNat] at *; omega)) ?_ | refine hC.go [] _ rfl rfl ?_ | (intro h; first | exact (h rfl).elim | (exfalso; cases h; done) | (dsimp only [kk_cP, kk_cN] at h) | skip)
    refine hC.call (jj_charAtL l _ 2 (Or.inr rfl) i i0 i1) [] rfl rfl rfl rfl rfl rfl trivial (Nat.le_refl _) ?_
    rintro rs w' ⟨rfl, y, rfl⟩
    repeat' first | refine hC.gn [] _ rfl rfl ?_ | refine And.intro ?_ ?_ | exact True.intro | refine hC.iadd [] rfl rfl (by first | omega | (simp only [Int.reduceToNat] at *; omega)) ?_ | refine hC.isub [] rfl rfl (by first | omega | (simp only [Int.reduceToNat] at *; omega)) ?_ | refine hC.imul [] rfl rfl (by first | omega | (simp only [Int.reduceToNat] at *; omega)) ?_ | refine hC.iinc [] rfl rfl rfl rfl (by first | omega | (simp only [Int.reduceToNat] at *; omega)) ?_ | refine hC.go [] _ rfl rfl ?_ | (intro h; first | exact (h rfl).elim | (exfalso; cases h; done) | (dsimp only [kk_cP, kk_cN] at h) | skip)
    all_goals first | rfl | exact ⟨_, rfl⟩ | exact kk_chr _
set_option maxRecDepth 100000 in
set_option maxHeartbeats 4000000 in
theorem tt_addText (l : Launch) (d : Nat) (O A : Nat → Nat → Int) (k : Nat) (hk : k = 1 ∨ k = 2) (h0 : 0 ≤ O 0 1) : kk_Ctr l (d + 4) en_t_X8_addText [(4, 0), (6, (k : Int))] (cx_T80 O A) (fun rs w' => ∃ O' A', w' = cx_T80 O' A' ∧ rs = [] ∧ 0 ≤ O' 0 1) := by
  have hlen : jj_len k ≤ 12 := by rcases hk with rfl | rfl <;> decide
  refine kk_ctr en_hM (List.mem_of_getElem? (i := 154) rfl) rfl (Nat.le_of_ble_eq_true rfl) (fun K hC => ?_)
  have k2 : ∀ (n : Nat) (i : Int) (O1 : Nat → Nat → Int) (A1 : Nat → Nat → Int), (13 - i).toNat < n → (0 ≤ i ∧ i ≤ 12) → (0 ≤ O1 0 1) → K 2 [(0, (4, 0)), (1, (6, (k : Int))), (2, (0, i))] [] (cx_T80 O1 A1) := by
    intro n
    induction n with
    | zero => intro i O1 A1 hz; exact absurd hz (Nat.not_lt_zero _)
    | succ n ih =>
      intro i O1 A1 hn g0 g2
      refine hC.go [] _ rfl rfl ?_
      repeat' first | refine hC.gw [2] _ rfl rfl ?_ | refine And.intro ?_ ?_ | exact True.intro | refine hC.iadd [2] rfl rfl (by first | omega | (simp only [Int.reduceToNat] at *; omega)) ?_ | refine hC.isub [2] rfl rfl (by first | omega | (simp only [Int.reduceToNat] at *; omega)) ?_ | refine hC.imul [2] rfl rfl (by first | omega | (simp only [Int.reduceToNat] at *; omega)) ?_ | refine hC.iinc [2] rfl rfl rfl rfl (by first | omega | (simp only [Int.reduceToNat] at *; omega)) ?_ | refine hC.pfw (W := cx_T80) [2] rfl rfl rfl rfl rfl rfl ?_ ?_ | refine hC.iaw (W := cx_T80) [2] rfl rfl rfl rfl ?_ ?_ | refine hC.law (W := cx_T80) [2] rfl rfl rfl rfl ?_ ?_ | refine hC.cpw (W := cx_T80) [2] rfl rfl rfl rfl rfl rfl ?_ | refine hC.cpl (W := cx_T80) [2] rfl rfl rfl rfl rfl rfl ?_ | refine hC.go [2] _ rfl rfl ?_ | (intro h; first | exact (h rfl).elim | (exfalso; cases h; done) | (dsimp only [kk_cP, kk_cN] at h) | skip)
      refine hC.call (jj_length l _ k hk) [] rfl rfl rfl (by rcases hk with rfl | rfl <;> rfl) rfl rfl trivial (Nat.le_refl _) ?_
      rintro rs w' ⟨rfl, rfl⟩
      repeat' first | refine hC.gw [2] _ rfl rfl ?_ | refine And.intro ?_ ?_ | exact True.intro | refine hC.iadd [2] rfl rfl (by first | omega | (simp only [Int.reduceToNat] at *; omega)) ?_ | refine hC.isub [2] rfl rfl (by first | omega | (simp only [Int.reduceToNat] at *; omega)) ?_ | refine hC.imul [2] rfl rfl (by first | omega | (simp only [Int.reduceToNat] at *; omega)) ?_ | refine hC.iinc [2] rfl rfl rfl rfl (by first | omega | (simp only [Int.reduceToNat] at *; omega)) ?_ | refine hC.pfw (W := cx_T80) [2] rfl rfl rfl rfl rfl rfl ?_ ?_ | refine hC.iaw (W := cx_T80) [2] rfl rfl rfl rfl ?_ ?_ | refine hC.law (W := cx_T80) [2] rfl rfl rfl rfl ?_ ?_ | refine hC.cpw (W := cx_T80) [2] rfl rfl rfl rfl rfl rfl ?_ | refine hC.cpl (W := cx_T80) [2] rfl rfl rfl rfl rfl rfl ?_ | refine hC.go [2] _ rfl rfl ?_ | (intro h; first | exact (h rfl).elim | (exfalso; cases h; done) | (dsimp only [kk_cP, kk_cN] at h) | skip)
      all_goals first | exact ⟨O1, A1, rfl, rfl, g2⟩ | skip
      refine hC.call (jj_charAt l _ k hk i (by omega) (by assumption)) [] rfl rfl rfl (by rcases hk with rfl | rfl <;> rfl) rfl rfl trivial (Nat.le_refl _) ?_
      rintro rs w' ⟨rfl, x, rfl⟩
      repeat' first | refine hC.gw [2] _ rfl rfl ?_ | refine And.intro ?_ ?_ | exact True.intro | refine hC.iadd [2] rfl rfl (by first | omega | (simp only [Int.reduceToNat] at *; omega)) ?_ | refine hC.isub [2] rfl rfl (by first | omega | (simp only [Int.reduceToNat] at *; omega)) ?_ | refine hC.imul [2] rfl rfl (by first | omega | (simp only [Int.reduceToNat] at *; omega)) ?_ | refine hC.iinc [2] rfl rfl rfl rfl (by first | omega | (simp only [Int.reduceToNat] at *; omega)) ?_ | refine hC.pfw (W := cx_T80) [2] rfl rfl rfl rfl rfl rfl ?_ ?_ | refine hC.iaw (W := cx_T80) [2] rfl rfl rfl rfl ?_ ?_ | refine hC.law (W := cx_T80) [2] rfl rfl rfl rfl ?_ ?_ | refine hC.cpw (W := cx_T80) [2] rfl rfl rfl rfl rfl rfl ?_ | refine hC.cpl (W := cx_T80) [2] rfl rfl rfl rfl rfl rfl ?_ | refine hC.go [2] _ rfl rfl ?_ | (intro h; first | exact (h rfl).elim | (exfalso; cases h; done) | (dsimp only [kk_cP, kk_cN] at h) | skip)
      refine hC.same (tt_addByte80 l _ O1 A1 _ g2) rfl rfl rfl rfl (Nat.le_refl _) ?_
      rintro rs w' ⟨O2, A2, rfl, rfl, q⟩
      repeat' first | refine hC.gw [2] _ rfl rfl ?_ | refine And.intro ?_ ?_ | exact True.intro | refine hC.iadd [2] rfl rfl (by first | omega | (simp only [Int.reduceToNat] at *; omega)) ?_ | refine hC.isub [2] rfl rfl (by first | omega | (simp only [Int.reduceToNat] at *; omega)) ?_ | refine hC.imul [2] rfl rfl (by first | omega | (simp only [Int.reduceToNat] at *; omega)) ?_ | refine hC.iinc [2] rfl rfl rfl rfl (by first | omega | (simp only [Int.reduceToNat] at *; omega)) ?_ | refine hC.pfw (W := cx_T80) [2] rfl rfl rfl rfl rfl rfl ?_ ?_ | refine hC.iaw (W := cx_T80) [2] rfl rfl rfl rfl ?_ ?_ | refine hC.law (W := cx_T80) [2] rfl rfl rfl rfl ?_ ?_ | refine hC.cpw (W := cx_T80) [2] rfl rfl rfl rfl rfl rfl ?_ | refine hC.cpl (W := cx_T80) [2] rfl rfl rfl rfl rfl rfl ?_ | refine hC.go [2] _ rfl rfl ?_ | (intro h; first | exact (h rfl).elim | (exfalso; cases h; done) | (dsimp only [kk_cP, kk_cN] at h) | skip)
      exact hC.sub [(0, (4, 0)), (1, (6, (k : Int))), (2, (0, _))] ⟨rfl, rfl, rfl, trivial⟩ (ih _ O2 A2 (by omega) (by omega) q)
  repeat' first | refine hC.gw [2] _ rfl rfl ?_ | refine And.intro ?_ ?_ | exact True.intro | refine hC.iadd [2] rfl rfl (by first | omega | (simp only [Int.reduceToNat] at *; omega)) ?_ | refine hC.isub [2] rfl rfl (by first | omega | (simp only [Int.reduceToNat] at *; omega)) ?_ | refine hC.imul [2] rfl rfl (by first | omega | (simp only [Int.reduceToNat] at *; omega)) ?_ | refine hC.iinc [2] rfl rfl rfl rfl (by first | omega | (simp only [Int.reduceToNat] at *; omega)) ?_ | refine hC.pfw (W := cx_T80) [2] rfl rfl rfl rfl rfl rfl ?_ ?_ | refine hC.iaw (W := cx_T80) [2] rfl rfl rfl rfl ?_ ?_ | refine hC.law (W := cx_T80) [2] rfl rfl rfl rfl ?_ ?_ | refine hC.cpw (W := cx_T80) [2] rfl rfl rfl rfl rfl rfl ?_ | refine hC.cpl (W := cx_T80) [2] rfl rfl rfl rfl rfl rfl ?_ | refine hC.go [2] _ rfl rfl ?_ | (intro h; first | exact (h rfl).elim | (exfalso; cases h; done) | (dsimp only [kk_cP, kk_cN] at h) | skip)
  exact hC.sub [(0, (4, 0)), (1, (6, (k : Int))), (2, (0, _))] ⟨rfl, rfl, rfl, trivial⟩ (k2 _ _ O A (Nat.lt_succ_self _) (by omega) h0)
