/-! THE CLASS, 22: texts are written -/
theorem kk_chr (y : Int) : (Int32.ofInt (kk_i2c y)).toUInt32.toUInt16.toUInt32.toInt32 = Int32.ofInt (kk_i2c y) := by
  have e : Int32.ofInt (kk_i2c y) = ((Int32.ofInt y).toUInt32 % 65536).toInt32 := by
    unfold kk_i2c
    rw [Int32.ofInt_toInt]
  rw [e]
  generalize (Int32.ofInt y).toUInt32 = u
  have e1 : ((u % 65536).toInt32).toUInt32 = u % 65536 := rfl
  rw [e1]
  have e2 : (u % 65536).toUInt16.toUInt32 = u % 65536 := by
    apply UInt32.toNat_inj.mp
    simp
  rw [e2]
set_option maxRecDepth 100000 in
set_option maxHeartbeats 4000000 in
theorem jj_charAtL (l : Launch) (d : Nat) (k : Nat) (hk : k = 1 ∨ k = 2) (i : Int) (i0 : 0 ≤ i) (i1 : i < jj_len k) : kk_Ctr l (d + 2) en_t_J1_charAt_3b067 [(6, ((100 + k : Nat) : Int)), (0, i)] [] (fun rs w' => w' = [] ∧ ∃ y, rs = [(0, kk_i2c y)]) := by
  rcases hk with rfl | rfl
  · have i1 : i < 12 := i1
    refine kk_ctr en_hM (List.mem_of_getElem? (i := 301) rfl) rfl (Nat.le_of_ble_eq_true rfl) (fun K hC => ?_)
    repeat' first | refine hC.gn [] _ rfl rfl ?_ | refine And.intro ?_ ?_ | exact True.intro | refine hC.iadd [] rfl rfl (by first | omega | (simp only [Int.reduceToNat] at *; omega)) ?_ | refine hC.isub [] rfl rfl (by first | omega | (simp only [Int.reduceToNat] at *; omega)) ?_ | refine hC.imul [] rfl rfl (by first | omega | (simp only [Int.reduceToNat] at *; omega)) ?_ | refine hC.iinc [] rfl rfl rfl rfl (by first | omega | (simp only [Int.reduceToNat] at *; omega)) ?_ | refine hC.go [] _ rfl rfl ?_ | (intro h; first | exact (h rfl).elim | (exfalso; cases h; done) | (dsimp only [kk_cP, kk_cN] at h) | skip)
    refine hC.call (jj_check0 l _ i 12 ⟨i0, i1⟩) [] rfl rfl rfl rfl rfl rfl trivial (Nat.le_refl _) ?_
    rintro rs w' ⟨rfl, rfl⟩
    repeat' first | refine hC.gn [] _ rfl rfl ?_ | refine And.intro ?_ ?_ | exact True.intro | refine hC.iadd [] rfl rfl (by first | omega | (simp only [Int.reduceToNat] at *; omega)) ?_ | refine hC.isub [] rfl rfl (by first | omega | (simp only [Int.reduceToNat] at *; omega)) ?_ | refine hC.imul [] rfl rfl (by first | omega | (simp only [Int.reduceToNat] at *; omega)) ?_ | refine hC.iinc [] rfl rfl rfl rfl (by first | omega | (simp only [Int.reduceToNat] at *; omega)) ?_ | refine hC.go [] _ rfl rfl ?_ | (intro h; first | exact (h rfl).elim | (exfalso; cases h; done) | (dsimp only [kk_cP, kk_cN] at h) | skip)
    all_goals first | rfl | omega | exact ⟨_, rfl⟩ | exact kk_chr _ | (show i < 12; omega)
  · have i1 : i < 6 := i1
    refine kk_ctr en_hM (List.mem_of_getElem? (i := 301) rfl) rfl (Nat.le_of_ble_eq_true rfl) (fun K hC => ?_)
    repeat' first | refine hC.gn [] _ rfl rfl ?_ | refine And.intro ?_ ?_ | exact True.intro | refine hC.iadd [] rfl rfl (by first | omega | (simp only [Int.reduceToNat] at *; omega)) ?_ | refine hC.isub [] rfl rfl (by first | omega | (simp only [Int.reduceToNat] at *; omega)) ?_ | refine hC.imul [] rfl rfl (by first | omega | (simp only [Int.reduceToNat] at *; omega)) ?_ | refine hC.iinc [] rfl rfl rfl rfl (by first | omega | (simp only [Int.reduceToNat] at *; omega)) ?_ | refine hC.go [] _ rfl rfl ?_ | (intro h; first | exact (h rfl).elim | (exfalso; cases h; done) | (dsimp only [kk_cP, kk_cN] at h) | skip)
    refine hC.call (jj_check0 l _ i 6 ⟨i0, i1⟩) [] rfl rfl rfl rfl rfl rfl trivial (Nat.le_refl _) ?_
    rintro rs w' ⟨rfl, rfl⟩
    repeat' first | refine hC.gn [] _ rfl rfl ?_ | refine And.intro ?_ ?_ | exact True.intro | refine hC.iadd [] rfl rfl (by first | omega | (simp only [Int.reduceToNat] at *; omega)) ?_ | refine hC.isub [] rfl rfl (by first | omega | (simp only [Int.reduceToNat] at *; omega)) ?_ | refine hC.imul [] rfl rfl (by first | omega | (simp only [Int.reduceToNat] at *; omega)) ?_ | refine hC.iinc [] rfl rfl rfl rfl (by first | omega | (simp only [Int.reduceToNat] at *; omega)) ?_ | refine hC.go [] _ rfl rfl ?_ | (intro h; first | exact (h rfl).elim | (exfalso; cases h; done) | (dsimp only [kk_cP, kk_cN] at h) | skip)
    all_goals first | rfl | omega | exact ⟨_, rfl⟩ | exact kk_chr _ | (show i < 6; omega)
set_option maxRecDepth 100000 in
set_option maxHeartbeats 4000000 in
theorem jj_charAt (l : Launch) (d : Nat) (k : Nat) (hk : k = 1 ∨ k = 2) (i : Int) (i0 : 0 ≤ i) (i1 : i < jj_len k) : kk_Ctr l (d + 3) en_t_J0_charAt_5068e [(6, (k : Int)), (0, i)] [] (fun rs w' => w' = [] ∧ ∃ x, rs = [(0, x)]) := by
  rcases hk with rfl | rfl
  · refine kk_ctr en_hM (List.mem_of_getElem? (i := 297) rfl) rfl (Nat.le_of_ble_eq_true rfl) (fun K hC => ?_)
    repeat' first | refine hC.gn [] _ rfl rfl ?_ | refine And.intro ?_ ?_ | exact True.intro | refine hC.iadd [] rfl rfl (by first | omega | (simp only [Int.reduceToNat] at *; omega)) ?_ | refine hC.isub [] rfl rfl (by first | omega | (simp only [Int.reduceToNat] at *; omega)) ?_ | refine hC.imul [] rfl rfl (by first | omega | (simp only [Int.reduceToNat] at *; omega)) ?_ | refine hC.iinc [] rfl rfl rfl rfl (by first | omega | (simp only [Int.reduceToNat] at *; omega)) ?_ | refine hC.go [] _ rfl rfl ?_ | (intro h; first | exact (h rfl).elim | (exfalso; cases h; done) | (dsimp only [kk_cP, kk_cN] at h) | skip)
    refine hC.call (jj_isLatin1 l _ 1 (Or.inl rfl)) [] rfl rfl rfl rfl rfl rfl trivial (Nat.le_refl _) ?_
    rintro rs w' ⟨rfl, rfl⟩
    repeat' first | refine hC.gn [] _ rfl rfl ?_ | refine And.intro ?_ ?_ | exact True.intro | refine hC.iadd [] rfl rfl (by first | omega | (simp only [Int.reduceToNat] at *; omega)) ?_ | refine hC.isub [] rfl rfl (by first | omega | (simp only [Int.reduceToNat] at *; omega)) ?_ | refine hC.imul [] rfl rfl (by first | omega | (simp only [Int.reduceToNat] at *; omega)) ?_ | refine hC.iinc [] rfl rfl rfl rfl (by first | omega | (simp only [Int.reduceToNat] at *; omega)) ?_ | refine hC.go [] _ rfl rfl ?_ | (intro h; first | exact (h rfl).elim | (exfalso; cases h; done) | (dsimp only [kk_cP, kk_cN] at h) | skip)
    refine hC.call (jj_charAtL l _ 1 (Or.inl rfl) i i0 i1) [] rfl rfl rfl rfl rfl rfl trivial (Nat.le_refl _) ?_
    rintro rs w' ⟨rfl, y, rfl⟩
    repeat' first | refine hC.gn [] _ rfl rfl ?_ | refine And.intro ?_ ?_ | exact True.intro | refine hC.iadd [] rfl rfl (by first | omega | (simp only [Int.reduceToNat] at *; omega)) ?_ | refine hC.isub [] rfl rfl (by first | omega | (simp only [Int.reduceToNat] at *; omega)) ?_ | refine hC.imul [] rfl rfl (by first | omega | (simp only [Int.reduceToNat] at *; omega)) ?_ | refine hC.iinc [] rfl rfl rfl rfl (by first | omega | (simp only [Int.reduceToNat] at *; omega)) ?_ | refine hC.go [] _ rfl rfl ?_ | (intro h; first | exact (h rfl).elim | (exfalso; cases h; done) | (dsimp only [kk_cP, kk_cN] at h) | skip)
    all_goals first | rfl | exact ⟨_, rfl⟩ | exact kk_chr _
  · refine kk_ctr en_hM (List.mem_of_getElem? (i := 297) rfl) rfl (Nat.le_of_ble_eq_true rfl) (fun K hC => ?_)
    repeat' first | refine hC.gn [] _ rfl rfl ?_ | refine And.intro ?_ ?_ | exact True.intro | refine hC.iadd [] rfl rfl (by first | omega | (simp only [Int.reduceToNat] at *; omega)) ?_ | refine hC.isub [] rfl rfl (by first | omega | (simp only [Int.reduceToNat] at *; omega)) ?_ | refine hC.imul [] rfl rfl (by first | omega | (simp only [Int.reduceToNat] at *; omega)) ?_ | refine hC.iinc [] rfl rfl rfl rfl (by first | omega | (simp only [Int.reduceToNat] at *; omega)) ?_ | refine hC.go [] _ rfl rfl ?_ | (intro h; first | exact (h rfl).elim | (exfalso; cases h; done) | (dsimp only [kk_cP, kk_cN] at h) | skip)
    refine hC.call (jj_isLatin1 l _ 2 (Or.inr rfl)) [] rfl rfl rfl rfl rfl rfl trivial (Nat.le_refl _) ?_
    rintro rs w' ⟨rfl, rfl⟩
    repeat' first | refine hC.gn [] _ rfl rfl ?_ | refine And.intro ?_ ?_ | exact True.intro | refine hC.iadd [] rfl rfl (by first | omega | (simp only [Int.reduceToNat] at *; omega)) ?_ | refine hC.isub [] rfl rfl (by first | omega | (simp only [Int.reduceToNat] at *; omega)) ?_ | refine hC.imul [] rfl rfl (by first | omega | (simp only [Int.reduceToNat] at *; omega)) ?_ | refine hC.iinc [] rfl rfl rfl rfl (by first | omega | (simp only [Int.reduceToNat] at *; omega)) ?_ | refine hC.go [] _ rfl rfl ?_ | (intro h; first | exact (h rfl).elim | (exfalso; cases h; done) | (dsimp only [kk_cP, kk_cN] at h) | skip)
    refine hC.call (jj_charAtL l _ 2 (Or.inr rfl) i i0 i1) [] rfl rfl rfl rfl rfl rfl trivial (Nat.le_refl _) ?_
    rintro rs w' ⟨rfl, y, rfl⟩
    repeat' first | refine hC.gn [] _ rfl rfl ?_ | refine And.intro ?_ ?_ | exact True.intro | refine hC.iadd [] rfl rfl (by first | omega | (simp only [Int.reduceToNat] at *; omega)) ?_ | refine hC.isub [] rfl rfl (by first | omega | (simp only [Int.reduceToNat] at *; omega)) ?_ | refine hC.imul [] rfl rfl (by first | omega | (simp only [Int.reduceToNat] at *; omega)) ?_ | refine hC.iinc [] rfl rfl rfl rfl (by first | omega | (simp only [Int.reduceToNat] at *; omega)) ?_ | refine hC.go [] _ rfl rfl ?_ | (intro h; first | exact (h rfl).elim | (exfalso; cases h; done) | (dsimp only [kk_cP, kk_cN] at h) | skip)
    all_goals first | rfl | exact ⟨_, rfl⟩ | exact kk_chr _
