/-! THE REFERENCE, 2: loops without a world; longs -/
theorem kk_and_lt {s : Int} (h : s ≠ 0) (hs : kk_i s) : (Int32.ofInt (kk_i2 3 s (kk_i2 1 s 1))).toBitVec.toNat < (Int32.ofInt s).toBitVec.toNat := by
  have e1 : Int32.ofInt (kk_i2 3 s (kk_i2 1 s 1)) = Int32.ofInt s &&& (Int32.ofInt s - 1) := by
    unfold kk_i2
    rw [Int32.ofInt_toInt, Int32.ofInt_toInt]
    rfl
  rw [e1]
  have hne : Int32.ofInt s ≠ 0 := by
    intro h0
    have h1 : (Int32.ofInt s).toInt = s := Int32.toInt_ofInt_of_le (by have := hs.1; omega) (by have := hs.2; omega)
    rw [h0] at h1
    exact h h1.symm
  generalize Int32.ofInt s = x at hne
  have hx : x.toBitVec ≠ 0 := fun g => hne (Int32.toBitVec_inj.mp g)
  have hx0 : x.toBitVec.toNat ≠ 0 := fun g => hx (BitVec.eq_of_toNat_eq g)
  have e2 : (x &&& (x - 1)).toBitVec = x.toBitVec &&& (x.toBitVec - 1#32) := rfl
  rw [e2, BitVec.toNat_and]
  have e3 : (x.toBitVec - 1#32).toNat = x.toBitVec.toNat - 1 := by
    rw [BitVec.toNat_sub]
    have := x.toBitVec.isLt
    simp only [BitVec.toNat_ofNat]
    omega
  have := Nat.and_le_right (n := x.toBitVec.toNat) (m := (x.toBitVec - 1#32).toNat)
  omega
set_option maxRecDepth 100000 in
set_option maxHeartbeats 4000000 in
theorem mm_bits (l : Launch) (d : Nat) (s : Int) : kk_Ctr l d en_t_X11_bits [(0, s)] [] (fun rs w' => w' = [] ∧ ∃ x, rs = [(0, x)]) := by
  refine kk_ctr en_hM (List.mem_of_getElem? (i := 234) rfl) rfl (Nat.le_of_ble_eq_true rfl) (fun K hC => ?_)
  have key : ∀ (n : Nat) (c s : Int), (Int32.ofInt s).toBitVec.toNat < n → K 4 [(1, (0, c)), (2, (0, s))] [] [] := by
    intro n
    induction n with
    | zero => intro c s h; exact absurd h (Nat.not_lt_zero _)
    | succ n ih =>
      intro c s hn
      refine hC.inL 2 rfl (fun hs => ?_)
      refine hC.go [] _ rfl rfl ?_
      repeat' first | refine hC.gn [4] _ rfl rfl ?_ | refine And.intro ?_ ?_ | exact True.intro | refine hC.iadd [4] rfl rfl (by first | omega | (simp only [Int.reduceToNat] at *; omega)) ?_ | refine hC.isub [4] rfl rfl (by first | omega | (simp only [Int.reduceToNat] at *; omega)) ?_ | refine hC.imul [4] rfl rfl (by first | omega | (simp only [Int.reduceToNat] at *; omega)) ?_ | refine hC.iinc [4] rfl rfl rfl rfl (by first | omega | (simp only [Int.reduceToNat] at *; omega)) ?_ | refine hC.go [4] _ rfl rfl ?_ | (intro h; first | exact (h rfl).elim | (exfalso; cases h; done) | (dsimp only [kk_cP, kk_cN] at h) | skip)
      · rfl
      · exact ⟨_, rfl⟩
      · have := kk_and_lt h hs
        exact hC.sub [(1, (0, _)), (2, (0, _))] ⟨rfl, rfl, trivial⟩ (ih _ _ (by omega))
  repeat' first | refine hC.gn [4] _ rfl rfl ?_ | refine And.intro ?_ ?_ | exact True.intro | refine hC.iadd [4] rfl rfl (by first | omega | (simp only [Int.reduceToNat] at *; omega)) ?_ | refine hC.isub [4] rfl rfl (by first | omega | (simp only [Int.reduceToNat] at *; omega)) ?_ | refine hC.imul [4] rfl rfl (by first | omega | (simp only [Int.reduceToNat] at *; omega)) ?_ | refine hC.iinc [4] rfl rfl rfl rfl (by first | omega | (simp only [Int.reduceToNat] at *; omega)) ?_ | refine hC.go [4] _ rfl rfl ?_ | (intro h; first | exact (h rfl).elim | (exfalso; cases h; done) | (dsimp only [kk_cP, kk_cN] at h) | skip)
  exact hC.sub [(1, (0, _)), (2, (0, _))] ⟨rfl, rfl, trivial⟩ (key _ _ _ (Nat.lt_succ_self _))
theorem kk_lrem {x y : Int} (hx : kk_l x) (hy : kk_l y) : kk_l2 7 x y = x.tmod y := by
  obtain ⟨a1, a2⟩ := hx
  obtain ⟨b1, b2⟩ := hy
  show (Int64.ofInt x - Int64.ofInt x / Int64.ofInt y * Int64.ofInt y).toInt = x.tmod y
  rw [← Int64.ofInt_tdiv (by show (-9223372036854775808 : Int) ≤ x; omega) (by show x ≤ 9223372036854775807; omega) (by show (-9223372036854775808 : Int) ≤ y; omega) (by show y ≤ 9223372036854775807; omega), ← Int64.ofInt_mul, ← Int64.ofInt_sub]
  have e1 : x - x.tdiv y * y = x.tmod y := by rw [Int.tmod_def, Int.mul_comm]
  rw [e1]
  have h1 : (x.tmod y).natAbs ≤ x.natAbs := by rw [Int.natAbs_tmod]; exact Nat.mod_le _ _
  have h2 : 0 ≤ x → 0 ≤ x.tmod y := fun h => Int.tmod_nonneg y h
  have h3 : x < 0 → x.tmod y ≤ 0 := fun h => by
    have := Int.tmod_nonneg y (show 0 ≤ -x by omega)
    rw [Int.neg_tmod] at this
    omega
  exact Int64.toInt_ofInt_of_le (by omega) (by omega)
theorem kk_irem {x y : Int} (hx : kk_i x) (hy : kk_i y) : kk_i2 10 x y = x.tmod y := by
  obtain ⟨a1, a2⟩ := hx
  obtain ⟨b1, b2⟩ := hy
  show (Int32.ofInt x - Int32.ofInt x / Int32.ofInt y * Int32.ofInt y).toInt = x.tmod y
  rw [← Int32.ofInt_tdiv (by show (-2147483648 : Int) ≤ x; omega) (by show x ≤ 2147483647; omega) (by show (-2147483648 : Int) ≤ y; omega) (by show y ≤ 2147483647; omega), ← Int32.ofInt_mul, ← Int32.ofInt_sub]
  have e1 : x - x.tdiv y * y = x.tmod y := by rw [Int.tmod_def, Int.mul_comm]
  rw [e1]
  have h1 : (x.tmod y).natAbs ≤ x.natAbs := by rw [Int.natAbs_tmod]; exact Nat.mod_le _ _
  have h2 : 0 ≤ x → 0 ≤ x.tmod y := fun h => Int.tmod_nonneg y h
  have h3 : x < 0 → x.tmod y ≤ 0 := fun h => by
    have := Int.tmod_nonneg y (show 0 ≤ -x by omega)
    rw [Int.neg_tmod] at this
    omega
  exact Int32.toInt_ofInt_of_le (by omega) (by omega)
theorem kk_cmp0 {x y : Int} : kk_cmp x y = 0 ↔ x = y := by
  unfold kk_cmp
  split
  · constructor <;> intro h <;> omega
  · split <;> constructor <;> intro h <;> omega
theorem kk_Clo.inLl {l : Launch} {d : Nat} {M : List en_T} {t : en_T} {xc : kk_X} {R : Instr → List en_V → List kk_C → Prop} {K : kk_Q} (hC : kk_Clo l d M t xc R K) (i : Nat) {x : Int} {pc : Nat} {L : en_L} {st : List en_V} {w : List kk_C} (hg : en_get L i = some (2, x)) (h : kk_l x → K pc L st w) : K pc L st w := hC.2.2.2.2.1 i x hg h
set_option maxRecDepth 100000 in
set_option maxHeartbeats 4000000 in
theorem mm_commonLong (l : Launch) (d : Nat) (a b : Int) : kk_Ctr l d en_t_X11_commonLong [(2, a), (2, b)] [] (fun rs w' => w' = [] ∧ ∃ x, rs = [(2, x)] ∧ (a ≠ 0 ∨ b ≠ 0 → x ≠ 0)) := by
  refine kk_ctr en_hM (List.mem_of_getElem? (i := 267) rfl) rfl (Nat.le_of_ble_eq_true rfl) (fun K hC => ?_)
  have key : ∀ (n : Nat) (x y : Int), y.natAbs < n → (a ≠ 0 ∨ b ≠ 0 → x ≠ 0 ∨ y ≠ 0) → K 6 [(4, (2, x)), (6, (2, y))] [] [] := by
    intro n
    induction n with
    | zero => intro x y h; exact absurd h (Nat.not_lt_zero _)
    | succ n ih =>
      intro x y hn hz
      refine hC.inLl 4 rfl (fun hx => ?_)
      refine hC.inLl 6 rfl (fun hy => ?_)
      refine hC.go [] _ rfl rfl ?_
      repeat' first | refine hC.gn [6] _ rfl rfl ?_ | refine And.intro ?_ ?_ | exact True.intro | refine hC.iadd [6] rfl rfl (by first | omega | (simp only [Int.reduceToNat] at *; omega)) ?_ | refine hC.isub [6] rfl rfl (by first | omega | (simp only [Int.reduceToNat] at *; omega)) ?_ | refine hC.imul [6] rfl rfl (by first | omega | (simp only [Int.reduceToNat] at *; omega)) ?_ | refine hC.iinc [6] rfl rfl rfl rfl (by first | omega | (simp only [Int.reduceToNat] at *; omega)) ?_ | refine hC.go [6] _ rfl rfl ?_ | (intro h; first | exact (h rfl).elim | (exfalso; cases h; done) | (dsimp only [kk_cP, kk_cN] at h) | skip)
      · rfl
      · exact ⟨_, rfl, fun g => (hz g).resolve_right (fun g2 => g2 (kk_cmp0.mp h))⟩
      · exact (‹kk_cmp y 0 ≠ 0›) (kk_cmp0.mpr h)
      · have hy0 : y ≠ 0 := fun g => h (kk_cmp0.mpr g)
        refine hC.sub [(4, (2, _)), (6, (2, _))] ⟨rfl, rfl, trivial⟩ (ih _ _ ?_ (fun _ => Or.inl hy0))
        rw [kk_lrem hx hy, Int.natAbs_tmod]
        have := Nat.mod_lt x.natAbs (show 0 < y.natAbs by omega)
        omega
  repeat' first | refine hC.gn [6] _ rfl rfl ?_ | refine And.intro ?_ ?_ | exact True.intro | refine hC.iadd [6] rfl rfl (by first | omega | (simp only [Int.reduceToNat] at *; omega)) ?_ | refine hC.isub [6] rfl rfl (by first | omega | (simp only [Int.reduceToNat] at *; omega)) ?_ | refine hC.imul [6] rfl rfl (by first | omega | (simp only [Int.reduceToNat] at *; omega)) ?_ | refine hC.iinc [6] rfl rfl rfl rfl (by first | omega | (simp only [Int.reduceToNat] at *; omega)) ?_ | refine hC.go [6] _ rfl rfl ?_ | (intro h; first | exact (h rfl).elim | (exfalso; cases h; done) | (dsimp only [kk_cP, kk_cN] at h) | skip)
  exact hC.sub [(4, (2, _)), (6, (2, _))] ⟨rfl, rfl, trivial⟩ (key _ _ _ (Nat.lt_succ_self _) (fun g => g))
set_option maxRecDepth 100000 in
set_option maxHeartbeats 4000000 in
theorem mm_tellPart (l : Launch) (d : Nat) (up below what : Int) (h0 : below ≠ 0 ∨ up ≠ 0) : kk_Ctr l (d + 1) en_t_X11_tellPart [(2, up), (2, below), (0, what)] [] (fun rs w' => w' = [] ∧ ∃ x, rs = [(2, x)]) := by
  refine kk_ctr en_hM (List.mem_of_getElem? (i := 236) rfl) rfl (Nat.le_of_ble_eq_true rfl) (fun K hC => ?_)
  repeat' first | refine hC.gn [] _ rfl rfl ?_ | refine And.intro ?_ ?_ | exact True.intro | refine hC.iadd [] rfl rfl (by first | omega | (simp only [Int.reduceToNat] at *; omega)) ?_ | refine hC.isub [] rfl rfl (by first | omega | (simp only [Int.reduceToNat] at *; omega)) ?_ | refine hC.imul [] rfl rfl (by first | omega | (simp only [Int.reduceToNat] at *; omega)) ?_ | refine hC.iinc [] rfl rfl rfl rfl (by first | omega | (simp only [Int.reduceToNat] at *; omega)) ?_ | refine hC.go [] _ rfl rfl ?_ | (intro h; first | exact (h rfl).elim | (exfalso; cases h; done) | (dsimp only [kk_cP, kk_cN] at h) | skip) | (refine hC.call (mm_commonLong l _ _ _) [] rfl rfl rfl rfl rfl rfl trivial (Nat.le_refl _) ?_; rintro rs w' ⟨rfl, x, rfl, hx⟩)
  all_goals first | rfl | exact ⟨_, rfl⟩ | exact hx h0 h | exact hx h0
set_option maxRecDepth 100000 in
set_option maxHeartbeats 4000000 in
theorem mm_findIn (l : Launch) (d : Nat) (n : Nat) (f : Nat → Int) (base many : Int) (w : Int) (hb : 0 ≤ base) (hm : base + many ≤ n) (hn : n ≤ 1000) (h0 : 0 ≤ many) : kk_Ctr l d en_t_X11_findIn [(4, 0), (0, base), (0, many), (2, w)] [(2, n, [], f)] (fun rs w' => w' = [(2, n, [], f)] ∧ ∃ x, rs = [(0, x)] ∧ -1 ≤ x ∧ x < many) := by
  refine kk_ctr en_hM (List.mem_of_getElem? (i := 272) rfl) rfl (Nat.le_of_ble_eq_true rfl) (fun K hC => ?_)
  have key : ∀ (j : Nat) (i : Int), (many - i).toNat < j → 0 ≤ i → K 3 [(0, (4, 0)), (1, (0, base)), (2, (0, many)), (3, (2, w)), (5, (0, i))] [] [(2, n, [], f)] := by
    intro j
    induction j with
    | zero => intro i h; exact absurd h (Nat.not_lt_zero _)
    | succ j ih =>
      intro i hj hi
      refine hC.go [] _ rfl rfl ?_
      repeat' first | refine hC.gn [3] _ rfl rfl ?_ | refine And.intro ?_ ?_ | exact True.intro | refine hC.iadd [3] rfl rfl (by first | omega | (simp only [Int.reduceToNat] at *; omega)) ?_ | refine hC.isub [3] rfl rfl (by first | omega | (simp only [Int.reduceToNat] at *; omega)) ?_ | refine hC.imul [3] rfl rfl (by first | omega | (simp only [Int.reduceToNat] at *; omega)) ?_ | refine hC.iinc [3] rfl rfl rfl rfl (by first | omega | (simp only [Int.reduceToNat] at *; omega)) ?_ | refine hC.go [3] _ rfl rfl ?_ | (intro h; first | exact (h rfl).elim | (exfalso; cases h; done) | (dsimp only [kk_cP, kk_cN] at h) | skip)
      · rfl
      · exact ⟨_, rfl, by omega, by omega⟩
      · omega
      · omega
      · exact hC.sub [(0, (4, 0)), (1, (0, base)), (2, (0, many)), (3, (2, w)), (5, (0, _))] ⟨rfl, rfl, rfl, rfl, rfl, trivial⟩ (ih _ (by omega) (by omega))
      · rfl
      · exact ⟨_, rfl, by omega, by omega⟩
  repeat' first | refine hC.gn [3] _ rfl rfl ?_ | refine And.intro ?_ ?_ | exact True.intro | refine hC.iadd [3] rfl rfl (by first | omega | (simp only [Int.reduceToNat] at *; omega)) ?_ | refine hC.isub [3] rfl rfl (by first | omega | (simp only [Int.reduceToNat] at *; omega)) ?_ | refine hC.imul [3] rfl rfl (by first | omega | (simp only [Int.reduceToNat] at *; omega)) ?_ | refine hC.iinc [3] rfl rfl rfl rfl (by first | omega | (simp only [Int.reduceToNat] at *; omega)) ?_ | refine hC.go [3] _ rfl rfl ?_ | (intro h; first | exact (h rfl).elim | (exfalso; cases h; done) | (dsimp only [kk_cP, kk_cN] at h) | skip)
  exact hC.sub [(0, (4, 0)), (1, (0, base)), (2, (0, many)), (3, (2, w)), (5, (0, _))] ⟨rfl, rfl, rfl, rfl, rfl, trivial⟩ (key _ _ (Nat.lt_succ_self _) (by omega))
/-- the sum of a part of the present -/
def mm_sm (N : Nat → Int) (a : Nat) : Nat → Int
  | 0 => 0
  | n + 1 => kk_i2 0 (mm_sm N a n) (N (a + n))
set_option maxRecDepth 100000 in
set_option maxHeartbeats 4000000 in
theorem mm_sum (l : Launch) (d : Nat) (F : Nat → Int) (A : Nat → Nat → Int) (a m : Nat) (hm : a + m ≤ 392) : kk_Ctr l d en_t_X11_sum [(4, 0), (0, (a : Int)), (0, (m : Int))] (mm_w F A) (fun rs w' => w' = mm_w F A ∧ rs = [(0, mm_sm (A 2) a m)]) := by
  refine kk_ctr en_hM (List.mem_of_getElem? (i := 221) rfl) rfl (Nat.le_of_ble_eq_true rfl) (fun K hC => ?_)
  have key : ∀ (j k : Nat), k + j = m → K 5 [(0, (4, 0)), (1, (0, (a : Int))), (2, (0, (m : Int))), (3, (0, mm_sm (A 2) a k)), (4, (0, (k : Int)))] [] (mm_w F A) := by
    intro j
    induction j with
    | zero =>
      intro k hk
      refine hC.go [] _ rfl rfl ?_
      repeat' first | refine hC.gn [5] _ rfl rfl ?_ | refine And.intro ?_ ?_ | exact True.intro | refine hC.iadd [5] rfl rfl (by first | omega | (simp only [Int.reduceToNat] at *; omega)) ?_ | refine hC.isub [5] rfl rfl (by first | omega | (simp only [Int.reduceToNat] at *; omega)) ?_ | refine hC.imul [5] rfl rfl (by first | omega | (simp only [Int.reduceToNat] at *; omega)) ?_ | refine hC.iinc [5] rfl rfl rfl rfl (by first | omega | (simp only [Int.reduceToNat] at *; omega)) ?_ | refine hC.go [5] _ rfl rfl ?_ | (intro h; first | exact (h rfl).elim | (exfalso; cases h; done) | (dsimp only [kk_cP, kk_cN] at h) | skip)
      · rfl
      · rw [show k = m by omega]
      all_goals (exfalso; omega)
    | succ j ih =>
      intro k hk
      refine hC.go [] _ rfl rfl ?_
      repeat' first | refine hC.gn [5] _ rfl rfl ?_ | refine And.intro ?_ ?_ | exact True.intro | refine hC.iadd [5] rfl rfl (by first | omega | (simp only [Int.reduceToNat] at *; omega)) ?_ | refine hC.isub [5] rfl rfl (by first | omega | (simp only [Int.reduceToNat] at *; omega)) ?_ | refine hC.imul [5] rfl rfl (by first | omega | (simp only [Int.reduceToNat] at *; omega)) ?_ | refine hC.iinc [5] rfl rfl rfl rfl (by first | omega | (simp only [Int.reduceToNat] at *; omega)) ?_ | refine hC.go [5] _ rfl rfl ?_ | (intro h; first | exact (h rfl).elim | (exfalso; cases h; done) | (dsimp only [kk_cP, kk_cN] at h) | skip)
      · exfalso; omega
      · exfalso; omega
      · omega
      · omega
      · exact hC.sub [(0, (4, 0)), (1, (0, (a : Int))), (2, (0, (m : Int))), (3, (0, mm_sm (A 2) a (k + 1))), (4, (0, ((k + 1 : Nat) : Int)))] ⟨rfl, rfl, rfl, rfl, rfl, trivial⟩ (ih (k + 1) (by omega))
  repeat' first | refine hC.gn [5] _ rfl rfl ?_ | refine And.intro ?_ ?_ | exact True.intro | refine hC.iadd [5] rfl rfl (by first | omega | (simp only [Int.reduceToNat] at *; omega)) ?_ | refine hC.isub [5] rfl rfl (by first | omega | (simp only [Int.reduceToNat] at *; omega)) ?_ | refine hC.imul [5] rfl rfl (by first | omega | (simp only [Int.reduceToNat] at *; omega)) ?_ | refine hC.iinc [5] rfl rfl rfl rfl (by first | omega | (simp only [Int.reduceToNat] at *; omega)) ?_ | refine hC.go [5] _ rfl rfl ?_ | (intro h; first | exact (h rfl).elim | (exfalso; cases h; done) | (dsimp only [kk_cP, kk_cN] at h) | skip)
  exact hC.sub [(0, (4, 0)), (1, (0, (a : Int))), (2, (0, (m : Int))), (3, (0, _)), (4, (0, _))] ⟨rfl, rfl, rfl, rfl, rfl, trivial⟩ (key m 0 (by omega))
