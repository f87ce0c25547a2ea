/-! THE REFERENCE, 11: the box -/
def mm_bx (N : Nat → Int) : Prop := ∀ c, c < 10 → 0 ≤ N (69 + c) ∧ N (69 + c) ≤ 9
set_option maxRecDepth 100000 in
set_option maxHeartbeats 4000000 in
theorem mm_sm_s {N : Nat → Int} (h : mm_bx N) : ∀ n, n ≤ 10 → 0 ≤ mm_sm N 69 n ∧ mm_sm N 69 n ≤ 9 * n ∧ (n < 10 → mm_sm N 69 (n + 1) = mm_sm N 69 n + N (69 + n)) := by
  intro n
  induction n with
  | zero =>
    intro _
    refine ⟨Int.le_refl _, Int.le_refl _, fun _ => ?_⟩
    have := h 0 (by decide)
    exact kk_add (x := 0) (y := N (69 + 0)) (by omega)
  | succ n ih =>
    intro hn
    obtain ⟨h1, h2, h3⟩ := ih (by omega)
    have e := h3 (by omega)
    have b := h n (by omega)
    refine ⟨by omega, by omega, fun hl => ?_⟩
    have b' := h (n + 1) hl
    exact kk_add (x := mm_sm N 69 (n + 1)) (y := N (69 + (n + 1))) (by omega)
set_option maxRecDepth 100000 in
set_option maxHeartbeats 4000000 in
theorem mm_sm_0 {N : Nat → Int} (h : mm_bx N) : ∀ n, n ≤ 10 → mm_sm N 69 n ≠ 0 → ∃ c, c < n ∧ 1 ≤ N (69 + c) := by
  intro n
  induction n with
  | zero => intro _ h0; exact absurd rfl h0
  | succ n ih =>
    intro hn h0
    obtain ⟨h1, h2, h3⟩ := mm_sm_s h n (by omega)
    have e := h3 (by omega)
    have b := h n (by omega)
    by_cases hz : mm_sm N 69 n = 0
    · exact ⟨n, by omega, by omega⟩
    · obtain ⟨c, c1, c2⟩ := ih (by omega) hz
      exact ⟨c, by omega, c2⟩
set_option maxRecDepth 100000 in
set_option maxHeartbeats 4000000 in
theorem mm_sm_p {N : Nat → Int} (h : mm_bx N) {c : Nat} (hc : c < 10) (h1 : 1 ≤ N (69 + c)) : ∀ n, c < n → n ≤ 10 → 1 ≤ mm_sm N 69 n := by
  intro n
  induction n with
  | zero => intro h _; omega
  | succ n ih =>
    intro hn hl
    obtain ⟨g1, g2, g3⟩ := mm_sm_s h n (by omega)
    have e := g3 (by omega)
    have b := h n (by omega)
    by_cases hq : c = n
    · subst hq; omega
    · have := ih (by omega) (by omega); omega
set_option maxRecDepth 100000 in
set_option maxHeartbeats 4000000 in
theorem mm_inBox (l : Launch) (d : Nat) (F : Nat → Int) (A : Nat → Nat → Int) : kk_Ctr l (d + 1) en_t_X11_inBox [(4, 0)] (mm_w F A) (fun rs w' => w' = mm_w F A ∧ rs = [(0, mm_sm (A 2) 69 10)]) := by
  refine kk_ctr en_hM (List.mem_of_getElem? (i := 220) rfl) rfl (Nat.le_of_ble_eq_true rfl) (fun K hC => ?_)
  repeat' first | refine hC.gn [] _ rfl rfl ?_ | refine And.intro ?_ ?_ | exact True.intro | refine hC.iadd [] rfl rfl (by first | omega | (simp only [Int.reduceToNat] at *; omega)) ?_ | refine hC.isub [] rfl rfl (by first | omega | (simp only [Int.reduceToNat] at *; omega)) ?_ | refine hC.imul [] rfl rfl (by first | omega | (simp only [Int.reduceToNat] at *; omega)) ?_ | refine hC.iinc [] rfl rfl rfl rfl (by first | omega | (simp only [Int.reduceToNat] at *; omega)) ?_ | refine hC.go [] _ rfl rfl ?_ | (intro h; first | exact (h rfl).elim | (exfalso; cases h; done) | (dsimp only [kk_cP, kk_cN] at h) | skip)
  refine hC.same (mm_sum l _ F A 69 10 (by decide)) rfl rfl rfl rfl (Nat.le_refl _) ?_
  rintro rs w' ⟨rfl, rfl⟩
  repeat' first | refine hC.gn [] _ rfl rfl ?_ | refine And.intro ?_ ?_ | exact True.intro | refine hC.iadd [] rfl rfl (by first | omega | (simp only [Int.reduceToNat] at *; omega)) ?_ | refine hC.isub [] rfl rfl (by first | omega | (simp only [Int.reduceToNat] at *; omega)) ?_ | refine hC.imul [] rfl rfl (by first | omega | (simp only [Int.reduceToNat] at *; omega)) ?_ | refine hC.iinc [] rfl rfl rfl rfl (by first | omega | (simp only [Int.reduceToNat] at *; omega)) ?_ | refine hC.go [] _ rfl rfl ?_ | (intro h; first | exact (h rfl).elim | (exfalso; cases h; done) | (dsimp only [kk_cP, kk_cN] at h) | skip)
  all_goals rfl
theorem kk_ushr8 (x : Int) : 0 ≤ kk_i2 8 x 8 ∧ kk_i2 8 x 8 ≤ 16777215 := by
  have e := pk_ushr (Int32.ofInt x) (Int32.ofInt 8) 8 (by decide)
  have hl := (Int32.ofInt x).toBitVec.isLt
  show 0 ≤ (((Int32.ofInt x).toUInt32 >>> ((Int32.ofInt 8).toUInt32 &&& Int32.toUInt32 31)).toInt32).toInt ∧ (((Int32.ofInt x).toUInt32 >>> ((Int32.ofInt 8).toUInt32 &&& Int32.toUInt32 31)).toInt32).toInt ≤ 16777215
  generalize ((Int32.ofInt x).toUInt32 >>> ((Int32.ofInt 8).toUInt32 &&& Int32.toUInt32 31)).toInt32 = y at e ⊢
  have e2 : y.toInt = y.toBitVec.toInt := rfl
  rw [e2, BitVec.toInt_eq_toNat_of_lt (by omega)]
  omega
theorem kk_dr (X n : Int) (h1 : 1 ≤ n) (h2 : n ≤ 1000) : 0 ≤ kk_i2 10 (kk_i2 8 X 8) n ∧ kk_i2 10 (kk_i2 8 X 8) n < n := by
  have b := kk_ushr8 X
  generalize kk_i2 8 X 8 = Y at b ⊢
  rw [kk_irem (x := Y) (y := n) ⟨by omega, by omega⟩ ⟨by omega, by omega⟩]
  exact ⟨Int.tmod_nonneg _ b.1, Int.tmod_lt_of_pos _ (by omega)⟩
set_option maxRecDepth 100000 in
set_option maxHeartbeats 4000000 in
theorem mm_drawOf (l : Launch) (d : Nat) (F : Nat → Int) (A : Nat → Nat → Int) (n : Int) (h1 : 1 ≤ n) (h2 : n ≤ 1000) : kk_Ctr l d en_t_X11_drawOf [(4, 0), (0, n)] (mm_w F A) (fun rs w' => ∃ x s, w' = mm_w (kk_up F 25 s) A ∧ rs = [(0, x)] ∧ 0 ≤ x ∧ x < n) := by
  refine kk_ctr en_hM (List.mem_of_getElem? (i := 264) rfl) rfl (Nat.le_of_ble_eq_true rfl) (fun K hC => ?_)
  have k13 : ∀ s : Int, K 13 [(0, (4, 0)), (1, (0, n))] [(0, s), (4, 0)] (mm_w F A) := by
    intro s
    refine hC.go [] _ rfl rfl ?_
    repeat' first | refine hC.gn [] _ rfl rfl ?_ | refine And.intro ?_ ?_ | exact True.intro | refine hC.iadd [] rfl rfl (by first | omega | (simp only [Int.reduceToNat] at *; omega)) ?_ | refine hC.isub [] rfl rfl (by first | omega | (simp only [Int.reduceToNat] at *; omega)) ?_ | refine hC.imul [] rfl rfl (by first | omega | (simp only [Int.reduceToNat] at *; omega)) ?_ | refine hC.iinc [] rfl rfl rfl rfl (by first | omega | (simp only [Int.reduceToNat] at *; omega)) ?_ | refine hC.go [] _ rfl rfl ?_ | (intro h; first | exact (h rfl).elim | (exfalso; cases h; done) | (dsimp only [kk_cP, kk_cN] at h) | skip)
    · omega
    · exact ⟨_, s, rfl, rfl, kk_dr s n h1 h2⟩
  repeat' first | refine hC.gn [13] _ rfl rfl ?_ | refine And.intro ?_ ?_ | exact True.intro | refine hC.iadd [13] rfl rfl (by first | omega | (simp only [Int.reduceToNat] at *; omega)) ?_ | refine hC.isub [13] rfl rfl (by first | omega | (simp only [Int.reduceToNat] at *; omega)) ?_ | refine hC.imul [13] rfl rfl (by first | omega | (simp only [Int.reduceToNat] at *; omega)) ?_ | refine hC.iinc [13] rfl rfl rfl rfl (by first | omega | (simp only [Int.reduceToNat] at *; omega)) ?_ | refine hC.go [13] _ rfl rfl ?_ | (intro h; first | exact (h rfl).elim | (exfalso; cases h; done) | (dsimp only [kk_cP, kk_cN] at h) | skip)
  exact k13 _
