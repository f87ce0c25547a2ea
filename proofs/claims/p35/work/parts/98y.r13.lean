/-! READING, 13: the reference's words, signs, names, exactly -/
/-- the reserved words, letter by letter -/
def wl (k : Nat) : List Int := match k with
  | 0 => [4, 5, 5, 4]
  | 1 => [13, 15, 14, 11]
  | 2 => [3, 8, 1, 16, 20, 5, 18]
  | 3 => [13, 21, 19, 20]
  | 4 => [2, 1, 18, 19]
  | 5 => [23, 15, 18, 11]
  | 6 => [1, 20, 15, 14, 5]
  | 7 => [15, 14, 3, 5]
  | 8 => [4, 18, 1, 23]
  | 9 => [6, 15, 12, 4]
  | 10 => [4, 15, 5, 19]
  | 11 => [14, 9, 7, 8, 20]
  | 12 => [4, 1, 25]
  | 13 => [15, 18]
  | 14 => [1, 14, 4]
  | 15 => [14, 15, 20]
  | 16 => [4, 21, 5]
  | 17 => [2, 1, 18, 18, 5, 4]
  | 18 => [6, 18, 5, 5]
  | 19 => [4, 15, 14, 5]
  | 20 => [15, 23, 5, 4]
  | 21 => [12, 5, 6, 20]
  | 22 => [13, 21, 19, 20, 19]
  | _ => [14, 21, 13, 2, 5, 18]
def wg (k : Nat) : Nat → Int := fun j => (wl k).getD j 0
def wv (k : Nat) : Int := nv 27 (wg k) (wl k).length
def wc (k : Nat) : Int := nv 32 (wg k) (wl k).length
theorem wl_ok : ∀ k, k < 24 → (wl k).length ≤ 7 ∧ ∀ j, j < (wl k).length → 1 ≤ wg k j ∧ wg k j ≤ 26 := by decide +kernel
theorem wv_ne : ∀ i, i < 24 → ∀ j, j < 24 → wv i = wv j → i = j := by decide +kernel
theorem Nm_w {k : Nat} (h : k < 24) : Nm (wc k) (wv k) := ⟨_, wg k, (wl_ok k h).1, (wl_ok k h).2, rfl, rfl⟩
/-- the class's table of reserved words -/
def rz (res : Nat → Int) : Prop := ∀ k, k < 24 → res k = wc k
theorem rz.inj {res : Nat → Int} (hz : rz res) {i j : Nat} (hi : i < 24) (hj : j < 24) (h : res i = res j) : i = j := by
  rw [hz i hi, hz j hj] at h
  exact wv_ne i hi j hj (((Nm_w hi).eq (Nm_w hj)).mp h)
theorem nv_le27 {g : Nat → Int} : ∀ {k : Nat}, k ≤ 7 → (∀ j, j < k → 1 ≤ g j ∧ g j ≤ 26) → nv 27 g k ≤ mm_B k - 1
  | 0, _, _ => by show (0 : Int) ≤ mm_B 0 - 1; decide
  | k + 1, hk, h => by
    have ih := nv_le27 (g := g) (k := k) (by omega) (fun j hj => h j (by omega))
    have hg := h k (by omega)
    obtain ⟨e1, -, -⟩ := mm_B_s (k := k) (by omega)
    rw [e1]
    show 27 * nv 27 g k + g k ≤ 27 * mm_B k - 1
    omega
theorem Nm.le {x y : Int} (h : Nm x y) : y ≤ 10460353202 := by
  obtain ⟨k, g, hk, hg, -, rfl⟩ := h
  have := nv_le27 hk hg
  have := mm_B_le k
  omega
section
variable {res : Nat → Int} {r F : Nat → Int}
theorem tk_tok.w (hz : rz res) (h : tk_tok res r F) {k : Nat} (hk : k < 24) : (F 7 = 2 ∧ F 12 = wv k) ↔ r 6 = (k : Int) := by
  rcases h with ⟨h1, h2, h3⟩ | ⟨h1, h2, h3⟩ | ⟨h1, h2, h3, h4⟩ | ⟨h1, h2, h3, h4⟩ | ⟨h1, h2, h3, h4⟩
  · constructor <;> intro <;> omega
  · constructor <;> intro <;> omega
  · constructor
    · rintro ⟨-, e⟩
      have e7 : r 7 = wc k := (h3.eq (Nm_w hk)).mpr e
      rcases h4 with ⟨g0, g1, g2, g3⟩ | ⟨g0, g1⟩
      · have := hz.inj (i := (r 6).toNat) (j := k) (by omega) hk (by rw [g2, e7, hz k hk])
        omega
      · exact absurd (by rw [hz k hk, e7]) (g1 k hk)
    · intro e
      rcases h4 with ⟨g0, g1, g2, g3⟩ | ⟨g0, g1⟩
      · refine ⟨h2, (h3.eq (Nm_w hk)).mp ?_⟩
        rw [← g2, show (r 6).toNat = k by omega, hz k hk]
      · omega
  · constructor <;> intro <;> omega
  · constructor <;> intro <;> omega
theorem tk_tok.n (hz : rz res) (h : tk_tok res r F) : (F 7 = 2 ∧ ∀ k : Nat, k < 24 → F 12 ≠ wv k) ↔ (r 3 = 2 ∧ r 6 = -1) := by
  have hw : ∀ k : Nat, k < 24 → ((F 7 = 2 ∧ F 12 = wv k) ↔ r 6 = (k : Int)) := fun k hk => h.w hz hk
  rcases h with ⟨h1, h2, h3⟩ | ⟨h1, h2, h3⟩ | ⟨h1, h2, h3, h4⟩ | ⟨h1, h2, h3, h4⟩ | ⟨h1, h2, h3, h4⟩
  · constructor <;> (rintro ⟨q, -⟩; omega)
  · constructor <;> (rintro ⟨q, -⟩; omega)
  · constructor
    · rintro ⟨-, q⟩
      refine ⟨h1, ?_⟩
      rcases h4 with ⟨g0, g1, g2, g3⟩ | ⟨g0, g1⟩
      · exact absurd ((hw (r 6).toNat (by omega)).mpr (by omega)).2 (q _ (by omega))
      · exact g0
    · rintro ⟨-, q⟩
      refine ⟨h2, fun k hk e => ?_⟩
      have := (hw k hk).mp ⟨h2, e⟩
      omega
  · constructor <;> (rintro ⟨q, -⟩; omega)
  · have := tk_sg_t.mp h1
    constructor <;> (rintro ⟨q, -⟩; omega)
theorem tk_tok.s (h : tk_tok res r F) {m : Int} (hm : 40 ≤ m) : (F 7 = 4 ∧ F 9 = m) ↔ r 3 = m := by
  rcases h with ⟨h1, h2, h3⟩ | ⟨h1, h2, h3⟩ | ⟨h1, h2, h3, h4⟩ | ⟨h1, h2, h3, h4⟩ | ⟨h1, h2, h3, h4⟩ <;> constructor <;> intro q <;> omega
theorem tk_tok.k0 (h : tk_tok res r F) : F 7 = 1 ↔ r 3 = 0 := by
  rcases h with ⟨h1, h2, h3⟩ | ⟨h1, h2, h3⟩ | ⟨h1, h2, h3, h4⟩ | ⟨h1, h2, h3, h4⟩ | ⟨h1, h2, h3, h4⟩
  all_goals first | omega | (have := tk_sg_t.mp h1; omega)
theorem tk_tok.k1 (h : tk_tok res r F) : F 7 = 0 ↔ r 3 = 1 := by
  rcases h with ⟨h1, h2, h3⟩ | ⟨h1, h2, h3⟩ | ⟨h1, h2, h3, h4⟩ | ⟨h1, h2, h3, h4⟩ | ⟨h1, h2, h3, h4⟩
  all_goals first | omega | (have := tk_sg_t.mp h1; omega)
theorem tk_tok.k2 (h : tk_tok res r F) : (F 7 = 2 ↔ r 3 = 2) ∧ (r 3 = 2 → Nm (r 7) (F 12)) := by
  rcases h with ⟨h1, h2, h3⟩ | ⟨h1, h2, h3⟩ | ⟨h1, h2, h3, h4⟩ | ⟨h1, h2, h3, h4⟩ | ⟨h1, h2, h3, h4⟩
  · exact ⟨by omega, fun q => absurd q (by omega)⟩
  · exact ⟨by omega, fun q => absurd q (by omega)⟩
  · exact ⟨by omega, fun _ => h3⟩
  · exact ⟨by omega, fun q => absurd q (by omega)⟩
  · have := tk_sg_t.mp h1
    exact ⟨by omega, fun q => absurd q (by omega)⟩
theorem tk_tok.k3 (h : tk_tok res r F) : (F 7 = 3 ↔ r 3 = 3) ∧ (r 3 = 3 → r 8 = F 8) := by
  rcases h with ⟨h1, h2, h3⟩ | ⟨h1, h2, h3⟩ | ⟨h1, h2, h3, h4⟩ | ⟨h1, h2, h3, h4⟩ | ⟨h1, h2, h3, h4⟩
  · omega
  · omega
  · omega
  · omega
  · have := tk_sg_t.mp h1
    omega
end
/-- a word spelt letter by letter -/
def sv (c x : Int) : Int := if 0 < c then kk_l2 1 (kk_l2 0 (kk_l2 2 27 x) c) 96 else x
theorem sv_y {c x : Int} (h : 0 < c) : sv c x = kk_l2 1 (kk_l2 0 (kk_l2 2 27 x) c) 96 := if_pos h
theorem sv_n {c x : Int} (h : c ≤ 0) : sv c x = x := if_neg (by omega)
set_option maxRecDepth 100000 in
set_option maxHeartbeats 4000000 in
theorem mm_xSpelt (l : Launch) (d : Nat) (a b c e f g u : Int) : kk_Ctr l d en_t_X11_spelt [(0, a), (0, b), (0, c), (0, e), (0, f), (0, g), (0, u)] [] (fun rs w' => w' = [] ∧ ∃ x, rs = [(2, x)] ∧ x = sv u (sv g (sv f (sv e (sv c (kk_l2 1 (kk_l2 0 (kk_l2 2 27 (kk_l2 1 a 96)) b) 96)))))) := by
  generalize hv : sv u (sv g (sv f (sv e (sv c (kk_l2 1 (kk_l2 0 (kk_l2 2 27 (kk_l2 1 a 96)) b) 96))))) = v
  refine kk_ctr en_hM (List.mem_of_getElem? (i := 244) rfl) rfl (Nat.le_of_ble_eq_true rfl) (fun K hC => ?_)
  have k120 : ∀ x : Int, x = v → K 120 [(7, (2, x))] [] [] := by
    intro x hx
    refine hC.go [] _ rfl rfl ?_
    repeat' first | refine hC.gn [] _ rfl rfl ?_ | refine And.intro ?_ ?_ | exact True.intro | refine hC.iadd [] rfl rfl (by first | omega | (simp only [Int.reduceToNat] at *; omega)) ?_ | refine hC.isub [] rfl rfl (by first | omega | (simp only [Int.reduceToNat] at *; omega)) ?_ | refine hC.imul [] rfl rfl (by first | omega | (simp only [Int.reduceToNat] at *; omega)) ?_ | refine hC.iinc [] rfl rfl rfl rfl (by first | omega | (simp only [Int.reduceToNat] at *; omega)) ?_ | refine hC.go [] _ rfl rfl ?_ | (intro h; first | exact (h rfl).elim | (exfalso; cases h; done) | (dsimp only [kk_cP, kk_cN] at h) | skip)
    all_goals first | rfl | exact ⟨_, rfl, hx⟩
  have k99 : ∀ x : Int, sv u x = v → K 99 [(6, (0, u)), (7, (2, x))] [] [] := by
    intro x hx
    refine hC.go [] _ rfl rfl ?_
    repeat' first | refine hC.gn [120] _ rfl rfl ?_ | refine And.intro ?_ ?_ | exact True.intro | refine hC.iadd [120] rfl rfl (by first | omega | (simp only [Int.reduceToNat] at *; omega)) ?_ | refine hC.isub [120] rfl rfl (by first | omega | (simp only [Int.reduceToNat] at *; omega)) ?_ | refine hC.imul [120] rfl rfl (by first | omega | (simp only [Int.reduceToNat] at *; omega)) ?_ | refine hC.iinc [120] rfl rfl rfl rfl (by first | omega | (simp only [Int.reduceToNat] at *; omega)) ?_ | refine hC.go [120] _ rfl rfl ?_ | (intro h; first | exact (h rfl).elim | (exfalso; cases h; done) | (dsimp only [kk_cP, kk_cN] at h) | skip)
    all_goals exact hC.sub [(7, (2, _))] ⟨rfl, trivial⟩ (k120 _ (by rw [← hx]; first | exact (sv_y (by omega)).symm | exact (sv_n (by omega)).symm))
  have k78 : ∀ x : Int, sv u (sv g x) = v → K 78 [(5, (0, g)), (6, (0, u)), (7, (2, x))] [] [] := by
    intro x hx
    refine hC.go [] _ rfl rfl ?_
    repeat' first | refine hC.gn [99] _ rfl rfl ?_ | refine And.intro ?_ ?_ | exact True.intro | refine hC.iadd [99] rfl rfl (by first | omega | (simp only [Int.reduceToNat] at *; omega)) ?_ | refine hC.isub [99] rfl rfl (by first | omega | (simp only [Int.reduceToNat] at *; omega)) ?_ | refine hC.imul [99] rfl rfl (by first | omega | (simp only [Int.reduceToNat] at *; omega)) ?_ | refine hC.iinc [99] rfl rfl rfl rfl (by first | omega | (simp only [Int.reduceToNat] at *; omega)) ?_ | refine hC.go [99] _ rfl rfl ?_ | (intro h; first | exact (h rfl).elim | (exfalso; cases h; done) | (dsimp only [kk_cP, kk_cN] at h) | skip)
    all_goals exact hC.sub [(6, (0, u)), (7, (2, _))] ⟨rfl, rfl, trivial⟩ (k99 _ (by rw [← hx]; congr 1; first | exact (sv_y (by omega)).symm | exact (sv_n (by omega)).symm))
  have k57 : ∀ x : Int, sv u (sv g (sv f x)) = v → K 57 [(4, (0, f)), (5, (0, g)), (6, (0, u)), (7, (2, x))] [] [] := by
    intro x hx
    refine hC.go [] _ rfl rfl ?_
    repeat' first | refine hC.gn [78] _ rfl rfl ?_ | refine And.intro ?_ ?_ | exact True.intro | refine hC.iadd [78] rfl rfl (by first | omega | (simp only [Int.reduceToNat] at *; omega)) ?_ | refine hC.isub [78] rfl rfl (by first | omega | (simp only [Int.reduceToNat] at *; omega)) ?_ | refine hC.imul [78] rfl rfl (by first | omega | (simp only [Int.reduceToNat] at *; omega)) ?_ | refine hC.iinc [78] rfl rfl rfl rfl (by first | omega | (simp only [Int.reduceToNat] at *; omega)) ?_ | refine hC.go [78] _ rfl rfl ?_ | (intro h; first | exact (h rfl).elim | (exfalso; cases h; done) | (dsimp only [kk_cP, kk_cN] at h) | skip)
    all_goals exact hC.sub [(5, (0, g)), (6, (0, u)), (7, (2, _))] ⟨rfl, rfl, rfl, trivial⟩ (k78 _ (by rw [← hx]; congr 2; first | exact (sv_y (by omega)).symm | exact (sv_n (by omega)).symm))
  have k38 : ∀ x : Int, sv u (sv g (sv f (sv e x))) = v → K 38 [(3, (0, e)), (4, (0, f)), (5, (0, g)), (6, (0, u)), (7, (2, x))] [] [] := by
    intro x hx
    refine hC.go [] _ rfl rfl ?_
    repeat' first | refine hC.gn [57] _ rfl rfl ?_ | refine And.intro ?_ ?_ | exact True.intro | refine hC.iadd [57] rfl rfl (by first | omega | (simp only [Int.reduceToNat] at *; omega)) ?_ | refine hC.isub [57] rfl rfl (by first | omega | (simp only [Int.reduceToNat] at *; omega)) ?_ | refine hC.imul [57] rfl rfl (by first | omega | (simp only [Int.reduceToNat] at *; omega)) ?_ | refine hC.iinc [57] rfl rfl rfl rfl (by first | omega | (simp only [Int.reduceToNat] at *; omega)) ?_ | refine hC.go [57] _ rfl rfl ?_ | (intro h; first | exact (h rfl).elim | (exfalso; cases h; done) | (dsimp only [kk_cP, kk_cN] at h) | skip)
    all_goals exact hC.sub [(4, (0, f)), (5, (0, g)), (6, (0, u)), (7, (2, _))] ⟨rfl, rfl, rfl, rfl, trivial⟩ (k57 _ (by rw [← hx]; congr 3; first | exact (sv_y (by omega)).symm | exact (sv_n (by omega)).symm))
  repeat' first | refine hC.gn [38] _ rfl rfl ?_ | refine And.intro ?_ ?_ | exact True.intro | refine hC.iadd [38] rfl rfl (by first | omega | (simp only [Int.reduceToNat] at *; omega)) ?_ | refine hC.isub [38] rfl rfl (by first | omega | (simp only [Int.reduceToNat] at *; omega)) ?_ | refine hC.imul [38] rfl rfl (by first | omega | (simp only [Int.reduceToNat] at *; omega)) ?_ | refine hC.iinc [38] rfl rfl rfl rfl (by first | omega | (simp only [Int.reduceToNat] at *; omega)) ?_ | refine hC.go [38] _ rfl rfl ?_ | (intro h; first | exact (h rfl).elim | (exfalso; cases h; done) | (dsimp only [kk_cP, kk_cN] at h) | skip)
  all_goals exact hC.sub [(3, (0, e)), (4, (0, f)), (5, (0, g)), (6, (0, u)), (7, (2, _))] ⟨rfl, rfl, rfl, rfl, rfl, trivial⟩ (k38 _ (by rw [← hv]; congr 4; first | exact (sv_y (by omega)).symm | exact (sv_n (by omega)).symm))
set_option maxRecDepth 100000 in
set_option maxHeartbeats 4000000 in
theorem mm_xWordOf (l : Launch) (d : Nat) (k : Nat) (hk : k < 24) : kk_Ctr l (d + 1) en_t_X11_wordOf [(0, (k : Int))] [] (fun rs w' => w' = [] ∧ ∃ x, rs = [(2, x)] ∧ x = wv k) := by
  refine kk_ctr en_hM (List.mem_of_getElem? (i := 285) rfl) rfl (Nat.le_of_ble_eq_true rfl) (fun K hC => ?_)
  repeat' first | refine hC.gn [] _ rfl rfl ?_ | refine And.intro ?_ ?_ | exact True.intro | refine hC.iadd [] rfl rfl (by first | omega | (simp only [Int.reduceToNat] at *; omega)) ?_ | refine hC.isub [] rfl rfl (by first | omega | (simp only [Int.reduceToNat] at *; omega)) ?_ | refine hC.imul [] rfl rfl (by first | omega | (simp only [Int.reduceToNat] at *; omega)) ?_ | refine hC.iinc [] rfl rfl rfl rfl (by first | omega | (simp only [Int.reduceToNat] at *; omega)) ?_ | refine hC.go [] _ rfl rfl ?_ | (intro h; first | exact (h rfl).elim | (exfalso; cases h; done) | (dsimp only [kk_cP, kk_cN] at h) | skip) | (refine hC.call (mm_xSpelt l _ _ _ _ _ _ _ _) [] rfl rfl rfl rfl rfl rfl trivial (Nat.le_refl _) ?_; rintro rs w' ⟨rfl, x, rfl, hx⟩)
  all_goals first | rfl | skip
  all_goals (refine ⟨_, rfl, hx.trans ?_⟩; clear hx hC)
  all_goals first | ((obtain rfl : k = 0 := by omega); decide +kernel) | ((obtain rfl : k = 1 := by omega); decide +kernel) | ((obtain rfl : k = 2 := by omega); decide +kernel) | ((obtain rfl : k = 3 := by omega); decide +kernel) | ((obtain rfl : k = 4 := by omega); decide +kernel) | ((obtain rfl : k = 5 := by omega); decide +kernel) | ((obtain rfl : k = 6 := by omega); decide +kernel) | ((obtain rfl : k = 7 := by omega); decide +kernel) | ((obtain rfl : k = 8 := by omega); decide +kernel) | ((obtain rfl : k = 9 := by omega); decide +kernel) | ((obtain rfl : k = 10 := by omega); decide +kernel) | ((obtain rfl : k = 11 := by omega); decide +kernel) | ((obtain rfl : k = 12 := by omega); decide +kernel) | ((obtain rfl : k = 13 := by omega); decide +kernel) | ((obtain rfl : k = 14 := by omega); decide +kernel) | ((obtain rfl : k = 15 := by omega); decide +kernel) | ((obtain rfl : k = 16 := by omega); decide +kernel) | ((obtain rfl : k = 17 := by omega); decide +kernel) | ((obtain rfl : k = 18 := by omega); decide +kernel) | ((obtain rfl : k = 19 := by omega); decide +kernel) | ((obtain rfl : k = 20 := by omega); decide +kernel) | ((obtain rfl : k = 21 := by omega); decide +kernel) | ((obtain rfl : k = 22 := by omega); decide +kernel) | ((obtain rfl : k = 23 := by omega); decide +kernel)
