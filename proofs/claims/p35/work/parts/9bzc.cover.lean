/-! COVER: by how few chapters all deeds that must be done come up -/
def pcn (k : Nat) : Int := ((k % 2 + k / 2 % 2 + k / 4 % 2 + k / 8 % 2 + k / 16 % 2 + k / 32 % 2 + k / 64 % 2 + k / 128 % 2 + k / 256 % 2 + k / 512 % 2 : Nat) : Int)
theorem pcn_b (k : Nat) : 0 ≤ pcn k ∧ pcn k ≤ 10 := by unfold pcn; omega
def bc1 (x : Int) : Int := kk_i2 1 x (kk_i2 3 (kk_i2 8 x 1) 1431655765)
def bc2 (x : Int) : Int := kk_i2 0 (kk_i2 3 x 858993459) (kk_i2 3 (kk_i2 8 x 2) 858993459)
def bc3 (x : Int) : Int := kk_i2 3 (kk_i2 0 x (kk_i2 8 x 4)) 252645135
def bc4 (x : Int) : Int := kk_i2 0 x (kk_i2 8 x 8)
def bc5 (x : Int) : Int := kk_i2 0 x (kk_i2 8 x 16)
def bcv (x : Int) : Int := kk_i2 3 (bc5 (bc4 (bc3 (bc2 (bc1 x))))) 63
theorem bcv_pcn0 : ∀ k : Nat, k < 1024 → bcv (k : Int) = pcn k := by decide +kernel
theorem bcv_pcn {x : Int} (h0 : 0 ≤ x) (h1 : x < 1024) : bcv x = pcn x.toNat := by
  obtain ⟨k, rfl⟩ := Int.eq_ofNat_of_zero_le h0
  exact bcv_pcn0 k (by omega)
set_option maxRecDepth 100000 in
set_option maxHeartbeats 4000000 in
theorem jj_xBits (l : Launch) (d : Nat) (x : Int) : kk_Ctr l d en_t_J6_bitCount_0f7a4 [(0, x)] [] (fun rs w' => w' = [] ∧ ∃ y, rs = [(0, y)] ∧ y = bcv x) := by
  generalize hv : bcv x = v
  refine kk_ctr en_hM (List.mem_of_getElem? (i := 295) rfl) rfl (Nat.le_of_ble_eq_true rfl) (fun K hC => ?_)
  repeat' first | refine hC.gn [10] _ rfl rfl ?_ | refine And.intro ?_ ?_ | exact True.intro | refine hC.iadd [10] rfl rfl (by first | omega | (simp only [Int.reduceToNat] at *; omega)) ?_ | refine hC.isub [10] rfl rfl (by first | omega | (simp only [Int.reduceToNat] at *; omega)) ?_ | refine hC.imul [10] rfl rfl (by first | omega | (simp only [Int.reduceToNat] at *; omega)) ?_ | refine hC.iinc [10] rfl rfl rfl rfl (by first | omega | (simp only [Int.reduceToNat] at *; omega)) ?_ | refine hC.go [10] _ rfl rfl ?_ | (intro h; first | exact (h rfl).elim | (exfalso; cases h; done) | (dsimp only [kk_cP, kk_cN] at h) | skip)
  refine (show ∀ y : Int, y = bc1 x → K 10 [(0, (0, y))] [] [] from ?_) _ rfl
  intro y1 e1
  repeat' first | refine hC.gn [24] _ rfl rfl ?_ | refine And.intro ?_ ?_ | exact True.intro | refine hC.iadd [24] rfl rfl (by first | omega | (simp only [Int.reduceToNat] at *; omega)) ?_ | refine hC.isub [24] rfl rfl (by first | omega | (simp only [Int.reduceToNat] at *; omega)) ?_ | refine hC.imul [24] rfl rfl (by first | omega | (simp only [Int.reduceToNat] at *; omega)) ?_ | refine hC.iinc [24] rfl rfl rfl rfl (by first | omega | (simp only [Int.reduceToNat] at *; omega)) ?_ | refine hC.go [24] _ rfl rfl ?_ | (intro h; first | exact (h rfl).elim | (exfalso; cases h; done) | (dsimp only [kk_cP, kk_cN] at h) | skip)
  refine (show ∀ y : Int, y = bc2 y1 → K 24 [(0, (0, y))] [] [] from ?_) _ rfl
  intro y2 e2
  repeat' first | refine hC.gn [34] _ rfl rfl ?_ | refine And.intro ?_ ?_ | exact True.intro | refine hC.iadd [34] rfl rfl (by first | omega | (simp only [Int.reduceToNat] at *; omega)) ?_ | refine hC.isub [34] rfl rfl (by first | omega | (simp only [Int.reduceToNat] at *; omega)) ?_ | refine hC.imul [34] rfl rfl (by first | omega | (simp only [Int.reduceToNat] at *; omega)) ?_ | refine hC.iinc [34] rfl rfl rfl rfl (by first | omega | (simp only [Int.reduceToNat] at *; omega)) ?_ | refine hC.go [34] _ rfl rfl ?_ | (intro h; first | exact (h rfl).elim | (exfalso; cases h; done) | (dsimp only [kk_cP, kk_cN] at h) | skip)
  refine (show ∀ y : Int, y = bc3 y2 → K 34 [(0, (0, y))] [] [] from ?_) _ rfl
  intro y3 e3
  repeat' first | refine hC.gn [41] _ rfl rfl ?_ | refine And.intro ?_ ?_ | exact True.intro | refine hC.iadd [41] rfl rfl (by first | omega | (simp only [Int.reduceToNat] at *; omega)) ?_ | refine hC.isub [41] rfl rfl (by first | omega | (simp only [Int.reduceToNat] at *; omega)) ?_ | refine hC.imul [41] rfl rfl (by first | omega | (simp only [Int.reduceToNat] at *; omega)) ?_ | refine hC.iinc [41] rfl rfl rfl rfl (by first | omega | (simp only [Int.reduceToNat] at *; omega)) ?_ | refine hC.go [41] _ rfl rfl ?_ | (intro h; first | exact (h rfl).elim | (exfalso; cases h; done) | (dsimp only [kk_cP, kk_cN] at h) | skip)
  refine (show ∀ y : Int, y = bc4 y3 → K 41 [(0, (0, y))] [] [] from ?_) _ rfl
  intro y4 e4
  repeat' first | refine hC.gn [48] _ rfl rfl ?_ | refine And.intro ?_ ?_ | exact True.intro | refine hC.iadd [48] rfl rfl (by first | omega | (simp only [Int.reduceToNat] at *; omega)) ?_ | refine hC.isub [48] rfl rfl (by first | omega | (simp only [Int.reduceToNat] at *; omega)) ?_ | refine hC.imul [48] rfl rfl (by first | omega | (simp only [Int.reduceToNat] at *; omega)) ?_ | refine hC.iinc [48] rfl rfl rfl rfl (by first | omega | (simp only [Int.reduceToNat] at *; omega)) ?_ | refine hC.go [48] _ rfl rfl ?_ | (intro h; first | exact (h rfl).elim | (exfalso; cases h; done) | (dsimp only [kk_cP, kk_cN] at h) | skip)
  refine (show ∀ y : Int, y = bc5 y4 → K 48 [(0, (0, y))] [] [] from ?_) _ rfl
  intro y5 e5
  repeat' first | refine hC.gn [] _ rfl rfl ?_ | refine And.intro ?_ ?_ | exact True.intro | refine hC.iadd [] rfl rfl (by first | omega | (simp only [Int.reduceToNat] at *; omega)) ?_ | refine hC.isub [] rfl rfl (by first | omega | (simp only [Int.reduceToNat] at *; omega)) ?_ | refine hC.imul [] rfl rfl (by first | omega | (simp only [Int.reduceToNat] at *; omega)) ?_ | refine hC.iinc [] rfl rfl rfl rfl (by first | omega | (simp only [Int.reduceToNat] at *; omega)) ?_ | refine hC.go [] _ rfl rfl ?_ | (intro h; first | exact (h rfl).elim | (exfalso; cases h; done) | (dsimp only [kk_cP, kk_cN] at h) | skip)
  all_goals first | rfl | exact ⟨_, rfl, by rw [← hv, e5, e4, e3, e2, e1]; rfl⟩
theorem bst0 : ∀ k : Nat, k < 1024 → k ≠ 0 → (0 ≤ kk_i2 3 (k : Int) ((k : Int) - 1) ∧ kk_i2 3 (k : Int) ((k : Int) - 1) < (k : Int)) ∧ pcn (kk_i2 3 (k : Int) ((k : Int) - 1)).toNat + 1 = pcn k := by decide +kernel
theorem bst {s : Int} (h0 : 0 ≤ s) (h1 : s < 1024) (h : s ≠ 0) : (0 ≤ kk_i2 3 s (s - 1) ∧ kk_i2 3 s (s - 1) < s) ∧ pcn (kk_i2 3 s (s - 1)).toNat + 1 = pcn s.toNat := by
  obtain ⟨k, rfl⟩ := Int.eq_ofNat_of_zero_le h0
  exact bst0 k (by omega) (by omega)
set_option maxRecDepth 100000 in
set_option maxHeartbeats 4000000 in
theorem mm_xBits (l : Launch) (d : Nat) (s : Int) (h0 : 0 ≤ s) (h1 : s < 1024) : kk_Ctr l d en_t_X11_bits [(0, s)] [] (fun rs w' => w' = [] ∧ ∃ x, rs = [(0, x)] ∧ x = pcn s.toNat) := by
  generalize hv : pcn s.toNat = v
  have hv1 : 0 ≤ v ∧ v ≤ 10 := by rw [← hv]; exact pcn_b _
  refine kk_ctr en_hM (List.mem_of_getElem? (i := 234) rfl) rfl (Nat.le_of_ble_eq_true rfl) (fun K hC => ?_)
  have key : ∀ (n : Nat) (c s : Int), s.toNat < n → 0 ≤ s → s < 1024 → 0 ≤ c → c + pcn s.toNat = v → K 4 [(1, (0, c)), (2, (0, s))] [] [] := by
    intro n
    induction n with
    | zero => intro c s h; exact absurd h (Nat.not_lt_zero _)
    | succ n ih =>
      intro c s hn s0 s1 c0 hc
      have hp := pcn_b s.toNat
      refine hC.go [] _ rfl rfl ?_
      repeat' first | refine hC.gn [4] _ rfl rfl ?_ | refine And.intro ?_ ?_ | exact True.intro | refine hC.iadd [4] rfl rfl (by first | omega | (simp only [Int.reduceToNat] at *; omega)) ?_ | refine hC.isub [4] rfl rfl (by first | omega | (simp only [Int.reduceToNat] at *; omega)) ?_ | refine hC.imul [4] rfl rfl (by first | omega | (simp only [Int.reduceToNat] at *; omega)) ?_ | refine hC.iinc [4] rfl rfl rfl rfl (by first | omega | (simp only [Int.reduceToNat] at *; omega)) ?_ | refine hC.go [4] _ rfl rfl ?_ | (intro h; first | exact (h rfl).elim | (exfalso; cases h; done) | (dsimp only [kk_cP, kk_cN] at h) | skip)
      · rfl
      · refine ⟨_, rfl, ?_⟩
        have h' : s = 0 := h
        have e : pcn s.toNat = 0 := by rw [h']; rfl
        omega
      · have q := bst s0 s1 h
        exact hC.sub [(1, (0, _)), (2, (0, _))] ⟨rfl, rfl, trivial⟩ (ih _ _ (by omega) q.1.1 (by omega) (by omega) (by omega))
  repeat' first | refine hC.gn [4] _ rfl rfl ?_ | refine And.intro ?_ ?_ | exact True.intro | refine hC.iadd [4] rfl rfl (by first | omega | (simp only [Int.reduceToNat] at *; omega)) ?_ | refine hC.isub [4] rfl rfl (by first | omega | (simp only [Int.reduceToNat] at *; omega)) ?_ | refine hC.imul [4] rfl rfl (by first | omega | (simp only [Int.reduceToNat] at *; omega)) ?_ | refine hC.iinc [4] rfl rfl rfl rfl (by first | omega | (simp only [Int.reduceToNat] at *; omega)) ?_ | refine hC.go [4] _ rfl rfl ?_ | (intro h; first | exact (h rfl).elim | (exfalso; cases h; done) | (dsimp only [kk_cP, kk_cN] at h) | skip)
  exact hC.sub [(1, (0, _)), (2, (0, _))] ⟨rfl, rfl, trivial⟩ (key _ _ _ (Nat.lt_succ_self _) h0 h1 (by decide) (by omega))
-- the chapter c stands in the set s
theorem st_bit0 : ∀ s : Nat, s < 1024 → ∀ c : Nat, c < 10 → (kk_i2 3 (kk_i2 8 (s : Int) (c : Int)) 1 ≠ 0 ↔ s / 2 ^ c % 2 = 1) ∧ (kk_i2 3 (kk_i2 7 (s : Int) (c : Int)) 1 = 1 ↔ s / 2 ^ c % 2 = 1) := by decide +kernel
theorem st_bit {s c : Int} (hs : 0 ≤ s ∧ s < 1024) (hc : 0 ≤ c ∧ c < 10) : kk_i2 3 (kk_i2 7 s c) 1 = 1 ↔ kk_i2 3 (kk_i2 8 s c) 1 ≠ 0 := by
  obtain ⟨a, rfl⟩ := Int.eq_ofNat_of_zero_le hs.1
  obtain ⟨b, rfl⟩ := Int.eq_ofNat_of_zero_le hc.1
  have q := st_bit0 a (by omega) b (by omega)
  exact q.2.trans q.1.symm
/-- the deeds that the first k chapters of a set must do -/
def mb (m : Nat → Int) (s : Int) : Nat → Int
  | 0 => 0
  | k + 1 => if kk_i2 3 (kk_i2 8 s (k : Int)) 1 ≠ 0 then kk_i2 4 (mb m s k) (m k) else mb m s k
theorem mb_ye {m : Nat → Int} {s : Int} {k : Nat} (h : kk_i2 3 (kk_i2 8 s (k : Int)) 1 ≠ 0) : mb m s (k + 1) = kk_i2 4 (mb m s k) (m k) := if_pos h
theorem mb_no {m : Nat → Int} {s : Int} {k : Nat} (h : ¬ kk_i2 3 (kk_i2 8 s (k : Int)) 1 ≠ 0) : mb m s (k + 1) = mb m s k := if_neg h
theorem mb_eq {m m' : Nat → Int} {s : Int} : ∀ {k : Nat}, (∀ j, j < k → m j = m' j) → mb m s k = mb m' s k
  | 0, _ => rfl
  | k + 1, h => by
    unfold mb
    rw [mb_eq (k := k) (fun j hj => h j (by omega)), h k (by omega)]
theorem mb_hi {m : Nat → Int} {n s : Nat} (hs : s < 2 ^ n) (hs2 : s < 1024) : ∀ k : Nat, n + k ≤ 10 → mb m (s : Int) (n + k) = mb m (s : Int) n
  | 0, _ => rfl
  | k + 1, h => by
    have q := (st_bit0 s hs2 (n + k) (by omega)).1
    have e : s / 2 ^ (n + k) = 0 := Nat.div_eq_of_lt (Nat.lt_of_lt_of_le hs (Nat.pow_le_pow_right (by decide) (by omega)))
    rw [e] at q
    show mb m (s : Int) ((n + k) + 1) = _
    rw [mb_no (fun g => absurd (q.mp g) (by decide))]
    exact mb_hi hs hs2 k (by omega)
/-- the set k comes up to all that must be done by some -/
abbrev cvp (m : Nat → Int) (n k : Nat) : Prop := mb m (k : Int) n = mb m ((2 ^ n - 1 : Nat) : Int) n
/-- the best of the first k sets, as the class sees it, and as the reference does -/
def cb (m : Nat → Int) (n : Nat) : Nat → Nat
  | 0 => 2 ^ n - 1
  | k + 1 => if pcn k < pcn (cb m n k) ∧ cvp m n k then k else cb m n k
def rb (m : Nat → Int) (n : Nat) : Nat → Int
  | 0 => -1
  | k + 1 => if cvp m n k ∧ (rb m n k = -1 ∨ pcn k < pcn (rb m n k).toNat) then (k : Int) else rb m n k
section CVS
variable {m m' : Nat → Int} {n k : Nat}
theorem cb_ye (h : pcn k < pcn (cb m n k) ∧ cvp m n k) : cb m n (k + 1) = k := if_pos h
theorem cb_no (h : ¬ (pcn k < pcn (cb m n k) ∧ cvp m n k)) : cb m n (k + 1) = cb m n k := if_neg h
theorem rb_ye (h : cvp m n k ∧ (rb m n k = -1 ∨ pcn k < pcn (rb m n k).toNat)) : rb m n (k + 1) = (k : Int) := if_pos h
theorem rb_no (h : ¬ (cvp m n k ∧ (rb m n k = -1 ∨ pcn k < pcn (rb m n k).toNat))) : rb m n (k + 1) = rb m n k := if_neg h
theorem cb_le : ∀ {k : Nat}, k ≤ 2 ^ n → cb m n k ≤ 2 ^ n - 1
  | 0, _ => Nat.le_refl _
  | k + 1, h => by
    by_cases q : pcn k < pcn (cb m n k) ∧ cvp m n k
    · rw [cb_ye q]; omega
    · rw [cb_no q]; exact cb_le (by omega)
theorem rb_b : ∀ {k : Nat}, -1 ≤ rb m n k ∧ rb m n k < (k : Int)
  | 0 => by show (-1 : Int) ≤ -1 ∧ (-1 : Int) < 0; decide
  | k + 1 => by
    have ih := rb_b (k := k)
    by_cases q : cvp m n k ∧ (rb m n k = -1 ∨ pcn k < pcn (rb m n k).toNat)
    · rw [rb_ye q]; omega
    · rw [rb_no q]; omega
theorem pcn_all : ∀ n : Nat, n < 11 → ∀ k : Nat, k < 2 ^ n - 1 → pcn k < pcn (2 ^ n - 1) := by decide +kernel
theorem rc (hn : n ≤ 10) : ∀ {k : Nat}, k ≤ 2 ^ n → (rb m n k = -1 ∧ cb m n k = 2 ^ n - 1 ∧ ∀ j, j < k → ¬ cvp m n j) ∨ rb m n k = (cb m n k : Int)
  | 0, _ => Or.inl ⟨rfl, rfl, fun j hj => absurd hj (by omega)⟩
  | k + 1, h => by
    rcases rc hn (k := k) (by omega) with ⟨h1, h2, h3⟩ | h1
    · by_cases q : cvp m n k
      · right
        rw [rb_ye ⟨q, Or.inl h1⟩]
        by_cases e : k = 2 ^ n - 1
        · rw [cb_no (fun g => by have g1 := g.1; rw [h2, e] at g1; omega), h2, e]
        · rw [cb_ye ⟨by rw [h2]; exact pcn_all n (by omega) k (by omega), q⟩]
      · left
        refine ⟨by rw [rb_no (fun g => q g.1)]; exact h1, by rw [cb_no (fun g => q g.2)]; exact h2, fun j hj => ?_⟩
        by_cases e : j = k
        · rw [e]; exact q
        · exact h3 j (by omega)
    · right
      by_cases q : cvp m n k ∧ pcn k < pcn (cb m n k)
      · rw [cb_ye ⟨q.2, q.1⟩, rb_ye ⟨q.1, Or.inr (by rw [h1, Int.toNat_natCast]; exact q.2)⟩]
      · rw [cb_no (fun g => q ⟨g.2, g.1⟩), rb_no (fun g => ?_)]
        · exact h1
        · obtain ⟨g1, g2⟩ := g
          rw [h1, Int.toNat_natCast] at g2
          rcases g2 with g2 | g2
          · omega
          · exact q ⟨g1, g2⟩
-- both are one in the end
theorem rc_end (hn : n ≤ 10) : rb m n (2 ^ n) = (cb m n (2 ^ n) : Int) := by
  rcases rc (m := m) hn (Nat.le_refl _) with ⟨-, -, h⟩ | h
  · have hp : 1 ≤ 2 ^ n := Nat.one_le_two_pow
    exact absurd rfl (h (2 ^ n - 1) (by omega))
  · exact h
theorem cb_eq (h : ∀ j, j < n → m j = m' j) : ∀ {k : Nat}, cb m n k = cb m' n k
  | 0 => rfl
  | k + 1 => by
    have e : ∀ s : Int, mb m s n = mb m' s n := fun s => mb_eq h
    unfold cb cvp
    rw [cb_eq h (k := k), e, e]
end CVS
theorem p2_le {n : Nat} (h : n ≤ 10) : 1 ≤ 2 ^ n ∧ 2 ^ n ≤ 1024 := ⟨Nat.one_le_two_pow, Nat.pow_le_pow_right (by decide) h⟩
theorem shl_p : ∀ n : Nat, n < 11 → kk_i2 6 1 (n : Int) = ((2 ^ n : Nat) : Int) := by decide +kernel
/-- what cover and covering answer -/
def cg_V (Bm : Nat → Nat → Int) : Int := ((cb (fun c => Bm 2 (15 + c)) (Bm 2 2).toNat (2 ^ (Bm 2 2).toNat) : Nat) : Int)
def cv_V (Bm : Nat → Nat → Int) : Int := pcn (cb (fun c => Bm 2 (15 + c)) (Bm 2 2).toNat (2 ^ (Bm 2 2).toNat))
set_option maxRecDepth 100000 in
set_option maxHeartbeats 4000000 in
theorem hh_xMustBy (l : Launch) (d : Nat) (O A : Nat → Nat → Int) (e : Int) (hc : hh_c A) : kk_Ctr l (d + 1) en_t_X2_mustByAny [(4, 0), (0, e)] (cx_H O A) (fun rs w' => w' = cx_H O A ∧ ∃ x, rs = [(0, x)] ∧ x = mb (A 4) e (A 1 2).toNat) := by
  have h2 := hc.2.2
  refine kk_ctr en_hM (List.mem_of_getElem? (i := 71) rfl) rfl (Nat.le_of_ble_eq_true rfl) (fun K hC => ?_)
  have k4 : ∀ (n : Nat) (i : Int) (x : Int), (11 - i).toNat < n → (0 ≤ i ∧ i ≤ 10) → (i ≤ A 1 2) → (x = mb (A 4) e i.toNat) → K 4 [(0, (4, 0)), (1, (0, e)), (2, (0, x)), (3, (0, i))] [] (cx_H O A) := by
    intro n
    induction n with
    | zero => intro i x hz; exact absurd hz (Nat.not_lt_zero _)
    | succ n ih =>
      intro i x hn g0 g1 g2
      refine hC.go [] _ rfl rfl ?_
      repeat' first | refine hC.gw [4] _ rfl rfl ?_ | refine And.intro ?_ ?_ | exact True.intro | refine hC.iadd [4] rfl rfl (by first | omega | (simp only [Int.reduceToNat] at *; omega)) ?_ | refine hC.isub [4] rfl rfl (by first | omega | (simp only [Int.reduceToNat] at *; omega)) ?_ | refine hC.imul [4] rfl rfl (by first | omega | (simp only [Int.reduceToNat] at *; omega)) ?_ | refine hC.iinc [4] rfl rfl rfl rfl (by first | omega | (simp only [Int.reduceToNat] at *; omega)) ?_ | refine hC.pfw (W := cx_H) [4] rfl rfl rfl rfl rfl rfl ?_ ?_ | refine hC.iaw (W := cx_H) [4] rfl rfl rfl rfl ?_ ?_ | refine hC.law (W := cx_H) [4] rfl rfl rfl rfl ?_ ?_ | refine hC.cpw (W := cx_H) [4] rfl rfl rfl rfl rfl rfl ?_ | refine hC.cpl (W := cx_H) [4] rfl rfl rfl rfl rfl rfl ?_ | refine hC.go [4] _ rfl rfl ?_ | (intro h; first | exact (h rfl).elim | (exfalso; cases h; done) | (dsimp only [kk_cP, kk_cN] at h) | skip) | (refine hC.call (xx_xHasBit l _ _ _) [] rfl rfl rfl rfl rfl rfl trivial (Nat.le_refl _) ?_; rintro rs w' ⟨rfl, ⟨rfl, hb⟩ | ⟨rfl, hb⟩⟩)
      all_goals first | rfl | omega | skip
      all_goals try (have ei : ((i.toNat : Nat) : Int) = i := by omega)
      all_goals try (have e1 : (i + 1).toNat = i.toNat + 1 := by omega)
      · have h' : A 1 2 ≤ i := h
        exact ⟨_, rfl, by rw [g2, show i = A 1 2 by omega]⟩
      · have h' : i < A 1 2 := by assumption
        omega
      · have h' : i < A 1 2 := by assumption
        exact hC.sub [(0, (4, 0)), (1, (0, _)), (2, (0, _)), (3, (0, _))] ⟨rfl, rfl, rfl, rfl, trivial⟩ (ih _ _ (by omega) (by omega) (by omega) (by rw [e1, mb_ye (by rw [ei]; exact hb), g2]))
      · have h' : i < A 1 2 := by assumption
        exact hC.sub [(0, (4, 0)), (1, (0, _)), (2, (0, _)), (3, (0, _))] ⟨rfl, rfl, rfl, rfl, trivial⟩ (ih _ _ (by omega) (by omega) (by omega) (by rw [e1, mb_no (by rw [ei]; exact fun q => q hb), g2]))
  repeat' first | refine hC.gw [4] _ rfl rfl ?_ | refine And.intro ?_ ?_ | exact True.intro | refine hC.iadd [4] rfl rfl (by first | omega | (simp only [Int.reduceToNat] at *; omega)) ?_ | refine hC.isub [4] rfl rfl (by first | omega | (simp only [Int.reduceToNat] at *; omega)) ?_ | refine hC.imul [4] rfl rfl (by first | omega | (simp only [Int.reduceToNat] at *; omega)) ?_ | refine hC.iinc [4] rfl rfl rfl rfl (by first | omega | (simp only [Int.reduceToNat] at *; omega)) ?_ | refine hC.pfw (W := cx_H) [4] rfl rfl rfl rfl rfl rfl ?_ ?_ | refine hC.iaw (W := cx_H) [4] rfl rfl rfl rfl ?_ ?_ | refine hC.law (W := cx_H) [4] rfl rfl rfl rfl ?_ ?_ | refine hC.cpw (W := cx_H) [4] rfl rfl rfl rfl rfl rfl ?_ | refine hC.cpl (W := cx_H) [4] rfl rfl rfl rfl rfl rfl ?_ | refine hC.go [4] _ rfl rfl ?_ | (intro h; first | exact (h rfl).elim | (exfalso; cases h; done) | (dsimp only [kk_cP, kk_cN] at h) | skip)
  exact hC.sub [(0, (4, 0)), (1, (0, _)), (2, (0, _)), (3, (0, _))] ⟨rfl, rfl, rfl, rfl, trivial⟩ (k4 _ _ _ (Nat.lt_succ_self _) (by omega) (by omega) rfl)
set_option maxRecDepth 100000 in
set_option maxHeartbeats 4000000 in
theorem hh_xLeastCover (l : Launch) (d : Nat) (O A : Nat → Nat → Int) (hc : hh_c A) : kk_Ctr l (d + 2) en_t_X2_leastCover [(4, 0)] (cx_H O A) (fun rs w' => w' = cx_H O A ∧ ∃ x, rs = [(0, x)] ∧ x = ((cb (A 4) (A 1 2).toNat (2 ^ (A 1 2).toNat) : Nat) : Int)) := by
  have h2 := hc.2.2
  obtain ⟨N, hN⟩ : ∃ N : Nat, A 1 2 = (N : Int) := ⟨(A 1 2).toNat, by omega⟩
  have hT : (A 1 2).toNat = N := by omega
  have hN9 : N ≤ 10 := by omega
  have hP := p2_le hN9
  have hS : kk_i2 6 1 (A 1 2) = ((2 ^ N : Nat) : Int) := by rw [hN]; exact shl_p N (by omega)
  have hS' : kk_i2 6 1 (A 1 (Int.toNat 2)) = ((2 ^ N : Nat) : Int) := hS
  have cl : ∀ k : Nat, k ≤ 2 ^ N → cb (A 4) N k ≤ 2 ^ N - 1 := fun k hk => cb_le hk
  have c0 : cb (A 4) N 0 = 2 ^ N - 1 := rfl
  rw [hT]
  generalize hPP : 2 ^ N = P at hP hS hS' cl c0 ⊢
  refine kk_ctr en_hM (List.mem_of_getElem? (i := 64) rfl) rfl (Nat.le_of_ble_eq_true rfl) (fun K hC => ?_)
  have k22 : ∀ (n : Nat) (i : Int) (a : Int) (b : Int) (c : Int), (1025 - i).toNat < n → (0 ≤ i ∧ i ≤ (P : Int)) → (a = (P : Int) - 1) → (b = mb (A 4) a N) → (c = ((cb (A 4) N i.toNat : Nat) : Int)) → K 22 [(0, (4, 0)), (1, (0, a)), (2, (0, b)), (3, (0, c)), (4, (0, i))] [] (cx_H O A) := by
    intro n
    induction n with
    | zero => intro i a b c hz; exact absurd hz (Nat.not_lt_zero _)
    | succ n ih =>
      intro i a b c hn g0 g1 g2 g3
      refine hC.go [] _ rfl rfl ?_
      repeat' first | refine hC.gw [22] _ rfl rfl ?_ | refine And.intro ?_ ?_ | exact True.intro | refine hC.iadd [22] rfl rfl (by first | omega | (simp only [Int.reduceToNat] at *; omega)) ?_ | refine hC.isub [22] rfl rfl (by first | omega | (simp only [Int.reduceToNat] at *; omega)) ?_ | refine hC.imul [22] rfl rfl (by first | omega | (simp only [Int.reduceToNat] at *; omega)) ?_ | refine hC.iinc [22] rfl rfl rfl rfl (by first | omega | (simp only [Int.reduceToNat] at *; omega)) ?_ | refine hC.pfw (W := cx_H) [22] rfl rfl rfl rfl rfl rfl ?_ ?_ | refine hC.iaw (W := cx_H) [22] rfl rfl rfl rfl ?_ ?_ | refine hC.law (W := cx_H) [22] rfl rfl rfl rfl ?_ ?_ | refine hC.cpw (W := cx_H) [22] rfl rfl rfl rfl rfl rfl ?_ | refine hC.cpl (W := cx_H) [22] rfl rfl rfl rfl rfl rfl ?_ | refine hC.go [22] _ rfl rfl ?_ | (intro h; first | exact (h rfl).elim | (exfalso; cases h; done) | (dsimp only [kk_cP, kk_cN] at h) | skip)
      all_goals first | rfl | omega | skip
      · have h' : a < i := h
        exact ⟨_, rfl, by rw [g3, show i.toNat = P by omega]⟩
      · have h' : i ≤ a := h
        have ip := cl i.toNat (by omega)
        have ei : ((i.toNat : Nat) : Int) = i := by omega
        have e1 : (i + 1).toNat = i.toNat + 1 := by omega
        have ea : ((2 ^ N - 1 : Nat) : Int) = a := by rw [hPP]; omega
        refine hC.call (jj_xBits l _ _) [] rfl rfl rfl rfl rfl rfl trivial (Nat.le_refl _) ?_
        rintro rs w' ⟨rfl, x1, rfl, q1⟩
        repeat' first | refine hC.gw [22] _ rfl rfl ?_ | refine And.intro ?_ ?_ | exact True.intro | refine hC.iadd [22] rfl rfl (by first | omega | (simp only [Int.reduceToNat] at *; omega)) ?_ | refine hC.isub [22] rfl rfl (by first | omega | (simp only [Int.reduceToNat] at *; omega)) ?_ | refine hC.imul [22] rfl rfl (by first | omega | (simp only [Int.reduceToNat] at *; omega)) ?_ | refine hC.iinc [22] rfl rfl rfl rfl (by first | omega | (simp only [Int.reduceToNat] at *; omega)) ?_ | refine hC.pfw (W := cx_H) [22] rfl rfl rfl rfl rfl rfl ?_ ?_ | refine hC.iaw (W := cx_H) [22] rfl rfl rfl rfl ?_ ?_ | refine hC.law (W := cx_H) [22] rfl rfl rfl rfl ?_ ?_ | refine hC.cpw (W := cx_H) [22] rfl rfl rfl rfl rfl rfl ?_ | refine hC.cpl (W := cx_H) [22] rfl rfl rfl rfl rfl rfl ?_ | refine hC.go [22] _ rfl rfl ?_ | (intro h; first | exact (h rfl).elim | (exfalso; cases h; done) | (dsimp only [kk_cP, kk_cN] at h) | skip)
        refine hC.call (jj_xBits l _ _) [] rfl rfl rfl rfl rfl rfl trivial (Nat.le_refl _) ?_
        rintro rs w' ⟨rfl, x2, rfl, q2⟩
        have q1 : x1 = pcn i.toNat := by rw [q1]; exact bcv_pcn (by omega) (by omega)
        have q2 : x2 = pcn (cb (A 4) N i.toNat) := by rw [q2, g3]; exact bcv_pcn0 _ (by omega)
        repeat' first | refine hC.gw [22] _ rfl rfl ?_ | refine And.intro ?_ ?_ | exact True.intro | refine hC.iadd [22] rfl rfl (by first | omega | (simp only [Int.reduceToNat] at *; omega)) ?_ | refine hC.isub [22] rfl rfl (by first | omega | (simp only [Int.reduceToNat] at *; omega)) ?_ | refine hC.imul [22] rfl rfl (by first | omega | (simp only [Int.reduceToNat] at *; omega)) ?_ | refine hC.iinc [22] rfl rfl rfl rfl (by first | omega | (simp only [Int.reduceToNat] at *; omega)) ?_ | refine hC.pfw (W := cx_H) [22] rfl rfl rfl rfl rfl rfl ?_ ?_ | refine hC.iaw (W := cx_H) [22] rfl rfl rfl rfl ?_ ?_ | refine hC.law (W := cx_H) [22] rfl rfl rfl rfl ?_ ?_ | refine hC.cpw (W := cx_H) [22] rfl rfl rfl rfl rfl rfl ?_ | refine hC.cpl (W := cx_H) [22] rfl rfl rfl rfl rfl rfl ?_ | refine hC.go [22] _ rfl rfl ?_ | (intro h; first | exact (h rfl).elim | (exfalso; cases h; done) | (dsimp only [kk_cP, kk_cN] at h) | skip)
        all_goals first | omega | skip
        · have h4 : x2 ≤ x1 := h
          exact hC.sub [(0, (4, 0)), (1, (0, _)), (2, (0, _)), (3, (0, _)), (4, (0, _))] ⟨rfl, rfl, rfl, rfl, rfl, trivial⟩ (ih _ _ _ _ (by omega) (by omega) g1 g2 (by rw [g3, e1, cb_no (fun q => absurd q.1 (by omega))]))
        · have h4 : x1 < x2 := h
          refine hC.same (hh_xMustBy l _ _ _ _ hc) rfl rfl rfl rfl (Nat.le_refl _) ?_
          rintro rs w' ⟨rfl, xw, rfl, q3⟩
          rw [hT] at q3
          repeat' first | refine hC.gw [22] _ rfl rfl ?_ | refine And.intro ?_ ?_ | exact True.intro | refine hC.iadd [22] rfl rfl (by first | omega | (simp only [Int.reduceToNat] at *; omega)) ?_ | refine hC.isub [22] rfl rfl (by first | omega | (simp only [Int.reduceToNat] at *; omega)) ?_ | refine hC.imul [22] rfl rfl (by first | omega | (simp only [Int.reduceToNat] at *; omega)) ?_ | refine hC.iinc [22] rfl rfl rfl rfl (by first | omega | (simp only [Int.reduceToNat] at *; omega)) ?_ | refine hC.pfw (W := cx_H) [22] rfl rfl rfl rfl rfl rfl ?_ ?_ | refine hC.iaw (W := cx_H) [22] rfl rfl rfl rfl ?_ ?_ | refine hC.law (W := cx_H) [22] rfl rfl rfl rfl ?_ ?_ | refine hC.cpw (W := cx_H) [22] rfl rfl rfl rfl rfl rfl ?_ | refine hC.cpl (W := cx_H) [22] rfl rfl rfl rfl rfl rfl ?_ | refine hC.go [22] _ rfl rfl ?_ | (intro h; first | exact (h rfl).elim | (exfalso; cases h; done) | (dsimp only [kk_cP, kk_cN] at h) | skip)
          all_goals first | omega | skip
          · have h5 : xw ≠ b := h
            exact hC.sub [(0, (4, 0)), (1, (0, _)), (2, (0, _)), (3, (0, _)), (4, (0, _))] ⟨rfl, rfl, rfl, rfl, rfl, trivial⟩ (ih _ _ _ _ (by omega) (by omega) g1 g2 (by rw [g3, e1, cb_no (fun q => h5 (by have q4 : mb (A 4) ((i.toNat : Nat) : Int) N = mb (A 4) ((2 ^ N - 1 : Nat) : Int) N := q.2; rw [ei, ea] at q4; rw [q3, g2]; exact q4))]))
          · have h5 : xw = b := h
            exact hC.sub [(0, (4, 0)), (1, (0, _)), (2, (0, _)), (3, (0, _)), (4, (0, _))] ⟨rfl, rfl, rfl, rfl, rfl, trivial⟩ (ih _ _ _ _ (by omega) (by omega) g1 g2 (by rw [e1, cb_ye ⟨by omega, (show mb (A 4) ((i.toNat : Nat) : Int) N = mb (A 4) ((2 ^ N - 1 : Nat) : Int) N by rw [ei, ea, ← q3, h5, g2])⟩, ei]))
  have k11 : ∀ (a : Int), (a = (P : Int) - 1) → K 11 [(0, (4, 0)), (1, (0, a))] [] (cx_H O A) := by
    intro a ha
    repeat' first | refine hC.gw [22] _ rfl rfl ?_ | refine And.intro ?_ ?_ | exact True.intro | refine hC.iadd [22] rfl rfl (by first | omega | (simp only [Int.reduceToNat] at *; omega)) ?_ | refine hC.isub [22] rfl rfl (by first | omega | (simp only [Int.reduceToNat] at *; omega)) ?_ | refine hC.imul [22] rfl rfl (by first | omega | (simp only [Int.reduceToNat] at *; omega)) ?_ | refine hC.iinc [22] rfl rfl rfl rfl (by first | omega | (simp only [Int.reduceToNat] at *; omega)) ?_ | refine hC.pfw (W := cx_H) [22] rfl rfl rfl rfl rfl rfl ?_ ?_ | refine hC.iaw (W := cx_H) [22] rfl rfl rfl rfl ?_ ?_ | refine hC.law (W := cx_H) [22] rfl rfl rfl rfl ?_ ?_ | refine hC.cpw (W := cx_H) [22] rfl rfl rfl rfl rfl rfl ?_ | refine hC.cpl (W := cx_H) [22] rfl rfl rfl rfl rfl rfl ?_ | refine hC.go [22] _ rfl rfl ?_ | (intro h; first | exact (h rfl).elim | (exfalso; cases h; done) | (dsimp only [kk_cP, kk_cN] at h) | skip)
    refine hC.same (hh_xMustBy l _ _ _ _ hc) rfl rfl rfl rfl (Nat.le_refl _) ?_
    rintro rs w' ⟨rfl, xw, rfl, q3⟩
    rw [hT] at q3
    repeat' first | refine hC.gw [22] _ rfl rfl ?_ | refine And.intro ?_ ?_ | exact True.intro | refine hC.iadd [22] rfl rfl (by first | omega | (simp only [Int.reduceToNat] at *; omega)) ?_ | refine hC.isub [22] rfl rfl (by first | omega | (simp only [Int.reduceToNat] at *; omega)) ?_ | refine hC.imul [22] rfl rfl (by first | omega | (simp only [Int.reduceToNat] at *; omega)) ?_ | refine hC.iinc [22] rfl rfl rfl rfl (by first | omega | (simp only [Int.reduceToNat] at *; omega)) ?_ | refine hC.pfw (W := cx_H) [22] rfl rfl rfl rfl rfl rfl ?_ ?_ | refine hC.iaw (W := cx_H) [22] rfl rfl rfl rfl ?_ ?_ | refine hC.law (W := cx_H) [22] rfl rfl rfl rfl ?_ ?_ | refine hC.cpw (W := cx_H) [22] rfl rfl rfl rfl rfl rfl ?_ | refine hC.cpl (W := cx_H) [22] rfl rfl rfl rfl rfl rfl ?_ | refine hC.go [22] _ rfl rfl ?_ | (intro h; first | exact (h rfl).elim | (exfalso; cases h; done) | (dsimp only [kk_cP, kk_cN] at h) | skip)
    exact hC.sub [(0, (4, 0)), (1, (0, _)), (2, (0, _)), (3, (0, _)), (4, (0, _))] ⟨rfl, rfl, rfl, rfl, rfl, trivial⟩ (k22 _ _ _ _ _ (Nat.lt_succ_self _) (by omega) ha q3 (by show a = ((cb (A 4) N 0 : Nat) : Int); rw [c0, ha]; omega))
  repeat' first | refine hC.gw [11] _ rfl rfl ?_ | refine And.intro ?_ ?_ | exact True.intro | refine hC.iadd [11] rfl rfl (by first | omega | (simp only [Int.reduceToNat] at *; omega)) ?_ | refine hC.isub [11] rfl rfl (by first | omega | (simp only [Int.reduceToNat] at *; omega)) ?_ | refine hC.imul [11] rfl rfl (by first | omega | (simp only [Int.reduceToNat] at *; omega)) ?_ | refine hC.iinc [11] rfl rfl rfl rfl (by first | omega | (simp only [Int.reduceToNat] at *; omega)) ?_ | refine hC.pfw (W := cx_H) [11] rfl rfl rfl rfl rfl rfl ?_ ?_ | refine hC.iaw (W := cx_H) [11] rfl rfl rfl rfl ?_ ?_ | refine hC.law (W := cx_H) [11] rfl rfl rfl rfl ?_ ?_ | refine hC.cpw (W := cx_H) [11] rfl rfl rfl rfl rfl rfl ?_ | refine hC.cpl (W := cx_H) [11] rfl rfl rfl rfl rfl rfl ?_ | refine hC.go [11] _ rfl rfl ?_ | (intro h; first | exact (h rfl).elim | (exfalso; cases h; done) | (dsimp only [kk_cP, kk_cN] at h) | skip)
  all_goals first | omega | exact hC.sub [(0, (4, 0)), (1, (0, _))] ⟨rfl, rfl, trivial⟩ (k11 _ (by omega))
set_option maxRecDepth 100000 in
set_option maxHeartbeats 4000000 in
theorem mm_xMustBy (l : Launch) (d : Nat) (F : Nat → Int) (A : Nat → Nat → Int) (s : Int) (hs : 0 ≤ s ∧ s < 1024) : kk_Ctr l (d + 1) en_t_X11_mustBy [(4, 0), (0, s)] (mm_w F A) (fun rs w' => w' = mm_w F A ∧ ∃ x, rs = [(0, x)] ∧ x = mb (fun c => A 2 (15 + c)) s 10) := by
  refine kk_ctr en_hM (List.mem_of_getElem? (i := 233) rfl) rfl (Nat.le_of_ble_eq_true rfl) (fun K hC => ?_)
  have k4 : ∀ (n : Nat) (i : Int) (x : Int), (11 - i).toNat < n → (0 ≤ i ∧ i ≤ 10) → (x = mb (fun c => A 2 (15 + c)) s i.toNat) → K 4 [(0, (4, 0)), (1, (0, s)), (2, (0, x)), (3, (0, i))] [] (mm_w F A) := by
    intro n
    induction n with
    | zero => intro i x hz; exact absurd hz (Nat.not_lt_zero _)
    | succ n ih =>
      intro i x hn h0 g2
      refine hC.go [] _ rfl rfl ?_
      repeat' first | refine hC.gn [4] _ rfl rfl ?_ | refine And.intro ?_ ?_ | exact True.intro | refine hC.iadd [4] rfl rfl (by first | omega | (simp only [Int.reduceToNat] at *; omega)) ?_ | refine hC.isub [4] rfl rfl (by first | omega | (simp only [Int.reduceToNat] at *; omega)) ?_ | refine hC.imul [4] rfl rfl (by first | omega | (simp only [Int.reduceToNat] at *; omega)) ?_ | refine hC.iinc [4] rfl rfl rfl rfl (by first | omega | (simp only [Int.reduceToNat] at *; omega)) ?_ | refine hC.go [4] _ rfl rfl ?_ | (intro h; first | exact (h rfl).elim | (exfalso; cases h; done) | (dsimp only [kk_cP, kk_cN] at h) | skip) | (refine hC.call (mm_xHas l _ _ _) [] rfl rfl rfl rfl rfl rfl trivial (Nat.le_refl _) ?_; rintro rs w' ⟨rfl, ⟨rfl, hb⟩ | ⟨rfl, hb⟩⟩)
      all_goals first | rfl | omega | skip
      all_goals (have ei : ((i.toNat : Nat) : Int) = i := by omega)
      all_goals (have e1 : (i + 1).toNat = i.toNat + 1 := by omega)
      all_goals (have t1 : (15 + i).toNat = 15 + i.toNat := by omega)
      · have h' : 10 ≤ i := h
        exact ⟨_, rfl, by rw [g2, show i.toNat = 10 by omega]⟩
      · have h' : i < 10 := by assumption
        have hb' := (st_bit hs ⟨h0.1, h'⟩).mp hb
        exact hC.sub [(0, (4, 0)), (1, (0, _)), (2, (0, _)), (3, (0, _))] ⟨rfl, rfl, rfl, rfl, trivial⟩ (ih _ _ (by omega) (by omega) (by rw [e1, mb_ye (by rw [ei]; exact hb'), g2, t1]))
      · have h' : i < 10 := by assumption
        exact hC.sub [(0, (4, 0)), (1, (0, _)), (2, (0, _)), (3, (0, _))] ⟨rfl, rfl, rfl, rfl, trivial⟩ (ih _ _ (by omega) (by omega) (by rw [e1, mb_no (by rw [ei]; exact fun q => hb ((st_bit hs ⟨h0.1, h'⟩).mpr q)), g2]))
  repeat' first | refine hC.gn [4] _ rfl rfl ?_ | refine And.intro ?_ ?_ | exact True.intro | refine hC.iadd [4] rfl rfl (by first | omega | (simp only [Int.reduceToNat] at *; omega)) ?_ | refine hC.isub [4] rfl rfl (by first | omega | (simp only [Int.reduceToNat] at *; omega)) ?_ | refine hC.imul [4] rfl rfl (by first | omega | (simp only [Int.reduceToNat] at *; omega)) ?_ | refine hC.iinc [4] rfl rfl rfl rfl (by first | omega | (simp only [Int.reduceToNat] at *; omega)) ?_ | refine hC.go [4] _ rfl rfl ?_ | (intro h; first | exact (h rfl).elim | (exfalso; cases h; done) | (dsimp only [kk_cP, kk_cN] at h) | skip)
  exact hC.sub [(0, (4, 0)), (1, (0, _)), (2, (0, _)), (3, (0, _))] ⟨rfl, rfl, rfl, rfl, trivial⟩ (k4 _ _ _ (Nat.lt_succ_self _) (by omega) rfl)
