/-! FITS, WATCH: what they answer; the class -/
/-- of pairs, the deeds of the first k that were told done (q), or not done -/
def dn (a : Nat → Int) (q : Bool) : Nat → Int
  | 0 => 0
  | k + 1 => if decide (a (2 * k + 1) = 1) = q then kk_i2 4 (dn a q k) (kk_i2 6 1 (a (2 * k))) else dn a q k
/-- the chapters, of the first k, that bar none of D and ask for none of E -/
def fc (m b : Nat → Int) (D E : Int) : Nat → Int
  | 0 => 0
  | k + 1 => if kk_i2 3 (b k) D = 0 ∧ kk_i2 3 (m k) E = 0 then kk_i2 4 (fc m b D E k) (kk_i2 6 1 (k : Int)) else fc m b D E k
abbrev ft_ok (n0 t : Int) (a : Nat → Int) : Prop := (2 ≤ t ∧ t ≤ 16) ∧ t % 2 = 0 ∧ ∀ k : Nat, k < (t / 2).toNat → (0 ≤ a (2 * k) ∧ a (2 * k) < n0) ∧ a (2 * k + 1) ≤ 1
def ft_v (n0 n2 : Int) (m b a : Nat → Int) (t : Int) : Int := if ft_ok n0 t a then fc m b (dn a true (t / 2).toNat) (dn a false (t / 2).toNat) n2.toNat else -1
theorem dn_y {a : Nat → Int} {q : Bool} {k : Nat} (h : decide (a (2 * k + 1) = 1) = q) : dn a q (k + 1) = kk_i2 4 (dn a q k) (kk_i2 6 1 (a (2 * k))) := if_pos h
theorem dn_n {a : Nat → Int} {q : Bool} {k : Nat} (h : ¬ decide (a (2 * k + 1) = 1) = q) : dn a q (k + 1) = dn a q k := if_neg h
theorem dn_eq {a a' : Nat → Int} {q : Bool} : ∀ {k : Nat}, (∀ j, j < 2 * k → a j = a' j) → dn a q k = dn a' q k
  | 0, _ => rfl
  | k + 1, h => by
    unfold dn
    rw [dn_eq (k := k) (fun j hj => h j (by omega)), h (2 * k) (by omega), h (2 * k + 1) (by omega)]
theorem fc_y {m b : Nat → Int} {D E : Int} {k : Nat} (h : kk_i2 3 (b k) D = 0 ∧ kk_i2 3 (m k) E = 0) : fc m b D E (k + 1) = kk_i2 4 (fc m b D E k) (kk_i2 6 1 (k : Int)) := if_pos h
theorem fc_n {m b : Nat → Int} {D E : Int} {k : Nat} (h : ¬ (kk_i2 3 (b k) D = 0 ∧ kk_i2 3 (m k) E = 0)) : fc m b D E (k + 1) = fc m b D E k := if_neg h
theorem fc_eq {m b m' b' : Nat → Int} {D E : Int} : ∀ {k : Nat}, (∀ j, j < k → m j = m' j ∧ b j = b' j) → fc m b D E k = fc m' b' D E k
  | 0, _ => rfl
  | k + 1, h => by
    unfold fc
    rw [fc_eq (k := k) (fun j hj => h j (by omega)), (h k (by omega)).1, (h k (by omega)).2]
-- a set of the first k chapters
theorem st_or : ∀ k : Nat, k < 10 → ∀ s : Nat, s < 2 ^ k → 0 ≤ kk_i2 4 (s : Int) (kk_i2 6 1 (k : Int)) ∧ kk_i2 4 (s : Int) (kk_i2 6 1 (k : Int)) < ((2 ^ (k + 1) : Nat) : Int) := by decide +kernel
theorem fc_r {m b : Nat → Int} {D E : Int} : ∀ {k : Nat}, k ≤ 10 → 0 ≤ fc m b D E k ∧ fc m b D E k < ((2 ^ k : Nat) : Int)
  | 0, _ => by show (0 : Int) ≤ 0 ∧ (0 : Int) < ((2 ^ 0 : Nat) : Int); decide
  | k + 1, hk => by
    have ih := fc_r (m := m) (b := b) (D := D) (E := E) (k := k) (by omega)
    by_cases h : kk_i2 3 (b k) D = 0 ∧ kk_i2 3 (m k) E = 0
    · rw [fc_y h]
      have q := st_or k (by omega) (fc m b D E k).toNat (by omega)
      rw [show (((fc m b D E k).toNat : Nat) : Int) = fc m b D E k by omega] at q
      exact q
    · rw [fc_n h]
      have : 2 ^ (k + 1) = 2 * 2 ^ k := by rw [Nat.pow_succ, Nat.mul_comm]
      omega
theorem ft_ok.eq {n0 t : Int} {a a' : Nat → Int} (h : ft_ok n0 t a) (e : ∀ j : Nat, (j : Int) < t → a j = a' j) : ft_ok n0 t a' := by
  obtain ⟨h1, h2, h3⟩ := h
  refine ⟨h1, h2, fun k hk => ?_⟩
  rw [← e (2 * k) (by omega), ← e (2 * k + 1) (by omega)]
  exact h3 k hk
theorem ft_eq {n0 n2 t : Int} {m b a m' b' a' : Nat → Int} (h2 : n2 ≤ 10) (hm : ∀ j, j < 10 → m j = m' j ∧ b j = b' j) (e : ∀ j : Nat, (j : Int) < t → a j = a' j) : ft_v n0 n2 m b a t = ft_v n0 n2 m' b' a' t := by
  unfold ft_v
  by_cases h : ft_ok n0 t a
  · have h' := h.eq e
    rw [if_pos h, if_pos h', dn_eq (a := a) (a' := a') (q := true) (fun j hj => e j (by omega)), dn_eq (a := a) (a' := a') (q := false) (fun j hj => e j (by omega))]
    exact fc_eq (fun j hj => hm j (by omega))
  · rw [if_neg h, if_neg (fun g => h (ft_ok.eq g (fun j hj => (e j hj).symm)))]
theorem ft_r {n0 n2 t : Int} {m b a : Nat → Int} (h0 : 0 ≤ n2) (h2 : n2 ≤ 10) : -1 ≤ ft_v n0 n2 m b a t ∧ ft_v n0 n2 m b a t < ((2 ^ n2.toNat : Nat) : Int) := by
  unfold ft_v
  have hp : 1 ≤ 2 ^ n2.toNat := Nat.one_le_two_pow
  by_cases h : ft_ok n0 t a
  · rw [if_pos h]
    have q := fc_r (m := m) (b := b) (D := dn a true (t / 2).toNat) (E := dn a false (t / 2).toNat) (k := n2.toNat) (by omega)
    omega
  · rw [if_neg h]; omega
-- numbers of chapters of a set
theorem kk_and1 (x : Int) : 0 ≤ kk_i2 3 x 1 ∧ kk_i2 3 x 1 ≤ 1 := by
  show 0 ≤ (Int32.ofInt x &&& Int32.ofInt 1).toInt ∧ (Int32.ofInt x &&& Int32.ofInt 1).toInt ≤ 1
  generalize Int32.ofInt x = y
  have e : (y &&& Int32.ofInt 1).toInt = (y.toBitVec &&& 1#32).toInt := rfl
  have h : (y.toBitVec &&& 1#32).toNat ≤ 1 := by rw [BitVec.toNat_and]; exact Nat.and_le_right
  rw [e, BitVec.toInt_eq_toNat_cond]
  split <;> omega
def bn (m : Nat → Int) (e : Int) (j : Nat) : Int := kk_i2 3 (kk_i2 8 (m j) e) 1
def sm (s : Int) (g : Nat → Int) : Nat → Int
  | 0 => 0
  | k + 1 => if kk_i2 3 (kk_i2 8 s (k : Int)) 1 ≠ 0 then sm s g k + g k else sm s g k
theorem sm_y {s : Int} {g : Nat → Int} {k : Nat} (h : kk_i2 3 (kk_i2 8 s (k : Int)) 1 ≠ 0) : sm s g (k + 1) = sm s g k + g k := if_pos h
theorem sm_n {s : Int} {g : Nat → Int} {k : Nat} (h : ¬ kk_i2 3 (kk_i2 8 s (k : Int)) 1 ≠ 0) : sm s g (k + 1) = sm s g k := if_neg h
theorem sm_hi {g : Nat → Int} {n s : Nat} (hs : s < 2 ^ n) (hs2 : s < 1024) : ∀ k : Nat, n + k ≤ 10 → sm (s : Int) g (n + k) = sm (s : Int) g n
  | 0, _ => rfl
  | k + 1, h => by
    have q := (st_bit0 s hs2 (n + k) (by omega)).1
    have e : s / 2 ^ (n + k) = 0 := Nat.div_eq_of_lt (Nat.lt_of_lt_of_le hs (Nat.pow_le_pow_right (by decide) (by omega)))
    rw [e] at q
    show sm (s : Int) g ((n + k) + 1) = _
    rw [sm_n (fun g => absurd (q.mp g) (by decide))]
    exact sm_hi hs hs2 k (by omega)
theorem sm_eq {s : Int} {g g' : Nat → Int} : ∀ {k : Nat}, (∀ j, j < k → g j = g' j) → sm s g k = sm s g' k
  | 0, _ => rfl
  | k + 1, h => by
    unfold sm
    rw [sm_eq (k := k) (fun j hj => h j (by omega)), h k (by omega)]
theorem sm_pc0 : ∀ s : Nat, s < 1024 → sm (s : Int) (fun _ => 1) 10 = pcn s := by decide +kernel
/-- of how many chapters of a set the greatest number may still be left, if one sees the deed e -/
def ml (m b : Nat → Int) (s e : Int) (n : Nat) : Int := max (pcn s.toNat - sm s (bn m e) n - sm s (bn b e) n) (max (sm s (bn m e) n) (sm s (bn b e) n))
theorem ml_eq {m b m' b' : Nat → Int} {s e : Int} {n : Nat} (h : ∀ j, j < n → m j = m' j ∧ b j = b' j) : ml m b s e n = ml m' b' s e n := by
  unfold ml
  rw [sm_eq (g := bn m e) (g' := bn m' e) (fun j hj => by unfold bn; rw [(h j hj).1]), sm_eq (g := bn b e) (g' := bn b' e) (fun j hj => by unfold bn; rw [(h j hj).2])]
theorem sm_b {s e : Int} {m : Nat → Int} : ∀ {k : Nat}, 0 ≤ sm s (bn m e) k ∧ sm s (bn m e) k ≤ (k : Int)
  | 0 => by show (0 : Int) ≤ 0 ∧ (0 : Int) ≤ ((0 : Nat) : Int); decide
  | k + 1 => by
    have ih := sm_b (s := s) (e := e) (m := m) (k := k)
    have q : 0 ≤ bn m e k ∧ bn m e k ≤ 1 := kk_and1 _
    by_cases h : kk_i2 3 (kk_i2 8 s (k : Int)) 1 ≠ 0
    · rw [sm_y h]; omega
    · rw [sm_n h]; omega
theorem ml_10 {m b : Nat → Int} {s e : Int} {n : Nat} (hn : n ≤ 10) : ml m b s e n ≤ 10 := by
  unfold ml
  have h1 := pcn_b s.toNat
  have h2 := sm_b (s := s) (e := e) (m := m) (k := n)
  have h3 := sm_b (s := s) (e := e) (m := b) (k := n)
  omega
/-- the first of k with the least -/
def wr (f : Nat → Int) : Nat → Nat
  | 0 => 0
  | k + 1 => if f k < f (wr f k) then k else wr f k
theorem wr_y {f : Nat → Int} {k : Nat} (h : f k < f (wr f k)) : wr f (k + 1) = k := if_pos h
theorem wr_n {f : Nat → Int} {k : Nat} (h : ¬ f k < f (wr f k)) : wr f (k + 1) = wr f k := if_neg h
theorem wr_eq {f g : Nat → Int} (h : ∀ j, f j = g j) (k : Nat) : wr f k = wr g k := by rw [show f = g from funext h]
theorem wr_le {f : Nat → Int} : ∀ {k : Nat}, wr f k ≤ k
  | 0 => Nat.le_refl _
  | k + 1 => by
    by_cases h : f k < f (wr f k)
    · rw [wr_y h]; omega
    · rw [wr_n h]; have := wr_le (f := f) (k := k); omega
theorem wr_1 {f : Nat → Int} : wr f 1 = 0 := wr_n (by show ¬ f 0 < f 0; omega)
section HT
variable (l : Launch) (d : Nat) (O A : Nat → Nat → Int)
set_option maxRecDepth 100000 in
set_option maxHeartbeats 4000000 in
theorem hh_xTells (hc : hh_c A) : kk_Ctr l (d + 1) en_t_X2_tellsDeeds [(4, 0), (4, 7)] (cx_HT O A) (fun rs w' => w' = cx_HT O A ∧ ((rs = [(0, 1)] ∧ ft_ok (A 1 0) (O 7 1) (A 8)) ∨ (rs = [(0, 0)] ∧ ¬ ft_ok (A 1 0) (O 7 1) (A 8)))) := by
  have hc' : hh_c (cc_in [0, 1, 2, 3, 4, 5, 6] A) := hc
  refine kk_ctr en_hM (List.mem_of_getElem? (i := 65) rfl) rfl (Nat.le_of_ble_eq_true rfl) (fun K hC => ?_)
  have k26 : ∀ (n : Nat) (i : Int) (j : Nat), (20 - i).toNat < n → (i = 2 * (j : Int) ∧ 2 ≤ O 7 1 ∧ O 7 1 ≤ 16 ∧ (O 7 1) % 2 = 0) → (i ≤ O 7 1) → (∀ k : Nat, k < j → (0 ≤ A 8 (2 * k) ∧ A 8 (2 * k) < A 1 0) ∧ A 8 (2 * k + 1) ≤ 1) → K 26 [(0, (4, 0)), (1, (4, 7)), (2, (0, i))] [] (cx_HT O A) := by
    intro n
    induction n with
    | zero => intro i j hz; exact absurd hz (Nat.not_lt_zero _)
    | succ n ih =>
      intro i j hn g0 g1 g2
      refine hC.go [] _ rfl rfl ?_
      repeat' first | refine hC.gw [26] _ rfl rfl ?_ | refine And.intro ?_ ?_ | exact True.intro | refine hC.iadd [26] rfl rfl (by first | omega | (simp only [Int.reduceToNat] at *; omega)) ?_ | refine hC.isub [26] rfl rfl (by first | omega | (simp only [Int.reduceToNat] at *; omega)) ?_ | refine hC.imul [26] rfl rfl (by first | omega | (simp only [Int.reduceToNat] at *; omega)) ?_ | refine hC.iinc [26] rfl rfl rfl rfl (by first | omega | (simp only [Int.reduceToNat] at *; omega)) ?_ | refine hC.pfw (W := cx_HT) [26] rfl rfl rfl rfl rfl rfl ?_ ?_ | refine hC.iaw (W := cx_HT) [26] rfl rfl rfl rfl ?_ ?_ | refine hC.law (W := cx_HT) [26] rfl rfl rfl rfl ?_ ?_ | refine hC.cpw (W := cx_HT) [26] rfl rfl rfl rfl rfl rfl ?_ | refine hC.cpl (W := cx_HT) [26] rfl rfl rfl rfl rfl rfl ?_ | refine hC.go [26] _ rfl rfl ?_ | (intro h; first | exact (h rfl).elim | (exfalso; cases h; done) | (dsimp only [kk_cP, kk_cN] at h) | skip)
      all_goals first | rfl | omega | skip
      · have h' : O 7 1 ≤ i := h
        exact Or.inl ⟨rfl, ⟨g0.2.1, g0.2.2.1⟩, g0.2.2.2, fun k hk => g2 k (by omega)⟩
      · have h' : i < O 7 1 := h
        have ev : tt_v 940 (O 7 1) (A 8) i = A 8 (2 * j) := by unfold tt_v; rw [if_pos ⟨by omega, by omega, by omega⟩, show i.toNat = 2 * j by omega]
        have ev1 : tt_v 940 (O 7 1) (A 8) (i + 1) = A 8 (2 * j + 1) := by unfold tt_v; rw [if_pos ⟨by omega, by omega, by omega⟩, show (i + 1).toNat = 2 * j + 1 by omega]
        refine hC.rd ce_HT_T (tt_at l _ _ _ _) rfl rfl rfl rfl rfl rfl (Nat.le_refl _) ?_
        rintro rs hrs
        have hrs : rs = [(0, A 8 (2 * j))] := hrs.trans (congrArg (fun v => [((0 : Nat), v)]) ev)
        subst hrs
        repeat' first | refine hC.gw [26] _ rfl rfl ?_ | refine And.intro ?_ ?_ | exact True.intro | refine hC.iadd [26] rfl rfl (by first | omega | (simp only [Int.reduceToNat] at *; omega)) ?_ | refine hC.isub [26] rfl rfl (by first | omega | (simp only [Int.reduceToNat] at *; omega)) ?_ | refine hC.imul [26] rfl rfl (by first | omega | (simp only [Int.reduceToNat] at *; omega)) ?_ | refine hC.iinc [26] rfl rfl rfl rfl (by first | omega | (simp only [Int.reduceToNat] at *; omega)) ?_ | refine hC.pfw (W := cx_HT) [26] rfl rfl rfl rfl rfl rfl ?_ ?_ | refine hC.iaw (W := cx_HT) [26] rfl rfl rfl rfl ?_ ?_ | refine hC.law (W := cx_HT) [26] rfl rfl rfl rfl ?_ ?_ | refine hC.cpw (W := cx_HT) [26] rfl rfl rfl rfl rfl rfl ?_ | refine hC.cpl (W := cx_HT) [26] rfl rfl rfl rfl rfl rfl ?_ | refine hC.go [26] _ rfl rfl ?_ | (intro h; first | exact (h rfl).elim | (exfalso; cases h; done) | (dsimp only [kk_cP, kk_cN] at h) | skip)
        refine hC.rd ce_HT_H (hh_has l _ _ _ _ _ hc' (by omega) (by omega)) rfl rfl rfl rfl rfl rfl (Nat.le_refl _) ?_
        rintro rs (⟨rfl, q1, q2⟩ | ⟨rfl, q1⟩)
        · have q2 : A 8 (2 * j) < A 1 0 := q2
          repeat' first | refine hC.gw [26] _ rfl rfl ?_ | refine And.intro ?_ ?_ | exact True.intro | refine hC.iadd [26] rfl rfl (by first | omega | (simp only [Int.reduceToNat] at *; omega)) ?_ | refine hC.isub [26] rfl rfl (by first | omega | (simp only [Int.reduceToNat] at *; omega)) ?_ | refine hC.imul [26] rfl rfl (by first | omega | (simp only [Int.reduceToNat] at *; omega)) ?_ | refine hC.iinc [26] rfl rfl rfl rfl (by first | omega | (simp only [Int.reduceToNat] at *; omega)) ?_ | refine hC.pfw (W := cx_HT) [26] rfl rfl rfl rfl rfl rfl ?_ ?_ | refine hC.iaw (W := cx_HT) [26] rfl rfl rfl rfl ?_ ?_ | refine hC.law (W := cx_HT) [26] rfl rfl rfl rfl ?_ ?_ | refine hC.cpw (W := cx_HT) [26] rfl rfl rfl rfl rfl rfl ?_ | refine hC.cpl (W := cx_HT) [26] rfl rfl rfl rfl rfl rfl ?_ | refine hC.go [26] _ rfl rfl ?_ | (intro h; first | exact (h rfl).elim | (exfalso; cases h; done) | (dsimp only [kk_cP, kk_cN] at h) | skip)
          refine hC.rd ce_HT_T (tt_at l _ _ _ _) rfl rfl rfl rfl rfl rfl (Nat.le_refl _) ?_
          rintro rs hrs
          have hrs : rs = [(0, A 8 (2 * j + 1))] := hrs.trans (congrArg (fun v => [((0 : Nat), v)]) ev1)
          subst hrs
          repeat' first | refine hC.gw [26] _ rfl rfl ?_ | refine And.intro ?_ ?_ | exact True.intro | refine hC.iadd [26] rfl rfl (by first | omega | (simp only [Int.reduceToNat] at *; omega)) ?_ | refine hC.isub [26] rfl rfl (by first | omega | (simp only [Int.reduceToNat] at *; omega)) ?_ | refine hC.imul [26] rfl rfl (by first | omega | (simp only [Int.reduceToNat] at *; omega)) ?_ | refine hC.iinc [26] rfl rfl rfl rfl (by first | omega | (simp only [Int.reduceToNat] at *; omega)) ?_ | refine hC.pfw (W := cx_HT) [26] rfl rfl rfl rfl rfl rfl ?_ ?_ | refine hC.iaw (W := cx_HT) [26] rfl rfl rfl rfl ?_ ?_ | refine hC.law (W := cx_HT) [26] rfl rfl rfl rfl ?_ ?_ | refine hC.cpw (W := cx_HT) [26] rfl rfl rfl rfl rfl rfl ?_ | refine hC.cpl (W := cx_HT) [26] rfl rfl rfl rfl rfl rfl ?_ | refine hC.go [26] _ rfl rfl ?_ | (intro h; first | exact (h rfl).elim | (exfalso; cases h; done) | (dsimp only [kk_cP, kk_cN] at h) | skip)
          all_goals first | rfl | omega | skip
          · have h3 : A 8 (2 * j + 1) ≤ 1 := h
            refine hC.sub [(0, (4, 0)), (1, (4, 7)), (2, (0, _))] ⟨rfl, rfl, rfl, trivial⟩ (ih _ (j + 1) (by omega) (by omega) (by omega) (fun k hk => ?_))
            by_cases e : k = j
            · rw [e]; exact ⟨⟨q1, q2⟩, h3⟩
            · exact g2 k (by omega)
          · have h3 : 1 < A 8 (2 * j + 1) := h
            exact Or.inr ⟨rfl, fun q => absurd (q.2.2 j (by omega)).2 (by omega)⟩
        · have q1 : ¬ (0 ≤ A 8 (2 * j) ∧ A 8 (2 * j) < A 1 0) := q1
          repeat' first | refine hC.gw [26] _ rfl rfl ?_ | refine And.intro ?_ ?_ | exact True.intro | refine hC.iadd [26] rfl rfl (by first | omega | (simp only [Int.reduceToNat] at *; omega)) ?_ | refine hC.isub [26] rfl rfl (by first | omega | (simp only [Int.reduceToNat] at *; omega)) ?_ | refine hC.imul [26] rfl rfl (by first | omega | (simp only [Int.reduceToNat] at *; omega)) ?_ | refine hC.iinc [26] rfl rfl rfl rfl (by first | omega | (simp only [Int.reduceToNat] at *; omega)) ?_ | refine hC.pfw (W := cx_HT) [26] rfl rfl rfl rfl rfl rfl ?_ ?_ | refine hC.iaw (W := cx_HT) [26] rfl rfl rfl rfl ?_ ?_ | refine hC.law (W := cx_HT) [26] rfl rfl rfl rfl ?_ ?_ | refine hC.cpw (W := cx_HT) [26] rfl rfl rfl rfl rfl rfl ?_ | refine hC.cpl (W := cx_HT) [26] rfl rfl rfl rfl rfl rfl ?_ | refine hC.go [26] _ rfl rfl ?_ | (intro h; first | exact (h rfl).elim | (exfalso; cases h; done) | (dsimp only [kk_cP, kk_cN] at h) | skip)
          all_goals first | rfl | omega | skip
          exact Or.inr ⟨rfl, fun q => q1 (q.2.2 j (by omega)).1⟩
  repeat' first | refine hC.gw [26] _ rfl rfl ?_ | refine And.intro ?_ ?_ | exact True.intro | refine hC.iadd [26] rfl rfl (by first | omega | (simp only [Int.reduceToNat] at *; omega)) ?_ | refine hC.isub [26] rfl rfl (by first | omega | (simp only [Int.reduceToNat] at *; omega)) ?_ | refine hC.imul [26] rfl rfl (by first | omega | (simp only [Int.reduceToNat] at *; omega)) ?_ | refine hC.iinc [26] rfl rfl rfl rfl (by first | omega | (simp only [Int.reduceToNat] at *; omega)) ?_ | refine hC.pfw (W := cx_HT) [26] rfl rfl rfl rfl rfl rfl ?_ ?_ | refine hC.iaw (W := cx_HT) [26] rfl rfl rfl rfl ?_ ?_ | refine hC.law (W := cx_HT) [26] rfl rfl rfl rfl ?_ ?_ | refine hC.cpw (W := cx_HT) [26] rfl rfl rfl rfl rfl rfl ?_ | refine hC.cpl (W := cx_HT) [26] rfl rfl rfl rfl rfl rfl ?_ | refine hC.go [26] _ rfl rfl ?_ | (intro h; first | exact (h rfl).elim | (exfalso; cases h; done) | (dsimp only [kk_cP, kk_cN] at h) | skip) | (refine hC.call (xx_isWithin l _ _ _ _) [] rfl rfl rfl rfl rfl rfl trivial (Nat.le_refl _) ?_; rintro rs w' ⟨rfl, ⟨rfl, w1, w2⟩ | ⟨rfl, w1⟩⟩)
  all_goals first | rfl | omega | skip
  · have w1' : 2 ≤ O 7 1 := w1
    have w2' : O 7 1 ≤ 16 := w2
    have h3 : kk_i2 10 (O 7 1) 2 = 0 := h
    rw [kk_irem ⟨by omega, by omega⟩ ⟨by decide, by decide⟩, Int.tmod_eq_emod_of_nonneg (by omega)] at h3
    exact hC.sub [(0, (4, 0)), (1, (4, 7)), (2, (0, _))] ⟨rfl, rfl, rfl, trivial⟩ (k26 _ _ 0 (Nat.lt_succ_self _) (by omega) (by omega) (fun k hk => absurd hk (by omega)))
  · have w1' : 2 ≤ O 7 1 := w1
    have w2' : O 7 1 ≤ 16 := w2
    have h3 : kk_i2 10 (O 7 1) 2 ≠ 0 := h
    rw [kk_irem ⟨by omega, by omega⟩ ⟨by decide, by decide⟩, Int.tmod_eq_emod_of_nonneg (by omega)] at h3
    exact Or.inr ⟨rfl, fun q => h3 q.2.1⟩
  · have w1' : ¬ (2 ≤ O 7 1 ∧ O 7 1 ≤ 16) := w1
    exact Or.inr ⟨rfl, fun q => w1' q.1⟩
set_option maxRecDepth 100000 in
set_option maxHeartbeats 4000000 in
theorem hh_xFit (hc : hh_c A) (hf : ft_ok (A 1 0) (O 7 1) (A 8)) : kk_Ctr l (d + 1) en_t_X2_chaptersThatFit [(4, 0), (4, 7)] (cx_HT O A) (fun rs w' => w' = cx_HT O A ∧ ∃ x, rs = [(0, x)] ∧ x = fc (A 4) (A 5) (dn (A 8) true (O 7 1 / 2).toNat) (dn (A 8) false (O 7 1 / 2).toNat) (A 1 2).toNat) := by
  have h2 := hc.2.2
  obtain ⟨⟨t2, t16⟩, te, -⟩ := hf
  refine kk_ctr en_hM (List.mem_of_getElem? (i := 66) rfl) rfl (Nat.le_of_ble_eq_true rfl) (fun K hC => ?_)
  have k65 : ∀ (n : Nat) (i : Int) (D : Int) (E : Int) (c : Int), (11 - i).toNat < n → (0 ≤ i ∧ i ≤ 10) → (i ≤ A 1 2) → (c = fc (A 4) (A 5) D E i.toNat) → (D = dn (A 8) true (O 7 1 / 2).toNat ∧ E = dn (A 8) false (O 7 1 / 2).toNat) → K 65 [(0, (4, 0)), (1, (4, 7)), (2, (0, D)), (3, (0, E)), (4, (0, c)), (5, (0, i))] [] (cx_HT O A) := by
    intro n
    induction n with
    | zero => intro i D E c hz; exact absurd hz (Nat.not_lt_zero _)
    | succ n ih =>
      intro i D E c hn g0 g1 g2 g3
      have ei : ((i.toNat : Nat) : Int) = i := by omega
      have e1 : (i + 1).toNat = i.toNat + 1 := by omega
      refine hC.go [] _ rfl rfl ?_
      repeat' first | refine hC.gw [65] _ rfl rfl ?_ | refine And.intro ?_ ?_ | exact True.intro | refine hC.iadd [65] rfl rfl (by first | omega | (simp only [Int.reduceToNat] at *; omega)) ?_ | refine hC.isub [65] rfl rfl (by first | omega | (simp only [Int.reduceToNat] at *; omega)) ?_ | refine hC.imul [65] rfl rfl (by first | omega | (simp only [Int.reduceToNat] at *; omega)) ?_ | refine hC.iinc [65] rfl rfl rfl rfl (by first | omega | (simp only [Int.reduceToNat] at *; omega)) ?_ | refine hC.pfw (W := cx_HT) [65] rfl rfl rfl rfl rfl rfl ?_ ?_ | refine hC.iaw (W := cx_HT) [65] rfl rfl rfl rfl ?_ ?_ | refine hC.law (W := cx_HT) [65] rfl rfl rfl rfl ?_ ?_ | refine hC.cpw (W := cx_HT) [65] rfl rfl rfl rfl rfl rfl ?_ | refine hC.cpl (W := cx_HT) [65] rfl rfl rfl rfl rfl rfl ?_ | refine hC.go [65] _ rfl rfl ?_ | (intro h; first | exact (h rfl).elim | (exfalso; cases h; done) | (dsimp only [kk_cP, kk_cN] at h) | skip)
      all_goals first | rfl | omega | (have h' : i < A 1 2 := (by assumption); omega) | skip
      · have h' : A 1 2 ≤ i := h
        exact ⟨_, rfl, by rw [g2, g3.1, g3.2, show i = A 1 2 by omega]⟩
      · have h' : i < A 1 2 := by assumption
        have h3 : kk_i2 3 (A 5 i.toNat) D ≠ 0 := h
        exact hC.sub [(0, (4, 0)), (1, (4, 7)), (2, (0, _)), (3, (0, _)), (4, (0, _)), (5, (0, _))] ⟨rfl, rfl, rfl, rfl, rfl, rfl, trivial⟩ (ih _ _ _ _ (by omega) (by omega) (by omega) (by rw [e1, fc_n (fun q => h3 q.1), g2]) g3)
      · have h' : i < A 1 2 := by assumption
        have h3 : kk_i2 3 (A 4 i.toNat) E ≠ 0 := h
        exact hC.sub [(0, (4, 0)), (1, (4, 7)), (2, (0, _)), (3, (0, _)), (4, (0, _)), (5, (0, _))] ⟨rfl, rfl, rfl, rfl, rfl, rfl, trivial⟩ (ih _ _ _ _ (by omega) (by omega) (by omega) (by rw [e1, fc_n (fun q => h3 q.2), g2]) g3)
      · have h' : i < A 1 2 := by assumption
        have h3 : kk_i2 3 (A 4 i.toNat) E = 0 := h
        have h4 : kk_i2 3 (A 5 i.toNat) D = 0 := by assumption
        exact hC.sub [(0, (4, 0)), (1, (4, 7)), (2, (0, _)), (3, (0, _)), (4, (0, _)), (5, (0, _))] ⟨rfl, rfl, rfl, rfl, rfl, rfl, trivial⟩ (ih _ _ _ _ (by omega) (by omega) (by omega) (by rw [e1, fc_y ⟨h4, h3⟩, g2, ei]) g3)
  have k7 : ∀ (n : Nat) (i : Int) (j : Nat) (a : Int) (b : Int), (20 - i).toNat < n → (i = 2 * (j : Int)) → (i ≤ O 7 1) → (a = dn (A 8) true j ∧ b = dn (A 8) false j) → K 7 [(0, (4, 0)), (1, (4, 7)), (2, (0, a)), (3, (0, b)), (4, (0, i))] [] (cx_HT O A) := by
    intro n
    induction n with
    | zero => intro i j a b hz; exact absurd hz (Nat.not_lt_zero _)
    | succ n ih =>
      intro i j a b hn g0 g1 g2
      refine hC.go [] _ rfl rfl ?_
      repeat' first | refine hC.gw [7, 65] _ rfl rfl ?_ | refine And.intro ?_ ?_ | exact True.intro | refine hC.iadd [7, 65] rfl rfl (by first | omega | (simp only [Int.reduceToNat] at *; omega)) ?_ | refine hC.isub [7, 65] rfl rfl (by first | omega | (simp only [Int.reduceToNat] at *; omega)) ?_ | refine hC.imul [7, 65] rfl rfl (by first | omega | (simp only [Int.reduceToNat] at *; omega)) ?_ | refine hC.iinc [7, 65] rfl rfl rfl rfl (by first | omega | (simp only [Int.reduceToNat] at *; omega)) ?_ | refine hC.pfw (W := cx_HT) [7, 65] rfl rfl rfl rfl rfl rfl ?_ ?_ | refine hC.iaw (W := cx_HT) [7, 65] rfl rfl rfl rfl ?_ ?_ | refine hC.law (W := cx_HT) [7, 65] rfl rfl rfl rfl ?_ ?_ | refine hC.cpw (W := cx_HT) [7, 65] rfl rfl rfl rfl rfl rfl ?_ | refine hC.cpl (W := cx_HT) [7, 65] rfl rfl rfl rfl rfl rfl ?_ | refine hC.go [7, 65] _ rfl rfl ?_ | (intro h; first | exact (h rfl).elim | (exfalso; cases h; done) | (dsimp only [kk_cP, kk_cN] at h) | skip)
      all_goals first | rfl | omega | skip
      · have h' : O 7 1 ≤ i := h
        exact hC.sub [(0, (4, 0)), (1, (4, 7)), (2, (0, _)), (3, (0, _)), (4, (0, _)), (5, (0, _))] ⟨rfl, rfl, rfl, rfl, rfl, rfl, trivial⟩ (k65 _ _ _ _ _ (Nat.lt_succ_self _) (by omega) (by omega) rfl ⟨by rw [g2.1, show (O 7 1 / 2).toNat = j by omega], by rw [g2.2, show (O 7 1 / 2).toNat = j by omega]⟩)
      · have h' : i < O 7 1 := h
        have ev : tt_v 940 (O 7 1) (A 8) i = A 8 (2 * j) := by unfold tt_v; rw [if_pos ⟨by omega, by omega, by omega⟩, show i.toNat = 2 * j by omega]
        have ev1 : tt_v 940 (O 7 1) (A 8) (i + 1) = A 8 (2 * j + 1) := by unfold tt_v; rw [if_pos ⟨by omega, by omega, by omega⟩, show (i + 1).toNat = 2 * j + 1 by omega]
        refine hC.rd ce_HT_T (tt_at l _ _ _ _) rfl rfl rfl rfl rfl rfl (Nat.le_refl _) ?_
        rintro rs hrs
        have hrs : rs = [(0, A 8 (2 * j + 1))] := hrs.trans (congrArg (fun v => [((0 : Nat), v)]) ev1)
        subst hrs
        repeat' first | refine hC.gw [7, 65] _ rfl rfl ?_ | refine And.intro ?_ ?_ | exact True.intro | refine hC.iadd [7, 65] rfl rfl (by first | omega | (simp only [Int.reduceToNat] at *; omega)) ?_ | refine hC.isub [7, 65] rfl rfl (by first | omega | (simp only [Int.reduceToNat] at *; omega)) ?_ | refine hC.imul [7, 65] rfl rfl (by first | omega | (simp only [Int.reduceToNat] at *; omega)) ?_ | refine hC.iinc [7, 65] rfl rfl rfl rfl (by first | omega | (simp only [Int.reduceToNat] at *; omega)) ?_ | refine hC.pfw (W := cx_HT) [7, 65] rfl rfl rfl rfl rfl rfl ?_ ?_ | refine hC.iaw (W := cx_HT) [7, 65] rfl rfl rfl rfl ?_ ?_ | refine hC.law (W := cx_HT) [7, 65] rfl rfl rfl rfl ?_ ?_ | refine hC.cpw (W := cx_HT) [7, 65] rfl rfl rfl rfl rfl rfl ?_ | refine hC.cpl (W := cx_HT) [7, 65] rfl rfl rfl rfl rfl rfl ?_ | refine hC.go [7, 65] _ rfl rfl ?_ | (intro h; first | exact (h rfl).elim | (exfalso; cases h; done) | (dsimp only [kk_cP, kk_cN] at h) | skip)
        all_goals first | rfl | omega | skip
        · have h3 : A 8 (2 * j + 1) ≠ 1 := h
          refine hC.rd ce_HT_T (tt_at l _ _ _ _) rfl rfl rfl rfl rfl rfl (Nat.le_refl _) ?_
          rintro rs hrs
          have hrs : rs = [(0, A 8 (2 * j))] := hrs.trans (congrArg (fun v => [((0 : Nat), v)]) ev)
          subst hrs
          repeat' first | refine hC.gw [7, 65] _ rfl rfl ?_ | refine And.intro ?_ ?_ | exact True.intro | refine hC.iadd [7, 65] rfl rfl (by first | omega | (simp only [Int.reduceToNat] at *; omega)) ?_ | refine hC.isub [7, 65] rfl rfl (by first | omega | (simp only [Int.reduceToNat] at *; omega)) ?_ | refine hC.imul [7, 65] rfl rfl (by first | omega | (simp only [Int.reduceToNat] at *; omega)) ?_ | refine hC.iinc [7, 65] rfl rfl rfl rfl (by first | omega | (simp only [Int.reduceToNat] at *; omega)) ?_ | refine hC.pfw (W := cx_HT) [7, 65] rfl rfl rfl rfl rfl rfl ?_ ?_ | refine hC.iaw (W := cx_HT) [7, 65] rfl rfl rfl rfl ?_ ?_ | refine hC.law (W := cx_HT) [7, 65] rfl rfl rfl rfl ?_ ?_ | refine hC.cpw (W := cx_HT) [7, 65] rfl rfl rfl rfl rfl rfl ?_ | refine hC.cpl (W := cx_HT) [7, 65] rfl rfl rfl rfl rfl rfl ?_ | refine hC.go [7, 65] _ rfl rfl ?_ | (intro h; first | exact (h rfl).elim | (exfalso; cases h; done) | (dsimp only [kk_cP, kk_cN] at h) | skip)
          exact hC.sub [(0, (4, 0)), (1, (4, 7)), (2, (0, _)), (3, (0, _)), (4, (0, _))] ⟨rfl, rfl, rfl, rfl, rfl, trivial⟩ (ih _ (j + 1) _ _ (by omega) (by omega) (by omega) ⟨by rw [dn_n (by rw [decide_eq_false h3]; decide), g2.1], by rw [dn_y (decide_eq_false h3), g2.2]⟩)
        · have h3 : A 8 (2 * j + 1) = 1 := h
          refine hC.rd ce_HT_T (tt_at l _ _ _ _) rfl rfl rfl rfl rfl rfl (Nat.le_refl _) ?_
          rintro rs hrs
          have hrs : rs = [(0, A 8 (2 * j))] := hrs.trans (congrArg (fun v => [((0 : Nat), v)]) ev)
          subst hrs
          repeat' first | refine hC.gw [7, 65] _ rfl rfl ?_ | refine And.intro ?_ ?_ | exact True.intro | refine hC.iadd [7, 65] rfl rfl (by first | omega | (simp only [Int.reduceToNat] at *; omega)) ?_ | refine hC.isub [7, 65] rfl rfl (by first | omega | (simp only [Int.reduceToNat] at *; omega)) ?_ | refine hC.imul [7, 65] rfl rfl (by first | omega | (simp only [Int.reduceToNat] at *; omega)) ?_ | refine hC.iinc [7, 65] rfl rfl rfl rfl (by first | omega | (simp only [Int.reduceToNat] at *; omega)) ?_ | refine hC.pfw (W := cx_HT) [7, 65] rfl rfl rfl rfl rfl rfl ?_ ?_ | refine hC.iaw (W := cx_HT) [7, 65] rfl rfl rfl rfl ?_ ?_ | refine hC.law (W := cx_HT) [7, 65] rfl rfl rfl rfl ?_ ?_ | refine hC.cpw (W := cx_HT) [7, 65] rfl rfl rfl rfl rfl rfl ?_ | refine hC.cpl (W := cx_HT) [7, 65] rfl rfl rfl rfl rfl rfl ?_ | refine hC.go [7, 65] _ rfl rfl ?_ | (intro h; first | exact (h rfl).elim | (exfalso; cases h; done) | (dsimp only [kk_cP, kk_cN] at h) | skip)
          exact hC.sub [(0, (4, 0)), (1, (4, 7)), (2, (0, _)), (3, (0, _)), (4, (0, _))] ⟨rfl, rfl, rfl, rfl, rfl, trivial⟩ (ih _ (j + 1) _ _ (by omega) (by omega) (by omega) ⟨by rw [dn_y (decide_eq_true h3), g2.1], by rw [dn_n (by rw [decide_eq_true h3]; decide), g2.2]⟩)
  repeat' first | refine hC.gw [7] _ rfl rfl ?_ | refine And.intro ?_ ?_ | exact True.intro | refine hC.iadd [7] rfl rfl (by first | omega | (simp only [Int.reduceToNat] at *; omega)) ?_ | refine hC.isub [7] rfl rfl (by first | omega | (simp only [Int.reduceToNat] at *; omega)) ?_ | refine hC.imul [7] rfl rfl (by first | omega | (simp only [Int.reduceToNat] at *; omega)) ?_ | refine hC.iinc [7] rfl rfl rfl rfl (by first | omega | (simp only [Int.reduceToNat] at *; omega)) ?_ | refine hC.pfw (W := cx_HT) [7] rfl rfl rfl rfl rfl rfl ?_ ?_ | refine hC.iaw (W := cx_HT) [7] rfl rfl rfl rfl ?_ ?_ | refine hC.law (W := cx_HT) [7] rfl rfl rfl rfl ?_ ?_ | refine hC.cpw (W := cx_HT) [7] rfl rfl rfl rfl rfl rfl ?_ | refine hC.cpl (W := cx_HT) [7] rfl rfl rfl rfl rfl rfl ?_ | refine hC.go [7] _ rfl rfl ?_ | (intro h; first | exact (h rfl).elim | (exfalso; cases h; done) | (dsimp only [kk_cP, kk_cN] at h) | skip)
  exact hC.sub [(0, (4, 0)), (1, (4, 7)), (2, (0, _)), (3, (0, _)), (4, (0, _))] ⟨rfl, rfl, rfl, rfl, rfl, trivial⟩ (k7 _ _ 0 _ _ (Nat.lt_succ_self _) rfl (by omega) ⟨rfl, rfl⟩)
end HT
set_option maxRecDepth 100000 in
set_option maxHeartbeats 4000000 in
theorem hh_xMostLeft (l : Launch) (d : Nat) (O A : Nat → Nat → Int) (e c : Int) (hc : hh_c A) (hs : 0 ≤ c ∧ c < 1024) : kk_Ctr l (d + 1) en_t_X2_mostLeftBySeeing [(4, 0), (0, e), (0, c)] (cx_H O A) (fun rs w' => w' = cx_H O A ∧ ∃ x, rs = [(0, x)] ∧ x = ml (A 4) (A 5) c e (A 1 2).toNat) := by
  have h2 := hc.2.2
  refine kk_ctr en_hM (List.mem_of_getElem? (i := 74) rfl) rfl (Nat.le_of_ble_eq_true rfl) (fun K hC => ?_)
  have k8 : ∀ (n : Nat) (i : Int) (x : Int) (y : Int), (11 - i).toNat < n → (0 ≤ i ∧ i ≤ 10) → (i ≤ A 1 2) → (x = sm c (bn (A 4) e) i.toNat ∧ y = sm c (bn (A 5) e) i.toNat) → ((0 ≤ x ∧ x ≤ i) ∧ 0 ≤ y ∧ y ≤ i) → K 8 [(0, (4, 0)), (1, (0, e)), (2, (0, c)), (3, (0, x)), (4, (0, y)), (5, (0, i))] [] (cx_H O A) := by
    intro n
    induction n with
    | zero => intro i x y hz; exact absurd hz (Nat.not_lt_zero _)
    | succ n ih =>
      intro i x y hn g0 g1 g2 g3
      have ei : ((i.toNat : Nat) : Int) = i := by omega
      have e1 : (i + 1).toNat = i.toNat + 1 := by omega
      have b4 := kk_and1 (kk_i2 8 (A 4 i.toNat) e)
      have b5 := kk_and1 (kk_i2 8 (A 5 i.toNat) e)
      refine hC.go [] _ rfl rfl ?_
      repeat' first | refine hC.gw [8, 64] _ rfl rfl ?_ | refine And.intro ?_ ?_ | exact True.intro | refine hC.iadd [8, 64] rfl rfl (by first | omega | (simp only [Int.reduceToNat] at *; omega)) ?_ | refine hC.isub [8, 64] rfl rfl (by first | omega | (simp only [Int.reduceToNat] at *; omega)) ?_ | refine hC.imul [8, 64] rfl rfl (by first | omega | (simp only [Int.reduceToNat] at *; omega)) ?_ | refine hC.iinc [8, 64] rfl rfl rfl rfl (by first | omega | (simp only [Int.reduceToNat] at *; omega)) ?_ | refine hC.pfw (W := cx_H) [8, 64] rfl rfl rfl rfl rfl rfl ?_ ?_ | refine hC.iaw (W := cx_H) [8, 64] rfl rfl rfl rfl ?_ ?_ | refine hC.law (W := cx_H) [8, 64] rfl rfl rfl rfl ?_ ?_ | refine hC.cpw (W := cx_H) [8, 64] rfl rfl rfl rfl rfl rfl ?_ | refine hC.cpl (W := cx_H) [8, 64] rfl rfl rfl rfl rfl rfl ?_ | refine hC.go [8, 64] _ rfl rfl ?_ | (intro h; first | exact (h rfl).elim | (exfalso; cases h; done) | (dsimp only [kk_cP, kk_cN] at h) | skip) | (refine hC.call (xx_xHasBit l _ _ _) [] rfl rfl rfl rfl rfl rfl trivial (Nat.le_refl _) ?_; rintro rs w' ⟨rfl, ⟨rfl, hb⟩ | ⟨rfl, hb⟩⟩)
      all_goals first | rfl | omega | (have h' : i < A 1 2 := (by assumption); omega) | skip
      · have h' : A 1 2 ≤ i := h
        have hx : x = sm c (bn (A 4) e) (A 1 2).toNat := by rw [g2.1, show i = A 1 2 by omega]
        have hy : y = sm c (bn (A 5) e) (A 1 2).toNat := by rw [g2.2, show i = A 1 2 by omega]
        repeat' first | refine hC.gw [] _ rfl rfl ?_ | refine And.intro ?_ ?_ | exact True.intro | refine hC.iadd [] rfl rfl (by first | omega | (simp only [Int.reduceToNat] at *; omega)) ?_ | refine hC.isub [] rfl rfl (by first | omega | (simp only [Int.reduceToNat] at *; omega)) ?_ | refine hC.imul [] rfl rfl (by first | omega | (simp only [Int.reduceToNat] at *; omega)) ?_ | refine hC.iinc [] rfl rfl rfl rfl (by first | omega | (simp only [Int.reduceToNat] at *; omega)) ?_ | refine hC.pfw (W := cx_H) [] rfl rfl rfl rfl rfl rfl ?_ ?_ | refine hC.iaw (W := cx_H) [] rfl rfl rfl rfl ?_ ?_ | refine hC.law (W := cx_H) [] rfl rfl rfl rfl ?_ ?_ | refine hC.cpw (W := cx_H) [] rfl rfl rfl rfl rfl rfl ?_ | refine hC.cpl (W := cx_H) [] rfl rfl rfl rfl rfl rfl ?_ | refine hC.go [] _ rfl rfl ?_ | (intro h; first | exact (h rfl).elim | (exfalso; cases h; done) | (dsimp only [kk_cP, kk_cN] at h) | skip)
        refine hC.call (jj_xBits l _ _) [] rfl rfl rfl rfl rfl rfl trivial (Nat.le_refl _) ?_
        rintro rs w' ⟨rfl, z, rfl, hz⟩
        have hz : z = pcn c.toNat := by rw [hz]; exact bcv_pcn hs.1 hs.2
        have hzb := pcn_b c.toNat
        repeat' first | refine hC.gw [] _ rfl rfl ?_ | refine And.intro ?_ ?_ | exact True.intro | refine hC.iadd [] rfl rfl (by first | omega | (simp only [Int.reduceToNat] at *; omega)) ?_ | refine hC.isub [] rfl rfl (by first | omega | (simp only [Int.reduceToNat] at *; omega)) ?_ | refine hC.imul [] rfl rfl (by first | omega | (simp only [Int.reduceToNat] at *; omega)) ?_ | refine hC.iinc [] rfl rfl rfl rfl (by first | omega | (simp only [Int.reduceToNat] at *; omega)) ?_ | refine hC.pfw (W := cx_H) [] rfl rfl rfl rfl rfl rfl ?_ ?_ | refine hC.iaw (W := cx_H) [] rfl rfl rfl rfl ?_ ?_ | refine hC.law (W := cx_H) [] rfl rfl rfl rfl ?_ ?_ | refine hC.cpw (W := cx_H) [] rfl rfl rfl rfl rfl rfl ?_ | refine hC.cpl (W := cx_H) [] rfl rfl rfl rfl rfl rfl ?_ | refine hC.go [] _ rfl rfl ?_ | (intro h; first | exact (h rfl).elim | (exfalso; cases h; done) | (dsimp only [kk_cP, kk_cN] at h) | skip)
        all_goals first | rfl | omega | exact ⟨_, rfl, by unfold ml; rw [← hx, ← hy, ← hz]⟩
      · have h' : i < A 1 2 := by assumption
        exact hC.sub [(0, (4, 0)), (1, (0, _)), (2, (0, _)), (3, (0, _)), (4, (0, _)), (5, (0, _))] ⟨rfl, rfl, rfl, rfl, rfl, rfl, trivial⟩ (ih _ _ _ (by omega) (by omega) (by omega) (by rw [e1, sm_y (by rw [ei]; exact hb), sm_y (by rw [ei]; exact hb), g2.1, g2.2]; exact ⟨rfl, rfl⟩) (by omega))
      · have h' : i < A 1 2 := by assumption
        exact hC.sub [(0, (4, 0)), (1, (0, _)), (2, (0, _)), (3, (0, _)), (4, (0, _)), (5, (0, _))] ⟨rfl, rfl, rfl, rfl, rfl, rfl, trivial⟩ (ih _ _ _ (by omega) (by omega) (by omega) (by rw [e1, sm_n (by rw [ei]; exact fun q => q hb), sm_n (by rw [ei]; exact fun q => q hb)]; exact g2) (by omega))
  repeat' first | refine hC.gw [8] _ rfl rfl ?_ | refine And.intro ?_ ?_ | exact True.intro | refine hC.iadd [8] rfl rfl (by first | omega | (simp only [Int.reduceToNat] at *; omega)) ?_ | refine hC.isub [8] rfl rfl (by first | omega | (simp only [Int.reduceToNat] at *; omega)) ?_ | refine hC.imul [8] rfl rfl (by first | omega | (simp only [Int.reduceToNat] at *; omega)) ?_ | refine hC.iinc [8] rfl rfl rfl rfl (by first | omega | (simp only [Int.reduceToNat] at *; omega)) ?_ | refine hC.pfw (W := cx_H) [8] rfl rfl rfl rfl rfl rfl ?_ ?_ | refine hC.iaw (W := cx_H) [8] rfl rfl rfl rfl ?_ ?_ | refine hC.law (W := cx_H) [8] rfl rfl rfl rfl ?_ ?_ | refine hC.cpw (W := cx_H) [8] rfl rfl rfl rfl rfl rfl ?_ | refine hC.cpl (W := cx_H) [8] rfl rfl rfl rfl rfl rfl ?_ | refine hC.go [8] _ rfl rfl ?_ | (intro h; first | exact (h rfl).elim | (exfalso; cases h; done) | (dsimp only [kk_cP, kk_cN] at h) | skip)
  exact hC.sub [(0, (4, 0)), (1, (0, _)), (2, (0, _)), (3, (0, _)), (4, (0, _)), (5, (0, _))] ⟨rfl, rfl, rfl, rfl, rfl, rfl, trivial⟩ (k8 _ _ _ _ (Nat.lt_succ_self _) (by omega) (by omega) ⟨rfl, rfl⟩ (by omega))
set_option maxRecDepth 100000 in
set_option maxHeartbeats 4000000 in
theorem hh_xWatch (l : Launch) (d : Nat) (O A : Nat → Nat → Int) (c : Int) (hc : hh_c A) (hs : 0 ≤ c ∧ c < 1024) (h1 : 1 ≤ A 1 0) (hl : ∀ e : Int, ml (A 4) (A 5) c e (A 1 2).toNat ≤ 10) : kk_Ctr l (d + 2) en_t_X2_deedToWatch [(4, 0), (0, c)] (cx_H O A) (fun rs w' => w' = cx_H O A ∧ ∃ x, rs = [(0, x)] ∧ x = ((wr (fun e => ml (A 4) (A 5) c (e : Int) (A 1 2).toNat) (A 1 0).toNat : Nat) : Int)) := by
  have h2 := hc.1
  generalize hf : (fun e : Nat => ml (A 4) (A 5) c (e : Int) (A 1 2).toNat) = f
  have hf' : ∀ e : Nat, ml (A 4) (A 5) c (e : Int) (A 1 2).toNat = f e := fun e => congrFun hf e
  have hl0 : f 0 ≤ 10 := by rw [← hf' 0]; exact hl _
  clear hf
  refine kk_ctr en_hM (List.mem_of_getElem? (i := 67) rfl) rfl (Nat.le_of_ble_eq_true rfl) (fun K hC => ?_)
  have k8 : ∀ (n : Nat) (i : Int) (x : Int) (y : Int), (9 - i).toNat < n → (0 ≤ i ∧ i ≤ 8) → (i ≤ A 1 0) → ((i = 0 ∧ x = -1 ∧ y = 11) ∨ (1 ≤ i ∧ x = ((wr f i.toNat : Nat) : Int) ∧ y = f (wr f i.toNat))) → K 8 [(0, (4, 0)), (1, (0, c)), (2, (0, x)), (3, (0, y)), (4, (0, i))] [] (cx_H O A) := by
    intro n
    induction n with
    | zero => intro i x y hz; exact absurd hz (Nat.not_lt_zero _)
    | succ n ih =>
      intro i x y hn g0 g1 g2
      have ei : ((i.toNat : Nat) : Int) = i := by omega
      have e1 : (i + 1).toNat = i.toNat + 1 := by omega
      refine hC.go [] _ rfl rfl ?_
      repeat' first | refine hC.gw [8] _ rfl rfl ?_ | refine And.intro ?_ ?_ | exact True.intro | refine hC.iadd [8] rfl rfl (by first | omega | (simp only [Int.reduceToNat] at *; omega)) ?_ | refine hC.isub [8] rfl rfl (by first | omega | (simp only [Int.reduceToNat] at *; omega)) ?_ | refine hC.imul [8] rfl rfl (by first | omega | (simp only [Int.reduceToNat] at *; omega)) ?_ | refine hC.iinc [8] rfl rfl rfl rfl (by first | omega | (simp only [Int.reduceToNat] at *; omega)) ?_ | refine hC.pfw (W := cx_H) [8] rfl rfl rfl rfl rfl rfl ?_ ?_ | refine hC.iaw (W := cx_H) [8] rfl rfl rfl rfl ?_ ?_ | refine hC.law (W := cx_H) [8] rfl rfl rfl rfl ?_ ?_ | refine hC.cpw (W := cx_H) [8] rfl rfl rfl rfl rfl rfl ?_ | refine hC.cpl (W := cx_H) [8] rfl rfl rfl rfl rfl rfl ?_ | refine hC.go [8] _ rfl rfl ?_ | (intro h; first | exact (h rfl).elim | (exfalso; cases h; done) | (dsimp only [kk_cP, kk_cN] at h) | skip)
      all_goals first | rfl | omega | skip
      · have h' : A 1 0 ≤ i := h
        refine ⟨_, rfl, ?_⟩
        rcases g2 with ⟨q1, -⟩ | ⟨-, q1, -⟩
        · omega
        · rw [q1, show i = A 1 0 by omega]
      · have h' : i < A 1 0 := h
        refine hC.same (hh_xMostLeft l _ _ _ _ _ hc hs) rfl rfl rfl rfl (Nat.le_refl _) ?_
        rintro rs w' ⟨rfl, z, rfl, hz⟩
        have hz : z = f i.toNat := by rw [hz, ← hf' i.toNat, ei]
        repeat' first | refine hC.gw [8] _ rfl rfl ?_ | refine And.intro ?_ ?_ | exact True.intro | refine hC.iadd [8] rfl rfl (by first | omega | (simp only [Int.reduceToNat] at *; omega)) ?_ | refine hC.isub [8] rfl rfl (by first | omega | (simp only [Int.reduceToNat] at *; omega)) ?_ | refine hC.imul [8] rfl rfl (by first | omega | (simp only [Int.reduceToNat] at *; omega)) ?_ | refine hC.iinc [8] rfl rfl rfl rfl (by first | omega | (simp only [Int.reduceToNat] at *; omega)) ?_ | refine hC.pfw (W := cx_H) [8] rfl rfl rfl rfl rfl rfl ?_ ?_ | refine hC.iaw (W := cx_H) [8] rfl rfl rfl rfl ?_ ?_ | refine hC.law (W := cx_H) [8] rfl rfl rfl rfl ?_ ?_ | refine hC.cpw (W := cx_H) [8] rfl rfl rfl rfl rfl rfl ?_ | refine hC.cpl (W := cx_H) [8] rfl rfl rfl rfl rfl rfl ?_ | refine hC.go [8] _ rfl rfl ?_ | (intro h; first | exact (h rfl).elim | (exfalso; cases h; done) | (dsimp only [kk_cP, kk_cN] at h) | skip)
        all_goals first | rfl | omega | skip
        · have h3 : y ≤ z := h
          refine hC.sub [(0, (4, 0)), (1, (0, _)), (2, (0, _)), (3, (0, _)), (4, (0, _))] ⟨rfl, rfl, rfl, rfl, rfl, trivial⟩ (ih _ _ _ (by omega) (by omega) (by omega) (Or.inr ⟨by omega, ?_⟩))
          rcases g2 with ⟨q1, q2, q3⟩ | ⟨q1, q2, q3⟩
          · rw [q1] at hz
            have hz : z = f 0 := hz
            omega
          · rw [e1, wr_n (by omega)]; exact ⟨q2, q3⟩
        · have h3 : z < y := h
          refine hC.sub [(0, (4, 0)), (1, (0, _)), (2, (0, _)), (3, (0, _)), (4, (0, _))] ⟨rfl, rfl, rfl, rfl, rfl, trivial⟩ (ih _ _ _ (by omega) (by omega) (by omega) (Or.inr ⟨by omega, ?_⟩))
          rcases g2 with ⟨q1, q2, q3⟩ | ⟨q1, q2, q3⟩
          · rw [show (i + 1).toNat = 1 by omega, wr_1]; exact ⟨by omega, by rw [hz, show i.toNat = 0 by omega]⟩
          · rw [e1, wr_y (by omega), hz, ei]; exact ⟨rfl, rfl⟩
  repeat' first | refine hC.gw [8] _ rfl rfl ?_ | refine And.intro ?_ ?_ | exact True.intro | refine hC.iadd [8] rfl rfl (by first | omega | (simp only [Int.reduceToNat] at *; omega)) ?_ | refine hC.isub [8] rfl rfl (by first | omega | (simp only [Int.reduceToNat] at *; omega)) ?_ | refine hC.imul [8] rfl rfl (by first | omega | (simp only [Int.reduceToNat] at *; omega)) ?_ | refine hC.iinc [8] rfl rfl rfl rfl (by first | omega | (simp only [Int.reduceToNat] at *; omega)) ?_ | refine hC.pfw (W := cx_H) [8] rfl rfl rfl rfl rfl rfl ?_ ?_ | refine hC.iaw (W := cx_H) [8] rfl rfl rfl rfl ?_ ?_ | refine hC.law (W := cx_H) [8] rfl rfl rfl rfl ?_ ?_ | refine hC.cpw (W := cx_H) [8] rfl rfl rfl rfl rfl rfl ?_ | refine hC.cpl (W := cx_H) [8] rfl rfl rfl rfl rfl rfl ?_ | refine hC.go [8] _ rfl rfl ?_ | (intro h; first | exact (h rfl).elim | (exfalso; cases h; done) | (dsimp only [kk_cP, kk_cN] at h) | skip)
  exact hC.sub [(0, (4, 0)), (1, (0, _)), (2, (0, _)), (3, (0, _)), (4, (0, _))] ⟨rfl, rfl, rfl, rfl, rfl, trivial⟩ (k8 _ _ _ _ (Nat.lt_succ_self _) (by omega) (by omega) (Or.inl ⟨rfl, rfl, rfl⟩))
