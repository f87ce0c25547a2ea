/-! FITS, WATCH: the reference -/
/-- what a chapter says of a deed -/
def sy (u v e : Int) : Int := if bgt u e then 1 else if bgt v e then 2 else 0
theorem sy_1 {u v e : Int} (h : bgt u e) : sy u v e = 1 := if_pos h
theorem sy_2 {u v e : Int} (h : ¬ bgt u e) (h2 : bgt v e) : sy u v e = 2 := by unfold sy; rw [if_neg h, if_pos h2]
theorem sy_0 {u v e : Int} (h : ¬ bgt u e) (h2 : ¬ bgt v e) : sy u v e = 0 := by unfold sy; rw [if_neg h, if_neg h2]
def an (m b : Nat → Int) (s e t : Int) : Nat → Int
  | 0 => 0
  | k + 1 => if kk_i2 3 (kk_i2 8 s (k : Int)) 1 ≠ 0 ∧ sy (m k) (b k) e = t then an m b s e t k + 1 else an m b s e t k
theorem an_y {m b : Nat → Int} {s e t : Int} {k : Nat} (h : kk_i2 3 (kk_i2 8 s (k : Int)) 1 ≠ 0 ∧ sy (m k) (b k) e = t) : an m b s e t (k + 1) = an m b s e t k + 1 := if_pos h
theorem an_n {m b : Nat → Int} {s e t : Int} {k : Nat} (h : ¬ (kk_i2 3 (kk_i2 8 s (k : Int)) 1 ≠ 0 ∧ sy (m k) (b k) e = t)) : an m b s e t (k + 1) = an m b s e t k := if_neg h
/-- the greatest of the first k -/
def mxs (f : Nat → Int) : Nat → Int
  | 0 => 0
  | k + 1 => if mxs f k < f k then f k else mxs f k
theorem mxs_y {f : Nat → Int} {k : Nat} (h : mxs f k < f k) : mxs f (k + 1) = f k := if_pos h
theorem mxs_n {f : Nat → Int} {k : Nat} (h : ¬ mxs f k < f k) : mxs f (k + 1) = mxs f k := if_neg h
theorem an_all {m b : Nat → Int} {s e : Int} (hm : ∀ j : Nat, j < 10 → (0 ≤ m j ∧ m j < 256) ∧ 0 ≤ b j ∧ b j < 256) (he : 0 ≤ e ∧ e < 8) (hd : dj m b) : ∀ {k : Nat}, k ≤ 10 → an m b s e 1 k = sm s (bn m e) k ∧ an m b s e 2 k = sm s (bn b e) k ∧ an m b s e 0 k + an m b s e 1 k + an m b s e 2 k = sm s (fun _ => 1) k ∧ 0 ≤ an m b s e 0 k
  | 0, _ => ⟨rfl, rfl, rfl, Int.le_refl 0⟩
  | k + 1, hk => by
    obtain ⟨i1, i2, i3, i4⟩ := an_all (s := s) hm he hd (k := k) (by omega)
    have q := hm k (by omega)
    have b1 : bn m e k = if bgt (m k) e then 1 else 0 := bgt_num q.1 he
    have b2 : bn b e k = if bgt (b k) e then 1 else 0 := bgt_num q.2 he
    by_cases hb : kk_i2 3 (kk_i2 8 s (k : Int)) 1 ≠ 0
    · rw [sm_y hb, sm_y hb, sm_y hb, b1, b2]
      by_cases h1 : bgt (m k) e
      · have h2 : ¬ bgt (b k) e := fun g => hd k (by omega) e he g h1
        have e1 : sy (m k) (b k) e = 1 := sy_1 h1
        rw [if_pos h1, if_neg h2, an_y ⟨hb, e1⟩, an_n (t := 2) (fun g => by have := g.2; omega), an_n (t := 0) (fun g => by have := g.2; omega)]
        omega
      · by_cases h2 : bgt (b k) e
        · have e1 : sy (m k) (b k) e = 2 := sy_2 h1 h2
          rw [if_neg h1, if_pos h2, an_y ⟨hb, e1⟩, an_n (t := 1) (fun g => by have := g.2; omega), an_n (t := 0) (fun g => by have := g.2; omega)]
          omega
        · have e1 : sy (m k) (b k) e = 0 := sy_0 h1 h2
          rw [if_neg h1, if_neg h2, an_y (t := 0) ⟨hb, e1⟩, an_n (t := 1) (fun g => by have := g.2; omega), an_n (t := 2) (fun g => by have := g.2; omega)]
          omega
    · rw [sm_n hb, sm_n hb, sm_n hb, an_n (fun g => hb g.1), an_n (fun g => hb g.1), an_n (fun g => hb g.1)]
      exact ⟨i1, i2, i3, i4⟩
-- both see the same numbers
theorem an_ml {m b : Nat → Int} {s n : Nat} {e : Int} (hm : ∀ j : Nat, j < 10 → (0 ≤ m j ∧ m j < 256) ∧ 0 ≤ b j ∧ b j < 256) (he : 0 ≤ e ∧ e < 8) (hd : dj m b) (hs : s < 2 ^ n) (hn : n ≤ 10) : mxs (fun t => an m b (s : Int) e (t : Int) 10) 3 = ml m b (s : Int) e n := by
  have hp := p2_le hn
  obtain ⟨i1, i2, i3, i4⟩ := an_all (s := (s : Int)) hm he hd (k := 10) (Nat.le_refl _)
  have h1 := sm_hi (g := bn m e) hs (by omega) (10 - n) (by omega)
  have h2 := sm_hi (g := bn b e) hs (by omega) (10 - n) (by omega)
  rw [show n + (10 - n) = 10 by omega] at h1 h2
  have g1 := sm_b (s := (s : Int)) (e := e) (m := m) (k := n)
  have g2 := sm_b (s := (s : Int)) (e := e) (m := b) (k := n)
  rw [sm_pc0 s (by omega)] at i3
  unfold ml
  rw [Int.toNat_natCast]
  show (if (if (if (0 : Int) < an m b (s : Int) e 0 10 then an m b (s : Int) e 0 10 else 0) < an m b (s : Int) e 1 10 then an m b (s : Int) e 1 10 else (if (0 : Int) < an m b (s : Int) e 0 10 then an m b (s : Int) e 0 10 else 0)) < an m b (s : Int) e 2 10 then an m b (s : Int) e 2 10 else (if (if (0 : Int) < an m b (s : Int) e 0 10 then an m b (s : Int) e 0 10 else 0) < an m b (s : Int) e 1 10 then an m b (s : Int) e 1 10 else (if (0 : Int) < an m b (s : Int) e 0 10 then an m b (s : Int) e 0 10 else 0))) = _
  generalize an m b (s : Int) e 0 10 = x0 at *
  generalize an m b (s : Int) e 1 10 = x1 at *
  generalize an m b (s : Int) e 2 10 = x2 at *
  generalize sm (s : Int) (bn m e) n = y1 at *
  generalize sm (s : Int) (bn b e) n = y2 at *
  generalize sm (s : Int) (bn m e) 10 = z1 at *
  generalize sm (s : Int) (bn b e) 10 = z2 at *
  generalize pcn s = p at *
  split <;> split <;> split <;> omega
section RF
variable (l : Launch) (d : Nat) (F : Nat → Int) (A : Nat → Nat → Int)
def mm_rg (A : Nat → Nat → Int) : Prop := ∀ j : Nat, j < 10 → (0 ≤ A 2 (15 + j) ∧ A 2 (15 + j) < 256) ∧ 0 ≤ A 2 (25 + j) ∧ A 2 (25 + j) < 256
set_option maxRecDepth 100000 in
set_option maxHeartbeats 4000000 in
theorem mm_xSaysOf (c e : Int) (h0 : 0 ≤ c ∧ c ≤ 9) (he : 0 ≤ e ∧ e < 8) (hr : mm_rg A) : kk_Ctr l (d + 1) en_t_X11_saysOf [(4, 0), (0, c), (0, e)] (mm_w F A) (fun rs w' => w' = mm_w F A ∧ ∃ x, rs = [(0, x)] ∧ x = sy (A 2 (15 + c.toNat)) (A 2 (25 + c.toNat)) e) := by
  have q := hr c.toNat (by omega)
  have t1 : (15 + c).toNat = 15 + c.toNat := by omega
  have t2 : (25 + c).toNat = 25 + c.toNat := by omega
  have h1 := bt_has q.1 he
  have h2 := bt_has q.2 he
  rw [← t1, ← t2] at *
  refine kk_ctr en_hM (List.mem_of_getElem? (i := 242) rfl) rfl (Nat.le_of_ble_eq_true rfl) (fun K hC => ?_)
  repeat' first | refine hC.gn [] _ rfl rfl ?_ | refine And.intro ?_ ?_ | exact True.intro | refine hC.iadd [] rfl rfl (by first | omega | (simp only [Int.reduceToNat] at *; omega)) ?_ | refine hC.isub [] rfl rfl (by first | omega | (simp only [Int.reduceToNat] at *; omega)) ?_ | refine hC.imul [] rfl rfl (by first | omega | (simp only [Int.reduceToNat] at *; omega)) ?_ | refine hC.iinc [] rfl rfl rfl rfl (by first | omega | (simp only [Int.reduceToNat] at *; omega)) ?_ | refine hC.go [] _ rfl rfl ?_ | (intro h; first | exact (h rfl).elim | (exfalso; cases h; done) | (dsimp only [kk_cP, kk_cN] at h) | skip) | (refine hC.call (mm_xHas l _ _ _) [] rfl rfl rfl rfl rfl rfl trivial (Nat.le_refl _) ?_; rintro rs w' ⟨rfl, ⟨rfl, hb⟩ | ⟨rfl, hb⟩⟩)
  all_goals first | rfl | omega | skip
  · exact ⟨_, rfl, (sy_1 (h1.mp hb)).symm⟩
  · exact ⟨_, rfl, (sy_2 (fun g => (by assumption : ¬ _) (h1.mpr g)) (h2.mp hb)).symm⟩
  · exact ⟨_, rfl, (sy_0 (fun g => (by assumption : ¬ _) (h1.mpr g)) (fun g => hb (h2.mpr g))).symm⟩
set_option maxRecDepth 100000 in
set_option maxHeartbeats 4000000 in
theorem mm_xAlikeBy (s e : Int) (hs : 0 ≤ s ∧ s < 1024) (he : 0 ≤ e ∧ e < 8) (hr : mm_rg A) : kk_Ctr l (d + 2) en_t_X11_alikeBy [(4, 0), (0, s), (0, e)] (mm_w F A) (fun rs w' => w' = mm_w F A ∧ ∃ x, rs = [(0, x)] ∧ x = mxs (fun t => an (fun j => A 2 (15 + j)) (fun j => A 2 (25 + j)) s e (t : Int) 10) 3) := by
  generalize hf : (fun t : Nat => an (fun j => A 2 (15 + j)) (fun j => A 2 (25 + j)) s e (t : Int) 10) = f
  have hf' : ∀ t : Nat, an (fun j => A 2 (15 + j)) (fun j => A 2 (25 + j)) s e (t : Int) 10 = f t := fun t => congrFun hf t
  clear hf
  refine kk_ctr en_hM (List.mem_of_getElem? (i := 243) rfl) rfl (Nat.le_of_ble_eq_true rfl) (fun K hC => ?_)
  have k5 : ∀ (n : Nat) (t : Int) (x : Int), (4 - t).toNat < n → (0 ≤ t ∧ t ≤ 3) → (x = mxs f t.toNat) → K 5 [(0, (4, 0)), (1, (0, s)), (2, (0, e)), (3, (0, x)), (4, (0, t))] [] (mm_w F A) := by
    intro n
    induction n with
    | zero => intro t x hz; exact absurd hz (Nat.not_lt_zero _)
    | succ n ih =>
      intro t x hn h0 h8
      have ih5 := ih
      have et : ((t.toNat : Nat) : Int) = t := by omega
      have e5 : (t + 1).toNat = t.toNat + 1 := by omega
      have k17 : ∀ (n : Nat) (c : Int) (y : Int), (11 - c).toNat < n → (0 ≤ c ∧ c ≤ 10 ∧ 0 ≤ y ∧ y ≤ c) → (t < 3) → (y = an (fun j => A 2 (15 + j)) (fun j => A 2 (25 + j)) s e t c.toNat) → K 17 [(0, (4, 0)), (1, (0, s)), (2, (0, e)), (3, (0, x)), (4, (0, t)), (5, (0, y)), (6, (0, c))] [] (mm_w F A) := by
        intro n
        induction n with
        | zero => intro c y hz; exact absurd hz (Nat.not_lt_zero _)
        | succ n ih =>
          intro c y hn c0 t3 c1
          have ec : ((c.toNat : Nat) : Int) = c := by omega
          have e1 : (c + 1).toNat = c.toNat + 1 := by omega
          refine hC.go [] _ rfl rfl ?_
          repeat' first | refine hC.gn [17, 5] _ rfl rfl ?_ | refine And.intro ?_ ?_ | exact True.intro | refine hC.iadd [17, 5] rfl rfl (by first | omega | (simp only [Int.reduceToNat] at *; omega)) ?_ | refine hC.isub [17, 5] rfl rfl (by first | omega | (simp only [Int.reduceToNat] at *; omega)) ?_ | refine hC.imul [17, 5] rfl rfl (by first | omega | (simp only [Int.reduceToNat] at *; omega)) ?_ | refine hC.iinc [17, 5] rfl rfl rfl rfl (by first | omega | (simp only [Int.reduceToNat] at *; omega)) ?_ | refine hC.go [17, 5] _ rfl rfl ?_ | (intro h; first | exact (h rfl).elim | (exfalso; cases h; done) | (dsimp only [kk_cP, kk_cN] at h) | skip)
          all_goals first | rfl | omega | skip
          · have h' : 10 ≤ c := by assumption
            have h6 : y ≤ x := h
            have hy : y = f t.toNat := by rw [c1, ← hf' t.toNat, et, show c.toNat = 10 by omega]
            exact hC.sub [(0, (4, 0)), (1, (0, _)), (2, (0, _)), (3, (0, _)), (4, (0, _))] ⟨rfl, rfl, rfl, rfl, rfl, trivial⟩ (ih5 _ _ (by omega) (by omega) (by rw [e5, mxs_n (by omega), h8]))
          · have h' : 10 ≤ c := by assumption
            have h6 : x < y := h
            have hy : y = f t.toNat := by rw [c1, ← hf' t.toNat, et, show c.toNat = 10 by omega]
            exact hC.sub [(0, (4, 0)), (1, (0, _)), (2, (0, _)), (3, (0, _)), (4, (0, _))] ⟨rfl, rfl, rfl, rfl, rfl, trivial⟩ (ih5 _ _ (by omega) (by omega) (by rw [e5, mxs_y (by omega), hy]))
          · have h' : c < 10 := h
            refine hC.call (mm_xHas l _ _ _) [] rfl rfl rfl rfl rfl rfl trivial (Nat.le_refl _) ?_
            rintro rs w' ⟨rfl, ⟨rfl, hb⟩ | ⟨rfl, hb⟩⟩
            · have hb' := (st_bit hs ⟨c0.1, h'⟩).mp hb
              repeat' first | refine hC.gn [17, 5] _ rfl rfl ?_ | refine And.intro ?_ ?_ | exact True.intro | refine hC.iadd [17, 5] rfl rfl (by first | omega | (simp only [Int.reduceToNat] at *; omega)) ?_ | refine hC.isub [17, 5] rfl rfl (by first | omega | (simp only [Int.reduceToNat] at *; omega)) ?_ | refine hC.imul [17, 5] rfl rfl (by first | omega | (simp only [Int.reduceToNat] at *; omega)) ?_ | refine hC.iinc [17, 5] rfl rfl rfl rfl (by first | omega | (simp only [Int.reduceToNat] at *; omega)) ?_ | refine hC.go [17, 5] _ rfl rfl ?_ | (intro h; first | exact (h rfl).elim | (exfalso; cases h; done) | (dsimp only [kk_cP, kk_cN] at h) | skip)
              refine hC.same (mm_xSaysOf l _ F A c e (by omega) he hr) rfl rfl rfl rfl (Nat.le_refl _) ?_
              rintro rs w' ⟨rfl, z, rfl, hz⟩
              repeat' first | refine hC.gn [17, 5] _ rfl rfl ?_ | refine And.intro ?_ ?_ | exact True.intro | refine hC.iadd [17, 5] rfl rfl (by first | omega | (simp only [Int.reduceToNat] at *; omega)) ?_ | refine hC.isub [17, 5] rfl rfl (by first | omega | (simp only [Int.reduceToNat] at *; omega)) ?_ | refine hC.imul [17, 5] rfl rfl (by first | omega | (simp only [Int.reduceToNat] at *; omega)) ?_ | refine hC.iinc [17, 5] rfl rfl rfl rfl (by first | omega | (simp only [Int.reduceToNat] at *; omega)) ?_ | refine hC.go [17, 5] _ rfl rfl ?_ | (intro h; first | exact (h rfl).elim | (exfalso; cases h; done) | (dsimp only [kk_cP, kk_cN] at h) | skip)
              all_goals first | omega | skip
              · have h6 : z ≠ t := h
                exact hC.sub [(0, (4, 0)), (1, (0, _)), (2, (0, _)), (3, (0, _)), (4, (0, _)), (5, (0, _)), (6, (0, _))] ⟨rfl, rfl, rfl, rfl, rfl, rfl, rfl, trivial⟩ (ih _ _ (by omega) (by omega) t3 (by rw [e1, an_n (m := fun j => A 2 (15 + j)) (b := fun j => A 2 (25 + j)) (k := c.toNat) (fun q => h6 (hz.trans q.2)), c1]))
              · have h6 : z = t := h
                exact hC.sub [(0, (4, 0)), (1, (0, _)), (2, (0, _)), (3, (0, _)), (4, (0, _)), (5, (0, _)), (6, (0, _))] ⟨rfl, rfl, rfl, rfl, rfl, rfl, rfl, trivial⟩ (ih _ _ (by omega) (by omega) t3 (by rw [e1, an_y (m := fun j => A 2 (15 + j)) (b := fun j => A 2 (25 + j)) (k := c.toNat) ⟨by rw [ec]; exact hb', hz.symm.trans h6⟩, c1]))
            · repeat' first | refine hC.gn [17, 5] _ rfl rfl ?_ | refine And.intro ?_ ?_ | exact True.intro | refine hC.iadd [17, 5] rfl rfl (by first | omega | (simp only [Int.reduceToNat] at *; omega)) ?_ | refine hC.isub [17, 5] rfl rfl (by first | omega | (simp only [Int.reduceToNat] at *; omega)) ?_ | refine hC.imul [17, 5] rfl rfl (by first | omega | (simp only [Int.reduceToNat] at *; omega)) ?_ | refine hC.iinc [17, 5] rfl rfl rfl rfl (by first | omega | (simp only [Int.reduceToNat] at *; omega)) ?_ | refine hC.go [17, 5] _ rfl rfl ?_ | (intro h; first | exact (h rfl).elim | (exfalso; cases h; done) | (dsimp only [kk_cP, kk_cN] at h) | skip)
              all_goals first | omega | skip
              exact hC.sub [(0, (4, 0)), (1, (0, _)), (2, (0, _)), (3, (0, _)), (4, (0, _)), (5, (0, _)), (6, (0, _))] ⟨rfl, rfl, rfl, rfl, rfl, rfl, rfl, trivial⟩ (ih _ _ (by omega) (by omega) t3 (by rw [e1, an_n (m := fun j => A 2 (15 + j)) (b := fun j => A 2 (25 + j)) (k := c.toNat) (fun q => hb ((st_bit hs ⟨c0.1, h'⟩).mpr (by have q1 := q.1; rw [ec] at q1; exact q1))), c1]))
      refine hC.go [] _ rfl rfl ?_
      repeat' first | refine hC.gn [5, 17] _ rfl rfl ?_ | refine And.intro ?_ ?_ | exact True.intro | refine hC.iadd [5, 17] rfl rfl (by first | omega | (simp only [Int.reduceToNat] at *; omega)) ?_ | refine hC.isub [5, 17] rfl rfl (by first | omega | (simp only [Int.reduceToNat] at *; omega)) ?_ | refine hC.imul [5, 17] rfl rfl (by first | omega | (simp only [Int.reduceToNat] at *; omega)) ?_ | refine hC.iinc [5, 17] rfl rfl rfl rfl (by first | omega | (simp only [Int.reduceToNat] at *; omega)) ?_ | refine hC.go [5, 17] _ rfl rfl ?_ | (intro h; first | exact (h rfl).elim | (exfalso; cases h; done) | (dsimp only [kk_cP, kk_cN] at h) | skip)
      all_goals first | rfl | omega | skip
      · have h' : 3 ≤ t := h
        exact ⟨_, rfl, by rw [h8, show t.toNat = 3 by omega]⟩
      · have h' : t < 3 := h
        exact hC.sub [(0, (4, 0)), (1, (0, _)), (2, (0, _)), (3, (0, _)), (4, (0, _)), (5, (0, _)), (6, (0, _))] ⟨rfl, rfl, rfl, rfl, rfl, rfl, rfl, trivial⟩ (k17 _ _ _ (Nat.lt_succ_self _) (by omega) (by omega) rfl)
  repeat' first | refine hC.gn [5] _ rfl rfl ?_ | refine And.intro ?_ ?_ | exact True.intro | refine hC.iadd [5] rfl rfl (by first | omega | (simp only [Int.reduceToNat] at *; omega)) ?_ | refine hC.isub [5] rfl rfl (by first | omega | (simp only [Int.reduceToNat] at *; omega)) ?_ | refine hC.imul [5] rfl rfl (by first | omega | (simp only [Int.reduceToNat] at *; omega)) ?_ | refine hC.iinc [5] rfl rfl rfl rfl (by first | omega | (simp only [Int.reduceToNat] at *; omega)) ?_ | refine hC.go [5] _ rfl rfl ?_ | (intro h; first | exact (h rfl).elim | (exfalso; cases h; done) | (dsimp only [kk_cP, kk_cN] at h) | skip)
  exact hC.sub [(0, (4, 0)), (1, (0, _)), (2, (0, _)), (3, (0, _)), (4, (0, _))] ⟨rfl, rfl, rfl, rfl, rfl, trivial⟩ (k5 _ _ _ (Nat.lt_succ_self _) (by omega) rfl)
end RF
/-- what fits answers; what watch answers then -/
def ft_V (Bm : Nat → Nat → Int) (t : Int) : Int := ft_v (Bm 2 0) (Bm 2 2) (fun j => Bm 2 (15 + j)) (fun j => Bm 2 (25 + j)) (Bm 1) t
def wt_V (Bm : Nat → Nat → Int) (t w : Int) : Int := if 0 < ft_V Bm t then ((wr (fun e => ml (fun j => Bm 2 (15 + j)) (fun j => Bm 2 (25 + j)) (ft_V Bm t) (e : Int) (Bm 2 2).toNat) (Bm 2 0).toNat : Nat) : Int) else w
