/-! READING, 10: what a house's lines say; the class's house, asked for names -/
/-- y is the first of k places from b on that has x, or -1 -/
def fi_I (f : Nat → Int) (b : Nat) (k x y : Int) : Prop := (0 ≤ y ∧ y < k ∧ f (b + y.toNat) = x ∧ ∀ j : Nat, (j : Int) < y → f (b + j) ≠ x) ∨ (y = -1 ∧ ∀ j : Nat, (j : Int) < k → f (b + j) ≠ x)
theorem fi_ex (f : Nat → Int) (b : Nat) (k x : Int) : ∃ y, fi_I f b k x y := by
  have key : ∀ m : Nat, (∃ y : Nat, y < m ∧ f (b + y) = x ∧ ∀ j : Nat, j < y → f (b + j) ≠ x) ∨ (∀ j : Nat, j < m → f (b + j) ≠ x) := by
    intro m
    induction m with
    | zero => exact Or.inr (fun j hj => absurd hj (by omega))
    | succ m ih =>
      rcases ih with ⟨y, h1, h2, h3⟩ | h
      · exact Or.inl ⟨y, by omega, h2, h3⟩
      · by_cases hk : f (b + m) = x
        · exact Or.inl ⟨m, by omega, hk, h⟩
        · refine Or.inr (fun j hj => ?_)
          by_cases hj' : j = m
          · rw [hj']; exact hk
          · exact h j (by omega)
  rcases key k.toNat with ⟨y, h1, h2, h3⟩ | h
  · exact ⟨(y : Int), Or.inl ⟨by omega, by omega, by rw [Int.toNat_natCast]; exact h2, fun j hj => h3 j (by omega)⟩⟩
  · exact ⟨-1, Or.inr ⟨rfl, fun j hj => h j (by omega)⟩⟩
theorem fi_I.det {f : Nat → Int} {b : Nat} {k x y y' : Int} (h : fi_I f b k x y) (h' : fi_I f b k x y') : y = y' := by
  rcases h with ⟨h0, h1, h2, h3⟩ | ⟨h0, h1⟩ <;> rcases h' with ⟨g0, g1, g2, g3⟩ | ⟨g0, g1⟩
  · by_cases e : y < y'
    · exact absurd h2 (g3 y.toNat (by omega))
    · by_cases e' : y' < y
      · exact absurd g2 (h3 y'.toNat (by omega))
      · omega
  · exact absurd h2 (g1 y.toNat (by omega))
  · exact absurd g2 (h1 y'.toNat (by omega))
  · omega
noncomputable def fi (f : Nat → Int) (b : Nat) (k x : Int) : Int := Classical.epsilon (fi_I f b k x)
theorem fi_fi (f : Nat → Int) (b : Nat) (k x : Int) : fi_I f b k x (fi f b k x) := Classical.epsilon_spec (fi_ex f b k x)
theorem fi_I.eq {f : Nat → Int} {b : Nat} {k x y : Int} (h : fi_I f b k x y) : y = fi f b k x := h.det (fi_fi f b k x)
/-- cursor, fields, arrays -/
abbrev sp_S : Type := Int × (Nat → Int) × (Nat → Nat → Int)
/-- a fault and its place, or what was read -/
abbrev sp_R : Type := Except (Int × Int) sp_S
def sp_b {α β : Type} (x : Except (Int × Int) α) (f : α → Except (Int × Int) β) : Except (Int × Int) β := match x with
  | .error e => .error e
  | .ok s => f s
theorem sp_b_e {α β : Type} {x : Except (Int × Int) α} {f : α → Except (Int × Int) β} {e : Int × Int} (h : x = .error e) : sp_b x f = .error e := by rw [h]; rfl
theorem sp_b_k {α β : Type} {x : Except (Int × Int) α} {f : α → Except (Int × Int) β} {v : α} (h : x = .ok v) : sp_b x f = f v := by rw [h]; rfl
abbrev sp_nm (T : Int → Nat → Int) (c : Int) : Prop := T c 3 = 2 ∧ T c 6 = -1
noncomputable def sp_find (T : Int → Nat → Int) (A : Nat → Nat → Int) (s : Nat) (c : Int) : Except (Int × Int) Int :=
  if sp_nm T c then (if fi (A 2) (10 * s) (A 1 s) (T c 7) = -1 then .error (3, T c 4) else .ok (fi (A 2) (10 * s) (A 1 s) (T c 7))) else .error (1, T c 4)
abbrev sp_told (A : Nat → Nat → Int) (x : Int) : Prop := fi (A 2) 0 (A 1 0) x ≠ -1 ∨ fi (A 2) 10 (A 1 1) x ≠ -1 ∨ fi (A 2) 20 (A 1 2) x ≠ -1
noncomputable def sp_new (T : Int → Nat → Int) (N : Int → Int) (s : Nat) (mx : Int) (c : Int) (o : Nat → Int) (A : Nat → Nat → Int) : sp_R :=
  if mx ≤ A 1 s then .error (4, T c 4) else if sp_nm T (N c) then (if sp_told A (T (N c) 7) then .error (3, T (N c) 4) else .ok (N (N c), o, mm_up (mm_up A 2 (kk_up (A 2) (10 * s + (A 1 s).toNat) (T (N c) 7))) 1 (kk_up (A 1) s (A 1 s + 1)))) else .error (1, T (N c) 4)
noncomputable def sp_num (T : Int → Nat → Int) (c lo hi : Int) : Except (Int × Int) Int :=
  if T c 3 = 3 then (if lo ≤ T c 8 ∧ T c 8 ≤ hi then .ok (T c 8) else .error (2, T c 4)) else .error (1, T c 4)
noncomputable def sp_slips (T : Int → Nat → Int) (N : Int → Int) (c : Int) (o : Nat → Int) (A : Nat → Nat → Int) : sp_R :=
  sp_b (sp_num T c 1 9) (fun v => .ok (N c, o, mm_up A 3 (kk_up (A 3) (A 1 2 - 1).toNat v)))
/-- the deed y stands in one of both sets -/
abbrev sp_bit (u v y : Int) : Prop := kk_i2 3 (kk_i2 8 (kk_i2 4 u v) y) 1 ≠ 0
noncomputable def sp_rule (T : Int → Nat → Int) (N : Int → Int) (s : Nat) (c : Int) (o : Nat → Int) (A : Nat → Nat → Int) : sp_R :=
  sp_b (sp_find T A 2 (N c)) (fun x => sp_b (sp_find T A 0 (N (N c))) (fun y => if sp_bit (A 4 x.toNat) (A 5 x.toNat) y then .error (3, T (N (N c)) 4) else .ok (N (N (N c)), o, mm_up A s (kk_up (A s) x.toNat (kk_i2 4 (A s x.toNat) (kk_i2 6 1 y))))))
noncomputable def sp_work (T : Int → Nat → Int) (N : Int → Int) (c : Int) (o : Nat → Int) (A : Nat → Nat → Int) : sp_R :=
  sp_b (sp_find T A 1 (N c)) (fun x => sp_b (sp_find T A 0 (N (N c))) (fun y => if A 6 (x * 8 + y).toNat ≠ 0 then .error (3, T (N (N c)) 4) else sp_b (sp_num T (N (N (N c))) 1 20) (fun v => .ok (N (N (N (N c))), o, mm_up A 6 (kk_up (A 6) (x * 8 + y).toNat v)))))
noncomputable def sp_atone (T : Int → Nat → Int) (N : Int → Int) (c : Int) (o : Nat → Int) (A : Nat → Nat → Int) : sp_R :=
  if o 6 ≠ -1 then .error (3, T c 4) else sp_b (sp_find T A 0 (N c)) (fun y => .ok (N (N c), kk_up o 6 y, A))
noncomputable def sp_once (T : Int → Nat → Int) (N : Int → Int) (c : Int) (o : Nat → Int) (A : Nat → Nat → Int) : sp_R :=
  if o 7 ≠ 0 then .error (3, T c 4) else .ok (N c, kk_up o 7 1, A)
noncomputable def sp_line (T : Int → Nat → Int) (N : Int → Int) (c : Int) (o : Nat → Int) (A : Nat → Nat → Int) : sp_R :=
  if T c 6 = 0 then sp_new T N 0 8 c o A else if T c 6 = 1 then sp_new T N 1 4 c o A else if T c 6 = 2 then sp_b (sp_new T N 2 10 c o A) (fun s => sp_slips T N s.1 s.2.1 s.2.2) else if T c 6 = 3 then sp_rule T N 4 c o A else if T c 6 = 4 then sp_rule T N 5 c o A else if T c 6 = 5 then sp_work T N c o A else if T c 6 = 6 then sp_atone T N c o A else if T c 6 = 7 then sp_once T N c o A else .error (1, T c 4)
noncomputable def sp_lines (T : Int → Nat → Int) (N : Int → Int) : Nat → Int → Int → (Nat → Int) → (Nat → Nat → Int) → Except (Int × Int) (Int × (Nat → Int) × (Nat → Nat → Int))
  | 0, _, _, _, _ => .error (0, 0)
  | k + 1, i, c, o, A => if T c 3 = 1 then .ok (i, o, A) else sp_b (sp_line T N c o A) (fun s => if T s.1 3 = 59 then sp_lines T N k (i + 1) (N s.1) s.2.1 s.2.2 else .error (1, T s.1 4))
set_option maxRecDepth 100000 in
set_option maxHeartbeats 4000000 in
theorem xx_xHasBit (l : Launch) (d : Nat) (v a : Int) : kk_Ctr l d en_t_X10_hasBit [(0, v), (0, a)] [] (fun rs w' => w' = [] ∧ ((rs = [(0, 1)] ∧ kk_i2 3 (kk_i2 8 v a) 1 ≠ 0) ∨ (rs = [(0, 0)] ∧ kk_i2 3 (kk_i2 8 v a) 1 = 0))) := by
  refine kk_ctr en_hM (List.mem_of_getElem? (i := 41) rfl) rfl (Nat.le_of_ble_eq_true rfl) (fun K hC => ?_)
  repeat' first | refine hC.gn [] _ rfl rfl ?_ | refine And.intro ?_ ?_ | exact True.intro | refine hC.iadd [] rfl rfl (by first | omega | (simp only [Int.reduceToNat] at *; omega)) ?_ | refine hC.isub [] rfl rfl (by first | omega | (simp only [Int.reduceToNat] at *; omega)) ?_ | refine hC.imul [] rfl rfl (by first | omega | (simp only [Int.reduceToNat] at *; omega)) ?_ | refine hC.iinc [] rfl rfl rfl rfl (by first | omega | (simp only [Int.reduceToNat] at *; omega)) ?_ | refine hC.go [] _ rfl rfl ?_ | (intro h; first | exact (h rfl).elim | (exfalso; cases h; done) | (dsimp only [kk_cP, kk_cN] at h) | skip)
  all_goals first | rfl | exact Or.inl rfl | exact Or.inr rfl | exact Or.inl ⟨rfl, by assumption⟩ | exact Or.inr ⟨rfl, by assumption⟩
set_option maxRecDepth 100000 in
set_option maxHeartbeats 4000000 in
theorem hh_xPlaceOf (l : Launch) (d : Nat) (O A : Nat → Nat → Int) (s : Nat) (x : Int) (hc0 : hh_c A) (hs2 : s ≤ 2) : kk_Ctr l d en_t_X2_placeOf [(4, 0), (0, (s : Int)), (2, x)] (cx_H O A) (fun rs w' => w' = cx_H O A ∧ ∃ y, rs = [(0, y)] ∧ y = fi (A 2) (10 * s) (A 1 s) x) := by
  have hb := hh_at hc0 (s := (s : Int)) (by omega) (by omega)
  have es : ((s : Int)).toNat = s := Int.toNat_natCast s
  refine kk_ctr en_hM (List.mem_of_getElem? (i := 82) rfl) rfl (Nat.le_of_ble_eq_true rfl) (fun K hC => ?_)
  have k3 : ∀ (n : Nat) (i : Int), (11 - i).toNat < n → (0 ≤ i ∧ i ≤ 10) → (i ≤ A 1 ((s : Int)).toNat) → (∀ j : Nat, (j : Int) < i → A 2 (10 * s + j) ≠ x) → K 3 [(0, (4, 0)), (1, (0, (s : Int))), (2, (2, x)), (4, (0, i))] [] (cx_H O A) := by
    intro n
    induction n with
    | zero => intro i hz; exact absurd hz (Nat.not_lt_zero _)
    | succ n ih =>
      intro i hn g0 g1 g2
      refine hC.go [] _ rfl rfl ?_
      repeat' first | refine hC.gw [3] _ rfl rfl ?_ | refine And.intro ?_ ?_ | exact True.intro | refine hC.iadd [3] rfl rfl (by first | omega | (simp only [Int.reduceToNat] at *; omega)) ?_ | refine hC.isub [3] rfl rfl (by first | omega | (simp only [Int.reduceToNat] at *; omega)) ?_ | refine hC.imul [3] rfl rfl (by first | omega | (simp only [Int.reduceToNat] at *; omega)) ?_ | refine hC.iinc [3] rfl rfl rfl rfl (by first | omega | (simp only [Int.reduceToNat] at *; omega)) ?_ | refine hC.pfw (W := cx_H) [3] rfl rfl rfl rfl rfl rfl ?_ ?_ | refine hC.iaw (W := cx_H) [3] rfl rfl rfl rfl ?_ ?_ | refine hC.law (W := cx_H) [3] rfl rfl rfl rfl ?_ ?_ | refine hC.cpw (W := cx_H) [3] rfl rfl rfl rfl rfl rfl ?_ | refine hC.cpl (W := cx_H) [3] rfl rfl rfl rfl rfl rfl ?_ | refine hC.go [3] _ rfl rfl ?_ | (intro h; first | exact (h rfl).elim | (exfalso; cases h; done) | (dsimp only [kk_cP, kk_cN] at h) | skip)
      all_goals first | rfl | omega | skip
      all_goals (have eA : A 1 ((s : Int)).toNat = A 1 s := by rw [es])
      · exact ⟨_, rfl, fi_I.eq (Or.inr ⟨rfl, fun j hj => g2 j (by omega)⟩)⟩
      · refine hC.sub [(0, (4, 0)), (1, (0, _)), (2, (2, _)), (4, (0, _))] ⟨rfl, rfl, rfl, rfl, trivial⟩ (ih _ (by omega) (by omega) (by omega) (fun j hj => ?_))
        by_cases e : (j : Int) < i
        · exact g2 j e
        · rw [show 10 * s + j = ((s : Int) * 10 + i).toNat by omega]
          exact fun q => absurd (kk_cmp0.mpr q) (by assumption)
      · exact ⟨_, rfl, fi_I.eq (Or.inl ⟨g0.1, by omega, by rw [show 10 * s + i.toNat = ((s : Int) * 10 + i).toNat by omega]; exact kk_cmp0.mp (by assumption), g2⟩)⟩
  repeat' first | refine hC.gw [3] _ rfl rfl ?_ | refine And.intro ?_ ?_ | exact True.intro | refine hC.iadd [3] rfl rfl (by first | omega | (simp only [Int.reduceToNat] at *; omega)) ?_ | refine hC.isub [3] rfl rfl (by first | omega | (simp only [Int.reduceToNat] at *; omega)) ?_ | refine hC.imul [3] rfl rfl (by first | omega | (simp only [Int.reduceToNat] at *; omega)) ?_ | refine hC.iinc [3] rfl rfl rfl rfl (by first | omega | (simp only [Int.reduceToNat] at *; omega)) ?_ | refine hC.pfw (W := cx_H) [3] rfl rfl rfl rfl rfl rfl ?_ ?_ | refine hC.iaw (W := cx_H) [3] rfl rfl rfl rfl ?_ ?_ | refine hC.law (W := cx_H) [3] rfl rfl rfl rfl ?_ ?_ | refine hC.cpw (W := cx_H) [3] rfl rfl rfl rfl rfl rfl ?_ | refine hC.cpl (W := cx_H) [3] rfl rfl rfl rfl rfl rfl ?_ | refine hC.go [3] _ rfl rfl ?_ | (intro h; first | exact (h rfl).elim | (exfalso; cases h; done) | (dsimp only [kk_cP, kk_cN] at h) | skip)
  exact hC.sub [(0, (4, 0)), (1, (0, _)), (2, (2, _)), (4, (0, _))] ⟨rfl, rfl, rfl, rfl, trivial⟩ (k3 _ _ (Nat.lt_succ_self _) (by omega) (by omega) (fun j hj => absurd hj (by omega)))
set_option maxRecDepth 100000 in
set_option maxHeartbeats 4000000 in
theorem hh_xTold (l : Launch) (d : Nat) (O A : Nat → Nat → Int) (x : Int) (hc0 : hh_c A) : kk_Ctr l (d + 1) en_t_X2_isTold [(4, 0), (2, x)] (cx_H O A) (fun rs w' => w' = cx_H O A ∧ ((rs = [(0, 1)] ∧ sp_told A x) ∨ (rs = [(0, 0)] ∧ ¬ sp_told A x))) := by
  refine kk_ctr en_hM (List.mem_of_getElem? (i := 81) rfl) rfl (Nat.le_of_ble_eq_true rfl) (fun K hC => ?_)
  repeat' first | refine hC.gw [] _ rfl rfl ?_ | refine And.intro ?_ ?_ | exact True.intro | refine hC.iadd [] rfl rfl (by first | omega | (simp only [Int.reduceToNat] at *; omega)) ?_ | refine hC.isub [] rfl rfl (by first | omega | (simp only [Int.reduceToNat] at *; omega)) ?_ | refine hC.imul [] rfl rfl (by first | omega | (simp only [Int.reduceToNat] at *; omega)) ?_ | refine hC.iinc [] rfl rfl rfl rfl (by first | omega | (simp only [Int.reduceToNat] at *; omega)) ?_ | refine hC.pfw (W := cx_H) [] rfl rfl rfl rfl rfl rfl ?_ ?_ | refine hC.iaw (W := cx_H) [] rfl rfl rfl rfl ?_ ?_ | refine hC.law (W := cx_H) [] rfl rfl rfl rfl ?_ ?_ | refine hC.cpw (W := cx_H) [] rfl rfl rfl rfl rfl rfl ?_ | refine hC.cpl (W := cx_H) [] rfl rfl rfl rfl rfl rfl ?_ | refine hC.go [] _ rfl rfl ?_ | (intro h; first | exact (h rfl).elim | (exfalso; cases h; done) | (dsimp only [kk_cP, kk_cN] at h) | skip)
  refine hC.same (hh_xPlaceOf l _ _ _ 0 _ hc0 (by decide)) rfl rfl rfl rfl (Nat.le_refl _) ?_
  rintro rs w' ⟨rfl, y0, rfl, h0⟩
  have h0 : y0 = fi (A 2) 0 (A 1 0) x := h0
  repeat' first | refine hC.gw [] _ rfl rfl ?_ | refine And.intro ?_ ?_ | exact True.intro | refine hC.iadd [] rfl rfl (by first | omega | (simp only [Int.reduceToNat] at *; omega)) ?_ | refine hC.isub [] rfl rfl (by first | omega | (simp only [Int.reduceToNat] at *; omega)) ?_ | refine hC.imul [] rfl rfl (by first | omega | (simp only [Int.reduceToNat] at *; omega)) ?_ | refine hC.iinc [] rfl rfl rfl rfl (by first | omega | (simp only [Int.reduceToNat] at *; omega)) ?_ | refine hC.pfw (W := cx_H) [] rfl rfl rfl rfl rfl rfl ?_ ?_ | refine hC.iaw (W := cx_H) [] rfl rfl rfl rfl ?_ ?_ | refine hC.law (W := cx_H) [] rfl rfl rfl rfl ?_ ?_ | refine hC.cpw (W := cx_H) [] rfl rfl rfl rfl rfl rfl ?_ | refine hC.cpl (W := cx_H) [] rfl rfl rfl rfl rfl rfl ?_ | refine hC.go [] _ rfl rfl ?_ | (intro h; first | exact (h rfl).elim | (exfalso; cases h; done) | (dsimp only [kk_cP, kk_cN] at h) | skip)
  all_goals first | rfl | exact Or.inl rfl | exact Or.inr rfl | exact Or.inl ⟨rfl, Or.inl (by omega)⟩ | skip
  refine hC.same (hh_xPlaceOf l _ _ _ 1 _ hc0 (by decide)) rfl rfl rfl rfl (Nat.le_refl _) ?_
  rintro rs w' ⟨rfl, y1, rfl, h1⟩
  have h1 : y1 = fi (A 2) 10 (A 1 1) x := h1
  repeat' first | refine hC.gw [] _ rfl rfl ?_ | refine And.intro ?_ ?_ | exact True.intro | refine hC.iadd [] rfl rfl (by first | omega | (simp only [Int.reduceToNat] at *; omega)) ?_ | refine hC.isub [] rfl rfl (by first | omega | (simp only [Int.reduceToNat] at *; omega)) ?_ | refine hC.imul [] rfl rfl (by first | omega | (simp only [Int.reduceToNat] at *; omega)) ?_ | refine hC.iinc [] rfl rfl rfl rfl (by first | omega | (simp only [Int.reduceToNat] at *; omega)) ?_ | refine hC.pfw (W := cx_H) [] rfl rfl rfl rfl rfl rfl ?_ ?_ | refine hC.iaw (W := cx_H) [] rfl rfl rfl rfl ?_ ?_ | refine hC.law (W := cx_H) [] rfl rfl rfl rfl ?_ ?_ | refine hC.cpw (W := cx_H) [] rfl rfl rfl rfl rfl rfl ?_ | refine hC.cpl (W := cx_H) [] rfl rfl rfl rfl rfl rfl ?_ | refine hC.go [] _ rfl rfl ?_ | (intro h; first | exact (h rfl).elim | (exfalso; cases h; done) | (dsimp only [kk_cP, kk_cN] at h) | skip)
  all_goals first | rfl | exact Or.inl rfl | exact Or.inr rfl | exact Or.inl ⟨rfl, Or.inr (Or.inl (by omega))⟩ | skip
  refine hC.same (hh_xPlaceOf l _ _ _ 2 _ hc0 (by decide)) rfl rfl rfl rfl (Nat.le_refl _) ?_
  rintro rs w' ⟨rfl, y2, rfl, h2⟩
  have h2 : y2 = fi (A 2) 20 (A 1 2) x := h2
  repeat' first | refine hC.gw [] _ rfl rfl ?_ | refine And.intro ?_ ?_ | exact True.intro | refine hC.iadd [] rfl rfl (by first | omega | (simp only [Int.reduceToNat] at *; omega)) ?_ | refine hC.isub [] rfl rfl (by first | omega | (simp only [Int.reduceToNat] at *; omega)) ?_ | refine hC.imul [] rfl rfl (by first | omega | (simp only [Int.reduceToNat] at *; omega)) ?_ | refine hC.iinc [] rfl rfl rfl rfl (by first | omega | (simp only [Int.reduceToNat] at *; omega)) ?_ | refine hC.pfw (W := cx_H) [] rfl rfl rfl rfl rfl rfl ?_ ?_ | refine hC.iaw (W := cx_H) [] rfl rfl rfl rfl ?_ ?_ | refine hC.law (W := cx_H) [] rfl rfl rfl rfl ?_ ?_ | refine hC.cpw (W := cx_H) [] rfl rfl rfl rfl rfl rfl ?_ | refine hC.cpl (W := cx_H) [] rfl rfl rfl rfl rfl rfl ?_ | refine hC.go [] _ rfl rfl ?_ | (intro h; first | exact (h rfl).elim | (exfalso; cases h; done) | (dsimp only [kk_cP, kk_cN] at h) | skip)
  all_goals first | rfl | exact Or.inl rfl | exact Or.inr rfl | exact Or.inl ⟨rfl, Or.inr (Or.inr (by omega))⟩ | exact Or.inr ⟨rfl, by omega⟩ | skip
