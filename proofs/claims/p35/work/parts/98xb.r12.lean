/-! READING, 12b: the class reads a house, to its end -/
section
variable {tn mo : Int} {a : Int → Int} {res : Nat → Int} {c : Int}
theorem tk_nx_ge (hx : tk_cx tn a) (h : tk_at tn a c) : c ≤ tk_nx tn mo a res c ∧ (2 ≤ tk_ob tn mo a res c 3 → c < tk_nx tn mo a res c) := by
  have hT := tk_ob_T tn mo a res c
  obtain ⟨b0, b1⟩ := hT.b5 hx h.1 h.2.1 h.2.2.symm
  obtain ⟨-, s2, -⟩ := tk_sk_x hx.1 (k := 940) (p := tk_ob tn mo a res c 5) (by have := hx.2; omega)
  have key : c ≤ tk_ob tn mo a res c 5 ∧ (2 ≤ tk_ob tn mo a res c 3 → c < tk_ob tn mo a res c 5) := by
    rcases hT with ⟨c1, h3, h4, h5, h6⟩ | ⟨c1, c2, h3, h4, h5, h6⟩ | ⟨c1, c2, h4, ⟨an, L, D, nm, nu, hr, he, hk⟩ | ⟨an, h5, h6, hk⟩⟩
    · omega
    · omega
    · have e2 := tk_en_ge (a := a) (k := 939) (p := c + 1)
      have e1 : tk_en a 940 c = tk_en a 939 (c + 1) := tk_en_y an
      omega
    · omega
  unfold tk_nx
  omega
end
theorem sp_line_ok {T : Int → Nat → Int} {N : Int → Int} {c : Int} {o : Nat → Int} {A : Nat → Nat → Int} {s : sp_S} (h : sp_line T N c o A = .ok s) : 0 ≤ T c 6 ∧ (s.1 = N c ∨ s.1 = N (N c) ∨ s.1 = N (N (N c)) ∨ s.1 = N (N (N (N c)))) := by
  have hnew : ∀ {k : Nat} {mx : Int} {r : sp_S}, sp_new T N k mx c o A = .ok r → r.1 = N (N c) := by
    intro k mx r h
    unfold sp_new at h
    split at h
    · cases h
    · split at h
      · split at h
        · cases h
        · cases h; rfl
      · cases h
  have hrule : ∀ {k : Nat} {r : sp_S}, sp_rule T N k c o A = .ok r → r.1 = N (N (N c)) := by
    intro k r h
    unfold sp_rule at h
    cases h1 : sp_find T A 2 (N c) with
    | error e => rw [sp_b_e h1] at h; cases h
    | ok x =>
      rw [sp_b_k h1] at h
      cases h2 : sp_find T A 0 (N (N c)) with
      | error e => rw [sp_b_e h2] at h; cases h
      | ok y =>
        rw [sp_b_k h2] at h
        split at h
        · cases h
        · cases h; rfl
  obtain ⟨l0, l1, l2, l3, l4, l5, l6, l7, l8⟩ := sp_line_eq (T := T) (N := N) (c := c) (o := o) (A := A)
  by_cases q : T c 6 < 0 ∨ 7 < T c 6
  · rw [l8 q] at h; cases h
  refine ⟨by omega, ?_⟩
  rcases (show T c 6 = 0 ∨ T c 6 = 1 ∨ T c 6 = 2 ∨ T c 6 = 3 ∨ T c 6 = 4 ∨ T c 6 = 5 ∨ T c 6 = 6 ∨ T c 6 = 7 by omega) with e | e | e | e | e | e | e | e
  · exact Or.inr (Or.inl (hnew ((l0 e).symm.trans h)))
  · exact Or.inr (Or.inl (hnew ((l1 e).symm.trans h)))
  · rw [l2 e] at h
    cases h1 : sp_new T N 2 10 c o A with
    | error e => rw [sp_b_e h1] at h; cases h
    | ok x =>
      rw [sp_b_k h1] at h
      have hx := hnew h1
      unfold sp_slips at h
      cases h2 : sp_num T x.1 1 9 with
      | error e => rw [sp_b_e h2] at h; cases h
      | ok y =>
        rw [sp_b_k h2] at h
        cases h
        exact Or.inr (Or.inr (Or.inl (by show N x.1 = _; rw [hx])))
  · exact Or.inr (Or.inr (Or.inl (hrule ((l3 e).symm.trans h))))
  · exact Or.inr (Or.inr (Or.inl (hrule ((l4 e).symm.trans h))))
  · rw [l5 e] at h
    unfold sp_work at h
    cases h1 : sp_find T A 1 (N c) with
    | error e => rw [sp_b_e h1] at h; cases h
    | ok x =>
      rw [sp_b_k h1] at h
      cases h2 : sp_find T A 0 (N (N c)) with
      | error e => rw [sp_b_e h2] at h; cases h
      | ok y =>
        rw [sp_b_k h2] at h
        split at h
        · cases h
        · cases h3 : sp_num T (N (N (N c))) 1 20 with
          | error e => rw [sp_b_e h3] at h; cases h
          | ok v =>
            rw [sp_b_k h3] at h
            cases h
            exact Or.inr (Or.inr (Or.inr rfl))
  · rw [l6 e] at h
    unfold sp_atone at h
    split at h
    · cases h
    · cases h2 : sp_find T A 0 (N c) with
      | error e => rw [sp_b_e h2] at h; cases h
      | ok y =>
        rw [sp_b_k h2] at h
        cases h
        exact Or.inr (Or.inl rfl)
  · rw [l7 e] at h
    unfold sp_once at h
    split at h
    · cases h
    · cases h
      exact Or.inl rfl
/-- a token that is a reserved word is a word -/
theorem tk_ob_w {tn mo : Int} {a : Int → Int} {res : Nat → Int} {c : Int} (h : 0 ≤ tk_ob tn mo a res c 6) : tk_ob tn mo a res c 3 = 2 := by
  rcases tk_ob_T tn mo a res c with ⟨c1, h3, h4, h5, h6⟩ | ⟨c1, c2, h3, h4, h5, h6⟩ | ⟨c1, c2, h4, ⟨an, L, D, nm, nu, hr, he, hk⟩ | ⟨an, h5, h6, hk⟩⟩
  · omega
  · omega
  · rcases hk with ⟨k1, k2, k3, k4⟩ | ⟨k1, k2, k3⟩
    · exact k3
    · omega
  · omega
theorem sp_line_lt {tn mo : Int} {a : Int → Int} {res : Nat → Int} {c : Int} {o : Nat → Int} {A : Nat → Nat → Int} {s : sp_S} (hx : tk_cx tn a) (hc : tk_at tn a c) (h : sp_line (tk_ob tn mo a res) (tk_nx tn mo a res) c o A = .ok s) : c < s.1 ∧ tk_at tn a s.1 := by
  obtain ⟨h0, h1⟩ := sp_line_ok h
  have g1 := tk_nx_ge (mo := mo) (res := res) hx hc
  have a1 := hc.nx (most := mo) (res := res) hx
  have g2 := tk_nx_ge (mo := mo) (res := res) hx a1
  have a2 := a1.nx (most := mo) (res := res) hx
  have g3 := tk_nx_ge (mo := mo) (res := res) hx a2
  have a3 := a2.nx (most := mo) (res := res) hx
  have g4 := tk_nx_ge (mo := mo) (res := res) hx a3
  have a4 := a3.nx (most := mo) (res := res) hx
  have hk := tk_ob_w h0
  rcases h1 with e | e | e | e
  · exact ⟨by omega, by rw [e]; exact a1⟩
  · exact ⟨by omega, by rw [e]; exact a2⟩
  · exact ⟨by omega, by rw [e]; exact a3⟩
  · exact ⟨by omega, by rw [e]; exact a4⟩
theorem sp_lines_e {T : Int → Nat → Int} {N : Int → Int} {k : Nat} {i c : Int} {o : Nat → Int} {A : Nat → Nat → Int} (h : T c 3 = 1) : sp_lines T N (k + 1) i c o A = .ok (i, o, A) := by rw [sp_lines, if_pos h]
theorem sp_lines_n {T : Int → Nat → Int} {N : Int → Int} {k : Nat} {i c : Int} {o : Nat → Int} {A : Nat → Nat → Int} (h : T c 3 ≠ 1) : sp_lines T N (k + 1) i c o A = sp_b (sp_line T N c o A) (fun s => if T s.1 3 = 59 then sp_lines T N k (i + 1) (N s.1) s.2.1 s.2.2 else .error (1, T s.1 4)) := by rw [sp_lines, if_neg h]
/-- a house of which nothing was told -/
def hz0 (o : Nat → Int) (A : Nat → Nat → Int) : Prop := (∀ j, j < 3 → A 1 j = 0) ∧ (∀ j, j < 10 → A 3 j = 0 ∧ A 4 j = 0 ∧ A 5 j = 0) ∧ (∀ j, j < 32 → A 6 j = 0) ∧ o 6 = -1 ∧ o 7 = 0
set_option maxRecDepth 100000 in
set_option maxHeartbeats 4000000 in
theorem hh_xClear (l : Launch) (d : Nat) (O A : Nat → Nat → Int) : kk_Ctr l (d + 1) en_t_X2_clear [(4, 0)] (cx_H O A) (fun rs w' => ∃ O' A', w' = cx_H O' A' ∧ rs = [] ∧ hz0 (O' 0) A') := by
  refine kk_ctr en_hM (List.mem_of_getElem? (i := 69) rfl) rfl (Nat.le_of_ble_eq_true rfl) (fun K hC => ?_)
  repeat' first | refine hC.gw [] _ rfl rfl ?_ | refine And.intro ?_ ?_ | exact True.intro | refine hC.iadd [] rfl rfl (by first | omega | (simp only [Int.reduceToNat] at *; omega)) ?_ | refine hC.isub [] rfl rfl (by first | omega | (simp only [Int.reduceToNat] at *; omega)) ?_ | refine hC.imul [] rfl rfl (by first | omega | (simp only [Int.reduceToNat] at *; omega)) ?_ | refine hC.iinc [] rfl rfl rfl rfl (by first | omega | (simp only [Int.reduceToNat] at *; omega)) ?_ | refine hC.pfw (W := cx_H) [] rfl rfl rfl rfl rfl rfl ?_ ?_ | refine hC.iaw (W := cx_H) [] rfl rfl rfl rfl ?_ ?_ | refine hC.law (W := cx_H) [] rfl rfl rfl rfl ?_ ?_ | refine hC.cpw (W := cx_H) [] rfl rfl rfl rfl rfl rfl ?_ | refine hC.cpl (W := cx_H) [] rfl rfl rfl rfl rfl rfl ?_ | refine hC.go [] _ rfl rfl ?_ | (intro h; first | exact (h rfl).elim | (exfalso; cases h; done) | (dsimp only [kk_cP, kk_cN] at h) | skip)
  refine hC.at ce_H_f1 (jj_fi3 l _ _ _ _) rfl rfl rfl rfl rfl rfl (Nat.le_refl _) ?_
  rintro rs O1 A1 ⟨rfl, h1⟩
  repeat' first | refine hC.gw [] _ rfl rfl ?_ | refine And.intro ?_ ?_ | exact True.intro | refine hC.iadd [] rfl rfl (by first | omega | (simp only [Int.reduceToNat] at *; omega)) ?_ | refine hC.isub [] rfl rfl (by first | omega | (simp only [Int.reduceToNat] at *; omega)) ?_ | refine hC.imul [] rfl rfl (by first | omega | (simp only [Int.reduceToNat] at *; omega)) ?_ | refine hC.iinc [] rfl rfl rfl rfl (by first | omega | (simp only [Int.reduceToNat] at *; omega)) ?_ | refine hC.pfw (W := cx_H) [] rfl rfl rfl rfl rfl rfl ?_ ?_ | refine hC.iaw (W := cx_H) [] rfl rfl rfl rfl ?_ ?_ | refine hC.law (W := cx_H) [] rfl rfl rfl rfl ?_ ?_ | refine hC.cpw (W := cx_H) [] rfl rfl rfl rfl rfl rfl ?_ | refine hC.cpl (W := cx_H) [] rfl rfl rfl rfl rfl rfl ?_ | refine hC.go [] _ rfl rfl ?_ | (intro h; first | exact (h rfl).elim | (exfalso; cases h; done) | (dsimp only [kk_cP, kk_cN] at h) | skip)
  refine hC.at ce_H_f2 (jj_fl30 l _ _ _ _) rfl rfl rfl rfl rfl rfl (Nat.le_refl _) ?_
  rintro rs O2 A2 rfl
  repeat' first | refine hC.gw [] _ rfl rfl ?_ | refine And.intro ?_ ?_ | exact True.intro | refine hC.iadd [] rfl rfl (by first | omega | (simp only [Int.reduceToNat] at *; omega)) ?_ | refine hC.isub [] rfl rfl (by first | omega | (simp only [Int.reduceToNat] at *; omega)) ?_ | refine hC.imul [] rfl rfl (by first | omega | (simp only [Int.reduceToNat] at *; omega)) ?_ | refine hC.iinc [] rfl rfl rfl rfl (by first | omega | (simp only [Int.reduceToNat] at *; omega)) ?_ | refine hC.pfw (W := cx_H) [] rfl rfl rfl rfl rfl rfl ?_ ?_ | refine hC.iaw (W := cx_H) [] rfl rfl rfl rfl ?_ ?_ | refine hC.law (W := cx_H) [] rfl rfl rfl rfl ?_ ?_ | refine hC.cpw (W := cx_H) [] rfl rfl rfl rfl rfl rfl ?_ | refine hC.cpl (W := cx_H) [] rfl rfl rfl rfl rfl rfl ?_ | refine hC.go [] _ rfl rfl ?_ | (intro h; first | exact (h rfl).elim | (exfalso; cases h; done) | (dsimp only [kk_cP, kk_cN] at h) | skip)
  refine hC.at ce_H_f3 (jj_fi10 l _ _ _ _) rfl rfl rfl rfl rfl rfl (Nat.le_refl _) ?_
  rintro rs O3 A3 ⟨rfl, h3⟩
  repeat' first | refine hC.gw [] _ rfl rfl ?_ | refine And.intro ?_ ?_ | exact True.intro | refine hC.iadd [] rfl rfl (by first | omega | (simp only [Int.reduceToNat] at *; omega)) ?_ | refine hC.isub [] rfl rfl (by first | omega | (simp only [Int.reduceToNat] at *; omega)) ?_ | refine hC.imul [] rfl rfl (by first | omega | (simp only [Int.reduceToNat] at *; omega)) ?_ | refine hC.iinc [] rfl rfl rfl rfl (by first | omega | (simp only [Int.reduceToNat] at *; omega)) ?_ | refine hC.pfw (W := cx_H) [] rfl rfl rfl rfl rfl rfl ?_ ?_ | refine hC.iaw (W := cx_H) [] rfl rfl rfl rfl ?_ ?_ | refine hC.law (W := cx_H) [] rfl rfl rfl rfl ?_ ?_ | refine hC.cpw (W := cx_H) [] rfl rfl rfl rfl rfl rfl ?_ | refine hC.cpl (W := cx_H) [] rfl rfl rfl rfl rfl rfl ?_ | refine hC.go [] _ rfl rfl ?_ | (intro h; first | exact (h rfl).elim | (exfalso; cases h; done) | (dsimp only [kk_cP, kk_cN] at h) | skip)
  refine hC.at ce_H_f4 (jj_fi10 l _ _ _ _) rfl rfl rfl rfl rfl rfl (Nat.le_refl _) ?_
  rintro rs O4 A4 ⟨rfl, h4⟩
  repeat' first | refine hC.gw [] _ rfl rfl ?_ | refine And.intro ?_ ?_ | exact True.intro | refine hC.iadd [] rfl rfl (by first | omega | (simp only [Int.reduceToNat] at *; omega)) ?_ | refine hC.isub [] rfl rfl (by first | omega | (simp only [Int.reduceToNat] at *; omega)) ?_ | refine hC.imul [] rfl rfl (by first | omega | (simp only [Int.reduceToNat] at *; omega)) ?_ | refine hC.iinc [] rfl rfl rfl rfl (by first | omega | (simp only [Int.reduceToNat] at *; omega)) ?_ | refine hC.pfw (W := cx_H) [] rfl rfl rfl rfl rfl rfl ?_ ?_ | refine hC.iaw (W := cx_H) [] rfl rfl rfl rfl ?_ ?_ | refine hC.law (W := cx_H) [] rfl rfl rfl rfl ?_ ?_ | refine hC.cpw (W := cx_H) [] rfl rfl rfl rfl rfl rfl ?_ | refine hC.cpl (W := cx_H) [] rfl rfl rfl rfl rfl rfl ?_ | refine hC.go [] _ rfl rfl ?_ | (intro h; first | exact (h rfl).elim | (exfalso; cases h; done) | (dsimp only [kk_cP, kk_cN] at h) | skip)
  refine hC.at ce_H_f5 (jj_fi10 l _ _ _ _) rfl rfl rfl rfl rfl rfl (Nat.le_refl _) ?_
  rintro rs O5 A5 ⟨rfl, h5⟩
  repeat' first | refine hC.gw [] _ rfl rfl ?_ | refine And.intro ?_ ?_ | exact True.intro | refine hC.iadd [] rfl rfl (by first | omega | (simp only [Int.reduceToNat] at *; omega)) ?_ | refine hC.isub [] rfl rfl (by first | omega | (simp only [Int.reduceToNat] at *; omega)) ?_ | refine hC.imul [] rfl rfl (by first | omega | (simp only [Int.reduceToNat] at *; omega)) ?_ | refine hC.iinc [] rfl rfl rfl rfl (by first | omega | (simp only [Int.reduceToNat] at *; omega)) ?_ | refine hC.pfw (W := cx_H) [] rfl rfl rfl rfl rfl rfl ?_ ?_ | refine hC.iaw (W := cx_H) [] rfl rfl rfl rfl ?_ ?_ | refine hC.law (W := cx_H) [] rfl rfl rfl rfl ?_ ?_ | refine hC.cpw (W := cx_H) [] rfl rfl rfl rfl rfl rfl ?_ | refine hC.cpl (W := cx_H) [] rfl rfl rfl rfl rfl rfl ?_ | refine hC.go [] _ rfl rfl ?_ | (intro h; first | exact (h rfl).elim | (exfalso; cases h; done) | (dsimp only [kk_cP, kk_cN] at h) | skip)
  refine hC.at ce_H_f6 (jj_fi32 l _ _ _ _) rfl rfl rfl rfl rfl rfl (Nat.le_refl _) ?_
  rintro rs O6 A6 ⟨rfl, h6⟩
  repeat' first | refine hC.gw [] _ rfl rfl ?_ | refine And.intro ?_ ?_ | exact True.intro | refine hC.iadd [] rfl rfl (by first | omega | (simp only [Int.reduceToNat] at *; omega)) ?_ | refine hC.isub [] rfl rfl (by first | omega | (simp only [Int.reduceToNat] at *; omega)) ?_ | refine hC.imul [] rfl rfl (by first | omega | (simp only [Int.reduceToNat] at *; omega)) ?_ | refine hC.iinc [] rfl rfl rfl rfl (by first | omega | (simp only [Int.reduceToNat] at *; omega)) ?_ | refine hC.pfw (W := cx_H) [] rfl rfl rfl rfl rfl rfl ?_ ?_ | refine hC.iaw (W := cx_H) [] rfl rfl rfl rfl ?_ ?_ | refine hC.law (W := cx_H) [] rfl rfl rfl rfl ?_ ?_ | refine hC.cpw (W := cx_H) [] rfl rfl rfl rfl rfl rfl ?_ | refine hC.cpl (W := cx_H) [] rfl rfl rfl rfl rfl rfl ?_ | refine hC.go [] _ rfl rfl ?_ | (intro h; first | exact (h rfl).elim | (exfalso; cases h; done) | (dsimp only [kk_cP, kk_cN] at h) | skip)
  all_goals first | exact Or.inl rfl | skip
  exact ⟨_, _, rfl, rfl, h1, fun j hj => ⟨h3 j hj, h4 j hj, h5 j hj⟩, h6, rfl, rfl⟩
theorem hz0.c {o : Nat → Int} {A : Nat → Nat → Int} (h : hz0 o A) : hh_c A := by
  have e0 := h.1 0 (by decide)
  have e1 := h.1 1 (by decide)
  have e2 := h.1 2 (by decide)
  exact ⟨by omega, by omega, by omega⟩
/-- what the reading of a house leaves -/
def hx_G (T Bt : Nat → Int) (tn mo : Int) (a : Int → Int) (res : Nat → Int) (rs : List en_V) (O' A' : Nat → Nat → Int) : Prop := ∃ o0 A0, hr_J T Bt res O' A' ∧ A' 8 = res ∧ hz0 o0 A0 ∧ ((∃ e, sp_lines (tk_ob tn mo a res) (tk_nx tn mo a res) 941 0 (tk_sk a 940 0) o0 A0 = .error e ∧ rs = [(0, -1)] ∧ O' 7 9 = e.1 ∧ O' 7 10 = e.2) ∨ (∃ s, sp_lines (tk_ob tn mo a res) (tk_nx tn mo a res) 941 0 (tk_sk a 940 0) o0 A0 = .ok s ∧ rs = [(0, s.1)] ∧ 0 ≤ s.1 ∧ O' 7 9 = 0 ∧ O' 0 = s.2.1 ∧ A' = s.2.2))
theorem hr_xReadFrom (l : Launch) (d : Nat) {T Bt : Nat → Int} {tn : Int} {a : Int → Int} {res : Nat → Int} (O A : Nat → Nat → Int) (h9 : O 9 = T) (h10 : A 10 = Bt) (ht : rt 8 9 10 tn a res O A) : kk_Ctr l (d + 5) en_t_X2_readFrom [(4, 0), (4, 7)] (cx_HR O A) (fun rs w' => ∃ O' A', w' = cx_HR O' A' ∧ hx_G T Bt tn 900 a res rs O' A') := by
  have hT : 0 ≤ T 1 ∧ T 1 ≤ 940 := by rw [← h9, ht.1]; exact ht.2.2.2.2
  have hx := ht.2.2.2
  refine kk_ctr en_hM (List.mem_of_getElem? (i := 58) rfl) rfl (Nat.le_of_ble_eq_true rfl) (fun K hC => ?_)
  have k13s : ∀ (o0 : Nat → Int) (A0 : Nat → Nat → Int) (sp : Except (Int × Int) (Int × (Nat → Int) × (Nat → Nat → Int))), hz0 o0 A0 → sp_lines (tk_ob tn 900 a res) (tk_nx tn 900 a res) 941 0 (tk_sk a 940 0) o0 A0 = sp → ∀ (m : Nat) (k : Nat) (i : Int) (c : Int) (O A : Nat → Nat → Int), k < m → (k : Int) + i = 941 → 0 ≤ i → 2 * i ≤ c → hr_J T Bt res O A → rdw 7 8 9 10 tn 900 a res c O A → sp_lines (tk_ob tn 900 a res) (tk_nx tn 900 a res) k i c (O 0) A = sp → K 13 [(0, (4, 0)), (1, (4, 7)), (2, (0, i))] [] (cx_HR O A) := by
    intro o0 A0 sp hz hs0 m
    induction m with
    | zero => intro k i c O A h; exact absurd h (Nat.not_lt_zero _)
    | succ m ihm =>
      intro k i c O A hkm hki i0 ic hJ hr hs
      have hcn := hr.2.1.2.1
      have hx2 := hx.2
      obtain ⟨k', rfl⟩ : ∃ k', k = k' + 1 := ⟨k - 1, by omega⟩
      have hkd := hr.kd
      refine hC.go [] _ rfl rfl ?_
      repeat' first | refine hC.gw [13] _ rfl rfl ?_ | refine And.intro ?_ ?_ | exact True.intro | refine hC.iadd [13] rfl rfl (by first | omega | (simp only [Int.reduceToNat] at *; omega)) ?_ | refine hC.isub [13] rfl rfl (by first | omega | (simp only [Int.reduceToNat] at *; omega)) ?_ | refine hC.imul [13] rfl rfl (by first | omega | (simp only [Int.reduceToNat] at *; omega)) ?_ | refine hC.iinc [13] rfl rfl rfl rfl (by first | omega | (simp only [Int.reduceToNat] at *; omega)) ?_ | refine hC.pfw (W := cx_HR) [13] rfl rfl rfl rfl rfl rfl ?_ ?_ | refine hC.iaw (W := cx_HR) [13] rfl rfl rfl rfl ?_ ?_ | refine hC.law (W := cx_HR) [13] rfl rfl rfl rfl ?_ ?_ | refine hC.cpw (W := cx_HR) [13] rfl rfl rfl rfl rfl rfl ?_ | refine hC.cpl (W := cx_HR) [13] rfl rfl rfl rfl rfl rfl ?_ | refine hC.go [13] _ rfl rfl ?_ | (intro h; first | exact (h rfl).elim | (exfalso; cases h; done) | (dsimp only [kk_cP, kk_cN] at h) | skip)
      all_goals first | omega | skip
      · have hne : tk_ob tn 900 a res c 3 ≠ 1 := by rw [← hkd]; assumption
        have hs1 := (sp_lines_n hne).symm.trans hs
        refine hC.same (hr_xReadLine l _ O A hJ hr) rfl rfl rfl rfl (Nat.le_refl _) ?_
        rintro rs w' ⟨O2, A2, rfl, hJ2, h82, ⟨e, es, rfl, q1, q2⟩ | ⟨s, es, rfl, q1, q2, q3⟩⟩
        · repeat' first | refine hC.gw [13] _ rfl rfl ?_ | refine And.intro ?_ ?_ | exact True.intro | refine hC.iadd [13] rfl rfl (by first | omega | (simp only [Int.reduceToNat] at *; omega)) ?_ | refine hC.isub [13] rfl rfl (by first | omega | (simp only [Int.reduceToNat] at *; omega)) ?_ | refine hC.imul [13] rfl rfl (by first | omega | (simp only [Int.reduceToNat] at *; omega)) ?_ | refine hC.iinc [13] rfl rfl rfl rfl (by first | omega | (simp only [Int.reduceToNat] at *; omega)) ?_ | refine hC.pfw (W := cx_HR) [13] rfl rfl rfl rfl rfl rfl ?_ ?_ | refine hC.iaw (W := cx_HR) [13] rfl rfl rfl rfl ?_ ?_ | refine hC.law (W := cx_HR) [13] rfl rfl rfl rfl ?_ ?_ | refine hC.cpw (W := cx_HR) [13] rfl rfl rfl rfl rfl rfl ?_ | refine hC.cpl (W := cx_HR) [13] rfl rfl rfl rfl rfl rfl ?_ | refine hC.go [13] _ rfl rfl ?_ | (intro h; first | exact (h rfl).elim | (exfalso; cases h; done) | (dsimp only [kk_cP, kk_cN] at h) | skip)
          exact ⟨O2, A2, rfl, o0, A0, hJ2, h82, hz, Or.inl ⟨e, hs0.trans (hs1.symm.trans (sp_b_e es)), rfl, q1, q2⟩⟩
        · have hs2 := hs1.symm.trans (sp_b_k es)
          obtain ⟨hlt, hat⟩ := sp_line_lt hx hr.2.1 es
          repeat' first | refine hC.gw [13] _ rfl rfl ?_ | refine And.intro ?_ ?_ | exact True.intro | refine hC.iadd [13] rfl rfl (by first | omega | (simp only [Int.reduceToNat] at *; omega)) ?_ | refine hC.isub [13] rfl rfl (by first | omega | (simp only [Int.reduceToNat] at *; omega)) ?_ | refine hC.imul [13] rfl rfl (by first | omega | (simp only [Int.reduceToNat] at *; omega)) ?_ | refine hC.iinc [13] rfl rfl rfl rfl (by first | omega | (simp only [Int.reduceToNat] at *; omega)) ?_ | refine hC.pfw (W := cx_HR) [13] rfl rfl rfl rfl rfl rfl ?_ ?_ | refine hC.iaw (W := cx_HR) [13] rfl rfl rfl rfl ?_ ?_ | refine hC.law (W := cx_HR) [13] rfl rfl rfl rfl ?_ ?_ | refine hC.cpw (W := cx_HR) [13] rfl rfl rfl rfl rfl rfl ?_ | refine hC.cpl (W := cx_HR) [13] rfl rfl rfl rfl rfl rfl ?_ | refine hC.go [13] _ rfl rfl ?_ | (intro h; first | exact (h rfl).elim | (exfalso; cases h; done) | (dsimp only [kk_cP, kk_cN] at h) | skip)
          refine rx_takeSign hC ce_HR_R rfl _ q1 (Nat.le_refl _) rfl rfl rfl rfl rfl ?_ ?_
          · intro h59 r3 hr3
            have e59 : tk_ob tn 900 a res s.1 3 = 59 := by rw [← q1.kd]; exact h59
            have hs3 := hs2.trans (if_pos e59)
            have g := (tk_nx_ge (mo := 900) (res := res) hx hat).2 (by omega)
            repeat' first | refine hC.gw [13] _ rfl rfl ?_ | refine And.intro ?_ ?_ | exact True.intro | refine hC.iadd [13] rfl rfl (by first | omega | (simp only [Int.reduceToNat] at *; omega)) ?_ | refine hC.isub [13] rfl rfl (by first | omega | (simp only [Int.reduceToNat] at *; omega)) ?_ | refine hC.imul [13] rfl rfl (by first | omega | (simp only [Int.reduceToNat] at *; omega)) ?_ | refine hC.iinc [13] rfl rfl rfl rfl (by first | omega | (simp only [Int.reduceToNat] at *; omega)) ?_ | refine hC.pfw (W := cx_HR) [13] rfl rfl rfl rfl rfl rfl ?_ ?_ | refine hC.iaw (W := cx_HR) [13] rfl rfl rfl rfl ?_ ?_ | refine hC.law (W := cx_HR) [13] rfl rfl rfl rfl ?_ ?_ | refine hC.cpw (W := cx_HR) [13] rfl rfl rfl rfl rfl rfl ?_ | refine hC.cpl (W := cx_HR) [13] rfl rfl rfl rfl rfl rfl ?_ | refine hC.go [13] _ rfl rfl ?_ | (intro h; first | exact (h rfl).elim | (exfalso; cases h; done) | (dsimp only [kk_cP, kk_cN] at h) | skip)
            all_goals first | omega | skip
            exact hC.sub [(0, (4, 0)), (1, (4, 7)), (2, (0, _))] ⟨rfl, rfl, rfl, trivial⟩ (ihm k' (i + 1) _ _ _ (by omega) (by omega) (by omega) (by omega) (hJ2.rd r3) hr3 (by rw [q3]; show sp_lines _ _ k' (i + 1) _ (O2 0) _ = sp; rw [q2]; exact hs3.symm))
          · intro h59 r3 f1 f2
            have e59 : tk_ob tn 900 a res s.1 3 ≠ 59 := by rw [← q1.kd]; exact h59
            repeat' first | refine hC.gw [13] _ rfl rfl ?_ | refine And.intro ?_ ?_ | exact True.intro | refine hC.iadd [13] rfl rfl (by first | omega | (simp only [Int.reduceToNat] at *; omega)) ?_ | refine hC.isub [13] rfl rfl (by first | omega | (simp only [Int.reduceToNat] at *; omega)) ?_ | refine hC.imul [13] rfl rfl (by first | omega | (simp only [Int.reduceToNat] at *; omega)) ?_ | refine hC.iinc [13] rfl rfl rfl rfl (by first | omega | (simp only [Int.reduceToNat] at *; omega)) ?_ | refine hC.pfw (W := cx_HR) [13] rfl rfl rfl rfl rfl rfl ?_ ?_ | refine hC.iaw (W := cx_HR) [13] rfl rfl rfl rfl ?_ ?_ | refine hC.law (W := cx_HR) [13] rfl rfl rfl rfl ?_ ?_ | refine hC.cpw (W := cx_HR) [13] rfl rfl rfl rfl rfl rfl ?_ | refine hC.cpl (W := cx_HR) [13] rfl rfl rfl rfl rfl rfl ?_ | refine hC.go [13] _ rfl rfl ?_ | (intro h; first | exact (h rfl).elim | (exfalso; cases h; done) | (dsimp only [kk_cP, kk_cN] at h) | skip)
            exact ⟨_, _, rfl, o0, A0, hJ2.rd r3, h82, hz, Or.inl ⟨(1, tk_ob tn 900 a res s.1 4), hs0.trans (hs2.trans (if_neg e59)), rfl, f1, f2.trans q1.pl⟩⟩
      · have he : tk_ob tn 900 a res c 3 = 1 := by rw [← hkd]; assumption
        exact ⟨O, A, rfl, o0, A0, hJ, hr.r8, hz, Or.inr ⟨(i, O 0, A), hs0.trans (hs.symm.trans (sp_lines_e he)), rfl, i0, hr.f9, rfl, rfl⟩⟩
  repeat' first | refine hC.gw [] _ rfl rfl ?_ | refine And.intro ?_ ?_ | exact True.intro | refine hC.iadd [] rfl rfl (by first | omega | (simp only [Int.reduceToNat] at *; omega)) ?_ | refine hC.isub [] rfl rfl (by first | omega | (simp only [Int.reduceToNat] at *; omega)) ?_ | refine hC.imul [] rfl rfl (by first | omega | (simp only [Int.reduceToNat] at *; omega)) ?_ | refine hC.iinc [] rfl rfl rfl rfl (by first | omega | (simp only [Int.reduceToNat] at *; omega)) ?_ | refine hC.pfw (W := cx_HR) [] rfl rfl rfl rfl rfl rfl ?_ ?_ | refine hC.iaw (W := cx_HR) [] rfl rfl rfl rfl ?_ ?_ | refine hC.law (W := cx_HR) [] rfl rfl rfl rfl ?_ ?_ | refine hC.cpw (W := cx_HR) [] rfl rfl rfl rfl rfl rfl ?_ | refine hC.cpl (W := cx_HR) [] rfl rfl rfl rfl rfl rfl ?_ | refine hC.go [] _ rfl rfl ?_ | (intro h; first | exact (h rfl).elim | (exfalso; cases h; done) | (dsimp only [kk_cP, kk_cN] at h) | skip)
  refine hC.at ce_HR_H (hh_xClear l _ _ _) rfl rfl rfl rfl rfl rfl (Nat.le_refl _) ?_
  rintro rs O1 A1 ⟨rfl, hz⟩
  have hz' : hz0 (cc_out O1 O [0, 1, 2, 3, 4, 5, 6] 0 0) (cc_out A1 A [0, 1, 2, 3, 4, 5, 6] 0) := hz
  have hJ1 : hr_J T Bt res (cc_out O1 O [0, 1, 2, 3, 4, 5, 6] 0) (cc_out A1 A [0, 1, 2, 3, 4, 5, 6] 0) := ⟨hz'.c, fun j hj => by have := hz'.2.2.1 j hj; omega, Or.inl hz'.2.2.2.2, h9, h10, hT, ht.2.2.1⟩
  have ht1 : rt 8 9 10 tn a res (cc_out O1 O [0, 1, 2, 3, 4, 5, 6] 0) (cc_out A1 A [0, 1, 2, 3, 4, 5, 6] 0) := ht
  generalize cc_out O1 O [0, 1, 2, 3, 4, 5, 6] 0 = O6 at *
  generalize cc_out A1 A [0, 1, 2, 3, 4, 5, 6] 0 = A6 at *
  repeat' first | refine hC.gw [] _ rfl rfl ?_ | refine And.intro ?_ ?_ | exact True.intro | refine hC.iadd [] rfl rfl (by first | omega | (simp only [Int.reduceToNat] at *; omega)) ?_ | refine hC.isub [] rfl rfl (by first | omega | (simp only [Int.reduceToNat] at *; omega)) ?_ | refine hC.imul [] rfl rfl (by first | omega | (simp only [Int.reduceToNat] at *; omega)) ?_ | refine hC.iinc [] rfl rfl rfl rfl (by first | omega | (simp only [Int.reduceToNat] at *; omega)) ?_ | refine hC.pfw (W := cx_HR) [] rfl rfl rfl rfl rfl rfl ?_ ?_ | refine hC.iaw (W := cx_HR) [] rfl rfl rfl rfl ?_ ?_ | refine hC.law (W := cx_HR) [] rfl rfl rfl rfl ?_ ?_ | refine hC.cpw (W := cx_HR) [] rfl rfl rfl rfl rfl rfl ?_ | refine hC.cpl (W := cx_HR) [] rfl rfl rfl rfl rfl rfl ?_ | refine hC.go [] _ rfl rfl ?_ | (intro h; first | exact (h rfl).elim | (exfalso; cases h; done) | (dsimp only [kk_cP, kk_cN] at h) | skip)
  refine rx_begin hC ce_HR_R rfl _ ht1 (Nat.le_refl _) rfl rfl rfl rfl rfl ?_
  intro r2 z9 z10 hr2
  have hc0 := hr2.2.1.1
  repeat' first | refine hC.gw [13] _ rfl rfl ?_ | refine And.intro ?_ ?_ | exact True.intro | refine hC.iadd [13] rfl rfl (by first | omega | (simp only [Int.reduceToNat] at *; omega)) ?_ | refine hC.isub [13] rfl rfl (by first | omega | (simp only [Int.reduceToNat] at *; omega)) ?_ | refine hC.imul [13] rfl rfl (by first | omega | (simp only [Int.reduceToNat] at *; omega)) ?_ | refine hC.iinc [13] rfl rfl rfl rfl (by first | omega | (simp only [Int.reduceToNat] at *; omega)) ?_ | refine hC.pfw (W := cx_HR) [13] rfl rfl rfl rfl rfl rfl ?_ ?_ | refine hC.iaw (W := cx_HR) [13] rfl rfl rfl rfl ?_ ?_ | refine hC.law (W := cx_HR) [13] rfl rfl rfl rfl ?_ ?_ | refine hC.cpw (W := cx_HR) [13] rfl rfl rfl rfl rfl rfl ?_ | refine hC.cpl (W := cx_HR) [13] rfl rfl rfl rfl rfl rfl ?_ | refine hC.go [13] _ rfl rfl ?_ | (intro h; first | exact (h rfl).elim | (exfalso; cases h; done) | (dsimp only [kk_cP, kk_cN] at h) | skip)
  exact hC.sub [(0, (4, 0)), (1, (4, 7)), (2, (0, _))] ⟨rfl, rfl, rfl, trivial⟩ (k13s _ _ _ hz' rfl _ 941 0 _ _ _ (Nat.lt_succ_self _) (by omega) (by omega) (by omega) (hJ1.rd r2) hr2 rfl)
