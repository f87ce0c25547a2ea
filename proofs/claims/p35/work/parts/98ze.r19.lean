/-! READING, 19: the reference reads a house, to its end -/
/-- houses alike: the class's (fields o, arrays Ac) and the reference's (now N, name f) -/
def mn (o : Nat → Int) (Ac : Nat → Nat → Int) (N f : Nat → Int) : Prop := hh_c Ac ∧ (N 0 = Ac 1 0 ∧ N 1 = Ac 1 1 ∧ N 2 = Ac 1 2) ∧ (N 3 = o 6 ∧ N 4 = o 7) ∧ (∀ j : Nat, j < 10 → N (5 + j) = Ac 3 j ∧ N (15 + j) = Ac 4 j ∧ N (25 + j) = Ac 5 j ∧ (0 ≤ Ac 4 j ∧ Ac 4 j < 256) ∧ 0 ≤ Ac 5 j ∧ Ac 5 j < 256) ∧ (∀ j : Nat, j < 32 → N (35 + j) = Ac 6 j) ∧ nmr (Ac 2) 0 (Ac 1 0) f 0 ∧ nmr (Ac 2) 1 (Ac 1 1) f 8 ∧ nmr (Ac 2) 2 (Ac 1 2) f 12
theorem mh.n {o : Nat → Int} {Ac : Nat → Nat → Int} {F r f N f7 : Nat → Int} (h : mh o Ac F r f) (e : ∀ k, k < 67 → N k = r k) (e7 : ∀ k, k < 22 → f7 k = f k) : mn o Ac N f7 := by
  obtain ⟨⟨⟨a1, a2⟩, ⟨b1, b2⟩, c1, c2⟩, ⟨e0, e1, e2⟩, ⟨e3, e4⟩, h4, h5, h6, n0, n1, n2⟩ := h
  refine ⟨⟨⟨a1, a2⟩, ⟨b1, b2⟩, c1, c2⟩, ⟨by rw [e 0 (by decide)]; exact e0, by rw [e 1 (by decide)]; exact e1, by rw [e 2 (by decide)]; exact e2⟩, ⟨by rw [e 3 (by decide)]; exact e3, by rw [e 4 (by decide)]; exact e4⟩, fun j hj => by rw [e (5 + j) (by omega), e (15 + j) (by omega), e (25 + j) (by omega)]; exact h5 j hj, fun j hj => by rw [e (35 + j) (by omega)]; exact h6 j hj, fun j hj => by rw [e7 (0 + j) (by omega)]; exact n0 j hj, fun j hj => by rw [e7 (8 + j) (by omega)]; exact n1 j hj, fun j hj => by rw [e7 (12 + j) (by omega)]; exact n2 j hj⟩
theorem mn.eq {o : Nat → Int} {Ac : Nat → Nat → Int} {f N N' f' : Nat → Int} (h : mn o Ac N f) (e : ∀ k, k < 67 → N' k = N k) (e7 : ∀ k, k < 22 → f' k = f k) : mn o Ac N' f' := by
  obtain ⟨⟨⟨a1, a2⟩, ⟨b1, b2⟩, c1, c2⟩, ⟨e0, e1, e2⟩, ⟨e3, e4⟩, h5, h6, n0, n1, n2⟩ := h
  refine ⟨⟨⟨a1, a2⟩, ⟨b1, b2⟩, c1, c2⟩, ⟨by rw [e 0 (by decide)]; exact e0, by rw [e 1 (by decide)]; exact e1, by rw [e 2 (by decide)]; exact e2⟩, ⟨by rw [e 3 (by decide)]; exact e3, by rw [e 4 (by decide)]; exact e4⟩, fun j hj => by rw [e (5 + j) (by omega), e (15 + j) (by omega), e (25 + j) (by omega)]; exact h5 j hj, fun j hj => by rw [e (35 + j) (by omega)]; exact h6 j hj, fun j hj => by rw [e7 (0 + j) (by omega)]; exact n0 j hj, fun j hj => by rw [e7 (8 + j) (by omega)]; exact n1 j hj, fun j hj => by rw [e7 (12 + j) (by omega)]; exact n2 j hj⟩
theorem mh.z {o : Nat → Int} {Ac : Nat → Nat → Int} {F r f : Nat → Int} (h : hz0 o Ac) (h24 : F 24 = 0) (z : ∀ k, k < 67 → k ≠ 3 → r k = 0) (h3 : r 3 = -1) : mh o Ac F r f := by
  obtain ⟨z1, z2, z3, z4, z5⟩ := id h
  have e0 := z1 0 (by decide)
  have e1 := z1 1 (by decide)
  have e2 := z1 2 (by decide)
  refine ⟨h.c, ⟨by rw [z 0 (by decide) (by decide), e0], by rw [z 1 (by decide) (by decide), e1], by rw [z 2 (by decide) (by decide), e2]⟩, ⟨by rw [h3, z4], by rw [z 4 (by decide) (by decide), z5]⟩, Or.inl ⟨h24, z4⟩, fun j hj => ?_, fun j hj => ?_, fun j hj => absurd hj (by omega), fun j hj => absurd hj (by omega), fun j hj => absurd hj (by omega)⟩
  · obtain ⟨q1, q2, q3⟩ := z2 j hj
    rw [z (5 + j) (by omega) (by omega), z (15 + j) (by omega) (by omega), z (25 + j) (by omega) (by omega), q1, q2, q3]
    decide
  · rw [z (35 + j) (by omega) (by omega), z3 j hj]
section
variable (l : Launch) (d : Nat) {tn mo : Int} {a : Int → Int} {res : Nat → Int} {c : Int} (F : Nat → Int) (A : Nat → Nat → Int)
theorem mz_readEnd (hr : rmw tn mo a res c F A) : kk_Ctr l (d + 2) en_t_X11_readEnd [(4, 0)] (mm_w F A) (fun rs w' => (tk_ob tn mo a res c 3 = 59 ∧ rs = [(0, 1)] ∧ ∃ F', w' = mm_w F' A ∧ mz_K tn mo a res (tk_nx tn mo a res c) F F' A) ∨ (tk_ob tn mo a res c 3 ≠ 59 ∧ rs = [(0, 0)] ∧ ∃ F', w' = mm_w F' A ∧ mz_E F F' (1, tk_ob tn mo a res c 4))) := by
  refine kk_ctr en_hM (List.mem_of_getElem? (i := 210) rfl) rfl (Nat.le_of_ble_eq_true rfl) (fun K hC => ?_)
  repeat' first | refine hC.gn [] _ rfl rfl ?_ | refine And.intro ?_ ?_ | exact True.intro | refine hC.iadd [] rfl rfl (by first | omega | (simp only [Int.reduceToNat] at *; omega)) ?_ | refine hC.isub [] rfl rfl (by first | omega | (simp only [Int.reduceToNat] at *; omega)) ?_ | refine hC.imul [] rfl rfl (by first | omega | (simp only [Int.reduceToNat] at *; omega)) ?_ | refine hC.iinc [] rfl rfl rfl rfl (by first | omega | (simp only [Int.reduceToNat] at *; omega)) ?_ | refine hC.go [] _ rfl rfl ?_ | (intro h; first | exact (h rfl).elim | (exfalso; cases h; done) | (dsimp only [kk_cP, kk_cN] at h) | skip)
  refine hC.same (mz_isSign l _ F A 59 (by decide) hr) rfl rfl rfl rfl (Nat.le_refl _) ?_
  rintro rs w' ⟨rfl, ⟨rfl, q⟩ | ⟨rfl, q⟩⟩
  · repeat' first | refine hC.gn [] _ rfl rfl ?_ | refine And.intro ?_ ?_ | exact True.intro | refine hC.iadd [] rfl rfl (by first | omega | (simp only [Int.reduceToNat] at *; omega)) ?_ | refine hC.isub [] rfl rfl (by first | omega | (simp only [Int.reduceToNat] at *; omega)) ?_ | refine hC.imul [] rfl rfl (by first | omega | (simp only [Int.reduceToNat] at *; omega)) ?_ | refine hC.iinc [] rfl rfl rfl rfl (by first | omega | (simp only [Int.reduceToNat] at *; omega)) ?_ | refine hC.go [] _ rfl rfl ?_ | (intro h; first | exact (h rfl).elim | (exfalso; cases h; done) | (dsimp only [kk_cP, kk_cN] at h) | skip)
    refine hC.same (mz_go l _ F A hr) rfl rfl rfl rfl (Nat.le_refl _) ?_
    rintro rs w' ⟨rfl, F1, rfl, hf, hp, hr1⟩
    repeat' first | refine hC.gn [] _ rfl rfl ?_ | refine And.intro ?_ ?_ | exact True.intro | refine hC.iadd [] rfl rfl (by first | omega | (simp only [Int.reduceToNat] at *; omega)) ?_ | refine hC.isub [] rfl rfl (by first | omega | (simp only [Int.reduceToNat] at *; omega)) ?_ | refine hC.imul [] rfl rfl (by first | omega | (simp only [Int.reduceToNat] at *; omega)) ?_ | refine hC.iinc [] rfl rfl rfl rfl (by first | omega | (simp only [Int.reduceToNat] at *; omega)) ?_ | refine hC.go [] _ rfl rfl ?_ | (intro h; first | exact (h rfl).elim | (exfalso; cases h; done) | (dsimp only [kk_cP, kk_cN] at h) | skip)
    all_goals first | exact Or.inl rfl | exact Or.inr rfl | exact Or.inl ⟨q, rfl, F1, rfl, hp, hf 10 (by decide) (by decide) (by decide) (by decide) (by decide) (by decide), hr1⟩
  · repeat' first | refine hC.gn [] _ rfl rfl ?_ | refine And.intro ?_ ?_ | exact True.intro | refine hC.iadd [] rfl rfl (by first | omega | (simp only [Int.reduceToNat] at *; omega)) ?_ | refine hC.isub [] rfl rfl (by first | omega | (simp only [Int.reduceToNat] at *; omega)) ?_ | refine hC.imul [] rfl rfl (by first | omega | (simp only [Int.reduceToNat] at *; omega)) ?_ | refine hC.iinc [] rfl rfl rfl rfl (by first | omega | (simp only [Int.reduceToNat] at *; omega)) ?_ | refine hC.go [] _ rfl rfl ?_ | (intro h; first | exact (h rfl).elim | (exfalso; cases h; done) | (dsimp only [kk_cP, kk_cN] at h) | skip)
    refine hC.same (mz_bad1 l _ F A hr) rfl rfl rfl rfl (Nat.le_refl _) ?_
    rintro rs w' ⟨rfl, F1, rfl, hE⟩
    repeat' first | refine hC.gn [] _ rfl rfl ?_ | refine And.intro ?_ ?_ | exact True.intro | refine hC.iadd [] rfl rfl (by first | omega | (simp only [Int.reduceToNat] at *; omega)) ?_ | refine hC.isub [] rfl rfl (by first | omega | (simp only [Int.reduceToNat] at *; omega)) ?_ | refine hC.imul [] rfl rfl (by first | omega | (simp only [Int.reduceToNat] at *; omega)) ?_ | refine hC.iinc [] rfl rfl rfl rfl (by first | omega | (simp only [Int.reduceToNat] at *; omega)) ?_ | refine hC.go [] _ rfl rfl ?_ | (intro h; first | exact (h rfl).elim | (exfalso; cases h; done) | (dsimp only [kk_cP, kk_cN] at h) | skip)
    all_goals first | exact Or.inl rfl | exact Or.inr rfl | exact Or.inr ⟨q, rfl, F1, rfl, hE⟩
theorem mz_begin (m : Int) (h0 : 0 ≤ F 2) (h1 : F 2 ≤ 940) (ha : (fun i => tt_v 940 (F 2) (A 1) i) = a) : kk_Ctr l (d + 2) en_t_X11_begin [(4, 0), (0, m)] (mm_w F A) (fun rs w' => rs = [] ∧ ∃ F', w' = mm_w F' A ∧ F' 2 = 0 ∧ F' 0 = 0 ∧ F' 10 = 0 ∧ (∀ k, 12 < k → F' k = F k) ∧ rmw (F 2) m a res (tk_sk a 940 0) F' A) := by
  have hx : tk_cx (F 2) a := by rw [← ha]; exact tt_cx _ _ h0 h1
  refine kk_ctr en_hM (List.mem_of_getElem? (i := 208) rfl) rfl (Nat.le_of_ble_eq_true rfl) (fun K hC => ?_)
  repeat' first | refine hC.gn [] _ rfl rfl ?_ | refine And.intro ?_ ?_ | exact True.intro | refine hC.iadd [] rfl rfl (by first | omega | (simp only [Int.reduceToNat] at *; omega)) ?_ | refine hC.isub [] rfl rfl (by first | omega | (simp only [Int.reduceToNat] at *; omega)) ?_ | refine hC.imul [] rfl rfl (by first | omega | (simp only [Int.reduceToNat] at *; omega)) ?_ | refine hC.iinc [] rfl rfl rfl rfl (by first | omega | (simp only [Int.reduceToNat] at *; omega)) ?_ | refine hC.go [] _ rfl rfl ?_ | (intro h; first | exact (h rfl).elim | (exfalso; cases h; done) | (dsimp only [kk_cP, kk_cN] at h) | skip)
  refine hC.same (mm_take l _ (kk_up F 0 0) A) rfl rfl rfl rfl (Nat.le_refl _) ?_
  rintro rs w' ⟨rfl, rfl⟩
  repeat' first | refine hC.gn [] _ rfl rfl ?_ | refine And.intro ?_ ?_ | exact True.intro | refine hC.iadd [] rfl rfl (by first | omega | (simp only [Int.reduceToNat] at *; omega)) ?_ | refine hC.isub [] rfl rfl (by first | omega | (simp only [Int.reduceToNat] at *; omega)) ?_ | refine hC.imul [] rfl rfl (by first | omega | (simp only [Int.reduceToNat] at *; omega)) ?_ | refine hC.iinc [] rfl rfl rfl rfl (by first | omega | (simp only [Int.reduceToNat] at *; omega)) ?_ | refine hC.go [] _ rfl rfl ?_ | (intro h; first | exact (h rfl).elim | (exfalso; cases h; done) | (dsimp only [kk_cP, kk_cN] at h) | skip)
  refine hC.same (mm_xGo l _ (kk_up (kk_up (kk_up (kk_up (kk_up (kk_up F 0 0) 2 0) 3 (F 2)) 4 m) 10 0) 5 0) A (Int.le_refl 0) h0 h1) rfl rfl rfl rfl (Nat.le_refl _) ?_
  rintro rs w' ⟨rfl, F', rfl, hf, hT⟩
  have ea : mx_a (kk_up (kk_up (kk_up (kk_up (kk_up (kk_up F 0 0) 2 0) 3 (F 2)) 4 m) 10 0) 5 0) A = a := ha
  have hT : tm_T (F 2) m (mx_a (kk_up (kk_up (kk_up (kk_up (kk_up (kk_up F 0 0) 2 0) 3 (F 2)) 4 m) 10 0) 5 0) A) (tk_sk (mx_a (kk_up (kk_up (kk_up (kk_up (kk_up (kk_up F 0 0) 2 0) 3 (F 2)) 4 m) 10 0) 5 0) A) 940 0) F' := hT
  rw [ea] at hT
  have g3 : F' 3 = F 2 := hf 3 (by decide) (by decide) (by decide) (by decide) (by decide) (by decide)
  have g4 : F' 4 = m := hf 4 (by decide) (by decide) (by decide) (by decide) (by decide) (by decide)
  have hrw : rmw (F 2) m a res (tk_sk a 940 0) F' A := ⟨rm_new hx (tk_at.b hx) g3 g4 hT, tk_at.b hx, ha, hx⟩
  repeat' first | refine hC.gn [] _ rfl rfl ?_ | refine And.intro ?_ ?_ | exact True.intro | refine hC.iadd [] rfl rfl (by first | omega | (simp only [Int.reduceToNat] at *; omega)) ?_ | refine hC.isub [] rfl rfl (by first | omega | (simp only [Int.reduceToNat] at *; omega)) ?_ | refine hC.imul [] rfl rfl (by first | omega | (simp only [Int.reduceToNat] at *; omega)) ?_ | refine hC.iinc [] rfl rfl rfl rfl (by first | omega | (simp only [Int.reduceToNat] at *; omega)) ?_ | refine hC.go [] _ rfl rfl ?_ | (intro h; first | exact (h rfl).elim | (exfalso; cases h; done) | (dsimp only [kk_cP, kk_cN] at h) | skip)
  · rfl
  · exact ⟨F', rfl, hf 2 (by decide) (by decide) (by decide) (by decide) (by decide) (by decide), hf 0 (by decide) (by decide) (by decide) (by decide) (by decide) (by decide), hf 10 (by decide) (by decide) (by decide) (by decide) (by decide) (by decide), fun k hk => (hf k (by omega) (by omega) (by omega) (by omega) (by omega) (by omega)).trans ((kk_up_ne (by omega)).trans ((kk_up_ne (by omega)).trans ((kk_up_ne (by omega)).trans ((kk_up_ne (by omega)).trans ((kk_up_ne (by omega)).trans (kk_up_ne (by omega))))))), hrw⟩
end
abbrev sp_L : Type := Except (Int × Int) (Int × (Nat → Int) × (Nat → Nat → Int))
/-- what the reference's house leaves: as before, and what was read -/
def mz_QHo (F : Nat → Int) (A : Nat → Nat → Int) (sp : sp_L) : List en_V → List kk_C → Prop := fun rs w' => ∃ F' A' x, w' = mm_w F' A' ∧ rs = [(0, x)] ∧ F' 2 = 0 ∧ F' 0 = 0 ∧ (∀ k, 13 < k → k ≠ 24 → k ≠ 23 → F' k = F k) ∧ (∀ k, k ≠ 2 → k ≠ 3 → k ≠ 7 → k ≠ 8 → A' k = A k) ∧ mm_nb 22 (A' 8) ∧ ((∃ e, sp = .error e ∧ x = kk_i2 1 (-1) e.2 ∧ F' 10 = e.1 ∧ A' 2 = A 2 ∧ A' 7 = A 7 ∧ F' 23 = F 23) ∨ (∃ s, sp = .ok s ∧ x = s.1 ∧ F' 10 = 0 ∧ mn s.2.1 s.2.2 (A' 2) (A' 7) ∧ mm_nb 22 (A' 7) ∧ mm_rH (A' 2) ∧ mm_vS (A' 2) ∧ (∀ k, 150 ≤ k → k < 392 → A' 2 k = 0) ∧ F' 23 = 0))
set_option maxRecDepth 100000 in
set_option maxHeartbeats 4000000 in
theorem mm_begun0 {N0 N : Nat → Int} (hN : ∀ k, k < 392 → N k = mm_s3 N0 32 k) : ∀ k, k < 67 → N k = N0 k := fun k hk => by
  rw [hN k (by omega)]
  unfold mm_s3 mm_s2 mm_s1
  rw [if_neg (by omega), if_neg (by omega), if_neg (by omega), if_neg (by omega)]
theorem mz_house (l : Launch) (d : Nat) {a : Int → Int} {res : Nat → Int} (F : Nat → Int) (A : Nat → Nat → Int) (hz : rz res) (h0 : 0 ≤ F 2) (h1 : F 2 ≤ 940) (hn : mm_nb 22 (A 8)) (ha : (fun i => tt_v 940 (F 2) (A 1) i) = a) (o0 : Nat → Int) (A0 : Nat → Nat → Int) (hz0 : hz0 o0 A0) : kk_Ctr l (d + 7) en_t_X11_house [(4, 0)] (mm_w F A) (mz_QHo F A (sp_lines (tk_ob (F 2) 900 a res) (tk_nx (F 2) 900 a res) 941 0 (tk_sk a 940 0) o0 A0)) := by
  generalize hsp : sp_lines (tk_ob (F 2) 900 a res) (tk_nx (F 2) 900 a res) 941 0 (tk_sk a 940 0) o0 A0 = sp
  have hx : tk_cx (F 2) a := by rw [← ha]; exact tt_cx _ _ h0 h1
  generalize htn : F 2 = tn at *
  refine kk_ctr en_hM (List.mem_of_getElem? (i := 170) rfl) rfl (Nat.le_of_ble_eq_true rfl) (fun K hC => ?_)
  have k104 : ∀ (n j : Nat) (F1 : Nat → Int) (r f N f7 : Nat → Int) (ln : Int) (o : Nat → Int) (Ac : Nat → Nat → Int), j + n = 22 → F1 2 = 0 → F1 0 = 0 → F1 10 = 0 → (∀ k, 13 < k → k ≠ 24 → F1 k = F k) → mm_nb 22 f → mm_rH N → (∀ k, k < j → f7 k = f k) → mh o Ac F1 r f → (∀ k, k < 67 → N k = r k) → sp = .ok (ln, o, Ac) → K 104 [(0, (4, 0)), (1, (0, ln)), (2, (0, (j : Int)))] [] (mm_w F1 (mm_up (mm_up (mm_up (mm_up A 3 r) 8 f) 2 N) 7 f7)) := by
    intro n
    induction n with
    | zero =>
      intro j F1 r f N f7 ln o Ac hj g1 g2 g10 g3 g4 g5 g6 g7 g8 g9
      have hj : j = 22 := by omega
      subst hj
      refine hC.go [] _ rfl rfl ?_
      repeat' first | refine hC.gn [104] _ rfl rfl ?_ | refine And.intro ?_ ?_ | exact True.intro | refine hC.iadd [104] rfl rfl (by first | omega | (simp only [Int.reduceToNat] at *; omega)) ?_ | refine hC.isub [104] rfl rfl (by first | omega | (simp only [Int.reduceToNat] at *; omega)) ?_ | refine hC.imul [104] rfl rfl (by first | omega | (simp only [Int.reduceToNat] at *; omega)) ?_ | refine hC.iinc [104] rfl rfl rfl rfl (by first | omega | (simp only [Int.reduceToNat] at *; omega)) ?_ | refine hC.go [104] _ rfl rfl ?_ | (intro h; first | exact (h rfl).elim | (exfalso; cases h; done) | (dsimp only [kk_cP, kk_cN] at h) | skip)
      all_goals first | omega | skip
      refine hC.same (mm_startSo l _ F1 (mm_up (mm_up (mm_up (mm_up A 3 r) 8 f) 2 N) 7 f7)) rfl rfl rfl rfl (Nat.le_refl _) ?_
      rintro rs w' ⟨rfl, N2, rfl, hN2⟩
      repeat' first | refine hC.gn [104] _ rfl rfl ?_ | refine And.intro ?_ ?_ | exact True.intro | refine hC.iadd [104] rfl rfl (by first | omega | (simp only [Int.reduceToNat] at *; omega)) ?_ | refine hC.isub [104] rfl rfl (by first | omega | (simp only [Int.reduceToNat] at *; omega)) ?_ | refine hC.imul [104] rfl rfl (by first | omega | (simp only [Int.reduceToNat] at *; omega)) ?_ | refine hC.iinc [104] rfl rfl rfl rfl (by first | omega | (simp only [Int.reduceToNat] at *; omega)) ?_ | refine hC.go [104] _ rfl rfl ?_ | (intro h; first | exact (h rfl).elim | (exfalso; cases h; done) | (dsimp only [kk_cP, kk_cN] at h) | skip)
      obtain ⟨b1, b2, b3⟩ := mm_begun g5 hN2
      have b0 := mm_begun0 hN2
      have n7 : mm_nb 22 f7 := fun k hk => by rw [g6 k hk]; exact g4 k hk
      exact ⟨kk_up F1 23 0, mm_up (mm_up (mm_up (mm_up (mm_up A 3 r) 8 f) 2 N) 7 f7) 2 N2, ln, rfl, rfl, g1, g2, fun k hk h24 h23 => (kk_up_ne h23).trans (g3 k hk h24), fun k h2 h3 h7 h8 => by simp only [mm_up, mm_bne h2, mm_bne h3, mm_bne h7, mm_bne h8, cond_false], g4, Or.inr ⟨_, g9, rfl, g10, g7.n (fun k hk => (b0 k hk).trans (g8 k hk)) g6, n7, b1, b2, b3, rfl⟩⟩
    | succ n ih =>
      intro j F1 r f N f7 ln o Ac hj g1 g2 g10 g3 g4 g5 g6 g7 g8 g9
      refine hC.go [] _ rfl rfl ?_
      repeat' first | refine hC.gn [104] _ rfl rfl ?_ | refine And.intro ?_ ?_ | exact True.intro | refine hC.iadd [104] rfl rfl (by first | omega | (simp only [Int.reduceToNat] at *; omega)) ?_ | refine hC.isub [104] rfl rfl (by first | omega | (simp only [Int.reduceToNat] at *; omega)) ?_ | refine hC.imul [104] rfl rfl (by first | omega | (simp only [Int.reduceToNat] at *; omega)) ?_ | refine hC.iinc [104] rfl rfl rfl rfl (by first | omega | (simp only [Int.reduceToNat] at *; omega)) ?_ | refine hC.go [104] _ rfl rfl ?_ | (intro h; first | exact (h rfl).elim | (exfalso; cases h; done) | (dsimp only [kk_cP, kk_cN] at h) | skip)
      all_goals first | omega | skip
      · exact hC.sub [(0, (4, 0)), (1, (0, ln)), (2, (0, ((j + 1 : Nat) : Int)))] ⟨rfl, rfl, rfl, trivial⟩ (ih (j + 1) F1 r f N (kk_up f7 j (f j)) ln o Ac (by omega) g1 g2 g10 g3 g4 g5 (fun k hk => by
          by_cases hq : k = j
          · rw [hq, kk_up_eq]
          · rw [kk_up_ne hq]; exact g6 k (by omega)) g7 g8 g9)
  have k78 : ∀ (n j : Nat) (F1 : Nat → Int) (r f N : Nat → Int) (ln : Int) (o : Nat → Int) (Ac : Nat → Nat → Int), j + n = 67 → F1 2 = 0 → F1 0 = 0 → F1 10 = 0 → (∀ k, 13 < k → k ≠ 24 → F1 k = F k) → mm_nb 22 f → mm_rH r → (∀ k, k < j → N k = r k) → mh o Ac F1 r f → sp = .ok (ln, o, Ac) → K 78 [(0, (4, 0)), (1, (0, ln)), (2, (0, (j : Int)))] [] (mm_w F1 (mm_up (mm_up (mm_up A 3 r) 8 f) 2 N)) := by
    intro n
    induction n with
    | zero =>
      intro j F1 r f N ln o Ac hj g1 g2 g10 g3 g4 g5 g6 g7 g9
      have hj : j = 67 := by omega
      subst hj
      have hN : mm_rH N := by
        obtain ⟨⟨c1, c2, c3, c4, c5, c6⟩, hs, h5, h4⟩ := g5
        exact ⟨⟨by rw [g6 0 (by decide)]; exact c1, by rw [g6 0 (by decide)]; exact c2, by rw [g6 1 (by decide)]; exact c3, by rw [g6 1 (by decide)]; exact c4, by rw [g6 2 (by decide)]; exact c5, by rw [g6 2 (by decide)]; exact c6⟩, fun c hc => by rw [g6 (5 + c) (by omega)]; exact hs c hc, by rw [g6 2 (by decide), g6 5 (by decide)]; exact h5, by rw [g6 4 (by decide)]; exact h4⟩
      refine hC.go [] _ rfl rfl ?_
      repeat' first | refine hC.gn [78, 104] _ rfl rfl ?_ | refine And.intro ?_ ?_ | exact True.intro | refine hC.iadd [78, 104] rfl rfl (by first | omega | (simp only [Int.reduceToNat] at *; omega)) ?_ | refine hC.isub [78, 104] rfl rfl (by first | omega | (simp only [Int.reduceToNat] at *; omega)) ?_ | refine hC.imul [78, 104] rfl rfl (by first | omega | (simp only [Int.reduceToNat] at *; omega)) ?_ | refine hC.iinc [78, 104] rfl rfl rfl rfl (by first | omega | (simp only [Int.reduceToNat] at *; omega)) ?_ | refine hC.go [78, 104] _ rfl rfl ?_ | (intro h; first | exact (h rfl).elim | (exfalso; cases h; done) | (dsimp only [kk_cP, kk_cN] at h) | skip)
      all_goals first | omega | skip
      exact hC.sub [(0, (4, 0)), (1, (0, ln)), (2, (0, ((0 : Nat) : Int)))] ⟨rfl, rfl, rfl, trivial⟩ (k104 22 0 F1 r f N (A 7) ln o Ac (by omega) g1 g2 g10 g3 g4 hN (fun k hk => absurd hk (Nat.not_lt_zero _)) g7 g6 g9)
    | succ n ih =>
      intro j F1 r f N ln o Ac hj g1 g2 g10 g3 g4 g5 g6 g7 g9
      refine hC.go [] _ rfl rfl ?_
      repeat' first | refine hC.gn [78, 104] _ rfl rfl ?_ | refine And.intro ?_ ?_ | exact True.intro | refine hC.iadd [78, 104] rfl rfl (by first | omega | (simp only [Int.reduceToNat] at *; omega)) ?_ | refine hC.isub [78, 104] rfl rfl (by first | omega | (simp only [Int.reduceToNat] at *; omega)) ?_ | refine hC.imul [78, 104] rfl rfl (by first | omega | (simp only [Int.reduceToNat] at *; omega)) ?_ | refine hC.iinc [78, 104] rfl rfl rfl rfl (by first | omega | (simp only [Int.reduceToNat] at *; omega)) ?_ | refine hC.go [78, 104] _ rfl rfl ?_ | (intro h; first | exact (h rfl).elim | (exfalso; cases h; done) | (dsimp only [kk_cP, kk_cN] at h) | skip)
      all_goals first | omega | skip
      · exact hC.sub [(0, (4, 0)), (1, (0, ln)), (2, (0, ((j + 1 : Nat) : Int)))] ⟨rfl, rfl, rfl, trivial⟩ (ih (j + 1) F1 r f (kk_up N j (r j)) ln o Ac (by omega) g1 g2 g10 g3 g4 g5 (fun k hk => by
          by_cases hq : k = j
          · rw [hq, kk_up_eq]
          · rw [kk_up_ne hq]; exact g6 k (by omega)) g7 g9)
  have k42 : ∀ (n : Nat) (k : Nat) (i : Int) (c : Int) (F1 : Nat → Int) (r f : Nat → Int) (o : Nat → Int) (Ac : Nat → Nat → Int), k < n → (k : Int) + i = 941 → 0 ≤ i → 2 * i ≤ c → rmw tn 900 a res c F1 A → mh o Ac F1 r f → sp_lines (tk_ob tn 900 a res) (tk_nx tn 900 a res) k i c o Ac = sp → F1 2 = 0 → F1 0 = 0 → F1 10 = 0 → (∀ k, 13 < k → k ≠ 24 → F1 k = F k) → mm_nb 22 f → mm_rH r → K 42 [(0, (4, 0)), (1, (0, i))] [] (mm_w F1 (mm_up (mm_up A 3 r) 8 f)) := by
    intro n
    induction n with
    | zero => intro k i c F1 r f o Ac hz; exact absurd hz (Nat.not_lt_zero _)
    | succ n ih =>
      intro k i c F1 r f o Ac hkm hki i0 ic hr hm hs g1 g2 g10 g3 g4 g5
      have hcn := hr.2.1.2.1
      have hx2 := hx.2
      obtain ⟨k', rfl⟩ : ∃ k', k = k' + 1 := ⟨k - 1, by omega⟩
      have hk1 := hr.tok.k1
      refine hC.go [] _ rfl rfl ?_
      repeat' first | refine hC.gn [42, 78] _ rfl rfl ?_ | refine And.intro ?_ ?_ | exact True.intro | refine hC.iadd [42, 78] rfl rfl (by first | omega | (simp only [Int.reduceToNat] at *; omega)) ?_ | refine hC.isub [42, 78] rfl rfl (by first | omega | (simp only [Int.reduceToNat] at *; omega)) ?_ | refine hC.imul [42, 78] rfl rfl (by first | omega | (simp only [Int.reduceToNat] at *; omega)) ?_ | refine hC.iinc [42, 78] rfl rfl rfl rfl (by first | omega | (simp only [Int.reduceToNat] at *; omega)) ?_ | refine hC.go [42, 78] _ rfl rfl ?_ | (intro h; first | exact (h rfl).elim | (exfalso; cases h; done) | (dsimp only [kk_cP, kk_cN] at h) | skip)
      · have he : tk_ob tn 900 a res c 3 = 1 := hk1.mp (by assumption)
        exact hC.sub [(0, (4, 0)), (1, (0, i)), (2, (0, ((0 : Nat) : Int)))] ⟨rfl, rfl, rfl, trivial⟩ (k78 67 0 F1 r f (A 2) i o Ac (by omega) g1 g2 g10 g3 g4 g5 (fun k hk => absurd hk (Nat.not_lt_zero _)) hm (hs.symm.trans (sp_lines_e he)))
      · have hne : tk_ob tn 900 a res c 3 ≠ 1 := fun q => absurd (hk1.mpr q) (by assumption)
        have hs1 := (sp_lines_n hne).symm.trans hs
        refine hC.same (mz_readLine l _ F1 (mm_up (mm_up A 3 r) 8 f) hz (by exact hr) (by exact hm) g5 g4) rfl rfl rfl rfl (Nat.le_refl _) ?_
        rintro rs w' ⟨F2, r2, f2, rfl, hp2, hr2, hn2, hq⟩
        have e0 : F2 0 = 0 := (hp2.1 0 (by decide) (by decide)).trans g2
        have e2 : F2 2 = 0 := (hp2.1 2 (by decide) (by decide)).trans g1
        have e9 : ∀ k, 13 < k → k ≠ 24 → F2 k = F k := fun k q1 q2 => (hp2.1 k (Or.inr q1) q2).trans (g3 k q1 q2)
        rcases hq with ⟨e, es, rfl, x1, x2⟩ | ⟨s, es, rfl, x1, x2, x3⟩
        · repeat' first | refine hC.gn [42] _ rfl rfl ?_ | refine And.intro ?_ ?_ | exact True.intro | refine hC.iadd [42] rfl rfl (by first | omega | (simp only [Int.reduceToNat] at *; omega)) ?_ | refine hC.isub [42] rfl rfl (by first | omega | (simp only [Int.reduceToNat] at *; omega)) ?_ | refine hC.imul [42] rfl rfl (by first | omega | (simp only [Int.reduceToNat] at *; omega)) ?_ | refine hC.iinc [42] rfl rfl rfl rfl (by first | omega | (simp only [Int.reduceToNat] at *; omega)) ?_ | refine hC.go [42] _ rfl rfl ?_ | (intro h; first | exact (h rfl).elim | (exfalso; cases h; done) | (dsimp only [kk_cP, kk_cN] at h) | skip)
          exact ⟨F2, mm_up (mm_up A 3 r2) 8 f2, _, rfl, rfl, e2, e0, fun k q1 q2 _ => e9 k q1 q2, fun k h2 h3 h7 h8 => by simp only [mm_up, mm_bne h3, mm_bne h8, cond_false], hn2, Or.inl ⟨e, hs1.symm.trans (sp_b_e es), by rw [← x2], x1, rfl, rfl, e9 23 (by decide) (by decide)⟩⟩
        · have hs2 := hs1.symm.trans (sp_b_k es)
          obtain ⟨hlt, hat⟩ := sp_line_lt hx hr.2.1 es
          have hr2' : rmw tn 900 a res s.1 F2 (mm_up (mm_up A 3 r2) 8 f2) := x2
          repeat' first | refine hC.gn [42] _ rfl rfl ?_ | refine And.intro ?_ ?_ | exact True.intro | refine hC.iadd [42] rfl rfl (by first | omega | (simp only [Int.reduceToNat] at *; omega)) ?_ | refine hC.isub [42] rfl rfl (by first | omega | (simp only [Int.reduceToNat] at *; omega)) ?_ | refine hC.imul [42] rfl rfl (by first | omega | (simp only [Int.reduceToNat] at *; omega)) ?_ | refine hC.iinc [42] rfl rfl rfl rfl (by first | omega | (simp only [Int.reduceToNat] at *; omega)) ?_ | refine hC.go [42] _ rfl rfl ?_ | (intro h; first | exact (h rfl).elim | (exfalso; cases h; done) | (dsimp only [kk_cP, kk_cN] at h) | skip)
          refine hC.same (mz_readEnd l _ F2 (mm_up (mm_up A 3 r2) 8 f2) hr2') rfl rfl rfl rfl (Nat.le_refl _) ?_
          rintro rs w' (⟨q59, rfl, F3, rfl, hK3⟩ | ⟨q59, rfl, F3, rfl, hE3⟩)
          · have hs3 := hs2.trans (if_pos q59)
            have g := (tk_nx_ge (mo := 900) (res := res) hx hat).2 (by omega)
            repeat' first | refine hC.gn [42] _ rfl rfl ?_ | refine And.intro ?_ ?_ | exact True.intro | refine hC.iadd [42] rfl rfl (by first | omega | (simp only [Int.reduceToNat] at *; omega)) ?_ | refine hC.isub [42] rfl rfl (by first | omega | (simp only [Int.reduceToNat] at *; omega)) ?_ | refine hC.imul [42] rfl rfl (by first | omega | (simp only [Int.reduceToNat] at *; omega)) ?_ | refine hC.iinc [42] rfl rfl rfl rfl (by first | omega | (simp only [Int.reduceToNat] at *; omega)) ?_ | refine hC.go [42] _ rfl rfl ?_ | (intro h; first | exact (h rfl).elim | (exfalso; cases h; done) | (dsimp only [kk_cP, kk_cN] at h) | skip)
            all_goals first | omega | skip
            exact hC.sub [(0, (4, 0)), (1, (0, _))] ⟨rfl, rfl, trivial⟩ (ih k' (i + 1) _ F3 r2 f2 s.2.1 s.2.2 (by omega) (by omega) (by omega) (by omega) hK3.2.2 (x3.fl (hK3.1.1 24 (by omega))) hs3.symm ((hK3.1.1 2 (by decide)).trans e2) ((hK3.1.1 0 (by decide)).trans e0) (hK3.2.1.trans (x1.trans g10)) (fun k q1 q2 => (hK3.1.1 k (Or.inr q1)).trans (e9 k q1 q2)) hn2 hr2)
          · repeat' first | refine hC.gn [42] _ rfl rfl ?_ | refine And.intro ?_ ?_ | exact True.intro | refine hC.iadd [42] rfl rfl (by first | omega | (simp only [Int.reduceToNat] at *; omega)) ?_ | refine hC.isub [42] rfl rfl (by first | omega | (simp only [Int.reduceToNat] at *; omega)) ?_ | refine hC.imul [42] rfl rfl (by first | omega | (simp only [Int.reduceToNat] at *; omega)) ?_ | refine hC.iinc [42] rfl rfl rfl rfl (by first | omega | (simp only [Int.reduceToNat] at *; omega)) ?_ | refine hC.go [42] _ rfl rfl ?_ | (intro h; first | exact (h rfl).elim | (exfalso; cases h; done) | (dsimp only [kk_cP, kk_cN] at h) | skip)
            exact ⟨F3, mm_up (mm_up A 3 r2) 8 f2, _, rfl, rfl, (hE3.1.1 2 (by decide)).trans e2, (hE3.1.1 0 (by decide)).trans e0, fun k q1 q2 _ => (hE3.1.1 k (Or.inr q1)).trans (e9 k q1 q2), fun k h2 h3 h7 h8 => by simp only [mm_up, mm_bne h3, mm_bne h8, cond_false], hn2, Or.inl ⟨_, hs2.trans (if_neg q59), by rw [← hE3.2.2], hE3.2.1, rfl, rfl, (hE3.1.1 23 (by decide)).trans (e9 23 (by decide) (by decide))⟩⟩
  have k9 : ∀ (n j : Nat) (F1 : Nat → Int) (r : Nat → Int), j + n = 67 → rmw tn 900 a res (tk_sk a 940 0) F1 A → F1 2 = 0 → F1 0 = 0 → F1 10 = 0 → (∀ k, 13 < k → F1 k = F k) → (∀ k, k < j → r k = 0) → K 9 [(0, (4, 0)), (1, (0, (j : Int)))] [] (mm_w F1 (mm_up A 3 r)) := by
    intro n
    induction n with
    | zero =>
      intro j F1 r hj hk g1 g2 g10 g3 g4
      have hj : j = 67 := by omega
      subst hj
      refine hC.go [] _ rfl rfl ?_
      repeat' first | refine hC.gn [9, 42] _ rfl rfl ?_ | refine And.intro ?_ ?_ | exact True.intro | refine hC.iadd [9, 42] rfl rfl (by first | omega | (simp only [Int.reduceToNat] at *; omega)) ?_ | refine hC.isub [9, 42] rfl rfl (by first | omega | (simp only [Int.reduceToNat] at *; omega)) ?_ | refine hC.imul [9, 42] rfl rfl (by first | omega | (simp only [Int.reduceToNat] at *; omega)) ?_ | refine hC.iinc [9, 42] rfl rfl rfl rfl (by first | omega | (simp only [Int.reduceToNat] at *; omega)) ?_ | refine hC.go [9, 42] _ rfl rfl ?_ | (intro h; first | exact (h rfl).elim | (exfalso; cases h; done) | (dsimp only [kk_cP, kk_cN] at h) | skip)
      all_goals first | omega | skip
      have z : ∀ k, k < 67 → k ≠ 3 → kk_up r 3 (-1) k = 0 := fun k q1 q2 => (kk_up_ne q2).trans (g4 k q1)
      have hc0 := hk.2.1.1
      refine hC.sub [(0, (4, 0)), (1, (0, _))] ⟨rfl, rfl, trivial⟩ (k42 _ 941 0 _ (kk_up F1 24 0) (kk_up r 3 (-1)) (A 8) o0 A0 (Nat.lt_succ_self _) (by omega) (by omega) (by omega) (by exact hk) (mh.z hz0 rfl z rfl) hsp g1 g2 g10 (fun k q1 q2 => (kk_up_ne q2).trans (g3 k q1)) hn ?_)
      refine ⟨⟨?_, ?_, ?_, ?_, ?_, ?_⟩, fun c hc => ?_, fun hq => ?_, Or.inl (z 4 (by decide) (by decide))⟩
      all_goals first | (rw [z 0 (by decide) (by decide)]; decide) | (rw [z 1 (by decide) (by decide)]; decide) | (rw [z 2 (by decide) (by decide)]; decide) | (rw [z (5 + c) (by omega) (by omega)]; decide) | (rw [z 2 (by decide) (by decide)] at hq; omega)
    | succ n ih =>
      intro j F1 r hj hk g1 g2 g10 g3 g4
      refine hC.go [] _ rfl rfl ?_
      repeat' first | refine hC.gn [9, 42] _ rfl rfl ?_ | refine And.intro ?_ ?_ | exact True.intro | refine hC.iadd [9, 42] rfl rfl (by first | omega | (simp only [Int.reduceToNat] at *; omega)) ?_ | refine hC.isub [9, 42] rfl rfl (by first | omega | (simp only [Int.reduceToNat] at *; omega)) ?_ | refine hC.imul [9, 42] rfl rfl (by first | omega | (simp only [Int.reduceToNat] at *; omega)) ?_ | refine hC.iinc [9, 42] rfl rfl rfl rfl (by first | omega | (simp only [Int.reduceToNat] at *; omega)) ?_ | refine hC.go [9, 42] _ rfl rfl ?_ | (intro h; first | exact (h rfl).elim | (exfalso; cases h; done) | (dsimp only [kk_cP, kk_cN] at h) | skip)
      all_goals first | omega | skip
      · exact hC.sub [(0, (4, 0)), (1, (0, ((j + 1 : Nat) : Int)))] ⟨rfl, rfl, trivial⟩ (ih (j + 1) F1 (kk_up r j 0) (by omega) hk g1 g2 g10 g3 (fun k hk => by
          by_cases hq : k = j
          · rw [hq, kk_up_eq]
          · rw [kk_up_ne hq]; exact g4 k (by omega)))
  repeat' first | refine hC.gn [9] _ rfl rfl ?_ | refine And.intro ?_ ?_ | exact True.intro | refine hC.iadd [9] rfl rfl (by first | omega | (simp only [Int.reduceToNat] at *; omega)) ?_ | refine hC.isub [9] rfl rfl (by first | omega | (simp only [Int.reduceToNat] at *; omega)) ?_ | refine hC.imul [9] rfl rfl (by first | omega | (simp only [Int.reduceToNat] at *; omega)) ?_ | refine hC.iinc [9] rfl rfl rfl rfl (by first | omega | (simp only [Int.reduceToNat] at *; omega)) ?_ | refine hC.go [9] _ rfl rfl ?_ | (intro h; first | exact (h rfl).elim | (exfalso; cases h; done) | (dsimp only [kk_cP, kk_cN] at h) | skip)
  refine hC.same (mz_begin (a := a) (res := res) l _ F A 900 (by omega) (by omega) (by rw [htn]; exact ha)) rfl rfl rfl rfl (Nat.le_refl _) ?_
  rintro rs w' ⟨rfl, F1, rfl, g1, g2, g10, g3, hk⟩
  rw [htn] at hk
  repeat' first | refine hC.gn [9] _ rfl rfl ?_ | refine And.intro ?_ ?_ | exact True.intro | refine hC.iadd [9] rfl rfl (by first | omega | (simp only [Int.reduceToNat] at *; omega)) ?_ | refine hC.isub [9] rfl rfl (by first | omega | (simp only [Int.reduceToNat] at *; omega)) ?_ | refine hC.imul [9] rfl rfl (by first | omega | (simp only [Int.reduceToNat] at *; omega)) ?_ | refine hC.iinc [9] rfl rfl rfl rfl (by first | omega | (simp only [Int.reduceToNat] at *; omega)) ?_ | refine hC.go [9] _ rfl rfl ?_ | (intro h; first | exact (h rfl).elim | (exfalso; cases h; done) | (dsimp only [kk_cP, kk_cN] at h) | skip)
  exact hC.sub [(0, (4, 0)), (1, (0, ((0 : Nat) : Int)))] ⟨rfl, rfl, trivial⟩ (k9 67 0 F1 (A 3) (by omega) hk g1 g2 g10 (fun k q => g3 k (by omega)) (fun k hk => absurd hk (Nat.not_lt_zero _)))
