/-! BOOKS: the reference reads a line, exactly -/
section BKR
variable {T : Int → Nat → Int} {N : Int → Int} {Hs : Nat → Nat → Int} {c c' k v : Int} {e : Int × Int}
theorem bk_row_k (h : bk_line T N Hs c k = .ok c') (q : T c' 3 = 59) : bk_row T N Hs c k = .ok (N c') := by
  unfold bk_row
  exact (sp_b_k h).trans (if_pos q)
theorem bk_row_1 (h : bk_line T N Hs c k = .ok c') (q : T c' 3 ≠ 59) : bk_row T N Hs c k = .error (1, T c' 4) := by
  unfold bk_row
  exact (sp_b_k h).trans (if_neg q)
theorem bk_row_e (h : bk_line T N Hs c k = .error e) : bk_row T N Hs c k = .error e := by
  unfold bk_row
  exact sp_b_e h
theorem bk_o0 (h : T c 6 = 8) (hv : sp_num T (N c) 0 999 = .ok v) : bk_ot T N Hs c = .ok (N (N c)) := by
  unfold bk_ot
  exact (if_pos h).trans (sp_b_k hv)
theorem bk_o0e (h : T c 6 = 8) (hv : sp_num T (N c) 0 999 = .error e) : bk_ot T N Hs c = .error e := by
  unfold bk_ot
  exact (if_pos h).trans (sp_b_e hv)
theorem bk_o1 (h : T c 6 = 9) (hv : sp_find T Hs 2 (N c) = .ok v) : bk_ot T N Hs c = .ok (N (N c)) := by
  unfold bk_ot
  exact (if_neg (by omega)).trans ((if_pos h).trans (sp_b_k hv))
theorem bk_o1e (h : T c 6 = 9) (hv : sp_find T Hs 2 (N c) = .error e) : bk_ot T N Hs c = .error e := by
  unfold bk_ot
  exact (if_neg (by omega)).trans ((if_pos h).trans (sp_b_e hv))
theorem bk_o4 (h : T c 6 = 12) (hv : sp_num T (N c) 1 30 = .ok v) : bk_ot T N Hs c = .ok (N (N c)) := by
  unfold bk_ot
  exact (if_neg (by omega)).trans ((if_neg (by omega)).trans ((if_pos h).trans (sp_b_k hv)))
theorem bk_o4e (h : T c 6 = 12) (hv : sp_num T (N c) 1 30 = .error e) : bk_ot T N Hs c = .error e := by
  unfold bk_ot
  exact (if_neg (by omega)).trans ((if_neg (by omega)).trans ((if_pos h).trans (sp_b_e hv)))
theorem bk_o3 (h : T c 6 = 11) : bk_ot T N Hs c = .ok (N c) := by
  unfold bk_ot
  exact (if_neg (by omega)).trans ((if_neg (by omega)).trans (if_neg (by omega)))
theorem bk_d (h : T (N c) 6 = 10) (hv : sp_find T Hs 0 (N (N c)) = .ok v) : bk_do T N Hs c = .ok (N (N (N c))) := by
  unfold bk_do
  exact (if_pos h).trans (sp_b_k hv)
theorem bk_de (h : T (N c) 6 = 10) (hv : sp_find T Hs 0 (N (N c)) = .error e) : bk_do T N Hs c = .error e := by
  unfold bk_do
  exact (if_pos h).trans (sp_b_e hv)
theorem bk_d1 (h : T (N c) 6 ≠ 10) : bk_do T N Hs c = .error (1, T (N c) 4) := by
  unfold bk_do
  exact if_neg h
end BKR
/-- the class's house H and the reference's that is -/
def mb_G (Hs A : Nat → Nat → Int) : Prop := (A 2 0 = Hs 1 0 ∧ A 2 1 = Hs 1 1 ∧ A 2 2 = Hs 1 2) ∧ nmr (Hs 2) 0 (Hs 1 0) (A 7) 0 ∧ nmr (Hs 2) 1 (Hs 1 1) (A 7) 8 ∧ nmr (Hs 2) 2 (Hs 1 2) (A 7) 12
/-- which line but a deed's -/
abbrev bk_w (T : Int → Nat → Int) (c x : Int) : Prop := (x = 0 ∧ T c 6 = 8) ∨ (x = 1 ∧ T c 6 = 9) ∨ (x = 3 ∧ T c 6 = 11) ∨ (x = 4 ∧ T c 6 = 12)
section BKZ
variable (l : Launch) (d : Nat) {tn mo : Int} {a : Int → Int} {res : Nat → Int} {c : Int} (F : Nat → Int) (A : Nat → Nat → Int)
theorem mz_whatHere (hz : rz res) (hr : rmw tn mo a res c F A) : kk_Ctr l (d + 3) en_t_X11_whatHere [(4, 0)] (mm_w F A) (fun rs w' => w' = mm_w F A ∧ ∃ x, rs = [(0, x)] ∧ (bk_w (tk_ob tn mo a res) c x ∨ (x = 2 ∧ ¬ bk_act (tk_ob tn mo a res) c))) := by
  refine kk_ctr en_hM (List.mem_of_getElem? (i := 270) rfl) rfl (Nat.le_of_ble_eq_true rfl) (fun K hC => ?_)
  repeat' first | refine hC.gn [] _ rfl rfl ?_ | refine And.intro ?_ ?_ | exact True.intro | refine hC.iadd [] rfl rfl (by first | omega | (simp only [Int.reduceToNat] at *; omega)) ?_ | refine hC.isub [] rfl rfl (by first | omega | (simp only [Int.reduceToNat] at *; omega)) ?_ | refine hC.imul [] rfl rfl (by first | omega | (simp only [Int.reduceToNat] at *; omega)) ?_ | refine hC.iinc [] rfl rfl rfl rfl (by first | omega | (simp only [Int.reduceToNat] at *; omega)) ?_ | refine hC.go [] _ rfl rfl ?_ | (intro h; first | exact (h rfl).elim | (exfalso; cases h; done) | (dsimp only [kk_cP, kk_cN] at h) | skip)
  refine hC.same (mz_isWord l _ F A 8 (by decide) hz hr) rfl rfl rfl rfl (Nat.le_refl _) ?_
  rintro rs w' ⟨rfl, ⟨rfl, w1⟩ | ⟨rfl, w1⟩⟩
  · repeat' first | refine hC.gn [] _ rfl rfl ?_ | refine And.intro ?_ ?_ | exact True.intro | refine hC.iadd [] rfl rfl (by first | omega | (simp only [Int.reduceToNat] at *; omega)) ?_ | refine hC.isub [] rfl rfl (by first | omega | (simp only [Int.reduceToNat] at *; omega)) ?_ | refine hC.imul [] rfl rfl (by first | omega | (simp only [Int.reduceToNat] at *; omega)) ?_ | refine hC.iinc [] rfl rfl rfl rfl (by first | omega | (simp only [Int.reduceToNat] at *; omega)) ?_ | refine hC.go [] _ rfl rfl ?_ | (intro h; first | exact (h rfl).elim | (exfalso; cases h; done) | (dsimp only [kk_cP, kk_cN] at h) | skip)
    all_goals first | rfl | exact ⟨_, rfl, Or.inl (Or.inl ⟨rfl, w1⟩)⟩
  repeat' first | refine hC.gn [] _ rfl rfl ?_ | refine And.intro ?_ ?_ | exact True.intro | refine hC.iadd [] rfl rfl (by first | omega | (simp only [Int.reduceToNat] at *; omega)) ?_ | refine hC.isub [] rfl rfl (by first | omega | (simp only [Int.reduceToNat] at *; omega)) ?_ | refine hC.imul [] rfl rfl (by first | omega | (simp only [Int.reduceToNat] at *; omega)) ?_ | refine hC.iinc [] rfl rfl rfl rfl (by first | omega | (simp only [Int.reduceToNat] at *; omega)) ?_ | refine hC.go [] _ rfl rfl ?_ | (intro h; first | exact (h rfl).elim | (exfalso; cases h; done) | (dsimp only [kk_cP, kk_cN] at h) | skip)
  refine hC.same (mz_isWord l _ F A 9 (by decide) hz hr) rfl rfl rfl rfl (Nat.le_refl _) ?_
  rintro rs w' ⟨rfl, ⟨rfl, w2⟩ | ⟨rfl, w2⟩⟩
  · repeat' first | refine hC.gn [] _ rfl rfl ?_ | refine And.intro ?_ ?_ | exact True.intro | refine hC.iadd [] rfl rfl (by first | omega | (simp only [Int.reduceToNat] at *; omega)) ?_ | refine hC.isub [] rfl rfl (by first | omega | (simp only [Int.reduceToNat] at *; omega)) ?_ | refine hC.imul [] rfl rfl (by first | omega | (simp only [Int.reduceToNat] at *; omega)) ?_ | refine hC.iinc [] rfl rfl rfl rfl (by first | omega | (simp only [Int.reduceToNat] at *; omega)) ?_ | refine hC.go [] _ rfl rfl ?_ | (intro h; first | exact (h rfl).elim | (exfalso; cases h; done) | (dsimp only [kk_cP, kk_cN] at h) | skip)
    all_goals first | rfl | exact ⟨_, rfl, Or.inl (Or.inr (Or.inl ⟨rfl, w2⟩))⟩
  repeat' first | refine hC.gn [] _ rfl rfl ?_ | refine And.intro ?_ ?_ | exact True.intro | refine hC.iadd [] rfl rfl (by first | omega | (simp only [Int.reduceToNat] at *; omega)) ?_ | refine hC.isub [] rfl rfl (by first | omega | (simp only [Int.reduceToNat] at *; omega)) ?_ | refine hC.imul [] rfl rfl (by first | omega | (simp only [Int.reduceToNat] at *; omega)) ?_ | refine hC.iinc [] rfl rfl rfl rfl (by first | omega | (simp only [Int.reduceToNat] at *; omega)) ?_ | refine hC.go [] _ rfl rfl ?_ | (intro h; first | exact (h rfl).elim | (exfalso; cases h; done) | (dsimp only [kk_cP, kk_cN] at h) | skip)
  refine hC.same (mz_isWord l _ F A 11 (by decide) hz hr) rfl rfl rfl rfl (Nat.le_refl _) ?_
  rintro rs w' ⟨rfl, ⟨rfl, w3⟩ | ⟨rfl, w3⟩⟩
  · repeat' first | refine hC.gn [] _ rfl rfl ?_ | refine And.intro ?_ ?_ | exact True.intro | refine hC.iadd [] rfl rfl (by first | omega | (simp only [Int.reduceToNat] at *; omega)) ?_ | refine hC.isub [] rfl rfl (by first | omega | (simp only [Int.reduceToNat] at *; omega)) ?_ | refine hC.imul [] rfl rfl (by first | omega | (simp only [Int.reduceToNat] at *; omega)) ?_ | refine hC.iinc [] rfl rfl rfl rfl (by first | omega | (simp only [Int.reduceToNat] at *; omega)) ?_ | refine hC.go [] _ rfl rfl ?_ | (intro h; first | exact (h rfl).elim | (exfalso; cases h; done) | (dsimp only [kk_cP, kk_cN] at h) | skip)
    all_goals first | rfl | exact ⟨_, rfl, Or.inl (Or.inr (Or.inr (Or.inl ⟨rfl, w3⟩)))⟩
  repeat' first | refine hC.gn [] _ rfl rfl ?_ | refine And.intro ?_ ?_ | exact True.intro | refine hC.iadd [] rfl rfl (by first | omega | (simp only [Int.reduceToNat] at *; omega)) ?_ | refine hC.isub [] rfl rfl (by first | omega | (simp only [Int.reduceToNat] at *; omega)) ?_ | refine hC.imul [] rfl rfl (by first | omega | (simp only [Int.reduceToNat] at *; omega)) ?_ | refine hC.iinc [] rfl rfl rfl rfl (by first | omega | (simp only [Int.reduceToNat] at *; omega)) ?_ | refine hC.go [] _ rfl rfl ?_ | (intro h; first | exact (h rfl).elim | (exfalso; cases h; done) | (dsimp only [kk_cP, kk_cN] at h) | skip)
  refine hC.same (mz_isWord l _ F A 12 (by decide) hz hr) rfl rfl rfl rfl (Nat.le_refl _) ?_
  rintro rs w' ⟨rfl, ⟨rfl, w4⟩ | ⟨rfl, w4⟩⟩
  · repeat' first | refine hC.gn [] _ rfl rfl ?_ | refine And.intro ?_ ?_ | exact True.intro | refine hC.iadd [] rfl rfl (by first | omega | (simp only [Int.reduceToNat] at *; omega)) ?_ | refine hC.isub [] rfl rfl (by first | omega | (simp only [Int.reduceToNat] at *; omega)) ?_ | refine hC.imul [] rfl rfl (by first | omega | (simp only [Int.reduceToNat] at *; omega)) ?_ | refine hC.iinc [] rfl rfl rfl rfl (by first | omega | (simp only [Int.reduceToNat] at *; omega)) ?_ | refine hC.go [] _ rfl rfl ?_ | (intro h; first | exact (h rfl).elim | (exfalso; cases h; done) | (dsimp only [kk_cP, kk_cN] at h) | skip)
    all_goals first | rfl | exact ⟨_, rfl, Or.inl (Or.inr (Or.inr (Or.inr ⟨rfl, w4⟩)))⟩
  · repeat' first | refine hC.gn [] _ rfl rfl ?_ | refine And.intro ?_ ?_ | exact True.intro | refine hC.iadd [] rfl rfl (by first | omega | (simp only [Int.reduceToNat] at *; omega)) ?_ | refine hC.isub [] rfl rfl (by first | omega | (simp only [Int.reduceToNat] at *; omega)) ?_ | refine hC.imul [] rfl rfl (by first | omega | (simp only [Int.reduceToNat] at *; omega)) ?_ | refine hC.iinc [] rfl rfl rfl rfl (by first | omega | (simp only [Int.reduceToNat] at *; omega)) ?_ | refine hC.go [] _ rfl rfl ?_ | (intro h; first | exact (h rfl).elim | (exfalso; cases h; done) | (dsimp only [kk_cP, kk_cN] at h) | skip)
    all_goals first | rfl | exact ⟨_, rfl, Or.inr ⟨rfl, fun q => q.elim w1 (fun q => q.elim w2 (fun q => q.elim w3 w4))⟩⟩
theorem mz_readDoes (hz : rz res) (hr : rmw tn mo a res c F A) {Hs : Nat → Nat → Int} (hc : mm_cn (A 2)) (hG : mb_G Hs A) {p : Int} (ha : 0 ≤ p ∧ p ≤ 117) {v : Int} (hv : fi_I (A 7) 8 (A 2 1) (F 12) v) (v0 : 0 ≤ v ∧ v ≤ 3) : kk_Ctr l (d + 4) en_t_X11_readDoes [(4, 0), (0, p)] (mm_w F A) (fun rs w' => ∃ F' f, w' = mm_w F' (mm_up A 14 f) ∧ (∀ k : Nat, (k : Int) ≠ p + 1 → (k : Int) ≠ p + 2 → f k = A 14 k) ∧ ((∃ c', bk_do (tk_ob tn mo a res) (tk_nx tn mo a res) Hs c = .ok c' ∧ rs = [(0, 1)] ∧ (0 ≤ f (p + 1).toNat ∧ f (p + 1).toNat ≤ 3 ∧ 0 ≤ f (p + 2).toNat ∧ f (p + 2).toNat ≤ 7) ∧ mz_K tn mo a res c' F F' A) ∨ (∃ e, bk_do (tk_ob tn mo a res) (tk_nx tn mo a res) Hs c = .error e ∧ rs = [(0, 0)] ∧ mz_E F F' e))) := by
  obtain ⟨c1, c2, c3, c4, c5, c6⟩ := id hc
  obtain ⟨⟨e0, e1, e2⟩, n0, n1, n2⟩ := hG
  refine kk_ctr en_hM (List.mem_of_getElem? (i := 273) rfl) rfl (Nat.le_of_ble_eq_true rfl) (fun K hC => ?_)
  have k27 : ∀ (f : Nat → Int), (∀ k : Nat, (k : Int) ≠ p + 1 → f k = A 14 k) → 0 ≤ f (p + 1).toNat ∧ f (p + 1).toNat ≤ 3 → K 27 [(0, (4, 0)), (1, (0, p))] [] (mm_w F (mm_up A 14 f)) := by
    intro f hf hf1
    repeat' first | refine hC.gn [] _ rfl rfl ?_ | refine And.intro ?_ ?_ | exact True.intro | refine hC.iadd [] rfl rfl (by first | omega | (simp only [Int.reduceToNat] at *; omega)) ?_ | refine hC.isub [] rfl rfl (by first | omega | (simp only [Int.reduceToNat] at *; omega)) ?_ | refine hC.imul [] rfl rfl (by first | omega | (simp only [Int.reduceToNat] at *; omega)) ?_ | refine hC.iinc [] rfl rfl rfl rfl (by first | omega | (simp only [Int.reduceToNat] at *; omega)) ?_ | refine hC.go [] _ rfl rfl ?_ | (intro h; first | exact (h rfl).elim | (exfalso; cases h; done) | (dsimp only [kk_cP, kk_cN] at h) | skip)
    refine hC.same (mz_go l _ F (mm_up A 14 f) (show rmw tn mo a res c F (mm_up A 14 f) from hr)) rfl rfl rfl rfl (Nat.le_refl _) ?_
    rintro rs w' ⟨rfl, F1, rfl, x1, p1, hr1⟩
    have f1 := x1.f10
    repeat' first | refine hC.gn [] _ rfl rfl ?_ | refine And.intro ?_ ?_ | exact True.intro | refine hC.iadd [] rfl rfl (by first | omega | (simp only [Int.reduceToNat] at *; omega)) ?_ | refine hC.isub [] rfl rfl (by first | omega | (simp only [Int.reduceToNat] at *; omega)) ?_ | refine hC.imul [] rfl rfl (by first | omega | (simp only [Int.reduceToNat] at *; omega)) ?_ | refine hC.iinc [] rfl rfl rfl rfl (by first | omega | (simp only [Int.reduceToNat] at *; omega)) ?_ | refine hC.go [] _ rfl rfl ?_ | (intro h; first | exact (h rfl).elim | (exfalso; cases h; done) | (dsimp only [kk_cP, kk_cN] at h) | skip)
    refine hC.same (mz_isWord l _ F1 (mm_up A 14 f) 10 (by decide) hz hr1) rfl rfl rfl rfl (Nat.le_refl _) ?_
    rintro rs w' ⟨rfl, ⟨rfl, w1⟩ | ⟨rfl, w1⟩⟩
    · repeat' first | refine hC.gn [] _ rfl rfl ?_ | refine And.intro ?_ ?_ | exact True.intro | refine hC.iadd [] rfl rfl (by first | omega | (simp only [Int.reduceToNat] at *; omega)) ?_ | refine hC.isub [] rfl rfl (by first | omega | (simp only [Int.reduceToNat] at *; omega)) ?_ | refine hC.imul [] rfl rfl (by first | omega | (simp only [Int.reduceToNat] at *; omega)) ?_ | refine hC.iinc [] rfl rfl rfl rfl (by first | omega | (simp only [Int.reduceToNat] at *; omega)) ?_ | refine hC.go [] _ rfl rfl ?_ | (intro h; first | exact (h rfl).elim | (exfalso; cases h; done) | (dsimp only [kk_cP, kk_cN] at h) | skip)
      refine hC.same (mz_go l _ F1 (mm_up A 14 f) hr1) rfl rfl rfl rfl (Nat.le_refl _) ?_
      rintro rs w' ⟨rfl, F2, rfl, x2, p2, hr2⟩
      have f2 := x2.f10
      repeat' first | refine hC.gn [] _ rfl rfl ?_ | refine And.intro ?_ ?_ | exact True.intro | refine hC.iadd [] rfl rfl (by first | omega | (simp only [Int.reduceToNat] at *; omega)) ?_ | refine hC.isub [] rfl rfl (by first | omega | (simp only [Int.reduceToNat] at *; omega)) ?_ | refine hC.imul [] rfl rfl (by first | omega | (simp only [Int.reduceToNat] at *; omega)) ?_ | refine hC.iinc [] rfl rfl rfl rfl (by first | omega | (simp only [Int.reduceToNat] at *; omega)) ?_ | refine hC.go [] _ rfl rfl ?_ | (intro h; first | exact (h rfl).elim | (exfalso; cases h; done) | (dsimp only [kk_cP, kk_cN] at h) | skip)
      all_goals first | omega | skip
      refine hC.same (mz_readNamed l _ F2 (mm_up A 14 f) hz hr2 (Ac := Hs) 0 0 (A 2 0) (by omega) (by omega) e0 (by rw [e0]; exact n0)) rfl rfl rfl rfl (Nat.le_refl _) ?_
      rintro rs w' (⟨x, F3, es, rfl, rfl, e13, x0, x1, p3, e10, hr3⟩ | ⟨e, F3, es, rfl, rfl, p3, g1, g2⟩)
      · repeat' first | refine hC.gn [] _ rfl rfl ?_ | refine And.intro ?_ ?_ | exact True.intro | refine hC.iadd [] rfl rfl (by first | omega | (simp only [Int.reduceToNat] at *; omega)) ?_ | refine hC.isub [] rfl rfl (by first | omega | (simp only [Int.reduceToNat] at *; omega)) ?_ | refine hC.imul [] rfl rfl (by first | omega | (simp only [Int.reduceToNat] at *; omega)) ?_ | refine hC.iinc [] rfl rfl rfl rfl (by first | omega | (simp only [Int.reduceToNat] at *; omega)) ?_ | refine hC.go [] _ rfl rfl ?_ | (intro h; first | exact (h rfl).elim | (exfalso; cases h; done) | (dsimp only [kk_cP, kk_cN] at h) | skip)
        refine hC.same (mm_keep l _ F3 (mm_up A 14 f) (p + 2) 1 (by omega) (Or.inr rfl)) rfl rfl rfl rfl (Nat.le_refl _) ?_
        rintro rs w' ⟨rfl, ⟨g0, -⟩ | ⟨-, rfl⟩⟩
        · exact absurd g0 (by decide)
        repeat' first | refine hC.gn [] _ rfl rfl ?_ | refine And.intro ?_ ?_ | exact True.intro | refine hC.iadd [] rfl rfl (by first | omega | (simp only [Int.reduceToNat] at *; omega)) ?_ | refine hC.isub [] rfl rfl (by first | omega | (simp only [Int.reduceToNat] at *; omega)) ?_ | refine hC.imul [] rfl rfl (by first | omega | (simp only [Int.reduceToNat] at *; omega)) ?_ | refine hC.iinc [] rfl rfl rfl rfl (by first | omega | (simp only [Int.reduceToNat] at *; omega)) ?_ | refine hC.go [] _ rfl rfl ?_ | (intro h; first | exact (h rfl).elim | (exfalso; cases h; done) | (dsimp only [kk_cP, kk_cN] at h) | skip)
        all_goals first | exact Or.inl rfl | exact Or.inr rfl | skip
        refine ⟨F3, kk_up f (p + 2).toNat (F3 13), rfl, fun k q1 q2 => (kk_up_ne (by omega)).trans (hf k q1), Or.inl ⟨_, bk_d w1 es, rfl, ⟨?_, ?_, ?_, ?_⟩, (p1.tr p2).tr p3, e10.trans (f2.trans f1), hr3⟩⟩
        · rw [kk_up_ne (by omega)]; exact hf1.1
        · rw [kk_up_ne (by omega)]; exact hf1.2
        · rw [kk_up_eq]; omega
        · rw [kk_up_eq]; omega
      · repeat' first | refine hC.gn [] _ rfl rfl ?_ | refine And.intro ?_ ?_ | exact True.intro | refine hC.iadd [] rfl rfl (by first | omega | (simp only [Int.reduceToNat] at *; omega)) ?_ | refine hC.isub [] rfl rfl (by first | omega | (simp only [Int.reduceToNat] at *; omega)) ?_ | refine hC.imul [] rfl rfl (by first | omega | (simp only [Int.reduceToNat] at *; omega)) ?_ | refine hC.iinc [] rfl rfl rfl rfl (by first | omega | (simp only [Int.reduceToNat] at *; omega)) ?_ | refine hC.go [] _ rfl rfl ?_ | (intro h; first | exact (h rfl).elim | (exfalso; cases h; done) | (dsimp only [kk_cP, kk_cN] at h) | skip)
        refine hC.same (mm_keep l _ F3 (mm_up A 14 f) (p + 2) 0 (by omega) (Or.inl rfl)) rfl rfl rfl rfl (Nat.le_refl _) ?_
        rintro rs w' ⟨rfl, ⟨-, rfl⟩ | ⟨g0, -⟩⟩
        · repeat' first | refine hC.gn [] _ rfl rfl ?_ | refine And.intro ?_ ?_ | exact True.intro | refine hC.iadd [] rfl rfl (by first | omega | (simp only [Int.reduceToNat] at *; omega)) ?_ | refine hC.isub [] rfl rfl (by first | omega | (simp only [Int.reduceToNat] at *; omega)) ?_ | refine hC.imul [] rfl rfl (by first | omega | (simp only [Int.reduceToNat] at *; omega)) ?_ | refine hC.iinc [] rfl rfl rfl rfl (by first | omega | (simp only [Int.reduceToNat] at *; omega)) ?_ | refine hC.go [] _ rfl rfl ?_ | (intro h; first | exact (h rfl).elim | (exfalso; cases h; done) | (dsimp only [kk_cP, kk_cN] at h) | skip)
          all_goals first | exact Or.inl rfl | exact Or.inr rfl | exact ⟨F3, f, rfl, fun k q1 _ => hf k q1, Or.inr ⟨e, bk_de w1 es, rfl, (p1.tr p2).tr p3, g1, g2⟩⟩
        · exact absurd g0 (by decide)
    · repeat' first | refine hC.gn [] _ rfl rfl ?_ | refine And.intro ?_ ?_ | exact True.intro | refine hC.iadd [] rfl rfl (by first | omega | (simp only [Int.reduceToNat] at *; omega)) ?_ | refine hC.isub [] rfl rfl (by first | omega | (simp only [Int.reduceToNat] at *; omega)) ?_ | refine hC.imul [] rfl rfl (by first | omega | (simp only [Int.reduceToNat] at *; omega)) ?_ | refine hC.iinc [] rfl rfl rfl rfl (by first | omega | (simp only [Int.reduceToNat] at *; omega)) ?_ | refine hC.go [] _ rfl rfl ?_ | (intro h; first | exact (h rfl).elim | (exfalso; cases h; done) | (dsimp only [kk_cP, kk_cN] at h) | skip)
      refine hC.same (mz_bad1 l _ F1 (mm_up A 14 f) hr1) rfl rfl rfl rfl (Nat.le_refl _) ?_
      rintro rs w' ⟨rfl, F2, rfl, p2, g1, g2⟩
      repeat' first | refine hC.gn [] _ rfl rfl ?_ | refine And.intro ?_ ?_ | exact True.intro | refine hC.iadd [] rfl rfl (by first | omega | (simp only [Int.reduceToNat] at *; omega)) ?_ | refine hC.isub [] rfl rfl (by first | omega | (simp only [Int.reduceToNat] at *; omega)) ?_ | refine hC.imul [] rfl rfl (by first | omega | (simp only [Int.reduceToNat] at *; omega)) ?_ | refine hC.iinc [] rfl rfl rfl rfl (by first | omega | (simp only [Int.reduceToNat] at *; omega)) ?_ | refine hC.go [] _ rfl rfl ?_ | (intro h; first | exact (h rfl).elim | (exfalso; cases h; done) | (dsimp only [kk_cP, kk_cN] at h) | skip)
      all_goals first | exact Or.inl rfl | exact Or.inr rfl | exact ⟨F2, f, rfl, fun k q1 _ => hf k q1, Or.inr ⟨_, bk_d1 w1, rfl, p1.tr p2, g1, g2⟩⟩
  repeat' first | refine hC.gn [27] _ rfl rfl ?_ | refine And.intro ?_ ?_ | exact True.intro | refine hC.iadd [27] rfl rfl (by first | omega | (simp only [Int.reduceToNat] at *; omega)) ?_ | refine hC.isub [27] rfl rfl (by first | omega | (simp only [Int.reduceToNat] at *; omega)) ?_ | refine hC.imul [27] rfl rfl (by first | omega | (simp only [Int.reduceToNat] at *; omega)) ?_ | refine hC.iinc [27] rfl rfl rfl rfl (by first | omega | (simp only [Int.reduceToNat] at *; omega)) ?_ | refine hC.go [27] _ rfl rfl ?_ | (intro h; first | exact (h rfl).elim | (exfalso; cases h; done) | (dsimp only [kk_cP, kk_cN] at h) | skip)
  all_goals first | omega | skip
  refine hC.call (mm_xFindIn l _ 22 (A 7) 8 (A 2 1) (F 12) (by omega) (by decide) c3) [7] rfl rfl rfl rfl rfl rfl ⟨rfl, trivial⟩ (Nat.le_refl _) ?_
  rintro rs w' ⟨rfl, x, rfl, hfi⟩
  have hxv : x = v := hfi.det hv
  subst hxv
  repeat' first | refine hC.gn [27] _ rfl rfl ?_ | refine And.intro ?_ ?_ | exact True.intro | refine hC.iadd [27] rfl rfl (by first | omega | (simp only [Int.reduceToNat] at *; omega)) ?_ | refine hC.isub [27] rfl rfl (by first | omega | (simp only [Int.reduceToNat] at *; omega)) ?_ | refine hC.imul [27] rfl rfl (by first | omega | (simp only [Int.reduceToNat] at *; omega)) ?_ | refine hC.iinc [27] rfl rfl rfl rfl (by first | omega | (simp only [Int.reduceToNat] at *; omega)) ?_ | refine hC.go [27] _ rfl rfl ?_ | (intro h; first | exact (h rfl).elim | (exfalso; cases h; done) | (dsimp only [kk_cP, kk_cN] at h) | skip)
  all_goals first | omega | skip
  exact k27 (kk_up (A 14) (p + 1).toNat x) (fun k hk => kk_up_ne (by omega)) (by rw [kk_up_eq]; exact v0)
/-- how a line ends -/
def mz_QB (tn mo : Int) (a : Int → Int) (res : Nat → Int) (F : Nat → Int) (A : Nat → Nat → Int) (sp : Except (Int × Int) Int) : List en_V → List kk_C → Prop := fun rs w' => ∃ F' f, w' = mm_w F' (mm_up A 14 f) ∧ (∀ k : Nat, (k : Int) < 3 * F 40 → f k = A 14 k) ∧ ((∃ c', sp = .ok c' ∧ rs = [(0, 1)] ∧ F 40 < 40 ∧ mm_ln f (F 40).toNat ∧ mz_K tn mo a res c' F F' A) ∨ (∃ e, sp = .error e ∧ rs = [(0, 0)] ∧ mz_E F F' e))
theorem mz_readBookLine (hz : rz res) (hr : rmw tn mo a res c F A) {Hs : Nat → Nat → Int} (hc : mm_cn (A 2)) (hG : mb_G Hs A) (h4 : 0 ≤ F 40 ∧ F 40 ≤ 40) : kk_Ctr l (d + 5) en_t_X11_readBookLine [(4, 0)] (mm_w F A) (mz_QB tn mo a res F A (bk_row (tk_ob tn mo a res) (tk_nx tn mo a res) Hs c (F 40))) := by
  obtain ⟨c1, c2, c3, c4, c5, c6⟩ := id hc
  obtain ⟨⟨e0, e1, e2⟩, n0, n1, n2⟩ := id hG
  have hh := hr.ok
  generalize hsp : bk_row (tk_ob tn mo a res) (tk_nx tn mo a res) Hs c (F 40) = sp
  refine kk_ctr en_hM (List.mem_of_getElem? (i := 248) rfl) rfl (Nat.le_of_ble_eq_true rfl) (fun K hC => ?_)
  have k81 : ∀ (f : Nat → Int) (x : Int), (∀ k : Nat, (k : Int) < 3 * F 40 → f k = A 14 k) → f (3 * F 40).toNat = x → F 40 < 40 → ((x = 2 ∧ (∃ v, fi_I (A 7) 8 (A 2 1) (F 12) v ∧ 0 ≤ v ∧ v ≤ 3) ∧ bk_line (tk_ob tn mo a res) (tk_nx tn mo a res) Hs c (F 40) = bk_do (tk_ob tn mo a res) (tk_nx tn mo a res) Hs c) ∨ (bk_w (tk_ob tn mo a res) c x ∧ bk_line (tk_ob tn mo a res) (tk_nx tn mo a res) Hs c (F 40) = bk_ot (tk_ob tn mo a res) (tk_nx tn mo a res) Hs c)) → K 81 [(0, (4, 0)), (1, (0, x)), (2, (0, 3 * F 40))] [] (mm_w F (mm_up A 14 f)) := by
    intro f x hf hfx h40 hx
    have ej : (3 * F 40).toNat = 3 * (F 40).toNat := by omega
    have ej1 : (3 * F 40 + 1).toNat = 3 * (F 40).toNat + 1 := by omega
    have ej2 : (3 * F 40 + 2).toNat = 3 * (F 40).toNat + 2 := by omega
    have hfx' : f (3 * (F 40).toNat) = x := by rw [← ej]; exact hfx
    -- a line's end
    have fin : ∀ (F2 : Nat → Int) (f' : Nat → Int) (c' : Int) (pc : Nat) (w : Int), (∀ k : Nat, (k : Int) < 3 * F 40 → f' k = A 14 k) → mm_ln f' (F 40).toNat → bk_line (tk_ob tn mo a res) (tk_nx tn mo a res) Hs c (F 40) = .ok c' → mz_K tn mo a res c' F F2 A → ∀ rs w', ((tk_ob tn mo a res c' 3 = 59 ∧ rs = [(0, 1)] ∧ ∃ F', w' = mm_w F' (mm_up A 14 f') ∧ mz_K tn mo a res (tk_nx tn mo a res c') F2 F' (mm_up A 14 f')) ∨ (tk_ob tn mo a res c' 3 ≠ 59 ∧ rs = [(0, 0)] ∧ ∃ F', w' = mm_w F' (mm_up A 14 f') ∧ mz_E F2 F' (1, tk_ob tn mo a res c' 4))) → mz_QB tn mo a res F A sp rs w' := by
      rintro F2 f' c' pc w q1 q2 q3 ⟨k1, k2, k3⟩ rs w' (⟨q59, rfl, F', rfl, z1, z2, z3⟩ | ⟨q59, rfl, F', rfl, z1, z2⟩)
      · exact ⟨F', f', rfl, q1, Or.inl ⟨_, hsp.symm.trans (bk_row_k q3 q59), rfl, h40, q2, k1.tr z1, z2.trans k2, z3⟩⟩
      · exact ⟨F', f', rfl, q1, Or.inr ⟨_, hsp.symm.trans (bk_row_1 q3 q59), rfl, k1.tr z1, z2⟩⟩
    rcases hx with ⟨x2, ⟨v, hv, v0⟩, hbl⟩ | ⟨hw, hbl⟩
    · repeat' first | refine hC.gn [] _ rfl rfl ?_ | refine And.intro ?_ ?_ | exact True.intro | refine hC.iadd [] rfl rfl (by first | omega | (simp only [Int.reduceToNat] at *; omega)) ?_ | refine hC.isub [] rfl rfl (by first | omega | (simp only [Int.reduceToNat] at *; omega)) ?_ | refine hC.imul [] rfl rfl (by first | omega | (simp only [Int.reduceToNat] at *; omega)) ?_ | refine hC.iinc [] rfl rfl rfl rfl (by first | omega | (simp only [Int.reduceToNat] at *; omega)) ?_ | refine hC.go [] _ rfl rfl ?_ | (intro h; first | exact (h rfl).elim | (exfalso; cases h; done) | (dsimp only [kk_cP, kk_cN] at h) | skip)
      all_goals first | omega | skip
      refine hC.same (mz_readDoes l _ F (mm_up A 14 f) hz (show rmw tn mo a res c F (mm_up A 14 f) from hr) (Hs := Hs) hc (show mb_G Hs (mm_up A 14 f) from hG) (p := 3 * F 40) (by omega) hv v0) rfl rfl rfl rfl (Nat.le_refl _) ?_
      rintro rs w' ⟨F1, f1, rfl, hf1, ⟨c', ev, rfl, ⟨d1, d2, d3, d4⟩, hK1⟩ | ⟨e, ev, rfl, hE1⟩⟩
      · have hl : mm_ln f1 (F 40).toNat := by
          have e0 : f1 (3 * (F 40).toNat) = 2 := (hf1 _ (by omega) (by omega)).trans (hfx'.trans x2)
          rw [ej1] at d1 d2
          rw [ej2] at d3 d4
          unfold mm_ln
          rw [e0]
          exact ⟨by decide, fun q => absurd q (by decide), fun _ => ⟨d1, d2, d3, d4⟩⟩
        have hr1 : rmw tn mo a res c' F1 (mm_up A 14 f1) := hK1.2.2
        repeat' first | refine hC.gn [] _ rfl rfl ?_ | refine And.intro ?_ ?_ | exact True.intro | refine hC.iadd [] rfl rfl (by first | omega | (simp only [Int.reduceToNat] at *; omega)) ?_ | refine hC.isub [] rfl rfl (by first | omega | (simp only [Int.reduceToNat] at *; omega)) ?_ | refine hC.imul [] rfl rfl (by first | omega | (simp only [Int.reduceToNat] at *; omega)) ?_ | refine hC.iinc [] rfl rfl rfl rfl (by first | omega | (simp only [Int.reduceToNat] at *; omega)) ?_ | refine hC.go [] _ rfl rfl ?_ | (intro h; first | exact (h rfl).elim | (exfalso; cases h; done) | (dsimp only [kk_cP, kk_cN] at h) | skip)
        refine hC.same (mz_readEnd l _ F1 (mm_up A 14 f1) hr1) rfl rfl rfl rfl (Nat.le_refl _) ?_
        intro rs w' hq
        have hQ := fin F1 f1 c' 0 0 (fun k hk => (hf1 k (by omega) (by omega)).trans (hf k hk)) hl (hbl.trans ev) hK1 rs w' hq
        rcases hq with ⟨q59, rfl, F', rfl, z⟩ | ⟨q59, rfl, F', rfl, z⟩
        · repeat' first | refine hC.gn [] _ rfl rfl ?_ | refine And.intro ?_ ?_ | exact True.intro | refine hC.iadd [] rfl rfl (by first | omega | (simp only [Int.reduceToNat] at *; omega)) ?_ | refine hC.isub [] rfl rfl (by first | omega | (simp only [Int.reduceToNat] at *; omega)) ?_ | refine hC.imul [] rfl rfl (by first | omega | (simp only [Int.reduceToNat] at *; omega)) ?_ | refine hC.iinc [] rfl rfl rfl rfl (by first | omega | (simp only [Int.reduceToNat] at *; omega)) ?_ | refine hC.go [] _ rfl rfl ?_ | (intro h; first | exact (h rfl).elim | (exfalso; cases h; done) | (dsimp only [kk_cP, kk_cN] at h) | skip)
          all_goals first | exact Or.inl rfl | exact Or.inr rfl | exact hQ
        · repeat' first | refine hC.gn [] _ rfl rfl ?_ | refine And.intro ?_ ?_ | exact True.intro | refine hC.iadd [] rfl rfl (by first | omega | (simp only [Int.reduceToNat] at *; omega)) ?_ | refine hC.isub [] rfl rfl (by first | omega | (simp only [Int.reduceToNat] at *; omega)) ?_ | refine hC.imul [] rfl rfl (by first | omega | (simp only [Int.reduceToNat] at *; omega)) ?_ | refine hC.iinc [] rfl rfl rfl rfl (by first | omega | (simp only [Int.reduceToNat] at *; omega)) ?_ | refine hC.go [] _ rfl rfl ?_ | (intro h; first | exact (h rfl).elim | (exfalso; cases h; done) | (dsimp only [kk_cP, kk_cN] at h) | skip)
          all_goals first | exact Or.inl rfl | exact Or.inr rfl | exact hQ
      · repeat' first | refine hC.gn [] _ rfl rfl ?_ | refine And.intro ?_ ?_ | exact True.intro | refine hC.iadd [] rfl rfl (by first | omega | (simp only [Int.reduceToNat] at *; omega)) ?_ | refine hC.isub [] rfl rfl (by first | omega | (simp only [Int.reduceToNat] at *; omega)) ?_ | refine hC.imul [] rfl rfl (by first | omega | (simp only [Int.reduceToNat] at *; omega)) ?_ | refine hC.iinc [] rfl rfl rfl rfl (by first | omega | (simp only [Int.reduceToNat] at *; omega)) ?_ | refine hC.go [] _ rfl rfl ?_ | (intro h; first | exact (h rfl).elim | (exfalso; cases h; done) | (dsimp only [kk_cP, kk_cN] at h) | skip)
        all_goals first | exact Or.inl rfl | exact Or.inr rfl | exact ⟨F1, f1, rfl, fun k hk => (hf1 k (by omega) (by omega)).trans (hf k hk), Or.inr ⟨e, hsp.symm.trans (bk_row_e (hbl.trans ev)), rfl, hE1⟩⟩
    · have xn2 : x ≠ 2 := by omega
      repeat' first | refine hC.gn [] _ rfl rfl ?_ | refine And.intro ?_ ?_ | exact True.intro | refine hC.iadd [] rfl rfl (by first | omega | (simp only [Int.reduceToNat] at *; omega)) ?_ | refine hC.isub [] rfl rfl (by first | omega | (simp only [Int.reduceToNat] at *; omega)) ?_ | refine hC.imul [] rfl rfl (by first | omega | (simp only [Int.reduceToNat] at *; omega)) ?_ | refine hC.iinc [] rfl rfl rfl rfl (by first | omega | (simp only [Int.reduceToNat] at *; omega)) ?_ | refine hC.go [] _ rfl rfl ?_ | (intro h; first | exact (h rfl).elim | (exfalso; cases h; done) | (dsimp only [kk_cP, kk_cN] at h) | skip)
      all_goals first | omega | skip
      refine hC.same (mz_go l _ F (mm_up A 14 f) (show rmw tn mo a res c F (mm_up A 14 f) from hr)) rfl rfl rfl rfl (Nat.le_refl _) ?_
      rintro rs w' ⟨rfl, F1, rfl, x1, p1, hr1⟩
      have f1 := x1.f10
      -- a number or name is kept, then the end
      have kp : ∀ (F2 : Nat → Int) (g : Int) (pc : Nat), (pc = 160 ∨ pc = 195 ∨ pc = 225) → ((g = 0 ∧ ∃ e, bk_ot (tk_ob tn mo a res) (tk_nx tn mo a res) Hs c = .error e ∧ mz_E F F2 e) ∨ (g = 1 ∧ (x = 1 → 0 ≤ F2 13 ∧ F2 13 ≤ 9) ∧ ∃ c', bk_ot (tk_ob tn mo a res) (tk_nx tn mo a res) Hs c = .ok c' ∧ mz_K tn mo a res c' F F2 A)) → K pc [(0, (4, 0)), (1, (0, x)), (2, (0, 3 * F 40))] [(0, g), (0, 3 * F 40 + 1), (4, 0)] (mm_w F2 (mm_up A 14 f)) := by
        intro F2 g pc hpc hg
        rcases hg with ⟨rfl, e, ev, hE⟩ | ⟨rfl, hg, c', ev, hK2⟩
        · rcases hpc with rfl | rfl | rfl
          all_goals
            refine hC.same (mm_keep l _ F2 (mm_up A 14 f) (3 * F 40 + 1) 0 (by omega) (Or.inl rfl)) rfl rfl rfl rfl (Nat.le_refl _) ?_
            rintro rs w' ⟨rfl, ⟨-, rfl⟩ | ⟨g0, -⟩⟩
            · repeat' first | refine hC.gn [] _ rfl rfl ?_ | refine And.intro ?_ ?_ | exact True.intro | refine hC.iadd [] rfl rfl (by first | omega | (simp only [Int.reduceToNat] at *; omega)) ?_ | refine hC.isub [] rfl rfl (by first | omega | (simp only [Int.reduceToNat] at *; omega)) ?_ | refine hC.imul [] rfl rfl (by first | omega | (simp only [Int.reduceToNat] at *; omega)) ?_ | refine hC.iinc [] rfl rfl rfl rfl (by first | omega | (simp only [Int.reduceToNat] at *; omega)) ?_ | refine hC.go [] _ rfl rfl ?_ | (intro h; first | exact (h rfl).elim | (exfalso; cases h; done) | (dsimp only [kk_cP, kk_cN] at h) | skip)
              all_goals first | exact Or.inl rfl | exact Or.inr rfl | exact ⟨F2, f, rfl, hf, Or.inr ⟨e, hsp.symm.trans (bk_row_e (hbl.trans ev)), rfl, hE⟩⟩
            · exact absurd g0 (by decide)
        · have hl : mm_ln (kk_up f (3 * F 40 + 1).toNat (F2 13)) (F 40).toNat := by
            rw [ej1]
            unfold mm_ln
            rw [kk_up_ne (by omega), hfx', kk_up_eq]
            exact ⟨by omega, hg, fun q => absurd q xn2⟩
          have hr2 : rmw tn mo a res c' F2 (mm_up A 14 (kk_up f (3 * F 40 + 1).toNat (F2 13))) := hK2.2.2
          rcases hpc with rfl | rfl | rfl
          all_goals
            refine hC.same (mm_keep l _ F2 (mm_up A 14 f) (3 * F 40 + 1) 1 (by omega) (Or.inr rfl)) rfl rfl rfl rfl (Nat.le_refl _) ?_
            rintro rs w' ⟨rfl, ⟨g0, -⟩ | ⟨-, rfl⟩⟩
            · exact absurd g0 (by decide)
            · repeat' first | refine hC.gn [] _ rfl rfl ?_ | refine And.intro ?_ ?_ | exact True.intro | refine hC.iadd [] rfl rfl (by first | omega | (simp only [Int.reduceToNat] at *; omega)) ?_ | refine hC.isub [] rfl rfl (by first | omega | (simp only [Int.reduceToNat] at *; omega)) ?_ | refine hC.imul [] rfl rfl (by first | omega | (simp only [Int.reduceToNat] at *; omega)) ?_ | refine hC.iinc [] rfl rfl rfl rfl (by first | omega | (simp only [Int.reduceToNat] at *; omega)) ?_ | refine hC.go [] _ rfl rfl ?_ | (intro h; first | exact (h rfl).elim | (exfalso; cases h; done) | (dsimp only [kk_cP, kk_cN] at h) | skip)
              refine hC.same (mz_readEnd l _ F2 (mm_up A 14 (kk_up f (3 * F 40 + 1).toNat (F2 13))) hr2) rfl rfl rfl rfl (Nat.le_refl _) ?_
              intro rs w' hq
              have hQ := fin F2 (kk_up f (3 * F 40 + 1).toNat (F2 13)) c' 0 0 (fun k hk => (kk_up_ne (by omega)).trans (hf k hk)) hl (hbl.trans ev) hK2 rs w' hq
              rcases hq with ⟨q59, rfl, F', rfl, z⟩ | ⟨q59, rfl, F', rfl, z⟩
              · repeat' first | refine hC.gn [] _ rfl rfl ?_ | refine And.intro ?_ ?_ | exact True.intro | refine hC.iadd [] rfl rfl (by first | omega | (simp only [Int.reduceToNat] at *; omega)) ?_ | refine hC.isub [] rfl rfl (by first | omega | (simp only [Int.reduceToNat] at *; omega)) ?_ | refine hC.imul [] rfl rfl (by first | omega | (simp only [Int.reduceToNat] at *; omega)) ?_ | refine hC.iinc [] rfl rfl rfl rfl (by first | omega | (simp only [Int.reduceToNat] at *; omega)) ?_ | refine hC.go [] _ rfl rfl ?_ | (intro h; first | exact (h rfl).elim | (exfalso; cases h; done) | (dsimp only [kk_cP, kk_cN] at h) | skip)
                all_goals first | exact Or.inl rfl | exact Or.inr rfl | exact hQ
              · repeat' first | refine hC.gn [] _ rfl rfl ?_ | refine And.intro ?_ ?_ | exact True.intro | refine hC.iadd [] rfl rfl (by first | omega | (simp only [Int.reduceToNat] at *; omega)) ?_ | refine hC.isub [] rfl rfl (by first | omega | (simp only [Int.reduceToNat] at *; omega)) ?_ | refine hC.imul [] rfl rfl (by first | omega | (simp only [Int.reduceToNat] at *; omega)) ?_ | refine hC.iinc [] rfl rfl rfl rfl (by first | omega | (simp only [Int.reduceToNat] at *; omega)) ?_ | refine hC.go [] _ rfl rfl ?_ | (intro h; first | exact (h rfl).elim | (exfalso; cases h; done) | (dsimp only [kk_cP, kk_cN] at h) | skip)
                all_goals first | exact Or.inl rfl | exact Or.inr rfl | exact hQ
      repeat' first | refine hC.gn [160, 195, 225] _ rfl rfl ?_ | refine And.intro ?_ ?_ | exact True.intro | refine hC.iadd [160, 195, 225] rfl rfl (by first | omega | (simp only [Int.reduceToNat] at *; omega)) ?_ | refine hC.isub [160, 195, 225] rfl rfl (by first | omega | (simp only [Int.reduceToNat] at *; omega)) ?_ | refine hC.imul [160, 195, 225] rfl rfl (by first | omega | (simp only [Int.reduceToNat] at *; omega)) ?_ | refine hC.iinc [160, 195, 225] rfl rfl rfl rfl (by first | omega | (simp only [Int.reduceToNat] at *; omega)) ?_ | refine hC.go [160, 195, 225] _ rfl rfl ?_ | (intro h; first | exact (h rfl).elim | (exfalso; cases h; done) | (dsimp only [kk_cP, kk_cN] at h) | skip) | (refine hC.same (mz_readNumber l _ F1 (mm_up A 14 f) 0 999 hr1) rfl rfl rfl rfl (Nat.le_refl _) ?_; rintro rs w' (⟨v, F2, ev, rfl, rfl, e13, v0, v1, p2, e10, hr2⟩ | ⟨e, F2, ev, rfl, rfl, p2, g1, g2⟩)) | (refine hC.same (mz_readNumber l _ F1 (mm_up A 14 f) 1 30 hr1) rfl rfl rfl rfl (Nat.le_refl _) ?_; rintro rs w' (⟨v, F2, ev, rfl, rfl, e13, v0, v1, p2, e10, hr2⟩ | ⟨e, F2, ev, rfl, rfl, p2, g1, g2⟩)) | (refine hC.same (mz_readNamed l _ F1 (mm_up A 14 f) hz hr1 (Ac := Hs) 2 12 (A 2 2) (by omega) (by omega) e2 (by rw [e2]; exact n2)) rfl rfl rfl rfl (Nat.le_refl _) ?_; rintro rs w' (⟨v, F2, ev, rfl, rfl, e13, v0, v1, p2, e10, hr2⟩ | ⟨e, F2, ev, rfl, rfl, p2, g1, g2⟩))
      all_goals first | omega | exact kp F2 1 _ (by first | exact Or.inl rfl | exact Or.inr (Or.inl rfl) | exact Or.inr (Or.inr rfl)) (Or.inr ⟨rfl, (fun q => by omega), _, (by first | exact bk_o0 (by omega) ev | exact bk_o1 (by omega) ev | exact bk_o4 (by omega) ev), p1.tr p2, e10.trans f1, hr2⟩) | exact kp F2 0 _ (by first | exact Or.inl rfl | exact Or.inr (Or.inl rfl) | exact Or.inr (Or.inr rfl)) (Or.inl ⟨rfl, e, (by first | exact bk_o0e (by omega) ev | exact bk_o1e (by omega) ev | exact bk_o4e (by omega) ev), p1.tr p2, g1, g2⟩) | skip
      all_goals
        have hl : mm_ln f (F 40).toNat := by
          unfold mm_ln
          rw [hfx']
          exact ⟨by omega, fun q => absurd q (by omega), fun q => absurd q (by omega)⟩
        refine hC.same (mz_readEnd l _ F1 (mm_up A 14 f) hr1) rfl rfl rfl rfl (Nat.le_refl _) ?_
        intro rs w' hq
        have hQ := fin F1 f _ 0 0 hf hl (hbl.trans (bk_o3 (by omega))) ⟨p1, f1, hr1⟩ rs w' hq
        rcases hq with ⟨q59, rfl, F', rfl, z⟩ | ⟨q59, rfl, F', rfl, z⟩
        · repeat' first | refine hC.gn [] _ rfl rfl ?_ | refine And.intro ?_ ?_ | exact True.intro | refine hC.iadd [] rfl rfl (by first | omega | (simp only [Int.reduceToNat] at *; omega)) ?_ | refine hC.isub [] rfl rfl (by first | omega | (simp only [Int.reduceToNat] at *; omega)) ?_ | refine hC.imul [] rfl rfl (by first | omega | (simp only [Int.reduceToNat] at *; omega)) ?_ | refine hC.iinc [] rfl rfl rfl rfl (by first | omega | (simp only [Int.reduceToNat] at *; omega)) ?_ | refine hC.go [] _ rfl rfl ?_ | (intro h; first | exact (h rfl).elim | (exfalso; cases h; done) | (dsimp only [kk_cP, kk_cN] at h) | skip)
          all_goals first | exact Or.inl rfl | exact Or.inr rfl | exact hQ
        · repeat' first | refine hC.gn [] _ rfl rfl ?_ | refine And.intro ?_ ?_ | exact True.intro | refine hC.iadd [] rfl rfl (by first | omega | (simp only [Int.reduceToNat] at *; omega)) ?_ | refine hC.isub [] rfl rfl (by first | omega | (simp only [Int.reduceToNat] at *; omega)) ?_ | refine hC.imul [] rfl rfl (by first | omega | (simp only [Int.reduceToNat] at *; omega)) ?_ | refine hC.iinc [] rfl rfl rfl rfl (by first | omega | (simp only [Int.reduceToNat] at *; omega)) ?_ | refine hC.go [] _ rfl rfl ?_ | (intro h; first | exact (h rfl).elim | (exfalso; cases h; done) | (dsimp only [kk_cP, kk_cN] at h) | skip)
          all_goals first | exact Or.inl rfl | exact Or.inr rfl | exact hQ
  have hw0 : ∀ x, bk_w (tk_ob tn mo a res) c x → bk_act (tk_ob tn mo a res) c ∧ ¬ sp_nm (tk_ob tn mo a res) c ∧ tk_ob tn mo a res c 3 ≠ 0 := by
    intro x hw
    have q6 : 0 ≤ tk_ob tn mo a res c 6 := by omega
    have q3 := tk_word q6
    exact ⟨(by unfold bk_act; omega), (fun q => by have := q.2; omega), by omega⟩
  have k52 : ∀ (x : Int), ((x = 2 ∧ sp_nm (tk_ob tn mo a res) c ∧ ∃ v, fi_I (A 7) 8 (A 2 1) (F 12) v ∧ (0 ≤ v ∧ v ≤ 3) ∧ sp_find (tk_ob tn mo a res) Hs 1 c = .ok v) ∨ bk_w (tk_ob tn mo a res) c x) → K 52 [(0, (4, 0)), (1, (0, x))] [] (mm_w F A) := by
    intro x hx
    repeat' first | refine hC.gn [81] _ rfl rfl ?_ | refine And.intro ?_ ?_ | exact True.intro | refine hC.iadd [81] rfl rfl (by first | omega | (simp only [Int.reduceToNat] at *; omega)) ?_ | refine hC.isub [81] rfl rfl (by first | omega | (simp only [Int.reduceToNat] at *; omega)) ?_ | refine hC.imul [81] rfl rfl (by first | omega | (simp only [Int.reduceToNat] at *; omega)) ?_ | refine hC.iinc [81] rfl rfl rfl rfl (by first | omega | (simp only [Int.reduceToNat] at *; omega)) ?_ | refine hC.go [81] _ rfl rfl ?_ | (intro h; first | exact (h rfl).elim | (exfalso; cases h; done) | (dsimp only [kk_cP, kk_cN] at h) | skip)
    all_goals first | omega | skip
    · have h40 : F 40 < 40 := by omega
      refine hC.sub [(0, (4, 0)), (1, (0, x)), (2, (0, 3 * F 40))] ⟨rfl, rfl, rfl, trivial⟩ (k81 (kk_up (A 14) (3 * F 40).toNat x) x (fun k hk => kk_up_ne (by omega)) kk_up_eq h40 ?_)
      rcases hx with ⟨x2, hnm, v, hv, v0, es⟩ | hw
      · exact Or.inl ⟨x2, ⟨v, hv, v0⟩, bk_nm hnm es h40⟩
      · exact Or.inr ⟨hw, bk_ac (hw0 x hw).2.1 (hw0 x hw).1 h40⟩
    · have h40 : 40 ≤ F 40 := by omega
      have h0 : tk_ob tn mo a res c 3 ≠ 0 := by
        rcases hx with ⟨-, hnm, -⟩ | hw
        · rw [hnm.1]; decide
        · exact (hw0 x hw).2.2
      have hbl : bk_line (tk_ob tn mo a res) (tk_nx tn mo a res) Hs c (F 40) = .error (4, tk_ob tn mo a res c 4) := by
        rcases hx with ⟨x2, hnm, v, hv, v0, es⟩ | hw
        · exact bk_nm4 hnm es h40
        · exact bk_ac4 (hw0 x hw).2.1 (hw0 x hw).1 h40
      refine hC.same (mz_bad l _ F A 4 hr h0) rfl rfl rfl rfl (Nat.le_refl _) ?_
      rintro rs w' ⟨rfl, F1, rfl, hE⟩
      repeat' first | refine hC.gn [] _ rfl rfl ?_ | refine And.intro ?_ ?_ | exact True.intro | refine hC.iadd [] rfl rfl (by first | omega | (simp only [Int.reduceToNat] at *; omega)) ?_ | refine hC.isub [] rfl rfl (by first | omega | (simp only [Int.reduceToNat] at *; omega)) ?_ | refine hC.imul [] rfl rfl (by first | omega | (simp only [Int.reduceToNat] at *; omega)) ?_ | refine hC.iinc [] rfl rfl rfl rfl (by first | omega | (simp only [Int.reduceToNat] at *; omega)) ?_ | refine hC.go [] _ rfl rfl ?_ | (intro h; first | exact (h rfl).elim | (exfalso; cases h; done) | (dsimp only [kk_cP, kk_cN] at h) | skip)
      all_goals first | exact Or.inl rfl | exact Or.inr rfl | exact ⟨F1, A 14, rfl, fun _ _ => rfl, Or.inr ⟨_, hsp.symm.trans (bk_row_e hbl), rfl, hE⟩⟩
  repeat' first | refine hC.gn [] _ rfl rfl ?_ | refine And.intro ?_ ?_ | exact True.intro | refine hC.iadd [] rfl rfl (by first | omega | (simp only [Int.reduceToNat] at *; omega)) ?_ | refine hC.isub [] rfl rfl (by first | omega | (simp only [Int.reduceToNat] at *; omega)) ?_ | refine hC.imul [] rfl rfl (by first | omega | (simp only [Int.reduceToNat] at *; omega)) ?_ | refine hC.iinc [] rfl rfl rfl rfl (by first | omega | (simp only [Int.reduceToNat] at *; omega)) ?_ | refine hC.go [] _ rfl rfl ?_ | (intro h; first | exact (h rfl).elim | (exfalso; cases h; done) | (dsimp only [kk_cP, kk_cN] at h) | skip)
  refine hC.same (mz_whatHere l _ F A hz hr) rfl rfl rfl rfl (Nat.le_refl _) ?_
  rintro rs w' ⟨rfl, x, rfl, hx⟩
  have hx2 : x ≠ 2 → bk_w (tk_ob tn mo a res) c x := fun q => by rcases hx with h | ⟨h, -⟩; exact h; exact absurd h q
  have hx3 : x = 2 → ¬ bk_act (tk_ob tn mo a res) c := fun q => by
    rcases hx with h | ⟨-, h⟩
    · omega
    · exact h
  clear hx
  repeat' first | refine hC.gn [52] _ rfl rfl ?_ | refine And.intro ?_ ?_ | exact True.intro | refine hC.iadd [52] rfl rfl (by first | omega | (simp only [Int.reduceToNat] at *; omega)) ?_ | refine hC.isub [52] rfl rfl (by first | omega | (simp only [Int.reduceToNat] at *; omega)) ?_ | refine hC.imul [52] rfl rfl (by first | omega | (simp only [Int.reduceToNat] at *; omega)) ?_ | refine hC.iinc [52] rfl rfl rfl rfl (by first | omega | (simp only [Int.reduceToNat] at *; omega)) ?_ | refine hC.go [52] _ rfl rfl ?_ | (intro h; first | exact (h rfl).elim | (exfalso; cases h; done) | (dsimp only [kk_cP, kk_cN] at h) | skip) | (refine hC.same (mz_isName l _ _ _ hz hr) rfl rfl rfl rfl (Nat.le_refl _) ?_; rintro rs w' ⟨rfl, ⟨rfl, hnm⟩ | ⟨rfl, hnm⟩⟩) | (refine hC.same (mz_bad1 l _ _ _ hr) rfl rfl rfl rfl (Nat.le_refl _) ?_; rintro rs w' ⟨rfl, F1, rfl, hE⟩)
  all_goals first | exact Or.inl rfl | exact Or.inr rfl | omega | exact hC.sub [(0, (4, 0)), (1, (0, _))] ⟨rfl, rfl, trivial⟩ (k52 x (Or.inr (hx2 (by assumption)))) | exact ⟨F1, A 14, rfl, fun _ _ => rfl, Or.inr ⟨_, hsp.symm.trans (bk_row_e (bk_ac1 hnm (hx3 (by assumption)))), rfl, hE⟩⟩ | skip
  have x2 : x = 2 := by assumption
  refine hC.call (mm_xFindIn l _ 22 (A 7) 8 (A 2 1) (F 12) (by omega) (by decide) c3) [7] rfl rfl rfl rfl rfl rfl ⟨rfl, trivial⟩ (Nat.le_refl _) ?_
  rintro rs w' ⟨rfl, v, rfl, hfi⟩
  obtain ⟨k1, k2⟩ := hr.tok.k2
  have hfs := fi_same (show nmr (Hs 2) 1 (A 2 1) (A 7) 8 by rw [e1]; exact n1) (k2 hnm.1) hfi
  have hv2 : v = -1 ∨ 0 ≤ v ∧ v < A 2 1 := by rcases hfi with q | q <;> omega
  have es : sp_find (tk_ob tn mo a res) Hs 1 c = if v = -1 then .error (3, tk_ob tn mo a res c 4) else .ok v := by
    unfold sp_find
    rw [if_pos hnm, hfs, e1]
  have hk0 : tk_ob tn mo a res c 3 ≠ 0 := by rw [hnm.1]; decide
  repeat' first | refine hC.gn [52] _ rfl rfl ?_ | refine And.intro ?_ ?_ | exact True.intro | refine hC.iadd [52] rfl rfl (by first | omega | (simp only [Int.reduceToNat] at *; omega)) ?_ | refine hC.isub [52] rfl rfl (by first | omega | (simp only [Int.reduceToNat] at *; omega)) ?_ | refine hC.imul [52] rfl rfl (by first | omega | (simp only [Int.reduceToNat] at *; omega)) ?_ | refine hC.iinc [52] rfl rfl rfl rfl (by first | omega | (simp only [Int.reduceToNat] at *; omega)) ?_ | refine hC.go [52] _ rfl rfl ?_ | (intro h; first | exact (h rfl).elim | (exfalso; cases h; done) | (dsimp only [kk_cP, kk_cN] at h) | skip)
  all_goals first | omega | exact hC.sub [(0, (4, 0)), (1, (0, _))] ⟨rfl, rfl, trivial⟩ (k52 x (Or.inl ⟨x2, hnm, v, hfi, ⟨by omega, by omega⟩, es.trans (if_neg (by assumption))⟩)) | skip
  refine hC.same (mz_bad l _ F A 3 hr hk0) rfl rfl rfl rfl (Nat.le_refl _) ?_
  rintro rs w' ⟨rfl, F1, rfl, hE⟩
  repeat' first | refine hC.gn [] _ rfl rfl ?_ | refine And.intro ?_ ?_ | exact True.intro | refine hC.iadd [] rfl rfl (by first | omega | (simp only [Int.reduceToNat] at *; omega)) ?_ | refine hC.isub [] rfl rfl (by first | omega | (simp only [Int.reduceToNat] at *; omega)) ?_ | refine hC.imul [] rfl rfl (by first | omega | (simp only [Int.reduceToNat] at *; omega)) ?_ | refine hC.iinc [] rfl rfl rfl rfl (by first | omega | (simp only [Int.reduceToNat] at *; omega)) ?_ | refine hC.go [] _ rfl rfl ?_ | (intro h; first | exact (h rfl).elim | (exfalso; cases h; done) | (dsimp only [kk_cP, kk_cN] at h) | skip)
  all_goals first | exact Or.inl rfl | exact Or.inr rfl | exact ⟨F1, A 14, rfl, fun _ _ => rfl, Or.inr ⟨_, hsp.symm.trans (bk_row_e (bk_nme hnm (es.trans (if_pos (by assumption))))), rfl, hE⟩⟩
end BKZ
