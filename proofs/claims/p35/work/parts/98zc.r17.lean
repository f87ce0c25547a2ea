/-! READING, 17: the reference reads the lines of a house, exactly -/
/-- what a line's reader leaves -/
def mz_Q (n mo : Int) (a : Int → Int) (res : Nat → Int) (F : Nat → Int) (A : Nat → Nat → Int) (sp : sp_R) : List en_V → List kk_C → Prop := fun rs w' => ∃ F' r f, w' = mm_w F' (mm_up (mm_up A 3 r) 8 f) ∧ mm_ph F F' ∧ mm_rH r ∧ mm_nb 22 f ∧ ((∃ e, sp = .error e ∧ rs = [(0, 0)] ∧ F' 10 = e.1 ∧ F' 11 = e.2) ∨ (∃ s, sp = .ok s ∧ rs = [(0, 1)] ∧ F' 10 = F 10 ∧ rmw n mo a res s.1 F' A ∧ mh s.2.1 s.2.2 F' r f))
section
variable (l : Launch) (d : Nat) {n mo : Int} {a : Int → Int} {res : Nat → Int} {c : Int} (F : Nat → Int) (A : Nat → Nat → Int) {o : Nat → Int} {Ac : Nat → Nat → Int}
theorem mz_readFirst (hr : rmw n mo a res c F A) (h2 : tk_ob n mo a res c 3 ≠ 0) (k : Nat) (m : Int) (hk : k < 3) : kk_Ctr l (d + 2) en_t_X11_readFirst [(4, 0), (0, (k : Int)), (0, m)] (mm_w F A) (fun rs w' => (A 3 k ≠ m ∧ rs = [(0, 1)] ∧ ∃ F', w' = mm_w F' A ∧ mz_K n mo a res (tk_nx n mo a res c) F F' A) ∨ (A 3 k = m ∧ rs = [(0, 0)] ∧ ∃ F', w' = mm_w F' A ∧ mz_E F F' (4, tk_ob n mo a res c 4))) := by
  have ek : A 3 ((k : Int)).toNat = A 3 k := by rw [Int.toNat_natCast]
  refine kk_ctr en_hM (List.mem_of_getElem? (i := 286) rfl) rfl (Nat.le_of_ble_eq_true rfl) (fun K hC => ?_)
  repeat' first | refine hC.gn [] _ rfl rfl ?_ | refine And.intro ?_ ?_ | exact True.intro | refine hC.iadd [] rfl rfl (by first | omega | (simp only [Int.reduceToNat] at *; omega)) ?_ | refine hC.isub [] rfl rfl (by first | omega | (simp only [Int.reduceToNat] at *; omega)) ?_ | refine hC.imul [] rfl rfl (by first | omega | (simp only [Int.reduceToNat] at *; omega)) ?_ | refine hC.iinc [] rfl rfl rfl rfl (by first | omega | (simp only [Int.reduceToNat] at *; omega)) ?_ | refine hC.go [] _ rfl rfl ?_ | (intro h; first | exact (h rfl).elim | (exfalso; cases h; done) | (dsimp only [kk_cP, kk_cN] at h) | skip)
  all_goals first | omega | skip
  · refine hC.same (mz_go l _ F A hr) rfl rfl rfl rfl (Nat.le_refl _) ?_
    rintro rs w' ⟨rfl, F1, rfl, hf, hp, hr1⟩
    repeat' first | refine hC.gn [] _ rfl rfl ?_ | refine And.intro ?_ ?_ | exact True.intro | refine hC.iadd [] rfl rfl (by first | omega | (simp only [Int.reduceToNat] at *; omega)) ?_ | refine hC.isub [] rfl rfl (by first | omega | (simp only [Int.reduceToNat] at *; omega)) ?_ | refine hC.imul [] rfl rfl (by first | omega | (simp only [Int.reduceToNat] at *; omega)) ?_ | refine hC.iinc [] rfl rfl rfl rfl (by first | omega | (simp only [Int.reduceToNat] at *; omega)) ?_ | refine hC.go [] _ rfl rfl ?_ | (intro h; first | exact (h rfl).elim | (exfalso; cases h; done) | (dsimp only [kk_cP, kk_cN] at h) | skip)
    all_goals first | exact Or.inl rfl | exact Or.inr rfl | exact Or.inl ⟨by omega, rfl, F1, rfl, hp, hf 10 (by decide) (by decide) (by decide) (by decide) (by decide) (by decide), hr1⟩
  · refine hC.same (mz_bad l _ F A 4 hr h2) rfl rfl rfl rfl (Nat.le_refl _) ?_
    rintro rs w' ⟨rfl, F1, rfl, hE⟩
    repeat' first | refine hC.gn [] _ rfl rfl ?_ | refine And.intro ?_ ?_ | exact True.intro | refine hC.iadd [] rfl rfl (by first | omega | (simp only [Int.reduceToNat] at *; omega)) ?_ | refine hC.isub [] rfl rfl (by first | omega | (simp only [Int.reduceToNat] at *; omega)) ?_ | refine hC.imul [] rfl rfl (by first | omega | (simp only [Int.reduceToNat] at *; omega)) ?_ | refine hC.iinc [] rfl rfl rfl rfl (by first | omega | (simp only [Int.reduceToNat] at *; omega)) ?_ | refine hC.go [] _ rfl rfl ?_ | (intro h; first | exact (h rfl).elim | (exfalso; cases h; done) | (dsimp only [kk_cP, kk_cN] at h) | skip)
    all_goals first | exact Or.inl rfl | exact Or.inr rfl | exact Or.inr ⟨by omega, rfl, F1, rfl, hE⟩
theorem mz_readNew (hz : rz res) (hr : rmw n mo a res c F A) (hm : mh o Ac F (A 3) (A 8)) (s : Int) (s0 : 0 ≤ s) (s1 : s < 22) : kk_Ctr l (d + 3) en_t_X11_readNew [(4, 0), (0, s)] (mm_w F A) (fun rs w' => (¬ sp_nm (tk_ob n mo a res) c ∧ rs = [(0, 0)] ∧ ∃ F', w' = mm_w F' A ∧ mz_E F F' (1, tk_ob n mo a res c 4)) ∨ (sp_nm (tk_ob n mo a res) c ∧ sp_told Ac (tk_ob n mo a res c 7) ∧ rs = [(0, 0)] ∧ ∃ F', w' = mm_w F' A ∧ mz_E F F' (3, tk_ob n mo a res c 4)) ∨ (sp_nm (tk_ob n mo a res) c ∧ ¬ sp_told Ac (tk_ob n mo a res c 7) ∧ rs = [(0, 1)] ∧ ∃ F', w' = mm_w F' (mm_up A 8 (kk_up (A 8) s.toNat (F 12))) ∧ mz_K n mo a res (tk_nx n mo a res c) F F' A ∧ Nm (tk_ob n mo a res c 7) (F 12))) := by
  obtain ⟨⟨⟨a1, a2⟩, ⟨b1, b2⟩, c1, c2⟩, ⟨e0, e1, e2⟩, -, -, -, -, n0, n1, n2⟩ := hm
  refine kk_ctr en_hM (List.mem_of_getElem? (i := 287) rfl) rfl (Nat.le_of_ble_eq_true rfl) (fun K hC => ?_)
  repeat' first | refine hC.gn [] _ rfl rfl ?_ | refine And.intro ?_ ?_ | exact True.intro | refine hC.iadd [] rfl rfl (by first | omega | (simp only [Int.reduceToNat] at *; omega)) ?_ | refine hC.isub [] rfl rfl (by first | omega | (simp only [Int.reduceToNat] at *; omega)) ?_ | refine hC.imul [] rfl rfl (by first | omega | (simp only [Int.reduceToNat] at *; omega)) ?_ | refine hC.iinc [] rfl rfl rfl rfl (by first | omega | (simp only [Int.reduceToNat] at *; omega)) ?_ | refine hC.go [] _ rfl rfl ?_ | (intro h; first | exact (h rfl).elim | (exfalso; cases h; done) | (dsimp only [kk_cP, kk_cN] at h) | skip) | (refine hC.same (mz_isName l _ _ _ hz hr) rfl rfl rfl rfl (Nat.le_refl _) ?_; rintro rs w' ⟨rfl, ⟨rfl, hnm⟩ | ⟨rfl, hnm⟩⟩) | (refine hC.same (mz_bad1 l _ _ _ hr) rfl rfl rfl rfl (Nat.le_refl _) ?_; rintro rs w' ⟨rfl, F1, rfl, hE⟩)
  all_goals first | omega | exact Or.inl rfl | exact Or.inr rfl | exact Or.inl ⟨hnm, rfl, F1, rfl, hE⟩ | skip
  obtain ⟨-, k2⟩ := hr.tok.k2
  have hN := k2 hnm.1
  have hk0 : tk_ob n mo a res c 3 ≠ 0 := by rw [hnm.1]; decide
  have k81 : sp_told Ac (tk_ob n mo a res c 7) → K 81 [(0, (4, 0)), (1, (0, s))] [] (mm_w F A) := by
    intro ht
    refine hC.go [] _ rfl rfl ?_
    repeat' first | refine hC.gn [] _ rfl rfl ?_ | refine And.intro ?_ ?_ | exact True.intro | refine hC.iadd [] rfl rfl (by first | omega | (simp only [Int.reduceToNat] at *; omega)) ?_ | refine hC.isub [] rfl rfl (by first | omega | (simp only [Int.reduceToNat] at *; omega)) ?_ | refine hC.imul [] rfl rfl (by first | omega | (simp only [Int.reduceToNat] at *; omega)) ?_ | refine hC.iinc [] rfl rfl rfl rfl (by first | omega | (simp only [Int.reduceToNat] at *; omega)) ?_ | refine hC.go [] _ rfl rfl ?_ | (intro h; first | exact (h rfl).elim | (exfalso; cases h; done) | (dsimp only [kk_cP, kk_cN] at h) | skip)
    refine hC.same (mz_bad l _ F A 3 hr hk0) rfl rfl rfl rfl (Nat.le_refl _) ?_
    rintro rs w' ⟨rfl, F1, rfl, hE⟩
    repeat' first | refine hC.gn [] _ rfl rfl ?_ | refine And.intro ?_ ?_ | exact True.intro | refine hC.iadd [] rfl rfl (by first | omega | (simp only [Int.reduceToNat] at *; omega)) ?_ | refine hC.isub [] rfl rfl (by first | omega | (simp only [Int.reduceToNat] at *; omega)) ?_ | refine hC.imul [] rfl rfl (by first | omega | (simp only [Int.reduceToNat] at *; omega)) ?_ | refine hC.iinc [] rfl rfl rfl rfl (by first | omega | (simp only [Int.reduceToNat] at *; omega)) ?_ | refine hC.go [] _ rfl rfl ?_ | (intro h; first | exact (h rfl).elim | (exfalso; cases h; done) | (dsimp only [kk_cP, kk_cN] at h) | skip)
    all_goals first | exact Or.inl rfl | exact Or.inr rfl | exact Or.inr (Or.inl ⟨hnm, ht, rfl, F1, rfl, hE⟩)
  have k87 : ¬ sp_told Ac (tk_ob n mo a res c 7) → K 87 [(0, (4, 0)), (1, (0, s))] [] (mm_w F A) := by
    intro ht
    refine hC.go [] _ rfl rfl ?_
    repeat' first | refine hC.gn [] _ rfl rfl ?_ | refine And.intro ?_ ?_ | exact True.intro | refine hC.iadd [] rfl rfl (by first | omega | (simp only [Int.reduceToNat] at *; omega)) ?_ | refine hC.isub [] rfl rfl (by first | omega | (simp only [Int.reduceToNat] at *; omega)) ?_ | refine hC.imul [] rfl rfl (by first | omega | (simp only [Int.reduceToNat] at *; omega)) ?_ | refine hC.iinc [] rfl rfl rfl rfl (by first | omega | (simp only [Int.reduceToNat] at *; omega)) ?_ | refine hC.go [] _ rfl rfl ?_ | (intro h; first | exact (h rfl).elim | (exfalso; cases h; done) | (dsimp only [kk_cP, kk_cN] at h) | skip)
    all_goals first | omega | skip
    refine hC.same (mz_go l _ F (mm_up A 8 (kk_up (A 8) s.toNat (F 12))) (by exact hr)) rfl rfl rfl rfl (Nat.le_refl _) ?_
    rintro rs w' ⟨rfl, F1, rfl, hf, hp, hr1⟩
    repeat' first | refine hC.gn [] _ rfl rfl ?_ | refine And.intro ?_ ?_ | exact True.intro | refine hC.iadd [] rfl rfl (by first | omega | (simp only [Int.reduceToNat] at *; omega)) ?_ | refine hC.isub [] rfl rfl (by first | omega | (simp only [Int.reduceToNat] at *; omega)) ?_ | refine hC.imul [] rfl rfl (by first | omega | (simp only [Int.reduceToNat] at *; omega)) ?_ | refine hC.iinc [] rfl rfl rfl rfl (by first | omega | (simp only [Int.reduceToNat] at *; omega)) ?_ | refine hC.go [] _ rfl rfl ?_ | (intro h; first | exact (h rfl).elim | (exfalso; cases h; done) | (dsimp only [kk_cP, kk_cN] at h) | skip)
    all_goals first | exact Or.inl rfl | exact Or.inr rfl | exact Or.inr (Or.inr ⟨hnm, ht, rfl, F1, rfl, ⟨hp, hf 10 (by decide) (by decide) (by decide) (by decide) (by decide) (by decide), hr1⟩, hN⟩)
  have k58 : fi (Ac 2) 0 (Ac 1 0) (tk_ob n mo a res c 7) = -1 → fi (Ac 2) 10 (Ac 1 1) (tk_ob n mo a res c 7) = -1 → K 58 [(0, (4, 0)), (1, (0, s))] [] (mm_w F A) := by
    intro h0 h1
    refine hC.go [] _ rfl rfl ?_
    repeat' first | refine hC.gn [81, 87] _ rfl rfl ?_ | refine And.intro ?_ ?_ | exact True.intro | refine hC.iadd [81, 87] rfl rfl (by first | omega | (simp only [Int.reduceToNat] at *; omega)) ?_ | refine hC.isub [81, 87] rfl rfl (by first | omega | (simp only [Int.reduceToNat] at *; omega)) ?_ | refine hC.imul [81, 87] rfl rfl (by first | omega | (simp only [Int.reduceToNat] at *; omega)) ?_ | refine hC.iinc [81, 87] rfl rfl rfl rfl (by first | omega | (simp only [Int.reduceToNat] at *; omega)) ?_ | refine hC.go [81, 87] _ rfl rfl ?_ | (intro h; first | exact (h rfl).elim | (exfalso; cases h; done) | (dsimp only [kk_cP, kk_cN] at h) | skip)
    all_goals first | omega | skip
    refine hC.call (mm_xFindIn l _ 22 (A 8) 12 (A 3 2) (F 12) (by omega) (by decide) (by omega)) [8] rfl rfl rfl rfl rfl rfl ⟨rfl, trivial⟩ (Nat.le_refl _) ?_
    rintro rs w' ⟨rfl, y, rfl, hfi⟩
    have hy : y = fi (Ac 2) 20 (Ac 1 2) (tk_ob n mo a res c 7) := by
      have q := fi_same (f2 := Ac 2) (s := 2) (by rw [e2]; exact n2) hN hfi
      rw [e2] at q
      exact q
    repeat' first | refine hC.gn [81, 87] _ rfl rfl ?_ | refine And.intro ?_ ?_ | exact True.intro | refine hC.iadd [81, 87] rfl rfl (by first | omega | (simp only [Int.reduceToNat] at *; omega)) ?_ | refine hC.isub [81, 87] rfl rfl (by first | omega | (simp only [Int.reduceToNat] at *; omega)) ?_ | refine hC.imul [81, 87] rfl rfl (by first | omega | (simp only [Int.reduceToNat] at *; omega)) ?_ | refine hC.iinc [81, 87] rfl rfl rfl rfl (by first | omega | (simp only [Int.reduceToNat] at *; omega)) ?_ | refine hC.go [81, 87] _ rfl rfl ?_ | (intro h; first | exact (h rfl).elim | (exfalso; cases h; done) | (dsimp only [kk_cP, kk_cN] at h) | skip)
    all_goals first | omega | exact k81 (Or.inr (Or.inr (by omega))) | exact k87 (by omega) | skip
  have k35 : fi (Ac 2) 0 (Ac 1 0) (tk_ob n mo a res c 7) = -1 → K 35 [(0, (4, 0)), (1, (0, s))] [] (mm_w F A) := by
    intro h0
    refine hC.go [] _ rfl rfl ?_
    repeat' first | refine hC.gn [58, 81] _ rfl rfl ?_ | refine And.intro ?_ ?_ | exact True.intro | refine hC.iadd [58, 81] rfl rfl (by first | omega | (simp only [Int.reduceToNat] at *; omega)) ?_ | refine hC.isub [58, 81] rfl rfl (by first | omega | (simp only [Int.reduceToNat] at *; omega)) ?_ | refine hC.imul [58, 81] rfl rfl (by first | omega | (simp only [Int.reduceToNat] at *; omega)) ?_ | refine hC.iinc [58, 81] rfl rfl rfl rfl (by first | omega | (simp only [Int.reduceToNat] at *; omega)) ?_ | refine hC.go [58, 81] _ rfl rfl ?_ | (intro h; first | exact (h rfl).elim | (exfalso; cases h; done) | (dsimp only [kk_cP, kk_cN] at h) | skip)
    all_goals first | omega | skip
    refine hC.call (mm_xFindIn l _ 22 (A 8) 8 (A 3 1) (F 12) (by omega) (by decide) (by omega)) [8] rfl rfl rfl rfl rfl rfl ⟨rfl, trivial⟩ (Nat.le_refl _) ?_
    rintro rs w' ⟨rfl, y, rfl, hfi⟩
    have hy : y = fi (Ac 2) 10 (Ac 1 1) (tk_ob n mo a res c 7) := by
      have q := fi_same (f2 := Ac 2) (s := 1) (by rw [e1]; exact n1) hN hfi
      rw [e1] at q
      exact q
    repeat' first | refine hC.gn [58, 81] _ rfl rfl ?_ | refine And.intro ?_ ?_ | exact True.intro | refine hC.iadd [58, 81] rfl rfl (by first | omega | (simp only [Int.reduceToNat] at *; omega)) ?_ | refine hC.isub [58, 81] rfl rfl (by first | omega | (simp only [Int.reduceToNat] at *; omega)) ?_ | refine hC.imul [58, 81] rfl rfl (by first | omega | (simp only [Int.reduceToNat] at *; omega)) ?_ | refine hC.iinc [58, 81] rfl rfl rfl rfl (by first | omega | (simp only [Int.reduceToNat] at *; omega)) ?_ | refine hC.go [58, 81] _ rfl rfl ?_ | (intro h; first | exact (h rfl).elim | (exfalso; cases h; done) | (dsimp only [kk_cP, kk_cN] at h) | skip)
    all_goals first | exact k81 (Or.inr (Or.inl (by omega))) | exact k58 h0 (by omega) | skip
  refine hC.call (mm_xFindIn l _ 22 (A 8) 0 (A 3 0) (F 12) (by omega) (by decide) (by omega)) [8] rfl rfl rfl rfl rfl rfl ⟨rfl, trivial⟩ (Nat.le_refl _) ?_
  rintro rs w' ⟨rfl, y, rfl, hfi⟩
  have hy : y = fi (Ac 2) 0 (Ac 1 0) (tk_ob n mo a res c 7) := by
    have q := fi_same (f2 := Ac 2) (s := 0) (by rw [e0]; exact n0) hN hfi
    rw [e0] at q
    exact q
  repeat' first | refine hC.gn [35, 81] _ rfl rfl ?_ | refine And.intro ?_ ?_ | exact True.intro | refine hC.iadd [35, 81] rfl rfl (by first | omega | (simp only [Int.reduceToNat] at *; omega)) ?_ | refine hC.isub [35, 81] rfl rfl (by first | omega | (simp only [Int.reduceToNat] at *; omega)) ?_ | refine hC.imul [35, 81] rfl rfl (by first | omega | (simp only [Int.reduceToNat] at *; omega)) ?_ | refine hC.iinc [35, 81] rfl rfl rfl rfl (by first | omega | (simp only [Int.reduceToNat] at *; omega)) ?_ | refine hC.go [35, 81] _ rfl rfl ?_ | (intro h; first | exact (h rfl).elim | (exfalso; cases h; done) | (dsimp only [kk_cP, kk_cN] at h) | skip)
  all_goals first | exact k81 (Or.inl (by omega)) | exact k35 (by omega) | skip
end
section
variable (l : Launch) (d : Nat) {n mo : Int} {a : Int → Int} {res : Nat → Int} {c : Int} (F : Nat → Int) (A : Nat → Nat → Int) {o : Nat → Int} {Ac : Nat → Nat → Int}
theorem mz_err {F F' : Nat → Int} {A : Nat → Nat → Int} {sp : sp_R} {e : Int × Int} (hs : sp = .error e) (hE : mz_E F F' e) (hr : mm_rH (A 3)) (hn : mm_nb 22 (A 8)) : mz_Q n mo a res F A sp [(0, 0)] (mm_w F' A) := by
  refine ⟨F', A 3, A 8, ?_, hE.1.h, hr, hn, Or.inl ⟨e, hs, rfl, hE.2⟩⟩
  rfl
theorem mz_E.tr {F F' F'' : Nat → Int} {e : Int × Int} (h : mm_p F F') (hE : mz_E F' F'' e) : mz_E F F'' e := ⟨h.tr hE.1, hE.2⟩
theorem mz_readPlain (hz : rz res) (hr : rmw n mo a res c F A) (h2 : tk_ob n mo a res c 3 ≠ 0) (hm : mh o Ac F (A 3) (A 8)) (hH : mm_rH (A 3)) (hn : mm_nb 22 (A 8)) (k b : Nat) (m : Int) (hk : (k = 0 ∧ m = 8 ∧ b = 0) ∨ (k = 1 ∧ m = 4 ∧ b = 8)) : kk_Ctr l (d + 4) en_t_X11_readPlain [(4, 0), (0, (k : Int)), (0, m), (0, (b : Int))] (mm_w F A) (mz_Q n mo a res F A (sp_new (tk_ob n mo a res) (tk_nx n mo a res) k m c o Ac)) := by
  generalize hsp : sp_new (tk_ob n mo a res) (tk_nx n mo a res) k m c o Ac = sp
  unfold sp_new at hsp
  have hk3 : k < 3 := by omega
  have hb4 : 0 ≤ A 3 ((k : Int)).toNat ∧ A 3 ((k : Int)).toNat ≤ m := by
    obtain ⟨c1, c2, c3, c4, c5, c6⟩ := hH.1
    rw [Int.toNat_natCast]
    rcases hk with ⟨rfl, rfl, -⟩ | ⟨rfl, rfl, -⟩ <;> omega
  have ek : A 3 ((k : Int)).toNat = A 3 k := by rw [Int.toNat_natCast]
  have eA : A 3 k = Ac 1 k := by
    rcases hk with ⟨rfl, -⟩ | ⟨rfl, -⟩
    · exact hm.2.1.1
    · exact hm.2.1.2.1
  refine kk_ctr en_hM (List.mem_of_getElem? (i := 256) rfl) rfl (Nat.le_of_ble_eq_true rfl) (fun K hC => ?_)
  repeat' first | refine hC.gn [] _ rfl rfl ?_ | refine And.intro ?_ ?_ | exact True.intro | refine hC.iadd [] rfl rfl (by first | omega | (simp only [Int.reduceToNat] at *; omega)) ?_ | refine hC.isub [] rfl rfl (by first | omega | (simp only [Int.reduceToNat] at *; omega)) ?_ | refine hC.imul [] rfl rfl (by first | omega | (simp only [Int.reduceToNat] at *; omega)) ?_ | refine hC.iinc [] rfl rfl rfl rfl (by first | omega | (simp only [Int.reduceToNat] at *; omega)) ?_ | refine hC.go [] _ rfl rfl ?_ | (intro h; first | exact (h rfl).elim | (exfalso; cases h; done) | (dsimp only [kk_cP, kk_cN] at h) | skip)
  refine hC.same (mz_readFirst l _ F A hr h2 k m hk3) rfl rfl rfl rfl (Nat.le_refl _) ?_
  rintro rs w' (⟨t1, rfl, F1, rfl, hK1⟩ | ⟨t1, rfl, F1, rfl, hE1⟩)
  · have hs1 := hsp.symm.trans (if_neg (show ¬ m ≤ Ac 1 k by omega))
    repeat' first | refine hC.gn [] _ rfl rfl ?_ | refine And.intro ?_ ?_ | exact True.intro | refine hC.iadd [] rfl rfl (by first | omega | (simp only [Int.reduceToNat] at *; omega)) ?_ | refine hC.isub [] rfl rfl (by first | omega | (simp only [Int.reduceToNat] at *; omega)) ?_ | refine hC.imul [] rfl rfl (by first | omega | (simp only [Int.reduceToNat] at *; omega)) ?_ | refine hC.iinc [] rfl rfl rfl rfl (by first | omega | (simp only [Int.reduceToNat] at *; omega)) ?_ | refine hC.go [] _ rfl rfl ?_ | (intro h; first | exact (h rfl).elim | (exfalso; cases h; done) | (dsimp only [kk_cP, kk_cN] at h) | skip)
    all_goals first | omega | skip
    refine hC.same (mz_readNew l _ F1 A hz hK1.2.2 (hm.fl (hK1.1.1 24 (by omega))) _ (by omega) (by omega)) rfl rfl rfl rfl (Nat.le_refl _) ?_
    rintro rs w' (⟨hnm, rfl, F2, rfl, hE2⟩ | ⟨hnm, ht, rfl, F2, rfl, hE2⟩ | ⟨hnm, ht, rfl, F2, rfl, hK2, hN⟩)
    · repeat' first | refine hC.gn [] _ rfl rfl ?_ | refine And.intro ?_ ?_ | exact True.intro | refine hC.iadd [] rfl rfl (by first | omega | (simp only [Int.reduceToNat] at *; omega)) ?_ | refine hC.isub [] rfl rfl (by first | omega | (simp only [Int.reduceToNat] at *; omega)) ?_ | refine hC.imul [] rfl rfl (by first | omega | (simp only [Int.reduceToNat] at *; omega)) ?_ | refine hC.iinc [] rfl rfl rfl rfl (by first | omega | (simp only [Int.reduceToNat] at *; omega)) ?_ | refine hC.go [] _ rfl rfl ?_ | (intro h; first | exact (h rfl).elim | (exfalso; cases h; done) | (dsimp only [kk_cP, kk_cN] at h) | skip)
      all_goals first | exact Or.inl rfl | exact Or.inr rfl | exact mz_err (hs1.trans (if_neg hnm)) (mz_E.tr hK1.1 hE2) hH hn
    · repeat' first | refine hC.gn [] _ rfl rfl ?_ | refine And.intro ?_ ?_ | exact True.intro | refine hC.iadd [] rfl rfl (by first | omega | (simp only [Int.reduceToNat] at *; omega)) ?_ | refine hC.isub [] rfl rfl (by first | omega | (simp only [Int.reduceToNat] at *; omega)) ?_ | refine hC.imul [] rfl rfl (by first | omega | (simp only [Int.reduceToNat] at *; omega)) ?_ | refine hC.iinc [] rfl rfl rfl rfl (by first | omega | (simp only [Int.reduceToNat] at *; omega)) ?_ | refine hC.go [] _ rfl rfl ?_ | (intro h; first | exact (h rfl).elim | (exfalso; cases h; done) | (dsimp only [kk_cP, kk_cN] at h) | skip)
      all_goals first | exact Or.inl rfl | exact Or.inr rfl | exact mz_err (hs1.trans ((if_pos hnm).trans (if_pos ht))) (mz_E.tr hK1.1 hE2) hH hn
    · have hs2 := hs1.trans ((if_pos hnm).trans (if_neg ht))
      repeat' first | refine hC.gn [] _ rfl rfl ?_ | refine And.intro ?_ ?_ | exact True.intro | refine hC.iadd [] rfl rfl (by first | omega | (simp only [Int.reduceToNat] at *; omega)) ?_ | refine hC.isub [] rfl rfl (by first | omega | (simp only [Int.reduceToNat] at *; omega)) ?_ | refine hC.imul [] rfl rfl (by first | omega | (simp only [Int.reduceToNat] at *; omega)) ?_ | refine hC.iinc [] rfl rfl rfl rfl (by first | omega | (simp only [Int.reduceToNat] at *; omega)) ?_ | refine hC.go [] _ rfl rfl ?_ | (intro h; first | exact (h rfl).elim | (exfalso; cases h; done) | (dsimp only [kk_cP, kk_cN] at h) | skip)
      all_goals first | omega | exact Or.inl rfl | exact Or.inr rfl | skip
      have eb : ((b : Int) + A 3 ((k : Int)).toNat).toNat = b + (Ac 1 k).toNat := by omega
      have e1 : kk_i2 0 (A 3 k) 1 = A 3 k + 1 := kk_add (by omega)
      rw [eb]
      refine ⟨F2, kk_up (A 3) k (A 3 k + 1), kk_up (A 8) (b + (Ac 1 k).toNat) (F1 12), by rw [← e1]; rfl, (hK1.1.tr hK2.1).h, mm_rH_cnt hH (by omega) t1, hn.up hN.le, Or.inr ⟨_, hs2, rfl, hK2.2.1.trans hK1.2.1, hK2.2.2, ?_⟩⟩
      have h24 : F2 24 = F 24 := (hK1.1.tr hK2.1).1 24 (by omega)
      rcases hk with ⟨rfl, rfl, rfl⟩ | ⟨rfl, rfl, rfl⟩
      · exact (hm.new0 (by omega) hN).fl h24
      · exact (hm.new1 (by omega) hN).fl h24
  · repeat' first | refine hC.gn [] _ rfl rfl ?_ | refine And.intro ?_ ?_ | exact True.intro | refine hC.iadd [] rfl rfl (by first | omega | (simp only [Int.reduceToNat] at *; omega)) ?_ | refine hC.isub [] rfl rfl (by first | omega | (simp only [Int.reduceToNat] at *; omega)) ?_ | refine hC.imul [] rfl rfl (by first | omega | (simp only [Int.reduceToNat] at *; omega)) ?_ | refine hC.iinc [] rfl rfl rfl rfl (by first | omega | (simp only [Int.reduceToNat] at *; omega)) ?_ | refine hC.go [] _ rfl rfl ?_ | (intro h; first | exact (h rfl).elim | (exfalso; cases h; done) | (dsimp only [kk_cP, kk_cN] at h) | skip)
    all_goals first | exact Or.inl rfl | exact Or.inr rfl | exact mz_err (hsp.symm.trans (if_pos (by omega))) hE1 hH hn
end
