/-! READING, 15: the reference asks for names and numbers, exactly -/
/-- names of one sort, alike in both -/
def nmr (f2 : Nat → Int) (s : Nat) (m : Int) (f : Nat → Int) (b : Nat) : Prop := ∀ j : Nat, (j : Int) < m → Nm (f2 (10 * s + j)) (f (b + j))
theorem fi_same {f2 f : Nat → Int} {s b : Nat} {m x w y : Int} (h : nmr f2 s m f b) (hx : Nm x w) (hf : fi_I f b m w y) : y = fi f2 (10 * s) m x := by
  refine fi_I.eq ?_
  rcases hf with ⟨h0, h1, h2, h3⟩ | ⟨h0, h1⟩
  · refine Or.inl ⟨h0, h1, ((h y.toNat (by omega)).eq hx).mpr h2, fun j hj e => h3 j hj (((h j (by omega)).eq hx).mp e)⟩
  · exact Or.inr ⟨h0, fun j hj e => h1 j hj (((h j hj).eq hx).mp e)⟩
section
variable (l : Launch) (d : Nat) {n mo : Int} {a : Int → Int} {res : Nat → Int} {c : Int} (F : Nat → Int) (A : Nat → Nat → Int)
theorem mz_isName (hz : rz res) (hr : rmw n mo a res c F A) : kk_Ctr l (d + 2) en_t_X11_isName [(4, 0)] (mm_w F A) (fun rs w' => w' = mm_w F A ∧ ((rs = [(0, 1)] ∧ sp_nm (tk_ob n mo a res) c) ∨ (rs = [(0, 0)] ∧ ¬ sp_nm (tk_ob n mo a res) c))) := by
  refine (mm_xIsName l d F A).mono ?_
  rintro rs w' ⟨rfl, ⟨rfl, q⟩ | ⟨rfl, q⟩⟩
  · exact ⟨rfl, Or.inl ⟨rfl, (hr.tok.n hz).mp q⟩⟩
  · exact ⟨rfl, Or.inr ⟨rfl, fun g => q ((hr.tok.n hz).mpr g)⟩⟩
theorem mz_isSign (m : Int) (hm : 40 ≤ m) (hr : rmw n mo a res c F A) : kk_Ctr l d en_t_X11_isSign [(4, 0), (0, m)] (mm_w F A) (fun rs w' => w' = mm_w F A ∧ ((rs = [(0, 1)] ∧ tk_ob n mo a res c 3 = m) ∨ (rs = [(0, 0)] ∧ tk_ob n mo a res c 3 ≠ m))) := by
  refine (mm_xIsSign l d F A m).mono ?_
  rintro rs w' ⟨rfl, ⟨rfl, q⟩ | ⟨rfl, q⟩⟩
  · exact ⟨rfl, Or.inl ⟨rfl, (hr.tok.s hm).mp q⟩⟩
  · exact ⟨rfl, Or.inr ⟨rfl, fun g => q ((hr.tok.s hm).mpr g)⟩⟩
theorem mz_isWord (k : Nat) (hk : k < 24) (hz : rz res) (hr : rmw n mo a res c F A) : kk_Ctr l (d + 2) en_t_X11_isWord [(4, 0), (0, (k : Int))] (mm_w F A) (fun rs w' => w' = mm_w F A ∧ ((rs = [(0, 1)] ∧ tk_ob n mo a res c 6 = (k : Int)) ∨ (rs = [(0, 0)] ∧ tk_ob n mo a res c 6 ≠ (k : Int)))) := by
  refine (mm_xIsWord l d F A k hk).mono ?_
  rintro rs w' ⟨rfl, ⟨rfl, q⟩ | ⟨rfl, q⟩⟩
  · exact ⟨rfl, Or.inl ⟨rfl, (hr.tok.w hz hk).mp q⟩⟩
  · exact ⟨rfl, Or.inr ⟨rfl, fun g => q ((hr.tok.w hz hk).mpr g)⟩⟩
/-- a fault is told -/
def mz_E (F F' : Nat → Int) (e : Int × Int) : Prop := mm_p F F' ∧ F' 10 = e.1 ∧ F' 11 = e.2
/-- it went on to c' -/
def mz_K (n mo : Int) (a : Int → Int) (res : Nat → Int) (c' : Int) (F F' : Nat → Int) (A : Nat → Nat → Int) : Prop := mm_p F F' ∧ F' 10 = F 10 ∧ rmw n mo a res c' F' A
theorem mz_bad1 (hr : rmw n mo a res c F A) : kk_Ctr l d en_t_X11_bad [(4, 0), (0, 1)] (mm_w F A) (fun rs w' => rs = [(0, 0)] ∧ ∃ F', w' = mm_w F' A ∧ mz_E F F' (1, tk_ob n mo a res c 4)) := by
  refine (mm_xBad l d F A 1).mono ?_
  rintro rs w' ⟨rfl, x, rfl, q⟩
  exact ⟨rfl, _, rfl, mm_bad_p hr.ok _ _, (show x = 1 by omega), hr.pl.symm⟩
theorem mz_bad (k : Int) (hr : rmw n mo a res c F A) (h0 : tk_ob n mo a res c 3 ≠ 0) : kk_Ctr l d en_t_X11_bad [(4, 0), (0, k)] (mm_w F A) (fun rs w' => rs = [(0, 0)] ∧ ∃ F', w' = mm_w F' A ∧ mz_E F F' (k, tk_ob n mo a res c 4)) := by
  refine (mm_xBad l d F A k).mono ?_
  rintro rs w' ⟨rfl, x, rfl, q⟩
  have := hr.tok.k0
  exact ⟨rfl, _, rfl, mm_bad_p hr.ok _ _, (show x = k by omega), hr.pl.symm⟩
end
section
variable (l : Launch) (d : Nat) {n mo : Int} {a : Int → Int} {res : Nat → Int} {c : Int} (F : Nat → Int) (A : Nat → Nat → Int)
theorem mz_isOne (hz : rz res) (hr : rmw n mo a res c F A) {Ac : Nat → Nat → Int} (s b : Nat) (m : Int) (hm0 : 0 ≤ m) (hbm : (b : Int) + m ≤ 22) (hm : m = Ac 1 s) (hN : nmr (Ac 2) s m (A 8) b) : kk_Ctr l (d + 3) en_t_X11_isOne [(4, 0), (0, (b : Int)), (0, m)] (mm_w F A) (fun rs w' => (∃ x, sp_find (tk_ob n mo a res) Ac s c = .ok x ∧ rs = [(0, 1)] ∧ w' = mm_w (kk_up F 13 x) A ∧ 0 ≤ x ∧ x < m) ∨ (∃ e F', sp_find (tk_ob n mo a res) Ac s c = .error e ∧ rs = [(0, 0)] ∧ w' = mm_w F' A ∧ mz_E F F' e)) := by
  refine kk_ctr en_hM (List.mem_of_getElem? (i := 289) rfl) rfl (Nat.le_of_ble_eq_true rfl) (fun K hC => ?_)
  repeat' first | refine hC.gn [] _ rfl rfl ?_ | refine And.intro ?_ ?_ | exact True.intro | refine hC.iadd [] rfl rfl (by first | omega | (simp only [Int.reduceToNat] at *; omega)) ?_ | refine hC.isub [] rfl rfl (by first | omega | (simp only [Int.reduceToNat] at *; omega)) ?_ | refine hC.imul [] rfl rfl (by first | omega | (simp only [Int.reduceToNat] at *; omega)) ?_ | refine hC.iinc [] rfl rfl rfl rfl (by first | omega | (simp only [Int.reduceToNat] at *; omega)) ?_ | refine hC.go [] _ rfl rfl ?_ | (intro h; first | exact (h rfl).elim | (exfalso; cases h; done) | (dsimp only [kk_cP, kk_cN] at h) | skip) | (refine hC.same (mz_isName l _ _ _ hz hr) rfl rfl rfl rfl (Nat.le_refl _) ?_; rintro rs w' ⟨rfl, ⟨rfl, hnm⟩ | ⟨rfl, hnm⟩⟩) | (refine hC.same (mz_bad1 l _ _ _ hr) rfl rfl rfl rfl (Nat.le_refl _) ?_; rintro rs w' ⟨rfl, F1, rfl, hE⟩)
  all_goals first | exact Or.inl rfl | exact Or.inr rfl | exact Or.inr ⟨_, F1, (by unfold sp_find; exact if_neg hnm), rfl, rfl, hE⟩ | skip
  refine hC.call (mm_xFindIn l _ 22 (A 8) b m (F 12) hbm (by decide) hm0) [8] rfl rfl rfl rfl rfl rfl ⟨rfl, trivial⟩ (Nat.le_refl _) ?_
  rintro rs w' ⟨rfl, x, rfl, hfi⟩
  obtain ⟨k1, k2⟩ := hr.tok.k2
  have hx := fi_same hN (k2 hnm.1) hfi
  have hx2 : x = -1 ∨ 0 ≤ x ∧ x < m := by rcases hfi with q | q <;> omega
  have es : sp_find (tk_ob n mo a res) Ac s c = if x = -1 then .error (3, tk_ob n mo a res c 4) else .ok x := by
    unfold sp_find
    rw [if_pos hnm, hx, hm]
  have hr' : rmw n mo a res c (kk_up F 13 x) A := hr
  have hk0 : tk_ob n mo a res c 3 ≠ 0 := by rw [hnm.1]; decide
  repeat' first | refine hC.gn [] _ rfl rfl ?_ | refine And.intro ?_ ?_ | exact True.intro | refine hC.iadd [] rfl rfl (by first | omega | (simp only [Int.reduceToNat] at *; omega)) ?_ | refine hC.isub [] rfl rfl (by first | omega | (simp only [Int.reduceToNat] at *; omega)) ?_ | refine hC.imul [] rfl rfl (by first | omega | (simp only [Int.reduceToNat] at *; omega)) ?_ | refine hC.iinc [] rfl rfl rfl rfl (by first | omega | (simp only [Int.reduceToNat] at *; omega)) ?_ | refine hC.go [] _ rfl rfl ?_ | (intro h; first | exact (h rfl).elim | (exfalso; cases h; done) | (dsimp only [kk_cP, kk_cN] at h) | skip)
  all_goals first | exact Or.inl rfl | exact Or.inr rfl | exact Or.inl ⟨x, es.trans (if_neg (by omega)), rfl, rfl, by omega, by omega⟩ | skip
  refine hC.same (mz_bad l _ (kk_up F 13 x) A 3 hr' hk0) rfl rfl rfl rfl (Nat.le_refl _) ?_
  rintro rs w' ⟨rfl, F1, rfl, hE⟩
  repeat' first | refine hC.gn [] _ rfl rfl ?_ | refine And.intro ?_ ?_ | exact True.intro | refine hC.iadd [] rfl rfl (by first | omega | (simp only [Int.reduceToNat] at *; omega)) ?_ | refine hC.isub [] rfl rfl (by first | omega | (simp only [Int.reduceToNat] at *; omega)) ?_ | refine hC.imul [] rfl rfl (by first | omega | (simp only [Int.reduceToNat] at *; omega)) ?_ | refine hC.iinc [] rfl rfl rfl rfl (by first | omega | (simp only [Int.reduceToNat] at *; omega)) ?_ | refine hC.go [] _ rfl rfl ?_ | (intro h; first | exact (h rfl).elim | (exfalso; cases h; done) | (dsimp only [kk_cP, kk_cN] at h) | skip)
  all_goals first | exact Or.inl rfl | exact Or.inr rfl | exact Or.inr ⟨_, F1, es.trans (if_pos (by omega)), rfl, rfl, (mm_p.told hr.ok _).tr hE.1, hE.2⟩
theorem mz_readOne (hz : rz res) (hr : rmw n mo a res c F A) {Ac : Nat → Nat → Int} (s b : Nat) (m : Int) (hm0 : 0 ≤ m) (hbm : (b : Int) + m ≤ 22) (hm : m = Ac 1 s) (hN : nmr (Ac 2) s m (A 8) b) : kk_Ctr l (d + 4) en_t_X11_readOne [(4, 0), (0, (b : Int)), (0, m)] (mm_w F A) (fun rs w' => (∃ x F', sp_find (tk_ob n mo a res) Ac s c = .ok x ∧ rs = [(0, 1)] ∧ w' = mm_w F' A ∧ F' 13 = x ∧ 0 ≤ x ∧ x < m ∧ mz_K n mo a res (tk_nx n mo a res c) F F' A) ∨ (∃ e F', sp_find (tk_ob n mo a res) Ac s c = .error e ∧ rs = [(0, 0)] ∧ w' = mm_w F' A ∧ mz_E F F' e)) := by
  refine kk_ctr en_hM (List.mem_of_getElem? (i := 288) rfl) rfl (Nat.le_of_ble_eq_true rfl) (fun K hC => ?_)
  repeat' first | refine hC.gn [] _ rfl rfl ?_ | refine And.intro ?_ ?_ | exact True.intro | refine hC.iadd [] rfl rfl (by first | omega | (simp only [Int.reduceToNat] at *; omega)) ?_ | refine hC.isub [] rfl rfl (by first | omega | (simp only [Int.reduceToNat] at *; omega)) ?_ | refine hC.imul [] rfl rfl (by first | omega | (simp only [Int.reduceToNat] at *; omega)) ?_ | refine hC.iinc [] rfl rfl rfl rfl (by first | omega | (simp only [Int.reduceToNat] at *; omega)) ?_ | refine hC.go [] _ rfl rfl ?_ | (intro h; first | exact (h rfl).elim | (exfalso; cases h; done) | (dsimp only [kk_cP, kk_cN] at h) | skip)
  refine hC.same (mz_isOne l _ F A hz hr s b m hm0 hbm hm hN) rfl rfl rfl rfl (Nat.le_refl _) ?_
  rintro rs w' (⟨x, es, rfl, rfl, x0, x1⟩ | ⟨e, F1, es, rfl, rfl, hE⟩)
  · have hr' : rmw n mo a res c (kk_up F 13 x) A := hr
    repeat' first | refine hC.gn [] _ rfl rfl ?_ | refine And.intro ?_ ?_ | exact True.intro | refine hC.iadd [] rfl rfl (by first | omega | (simp only [Int.reduceToNat] at *; omega)) ?_ | refine hC.isub [] rfl rfl (by first | omega | (simp only [Int.reduceToNat] at *; omega)) ?_ | refine hC.imul [] rfl rfl (by first | omega | (simp only [Int.reduceToNat] at *; omega)) ?_ | refine hC.iinc [] rfl rfl rfl rfl (by first | omega | (simp only [Int.reduceToNat] at *; omega)) ?_ | refine hC.go [] _ rfl rfl ?_ | (intro h; first | exact (h rfl).elim | (exfalso; cases h; done) | (dsimp only [kk_cP, kk_cN] at h) | skip)
    refine hC.same (mz_go l _ (kk_up F 13 x) A hr') rfl rfl rfl rfl (Nat.le_refl _) ?_
    rintro rs w' ⟨rfl, F1, rfl, hf, hp, hr1⟩
    repeat' first | refine hC.gn [] _ rfl rfl ?_ | refine And.intro ?_ ?_ | exact True.intro | refine hC.iadd [] rfl rfl (by first | omega | (simp only [Int.reduceToNat] at *; omega)) ?_ | refine hC.isub [] rfl rfl (by first | omega | (simp only [Int.reduceToNat] at *; omega)) ?_ | refine hC.imul [] rfl rfl (by first | omega | (simp only [Int.reduceToNat] at *; omega)) ?_ | refine hC.iinc [] rfl rfl rfl rfl (by first | omega | (simp only [Int.reduceToNat] at *; omega)) ?_ | refine hC.go [] _ rfl rfl ?_ | (intro h; first | exact (h rfl).elim | (exfalso; cases h; done) | (dsimp only [kk_cP, kk_cN] at h) | skip)
    all_goals first | exact Or.inl rfl | exact Or.inr rfl | skip
    exact Or.inl ⟨x, F1, es, rfl, rfl, hf 13 (by decide) (by decide) (by decide) (by decide) (by decide) (by decide), x0, x1, (mm_p.told hr.ok _).tr hp, hf 10 (by decide) (by decide) (by decide) (by decide) (by decide) (by decide), hr1⟩
  · repeat' first | refine hC.gn [] _ rfl rfl ?_ | refine And.intro ?_ ?_ | exact True.intro | refine hC.iadd [] rfl rfl (by first | omega | (simp only [Int.reduceToNat] at *; omega)) ?_ | refine hC.isub [] rfl rfl (by first | omega | (simp only [Int.reduceToNat] at *; omega)) ?_ | refine hC.imul [] rfl rfl (by first | omega | (simp only [Int.reduceToNat] at *; omega)) ?_ | refine hC.iinc [] rfl rfl rfl rfl (by first | omega | (simp only [Int.reduceToNat] at *; omega)) ?_ | refine hC.go [] _ rfl rfl ?_ | (intro h; first | exact (h rfl).elim | (exfalso; cases h; done) | (dsimp only [kk_cP, kk_cN] at h) | skip)
    all_goals first | exact Or.inl rfl | exact Or.inr rfl | exact Or.inr ⟨e, F1, es, rfl, rfl, hE⟩
theorem mz_readNumber (lo hi : Int) (hr : rmw n mo a res c F A) : kk_Ctr l (d + 2) en_t_X11_readNumber [(4, 0), (0, lo), (0, hi)] (mm_w F A) (fun rs w' => (∃ x F', sp_num (tk_ob n mo a res) c lo hi = .ok x ∧ rs = [(0, 1)] ∧ w' = mm_w F' A ∧ F' 13 = x ∧ lo ≤ x ∧ x ≤ hi ∧ mz_K n mo a res (tk_nx n mo a res c) F F' A) ∨ (∃ e F', sp_num (tk_ob n mo a res) c lo hi = .error e ∧ rs = [(0, 0)] ∧ w' = mm_w F' A ∧ mz_E F F' e)) := by
  obtain ⟨k1, k2⟩ := hr.tok.k3
  have hr' : rmw n mo a res c (kk_up F 13 (F 8)) A := hr
  refine kk_ctr en_hM (List.mem_of_getElem? (i := 274) rfl) rfl (Nat.le_of_ble_eq_true rfl) (fun K hC => ?_)
  repeat' first | refine hC.gn [] _ rfl rfl ?_ | refine And.intro ?_ ?_ | exact True.intro | refine hC.iadd [] rfl rfl (by first | omega | (simp only [Int.reduceToNat] at *; omega)) ?_ | refine hC.isub [] rfl rfl (by first | omega | (simp only [Int.reduceToNat] at *; omega)) ?_ | refine hC.imul [] rfl rfl (by first | omega | (simp only [Int.reduceToNat] at *; omega)) ?_ | refine hC.iinc [] rfl rfl rfl rfl (by first | omega | (simp only [Int.reduceToNat] at *; omega)) ?_ | refine hC.go [] _ rfl rfl ?_ | (intro h; first | exact (h rfl).elim | (exfalso; cases h; done) | (dsimp only [kk_cP, kk_cN] at h) | skip) | (refine hC.same (mz_bad1 l _ _ _ hr) rfl rfl rfl rfl (Nat.le_refl _) ?_; rintro rs w' ⟨rfl, F1, rfl, hE⟩)
  all_goals first | exact Or.inl rfl | exact Or.inr rfl | exact Or.inr ⟨_, F1, (by unfold sp_num; exact if_neg (fun q => absurd (k1.mpr q) (by omega))), rfl, rfl, hE⟩ | skip
  have q3 : tk_ob n mo a res c 3 = 3 := k1.mp (by omega)
  have q8 := k2 q3
  have es : sp_num (tk_ob n mo a res) c lo hi = if lo ≤ F 8 ∧ F 8 ≤ hi then .ok (F 8) else .error (2, tk_ob n mo a res c 4) := by
    unfold sp_num
    rw [if_pos q3, q8]
  repeat' first | refine hC.gn [] _ rfl rfl ?_ | refine And.intro ?_ ?_ | exact True.intro | refine hC.iadd [] rfl rfl (by first | omega | (simp only [Int.reduceToNat] at *; omega)) ?_ | refine hC.isub [] rfl rfl (by first | omega | (simp only [Int.reduceToNat] at *; omega)) ?_ | refine hC.imul [] rfl rfl (by first | omega | (simp only [Int.reduceToNat] at *; omega)) ?_ | refine hC.iinc [] rfl rfl rfl rfl (by first | omega | (simp only [Int.reduceToNat] at *; omega)) ?_ | refine hC.go [] _ rfl rfl ?_ | (intro h; first | exact (h rfl).elim | (exfalso; cases h; done) | (dsimp only [kk_cP, kk_cN] at h) | skip) | (refine hC.call (mm_isIn l _ _ _ _) [] rfl rfl rfl rfl rfl rfl trivial (Nat.le_refl _) ?_; rintro rs w' ⟨rfl, ⟨rfl, h1, h2⟩ | ⟨rfl, h1⟩⟩)
  · refine hC.same (mz_go l _ (kk_up F 13 (F 8)) A hr') rfl rfl rfl rfl (Nat.le_refl _) ?_
    rintro rs w' ⟨rfl, F1, rfl, hf, hp, hr1⟩
    repeat' first | refine hC.gn [] _ rfl rfl ?_ | refine And.intro ?_ ?_ | exact True.intro | refine hC.iadd [] rfl rfl (by first | omega | (simp only [Int.reduceToNat] at *; omega)) ?_ | refine hC.isub [] rfl rfl (by first | omega | (simp only [Int.reduceToNat] at *; omega)) ?_ | refine hC.imul [] rfl rfl (by first | omega | (simp only [Int.reduceToNat] at *; omega)) ?_ | refine hC.iinc [] rfl rfl rfl rfl (by first | omega | (simp only [Int.reduceToNat] at *; omega)) ?_ | refine hC.go [] _ rfl rfl ?_ | (intro h; first | exact (h rfl).elim | (exfalso; cases h; done) | (dsimp only [kk_cP, kk_cN] at h) | skip)
    all_goals first | exact Or.inl rfl | exact Or.inr rfl | skip
    exact Or.inl ⟨F 8, F1, es.trans (if_pos ⟨h1, h2⟩), rfl, rfl, hf 13 (by decide) (by decide) (by decide) (by decide) (by decide) (by decide), h1, h2, (mm_p.told hr.ok _).tr hp, hf 10 (by decide) (by decide) (by decide) (by decide) (by decide) (by decide), hr1⟩
  · refine hC.same (mz_bad l _ F A 2 hr (by rw [q3]; decide)) rfl rfl rfl rfl (Nat.le_refl _) ?_
    rintro rs w' ⟨rfl, F1, rfl, hE⟩
    repeat' first | refine hC.gn [] _ rfl rfl ?_ | refine And.intro ?_ ?_ | exact True.intro | refine hC.iadd [] rfl rfl (by first | omega | (simp only [Int.reduceToNat] at *; omega)) ?_ | refine hC.isub [] rfl rfl (by first | omega | (simp only [Int.reduceToNat] at *; omega)) ?_ | refine hC.imul [] rfl rfl (by first | omega | (simp only [Int.reduceToNat] at *; omega)) ?_ | refine hC.iinc [] rfl rfl rfl rfl (by first | omega | (simp only [Int.reduceToNat] at *; omega)) ?_ | refine hC.go [] _ rfl rfl ?_ | (intro h; first | exact (h rfl).elim | (exfalso; cases h; done) | (dsimp only [kk_cP, kk_cN] at h) | skip)
    all_goals first | exact Or.inl rfl | exact Or.inr rfl | exact Or.inr ⟨_, F1, es.trans (if_neg h1), rfl, rfl, hE⟩
end
