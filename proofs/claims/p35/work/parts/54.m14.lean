/-! THE REFERENCE, 14: deeds -/
set_option maxRecDepth 100000 in
set_option maxHeartbeats 4000000 in
theorem mm_mustNow (l : Launch) (d : Nat) (F : Nat → Int) (A : Nat → Nat → Int) (hv : mm_vS (A 2)) : kk_Ctr l (d + 1) en_t_X11_mustNow [(4, 0)] (mm_w F A) (fun rs w' => w' = mm_w F A ∧ ∃ x, rs = [(0, x)]) := by
  have v2 : A 2 (Int.toNat 68) ≤ 9 := hv.2.1
  refine kk_ctr en_hM (List.mem_of_getElem? (i := 218) rfl) rfl (Nat.le_of_ble_eq_true rfl) (fun K hC => ?_)
  repeat' first | refine hC.gn [] _ rfl rfl ?_ | refine And.intro ?_ ?_ | exact True.intro | refine hC.iadd [] rfl rfl (by first | omega | (simp only [Int.reduceToNat] at *; omega)) ?_ | refine hC.isub [] rfl rfl (by first | omega | (simp only [Int.reduceToNat] at *; omega)) ?_ | refine hC.imul [] rfl rfl (by first | omega | (simp only [Int.reduceToNat] at *; omega)) ?_ | refine hC.iinc [] rfl rfl rfl rfl (by first | omega | (simp only [Int.reduceToNat] at *; omega)) ?_ | refine hC.go [] _ rfl rfl ?_ | (intro h; first | exact (h rfl).elim | (exfalso; cases h; done) | (dsimp only [kk_cP, kk_cN] at h) | skip) | (refine hC.same (mm_holds l _ F A hv) rfl rfl rfl rfl (Nat.le_refl _) ?_; rintro rs w' ⟨rfl, ⟨rfl, o1⟩ | ⟨rfl, o1⟩⟩)
  all_goals first | rfl | exact ⟨_, rfl⟩ | (have o2 : 0 ≤ A 2 (Int.toNat 68) := o1; omega)
set_option maxRecDepth 100000 in
set_option maxHeartbeats 4000000 in
theorem mm_barredNow (l : Launch) (d : Nat) (F : Nat → Int) (A : Nat → Nat → Int) (hv : mm_vS (A 2)) : kk_Ctr l (d + 1) en_t_X11_barredNow [(4, 0)] (mm_w F A) (fun rs w' => w' = mm_w F A ∧ ∃ x, rs = [(0, x)]) := by
  have v2 : A 2 (Int.toNat 68) ≤ 9 := hv.2.1
  refine kk_ctr en_hM (List.mem_of_getElem? (i := 219) rfl) rfl (Nat.le_of_ble_eq_true rfl) (fun K hC => ?_)
  repeat' first | refine hC.gn [] _ rfl rfl ?_ | refine And.intro ?_ ?_ | exact True.intro | refine hC.iadd [] rfl rfl (by first | omega | (simp only [Int.reduceToNat] at *; omega)) ?_ | refine hC.isub [] rfl rfl (by first | omega | (simp only [Int.reduceToNat] at *; omega)) ?_ | refine hC.imul [] rfl rfl (by first | omega | (simp only [Int.reduceToNat] at *; omega)) ?_ | refine hC.iinc [] rfl rfl rfl rfl (by first | omega | (simp only [Int.reduceToNat] at *; omega)) ?_ | refine hC.go [] _ rfl rfl ?_ | (intro h; first | exact (h rfl).elim | (exfalso; cases h; done) | (dsimp only [kk_cP, kk_cN] at h) | skip) | (refine hC.same (mm_holds l _ F A hv) rfl rfl rfl rfl (Nat.le_refl _) ?_; rintro rs w' ⟨rfl, ⟨rfl, o1⟩ | ⟨rfl, o1⟩⟩)
  all_goals first | rfl | exact ⟨_, rfl⟩ | (have o2 : 0 ≤ A 2 (Int.toNat 68) := o1; omega)
set_option maxRecDepth 100000 in
set_option maxHeartbeats 4000000 in
theorem mm_workOf (l : Launch) (d : Nat) (F : Nat → Int) (A : Nat → Nat → Int) (m e : Int) (h1 : 0 ≤ m) (h2 : m ≤ 3) (h3 : 0 ≤ e) (h4 : e ≤ 7) : kk_Ctr l d en_t_X11_workOf [(4, 0), (0, m), (0, e)] (mm_w F A) (fun rs w' => w' = mm_w F A ∧ rs = [(0, A 2 (101 + 8 * m + e).toNat)]) := by
  refine kk_ctr en_hM (List.mem_of_getElem? (i := 217) rfl) rfl (Nat.le_of_ble_eq_true rfl) (fun K hC => ?_)
  repeat' first | refine hC.gn [] _ rfl rfl ?_ | refine And.intro ?_ ?_ | exact True.intro | refine hC.iadd [] rfl rfl (by first | omega | (simp only [Int.reduceToNat] at *; omega)) ?_ | refine hC.isub [] rfl rfl (by first | omega | (simp only [Int.reduceToNat] at *; omega)) ?_ | refine hC.imul [] rfl rfl (by first | omega | (simp only [Int.reduceToNat] at *; omega)) ?_ | refine hC.iinc [] rfl rfl rfl rfl (by first | omega | (simp only [Int.reduceToNat] at *; omega)) ?_ | refine hC.go [] _ rfl rfl ?_ | (intro h; first | exact (h rfl).elim | (exfalso; cases h; done) | (dsimp only [kk_cP, kk_cN] at h) | skip)
  all_goals first | rfl | omega
set_option maxRecDepth 100000 in
set_option maxHeartbeats 4000000 in
theorem mm_whyNone (l : Launch) (d : Nat) (F : Nat → Int) (A : Nat → Nat → Int) (hv : mm_vS (A 2)) : kk_Ctr l (d + 1) en_t_X11_whyNone [(4, 0)] (mm_w F A) (fun rs w' => w' = mm_w F A ∧ ∃ x, rs = [(0, x)] ∧ (x = 0 → A 2 68 = -1 ∧ A 2 2 ≠ 0)) := by
  refine kk_ctr en_hM (List.mem_of_getElem? (i := 263) rfl) rfl (Nat.le_of_ble_eq_true rfl) (fun K hC => ?_)
  repeat' first | refine hC.gn [] _ rfl rfl ?_ | refine And.intro ?_ ?_ | exact True.intro | refine hC.iadd [] rfl rfl (by first | omega | (simp only [Int.reduceToNat] at *; omega)) ?_ | refine hC.isub [] rfl rfl (by first | omega | (simp only [Int.reduceToNat] at *; omega)) ?_ | refine hC.imul [] rfl rfl (by first | omega | (simp only [Int.reduceToNat] at *; omega)) ?_ | refine hC.iinc [] rfl rfl rfl rfl (by first | omega | (simp only [Int.reduceToNat] at *; omega)) ?_ | refine hC.go [] _ rfl rfl ?_ | (intro h; first | exact (h rfl).elim | (exfalso; cases h; done) | (dsimp only [kk_cP, kk_cN] at h) | skip) | (refine hC.same (mm_holds l _ F A hv) rfl rfl rfl rfl (Nat.le_refl _) ?_; rintro rs w' ⟨rfl, ⟨rfl, o1⟩ | ⟨rfl, o1⟩⟩)
  all_goals first | rfl | exact ⟨_, rfl, fun q => absurd q (by decide)⟩ | exact ⟨_, rfl, fun _ => ⟨o1, by assumption⟩⟩ | omega
