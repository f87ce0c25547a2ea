/-! THE REFERENCE, 7: more lines of a house -/
set_option maxRecDepth 100000 in
set_option maxHeartbeats 4000000 in
theorem mm_rH_far {r : Nat → Int} (h : mm_rH r) {i : Nat} (hi : 15 ≤ i) (v : Int) : mm_rH (kk_up r i v) := by
  obtain ⟨⟨c1, c2, c3, c4, c5, c6⟩, hs, h5, h4⟩ := h
  have n : ∀ j : Nat, j < 15 → kk_up r i v j = r j := fun j hj => kk_up_ne (by omega)
  refine ⟨⟨by rw [n 0 (by decide)]; exact c1, by rw [n 0 (by decide)]; exact c2, by rw [n 1 (by decide)]; exact c3, by rw [n 1 (by decide)]; exact c4, by rw [n 2 (by decide)]; exact c5, by rw [n 2 (by decide)]; exact c6⟩, fun c hc => by rw [n (5 + c) (by omega)]; exact hs c hc, by rw [n 2 (by decide), n 5 (by decide)]; exact h5, by rw [n 4 (by decide)]; exact h4⟩
set_option maxRecDepth 100000 in
set_option maxHeartbeats 4000000 in
theorem mm_rH_once {r : Nat → Int} (h : mm_rH r) : mm_rH (kk_up r 4 1) := ⟨h.1, fun c hc => by rw [kk_up_ne (by omega)]; exact h.2.1 c hc, h.2.2.1, Or.inr rfl⟩
set_option maxRecDepth 100000 in
set_option maxHeartbeats 4000000 in
theorem mm_rH_at {r : Nat → Int} (h : mm_rH r) (v : Int) : mm_rH (kk_up r 3 v) := ⟨h.1, fun c hc => by rw [kk_up_ne (by omega)]; exact h.2.1 c hc, h.2.2.1, h.2.2.2⟩
set_option maxRecDepth 100000 in
set_option maxHeartbeats 4000000 in
theorem mm_readOnce (l : Launch) (d : Nat) (F : Nat → Int) (A : Nat → Nat → Int) (h : mm_ok F) (hr : mm_rH (A 3)) (hn : mm_nb 22 (A 8)) : kk_Ctr l (d + 2) en_t_X11_readOnce [(4, 0)] (mm_w F A) (mm_QH F A) := by
  have hh := h
  refine kk_ctr en_hM (List.mem_of_getElem? (i := 261) rfl) rfl (Nat.le_of_ble_eq_true rfl) (fun K hC => ?_)
  repeat' first | refine hC.gn [] _ rfl rfl ?_ | refine And.intro ?_ ?_ | exact True.intro | refine hC.iadd [] rfl rfl (by first | omega | (simp only [Int.reduceToNat] at *; omega)) ?_ | refine hC.isub [] rfl rfl (by first | omega | (simp only [Int.reduceToNat] at *; omega)) ?_ | refine hC.imul [] rfl rfl (by first | omega | (simp only [Int.reduceToNat] at *; omega)) ?_ | refine hC.iinc [] rfl rfl rfl rfl (by first | omega | (simp only [Int.reduceToNat] at *; omega)) ?_ | refine hC.go [] _ rfl rfl ?_ | (intro h; first | exact (h rfl).elim | (exfalso; cases h; done) | (dsimp only [kk_cP, kk_cN] at h) | skip) | (refine hC.same (mm_bad l _ _ _ _) rfl rfl rfl rfl (Nat.le_refl _) ?_; rintro rs w' ⟨rfl, xb, rfl⟩) | (refine hC.same (mm_go l _ F (mm_up A 3 _) hh.1 hh.2.1 hh.2.2.1) rfl rfl rfl rfl (Nat.le_refl _) ?_; rintro rs w' ⟨rfl, F1, rfl, hrd1⟩)
  all_goals first | omega | exact Or.inl rfl | exact Or.inr rfl | exact ⟨_, A 3, A 8, rfl, (mm_bad_p hh _ _).h, hr, hn, Or.inr rfl⟩ | exact ⟨F1, _, A 8, rfl, (hrd1.p hh).1.h, mm_rH_once hr, hn, Or.inl ⟨rfl, fun g => (hrd1.p hh).2 (by omega)⟩⟩
set_option maxRecDepth 100000 in
set_option maxHeartbeats 4000000 in
theorem mm_readSays (l : Launch) (d : Nat) (F : Nat → Int) (A : Nat → Nat → Int) (row : Int) (h : mm_ok F) (hr : mm_rH (A 3)) (hn : mm_nb 22 (A 8)) (hrow : row = 15 ∨ row = 25) : kk_Ctr l (d + 5) en_t_X11_readSays [(4, 0), (0, row)] (mm_w F A) (mm_QH F A) := by
  have hh := h
  have hc := hr.1
  have hc2 := hc.2.2.2.2.2
  refine kk_ctr en_hM (List.mem_of_getElem? (i := 258) rfl) rfl (Nat.le_of_ble_eq_true rfl) (fun K hC => ?_)
  repeat' first | refine hC.gn [] _ rfl rfl ?_ | refine And.intro ?_ ?_ | exact True.intro | refine hC.iadd [] rfl rfl (by first | omega | (simp only [Int.reduceToNat] at *; omega)) ?_ | refine hC.isub [] rfl rfl (by first | omega | (simp only [Int.reduceToNat] at *; omega)) ?_ | refine hC.imul [] rfl rfl (by first | omega | (simp only [Int.reduceToNat] at *; omega)) ?_ | refine hC.iinc [] rfl rfl rfl rfl (by first | omega | (simp only [Int.reduceToNat] at *; omega)) ?_ | refine hC.go [] _ rfl rfl ?_ | (intro h; first | exact (h rfl).elim | (exfalso; cases h; done) | (dsimp only [kk_cP, kk_cN] at h) | skip) | (refine hC.same (mm_go l _ F A hh.1 hh.2.1 hh.2.2.1) rfl rfl rfl rfl (Nat.le_refl _) ?_; rintro rs w' ⟨rfl, F1, rfl, hrd1⟩) | (refine hC.same (mm_readOne l _ F1 A 12 (A 3 2) (hrd1.p hh).1.2.1 (by decide) hc.2.2.2.2.1 (by have := hc.2.2.2.2.2; omega)) rfl rfl rfl rfl (Nat.le_refl _) ?_; rintro rs w' ⟨F2, rfl, hp2, ⟨rfl, ⟨t1, t2⟩, t3⟩ | rfl⟩) | (refine hC.same (mm_isOne l _ F2 A 0 (A 3 0) hp2.2.1 (by decide) hc.1 (by have := hc.2.1; omega)) rfl rfl rfl rfl (Nat.le_refl _) ?_; rintro rs w' ⟨F3, rfl, hp3, ⟨rfl, v1, v2, v3⟩ | rfl⟩) | (refine hC.call (mm_has l _ _ _) [] rfl rfl rfl rfl rfl rfl trivial (Nat.le_refl _) ?_; rintro rs w' ⟨rfl, rfl | rfl⟩) | (refine hC.same (mm_bad l _ F3 A _) rfl rfl rfl rfl (Nat.le_refl _) ?_; rintro rs w' ⟨rfl, xb, rfl⟩) | (refine hC.same (mm_go l _ F3 (mm_up A 3 _) hp3.2.1.1 hp3.2.1.2.1 hp3.2.1.2.2.1) rfl rfl rfl rfl (Nat.le_refl _) ?_; rintro rs w' ⟨rfl, F4, rfl, hrd4⟩)
  all_goals first | omega | exact Or.inl rfl | exact Or.inr rfl | exact ⟨F2, A 3, A 8, rfl, ((hrd1.p hh).1.tr hp2).h, hr, hn, Or.inr rfl⟩ | exact ⟨F3, A 3, A 8, rfl, (((hrd1.p hh).1.tr hp2).tr hp3).h, hr, hn, Or.inr rfl⟩ | exact ⟨_, A 3, A 8, rfl, ((((hrd1.p hh).1.tr hp2).tr hp3).tr (mm_bad_p hp3.2.1 _ _)).h, hr, hn, Or.inr rfl⟩ | exact ⟨F4, _, A 8, rfl, ((((hrd1.p hh).1.tr hp2).tr hp3).tr (hrd4.p hp3.2.1).1).h, mm_rH_far hr (by omega) _, hn, Or.inl ⟨rfl, fun g => by have := (hrd4.p hp3.2.1).2 (by omega); have := (((hrd1.p hh).1.tr hp2).tr hp3).2.2; omega⟩⟩
