/-! THE REFERENCE, 6: the lines of a house -/
set_option maxRecDepth 100000 in
set_option maxHeartbeats 4000000 in
theorem mm_isOne (l : Launch) (d : Nat) (F : Nat → Int) (A : Nat → Nat → Int) (b m : Int) (h : mm_ok F) (hb : 0 ≤ b) (hm : 0 ≤ m) (hbm : b + m ≤ 22) : kk_Ctr l (d + 3) en_t_X11_isOne [(4, 0), (0, b), (0, m)] (mm_w F A) (fun rs w' => ∃ F', w' = mm_w F' A ∧ mm_p F F' ∧ ((rs = [(0, 1)] ∧ 0 ≤ F' 13 ∧ F' 13 < m ∧ F' 5 = F 5) ∨ rs = [(0, 0)])) := by
  have hh := h
  refine kk_ctr en_hM (List.mem_of_getElem? (i := 289) rfl) rfl (Nat.le_of_ble_eq_true rfl) (fun K hC => ?_)
  repeat' first | refine hC.gn [] _ rfl rfl ?_ | refine And.intro ?_ ?_ | exact True.intro | refine hC.iadd [] rfl rfl (by first | omega | (simp only [Int.reduceToNat] at *; omega)) ?_ | refine hC.isub [] rfl rfl (by first | omega | (simp only [Int.reduceToNat] at *; omega)) ?_ | refine hC.imul [] rfl rfl (by first | omega | (simp only [Int.reduceToNat] at *; omega)) ?_ | refine hC.iinc [] rfl rfl rfl rfl (by first | omega | (simp only [Int.reduceToNat] at *; omega)) ?_ | refine hC.go [] _ rfl rfl ?_ | (intro h; first | exact (h rfl).elim | (exfalso; cases h; done) | (dsimp only [kk_cP, kk_cN] at h) | skip) | (refine hC.same (mm_isName l _ _ _) rfl rfl rfl rfl (Nat.le_refl _) ?_; rintro rs w' ⟨rfl, ⟨rfl, s1⟩ | rfl⟩) | (refine hC.same (mm_bad l _ _ _ _) rfl rfl rfl rfl (Nat.le_refl _) ?_; rintro rs w' ⟨rfl, xb, rfl⟩) | (refine mm_find8 l hC (Nat.le_refl _) _ _ hb hm hbm rfl rfl rfl ?_; intro x hx1 hx2) | (refine hC.same (mm_bad l _ (kk_up F 13 x) A _) rfl rfl rfl rfl (Nat.le_refl _) ?_; rintro rs w' ⟨rfl, xb, rfl⟩)
  all_goals first | exact Or.inl rfl | exact Or.inr rfl | exact ⟨_, rfl, mm_bad_p hh _ _, Or.inr rfl⟩ | exact ⟨_, rfl, (mm_p.told hh _).tr (mm_bad_p (hh.told _) _ _), Or.inr rfl⟩ | exact ⟨kk_up F 13 x, rfl, mm_p.told hh _, Or.inl ⟨rfl, (show 0 ≤ x by omega), hx2, rfl⟩⟩
set_option maxRecDepth 100000 in
set_option maxHeartbeats 4000000 in
theorem mm_readOne (l : Launch) (d : Nat) (F : Nat → Int) (A : Nat → Nat → Int) (b m : Int) (h : mm_ok F) (hb : 0 ≤ b) (hm : 0 ≤ m) (hbm : b + m ≤ 22) : kk_Ctr l (d + 4) en_t_X11_readOne [(4, 0), (0, b), (0, m)] (mm_w F A) (mm_Q1 F A (fun F' => 0 ≤ F' 13 ∧ F' 13 < m)) := by
  have hh := h
  refine kk_ctr en_hM (List.mem_of_getElem? (i := 288) rfl) rfl (Nat.le_of_ble_eq_true rfl) (fun K hC => ?_)
  repeat' first | refine hC.gn [] _ rfl rfl ?_ | refine And.intro ?_ ?_ | exact True.intro | refine hC.iadd [] rfl rfl (by first | omega | (simp only [Int.reduceToNat] at *; omega)) ?_ | refine hC.isub [] rfl rfl (by first | omega | (simp only [Int.reduceToNat] at *; omega)) ?_ | refine hC.imul [] rfl rfl (by first | omega | (simp only [Int.reduceToNat] at *; omega)) ?_ | refine hC.iinc [] rfl rfl rfl rfl (by first | omega | (simp only [Int.reduceToNat] at *; omega)) ?_ | refine hC.go [] _ rfl rfl ?_ | (intro h; first | exact (h rfl).elim | (exfalso; cases h; done) | (dsimp only [kk_cP, kk_cN] at h) | skip) | (refine hC.same (mm_isOne l _ _ _ _ _ hh hb hm hbm) rfl rfl rfl rfl (Nat.le_refl _) ?_; rintro rs w' ⟨F1, rfl, hp1, ⟨rfl, t1, t2, t3⟩ | rfl⟩) | (refine hC.same (mm_go l _ _ _ ?_ ?_ ?_) rfl rfl rfl rfl (Nat.le_refl _) ?_; rotate_left 3; rintro rs w' ⟨rfl, F2, rfl, hrd⟩)
  all_goals first | exact hh | exact hb | exact hm | exact hbm | exact hp1.2.1.1 | exact hp1.2.1.2.1 | exact hp1.2.1.2.2.1 | exact Or.inl rfl | exact Or.inr rfl | exact ⟨_, rfl, hp1, Or.inr rfl⟩ | skip
  have e13 : F2 13 = F1 13 := hrd.1 13 (by decide) (by decide) (by decide) (by decide) (by decide) (by decide)
  have q := hrd.p hp1.2.1
  exact ⟨F2, rfl, hp1.tr q.1, Or.inl ⟨rfl, ⟨by omega, by omega⟩, fun g => by have := q.2 (by omega); omega⟩⟩
set_option maxRecDepth 100000 in
set_option maxHeartbeats 4000000 in
theorem mm_readFirst (l : Launch) (d : Nat) (F : Nat → Int) (A : Nat → Nat → Int) (k : Nat) (m : Int) (h : mm_ok F) (hk : k < 3) : kk_Ctr l (d + 2) en_t_X11_readFirst [(4, 0), (0, (k : Int)), (0, m)] (mm_w F A) (mm_Q1 F A (fun _ => A 3 k ≠ m)) := by
  have hh := h
  refine kk_ctr en_hM (List.mem_of_getElem? (i := 286) rfl) rfl (Nat.le_of_ble_eq_true rfl) (fun K hC => ?_)
  repeat' first | refine hC.gn [] _ rfl rfl ?_ | refine And.intro ?_ ?_ | exact True.intro | refine hC.iadd [] rfl rfl (by first | omega | (simp only [Int.reduceToNat] at *; omega)) ?_ | refine hC.isub [] rfl rfl (by first | omega | (simp only [Int.reduceToNat] at *; omega)) ?_ | refine hC.imul [] rfl rfl (by first | omega | (simp only [Int.reduceToNat] at *; omega)) ?_ | refine hC.iinc [] rfl rfl rfl rfl (by first | omega | (simp only [Int.reduceToNat] at *; omega)) ?_ | refine hC.go [] _ rfl rfl ?_ | (intro h; first | exact (h rfl).elim | (exfalso; cases h; done) | (dsimp only [kk_cP, kk_cN] at h) | skip) | (refine hC.same (mm_bad l _ _ _ _) rfl rfl rfl rfl (Nat.le_refl _) ?_; rintro rs w' ⟨rfl, xb, rfl⟩) | (refine hC.same (mm_go l _ _ _ ?_ ?_ ?_) rfl rfl rfl rfl (Nat.le_refl _) ?_; rotate_left 3; rintro rs w' ⟨rfl, F2, rfl, hrd⟩)
  all_goals first | omega | exact hh.1 | exact hh.2.1 | exact hh.2.2.1 | exact Or.inl rfl | exact Or.inr rfl | exact ⟨_, rfl, mm_bad_p hh _ _, Or.inr rfl⟩ | exact ⟨F2, rfl, (hrd.p hh).1, Or.inl ⟨rfl, h, fun g => (hrd.p hh).2 (by omega)⟩⟩
-- what is read of a house is good
def mm_rH (r : Nat → Int) : Prop := mm_cn r ∧ (∀ c, c < 10 → 0 ≤ r (5 + c) ∧ r (5 + c) ≤ 9) ∧ (0 < r 2 → 1 ≤ r 5) ∧ (r 4 = 0 ∨ r 4 = 1)
def mm_ph (F F' : Nat → Int) : Prop := (∀ k, (k < 5 ∨ 13 < k) → k ≠ 24 → F' k = F k) ∧ mm_ok F' ∧ F 5 ≤ F' 5
set_option maxRecDepth 100000 in
set_option maxHeartbeats 4000000 in
theorem mm_p.h {F F' : Nat → Int} (h : mm_p F F') : mm_ph F F' := ⟨fun k hk _ => h.1 k hk, h.2⟩
set_option maxRecDepth 100000 in
set_option maxHeartbeats 4000000 in
theorem mm_ph.tr {F F' F'' : Nat → Int} (h : mm_ph F F') (h' : mm_ph F' F'') : mm_ph F F'' := ⟨fun k hk h24 => (h'.1 k hk h24).trans (h.1 k hk h24), h'.2.1, Int.le_trans h.2.2 h'.2.2⟩
def mm_QH (F : Nat → Int) (A : Nat → Nat → Int) : List en_V → List kk_C → Prop := fun rs w' => ∃ F' r f, w' = mm_w F' (mm_up (mm_up A 3 r) 8 f) ∧ mm_ph F F' ∧ mm_rH r ∧ mm_nb 22 f ∧ ((rs = [(0, 1)] ∧ (F' 7 = 4 → F 5 < F' 5)) ∨ rs = [(0, 0)])
set_option maxRecDepth 100000 in
set_option maxHeartbeats 4000000 in
theorem mm_rH_cnt {r : Nat → Int} (h : mm_rH r) {k : Nat} {m : Int} (hk : (k = 0 ∧ m = 8) ∨ (k = 1 ∧ m = 4)) (hne : r k ≠ m) : mm_rH (kk_up r k (r k + 1)) := by
  obtain ⟨⟨c1, c2, c3, c4, c5, c6⟩, hs, h5, h4⟩ := h
  rcases hk with ⟨rfl, rfl⟩ | ⟨rfl, rfl⟩
  · exact ⟨⟨(show 0 ≤ r 0 + 1 by omega), (show r 0 + 1 ≤ 8 by omega), c3, c4, c5, c6⟩, fun c hc => by rw [kk_up_ne (by omega)]; exact hs c hc, h5, h4⟩
  · exact ⟨⟨c1, c2, (show 0 ≤ r 1 + 1 by omega), (show r 1 + 1 ≤ 4 by omega), c5, c6⟩, fun c hc => by rw [kk_up_ne (by omega)]; exact hs c hc, h5, h4⟩
set_option maxRecDepth 100000 in
set_option maxHeartbeats 4000000 in
theorem mm_readPlain (l : Launch) (d : Nat) (F : Nat → Int) (A : Nat → Nat → Int) (k : Nat) (m b : Int) (h : mm_ok F) (hr : mm_rH (A 3)) (hn : mm_nb 22 (A 8)) (hk : (k = 0 ∧ m = 8 ∧ b = 0) ∨ (k = 1 ∧ m = 4 ∧ b = 8)) : kk_Ctr l (d + 4) en_t_X11_readPlain [(4, 0), (0, (k : Int)), (0, m), (0, b)] (mm_w F A) (mm_QH F A) := by
  have hh := h
  have hk3 : k < 3 := by omega
  have hb2 : 0 ≤ b ∧ b ≤ 8 := by omega
  have hb3 : 0 ≤ A 3 k ∧ A 3 k ≤ 8 := by
    obtain ⟨c1, c2, c3, c4, c5, c6⟩ := hr.1
    rcases hk with ⟨rfl, -⟩ | ⟨rfl, -⟩ <;> omega
  have hb4 : 0 ≤ A 3 ((k : Int)).toNat ∧ A 3 ((k : Int)).toNat ≤ 8 := hb3
  refine kk_ctr en_hM (List.mem_of_getElem? (i := 256) rfl) rfl (Nat.le_of_ble_eq_true rfl) (fun K hC => ?_)
  repeat' first | refine hC.gn [] _ rfl rfl ?_ | refine And.intro ?_ ?_ | exact True.intro | refine hC.iadd [] rfl rfl (by first | omega | (simp only [Int.reduceToNat] at *; omega)) ?_ | refine hC.isub [] rfl rfl (by first | omega | (simp only [Int.reduceToNat] at *; omega)) ?_ | refine hC.imul [] rfl rfl (by first | omega | (simp only [Int.reduceToNat] at *; omega)) ?_ | refine hC.iinc [] rfl rfl rfl rfl (by first | omega | (simp only [Int.reduceToNat] at *; omega)) ?_ | refine hC.go [] _ rfl rfl ?_ | (intro h; first | exact (h rfl).elim | (exfalso; cases h; done) | (dsimp only [kk_cP, kk_cN] at h) | skip) | (refine hC.same (mm_readFirst l _ F A k _ hh hk3) rfl rfl rfl rfl (Nat.le_refl _) ?_; rintro rs w' ⟨F1, rfl, hp1, ⟨rfl, t1, t2⟩ | rfl⟩) | (refine hC.same (mm_readNew l _ F1 A _ hp1.2.1 hr.1 hn (by first | omega | (simp only [Int.toNat_natCast] at *; omega)) (by first | omega | (simp only [Int.toNat_natCast] at *; omega))) rfl rfl rfl rfl (Nat.le_refl _) ?_; rintro rs w' ⟨F2, f2, rfl, hp2, hn2, ⟨rfl, u1⟩ | rfl⟩)
  all_goals first | omega | exact Or.inl rfl | exact Or.inr rfl | exact ⟨F1, A 3, A 8, rfl, hp1.h, hr, hn, Or.inr rfl⟩ | exact ⟨F2, A 3, f2, rfl, (hp1.tr hp2).h, hr, hn2, Or.inr rfl⟩ | skip
  · refine ⟨F2, kk_up (A 3) k (A 3 k + 1), f2, ?_, (hp1.tr hp2).h, mm_rH_cnt hr (by omega) t1, hn2, Or.inl ⟨rfl, fun g => by have := u1 g; have := hp1.2.2; omega⟩⟩
    have e1 : kk_i2 0 (A 3 k) 1 = A 3 k + 1 := kk_add (by omega)
    first | rfl | (rw [← e1]; rfl)
set_option maxRecDepth 100000 in
set_option maxHeartbeats 4000000 in
theorem mm_rH_chp {r : Nat → Int} (h : mm_rH r) (hne : r 2 ≠ 10) {v : Int} (v1 : 1 ≤ v) (v9 : v ≤ 9) : mm_rH (kk_up (kk_up r (5 + r 2).toNat v) 2 (r 2 + 1)) := by
  obtain ⟨⟨c1, c2, c3, c4, c5, c6⟩, hs, h5, h4⟩ := h
  have n0 : ∀ j : Nat, j < 5 → kk_up (kk_up r (5 + r 2).toNat v) 2 (r 2 + 1) j = kk_up r 2 (r 2 + 1) j := fun j hj => by
    by_cases h2 : j = 2
    · rw [h2, kk_up_eq, kk_up_eq]
    · rw [kk_up_ne h2, kk_up_ne h2, kk_up_ne (by omega)]
  have n5 : ∀ c : Nat, kk_up (kk_up r (5 + r 2).toNat v) 2 (r 2 + 1) (5 + c) = kk_up r (5 + r 2).toNat v (5 + c) := fun c => kk_up_ne (by omega)
  refine ⟨⟨by rw [n0 0 (by decide)]; exact c1, by rw [n0 0 (by decide)]; exact c2, by rw [n0 1 (by decide)]; exact c3, by rw [n0 1 (by decide)]; exact c4, by rw [n0 2 (by decide), kk_up_eq]; omega, by rw [n0 2 (by decide), kk_up_eq]; omega⟩, fun c hc => ?_, fun _ => ?_, ?_⟩
  · rw [n5]
    by_cases hq : 5 + c = (5 + r 2).toNat
    · rw [hq, kk_up_eq]; omega
    · rw [kk_up_ne hq]; exact hs c hc
  · rw [show (5 : Nat) = 5 + 0 from rfl, n5]
    by_cases hq : 5 + 0 = (5 + r 2).toNat
    · rw [hq, kk_up_eq]; exact v1
    · rw [kk_up_ne hq]; exact h5 (by omega)
  · rw [n0 4 (by decide)]; exact h4
set_option maxRecDepth 100000 in
set_option maxHeartbeats 4000000 in
theorem mm_readChapter (l : Launch) (d : Nat) (F : Nat → Int) (A : Nat → Nat → Int) (h : mm_ok F) (hr : mm_rH (A 3)) (hn : mm_nb 22 (A 8)) : kk_Ctr l (d + 4) en_t_X11_readChapter [(4, 0)] (mm_w F A) (mm_QH F A) := by
  have hh := h
  have hb3 : 0 ≤ A 3 2 ∧ A 3 2 ≤ 10 := ⟨hr.1.2.2.2.2.1, hr.1.2.2.2.2.2⟩
  refine kk_ctr en_hM (List.mem_of_getElem? (i := 257) rfl) rfl (Nat.le_of_ble_eq_true rfl) (fun K hC => ?_)
  repeat' first | refine hC.gn [] _ rfl rfl ?_ | refine And.intro ?_ ?_ | exact True.intro | refine hC.iadd [] rfl rfl (by first | omega | (simp only [Int.reduceToNat] at *; omega)) ?_ | refine hC.isub [] rfl rfl (by first | omega | (simp only [Int.reduceToNat] at *; omega)) ?_ | refine hC.imul [] rfl rfl (by first | omega | (simp only [Int.reduceToNat] at *; omega)) ?_ | refine hC.iinc [] rfl rfl rfl rfl (by first | omega | (simp only [Int.reduceToNat] at *; omega)) ?_ | refine hC.go [] _ rfl rfl ?_ | (intro h; first | exact (h rfl).elim | (exfalso; cases h; done) | (dsimp only [kk_cP, kk_cN] at h) | skip) | (refine hC.same (mm_readFirst l _ F A 2 _ hh (by decide)) rfl rfl rfl rfl (Nat.le_refl _) ?_; rintro rs w' ⟨F1, rfl, hp1, ⟨rfl, t1, t2⟩ | rfl⟩) | (refine hC.same (mm_readNew l _ F1 A _ hp1.2.1 hr.1 hn (by first | omega | (simp only [Int.reduceToNat] at *; omega)) (by first | omega | (simp only [Int.reduceToNat] at *; omega))) rfl rfl rfl rfl (Nat.le_refl _) ?_; rintro rs w' ⟨F2, f2, rfl, hp2, hn2, ⟨rfl, u1⟩ | rfl⟩) | (refine hC.same (mm_readNumber l _ F2 (mm_up A 8 f2) 1 9 hp2.2.1) rfl rfl rfl rfl (Nat.le_refl _) ?_; rintro rs w' ⟨F3, rfl, hp3, ⟨rfl, ⟨n1, n2⟩, n3⟩ | rfl⟩)
  all_goals first | omega | exact Or.inl rfl | exact Or.inr rfl | exact ⟨F1, A 3, A 8, rfl, hp1.h, hr, hn, Or.inr rfl⟩ | exact ⟨F2, A 3, f2, rfl, (hp1.tr hp2).h, hr, hn2, Or.inr rfl⟩ | exact ⟨F3, A 3, f2, rfl, ((hp1.tr hp2).tr hp3).h, hr, hn2, Or.inr rfl⟩ | (show 0 ≤ 5 + A 3 2; omega) | (show 5 + A 3 2 < 67; omega) | skip
  refine ⟨F3, kk_up (kk_up (A 3) (5 + A 3 2).toNat (F3 13)) 2 _, f2, rfl, ((hp1.tr hp2).tr hp3).h, ?_, hn2, Or.inl ⟨rfl, fun g => by have := n3 g; have := (hp1.tr hp2).2.2; omega⟩⟩
  show mm_rH (kk_up (kk_up (A 3) (5 + A 3 2).toNat (F3 13)) 2 (kk_i2 0 (kk_up (A 3) (5 + A 3 2).toNat (F3 13) 2) 1))
  rw [kk_up_ne (show 2 ≠ (5 + A 3 2).toNat by omega), kk_add (by omega)]
  exact mm_rH_chp hr t1 n1 n2
