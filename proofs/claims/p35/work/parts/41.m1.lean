/-! THE REFERENCE, 1: its world; small methods -/
/-- its fields: F by the field's number -/
def mm_fs (F : Nat → Int) : List en_V := [(0, F 0), (4, 1), (0, F 2), (0, F 3), (0, F 4), (0, F 5), (0, F 6), (0, F 7), (0, F 8), (0, F 9), (0, F 10), (0, F 11), (2, F 12), (0, F 13), (4, 2), (4, 3), (4, 4), (4, 5), (4, 6), (4, 7), (4, 8), (4, 9), (4, 10), (0, F 23), (0, F 24), (0, F 25), (0, F 26), (0, F 27), (0, F 28), (4, 11), (4, 12), (0, F 31), (0, F 32), (2, F 33), (2, F 34), (0, F 35), (4, 13), (0, F 37), (4, 14), (4, 15), (0, F 40), (0, F 41), (4, 16), (0, F 43), (0, F 44), (0, F 45), (0, F 46)]
/-- its world: A by the place -/
def mm_w (F : Nat → Int) (A : Nat → Nat → Int) : List kk_C := [(0, 11, mm_fs F, fun _ => 0), (1, 940, [], A 1), (1, 392, [], A 2), (1, 67, [], A 3), (1, 784, [], A 4), (1, 664, [], A 5), (1, 83, [], A 6), (2, 22, [], A 7), (2, 22, [], A 8), (2, 44, [], A 9), (4, 2, [], A 10), (1, 4, [], A 11), (1, 4, [], A 12), (1, 96, [], A 13), (1, 120, [], A 14), (1, 4, [], A 15), (1, 240, [], A 16)]
def mm_up (A : Nat → Nat → Int) (k : Nat) (f : Nat → Int) : Nat → Nat → Int := fun j => cond (Nat.beq j k) f (A j)
set_option maxRecDepth 100000 in
set_option maxHeartbeats 4000000 in
theorem mm_isIn (l : Launch) (d : Nat) (v a b : Int) : kk_Ctr l d en_t_X11_isIn [(0, v), (0, a), (0, b)] [] (fun rs w' => w' = [] ∧ ((rs = [(0, 1)] ∧ a ≤ v ∧ v ≤ b) ∨ (rs = [(0, 0)] ∧ ¬ (a ≤ v ∧ v ≤ b)))) := by
  refine kk_ctr en_hM (List.mem_of_getElem? (i := 229) rfl) rfl (Nat.le_of_ble_eq_true rfl) (fun K hC => ?_)
  repeat' first | refine hC.gn [] _ rfl rfl ?_ | refine And.intro ?_ ?_ | exact True.intro | refine hC.iadd [] rfl rfl (by first | omega | (simp only [Int.reduceToNat] at *; omega)) ?_ | refine hC.isub [] rfl rfl (by first | omega | (simp only [Int.reduceToNat] at *; omega)) ?_ | refine hC.imul [] rfl rfl (by first | omega | (simp only [Int.reduceToNat] at *; omega)) ?_ | refine hC.iinc [] rfl rfl rfl rfl (by first | omega | (simp only [Int.reduceToNat] at *; omega)) ?_ | refine hC.go [] _ rfl rfl ?_ | (intro h; first | exact (h rfl).elim | (exfalso; cases h; done) | (dsimp only [kk_cP, kk_cN] at h) | skip)
  all_goals first | rfl | exact Or.inl rfl | exact Or.inr rfl | omega | (simp only [Int.reduceToNat] at *; omega) | (exact Or.inl ⟨rfl, by omega, by omega⟩) | (exact Or.inr ⟨rfl, by omega⟩)
set_option maxRecDepth 100000 in
set_option maxHeartbeats 4000000 in
theorem mm_take (l : Launch) (d : Nat) (F : Nat → Int) (A : Nat → Nat → Int) : kk_Ctr l d en_t_X11_take [(4, 0)] (mm_w F A) (fun rs w' => w' = mm_w (kk_up F 2 0) A ∧ rs = [(0, F 2)]) := by
  refine kk_ctr en_hM (List.mem_of_getElem? (i := 239) rfl) rfl (Nat.le_of_ble_eq_true rfl) (fun K hC => ?_)
  repeat' first | refine hC.gn [] _ rfl rfl ?_ | refine And.intro ?_ ?_ | exact True.intro | refine hC.iadd [] rfl rfl (by first | omega | (simp only [Int.reduceToNat] at *; omega)) ?_ | refine hC.isub [] rfl rfl (by first | omega | (simp only [Int.reduceToNat] at *; omega)) ?_ | refine hC.imul [] rfl rfl (by first | omega | (simp only [Int.reduceToNat] at *; omega)) ?_ | refine hC.iinc [] rfl rfl rfl rfl (by first | omega | (simp only [Int.reduceToNat] at *; omega)) ?_ | refine hC.go [] _ rfl rfl ?_ | (intro h; first | exact (h rfl).elim | (exfalso; cases h; done) | (dsimp only [kk_cP, kk_cN] at h) | skip)
  all_goals first | rfl | exact Or.inl rfl | exact Or.inr rfl | omega | (simp only [Int.reduceToNat] at *; omega)
set_option maxRecDepth 100000 in
set_option maxHeartbeats 4000000 in
theorem mm_has (l : Launch) (d : Nat) (v a : Int) : kk_Ctr l d en_t_X11_has [(0, v), (0, a)] [] (fun rs w' => w' = [] ∧ (rs = [(0, 1)] ∨ rs = [(0, 0)])) := by
  refine kk_ctr en_hM (List.mem_of_getElem? (i := 247) rfl) rfl (Nat.le_of_ble_eq_true rfl) (fun K hC => ?_)
  repeat' first | refine hC.gn [] _ rfl rfl ?_ | refine And.intro ?_ ?_ | exact True.intro | refine hC.iadd [] rfl rfl (by first | omega | (simp only [Int.reduceToNat] at *; omega)) ?_ | refine hC.isub [] rfl rfl (by first | omega | (simp only [Int.reduceToNat] at *; omega)) ?_ | refine hC.imul [] rfl rfl (by first | omega | (simp only [Int.reduceToNat] at *; omega)) ?_ | refine hC.iinc [] rfl rfl rfl rfl (by first | omega | (simp only [Int.reduceToNat] at *; omega)) ?_ | refine hC.go [] _ rfl rfl ?_ | (intro h; first | exact (h rfl).elim | (exfalso; cases h; done) | (dsimp only [kk_cP, kk_cN] at h) | skip)
  all_goals first | rfl | exact Or.inl rfl | exact Or.inr rfl | omega | (simp only [Int.reduceToNat] at *; omega)
set_option maxRecDepth 100000 in
set_option maxHeartbeats 4000000 in
theorem mm_least (l : Launch) (d : Nat) (a b : Int) : kk_Ctr l d en_t_X11_least [(0, a), (0, b)] [] (fun rs w' => w' = [] ∧ rs = [(0, min a b)]) := by
  refine kk_ctr en_hM (List.mem_of_getElem? (i := 265) rfl) rfl (Nat.le_of_ble_eq_true rfl) (fun K hC => ?_)
  repeat' first | refine hC.gn [] _ rfl rfl ?_ | refine And.intro ?_ ?_ | exact True.intro | refine hC.iadd [] rfl rfl (by first | omega | (simp only [Int.reduceToNat] at *; omega)) ?_ | refine hC.isub [] rfl rfl (by first | omega | (simp only [Int.reduceToNat] at *; omega)) ?_ | refine hC.imul [] rfl rfl (by first | omega | (simp only [Int.reduceToNat] at *; omega)) ?_ | refine hC.iinc [] rfl rfl rfl rfl (by first | omega | (simp only [Int.reduceToNat] at *; omega)) ?_ | refine hC.go [] _ rfl rfl ?_ | (intro h; first | exact (h rfl).elim | (exfalso; cases h; done) | (dsimp only [kk_cP, kk_cN] at h) | skip)
  all_goals first | rfl | exact Or.inl rfl | exact Or.inr rfl | omega | (simp only [Int.reduceToNat] at *; omega) | (rw [show min a b = a by omega]) | (rw [show min a b = b by omega])
set_option maxRecDepth 100000 in
set_option maxHeartbeats 4000000 in
theorem mm_isDigit (l : Launch) (d : Nat) (c : Int) : kk_Ctr l d en_t_X11_isDigit [(0, c)] [] (fun rs w' => w' = [] ∧ ((rs = [(0, 1)] ∧ 48 ≤ c ∧ c ≤ 57) ∨ (rs = [(0, 0)] ∧ ¬ (48 ≤ c ∧ c ≤ 57)))) := by
  refine kk_ctr en_hM (List.mem_of_getElem? (i := 283) rfl) rfl (Nat.le_of_ble_eq_true rfl) (fun K hC => ?_)
  repeat' first | refine hC.gn [] _ rfl rfl ?_ | refine And.intro ?_ ?_ | exact True.intro | refine hC.iadd [] rfl rfl (by first | omega | (simp only [Int.reduceToNat] at *; omega)) ?_ | refine hC.isub [] rfl rfl (by first | omega | (simp only [Int.reduceToNat] at *; omega)) ?_ | refine hC.imul [] rfl rfl (by first | omega | (simp only [Int.reduceToNat] at *; omega)) ?_ | refine hC.iinc [] rfl rfl rfl rfl (by first | omega | (simp only [Int.reduceToNat] at *; omega)) ?_ | refine hC.go [] _ rfl rfl ?_ | (intro h; first | exact (h rfl).elim | (exfalso; cases h; done) | (dsimp only [kk_cP, kk_cN] at h) | skip)
  all_goals first | rfl | exact Or.inl rfl | exact Or.inr rfl | omega | (simp only [Int.reduceToNat] at *; omega) | (exact Or.inl ⟨rfl, by omega, by omega⟩) | (exact Or.inr ⟨rfl, by omega⟩)
set_option maxRecDepth 100000 in
set_option maxHeartbeats 4000000 in
theorem mm_isLetter (l : Launch) (d : Nat) (c : Int) : kk_Ctr l d en_t_X11_isLetter [(0, c)] [] (fun rs w' => w' = [] ∧ ((rs = [(0, 1)] ∧ 97 ≤ c ∧ c ≤ 122) ∨ (rs = [(0, 0)] ∧ ¬ (97 ≤ c ∧ c ≤ 122)))) := by
  refine kk_ctr en_hM (List.mem_of_getElem? (i := 282) rfl) rfl (Nat.le_of_ble_eq_true rfl) (fun K hC => ?_)
  repeat' first | refine hC.gn [] _ rfl rfl ?_ | refine And.intro ?_ ?_ | exact True.intro | refine hC.iadd [] rfl rfl (by first | omega | (simp only [Int.reduceToNat] at *; omega)) ?_ | refine hC.isub [] rfl rfl (by first | omega | (simp only [Int.reduceToNat] at *; omega)) ?_ | refine hC.imul [] rfl rfl (by first | omega | (simp only [Int.reduceToNat] at *; omega)) ?_ | refine hC.iinc [] rfl rfl rfl rfl (by first | omega | (simp only [Int.reduceToNat] at *; omega)) ?_ | refine hC.go [] _ rfl rfl ?_ | (intro h; first | exact (h rfl).elim | (exfalso; cases h; done) | (dsimp only [kk_cP, kk_cN] at h) | skip)
  all_goals first | rfl | exact Or.inl rfl | exact Or.inr rfl | omega | (simp only [Int.reduceToNat] at *; omega) | (exact Or.inl ⟨rfl, by omega, by omega⟩) | (exact Or.inr ⟨rfl, by omega⟩)
set_option maxRecDepth 100000 in
set_option maxHeartbeats 4000000 in
theorem mm_refuse (l : Launch) (d : Nat) (F : Nat → Int) (A : Nat → Nat → Int) : kk_Ctr l d en_t_X11_refuse [(4, 0)] (mm_w F A) (fun rs w' => w' = mm_w (kk_up F 0 1) A ∧ rs = [(0, 0)]) := by
  refine kk_ctr en_hM (List.mem_of_getElem? (i := 212) rfl) rfl (Nat.le_of_ble_eq_true rfl) (fun K hC => ?_)
  repeat' first | refine hC.gn [] _ rfl rfl ?_ | refine And.intro ?_ ?_ | exact True.intro | refine hC.iadd [] rfl rfl (by first | omega | (simp only [Int.reduceToNat] at *; omega)) ?_ | refine hC.isub [] rfl rfl (by first | omega | (simp only [Int.reduceToNat] at *; omega)) ?_ | refine hC.imul [] rfl rfl (by first | omega | (simp only [Int.reduceToNat] at *; omega)) ?_ | refine hC.iinc [] rfl rfl rfl rfl (by first | omega | (simp only [Int.reduceToNat] at *; omega)) ?_ | refine hC.go [] _ rfl rfl ?_ | (intro h; first | exact (h rfl).elim | (exfalso; cases h; done) | (dsimp only [kk_cP, kk_cN] at h) | skip)
  all_goals first | rfl | exact Or.inl rfl | exact Or.inr rfl | omega | (simp only [Int.reduceToNat] at *; omega)
set_option maxRecDepth 100000 in
set_option maxHeartbeats 4000000 in
theorem mm_end (l : Launch) (d : Nat) (F : Nat → Int) (A : Nat → Nat → Int) (n : Int) : kk_Ctr l d en_t_X11_end [(4, 0), (0, n)] (mm_w F A) (fun rs w' => (0 ≤ n ∧ n ≤ F 2 ∧ w' = mm_w (kk_up (kk_up F 0 0) 2 n) A ∧ rs = [(0, 1)]) ∨ (¬ (0 ≤ n ∧ n ≤ F 2) ∧ w' = mm_w (kk_up F 0 0) A ∧ rs = [(0, 0)])) := by
  refine kk_ctr en_hM (List.mem_of_getElem? (i := 169) rfl) rfl (Nat.le_of_ble_eq_true rfl) (fun K hC => ?_)
  repeat' first | refine hC.gn [] _ rfl rfl ?_ | refine And.intro ?_ ?_ | exact True.intro | refine hC.iadd [] rfl rfl (by first | omega | (simp only [Int.reduceToNat] at *; omega)) ?_ | refine hC.isub [] rfl rfl (by first | omega | (simp only [Int.reduceToNat] at *; omega)) ?_ | refine hC.imul [] rfl rfl (by first | omega | (simp only [Int.reduceToNat] at *; omega)) ?_ | refine hC.iinc [] rfl rfl rfl rfl (by first | omega | (simp only [Int.reduceToNat] at *; omega)) ?_ | refine hC.go [] _ rfl rfl ?_ | (intro h; first | exact (h rfl).elim | (exfalso; cases h; done) | (dsimp only [kk_cP, kk_cN] at h) | skip)
  all_goals first | rfl | exact Or.inl rfl | exact Or.inr rfl | omega | (simp only [Int.reduceToNat] at *; omega) | (exact Or.inl ⟨by omega, by omega, rfl, rfl⟩) | (exact Or.inr ⟨by omega, rfl, rfl⟩)
set_option maxRecDepth 100000 in
set_option maxHeartbeats 4000000 in
theorem mm_isDeed (l : Launch) {d : Nat} (F : Nat → Int) (A : Nat → Nat → Int) (x : Int) (h0 : 0 ≤ A 2 0 ∧ A 2 0 ≤ 8) : kk_Ctr l (d + 1) en_t_X11_isDeed [(4, 0), (0, x)] (mm_w F A) (fun rs w' => w' = mm_w F A ∧ ((rs = [(0, 1)] ∧ 0 ≤ x ∧ x < A 2 0) ∨ (rs = [(0, 0)] ∧ ¬ (0 ≤ x ∧ x < A 2 0)))) := by
  refine kk_ctr en_hM (List.mem_of_getElem? (i := 216) rfl) rfl (Nat.le_of_ble_eq_true rfl) (fun K hC => ?_)
  repeat' first | refine hC.gn [] _ rfl rfl ?_ | refine And.intro ?_ ?_ | exact True.intro | refine hC.iadd [] rfl rfl (by first | omega | (simp only [Int.reduceToNat] at *; omega)) ?_ | refine hC.isub [] rfl rfl (by first | omega | (simp only [Int.reduceToNat] at *; omega)) ?_ | refine hC.imul [] rfl rfl (by first | omega | (simp only [Int.reduceToNat] at *; omega)) ?_ | refine hC.iinc [] rfl rfl rfl rfl (by first | omega | (simp only [Int.reduceToNat] at *; omega)) ?_ | refine hC.go [] _ rfl rfl ?_ | (intro h; first | exact (h rfl).elim | (exfalso; cases h; done) | (dsimp only [kk_cP, kk_cN] at h) | skip) | (refine hC.call (mm_isIn l _ _ _ _) [] rfl rfl rfl rfl rfl rfl trivial (Nat.le_refl _) ?_; rintro rs w' ⟨rfl, ⟨rfl, h1, h2⟩ | ⟨rfl, h1⟩⟩)
  all_goals try simp only [Int.reduceToNat] at h1
  all_goals try simp only [Int.reduceToNat] at h2
  all_goals first | rfl | exact Or.inl rfl | exact Or.inr rfl | omega | (simp only [Int.reduceToNat] at *; omega) | (exact Or.inl ⟨rfl, by omega, by omega⟩) | (exact Or.inr ⟨rfl, by omega⟩)
