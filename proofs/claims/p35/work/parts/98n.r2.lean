/-! READING, 2: tokens, the class's -/
def tk_bl (c : Int) : Bool := decide (c = 32) || decide (c = 10)
def tk_lt (c : Int) : Bool := decide (97 ≤ c) && decide (c ≤ 122)
def tk_dg (c : Int) : Bool := decide (48 ≤ c) && decide (c ≤ 57)
def tk_sg (c : Int) : Bool := decide (c = 59) || (decide (c = 60) || (decide (c = 61) || (decide (c = 62) || (decide (c = 40) || decide (c = 41)))))
theorem tk_bl_t {c : Int} : tk_bl c = true ↔ c = 32 ∨ c = 10 := by simp [tk_bl]
theorem tk_lt_t {c : Int} : tk_lt c = true ↔ 97 ≤ c ∧ c ≤ 122 := by simp [tk_lt]
theorem tk_dg_t {c : Int} : tk_dg c = true ↔ 48 ≤ c ∧ c ≤ 57 := by simp [tk_dg]
theorem tk_sg_t {c : Int} : tk_sg c = true ↔ c = 59 ∨ c = 60 ∨ c = 61 ∨ c = 62 ∨ c = 40 ∨ c = 41 := by simp [tk_sg]
theorem tk_no {b : Bool} {p : Prop} (h : b = true ↔ p) (hp : ¬ p) : b = false := by
  cases b with
  | false => rfl
  | true => exact absurd (h.mp rfl) hp
/-- an answer that is yes where b is true -/
def tk_A (b : Bool) (rs : List en_V) : Prop := (rs = [(0, 1)] ∧ b = true) ∨ (rs = [(0, 0)] ∧ b = false)
set_option maxRecDepth 100000 in
set_option maxHeartbeats 4000000 in
theorem rr_xBlank (l : Launch) (d : Nat) (c : Int) : kk_Ctr l d en_t_X6_isBlank [(0, c)] [] (fun rs w' => w' = [] ∧ tk_A (tk_bl c) rs) := by
  refine kk_ctr en_hM (List.mem_of_getElem? (i := 127) rfl) rfl (Nat.le_of_ble_eq_true rfl) (fun K hC => ?_)
  repeat' first | refine hC.gn [] _ rfl rfl ?_ | refine And.intro ?_ ?_ | exact True.intro | refine hC.iadd [] rfl rfl (by first | omega | (simp only [Int.reduceToNat] at *; omega)) ?_ | refine hC.isub [] rfl rfl (by first | omega | (simp only [Int.reduceToNat] at *; omega)) ?_ | refine hC.imul [] rfl rfl (by first | omega | (simp only [Int.reduceToNat] at *; omega)) ?_ | refine hC.iinc [] rfl rfl rfl rfl (by first | omega | (simp only [Int.reduceToNat] at *; omega)) ?_ | refine hC.go [] _ rfl rfl ?_ | (intro h; first | exact (h rfl).elim | (exfalso; cases h; done) | (dsimp only [kk_cP, kk_cN] at h) | skip)
  all_goals first | rfl | exact Or.inl rfl | exact Or.inr rfl | exact Or.inl ⟨rfl, tk_bl_t.mpr (by omega)⟩ | exact Or.inr ⟨rfl, tk_no tk_bl_t (by omega)⟩
set_option maxRecDepth 100000 in
set_option maxHeartbeats 4000000 in
theorem rr_xLetter (l : Launch) (d : Nat) (c : Int) : kk_Ctr l d en_t_X6_isLetter [(0, c)] [] (fun rs w' => w' = [] ∧ tk_A (tk_lt c) rs) := by
  refine kk_ctr en_hM (List.mem_of_getElem? (i := 128) rfl) rfl (Nat.le_of_ble_eq_true rfl) (fun K hC => ?_)
  repeat' first | refine hC.gn [] _ rfl rfl ?_ | refine And.intro ?_ ?_ | exact True.intro | refine hC.iadd [] rfl rfl (by first | omega | (simp only [Int.reduceToNat] at *; omega)) ?_ | refine hC.isub [] rfl rfl (by first | omega | (simp only [Int.reduceToNat] at *; omega)) ?_ | refine hC.imul [] rfl rfl (by first | omega | (simp only [Int.reduceToNat] at *; omega)) ?_ | refine hC.iinc [] rfl rfl rfl rfl (by first | omega | (simp only [Int.reduceToNat] at *; omega)) ?_ | refine hC.go [] _ rfl rfl ?_ | (intro h; first | exact (h rfl).elim | (exfalso; cases h; done) | (dsimp only [kk_cP, kk_cN] at h) | skip)
  all_goals first | rfl | exact Or.inl rfl | exact Or.inr rfl | exact Or.inl ⟨rfl, tk_lt_t.mpr (by omega)⟩ | exact Or.inr ⟨rfl, tk_no tk_lt_t (by omega)⟩
set_option maxRecDepth 100000 in
set_option maxHeartbeats 4000000 in
theorem rr_xDigit (l : Launch) (d : Nat) (c : Int) : kk_Ctr l d en_t_X6_isDigit [(0, c)] [] (fun rs w' => w' = [] ∧ tk_A (tk_dg c) rs) := by
  refine kk_ctr en_hM (List.mem_of_getElem? (i := 129) rfl) rfl (Nat.le_of_ble_eq_true rfl) (fun K hC => ?_)
  repeat' first | refine hC.gn [] _ rfl rfl ?_ | refine And.intro ?_ ?_ | exact True.intro | refine hC.iadd [] rfl rfl (by first | omega | (simp only [Int.reduceToNat] at *; omega)) ?_ | refine hC.isub [] rfl rfl (by first | omega | (simp only [Int.reduceToNat] at *; omega)) ?_ | refine hC.imul [] rfl rfl (by first | omega | (simp only [Int.reduceToNat] at *; omega)) ?_ | refine hC.iinc [] rfl rfl rfl rfl (by first | omega | (simp only [Int.reduceToNat] at *; omega)) ?_ | refine hC.go [] _ rfl rfl ?_ | (intro h; first | exact (h rfl).elim | (exfalso; cases h; done) | (dsimp only [kk_cP, kk_cN] at h) | skip)
  all_goals first | rfl | exact Or.inl rfl | exact Or.inr rfl | exact Or.inl ⟨rfl, tk_dg_t.mpr (by omega)⟩ | exact Or.inr ⟨rfl, tk_no tk_dg_t (by omega)⟩
set_option maxRecDepth 100000 in
set_option maxHeartbeats 4000000 in
theorem rr_xSign (l : Launch) (d : Nat) (c : Int) : kk_Ctr l d en_t_X6_isSign [(0, c)] [] (fun rs w' => w' = [] ∧ tk_A (tk_sg c) rs) := by
  refine kk_ctr en_hM (List.mem_of_getElem? (i := 131) rfl) rfl (Nat.le_of_ble_eq_true rfl) (fun K hC => ?_)
  repeat' first | refine hC.gn [] _ rfl rfl ?_ | refine And.intro ?_ ?_ | exact True.intro | refine hC.iadd [] rfl rfl (by first | omega | (simp only [Int.reduceToNat] at *; omega)) ?_ | refine hC.isub [] rfl rfl (by first | omega | (simp only [Int.reduceToNat] at *; omega)) ?_ | refine hC.imul [] rfl rfl (by first | omega | (simp only [Int.reduceToNat] at *; omega)) ?_ | refine hC.iinc [] rfl rfl rfl rfl (by first | omega | (simp only [Int.reduceToNat] at *; omega)) ?_ | refine hC.go [] _ rfl rfl ?_ | (intro h; first | exact (h rfl).elim | (exfalso; cases h; done) | (dsimp only [kk_cP, kk_cN] at h) | skip)
  all_goals first | rfl | exact Or.inl rfl | exact Or.inr rfl | exact Or.inl ⟨rfl, tk_sg_t.mpr (by omega)⟩ | exact Or.inr ⟨rfl, tk_no tk_sg_t (by omega)⟩
set_option maxRecDepth 100000 in
set_option maxHeartbeats 4000000 in
theorem rr_xLet (l : Launch) (d : Nat) (x c : Int) (hx : 0 ≤ x ∧ x < 1099511627776) (hc : 97 ≤ c ∧ c ≤ 122) : kk_Ctr l d en_t_X6_withLetter [(2, x), (0, c)] [] (fun rs w' => w' = [] ∧ rs = [(2, 32 * x + (c - 96))]) := by
  refine kk_ctr en_hM (List.mem_of_getElem? (i := 119) rfl) rfl (Nat.le_of_ble_eq_true rfl) (fun K hC => ?_)
  repeat' first | refine hC.gn [] _ rfl rfl ?_ | refine And.intro ?_ ?_ | exact True.intro | refine hC.iadd [] rfl rfl (by first | omega | (simp only [Int.reduceToNat] at *; omega)) ?_ | refine hC.isub [] rfl rfl (by first | omega | (simp only [Int.reduceToNat] at *; omega)) ?_ | refine hC.imul [] rfl rfl (by first | omega | (simp only [Int.reduceToNat] at *; omega)) ?_ | refine hC.iinc [] rfl rfl rfl rfl (by first | omega | (simp only [Int.reduceToNat] at *; omega)) ?_ | refine hC.go [] _ rfl rfl ?_ | (intro h; first | exact (h rfl).elim | (exfalso; cases h; done) | (dsimp only [kk_cP, kk_cN] at h) | skip)
  all_goals first | rfl | skip
  have q := tk_shl x.toNat (c - 96).toNat (by omega) (by omega)
  rw [show ((x.toNat : Nat) : Int) = x by omega, show (((c - 96).toNat : Nat) : Int) = c - 96 by omega] at q
  rw [← q]
  congr 3
  omega
/-- the first place from p on that is no blank -/
def tk_sk (a : Int → Int) : Nat → Int → Int
  | 0, p => p
  | k + 1, p => cond (tk_bl (a p)) (tk_sk a k (p + 1)) p
theorem tk_sk_y {a : Int → Int} {k : Nat} {p : Int} (h : tk_bl (a p) = true) : tk_sk a (k + 1) p = tk_sk a k (p + 1) := by
  show cond (tk_bl (a p)) (tk_sk a k (p + 1)) p = _
  rw [h]
  rfl
theorem tk_sk_n {a : Int → Int} {k : Nat} {p : Int} (h : tk_bl (a p) = false) : tk_sk a k p = p := by
  cases k with
  | zero => rfl
  | succ k =>
    show cond (tk_bl (a p)) (tk_sk a k (p + 1)) p = _
    rw [h]
    rfl
/-- where a run of letters and digits ends -/
def tk_an (c : Int) : Bool := tk_lt c || tk_dg c
def tk_en (a : Int → Int) : Nat → Int → Int
  | 0, p => p
  | k + 1, p => cond (tk_an (a p)) (tk_en a k (p + 1)) p
theorem tk_en_y {a : Int → Int} {k : Nat} {p : Int} (h : tk_an (a p) = true) : tk_en a (k + 1) p = tk_en a k (p + 1) := by
  show cond (tk_an (a p)) (tk_en a k (p + 1)) p = _
  rw [h]
  rfl
theorem tk_en_n {a : Int → Int} {k : Nat} {p : Int} (h : tk_an (a p) = false) : tk_en a k p = p := by
  cases k with
  | zero => rfl
  | succ k =>
    show cond (tk_an (a p)) (tk_en a k (p + 1)) p = _
    rw [h]
    rfl
