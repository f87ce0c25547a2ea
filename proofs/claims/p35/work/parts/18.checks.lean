/-! THE ENGINE, 17: each instruction of the tables is as the tables' words have it -/
def en_tyX (ci : Nat) : Nat → FieldType := match ci with
  | 0 => tyX0
  | 1 => tyX1
  | 2 => tyX2
  | 3 => tyX3
  | 4 => tyX4
  | 5 => tyX5
  | 6 => tyX6
  | 7 => tyX7
  | 8 => tyX8
  | 9 => tyX9
  | 10 => tyX10
  | _ => tyX11
theorem en_lays_ok : ∀ ci, ci < 12 → ∀ k, k < (en_clT ci).2.2 → en_wi (19, 0, 0, ci, k) = true := by decide +kernel
theorem en_cl_ok : ∀ ci, ci < 12 → en_cl[ci]? = some (en_clT ci) ∧ (en_clT ci).1 = en_on ci := by
  intro ci h
  match ci, h with
  | 0, _ => exact ⟨rfl, rfl⟩
  | 1, _ => exact ⟨rfl, rfl⟩
  | 2, _ => exact ⟨rfl, rfl⟩
  | 3, _ => exact ⟨rfl, rfl⟩
  | 4, _ => exact ⟨rfl, rfl⟩
  | 5, _ => exact ⟨rfl, rfl⟩
  | 6, _ => exact ⟨rfl, rfl⟩
  | 7, _ => exact ⟨rfl, rfl⟩
  | 8, _ => exact ⟨rfl, rfl⟩
  | 9, _ => exact ⟨rfl, rfl⟩
  | 10, _ => exact ⟨rfl, rfl⟩
  | 11, _ => exact ⟨rfl, rfl⟩
  | k + 12, h => omega
theorem en_ciX (ci : Nat) (h : ci < 12) : en_ci en_gw ci (en_clT ci).1 (en_clT ci).2.1 (en_clT ci).2.2 (en_tyX ci) := by
  refine ⟨(en_cl_ok ci h).1, fun w hw => ?_, ?_, ?_⟩
  · obtain ⟨k, hk, rfl⟩ := List.mem_map.mp hw
    exact en_wi_ok (q := (19, 0, 0, ci, k)) (en_lays_ok ci h k (List.mem_range.mp hk))
  · match ci, h with
    | 0, _ => exact tyX0_ok
    | 1, _ => exact tyX1_ok
    | 2, _ => exact tyX2_ok
    | 3, _ => exact tyX3_ok
    | 4, _ => exact tyX4_ok
    | 5, _ => exact tyX5_ok
    | 6, _ => exact tyX6_ok
    | 7, _ => exact tyX7_ok
    | 8, _ => exact tyX8_ok
    | 9, _ => exact tyX9_ok
    | 10, _ => exact tyX10_ok
    | 11, _ => exact tyX11_ok
    | k + 12, h => omega
  · match ci, h with
    | 0, _ => exact nmX0
    | 1, _ => exact nmX1
    | 2, _ => exact nmX2
    | 3, _ => exact nmX3
    | 4, _ => exact nmX4
    | 5, _ => exact nmX5
    | 6, _ => exact nmX6
    | 7, _ => exact nmX7
    | 8, _ => exact nmX8
    | 9, _ => exact nmX9
    | 10, _ => exact nmX10
    | 11, _ => exact nmX11
    | k + 12, h => omega
def en_strB (tn x k : Nat) : Bool := (Nat.beq k 0 && (Nat.beq tn 6 && Nat.beq x 19)) || ((Nat.beq k 1 && (Nat.beq tn 10 && Nat.beq x 324)) || (Nat.beq k 2 && (Nat.beq tn 10 && Nat.beq x 338)))
theorem en_strB_ok {tn x k : Nat} (h : en_strB tn x k = true) : en_strK (en_on tn) x k := by
  unfold en_strB at h
  simp only [Bool.or_eq_true, Bool.and_eq_true] at h
  rcases h with ⟨h1, h2, h3⟩ | ⟨h1, h2, h3⟩ | ⟨h1, h2, h3⟩
  · rw [show tn = 6 from Nat.eq_of_beq_eq_true h2]; exact Or.inl ⟨Nat.eq_of_beq_eq_true h1, rfl, Nat.eq_of_beq_eq_true h3⟩
  · rw [show tn = 10 from Nat.eq_of_beq_eq_true h2]; exact Or.inr (Or.inl ⟨Nat.eq_of_beq_eq_true h1, rfl, Nat.eq_of_beq_eq_true h3⟩)
  · rw [show tn = 10 from Nat.eq_of_beq_eq_true h2]; exact Or.inr (Or.inr ⟨Nat.eq_of_beq_eq_true h1, rfl, Nat.eq_of_beq_eq_true h3⟩)
def en_fin (tn : Nat) (nm : String) (a b : Nat) : Bool := cond ((en_clT a).2.1 b).2.2.2 (decide (nm = "<init>") && decide (((en_clT a).2.1 b).1 = en_on tn)) true
def en_chkL (tn : Nat) (nm : String) (i : Instr) (a b k : Nat) : Bool := match i with
  | .ldc x => en_strB tn x a
  | .ldc_w x => cond (Nat.beq b 0) (en_wi (3, tn, x, a, 0)) (en_strB tn x a)
  | .ldc2_w x => en_wi (4, tn, x, a, 0)
  | .getfield x => cond (Nat.blt a 12) (Nat.blt b (en_clT a).2.2 && en_wi (0, tn, x, a, b)) (cond (Nat.beq b 0) (en_wi (7, tn, x, 0, 0)) (en_wi (7, tn, x, 1, 0)))
  | .putfield x => Nat.blt a 12 && (Nat.blt b (en_clT a).2.2 && (en_wi (0, tn, x, a, b) && (en_kt k (en_tyX a b) && en_fin tn nm a b)))
  | .getstatic x => cond (Nat.beq a 0) (en_wi (7, tn, x, 2, 0)) (cond (Nat.beq a 1) (en_wi (7, tn, x, 3, 0)) (cond (Nat.beq a 2) (Nat.beq tn 2 && Nat.beq x 109) true))
  | .new x => cond (Nat.beq k 0) (Nat.blt a 12 && (Nat.beq b (en_clT a).2.2 && (en_wi (2, tn, x, a, 0) && (en_wi (9, 0, 0, a, b) && en_wi (8, 0, 0, a, 0))))) true
  | .newarray t => match t with
    | .int => en_wi (14, 0, 0, 0, 0)
    | .boolean => en_wi (14, 0, 0, 1, 0)
    | .long => en_wi (14, 0, 0, 2, 0)
    | _ => true
  | .anewarray x => en_wi (2, tn, x, en_ac a, 0)
  | .invokespecial x => cond (Nat.beq k 0) (en_wi (5, tn, x, 0, 0)) true
  | .invokestatic x => cond (Nat.beq k 7) (cond (Nat.beq a 0) (en_wi (6, tn, x, 0, 0)) (cond (Nat.beq a 1) (en_wi (21, tn, x, 0, 0)) (en_wi (25, tn, x, 0, 0)))) true
  | _ => true
theorem en_dl_ok : ∀ ci, ci < 12 → en_dl ci = (List.range (en_clT ci).2.2).map (fun k => en_df (en_tyX ci k)) ∧ ∀ k, k < (en_clT ci).2.2 → en_dfok (en_tyX ci k) = true := by decide +kernel
theorem en_glob : en_wi (15, 0, 0, 0, 0) = true ∧ en_wi (16, 0, 0, 0, 0) = true ∧ en_wi (17, 0, 0, 0, 0) = true ∧ en_wi (18, 0, 0, 0, 0) = true ∧ en_wi (20, 0, 0, 0, 0) = true := by decide +kernel
theorem en_glob2 : en_wi (22, 0, 0, 0, 0) = true ∧ en_wi (23, 0, 0, 0, 0) = true ∧ en_wi (24, 0, 0, 0, 0) = true ∧ en_wi (26, 0, 0, 0, 0) = true ∧ en_wi (27, 0, 0, 0, 0) = true := by decide +kernel
theorem en_ac_on (a : Nat) : en_on (en_ac a) = en_an a := by
  match a with
  | 0 => rfl
  | k + 1 => rfl
theorem en_c00 {a b : Bool} (h : cond (Nat.beq 0 0) a b = true) : a = true := h
theorem en_c10 {a b : Bool} (h : cond (Nat.beq 1 0) a b = true) : b = true := h
theorem en_c11 {a b : Bool} (h : cond (Nat.beq 1 1) a b = true) : a = true := h
theorem en_c77 {a b : Bool} (h : cond (Nat.beq 7 7) a b = true) : a = true := h
theorem en_c22 {a b : Bool} (h : cond (Nat.beq 2 2) a b = true) : a = true := h
theorem en_c21 {a b : Bool} (h : cond (Nat.beq 2 1) a b = true) : b = true := h
theorem en_chkL_ok {y : MethodName} {tn : Nat} {i : Instr} {a b k : Nat} (hy : y.cls = en_on tn) (h : en_chkL tn y.name i a b k = true) : en_lnk y i a b k := by
  cases i with
  | ldc x => show en_strK y.cls x a; rw [hy]; exact en_strB_ok h
  | ldc_w x =>
    have h : cond (Nat.beq b 0) (en_wi (3, tn, x, a, 0)) (en_strB tn x a) = true := h
    refine ⟨fun hb => ?_, fun hb => ?_⟩
    · subst hb; rw [hy]; exact en_wi_ok (q := (3, tn, x, a, 0)) (en_c00 h)
    · cases hb0 : Nat.beq b 0 with
      | true => exact absurd (Nat.eq_of_beq_eq_true hb0) hb
      | false => rw [hb0, cond_false] at h; rw [hy]; exact en_strB_ok h
  | ldc2_w x => show Cond.constantLong y.cls x (Int64.ofNat a) ∈ en_gw; rw [hy]; exact en_wi_ok (q := (4, tn, x, a, 0)) h
  | getfield x =>
    have h : cond (Nat.blt a 12) (Nat.blt b (en_clT a).2.2 && en_wi (0, tn, x, a, b)) (cond (Nat.beq b 0) (en_wi (7, tn, x, 0, 0)) (en_wi (7, tn, x, 1, 0))) = true := h
    refine ⟨fun ha => ?_, fun ha => ?_⟩
    · rw [show Nat.blt a 12 = true from Nat.ble_eq_true_of_le ha, cond_true, Bool.and_eq_true] at h
      refine ⟨_, _, _, _, en_ciX a ha, en_blt h.1, ?_⟩
      rw [hy]
      exact en_wi_ok (q := (0, tn, x, a, b)) h.2
    · have ha2 : Nat.blt a 12 = false := by
        cases h9 : Nat.blt a 12 with
        | true => have := en_blt h9; omega
        | false => rfl
      rw [ha2, cond_false] at h
      refine ⟨fun hb => ?_, fun hb => ?_⟩
      · subst hb; rw [hy]; exact en_wi_ok (q := (7, tn, x, 0, 0)) (en_c00 h)
      · cases hb0 : Nat.beq b 0 with
        | true => exact absurd (Nat.eq_of_beq_eq_true hb0) hb
        | false => rw [hb0, cond_false] at h; rw [hy]; exact en_wi_ok (q := (7, tn, x, 1, 0)) h
  | putfield x =>
    have h : (Nat.blt a 12 && (Nat.blt b (en_clT a).2.2 && (en_wi (0, tn, x, a, b) && (en_kt k (en_tyX a b) && en_fin tn y.name a b)))) = true := h
    simp only [Bool.and_eq_true] at h
    obtain ⟨h1, h2, h3, h4, h5⟩ := h
    refine ⟨_, _, _, _, en_ciX a (en_blt h1), en_blt h2, ?_, h4, ?_⟩
    · rw [hy]; exact en_wi_ok (q := (0, tn, x, a, b)) h3
    · unfold en_fin at h5
      cases hf : ((en_clT a).2.1 b).2.2.2 with
      | false => exact Or.inl rfl
      | true =>
        rw [hf, cond_true, Bool.and_eq_true, decide_eq_true_eq, decide_eq_true_eq] at h5
        exact Or.inr ⟨rfl, h5.1, by rw [hy]; exact h5.2⟩
  | getstatic x =>
    have h : cond (Nat.beq a 0) (en_wi (7, tn, x, 2, 0)) (cond (Nat.beq a 1) (en_wi (7, tn, x, 3, 0)) (cond (Nat.beq a 2) (Nat.beq tn 2 && Nat.beq x 109) true)) = true := h
    refine ⟨fun ha => ?_, fun ha => ?_, fun ha => ?_⟩
    · subst ha; rw [hy]; exact en_wi_ok (q := (7, tn, x, 2, 0)) (en_c00 h)
    · subst ha; rw [hy]; exact en_wi_ok (q := (7, tn, x, 3, 0)) (en_c11 (en_c10 h))
    · subst ha
      have h : (Nat.beq tn 2 && Nat.beq x 109) = true := h
      rw [Bool.and_eq_true] at h
      rw [hy, show tn = 2 from Nat.eq_of_beq_eq_true h.1]
      exact ⟨rfl, Nat.eq_of_beq_eq_true h.2⟩
  | new x =>
    intro hk
    subst hk
    have h : (Nat.blt a 12 && (Nat.beq b (en_clT a).2.2 && (en_wi (2, tn, x, a, 0) && (en_wi (9, 0, 0, a, b) && en_wi (8, 0, 0, a, 0))))) = true := en_c00 (b := true) h
    simp only [Bool.and_eq_true] at h
    obtain ⟨h1, h2, h3, h4, h5⟩ := h
    have ha := en_blt h1
    have hb : b = (en_clT a).2.2 := Nat.eq_of_beq_eq_true h2
    subst hb
    obtain ⟨d1, d2⟩ := en_dl_ok a ha
    have hon := (en_cl_ok a ha).2
    refine ⟨_, _, _, en_ciX a ha, d1, d2, ?_, ?_, ?_⟩
    · rw [hy, hon]; exact en_wi_ok (q := (2, tn, x, a, 0)) h3
    · rw [hon]; exact en_wi_ok (q := (9, 0, 0, a, (en_clT a).2.2)) h4
    · rw [hon]; exact en_wi_ok (q := (8, 0, 0, a, 0)) h5
  | newarray t =>
    cases t with
    | int => exact en_wi_ok (q := (14, 0, 0, 0, 0)) h
    | boolean => exact en_wi_ok (q := (14, 0, 0, 1, 0)) h
    | long => exact en_wi_ok (q := (14, 0, 0, 2, 0)) h
    | _ => trivial
  | anewarray x =>
    show Cond.classLink y.cls x (en_an a) ∈ en_gw
    rw [hy, ← en_ac_on]
    exact en_wi_ok (q := (2, tn, x, en_ac a, 0)) h
  | invokespecial x =>
    intro hk
    subst hk
    refine ⟨?_, en_wi_ok (q := (15, 0, 0, 0, 0)) en_glob.1, en_wi_ok (q := (16, 0, 0, 0, 0)) en_glob.2.1⟩
    rw [hy]
    have h : cond (Nat.beq 0 0) (en_wi (5, tn, x, 0, 0)) true = true := h
    exact en_wi_ok (q := (5, tn, x, 0, 0)) (en_c00 h)
  | invokestatic x =>
    intro hk
    subst hk
    have h : cond (Nat.beq 7 7) (cond (Nat.beq a 0) (en_wi (6, tn, x, 0, 0)) (cond (Nat.beq a 1) (en_wi (21, tn, x, 0, 0)) (en_wi (25, tn, x, 0, 0)))) true = true := h
    have h := en_c77 h
    refine ⟨fun ha => ⟨?_, en_wi_ok (q := (17, 0, 0, 0, 0)) en_glob.2.2.1, en_wi_ok (q := (18, 0, 0, 0, 0)) en_glob.2.2.2.1, en_wi_ok (q := (20, 0, 0, 0, 0)) en_glob.2.2.2.2⟩, fun ha => ⟨?_, en_wi_ok (q := (22, 0, 0, 0, 0)) en_glob2.1, en_wi_ok (q := (23, 0, 0, 0, 0)) en_glob2.2.1, en_wi_ok (q := (24, 0, 0, 0, 0)) en_glob2.2.2.1⟩, fun ha => ⟨?_, en_wi_ok (q := (26, 0, 0, 0, 0)) en_glob2.2.2.2.1, en_wi_ok (q := (23, 0, 0, 0, 0)) en_glob2.2.1, en_wi_ok (q := (27, 0, 0, 0, 0)) en_glob2.2.2.2.2⟩⟩
    · subst ha
      rw [hy]
      exact en_wi_ok (q := (6, tn, x, 0, 0)) (en_c00 h)
    · subst ha
      rw [hy]
      exact en_wi_ok (q := (21, tn, x, 0, 0)) (en_c11 (en_c10 h))
    · have b0 : Nat.beq a 0 = false := by
        cases h9 : Nat.beq a 0 with
        | true => have := Nat.eq_of_beq_eq_true h9; omega
        | false => rfl
      have b1 : Nat.beq a 1 = false := by
        cases h9 : Nat.beq a 1 with
        | true => have := Nat.eq_of_beq_eq_true h9; omega
        | false => rfl
      rw [b0, b1, cond_false, cond_false] at h
      rw [hy]
      exact en_wi_ok (q := (25, tn, x, 0, 0)) h
  | _ => trivial
