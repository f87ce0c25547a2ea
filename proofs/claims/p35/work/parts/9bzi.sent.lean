/-! SENTENCES: what is read -/
/-- a fault and its place, or where it goes on and how many ones there are -/
abbrev sn_R : Type := Except (Int × Int) (Int × Int)
def sn_b (x : Option sn_R) (g : Int → Int → Option sn_R) : Option sn_R := match x with
  | none => none
  | some (.error e) => some (.error e)
  | some (.ok s) => g s.1 s.2
section SN
variable (T : Int → Nat → Int) (N : Int → Int) (fm : Int → Except (Int × Int) Int)
def sn_m (c k : Int) : sn_R := sp_b (fm c) (fun _ => .ok (N c, k))
noncomputable def sn_c (c k : Int) : sn_R := if T c 3 = 60 ∨ T c 3 = 61 ∨ T c 3 = 62 then sp_b (sp_num T (N c) 0 999) (fun _ => .ok (N (N c), k)) else .error (1, T c 4)
abbrev sn_beg (c : Int) : Prop := T c 3 = 40 ∨ (15 ≤ T c 6 ∧ T c 6 ≤ 23)
/-- modes: 0 a condition, 1 what is behind its first row, 2 a row, 3 what is behind its first one, 4 a one -/
abbrev sn_X : Type := Nat → Int → Int → Int → Option sn_R
def sn_s0 (X : sn_X) (w c k : Int) : Option sn_R := sn_b (X 2 w c k) (fun c k => X 1 w c k)
def sn_s1 (X : sn_X) (w c k : Int) : Option sn_R := if T c 6 = 13 then sn_b (X 2 w (N c) k) (fun c k => X 1 w c k) else some (.ok (c, k))
def sn_s2 (X : sn_X) (w c k : Int) : Option sn_R := sn_b (X 4 w c k) (fun c k => X 3 w c k)
def sn_s3 (X : sn_X) (w c k : Int) : Option sn_R := if T c 6 = 14 then sn_b (X 4 w (N c) k) (fun c k => X 3 w c k) else some (.ok (c, k))
noncomputable def sn_s4 (X : sn_X) (w c k : Int) : Option sn_R := if ¬ sn_beg T c then some (.error (1, T c 4)) else if 20 ≤ k ∨ 8 ≤ w then some (.error (4, T c 4)) else if T c 3 = 40 then sn_b (X 0 (w + 1) (N c) (k + 1)) (fun c k => if T c 3 = 41 then some (.ok (N c, k)) else some (.error (1, T c 4))) else if T c 6 = 15 then X 4 (w + 1) (N c) (k + 1) else if T c 6 ≤ 18 then some (.ok (N c, k + 1)) else if T c 6 ≤ 20 then some (sn_m N fm (N c) (k + 1)) else some (sn_c T N (N c) (k + 1))
noncomputable def sn_st (X : sn_X) : sn_X := fun m => match m with
  | 0 => sn_s0 X
  | 1 => sn_s1 T N X
  | 2 => sn_s2 X
  | 3 => sn_s3 T N X
  | _ => sn_s4 T N fm X
noncomputable def sn : Nat → sn_X
  | 0 => fun _ _ _ _ => none
  | f + 1 => sn_st T N fm (sn f)
end SN
theorem sn_b_up {x y : Option sn_R} {g h : Int → Int → Option sn_R} {r : sn_R} (hx : ∀ r, x = some r → y = some r) (hg : ∀ c k r, g c k = some r → h c k = some r) (e : sn_b x g = some r) : sn_b y h = some r := by
  cases x with
  | none => cases e
  | some q =>
    rw [hx q rfl]
    cases q with
    | error z => exact e
    | ok s => exact hg _ _ _ e
section SNE
variable {T : Int → Nat → Int} {N : Int → Int} {fm : Int → Except (Int × Int) Int}
theorem sn_mono {X Y : sn_X} (hX : ∀ m w c k r, X m w c k = some r → Y m w c k = some r) (m : Nat) (w c k : Int) (r : sn_R) (h : sn_st T N fm X m w c k = some r) : sn_st T N fm Y m w c k = some r := by
  match m, h with
  | 0, h => exact sn_b_up (fun r q => hX _ _ _ _ _ q) (fun c k r q => hX _ _ _ _ _ q) h
  | 1, h =>
    have h : sn_s1 T N X w c k = some r := h
    show sn_s1 T N Y w c k = some r
    unfold sn_s1 at h ⊢
    by_cases h1 : T c 6 = 13
    · rw [if_pos h1] at h ⊢
      exact sn_b_up (fun r q => hX _ _ _ _ _ q) (fun c k r q => hX _ _ _ _ _ q) h
    · rw [if_neg h1] at h ⊢
      exact h
  | 2, h => exact sn_b_up (fun r q => hX _ _ _ _ _ q) (fun c k r q => hX _ _ _ _ _ q) h
  | 3, h =>
    have h : sn_s3 T N X w c k = some r := h
    show sn_s3 T N Y w c k = some r
    unfold sn_s3 at h ⊢
    by_cases h1 : T c 6 = 14
    · rw [if_pos h1] at h ⊢
      exact sn_b_up (fun r q => hX _ _ _ _ _ q) (fun c k r q => hX _ _ _ _ _ q) h
    · rw [if_neg h1] at h ⊢
      exact h
  | m + 4, h =>
    have h : sn_s4 T N fm X w c k = some r := h
    show sn_s4 T N fm Y w c k = some r
    unfold sn_s4 at h ⊢
    by_cases h1 : ¬ sn_beg T c
    · rw [if_pos h1] at h ⊢; exact h
    rw [if_neg h1] at h ⊢
    by_cases h2 : 20 ≤ k ∨ 8 ≤ w
    · rw [if_pos h2] at h ⊢; exact h
    rw [if_neg h2] at h ⊢
    by_cases h3 : T c 3 = 40
    · rw [if_pos h3] at h ⊢
      exact sn_b_up (fun r q => hX _ _ _ _ _ q) (fun c k r q => q) h
    rw [if_neg h3] at h ⊢
    by_cases h4 : T c 6 = 15
    · rw [if_pos h4] at h ⊢
      exact hX _ _ _ _ _ h
    rw [if_neg h4] at h ⊢
    exact h
theorem sn_up : ∀ (f : Nat) (m : Nat) (w c k : Int) (r : sn_R), sn T N fm f m w c k = some r → sn T N fm (f + 1) m w c k = some r
  | 0, _, _, _, _, _, h => by cases h
  | f + 1, m, w, c, k, r, h => sn_mono (fun m w c k r q => sn_up f m w c k r q) m w c k r h
theorem sn_le {f g m : Nat} {w c k : Int} {r : sn_R} (h : sn T N fm f m w c k = some r) (hg : f ≤ g) : sn T N fm g m w c k = some r := by
  obtain ⟨j, rfl⟩ := Nat.exists_eq_add_of_le hg
  clear hg
  induction j with
  | zero => exact h
  | succ j ih => exact sn_up _ _ _ _ _ _ ih
/-- it is read so -/
def sn_e (T : Int → Nat → Int) (N : Int → Int) (fm : Int → Except (Int × Int) Int) (m : Nat) (w c k : Int) (r : sn_R) : Prop := ∃ f, sn T N fm f m w c k = some r
theorem sn_e.det {m : Nat} {w c k : Int} {r r' : sn_R} (h : sn_e T N fm m w c k r) (h' : sn_e T N fm m w c k r') : r = r' := by
  obtain ⟨f, h⟩ := h
  obtain ⟨g, h'⟩ := h'
  have e1 := sn_le h (Nat.le_max_left f g)
  have e2 := sn_le h' (Nat.le_max_right f g)
  rw [e1] at e2
  exact Option.some.inj e2
theorem sn_e.b {x : Nat → Option sn_R} {g : Nat → Int → Int → Option sn_R} {s : Int × Int} {r : sn_R} (hx : ∃ f, ∀ j, f ≤ j → x j = some (.ok s)) (hg : ∃ f, ∀ j, f ≤ j → g j s.1 s.2 = some r) : ∃ f, ∀ j, f ≤ j → sn_b (x j) (g j) = some r := by
  obtain ⟨f, hx⟩ := hx
  obtain ⟨f', hg⟩ := hg
  refine ⟨max f f', fun j hj => ?_⟩
  rw [hx j (by omega)]
  exact hg j (by omega)
theorem sn_e.ev {m : Nat} {w c k : Int} {r : sn_R} (h : sn_e T N fm m w c k r) : ∃ f, ∀ j, f ≤ j → sn T N fm j m w c k = some r := by
  obtain ⟨f, h⟩ := h
  exact ⟨f, fun j hj => sn_le h hj⟩
theorem sn_e.z {m : Nat} {w c k : Int} {r : sn_R} (hx : ∃ f, ∀ j, f ≤ j → sn T N fm (j + 1) m w c k = some r) : sn_e T N fm m w c k r := by
  obtain ⟨f, h⟩ := hx
  exact ⟨f + 1, h f (Nat.le_refl _)⟩
theorem sn_be {x : Option sn_R} {g : Int → Int → Option sn_R} {e : Int × Int} (h : x = some (.error e)) : sn_b x g = some (.error e) := by rw [h]; rfl
variable {w c k : Int} {s : Int × Int} {e : Int × Int} {r : sn_R}
theorem sn_0 (h : sn_e T N fm 2 w c k (.ok s)) (h' : sn_e T N fm 1 w s.1 s.2 r) : sn_e T N fm 0 w c k r := sn_e.z (sn_e.b (x := fun j => sn T N fm j 2 w c k) (g := fun j c k => sn T N fm j 1 w c k) h.ev h'.ev)
theorem sn_0e (h : sn_e T N fm 2 w c k (.error e)) : sn_e T N fm 0 w c k (.error e) := by
  obtain ⟨f, h⟩ := h
  exact ⟨f + 1, sn_be h⟩
theorem sn_2 (h : sn_e T N fm 4 w c k (.ok s)) (h' : sn_e T N fm 3 w s.1 s.2 r) : sn_e T N fm 2 w c k r := sn_e.z (sn_e.b (x := fun j => sn T N fm j 4 w c k) (g := fun j c k => sn T N fm j 3 w c k) h.ev h'.ev)
theorem sn_2e (h : sn_e T N fm 4 w c k (.error e)) : sn_e T N fm 2 w c k (.error e) := by
  obtain ⟨f, h⟩ := h
  exact ⟨f + 1, sn_be h⟩
theorem sn_1 (h13 : T c 6 = 13) (h : sn_e T N fm 2 w (N c) k (.ok s)) (h' : sn_e T N fm 1 w s.1 s.2 r) : sn_e T N fm 1 w c k r := by
  obtain ⟨f, q⟩ := sn_e.b (x := fun j => sn T N fm j 2 w (N c) k) (g := fun j c k => sn T N fm j 1 w c k) h.ev h'.ev
  exact ⟨f + 1, (if_pos h13).trans (q f (Nat.le_refl _))⟩
theorem sn_1e (h13 : T c 6 = 13) (h : sn_e T N fm 2 w (N c) k (.error e)) : sn_e T N fm 1 w c k (.error e) := by
  obtain ⟨f, h⟩ := h
  exact ⟨f + 1, (if_pos h13).trans (sn_be h)⟩
theorem sn_1n (h13 : T c 6 ≠ 13) : sn_e T N fm 1 w c k (.ok (c, k)) := ⟨1, if_neg h13⟩
theorem sn_3 (h13 : T c 6 = 14) (h : sn_e T N fm 4 w (N c) k (.ok s)) (h' : sn_e T N fm 3 w s.1 s.2 r) : sn_e T N fm 3 w c k r := by
  obtain ⟨f, q⟩ := sn_e.b (x := fun j => sn T N fm j 4 w (N c) k) (g := fun j c k => sn T N fm j 3 w c k) h.ev h'.ev
  exact ⟨f + 1, (if_pos h13).trans (q f (Nat.le_refl _))⟩
theorem sn_3e (h13 : T c 6 = 14) (h : sn_e T N fm 4 w (N c) k (.error e)) : sn_e T N fm 3 w c k (.error e) := by
  obtain ⟨f, h⟩ := h
  exact ⟨f + 1, (if_pos h13).trans (sn_be h)⟩
theorem sn_3n (h13 : T c 6 ≠ 14) : sn_e T N fm 3 w c k (.ok (c, k)) := ⟨1, if_neg h13⟩
theorem sn_41 (h : ¬ sn_beg T c) : sn_e T N fm 4 w c k (.error (1, T c 4)) := ⟨1, if_pos h⟩
theorem sn_44 (h : sn_beg T c) (h2 : 20 ≤ k ∨ 8 ≤ w) : sn_e T N fm 4 w c k (.error (4, T c 4)) := ⟨1, (if_neg (fun g => g h)).trans (if_pos h2)⟩
theorem sn_4b (h : sn_beg T c) (h2 : ¬ (20 ≤ k ∨ 8 ≤ w)) (h3 : T c 3 = 40) (q : sn_e T N fm 0 (w + 1) (N c) (k + 1) (.ok s)) (h4 : T s.1 3 = 41) : sn_e T N fm 4 w c k (.ok (N s.1, s.2)) := by
  obtain ⟨f, q⟩ := q
  refine ⟨f + 1, (if_neg (fun g => g h)).trans ((if_neg h2).trans ((if_pos h3).trans ?_))⟩
  rw [q]
  exact if_pos h4
theorem sn_4b1 (h : sn_beg T c) (h2 : ¬ (20 ≤ k ∨ 8 ≤ w)) (h3 : T c 3 = 40) (q : sn_e T N fm 0 (w + 1) (N c) (k + 1) (.ok s)) (h4 : T s.1 3 ≠ 41) : sn_e T N fm 4 w c k (.error (1, T s.1 4)) := by
  obtain ⟨f, q⟩ := q
  refine ⟨f + 1, (if_neg (fun g => g h)).trans ((if_neg h2).trans ((if_pos h3).trans ?_))⟩
  rw [q]
  exact if_neg h4
theorem sn_4be (h : sn_beg T c) (h2 : ¬ (20 ≤ k ∨ 8 ≤ w)) (h3 : T c 3 = 40) (q : sn_e T N fm 0 (w + 1) (N c) (k + 1) (.error e)) : sn_e T N fm 4 w c k (.error e) := by
  obtain ⟨f, q⟩ := q
  exact ⟨f + 1, (if_neg (fun g => g h)).trans ((if_neg h2).trans ((if_pos h3).trans (sn_be q)))⟩
theorem sn_4n (h : sn_beg T c) (h2 : ¬ (20 ≤ k ∨ 8 ≤ w)) (h3 : T c 3 ≠ 40) (h4 : T c 6 = 15) (q : sn_e T N fm 4 (w + 1) (N c) (k + 1) r) : sn_e T N fm 4 w c k r := by
  obtain ⟨f, q⟩ := q
  exact ⟨f + 1, (if_neg (fun g => g h)).trans ((if_neg h2).trans ((if_neg h3).trans ((if_pos h4).trans q)))⟩
theorem sn_4p (h : sn_beg T c) (h2 : ¬ (20 ≤ k ∨ 8 ≤ w)) (h3 : T c 3 ≠ 40) (h4 : 16 ≤ T c 6) (h5 : T c 6 ≤ 18) : sn_e T N fm 4 w c k (.ok (N c, k + 1)) := ⟨1, (if_neg (fun g => g h)).trans ((if_neg h2).trans ((if_neg h3).trans ((if_neg (show ¬ T c 6 = 15 by omega)).trans (if_pos h5))))⟩
theorem sn_4m (h : sn_beg T c) (h2 : ¬ (20 ≤ k ∨ 8 ≤ w)) (h3 : T c 3 ≠ 40) (h4 : 19 ≤ T c 6) (h5 : T c 6 ≤ 20) : sn_e T N fm 4 w c k (sn_m N fm (N c) (k + 1)) := ⟨1, (if_neg (fun g => g h)).trans ((if_neg h2).trans ((if_neg h3).trans ((if_neg (show ¬ T c 6 = 15 by omega)).trans ((if_neg (show ¬ T c 6 ≤ 18 by omega)).trans (if_pos h5)))))⟩
theorem sn_4c (h : sn_beg T c) (h2 : ¬ (20 ≤ k ∨ 8 ≤ w)) (h3 : T c 3 ≠ 40) (h4 : 21 ≤ T c 6) : sn_e T N fm 4 w c k (sn_c T N (N c) (k + 1)) := ⟨1, (if_neg (fun g => g h)).trans ((if_neg h2).trans ((if_neg h3).trans ((if_neg (show ¬ T c 6 = 15 by omega)).trans ((if_neg (show ¬ T c 6 ≤ 18 by omega)).trans (if_neg (show ¬ T c 6 ≤ 20 by omega))))))⟩
end SNE
/-- what a sentence's reader gives in the end -/
noncomputable def sn_top (T : Int → Nat → Int) (x : sn_R) : Except (Int × Int) Int := match x with
  | .error e => .error e
  | .ok s => if T s.1 3 = 1 then .ok s.2 else .error (1, T s.1 4)
section TK
variable {tn mo : Int} {a : Int → Int} {res : Nat → Int} {c : Int}
theorem tk_sign (h : 40 ≤ tk_ob tn mo a res c 3) : tk_ob tn mo a res c 6 = -1 := by
  have q := tk_ob_T tn mo a res c
  unfold tk_T at q
  rcases q with ⟨-, q3, -, -, q6⟩ | ⟨-, -, q3, -, -, q6⟩ | ⟨-, -, -, ⟨-, q⟩ | ⟨-, -, q6, -⟩⟩
  · exact q6
  · exact q6
  · obtain ⟨L, D, nm, nu, -, -, ⟨-, -, q3, -⟩ | ⟨-, q6, -⟩⟩ := q
    · omega
    · exact q6
  · exact q6
theorem tk_word (h : 0 ≤ tk_ob tn mo a res c 6) : tk_ob tn mo a res c 3 = 2 := by
  have q := tk_ob_T tn mo a res c
  unfold tk_T at q
  rcases q with ⟨-, q3, -, -, q6⟩ | ⟨-, -, q3, -, -, q6⟩ | ⟨-, -, -, ⟨-, q⟩ | ⟨-, -, q6, -⟩⟩
  · omega
  · omega
  · obtain ⟨L, D, nm, nu, -, -, ⟨-, -, q3, -⟩ | ⟨-, q6, -⟩⟩ := q
    · exact q3
    · omega
  · omega
end TK
