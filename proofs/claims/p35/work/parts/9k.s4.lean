/-! THE CLAIM, 4: from the engine to the calculus -/
def st_k (a : en_V) : Bool := Nat.beq a.1 0 || (Nat.beq a.1 2 || (Nat.beq a.1 4 || Nat.beq a.1 6))
section STV
variable {kc : Nat → Nat} {ρ : List Int32} {ws : va_W} {tys : List (ClassId × FieldType)}
theorem st_v {a : en_V} {v : Value} (h : en_v kc ρ ws a v) (ha : st_k a = true) : en_v kc [] ws a v := by
  obtain ⟨t, n⟩ := a
  unfold st_k at ha
  simp only [Bool.or_eq_true] at ha
  rcases ha with ha | ha | ha | ha
  · cases Nat.eq_of_beq_eq_true ha; exact h
  · cases Nat.eq_of_beq_eq_true ha; exact h
  · cases Nat.eq_of_beq_eq_true ha; exact h
  · cases Nat.eq_of_beq_eq_true ha; exact h
theorem st_f2 : ∀ {fs : List en_V} {vs : List Value}, en_f2 (en_v kc ρ ws) fs vs → fs.all st_k = true → en_f2 (en_v kc [] ws) fs vs
  | [], [], _, _ => trivial
  | a :: r, v :: q, h, ha => by
    rw [List.all_cons, Bool.and_eq_true] at ha
    exact ⟨st_v h.1 ha.1, st_f2 h.2 ha.2⟩
  | [], _ :: _, h, _ => h.elim
  | _ :: _, [], h, _ => h.elim
theorem st_l2 : ∀ {fs : en_L} {vs : List (Nat × Value)}, en_f2 (en_lv kc ρ ws) fs vs → fs.all (fun q => st_k q.2) = true → en_f2 (en_lv kc [] ws) fs vs
  | [], [], _, _ => trivial
  | a :: r, v :: q, h, ha => by
    rw [List.all_cons, Bool.and_eq_true] at ha
    exact ⟨⟨h.1.1, st_v h.1.2 ha.1⟩, st_l2 h.2 ha.2⟩
  | [], _ :: _, h, _ => h.elim
  | _ :: _, [], h, _ => h.elim
def st_ck (s : cc_P) (c : en_C) (o : Nat → Int) : Bool := match s.1 with
  | 0 => Nat.beq c.1 0 && (Nat.beq s.2.1 c.2.1 && (decide (cc_fl o 0 s.2.2 = c.2.2.2.1) && c.2.2.2.1.all st_k))
  | 1 => Nat.beq c.1 1 && Nat.beq s.2.1 c.2.1
  | 2 => Nat.beq c.1 2 && Nat.beq s.2.1 c.2.1
  | 3 => Nat.beq c.1 3 && (decide (en_an s.2.1 = en_an c.2.1) && (decide (cc_fl o 0 s.2.2 = c.2.2.2.1) && c.2.2.2.1.all st_k))
  | 4 => Nat.beq c.1 4 && Nat.beq s.2.1 c.2.1
  | _ => false
/-- what the engine says of numbers -/
def st_bd (c : en_C) (a : Nat → Int) : Prop := match c.1 with
  | 1 => ∀ j, j < c.2.1 → (en_el c.2.2.1 c.2.2.2.2 j).1 ≤ a j ∧ a j ≤ (en_el c.2.2.1 c.2.2.2.2 j).2
  | 2 => c.2.2.1 = (0, 0) → ∀ j, j < c.2.1 → a j = (en_el (0, 0) c.2.2.2.2 j).1
  | 4 => ∀ j, j < c.2.1 → (en_el c.2.2.1 c.2.2.2.2 j).1 ≤ a j ∧ a j ≤ (en_el c.2.2.1 c.2.2.2.2 j).2
  | _ => True
theorem st_cell {s : cc_P} {c : en_C} {o : Nat → Int} {e : va_E} (h : st_ck s c o = true) (hc : en_c kc ρ ws tys c e) : ∃ a : Nat → Int, kk_c kc ws tys (cc_cl s o a) e ∧ st_bd c a := by
  obtain ⟨k, n, f⟩ := s
  obtain ⟨ck, cn, cd, cf, ce⟩ := c
  match k, h with
  | 0, h =>
    have h : (Nat.beq ck 0 && (Nat.beq n cn && (decide (cc_fl o 0 f = cf) && cf.all st_k))) = true := h
    simp only [Bool.and_eq_true, decide_eq_true_eq] at h
    obtain ⟨h1, h2, h3, h4⟩ := h
    cases Nat.eq_of_beq_eq_true h1
    cases Nat.eq_of_beq_eq_true h2
    obtain ⟨fs, g1, g2⟩ := hc
    exact ⟨fun _ => 0, ⟨fs, g1, by rw [show (cc_cl (0, n, f) o (fun _ => 0)).2.2.1 = cc_fl o 0 f from rfl, h3]; exact st_f2 g2 h4⟩, trivial⟩
  | 1, h =>
    have h : (Nat.beq ck 1 && Nat.beq n cn) = true := h
    rw [Bool.and_eq_true] at h
    cases Nat.eq_of_beq_eq_true h.1
    cases Nat.eq_of_beq_eq_true h.2
    obtain ⟨cA, g, t, g1, g2, g3⟩ := hc
    exact ⟨fun j => (g j).toInt, ⟨cA, g, t, g1, g2, fun j _ => rfl⟩, fun j hj => g3 j hj⟩
  | 2, h =>
    have h : (Nat.beq ck 2 && Nat.beq n cn) = true := h
    rw [Bool.and_eq_true] at h
    cases Nat.eq_of_beq_eq_true h.1
    cases Nat.eq_of_beq_eq_true h.2
    obtain ⟨cA, g, t, g1, g2, g3⟩ := hc
    exact ⟨fun j => (g j).toInt, ⟨cA, g, t, g1, g2, fun j _ => rfl⟩, fun h j hj => g3 h j hj⟩
  | 3, h =>
    have h : (Nat.beq ck 3 && (decide (en_an n = en_an cn) && (decide (cc_fl o 0 f = cf) && cf.all st_k))) = true := h
    simp only [Bool.and_eq_true, decide_eq_true_eq] at h
    obtain ⟨h1, h2, h3, h4⟩ := h
    cases Nat.eq_of_beq_eq_true h1
    obtain ⟨cA, g, t, g1, g2, g3⟩ := hc
    refine ⟨fun _ => 0, ⟨cA, g, t, ?_, ?_, fun j a ha => ?_⟩, trivial⟩
    · show e = .inl (cA, (cc_fl o 0 f).length, .inr (.inr (.inr (.inr g))))
      rw [h3]; exact g1
    · show tys[t]? = some (cA, .object (en_an n))
      rw [h2]; exact g2
    · have ha : cf[j]? = some a := by rw [← h3]; exact ha
      exact st_v (g3 j a ha) (List.all_eq_true.mp h4 a (List.mem_of_getElem? ha))
  | 4, h =>
    have h : (Nat.beq ck 4 && Nat.beq n cn) = true := h
    rw [Bool.and_eq_true] at h
    cases Nat.eq_of_beq_eq_true h.1
    cases Nat.eq_of_beq_eq_true h.2
    obtain ⟨cA, g, t, g1, g2, g3⟩ := hc
    exact ⟨fun j => (g j).toInt, ⟨cA, g, t, g1, g2, fun j _ => rfl⟩, fun j hj => g3 j hj⟩
  | k + 5, h => cases h
def st_all (O : Nat → Nat → Int) : List cc_P → List en_C → Nat → Bool
  | [], [], _ => true
  | s :: r, c :: q, k => st_ck s c (O k) && st_all O r q (k + 1)
  | _, _, _ => false
theorem st_all_at {O : Nat → Nat → Int} : ∀ {S : List cc_P} {w : List en_C} {p : Nat}, st_all O S w p = true → S.length = w.length ∧ ∀ k s c, S[k]? = some s → w[k]? = some c → st_ck s c (O (p + k)) = true
  | [], [], _, _ => ⟨rfl, fun k s c h => by cases h⟩
  | s :: r, c :: q, p, h => by
    unfold st_all at h
    rw [Bool.and_eq_true] at h
    obtain ⟨h1, h2⟩ := st_all_at h.2
    refine ⟨by simp [h1], fun k s' c' hs hc => ?_⟩
    cases k with
    | zero =>
      cases hs
      cases hc
      exact h.1
    | succ k =>
      have := h2 k s' c' hs hc
      rw [show p + 1 + k = p + (k + 1) by omega] at this
      exact this
  | [], _ :: _, _, h => by cases h
  | _ :: _, [], _, h => by cases h
theorem st_w {S : List cc_P} {w : List en_C} {O : Nat → Nat → Int} (hck : st_all O S w 0 = true) (hw : en_w kc ρ ws tys w) : ∃ A : Nat → Nat → Int, kk_w kc ws tys (cc_mk S 0 O A) ∧ ∀ k c, w[k]? = some c → st_bd c (A k) := by
  obtain ⟨hl, hat⟩ := st_all_at hck
  have hx : ∀ k : Nat, ∃ a : Nat → Int, ∀ s c, S[k]? = some s → w[k]? = some c → (∃ (q : Nat) (e : va_E), ws[k]? = some (q, e) ∧ kk_c kc ws tys (cc_cl s (O k) a) e) ∧ st_bd c a := by
    intro k
    cases hs : S[k]? with
    | none => exact ⟨fun _ => 0, fun s c h => by cases h⟩
    | some s =>
      cases hc : w[k]? with
      | none => exact ⟨fun _ => 0, fun s c _ h => by cases h⟩
      | some c =>
        obtain ⟨q, e, h1, h2⟩ := hw.2 k c hc
        have h3 := hat k s c hs hc
        rw [Nat.zero_add] at h3
        obtain ⟨a, h4, h5⟩ := st_cell h3 h2
        refine ⟨a, fun s' c' hs' hc' => ?_⟩
        cases hs'
        cases hc'
        exact ⟨⟨q, e, h1, h4⟩, h5⟩
  obtain ⟨A, hA⟩ := Classical.axiomOfChoice hx
  refine ⟨A, ⟨by rw [cc_mk_len, hl, hw.1], fun k cl hk => ?_⟩, fun k c hc => ?_⟩
  · rw [cc_mk_get] at hk
    cases hs : S[k]? with
    | none => rw [hs] at hk; cases hk
    | some s =>
      rw [hs] at hk
      cases hk
      rw [Nat.zero_add]
      have hk2 : k < w.length := by rw [← hl]; exact (List.getElem?_eq_some_iff.mp hs).1
      exact (hA k s _ hs (List.getElem?_eq_getElem hk2)).1
  · have hk2 : k < S.length := by rw [hl]; exact (List.getElem?_eq_some_iff.mp hc).1
    exact (hA k _ c (List.getElem?_eq_getElem hk2) hc).2
end STV
def st_O : Nat → Nat → Int := fun k b => match en_w2[k]? with
  | some c => (c.2.2.2.1.getD b (0, 0)).2
  | none => 0
theorem st_ok : st_all st_O cp_LW en_w2 0 = true := by decide +kernel
/-! at the start all is as it must be -/
section STH
variable {A : Nat → Nat → Int}
theorem st_z (hb : ∀ k c, en_w2[k]? = some c → st_bd c (A k)) {k n : Nat} {fs : List en_V} (h : en_w2[k]? = some (1, n, (0, 0), fs, [])) {j : Nat} (hj : j < n) : A k j = 0 := by
  have q : (0 : Int) ≤ A k j ∧ A k j ≤ 0 := hb k _ h j hj
  omega
theorem st_hs (hb : ∀ k c, en_w2[k]? = some c → st_bd c (A k)) (b : Nat) (h1 : en_w2[b + 1]? = some (1, 3, (0, 0), [], [])) (h6 : en_w2[b + 6]? = some (1, 32, (0, 0), [], [])) (h7 : st_O b 7 = 0) : hs_ok b st_O A := by
  have z0 := st_z hb h1 (j := 0) (by decide)
  have z1 := st_z hb h1 (j := 1) (by decide)
  have z2 := st_z hb h1 (j := 2) (by decide)
  exact ⟨⟨⟨by omega, by omega⟩, ⟨by omega, by omega⟩, ⟨by omega, by omega⟩⟩, Or.inl h7, fun j hj => by rw [st_z hb h6 hj]; exact Int.le_refl _⟩
theorem st_lf (hb : ∀ k c, en_w2[k]? = some c → st_bd c (A k)) (b : Nat) (h6 : en_w2[b + 6]? = some (1, 32, (0, 0), [], [])) (h8 : st_O b 8 = 0) (h9 : st_O b 9 = 0) (h10 : st_O b 10 = -1) : lf_ok b st_O A := by
  refine ⟨?_, fun j hj => by rw [st_z hb h6 hj]; exact Int.le_refl _⟩
  rw [h8, h9, h10]
  exact ⟨by decide, by decide, Or.inl ⟨rfl, by decide, by decide⟩⟩
theorem st_se {A : Nat → Nat → Int} (b : Nat) (h4 : st_O b 4 = 0) : se_ok b st_O A := by
  refine ⟨by rw [h4]; exact ⟨by decide, by decide⟩, fun j hj => ?_⟩
  rw [h4] at hj
  exact absurd hj (by omega)
theorem st_H (hb : ∀ k c, en_w2[k]? = some c → st_bd c (A k)) : lw_H (st_O, A) (mm_up (cc_in pW_M A) 20 (fun k => cond (Nat.beq k 0) 0 (-1))) 0 0 0 0 0 0 st_O A := by
  have hG : ∀ g, g ∈ ci_G → cg_ok g.1 g.2 st_O A := by
    intro g hg
    simp only [ci_G, List.mem_cons, List.not_mem_nil, or_false] at hg
    rcases hg with rfl | rfl | rfl | rfl | rfl | rfl | rfl | rfl | rfl | rfl | rfl | rfl | rfl | rfl | rfl | rfl | rfl | rfl | rfl | rfl | rfl | rfl | rfl
    all_goals first | exact st_hs hb _ rfl rfl (by decide +kernel) | exact st_lf hb _ rfl (by decide +kernel) (by decide +kernel) (by decide +kernel) | exact st_se _ (by decide +kernel) | exact (show 0 ≤ st_O 1 1 ∧ st_O 1 1 ≤ 940 by decide +kernel) | exact (show (0 ≤ st_O 35 1 ∧ st_O 35 1 ≤ 7) ∧ (0 ≤ st_O 35 2 ∧ st_O 35 2 ≤ 8) by decide +kernel) | exact (show 0 ≤ st_O 159 6 ∧ st_O 159 6 ≤ 4 by decide +kernel) | exact (show 0 ≤ st_O 166 1 by decide +kernel)
  have n2 : ∀ j, j < 392 → j ≠ 68 → j ≠ 3 → A 170 j = 0 := by
    intro j hj h1 h2
    have q := hb 170 _ (show en_w2[170]? = some (1, 392, (0, 0), [], [(68, ((-1), (-1))), (3, ((-1), (-1)))]) from rfl) j hj
    have e : en_el (0, 0) [(68, ((-1), (-1))), (3, ((-1), (-1)))] j = (0, 0) := by
      unfold en_el en_el en_el
      rw [mm_bne h1, mm_bne h2]
      rfl
    have q : (en_el (0, 0) [(68, ((-1), (-1))), (3, ((-1), (-1)))] j).1 ≤ A 170 j ∧ A 170 j ≤ (en_el (0, 0) [(68, ((-1), (-1))), (3, ((-1), (-1)))] j).2 := q
    rw [e] at q
    have q : (0 : Int) ≤ A 170 j ∧ A 170 j ≤ 0 := q
    omega
  have n68 : A 170 68 = -1 := by
    have q : (-1 : Int) ≤ A 170 68 ∧ A 170 68 ≤ -1 := hb 170 _ (show en_w2[170]? = some (1, 392, (0, 0), [], [(68, ((-1), (-1))), (3, ((-1), (-1)))]) from rfl) 68 (by decide)
    omega
  have n10 : ∀ j, j < 2 → A 178 j = 0 := by
    intro j hj
    have q : (0 : Int) ≤ A 178 j ∧ A 178 j ≤ 0 := hb 178 _ (show en_w2[178]? = some (4, 2, (0, 0), [], []) from rfl) j hj
    omega
  have ng : ∀ g : Nat → Int, (∀ k, k < 240 → g k = 0) → mm_ng g := by
    intro g hg k hk
    have q := hg (4 * k) (by omega)
    exact ⟨fun h => by omega, fun h => by omega, fun h => by omega⟩
  have gd : mm_Gd (A 170) := by
    have z0 := n2 0 (by decide) (by decide) (by decide)
    have z1 := n2 1 (by decide) (by decide) (by decide)
    have z2 := n2 2 (by decide) (by decide) (by decide)
    have z4 := n2 4 (by decide) (by decide) (by decide)
    have z149 := n2 149 (by decide) (by decide) (by decide)
    have z151 := n2 151 (by decide) (by decide) (by decide)
    refine ⟨⟨⟨by omega, by omega, by omega, by omega, by omega, by omega⟩, fun c hc => ?_, fun h => by omega, Or.inl z4⟩, ⟨by omega, by omega, fun c hc => ?_, fun h => by omega, by omega, by omega⟩, by omega, by omega, ng _ (fun k hk => n2 (152 + k) (by omega) (by omega) (by omega))⟩
    · have := n2 (5 + c) (by omega) (by omega) (by omega)
      omega
    · have := n2 (69 + c) (by omega) (by omega) (by omega)
      omega
  refine ⟨⟨hG, by decide +kernel, by decide +kernel, by decide +kernel, ci_fr.rf⟩, ⟨(show 0 ≤ st_O 168 2 ∧ st_O 168 2 ≤ 940 by decide +kernel), ?_⟩, by decide +kernel, n10 0 (by decide), n10 1 (by decide)⟩
  refine ⟨(show 0 ≤ st_O 168 23 ∧ st_O 168 23 ≤ 8 by decide +kernel), (show 0 ≤ st_O 168 31 ∧ st_O 168 31 ≤ 4 by decide +kernel), (show 0 ≤ st_O 168 37 ∧ st_O 168 37 ≤ 96 by decide +kernel), ?_, ?_, ?_, gd, fun j hj => ?_, fun j hj h => absurd (n10 j hj) h, ng _ (fun k hk => st_z hb (show en_w2[184]? = some (1, 240, (0, 0), [], []) from rfl) hk), ⟨fun _ _ => rfl, rfl, rfl, rfl, rfl, (show st_O 168 26 = -1 by decide +kernel), (show st_O 168 35 = -1 by decide +kernel), (show st_O 168 10 = 0 by decide +kernel)⟩⟩
  · intro k hk
    rw [show cc_in pW_M A 7 k = 0 from hb 175 _ (show en_w2[175]? = some (2, 22, (0, 0), [], []) from rfl) rfl k hk]
    decide
  · intro k hk
    rw [show cc_in pW_M A 8 k = 0 from hb 176 _ (show en_w2[176]? = some (2, 22, (0, 0), [], []) from rfl) rfl k hk]
    decide
  · intro k hk
    rw [show cc_in pW_M A 9 k = 0 from hb 177 _ (show en_w2[177]? = some (2, 44, (0, 0), [], []) from rfl) rfl k hk]
    decide
  · exact absurd hj (by rw [show st_O 168 23 = 0 by decide +kernel]; omega)
theorem mn.z {o : Nat → Int} {Ac : Nat → Nat → Int} {N f : Nat → Int} (h : hz0 o Ac) (z : ∀ k, k < 67 → k ≠ 3 → N k = 0) (h3 : N 3 = -1) : mn o Ac N f := (mh.z (F := fun _ => 0) (f := f) h rfl z h3).n (fun _ _ => rfl) (fun _ _ => rfl)
theorem st_rz (hb : ∀ k c, en_w2[k]? = some c → st_bd c (A k)) : rz (A 4) := by
  intro k hk
  have q : A 4 k = (en_el (0, 0) [(23, (492210354, 492210354)), (22, (14339731, 14339731)), (21, (398548, 398548)), (20, (515236, 515236)), (19, (146885, 146885)), (18, (215205, 215205)), (17, (68765860, 68765860)), (16, (4773, 4773)), (15, (14836, 14836)), (14, (1476, 1476)), (13, (498, 498)), (12, (4153, 4153)), (11, (14982420, 14982420)), (10, (146611, 146611)), (9, (212356, 212356)), (8, (149559, 149559)), (7, (505957, 505957)), (6, (1719749, 1719749)), (5, (769611, 769611)), (4, (67155, 67155)), (3, (448116, 448116)), (2, (3491254450, 3491254450)), (1, (441803, 441803)), (0, (136356, 136356))] k).1 := hb 4 _ (show en_w2[4]? = some (2, 24, (0, 0), [], [(23, (492210354, 492210354)), (22, (14339731, 14339731)), (21, (398548, 398548)), (20, (515236, 515236)), (19, (146885, 146885)), (18, (215205, 215205)), (17, (68765860, 68765860)), (16, (4773, 4773)), (15, (14836, 14836)), (14, (1476, 1476)), (13, (498, 498)), (12, (4153, 4153)), (11, (14982420, 14982420)), (10, (146611, 146611)), (9, (212356, 212356)), (8, (149559, 149559)), (7, (505957, 505957)), (6, (1719749, 1719749)), (5, (769611, 769611)), (4, (67155, 67155)), (3, (448116, 448116)), (2, (3491254450, 3491254450)), (1, (441803, 441803)), (0, (136356, 136356))]) from rfl) rfl k hk
  rw [q]
  exact (show ∀ k, k < 24 → (en_el (0, 0) [(23, (492210354, 492210354)), (22, (14339731, 14339731)), (21, (398548, 398548)), (20, (515236, 515236)), (19, (146885, 146885)), (18, (215205, 215205)), (17, (68765860, 68765860)), (16, (4773, 4773)), (15, (14836, 14836)), (14, (1476, 1476)), (13, (498, 498)), (12, (4153, 4153)), (11, (14982420, 14982420)), (10, (146611, 146611)), (9, (212356, 212356)), (8, (149559, 149559)), (7, (505957, 505957)), (6, (1719749, 1719749)), (5, (769611, 769611)), (4, (67155, 67155)), (3, (448116, 448116)), (2, (3491254450, 3491254450)), (1, (441803, 441803)), (0, (136356, 136356))] k).1 = wc k by decide +kernel) k hk
theorem st_E (hb : ∀ k c, en_w2[k]? = some c → st_bd c (A k)) : lw_E 0 0 0 st_O A := by
  have n2 : ∀ j, j < 67 → j ≠ 3 → A 170 j = 0 := by
    intro j hj h2
    have h1 : j ≠ 68 := by omega
    have q := hb 170 _ (show en_w2[170]? = some (1, 392, (0, 0), [], [(68, ((-1), (-1))), (3, ((-1), (-1)))]) from rfl) j (show j < 392 by omega)
    have e : en_el (0, 0) [(68, ((-1), (-1))), (3, ((-1), (-1)))] j = (0, 0) := by
      unfold en_el en_el en_el
      rw [mm_bne h1, mm_bne h2]
      rfl
    have q : (en_el (0, 0) [(68, ((-1), (-1))), (3, ((-1), (-1)))] j).1 ≤ A 170 j ∧ A 170 j ≤ (en_el (0, 0) [(68, ((-1), (-1))), (3, ((-1), (-1)))] j).2 := q
    rw [e] at q
    have q : (0 : Int) ≤ A 170 j ∧ A 170 j ≤ 0 := q
    omega
  have n3 : A 170 3 = -1 := by
    have q : (-1 : Int) ≤ A 170 3 ∧ A 170 3 ≤ -1 := hb 170 _ (show en_w2[170]? = some (1, 392, (0, 0), [], [(68, ((-1), (-1))), (3, ((-1), (-1)))]) from rfl) 3 (by decide)
    omega
  have hz : hz0 (st_O 5) (shf 5 A) := ⟨fun j hj => st_z hb (show en_w2[6]? = some (1, 3, (0, 0), [], []) from rfl) hj, fun j hj => ⟨st_z hb (show en_w2[8]? = some (1, 10, (0, 0), [], []) from rfl) hj, st_z hb (show en_w2[9]? = some (1, 10, (0, 0), [], []) from rfl) hj, st_z hb (show en_w2[10]? = some (1, 10, (0, 0), [], []) from rfl) hj⟩, fun j hj => st_z hb (show en_w2[11]? = some (1, 32, (0, 0), [], []) from rfl) hj, by decide +kernel, by decide +kernel⟩
  exact ⟨_, _, st_H hb, ⟨by decide, fun j hj => absurd hj (by omega), st_rz hb, mn.z hz n2 n3, fun h => absurd rfl h, fun h => absurd rfl h⟩, ⟨(show st_O 0 16 = -1 by decide +kernel), (show st_O 0 17 = -1 by decide +kernel), (show st_O 0 15 = 0 by decide +kernel)⟩, hz.dr.2.2, fun h => absurd rfl h, fun h => absurd rfl h⟩
end STH
section ENZ2
variable {p : Program} {l : Launch} {e : Env} {s : State} {m : MethodId} {below : List Frame} {meth : Method} {c : Code} {b L : Nat} {xs : Nat → Int32}
/-! from the entry, for every script, the law comes to its end with true -/
theorem whole_start (hl : l.stackTraces = false) (hL : L ≤ 3072) (C0 : lw_At p s m meth c b L xs) (hnm : meth.name = "law") (hex : c.exceptionTable.toList = []) : W p l e room_1 s m #[Value.ref b] below meth c s.heap [] 0 0 (lw_Z below #[Value.ref b] s) (entryFrame m ([Value.ref b] : List Value).toArray 8) := by
  obtain ⟨hx, hb, hr, hml, hown, hts, hX, hbl, hlocks, hgv⟩ := C0
  have hg : ∀ w ∈ en_gw, w.before #[Value.ref b] s = true := fun w hw => hts w (List.mem_filter.mp hw).1
  obtain ⟨q4, hX4, hq4, hZ4, hN4⟩ := en_mos hgv hts
  obtain ⟨kc, hk3, hk4, hB⟩ := en_kcB q4 hgv hts
  obtain ⟨D, hK⟩ := en_KD hg
  have hSND := en_snd (l := l) hl (kc := kc) (D := D) (A := fun q : Nat => s.heap.size ≤ q) en_hN en_h9N 20000
  have C : en_cx p l e room_1 s m #[Value.ref b] meth c kc (fun q : Nat => s.heap.size ≤ q) yL_law cL_law 8 187 7840 := ⟨hx, hb, hml, hown, hg, hB, fun _ h => h, hnm, Nat.le_of_ble_eq_true rfl, Nat.le_of_ble_eq_true rfl, Nat.le_of_ble_eq_true rfl, Nat.le_of_ble_eq_true rfl⟩
  have C1 : en_cx p l e room_1 s m #[Value.ref b] meth c kc (fun q : Nat => s.heap.size ≤ q) (en_ty en_t_L_law) (en_tc en_t_L_law) (en_tl en_t_L_law) 0 0 := ⟨hx, hb, hml, hown, hg, hB, fun _ h => h, hnm, Nat.zero_le _, Nat.zero_le _, Nat.le_of_ble_eq_true rfl, Nat.le_of_ble_eq_true rfl⟩
  have hXL : kk_XR kc (fun q : Nat => s.heap.size ≤ q) s s.heap (lx_c L (fun j => (xs j).toInt)) := by
    intro k n f hk
    by_cases h3 : k = 3
    · subst h3
      have hk : some (L, fun j => (xs j).toInt) = some (n, f) := hk
      cases hk
      exact ⟨xs, by rw [hk3]; exact hX, by rw [hk3]; exact hbl, by rw [hk3]; exact Nat.not_le.mpr hbl, by omega, fun _ _ => rfl⟩
    · by_cases h4 : k = 4
      · subst h4
        have hk : some (3, kk_mos) = some (n, f) := hk
        cases hk
        exact ⟨_, by rw [hk4]; exact hX4, by rw [hk4]; exact hq4, by rw [hk4]; exact Nat.not_le.mpr hq4, by decide, by decide +kernel⟩
      · have hk : lx_c L (fun j => (xs j).toInt) k = some (n, f) := hk
        unfold lx_c at hk
        split at hk
        · exact absurd rfl h3
        · unfold kk_x4 at hk
          split at hk
          · exact absurd rfl h4
          · cases hk
  have hx4 : ∀ k z, kk_x4 k = some z → lx_c L (fun j => (xs j).toInt) k = some z := by
    intro k z hk
    unfold kk_x4 at hk
    split at hk
    · exact hk
    · cases hk
  have hZ : kk_Z kc (fun q : Nat => s.heap.size ≤ q) s s.heap := ⟨by rw [hk4]; exact hZ4, hN4⟩
  have K23 : en_K p l e room_1 s m #[Value.ref b] below meth c (lw_Z below #[Value.ref b] s) kc D (fun q : Nat => s.heap.size ≤ q) 8 [] [] [] 23 en_S1 := by
    intro ρ' ws' tys' H locs la sv h1 h2 h3 hR
    obtain ⟨⟨lv, l1, l2⟩, hst, -, hw, hK', hP', hD', hS'⟩ := hR
    obtain ⟨A, hkw, hbd⟩ := st_w st_ok hw
    have hI := st_E hbd
    have hret : ∀ n1 n2 : Nat, n1 ≤ 601024 → n2 ≤ 7293033 → ∀ (pc : Nat) (L : en_L) (st : List en_V) (w : List kk_C) (z : kk_Z5), en_find (en_te en_t_L_law) pc = some z → en_kind z.2.1 z.2.2.2.2 = 1 → lx_R z.2.1 st w → kk_K p l e room_1 s m #[Value.ref b] below meth c (lw_Z below #[Value.ref b] s) kc D (fun q : Nat => s.heap.size ≤ q) (en_tl en_t_L_law) ws' tys' n1 n2 pc L st w := by
      intro n1 n2 hn1 hn2 pc L st w z hf _ hq ws2 H2 locs2 la2 sv2 hle hR2
      obtain ⟨hi, rfl⟩ := hq
      obtain ⟨e1, -⟩ := en_lawE _ (en_find_ok hf)
      dsimp only at e1
      rw [hi] at e1
      have hsv : sv2 = [.int 1] := by
        obtain ⟨-, hst2, -⟩ := hR2
        cases sv2 with
        | nil => exact hst2.elim
        | cons x r =>
          cases r with
          | cons _ _ => exact hst2.2.elim
          | nil =>
            obtain ⟨y, rfl, hy⟩ := hst2.1
            have : y = 1 := Int32.toInt_inj.mp hy
            rw [this]
      subst hsv
      refine va_forget (fun q hq => hR2.2.2.2.2.2.2.2.2 q hq) ?_
      refine W.widen (k := 601024) (n := 7293033) hn1 hn2 ?_
      exact lw_ret hx hb hr hlocks e1
    have hCn : ∀ n1 n2 : Nat, n1 ≤ 601024 → n2 ≤ 7293033 → kk_Clo l 200 en_M en_t_L_law (lx_c L (fun j => (xs j).toInt)) lx_R (kk_K p l e room_1 s m #[Value.ref b] below meth c (lw_Z below #[Value.ref b] s) kc D (fun q : Nat => s.heap.size ≤ q) (en_tl en_t_L_law) ws' tys' n1 n2) := fun n1 n2 hn1 hn2 => kk_clo (below := below) en_hM en_lawE C1 hXL hx4 hZ (Nat.le_of_ble_eq_true rfl) (Nat.le_of_ble_eq_true rfl) hn1 hn2 (hret n1 n2 hn1 hn2)
    have LP := lx_loop hl (Ln := L) (xs := fun j => (xs j).toInt) (by omega) (NC := 601024) (NS := 7293033) (by decide) (by decide) (Kn := fun n1 n2 => kk_K p l e room_1 s m #[Value.ref b] below meth c (lw_Z below #[Value.ref b] s) kc D (fun q : Nat => s.heap.size ≤ q) (en_tl en_t_L_law) ws' tys' n1 n2) hCn (fun n1 n2 hn1 hn2 => fun hf hMa htk hk7 hr4 hd hct hk => kk_callW (below := below) (d := 200) en_hM en_lawE C1 hXL hx4 hZ (Nat.le_of_ble_eq_true rfl) (Nat.le_of_ble_eq_true rfl) hn1 hn2 hf hMa htk hk7 hr4 hd hct hk) _ 0 186 7834 0 0 0 st_O A (Nat.lt_succ_self _) (by omega) (by omega) (by omega) (by omega) hI
    have hlx : en_f2 (en_lv kc [] ws') [(4, (0, 0)), (3, (4, 185)), (2, (4, 168)), (1, (4, 0)), (0, (6, 3))] lv := st_l2 l2 (by decide)
    have LQ : kk_K p l e room_1 s m #[Value.ref b] below meth c (lw_Z below #[Value.ref b] s) kc D (fun q : Nat => s.heap.size ≤ q) (en_tl en_t_L_law) ws' tys' 186 7834 23 [(4, (0, 0)), (3, (4, 185)), (2, (4, 168)), (1, (4, 0)), (0, (6, 3))] [] (cx_LW st_O A) := (hCn 186 7834 (by decide) (by decide)).sub [(0, (6, 3)), (1, (4, 0)), (2, (4, 168)), (3, (4, 185)), (4, (0, 0))] ⟨rfl, rfl, rfl, rfl, rfl, trivial⟩ LP
    exact LQ ws' H locs la sv kk_le.rf ⟨⟨lv, l1, hlx⟩, st_f2 hst rfl, by rw [cq_LW]; exact hkw, hK', hP', hD', hS'⟩
  have run : ∀ (es : List en_E) (pc : Nat) (S : en_S) (lf : Nat × en_S), en_run en_N 20000 20 none (en_lw es) pc S = some [lf] → en_Eok en_N (en_lw es) → en_K p l e room_1 s m #[Value.ref b] below meth c (lw_Z below #[Value.ref b] s) kc D (fun q : Nat => s.heap.size ≤ q) 8 [] [] [] lf.1 lf.2 → en_K p l e room_1 s m #[Value.ref b] below meth c (lw_Z below #[Value.ref b] s) kc D (fun q : Nat => s.heap.size ≤ q) 8 [] [] [] pc S := by
    intro es pc S lf hrn hE hlf
    exact hSND 20 none (en_lw es) pc S [lf] hrn hE p e room_1 s m #[Value.ref b] below meth c (lw_Z below #[Value.ref b] s) [] [] [] C (Nat.le_of_ble_eq_true rfl) (Nat.le_of_ble_eq_true rfl) en_noX hex (fun q hq => by rw [List.mem_singleton.mp hq]; exact hlf)
  have K1 := run en_lA 0 en_S0 _ (en_qO_ok en_rA) en_lA_E (run en_lB 7 en_S7 _ (en_qO_ok en_rB) en_lB_E (run en_lC 15 en_S15 _ (en_qO_ok en_rC) en_lC_E K23))
  have hle := lv_entry ([.ref b]) (n := 8) (Nat.le_of_ble_eq_true rfl)
  rw [lg_entry_eq]
  generalize (lg_sl ([.ref b]) ++ List.replicate (8 - (lg_sl ([.ref b])).length) Slot.unset).toArray = ls at hle ⊢
  have hle : lv_has ls 8 [(0, .ref b)] := hle
  exact K1 [] [] [] s.heap [] ls [] en_pre.rf en_le.rf en_pre.rf ⟨⟨_, hle, ⟨rfl, by show Value.ref b = .ref (kc 3); rw [hk3]⟩, trivial⟩, trivial, ⟨rfl, fun i q x h => by have h : ([] : en_I)[i]? = some q := h; simp at h⟩, ⟨rfl, fun k c h => by cases h⟩, hK, fun k q h => by simp at h, ⟨fun i j p q h => by simp at h, fun k q h => by simp at h⟩, va_S.rf⟩
end ENZ2
