/-! READING, 7: the same token in both -/
theorem tk_en_ge {a : Int → Int} : ∀ {k : Nat} {p : Int}, p ≤ tk_en a k p
  | 0, p => Int.le_refl _
  | k + 1, p => by
    show p ≤ cond (tk_an (a p)) (tk_en a k (p + 1)) p
    cases tk_an (a p) with
    | false => exact Int.le_refl _
    | true =>
      have := tk_en_ge (a := a) (k := k) (p := p + 1)
      show p ≤ tk_en a k (p + 1)
      omega
theorem tk_en_gt {a : Int → Int} {q : Int} (h : tk_an (a q) = true) : q < tk_en a 940 q := by
  rw [show (940 : Nat) = 939 + 1 from rfl, tk_en_y h]
  have := tk_en_ge (a := a) (k := 939) (p := q + 1)
  omega
theorem tk_sk_x {a : Int → Int} {n : Int} (hn : ∀ j, n ≤ j → a j = -1) : ∀ {k : Nat} {p : Int}, n - p ≤ k → tk_bl (a (tk_sk a k p)) = false ∧ p ≤ tk_sk a k p ∧ (p ≤ n → tk_sk a k p ≤ n)
  | 0, p, h => ⟨by show tk_bl (a p) = false; rw [hn p (by omega)]; rfl, Int.le_refl _, fun h => h⟩
  | k + 1, p, h => by
    cases hb : tk_bl (a p) with
    | false => rw [tk_sk_n hb]; exact ⟨hb, Int.le_refl _, fun h => h⟩
    | true =>
      rw [tk_sk_y hb]
      have hp : p < n := by
        by_cases q : p < n
        · exact q
        · rw [hn p (by omega)] at hb; cases hb
      obtain ⟨q1, q2, q3⟩ := tk_sk_x hn (k := k) (p := p + 1) (by omega)
      exact ⟨q1, by omega, fun _ => q3 (by omega)⟩
/-- a token of both -/
def tk_tok (res : Nat → Int) (r F : Nat → Int) : Prop := (r 3 = 0 ∧ F 7 = 1 ∧ r 6 = -1) ∨ (r 3 = 1 ∧ F 7 = 0 ∧ r 6 = -1) ∨ (r 3 = 2 ∧ F 7 = 2 ∧ Nm (r 7) (F 12) ∧ rw_I res (r 7) (r 6)) ∨ (r 3 = 3 ∧ F 7 = 3 ∧ r 8 = F 8 ∧ r 6 = -1) ∨ (tk_sg (F 9) = true ∧ r 3 = F 9 ∧ F 7 = 4 ∧ r 6 = -1)
theorem tk_run {a : Int → Int} {res : Nat → Int} {q : Int} {r F : Nat → Int} (han : tk_an (a q) = true) (h : tk_R a res q r) (h' : tm_R a q F) : tk_tok res r F ∧ r 5 = F 5 := by
  obtain ⟨L, D, nm, nu, hr, he, hk⟩ := h
  obtain ⟨he', lt, b, hm, hk'⟩ := h'
  have e5 : r 5 = F 5 := he.trans he'.symm
  have hgt : q < r 5 := by rw [he]; exact tk_en_gt han
  rw [← e5] at hm hk'
  generalize r 5 = i at *
  obtain ⟨⟨r1, r2, r3, r4⟩, r5, r6, r7, r8, r9, r10, r11, r12⟩ := hr
  obtain ⟨m1, m2, m3, m4, m5, m6, m7, m8⟩ := hm
  have q0 : ((0 : Nat) : Int) < i - q := by omega
  have eq0 : q + ((0 : Nat) : Int) = q := by omega
  have hL : D = 0 ↔ b = 1 ∧ lt = 1 := by
    constructor
    · intro hD
      have al := r5 hD
      have l0 := al 0 q0
      rw [eq0] at l0
      refine ⟨?_, ?_⟩
      · rcases m3 with ⟨e, -⟩ | ⟨-, j, j1, j2⟩
        · exact e
        · exact absurd (by rw [al j j1, l0]) j2
      · rcases m2 with ⟨e, -⟩ | ⟨-, e⟩
        · exact e
        · rw [e] at l0; cases l0
    · rintro ⟨rfl, rfl⟩
      by_cases hD : D = 0
      · exact hD
      · obtain ⟨j, j1, j2⟩ := r6 hD
        rcases m3 with ⟨-, al⟩ | ⟨e, -⟩
        · rcases m2 with ⟨-, e⟩ | ⟨e, -⟩
          · rw [al j j1, e] at j2; cases j2
          · exact absurd e (by decide)
        · exact absurd e (by decide)
  have hD : L = 0 ↔ b = 1 ∧ lt = 0 := by
    constructor
    · intro hL0
      have al := r7 hL0
      have l0 := tk_dl (al 0 q0)
      rw [eq0] at l0
      refine ⟨?_, ?_⟩
      · rcases m3 with ⟨e, -⟩ | ⟨-, j, j1, j2⟩
        · exact e
        · exact absurd (by rw [tk_dl (al j j1), l0]) j2
      · rcases m2 with ⟨-, e⟩ | ⟨e, -⟩
        · rw [e] at l0; cases l0
        · exact e
    · rintro ⟨rfl, rfl⟩
      by_cases hL0 : L = 0
      · exact hL0
      · obtain ⟨j, j1, j2⟩ := r8 hL0
        have an := m4 j j1
        rcases m3 with ⟨-, al⟩ | ⟨e, -⟩
        · rcases m2 with ⟨e, -⟩ | ⟨-, e⟩
          · exact absurd e (by decide)
          · unfold tk_an at an
            rw [al j j1, e, j2] at an
            cases an
        · exact absurd e (by decide)
  refine ⟨?_, e5⟩
  rcases hk with ⟨k1, k2, k3, k4, k5⟩ | ⟨k1, k2, k3⟩
  · obtain ⟨b1, l1⟩ := hL.mp k1
    refine Or.inr (Or.inr (Or.inl ⟨k3, ?_, ?_, by rw [k4]; exact k5⟩))
    · rcases hk' with ⟨-, -, -, e⟩ | ⟨-, e, -⟩ | ⟨e, -⟩
      · exact e
      · omega
      · exact absurd ⟨b1, l1, by omega⟩ e
    · rw [k4, r9 k1 k2, m5 (by omega), show L = i - q by omega]
      exact ⟨(i - q).toNat, fun j => a (q + j) - 96, by omega, fun j hj => by have := tk_lt_t.mp (r5 k1 j (by omega)); show 1 ≤ a (q + (j : Int)) - 96 ∧ a (q + (j : Int)) - 96 ≤ 26; omega, rfl, rfl⟩
  · rcases k3 with ⟨z1, z2, z3, z4⟩ | ⟨z1, z2⟩
    · obtain ⟨b1, l1⟩ := hD.mp z1
      refine Or.inr (Or.inr (Or.inr (Or.inl ⟨z3, ?_, ?_, k2⟩)))
      · rcases hk' with ⟨-, e, -⟩ | ⟨-, -, -, e⟩ | ⟨-, e, -⟩
        · omega
        · exact e
        · exact absurd ⟨b1, l1, by omega⟩ e
      · rw [z4, r10 z1 z2, m6 (by omega), show D = i - q by omega]
    · refine Or.inl ⟨z2, ?_, k2⟩
      rcases hk' with ⟨e1, e2, e3, -⟩ | ⟨e1, e2, e3, -⟩ | ⟨-, -, e⟩
      · have := hL.mpr ⟨e1, e2⟩; exact absurd ⟨this, by omega⟩ k1
      · have := hD.mpr ⟨e1, e2⟩; exact absurd ⟨this, by omega⟩ z1
      · exact e
theorem tk_same {n most : Int} {a : Int → Int} {res : Nat → Int} {p : Int} {r F : Nat → Int} (hn : ∀ j, n ≤ j → a j = -1) (h9 : n ≤ 940) (h0 : 0 ≤ p) (h1 : p ≤ n) (h : tk_T n most a res p (tk_sk a 940 p) r) (h' : tm_T n most a (tk_sk a 940 p) F) : tk_tok res r F ∧ r 4 = F 6 ∧ tk_sk a 940 (r 5) = tk_sk a 940 (F 5) := by
  obtain ⟨s1, s2, s3⟩ := tk_sk_x hn (k := 940) (p := p) (by omega)
  have s3 := s3 h1
  generalize hq : tk_sk a 940 p = q at *
  have ii : tk_sk a 940 q = q := tk_sk_n s1
  rcases h with ⟨h2, h3, h4, h5, h6⟩ | ⟨h2, h3, h4, h5, h6, h7⟩ | ⟨h2, h3, h4, h5⟩
  · rcases h' with ⟨g2, g3, g4, g5⟩ | ⟨g2, -⟩ | ⟨g2, -⟩
    · exact ⟨Or.inl ⟨h3, g3, h6⟩, by rw [h4, g4], by rw [h5, g5, hq, ii]⟩
    · exact absurd h2 g2
    · exact absurd h2 g2
  · rcases h' with ⟨g2, -⟩ | ⟨g2, g3, g4, g5, g6⟩ | ⟨g2, g3, -⟩
    · exact absurd g2 h2
    · exact ⟨Or.inr (Or.inl ⟨h4, g4, h7⟩), by rw [h5, g5]; omega, by rw [h6, g6, hq, ii]⟩
    · omega
  · rcases h' with ⟨g2, -⟩ | ⟨g2, g3, -⟩ | ⟨g2, g3, g4, g5⟩
    · exact absurd g2 h2
    · omega
    · rcases h5 with ⟨han, hR⟩ | ⟨han, t5, t6, t7⟩
      · rcases g5 with ⟨-, gR⟩ | ⟨g6, -⟩
        · obtain ⟨t1, t2⟩ := tk_run han hR gR
          exact ⟨t1, by rw [h4, g4], by rw [t2]⟩
        · rw [g6] at han; cases han
      · rcases g5 with ⟨g6, -⟩ | ⟨-, u5, u9, u7⟩
        · rw [g6] at han; cases han
        · refine ⟨?_, by rw [h4, g4], by rw [t5, u5]⟩
          rcases t7 with ⟨v1, v2⟩ | ⟨v1, v2⟩
          · rcases u7 with ⟨-, w2⟩ | ⟨w1, -⟩
            · exact Or.inr (Or.inr (Or.inr (Or.inr ⟨by rw [u9]; exact v1, by rw [v2, u9], w2, t6⟩)))
            · rw [w1] at v1; cases v1
          · rcases u7 with ⟨w1, -⟩ | ⟨-, w2⟩
            · rw [w1] at v1; cases v1
            · exact Or.inl ⟨v2, w2, t6⟩
