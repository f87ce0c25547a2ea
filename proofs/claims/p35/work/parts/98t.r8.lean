/-! READING, 8: a token, said once for both -/
theorem rw_ex (res : Nat → Int) (x : Int) : ∃ y, rw_I res x y := by
  have key : ∀ k : Nat, (∃ y : Nat, y < k ∧ res y = x ∧ ∀ j : Nat, j < y → res j ≠ x) ∨ (∀ j : Nat, j < k → res j ≠ x) := by
    intro k
    induction k with
    | zero => exact Or.inr (fun j hj => absurd hj (by omega))
    | succ k ih =>
      rcases ih with ⟨y, h1, h2, h3⟩ | h
      · exact Or.inl ⟨y, by omega, h2, h3⟩
      · by_cases hk : res k = x
        · exact Or.inl ⟨k, by omega, hk, h⟩
        · refine Or.inr (fun j hj => ?_)
          by_cases hj' : j = k
          · rw [hj']; exact hk
          · exact h j (by omega)
  rcases key 24 with ⟨y, h1, h2, h3⟩ | h
  · exact ⟨(y : Int), Or.inl ⟨by omega, by omega, by rw [Int.toNat_natCast]; exact h2, fun j hj => h3 j (by omega)⟩⟩
  · exact ⟨-1, Or.inr ⟨rfl, h⟩⟩
theorem rw_I.det {res : Nat → Int} {x y y' : Int} (h : rw_I res x y) (h' : rw_I res x y') : y = y' := by
  rcases h with ⟨h0, h1, h2, h3⟩ | ⟨h0, h1⟩ <;> rcases h' with ⟨g0, g1, g2, g3⟩ | ⟨g0, g1⟩
  · by_cases e : y < y'
    · exact absurd h2 (g3 y.toNat (by omega))
    · by_cases e' : y' < y
      · exact absurd g2 (h3 y'.toNat (by omega))
      · omega
  · exact absurd h2 (g1 y.toNat (by omega))
  · exact absurd g2 (h1 y'.toNat (by omega))
  · omega
theorem rq_ex {a : Int → Int} {q : Int} : ∀ (k : Nat) {i L D nm nu : Int}, rq a q i L D nm nu → ∃ L' D' nm' nu', rq a q (tk_en a k i) L' D' nm' nu'
  | 0, i, L, D, nm, nu, h => ⟨L, D, nm, nu, h⟩
  | k + 1, i, L, D, nm, nu, h => by
    cases han : tk_an (a i) with
    | false => rw [tk_en_n han]; exact ⟨L, D, nm, nu, h⟩
    | true =>
      rw [tk_en_y han]
      cases hl : tk_lt (a i) with
      | true => exact rq_ex k (rq_L h hl)
      | false =>
        have hd : tk_dg (a i) = true := by
          unfold tk_an at han
          rw [hl] at han
          exact han
        exact rq_ex k (rq_D h hd)
theorem rq_det {a : Int → Int} {q i L D nm nu L' D' nm' nu' : Int} (h : rq a q i L D nm nu) (h' : rq a q i L' D' nm' nu') : (D = 0 ↔ D' = 0) ∧ (L = 0 ↔ L' = 0) ∧ (D = 0 → L ≤ 7 → nm = nm') ∧ (L = 0 → D ≤ 3 → nu = nu') ∧ L + D = L' + D' ∧ 0 ≤ L ∧ 0 ≤ D ∧ 0 ≤ L' ∧ 0 ≤ D' := by
  obtain ⟨⟨r1, r2, r3, r4⟩, r5, r6, r7, r8, r9, r10, r11, r12⟩ := h
  obtain ⟨⟨s1, s2, s3, s4⟩, s5, s6, s7, s8, s9, s10, s11, s12⟩ := h'
  have hD : D = 0 ↔ D' = 0 := by
    constructor
    · intro e
      by_cases e' : D' = 0
      · exact e'
      · obtain ⟨j, j1, j2⟩ := s6 e'
        rw [r5 e j j1] at j2; cases j2
    · intro e
      by_cases e' : D = 0
      · exact e'
      · obtain ⟨j, j1, j2⟩ := r6 e'
        rw [s5 e j j1] at j2; cases j2
  have hL : L = 0 ↔ L' = 0 := by
    constructor
    · intro e
      by_cases e' : L' = 0
      · exact e'
      · obtain ⟨j, j1, j2⟩ := s8 e'
        rw [r7 e j j1] at j2; cases j2
    · intro e
      by_cases e' : L = 0
      · exact e'
      · obtain ⟨j, j1, j2⟩ := r8 e'
        rw [s7 e j j1] at j2; cases j2
  refine ⟨hD, hL, fun e e7 => ?_, fun e e3 => ?_, by omega, r2, r3, s2, s3⟩
  · have eD := hD.mp e
    rw [r9 e e7, s9 eD (by omega), show L' = L by omega]
  · have eL := hL.mp e
    rw [r10 e e3, s10 eL (by omega), show D' = D by omega]
theorem tk_ex (n most : Int) (a : Int → Int) (res : Nat → Int) (p q : Int) : ∃ r, tk_T n most a res p q r := by
  by_cases h1 : most < n ∧ most ≤ q
  · exact ⟨fun k => match k with | 3 => 0 | 4 => most | 5 => p | _ => -1, Or.inl ⟨h1, rfl, rfl, rfl, rfl⟩⟩
  by_cases h2 : n ≤ q
  · exact ⟨fun k => match k with | 3 => 1 | 4 => n | 5 => p | _ => -1, Or.inr (Or.inl ⟨h1, h2, rfl, rfl, rfl, rfl⟩)⟩
  cases han : tk_an (a q) with
  | false =>
    cases hsg : tk_sg (a q) with
    | true => exact ⟨fun k => match k with | 3 => a q | 4 => q | 5 => q + 1 | _ => -1, Or.inr (Or.inr ⟨h1, by omega, rfl, Or.inr ⟨han, rfl, rfl, Or.inl ⟨hsg, rfl⟩⟩⟩)⟩
    | false => exact ⟨fun k => match k with | 3 => 0 | 4 => q | 5 => q + 1 | _ => -1, Or.inr (Or.inr ⟨h1, by omega, rfl, Or.inr ⟨han, rfl, rfl, Or.inr ⟨hsg, rfl⟩⟩⟩)⟩
  | true =>
    obtain ⟨L, D, nm, nu, hr⟩ := rq_ex 940 (rq_0 a q)
    by_cases h3 : D = 0 ∧ L ≤ 7
    · obtain ⟨y, hy⟩ := rw_ex res nm
      exact ⟨fun k => match k with | 3 => 2 | 4 => q | 5 => tk_en a 940 q | 6 => y | _ => nm, Or.inr (Or.inr ⟨h1, by omega, rfl, Or.inl ⟨han, L, D, nm, nu, hr, rfl, Or.inl ⟨h3.1, h3.2, rfl, rfl, hy⟩⟩⟩)⟩
    by_cases h4 : L = 0 ∧ D ≤ 3
    · exact ⟨fun k => match k with | 3 => 3 | 4 => q | 5 => tk_en a 940 q | 6 => -1 | _ => nu, Or.inr (Or.inr ⟨h1, by omega, rfl, Or.inl ⟨han, L, D, nm, nu, hr, rfl, Or.inr ⟨h3, rfl, Or.inl ⟨h4.1, h4.2, rfl, rfl⟩⟩⟩⟩)⟩
    · exact ⟨fun k => match k with | 3 => 0 | 4 => q | 5 => tk_en a 940 q | 6 => -1 | _ => nu, Or.inr (Or.inr ⟨h1, by omega, rfl, Or.inl ⟨han, L, D, nm, nu, hr, rfl, Or.inr ⟨h3, rfl, Or.inr ⟨h4, rfl⟩⟩⟩⟩)⟩
theorem tk_det {n most : Int} {a : Int → Int} {res : Nat → Int} {p p' q : Int} {r r' : Nat → Int} (hp : tk_sk a 940 p = q) (hp' : tk_sk a 940 p' = q) (h : tk_T n most a res p q r) (h' : tk_T n most a res p' q r') : r 3 = r' 3 ∧ r 4 = r' 4 ∧ tk_sk a 940 (r 5) = tk_sk a 940 (r' 5) ∧ r 6 = r' 6 ∧ (r' 3 = 2 → r 7 = r' 7) ∧ (r' 3 = 3 → r 8 = r' 8) := by
  rcases h with ⟨c, h3, h4, h5, h6⟩ | ⟨c, c2, h3, h4, h5, h6⟩ | ⟨c, c2, h4, h⟩
  · rcases h' with ⟨c', g3, g4, g5, g6⟩ | ⟨c', -⟩ | ⟨c', -⟩
    · exact ⟨by omega, by omega, by rw [h5, g5, hp, hp'], by omega, fun e => absurd e (by omega), fun e => absurd e (by omega)⟩
    · exact absurd c c'
    · exact absurd c c'
  · rcases h' with ⟨c', -⟩ | ⟨c', c2', g3, g4, g5, g6⟩ | ⟨c', c2', -⟩
    · exact absurd c' c
    · exact ⟨by omega, by omega, by rw [h5, g5, hp, hp'], by omega, fun e => absurd e (by omega), fun e => absurd e (by omega)⟩
    · omega
  · rcases h' with ⟨c', -⟩ | ⟨c', c2', -⟩ | ⟨c', c2', g4, g⟩
    · exact absurd c' c
    · omega
    · refine ⟨?_, by omega, ?_⟩
      · rcases h with ⟨an, L, D, nm, nu, hr, he, hk⟩ | ⟨an, h5, h6, hk⟩
        · rcases g with ⟨-, L', D', nm', nu', hr', he', hk'⟩ | ⟨an', -⟩
          · rw [he] at hr; rw [he'] at hr'
            obtain ⟨d1, d2, d3, d4, d5, d6, d7, d8, d9⟩ := rq_det hr hr'
            rcases hk with ⟨x1, x2, x3, x4, x5⟩ | ⟨x1, x2, ⟨x3, x4, x5, x6⟩ | ⟨x3, x4⟩⟩ <;> rcases hk' with ⟨y1, y2, y3, y4, y5⟩ | ⟨y1, y2, ⟨y3, y4, y5, y6⟩ | ⟨y3, y4⟩⟩ <;> omega
          · rw [an] at an'; cases an'
        · rcases g with ⟨an', -⟩ | ⟨-, g5, g6, hk'⟩
          · rw [an] at an'; cases an'
          · rcases hk with ⟨x1, x2⟩ | ⟨x1, x2⟩ <;> rcases hk' with ⟨y1, y2⟩ | ⟨y1, y2⟩
            · omega
            · rw [x1] at y1; cases y1
            · rw [x1] at y1; cases y1
            · omega
      · rcases h with ⟨an, L, D, nm, nu, hr, he, hk⟩ | ⟨an, h5, h6, hk⟩
        · rcases g with ⟨-, L', D', nm', nu', hr', he', hk'⟩ | ⟨an', -⟩
          · rw [he] at hr; rw [he'] at hr'
            obtain ⟨d1, d2, d3, d4, d5, d6, d7, d8, d9⟩ := rq_det hr hr'
            refine ⟨by rw [he, he'], ?_⟩
            rcases hk with ⟨x1, x2, x3, x4, x5⟩ | ⟨x1, x2, ⟨x3, x4, x5, x6⟩ | ⟨x3, x4⟩⟩ <;> rcases hk' with ⟨y1, y2, y3, y4, y5⟩ | ⟨y1, y2, ⟨y3, y4, y5, y6⟩ | ⟨y3, y4⟩⟩
            · have e := d3 x1 x2
              subst e
              exact ⟨x5.det y5, fun _ => x4.trans y4.symm, fun e => absurd e (by omega)⟩
            · exact absurd ⟨d1.mp x1, by omega⟩ y1
            · exact absurd ⟨d1.mp x1, by omega⟩ y1
            · exact absurd ⟨d1.mpr y1, by omega⟩ x1
            · have e := d4 x3 x4
              exact ⟨by omega, fun e => absurd e (by omega), fun _ => by omega⟩
            · exact absurd ⟨d2.mp x3, by omega⟩ y3
            · exact absurd ⟨d1.mpr y1, by omega⟩ x1
            · exact absurd ⟨d2.mpr y3, by omega⟩ x3
            · exact ⟨by omega, fun e => absurd e (by omega), fun e => absurd e (by omega)⟩
          · rw [an] at an'; cases an'
        · rcases g with ⟨an', -⟩ | ⟨-, g5, g6, hk'⟩
          · rw [an] at an'; cases an'
          · refine ⟨by rw [h5, g5], by omega, ?_⟩
            rcases hk' with ⟨y1, y2⟩ | ⟨y1, y2⟩
            · have := tk_sg_t.mp y1
              exact ⟨fun e => absurd e (by omega), fun e => absurd e (by omega)⟩
            · exact ⟨fun e => absurd e (by omega), fun e => absurd e (by omega)⟩
theorem tk_sk2 {a : Int → Int} {n p : Int} (hn : ∀ j, n ≤ j → a j = -1) (h9 : n ≤ 940) (h0 : 0 ≤ p) : tk_sk a 940 (tk_sk a 940 p) = tk_sk a 940 p := tk_sk_n (tk_sk_x hn (k := 940) (p := p) (by omega)).1
/-- what the token is that begins at c, no blank: as the class's reader would have it; 9: where the next one begins -/
noncomputable def tk_ob (n most : Int) (a : Int → Int) (res : Nat → Int) (c : Int) : Nat → Int := Classical.epsilon (fun r => tk_T n most a res c c r)
theorem tk_ob_T (n most : Int) (a : Int → Int) (res : Nat → Int) (c : Int) : tk_T n most a res c c (tk_ob n most a res c) := Classical.epsilon_spec (tk_ex n most a res c c)
noncomputable def tk_nx (n most : Int) (a : Int → Int) (res : Nat → Int) (c : Int) : Int := tk_sk a 940 (tk_ob n most a res c 5)
/-- the text that is read -/
def tk_cx (n : Int) (a : Int → Int) : Prop := (∀ j, n ≤ j → a j = -1) ∧ 0 ≤ n ∧ n ≤ 940
/-- the class's reader has the token at c before it -/
def rd (n most : Int) (a : Int → Int) (res : Nat → Int) (c : Int) (r : Nat → Int) : Prop := r 2 = most ∧ r 3 = tk_ob n most a res c 3 ∧ r 4 = tk_ob n most a res c 4 ∧ tk_sk a 940 (r 5) = tk_nx n most a res c ∧ r 6 = tk_ob n most a res c 6 ∧ (tk_ob n most a res c 3 = 2 → r 7 = tk_ob n most a res c 7) ∧ (tk_ob n most a res c 3 = 3 → r 8 = tk_ob n most a res c 8) ∧ 0 ≤ r 5 ∧ r 5 ≤ n
theorem tk_en_le {a : Int → Int} {n : Int} (hn : ∀ j, n ≤ j → a j = -1) : ∀ (k : Nat) {p : Int}, p ≤ n → tk_en a k p ≤ n
  | 0, p, h => h
  | k + 1, p, h => by
    cases han : tk_an (a p) with
    | false => rw [tk_en_n han]; exact h
    | true =>
      rw [tk_en_y han]
      refine tk_en_le hn k ?_
      by_cases q : p < n
      · omega
      · rw [hn p (by omega)] at han; cases han
theorem tk_T.b5 {n most : Int} {a : Int → Int} {res : Nat → Int} {p q : Int} {r : Nat → Int} (hx : tk_cx n a) (h0 : 0 ≤ p) (h1 : p ≤ n) (hq : q = tk_sk a 940 p) (h : tk_T n most a res p q r) : 0 ≤ r 5 ∧ r 5 ≤ n := by
  obtain ⟨-, s2, s3⟩ := tk_sk_x hx.1 (k := 940) (p := p) (by have := hx.2; omega)
  have s3 := s3 h1
  rcases h with ⟨c, h3, h4, h5, h6⟩ | ⟨c, c2, h3, h4, h5, h6⟩ | ⟨c, c2, h4, h⟩
  · omega
  · omega
  · rcases h with ⟨an, L, D, nm, nu, hr, he, hk⟩ | ⟨an, h5, h6, hk⟩
    · have e1 := tk_en_le hx.1 940 (p := q) (by omega)
      have e2 := tk_en_ge (a := a) (k := 940) (p := q)
      omega
    · omega
theorem tk_ob_b {n most : Int} {a : Int → Int} {res : Nat → Int} {c : Int} (hx : tk_cx n a) (h0 : 0 ≤ c) (h1 : c ≤ n) (hc : tk_sk a 940 c = c) : 0 ≤ tk_nx n most a res c ∧ tk_nx n most a res c ≤ n ∧ tk_sk a 940 (tk_nx n most a res c) = tk_nx n most a res c := by
  obtain ⟨b0, b1⟩ := (tk_ob_T n most a res c).b5 hx h0 h1 hc.symm
  obtain ⟨-, s2, s3⟩ := tk_sk_x hx.1 (k := 940) (p := tk_ob n most a res c 5) (by have := hx.2; omega)
  exact ⟨by unfold tk_nx; omega, s3 b1, tk_sk2 hx.1 hx.2.2 b0⟩
/-- a place where a token may begin -/
def tk_at (n : Int) (a : Int → Int) (c : Int) : Prop := 0 ≤ c ∧ c ≤ n ∧ tk_sk a 940 c = c
theorem tk_at.nx {n most : Int} {a : Int → Int} {res : Nat → Int} {c : Int} (hx : tk_cx n a) (h : tk_at n a c) : tk_at n a (tk_nx n most a res c) := tk_ob_b hx h.1 h.2.1 h.2.2
theorem tk_at.b {n : Int} {a : Int → Int} (hx : tk_cx n a) : tk_at n a (tk_sk a 940 0) := by
  obtain ⟨-, s2, s3⟩ := tk_sk_x hx.1 (k := 940) (p := 0) (by have := hx.2; omega)
  exact ⟨s2, s3 hx.2.1, tk_sk2 hx.1 hx.2.2 (Int.le_refl _)⟩
theorem rd_new {n most : Int} {a : Int → Int} {res : Nat → Int} {p c : Int} {r : Nat → Int} (hx : tk_cx n a) (h0 : 0 ≤ p) (h1 : p ≤ n) (hc : tk_sk a 940 p = c) (hm : r 2 = most) (h : tk_T n most a res p c r) : rd n most a res c r := by
  have hcc : tk_sk a 940 c = c := by rw [← hc]; exact tk_sk2 hx.1 hx.2.2 h0
  obtain ⟨d1, d2, d3, d4, d5, d6⟩ := tk_det hc hcc h (tk_ob_T n most a res c)
  obtain ⟨b0, b1⟩ := h.b5 hx h0 h1 hc.symm
  exact ⟨hm, d1, d2, d3, d4, d5, d6, b0, b1⟩
theorem rd.step {n most : Int} {a : Int → Int} {res : Nat → Int} {c : Int} {r r' : Nat → Int} (hx : tk_cx n a) (h : rd n most a res c r) (hm : r' 2 = r 2) (ht : tk_T n (r 2) a res (r 5) (tk_sk a 940 (r 5)) r') : rd n most a res (tk_nx n most a res c) r' := by
  obtain ⟨h2, h3, h4, h5, h6, h7, h8, h9, h10⟩ := h
  rw [h5, h2] at ht
  exact rd_new hx h9 h10 h5 (hm.trans h2) ht
/-- the reference has the token at c before it -/
def rm (n most : Int) (a : Int → Int) (res : Nat → Int) (c : Int) (F : Nat → Int) : Prop := F 3 = n ∧ F 4 = most ∧ tk_tok res (tk_ob n most a res c) F ∧ tk_ob n most a res c 4 = F 6 ∧ tk_sk a 940 (F 5) = tk_nx n most a res c ∧ 0 ≤ F 5 ∧ F 5 ≤ n
theorem tm_T.b5 {n most : Int} {a : Int → Int} {q : Int} {F : Nat → Int} (hx : tk_cx n a) (h0 : 0 ≤ q) (h1 : q ≤ n) (h : tm_T n most a q F) : 0 ≤ F 5 ∧ F 5 ≤ n := by
  rcases h with ⟨c, h7, h6, h5⟩ | ⟨c, c2, h7, h6, h5⟩ | ⟨c, c2, h6, ⟨an, h5, hk⟩ | ⟨an, h5, hk⟩⟩
  · omega
  · omega
  · have e1 := tk_en_le hx.1 940 (p := q) (by omega)
    have e2 := tk_en_ge (a := a) (k := 940) (p := q)
    omega
  · omega
theorem rm_new {n most : Int} {a : Int → Int} {res : Nat → Int} {c : Int} {F : Nat → Int} (hx : tk_cx n a) (hc : tk_at n a c) (e3 : F 3 = n) (e4 : F 4 = most) (h : tm_T n most a c F) : rm n most a res c F := by
  have hT := tk_ob_T n most a res c
  have hT' : tk_T n most a res c (tk_sk a 940 c) (tk_ob n most a res c) := by rw [hc.2.2]; exact hT
  have hF' : tm_T n most a (tk_sk a 940 c) F := by rw [hc.2.2]; exact h
  obtain ⟨s1, s2, s3⟩ := tk_same hx.1 hx.2.2 hc.1 hc.2.1 hT' hF'
  obtain ⟨b0, b1⟩ := h.b5 hx hc.1 hc.2.1
  exact ⟨e3, e4, s1, s2, s3.symm, b0, b1⟩
