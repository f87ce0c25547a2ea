/-! ALIKE: what the class has kept and what the reference has kept -/
def shf (b : Nat) (A : Nat → Nat → Int) : Nat → Nat → Int := fun p => A (b + p)
/-- the snapshots of both: tapes of length t, reserved words, houses, images' houses (a, b: whether they are kept) -/
def al (Bc : ci_B) (Bm : Nat → Nat → Int) (t a b : Int) : Prop := (0 ≤ t ∧ t ≤ 940) ∧ (∀ j : Nat, (j : Int) < t → Bc.2 2 j = Bm 1 j) ∧ rz (Bc.2 4) ∧ mn (Bc.1 5) (shf 5 Bc.2) (Bm 2) (Bm 7) ∧ (a ≠ 0 → mn (Bc.1 103) (shf 103 Bc.2) (fun z => Bm 4 (392 * 0 + z)) (fun z => Bm 9 (22 * 0 + z))) ∧ (b ≠ 0 → mn (Bc.1 124) (shf 124 Bc.2) (fun z => Bm 4 (392 * 1 + z)) (fun z => Bm 9 (22 * 1 + z)))
theorem mn.cong {o o' : Nat → Int} {Ac Ac' : Nat → Nat → Int} {N f : Nat → Int} (h : mn o Ac N f) (e6 : o' 6 = o 6) (e7 : o' 7 = o 7) (e : Ac' 1 = Ac 1 ∧ Ac' 2 = Ac 2 ∧ Ac' 3 = Ac 3 ∧ Ac' 4 = Ac 4 ∧ Ac' 5 = Ac 5 ∧ Ac' 6 = Ac 6) : mn o' Ac' N f := by
  obtain ⟨e1, e2, e3, e4, e5, e6'⟩ := e
  unfold mn hh_c at h ⊢
  rw [e6, e7, e1, e2, e3, e4, e5, e6']
  exact h
theorem mn.cp {B B' : ci_B} {b b' : Nat} {N f : Nat → Int} (h : mn (B'.1 b') (shf b' B'.2) N f) (hc : hcp b B b' B') : mn (B.1 b) (shf b B.2) N f := h.cong hc.1.1 hc.1.2 ⟨hc.2.1, hc.2.2.1, hc.2.2.2.1, hc.2.2.2.2.1, hc.2.2.2.2.2.1, hc.2.2.2.2.2.2⟩
section AL
variable {Bc B' : ci_B} {Bm M' : Nat → Nat → Int} {t t' a b a' b' : Int}
theorem al.le (h : al Bc Bm t a b) (ht : t' = t ∨ t' = 0) : al Bc Bm t' a b := by
  obtain ⟨h1, h2, h3⟩ := h
  exact ⟨by omega, fun j hj => h2 j (by omega), h3⟩
theorem al.end (h : al Bc Bm t a b) (h0 : 0 ≤ t') (h1 : t' ≤ t) : al Bc Bm t' a b := by
  obtain ⟨g1, h2, h3⟩ := h
  exact ⟨by omega, fun j hj => h2 j (by omega), h3⟩
theorem fbs_eq {f g : Nat → Int} {p x : Int} (hp : 0 ≤ p) (h : ∀ j : Nat, (j : Int) < p → f j = g j) : ∀ (k : Nat) (j : Nat), (j : Int) < p + k → fbs f p x k j = fbs g p x k j
  | 0, j, hj => h j (by omega)
  | k + 1, j, hj => by
    show kk_up (fbs f p x k) (p + (k : Int)).toNat _ j = kk_up (fbs g p x k) (p + (k : Int)).toNat _ j
    by_cases e : j = (p + (k : Int)).toNat
    · rw [← e, kk_up_eq, kk_up_eq]
    · rw [kk_up_ne e, kk_up_ne e]
      exact fbs_eq hp h k j (by omega)
theorem fb5_eq {f g : Nat → Int} {p v1 v2 v3 v4 v5 : Int} (hp : 0 ≤ p) (h : ∀ j : Nat, (j : Int) < p → f j = g j) : ∀ j : Nat, (j : Int) < p + 20 → fb5 f p v1 v2 v3 v4 v5 j = fb5 g p v1 v2 v3 v4 v5 j := by
  intro j hj
  unfold fb5
  exact fbs_eq (by omega) (fun j hj => fbs_eq (by omega) (fun j hj => fbs_eq (by omega) (fun j hj => fbs_eq (by omega) (fun j hj => fbs_eq hp h 4 j (by omega)) 4 j (by omega)) 4 j (by omega)) 4 j (by omega)) 4 j (by omega)
theorem al.tape (h : al Bc Bm t a b) {f f1 : Nat → Int} (h0 : 0 ≤ t' ∧ t' ≤ 940) (hf : ∀ j : Nat, (j : Int) < t' → f j = f1 j) : al (Bc.1, mm_up Bc.2 2 f) (mm_up Bm 1 f1) t' a b := by
  obtain ⟨g1, h2, h3, h4, h5, h6⟩ := h
  exact ⟨h0, hf, h3, h4.cong rfl rfl ⟨rfl, rfl, rfl, rfl, rfl, rfl⟩, fun q => (h5 q).cong rfl rfl ⟨rfl, rfl, rfl, rfl, rfl, rfl⟩, fun q => (h6 q).cong rfl rfl ⟨rfl, rfl, rfl, rfl, rfl, rfl⟩⟩
/-- both texts are one -/
theorem al.text (h : al Bc Bm t a b) : (fun i => tt_v 940 t (Bm 1) i) = (fun i => tt_v 940 t (Bc.2 2) i) := by
  funext i
  show tt_v 940 t (Bm 1) i = tt_v 940 t (Bc.2 2) i
  unfold tt_v
  by_cases q : 0 ≤ i ∧ i < t ∧ i < 940
  · rw [if_pos q, if_pos q]
    exact (h.2.1 i.toNat (by omega)).symm
  · rw [if_neg q, if_neg q]
theorem al.hou (h : al Bc Bm t a b) {o : Nat → Int} {Ac : Nat → Nat → Int} (e2 : B'.2 2 = Bc.2 2) (e4 : B'.2 4 = Bc.2 4) (e103 : hcp 103 B' 103 Bc) (e124 : hcp 124 B' 124 Bc) (eo : B'.1 5 6 = o 6 ∧ B'.1 5 7 = o 7) (ea : B'.2 6 = Ac 1 ∧ B'.2 7 = Ac 2 ∧ B'.2 8 = Ac 3 ∧ B'.2 9 = Ac 4 ∧ B'.2 10 = Ac 5 ∧ B'.2 11 = Ac 6) (hm : mn o Ac (M' 2) (M' 7)) (m1 : M' 1 = Bm 1) (m4 : M' 4 = Bm 4) (m9 : M' 9 = Bm 9) : al B' M' 0 a b := by
  obtain ⟨g1, h2, h3, h4, h5, h6⟩ := h
  refine ⟨by omega, fun j hj => absurd hj (by omega), by rw [e4]; exact h3, hm.cong eo.1 eo.2 ea, fun q => ?_, fun q => ?_⟩
  · rw [m4, m9]; exact (h5 q).cp e103
  · rw [m4, m9]; exact (h6 q).cp e124
theorem al.same (h : al Bc Bm t a b) (m1 : M' 1 = Bm 1) (m2 : ∀ k, k < 67 → M' 2 k = Bm 2 k) (m7 : ∀ k, k < 22 → M' 7 k = Bm 7 k) (m4 : M' 4 = Bm 4) (m9 : M' 9 = Bm 9) : al Bc M' t a b := by
  obtain ⟨g1, h2, h3, h4, h5, h6⟩ := h
  exact ⟨g1, by rw [m1]; exact h2, h3, h4.eq m2 m7, by rw [m4, m9]; exact h5, by rw [m4, m9]; exact h6⟩
theorem al.img0 (h : al Bc Bm t a b) {A : Nat → Nat → Int} (fr : mm_fr Bm A) (e : ci_mvhhi0 Bc Bc B') (m : mm_im 0 A M') : al B' M' t 1 b := by
  obtain ⟨g1, h2, h3, h4, h5, h6⟩ := h
  obtain ⟨f2, f4, f5, f103, f124⟩ := e
  obtain ⟨m0, m1, m2, m3, m4⟩ := m
  obtain ⟨r2, r7, r1, r4, r9⟩ := fr
  have e1 : M' 1 = Bm 1 := (m0 1 (by decide) (by decide) (by decide)).trans r1
  have e2 : ∀ k, k < 67 → M' 2 k = Bm 2 k := fun k hk => by rw [m0 2 (by decide) (by decide) (by decide)]; exact r2 k hk
  have e7 : M' 7 = Bm 7 := (m0 7 (by decide) (by decide) (by decide)).trans r7
  refine ⟨g1, by rw [f2, e1]; exact h2, by rw [f4]; exact h3, (h4.cp f5).eq e2 (fun k _ => by rw [e7]), fun _ => (h4.cp f103).eq (fun k hk => (m1 k (by omega)).trans (r2 k hk)) (fun k hk => (m3 k hk).trans (congrFun r7 k)), fun q => ((h6 q).cp f124).eq (fun k hk => (m2 1 (by decide) (by decide) k (by omega)).trans (congrFun r4 _)) (fun k hk => (m4 1 (by decide) (by decide) k hk).trans (congrFun r9 _))⟩
theorem al.img1 (h : al Bc Bm t a b) {A : Nat → Nat → Int} (fr : mm_fr Bm A) (e : ci_mvhhi1 Bc Bc B') (m : mm_im 1 A M') : al B' M' t a 1 := by
  obtain ⟨g1, h2, h3, h4, h5, h6⟩ := h
  obtain ⟨f2, f4, f5, f103, f124⟩ := e
  obtain ⟨m0, m1, m2, m3, m4⟩ := m
  obtain ⟨r2, r7, r1, r4, r9⟩ := fr
  have e1 : M' 1 = Bm 1 := (m0 1 (by decide) (by decide) (by decide)).trans r1
  have e2 : ∀ k, k < 67 → M' 2 k = Bm 2 k := fun k hk => by rw [m0 2 (by decide) (by decide) (by decide)]; exact r2 k hk
  have e7 : M' 7 = Bm 7 := (m0 7 (by decide) (by decide) (by decide)).trans r7
  refine ⟨g1, by rw [f2, e1]; exact h2, by rw [f4]; exact h3, (h4.cp f5).eq e2 (fun k _ => by rw [e7]), fun q => ((h5 q).cp f103).eq (fun k hk => (m2 0 (by decide) (by decide) k (by omega)).trans (congrFun r4 _)) (fun k hk => (m4 0 (by decide) (by decide) k hk).trans (congrFun r9 _)), fun _ => (h4.cp f124).eq (fun k hk => (m1 k (by omega)).trans (r2 k hk)) (fun k hk => (m3 k hk).trans (congrFun r7 k))⟩
theorem al.rst0 (h : al Bc Bm t a b) {A : Nat → Nat → Int} (fr : mm_fr Bm A) (ha : a ≠ 0) (e : ci_mvhhr0 Bc Bc B') (m : mm_rs 0 A M') : al B' M' t a b := by
  obtain ⟨g1, h2, h3, h4, h5, h6⟩ := h
  obtain ⟨f2, f4, f5, f103, f124⟩ := e
  obtain ⟨m0, m1, m2⟩ := m
  obtain ⟨r2, r7, r1, r4, r9⟩ := fr
  have e1 : M' 1 = Bm 1 := (m0 1 (by decide) (by decide)).trans r1
  have e4 : M' 4 = Bm 4 := (m0 4 (by decide) (by decide)).trans r4
  have e9 : M' 9 = Bm 9 := (m0 9 (by decide) (by decide)).trans r9
  refine ⟨g1, by rw [f2, e1]; exact h2, by rw [f4]; exact h3, ((h5 ha).cp f5).eq (fun k hk => (m1 k (by omega)).trans (congrFun r4 _)) (fun k hk => (m2 k hk).trans (congrFun r9 _)), fun q => by rw [e4, e9]; exact (h5 q).cp f103, fun q => by rw [e4, e9]; exact (h6 q).cp f124⟩
theorem al.rst1 (h : al Bc Bm t a b) {A : Nat → Nat → Int} (fr : mm_fr Bm A) (hb : b ≠ 0) (e : ci_mvhhr1 Bc Bc B') (m : mm_rs 1 A M') : al B' M' t a b := by
  obtain ⟨g1, h2, h3, h4, h5, h6⟩ := h
  obtain ⟨f2, f4, f5, f103, f124⟩ := e
  obtain ⟨m0, m1, m2⟩ := m
  obtain ⟨r2, r7, r1, r4, r9⟩ := fr
  have e1 : M' 1 = Bm 1 := (m0 1 (by decide) (by decide)).trans r1
  have e4 : M' 4 = Bm 4 := (m0 4 (by decide) (by decide)).trans r4
  have e9 : M' 9 = Bm 9 := (m0 9 (by decide) (by decide)).trans r9
  refine ⟨g1, by rw [f2, e1]; exact h2, by rw [f4]; exact h3, ((h6 hb).cp f5).eq (fun k hk => (m1 k (by omega)).trans (congrFun r4 _)) (fun k hk => (m2 k hk).trans (congrFun r9 _)), fun q => by rw [e4, e9]; exact (h5 q).cp f103, fun q => by rw [e4, e9]; exact (h6 q).cp f124⟩
/-- the reference's arrays, where only what al asks is the same -/
theorem al.self (h : al Bc Bm t a b) {A : Nat → Nat → Int} (fr : mm_fr Bm A) : al Bc A t a b := h.same fr.2.2.1 fr.1 (fun k _ => by rw [fr.2.1]) fr.2.2.2.1 fr.2.2.2.2
end AL
/-- what count answers -/
def cn_v (Bm : Nat → Nat → Int) (t q : Int) : Int := if 0 ≤ q ∧ q ≤ 4 then Bm 2 q.toNat else if q = 5 then t else -1
theorem cn_in {Bm : Nat → Nat → Int} {t q : Int} (h : 0 ≤ q ∧ q ≤ 4) : cn_v Bm t q = Bm 2 q.toNat := if_pos h
theorem cn_5 {Bm : Nat → Nat → Int} {t q : Int} (h : q = 5) : cn_v Bm t q = t := by unfold cn_v; rw [if_neg (by omega), if_pos h]
theorem cn_o {Bm : Nat → Nat → Int} {t q : Int} (h : q < 0 ∨ 5 < q) : cn_v Bm t q = -1 := by unfold cn_v; rw [if_neg (by omega), if_neg (by omega)]
set_option maxRecDepth 100000 in
set_option maxHeartbeats 4000000 in
theorem mm_xCount (l : Launch) (d : Nat) {Bm : Nat → Nat → Int} (F : Nat → Int) (A : Nat → Nat → Int) (q : Int) (hI : mm_I Bm F A) : kk_Ctr l d en_t_X11_count [(4, 0), (0, q)] (mm_w F A) (fun rs w' => ∃ F' A', w' = mm_w F' A' ∧ mm_I Bm F' A' ∧ F' 2 = F 2 ∧ A' 10 = A 10 ∧ ∃ x, rs = [(0, x)] ∧ x = cn_v Bm (F 2) q) := by
  have fr := hI.2.2.2.2.2.2.2.2.2.2.2.1
  have e0 := fr 0 (by decide)
  have e1 := fr 1 (by decide)
  have e2 := fr 2 (by decide)
  have e3 := fr 3 (by decide)
  have e4 := fr 4 (by decide)
  refine kk_ctr en_hM (List.mem_of_getElem? (i := 205) rfl) rfl (Nat.le_of_ble_eq_true rfl) (fun K hC => ?_)
  repeat' first | refine hC.gn [] _ rfl rfl ?_ | refine And.intro ?_ ?_ | exact True.intro | refine hC.iadd [] rfl rfl (by first | omega | (simp only [Int.reduceToNat] at *; omega)) ?_ | refine hC.isub [] rfl rfl (by first | omega | (simp only [Int.reduceToNat] at *; omega)) ?_ | refine hC.imul [] rfl rfl (by first | omega | (simp only [Int.reduceToNat] at *; omega)) ?_ | refine hC.iinc [] rfl rfl rfl rfl (by first | omega | (simp only [Int.reduceToNat] at *; omega)) ?_ | refine hC.go [] _ rfl rfl ?_ | (intro h; first | exact (h rfl).elim | (exfalso; cases h; done) | (dsimp only [kk_cP, kk_cN] at h) | skip)
  all_goals first | omega | skip
  all_goals first | exact ⟨kk_up F 0 0, A, rfl, hI, rfl, rfl, _, rfl, (cn_o (by omega)).symm⟩ | exact ⟨kk_up F 0 0, A, rfl, hI, rfl, rfl, _, rfl, (cn_5 (by omega)).symm⟩ | ((obtain rfl : q = 0 := (by omega)); exact ⟨kk_up F 0 0, A, rfl, hI, rfl, rfl, _, rfl, e0.trans (cn_in (Bm := Bm) (t := F 2) (q := 0) (by decide)).symm⟩) | ((obtain rfl : q = 1 := (by omega)); exact ⟨kk_up F 0 0, A, rfl, hI, rfl, rfl, _, rfl, e1.trans (cn_in (Bm := Bm) (t := F 2) (q := 1) (by decide)).symm⟩) | ((obtain rfl : q = 2 := (by omega)); exact ⟨kk_up F 0 0, A, rfl, hI, rfl, rfl, _, rfl, e2.trans (cn_in (Bm := Bm) (t := F 2) (q := 2) (by decide)).symm⟩) | ((obtain rfl : q = 3 := (by omega)); exact ⟨kk_up F 0 0, A, rfl, hI, rfl, rfl, _, rfl, e3.trans (cn_in (Bm := Bm) (t := F 2) (q := 3) (by decide)).symm⟩) | ((obtain rfl : q = 4 := (by omega)); exact ⟨kk_up F 0 0, A, rfl, hI, rfl, rfl, _, rfl, e4.trans (cn_in (Bm := Bm) (t := F 2) (q := 4) (by decide)).symm⟩)
set_option maxRecDepth 100000 in
set_option maxHeartbeats 4000000 in
theorem cr_xCount (l : Launch) (d : Nat) {Bc : ci_B} {Bm : Nat → Nat → Int} {a b tl : Int} (O A : Nat → Nat → Int) (q : Int) (hJ : ci_J Bc tl a b O A) (hA : al Bc Bm tl a b) : kk_Ctr l (d + 40) en_t_X10_count [(4, 0), (0, q)] (cx_C O A) (fun rs w' => ∃ O' A', w' = cx_C O' A' ∧ ci_J Bc tl a b O' A' ∧ ∃ x, rs = [(0, x)] ∧ x = cn_v Bm tl q) := by
  have t1 := hJ.2.1
  obtain ⟨-, -, ⟨⟨o6, o7⟩, a1, -⟩, -⟩ := hJ.fr
  obtain ⟨-, -, -, ⟨-, ⟨n0, n1, n2⟩, ⟨n3, n4⟩, -⟩, -⟩ := hA
  have h01 := hJ.house.2.1
  have e0 : A 6 0 = Bm 2 0 := (congrFun a1 0).trans n0.symm
  have e1 : A 6 1 = Bm 2 1 := (congrFun a1 1).trans n1.symm
  have e2 : A 6 2 = Bm 2 2 := (congrFun a1 2).trans n2.symm
  have e3 : O 5 6 = Bm 2 3 := o6.trans n3.symm
  have e4 : O 5 7 = Bm 2 4 := o7.trans n4.symm
  have v0 : q < 0 ∨ 5 < q → -1 = cn_v Bm tl q := fun h => (cn_o h).symm
  have v1 : 0 ≤ q ∧ q ≤ 2 → A 6 q.toNat = cn_v Bm tl q := fun h => by
    rw [cn_in (by omega)]
    rcases (show q = 0 ∨ q = 1 ∨ q = 2 by omega) with rfl | rfl | rfl
    · exact e0
    · exact e1
    · exact e2
  have v3 : q = 3 → O 5 6 = cn_v Bm tl q := fun h => by rw [cn_in (by omega), h]; exact e3
  have v4 : q = 4 → O 5 7 = cn_v Bm tl q := fun h => by rw [cn_in (by omega), h]; exact e4
  have v5 : q = 5 → O 1 1 = cn_v Bm tl q := fun h => by rw [cn_5 h]; exact t1
  generalize cn_v Bm tl q = x at *
  refine kk_ctr en_hM (List.mem_of_getElem? (i := 33) rfl) rfl (Nat.le_of_ble_eq_true rfl) (fun K hC => ?_)
  repeat' first | refine hC.gw [] _ rfl rfl ?_ | refine And.intro ?_ ?_ | exact True.intro | refine hC.iadd [] rfl rfl (by first | omega | (simp only [Int.reduceToNat] at *; omega)) ?_ | refine hC.isub [] rfl rfl (by first | omega | (simp only [Int.reduceToNat] at *; omega)) ?_ | refine hC.imul [] rfl rfl (by first | omega | (simp only [Int.reduceToNat] at *; omega)) ?_ | refine hC.iinc [] rfl rfl rfl rfl (by first | omega | (simp only [Int.reduceToNat] at *; omega)) ?_ | refine hC.pfw (W := cx_C) [] rfl rfl rfl rfl rfl rfl ?_ ?_ | refine hC.iaw (W := cx_C) [] rfl rfl rfl rfl ?_ ?_ | refine hC.law (W := cx_C) [] rfl rfl rfl rfl ?_ ?_ | refine hC.cpw (W := cx_C) [] rfl rfl rfl rfl rfl rfl ?_ | refine hC.cpl (W := cx_C) [] rfl rfl rfl rfl rfl rfl ?_ | refine hC.go [] _ rfl rfl ?_ | (intro h; first | exact (h rfl).elim | (exfalso; cases h; done) | (dsimp only [kk_cP, kk_cN] at h) | skip)
  all_goals first | omega | exact ⟨_, _, rfl, hJ, _, rfl, v0 (by omega)⟩ | exact ⟨_, _, rfl, hJ, _, rfl, v1 (by omega)⟩ | exact ⟨_, _, rfl, hJ, _, rfl, v3 (by omega)⟩ | exact ⟨_, _, rfl, hJ, _, rfl, v5 (by omega)⟩ | exact ⟨_, _, rfl, hJ, _, rfl, (show (1 : Int) = x by have := v4 (by omega); omega)⟩ | exact ⟨_, _, rfl, hJ, _, rfl, (show (0 : Int) = x by have := v4 (by omega); omega)⟩
