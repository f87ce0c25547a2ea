/-! ALIKE: what the class has kept and what the reference has kept -/
def shf (b : Nat) (A : Nat → Nat → Int) : Nat → Nat → Int := fun p => A (b + p)
/-- the snapshots of both: tapes of length t, reserved words, houses, images' houses (a, b: whether they are kept) -/
def al0 (Bc : ci_B) (Bm : Nat → Nat → Int) (t a b : Int) : Prop := (0 ≤ t ∧ t ≤ 940) ∧ (∀ j : Nat, (j : Int) < t → Bc.2 2 j = Bm 1 j) ∧ rz (Bc.2 4) ∧ mn (Bc.1 5) (shf 5 Bc.2) (Bm 2) (Bm 7) ∧ (a ≠ 0 → mn (Bc.1 103) (shf 103 Bc.2) (fun z => Bm 4 (392 * 0 + z)) (fun z => Bm 9 (22 * 0 + z))) ∧ (b ≠ 0 → mn (Bc.1 124) (shf 124 Bc.2) (fun z => Bm 4 (392 * 1 + z)) (fun z => Bm 9 (22 * 1 + z)))
theorem mn.cong {o o' : Nat → Int} {Ac Ac' : Nat → Nat → Int} {N f : Nat → Int} (h : mn o Ac N f) (e6 : o' 6 = o 6) (e7 : o' 7 = o 7) (e : Ac' 1 = Ac 1 ∧ Ac' 2 = Ac 2 ∧ Ac' 3 = Ac 3 ∧ Ac' 4 = Ac 4 ∧ Ac' 5 = Ac 5 ∧ Ac' 6 = Ac 6) : mn o' Ac' N f := by
  obtain ⟨e1, e2, e3, e4, e5, e6'⟩ := e
  unfold mn hh_c at h ⊢
  rw [e6, e7, e1, e2, e3, e4, e5, e6']
  exact h
theorem mn.cp {B B' : ci_B} {b b' : Nat} {N f : Nat → Int} (h : mn (B'.1 b') (shf b' B'.2) N f) (hc : hcp b B b' B') : mn (B.1 b) (shf b B.2) N f := h.cong hc.1.1 hc.1.2 ⟨hc.2.1, hc.2.2.1, hc.2.2.2.1, hc.2.2.2.2.1, hc.2.2.2.2.2.1, hc.2.2.2.2.2.2⟩
section AL
variable {Bc B' : ci_B} {Bm M' : Nat → Nat → Int} {t t' a b a' b' : Int}
theorem al0.le (h : al0 Bc Bm t a b) (ht : t' = t ∨ t' = 0) : al0 Bc Bm t' a b := by
  obtain ⟨h1, h2, h3⟩ := h
  exact ⟨by omega, fun j hj => h2 j (by omega), h3⟩
theorem al0.end (h : al0 Bc Bm t a b) (h0 : 0 ≤ t') (h1 : t' ≤ t) : al0 Bc Bm t' a b := by
  obtain ⟨g1, h2, h3⟩ := h
  exact ⟨by omega, fun j hj => h2 j (by omega), h3⟩
theorem fbs_eq {f g : Nat → Int} {p x : Int} (hp : 0 ≤ p) (h : ∀ j : Nat, (j : Int) < p → f j = g j) : ∀ (k : Nat) (j : Nat), (j : Int) < p + k → fbs f p x k j = fbs g p x k j
  | 0, j, hj => h j (by omega)
  | k + 1, j, hj => by
    show kk_up (fbs f p x k) (p + (k : Int)).toNat _ j = kk_up (fbs g p x k) (p + (k : Int)).toNat _ j
    by_cases e : j = (p + (k : Int)).toNat
    · rw [← e, kk_up_eq, kk_up_eq]
    · rw [kk_up_ne e, kk_up_ne e]
      exact fbs_eq hp h k j (by omega)
theorem fb5_eq {f g : Nat → Int} {p v1 v2 v3 v4 v5 : Int} (hp : 0 ≤ p) (h : ∀ j : Nat, (j : Int) < p → f j = g j) : ∀ j : Nat, (j : Int) < p + 20 → fb5 f p v1 v2 v3 v4 v5 j = fb5 g p v1 v2 v3 v4 v5 j := by
  intro j hj
  unfold fb5
  exact fbs_eq (by omega) (fun j hj => fbs_eq (by omega) (fun j hj => fbs_eq (by omega) (fun j hj => fbs_eq (by omega) (fun j hj => fbs_eq hp h 4 j (by omega)) 4 j (by omega)) 4 j (by omega)) 4 j (by omega)) 4 j (by omega)
theorem al0.tape (h : al0 Bc Bm t a b) {f f1 : Nat → Int} (h0 : 0 ≤ t' ∧ t' ≤ 940) (hf : ∀ j : Nat, (j : Int) < t' → f j = f1 j) : al0 (Bc.1, mm_up Bc.2 2 f) (mm_up Bm 1 f1) t' a b := by
  obtain ⟨g1, h2, h3, h4, h5, h6⟩ := h
  exact ⟨h0, hf, h3, h4.cong rfl rfl ⟨rfl, rfl, rfl, rfl, rfl, rfl⟩, fun q => (h5 q).cong rfl rfl ⟨rfl, rfl, rfl, rfl, rfl, rfl⟩, fun q => (h6 q).cong rfl rfl ⟨rfl, rfl, rfl, rfl, rfl, rfl⟩⟩
-- both texts are one
theorem al0.text (h : al0 Bc Bm t a b) : (fun i => tt_v 940 t (Bm 1) i) = (fun i => tt_v 940 t (Bc.2 2) i) := by
  funext i
  show tt_v 940 t (Bm 1) i = tt_v 940 t (Bc.2 2) i
  unfold tt_v
  by_cases q : 0 ≤ i ∧ i < t ∧ i < 940
  · rw [if_pos q, if_pos q]
    exact (h.2.1 i.toNat (by omega)).symm
  · rw [if_neg q, if_neg q]
theorem al0.hou (h : al0 Bc Bm t a b) {o : Nat → Int} {Ac : Nat → Nat → Int} (e2 : B'.2 2 = Bc.2 2) (e4 : B'.2 4 = Bc.2 4) (e103 : hcp 103 B' 103 Bc) (e124 : hcp 124 B' 124 Bc) (eo : B'.1 5 6 = o 6 ∧ B'.1 5 7 = o 7) (ea : B'.2 6 = Ac 1 ∧ B'.2 7 = Ac 2 ∧ B'.2 8 = Ac 3 ∧ B'.2 9 = Ac 4 ∧ B'.2 10 = Ac 5 ∧ B'.2 11 = Ac 6) (hm : mn o Ac (M' 2) (M' 7)) (m1 : M' 1 = Bm 1) (m4 : M' 4 = Bm 4) (m9 : M' 9 = Bm 9) : al0 B' M' 0 a b := by
  obtain ⟨g1, h2, h3, h4, h5, h6⟩ := h
  refine ⟨by omega, fun j hj => absurd hj (by omega), by rw [e4]; exact h3, hm.cong eo.1 eo.2 ea, fun q => ?_, fun q => ?_⟩
  · rw [m4, m9]; exact (h5 q).cp e103
  · rw [m4, m9]; exact (h6 q).cp e124
theorem al0.same (h : al0 Bc Bm t a b) (m1 : M' 1 = Bm 1) (m2 : ∀ k, k < 67 → M' 2 k = Bm 2 k) (m7 : ∀ k, k < 22 → M' 7 k = Bm 7 k) (m4 : M' 4 = Bm 4) (m9 : M' 9 = Bm 9) : al0 Bc M' t a b := by
  obtain ⟨g1, h2, h3, h4, h5, h6⟩ := h
  exact ⟨g1, by rw [m1]; exact h2, h3, h4.eq m2 m7, by rw [m4, m9]; exact h5, by rw [m4, m9]; exact h6⟩
theorem al0.img0 (h : al0 Bc Bm t a b) {cv wa fa : Int} {A : Nat → Nat → Int} (fr : mm_fr Bm cv wa fa A) (e : ci_mvhhi0 Bc Bc B') (m : mm_im 0 A M') : al0 B' M' t 1 b := by
  obtain ⟨g1, h2, h3, h4, h5, h6⟩ := h
  obtain ⟨f2, f4, f5, f103, f124, -⟩ := e
  obtain ⟨m0, m1, m2, m3, m4⟩ := m
  obtain ⟨r2, r7, r1, r4, r9, -⟩ := fr
  have e1 : M' 1 = Bm 1 := (m0 1 (by decide) (by decide) (by decide)).trans r1
  have e2 : ∀ k, k < 67 → M' 2 k = Bm 2 k := fun k hk => by rw [m0 2 (by decide) (by decide) (by decide)]; exact r2 k hk
  have e7 : M' 7 = Bm 7 := (m0 7 (by decide) (by decide) (by decide)).trans r7
  refine ⟨g1, by rw [f2, e1]; exact h2, by rw [f4]; exact h3, (h4.cp f5).eq e2 (fun k _ => by rw [e7]), fun _ => (h4.cp f103).eq (fun k hk => (m1 k (by omega)).trans (r2 k hk)) (fun k hk => (m3 k hk).trans (congrFun r7 k)), fun q => ((h6 q).cp f124).eq (fun k hk => (m2 1 (by decide) (by decide) k (by omega)).trans (congrFun r4 _)) (fun k hk => (m4 1 (by decide) (by decide) k hk).trans (congrFun r9 _))⟩
theorem al0.img1 (h : al0 Bc Bm t a b) {cv wa fa : Int} {A : Nat → Nat → Int} (fr : mm_fr Bm cv wa fa A) (e : ci_mvhhi1 Bc Bc B') (m : mm_im 1 A M') : al0 B' M' t a 1 := by
  obtain ⟨g1, h2, h3, h4, h5, h6⟩ := h
  obtain ⟨f2, f4, f5, f103, f124, -⟩ := e
  obtain ⟨m0, m1, m2, m3, m4⟩ := m
  obtain ⟨r2, r7, r1, r4, r9, -⟩ := fr
  have e1 : M' 1 = Bm 1 := (m0 1 (by decide) (by decide) (by decide)).trans r1
  have e2 : ∀ k, k < 67 → M' 2 k = Bm 2 k := fun k hk => by rw [m0 2 (by decide) (by decide) (by decide)]; exact r2 k hk
  have e7 : M' 7 = Bm 7 := (m0 7 (by decide) (by decide) (by decide)).trans r7
  refine ⟨g1, by rw [f2, e1]; exact h2, by rw [f4]; exact h3, (h4.cp f5).eq e2 (fun k _ => by rw [e7]), fun q => ((h5 q).cp f103).eq (fun k hk => (m2 0 (by decide) (by decide) k (by omega)).trans (congrFun r4 _)) (fun k hk => (m4 0 (by decide) (by decide) k hk).trans (congrFun r9 _)), fun _ => (h4.cp f124).eq (fun k hk => (m1 k (by omega)).trans (r2 k hk)) (fun k hk => (m3 k hk).trans (congrFun r7 k))⟩
theorem al0.rst0 (h : al0 Bc Bm t a b) {cv wa fa : Int} {A : Nat → Nat → Int} (fr : mm_fr Bm cv wa fa A) (ha : a ≠ 0) (e : ci_mvhhr0 Bc Bc B') (m : mm_rs 0 A M') : al0 B' M' t a b := by
  obtain ⟨g1, h2, h3, h4, h5, h6⟩ := h
  obtain ⟨f2, f4, f5, f103, f124, -⟩ := e
  obtain ⟨m0, m1, m2⟩ := m
  obtain ⟨r2, r7, r1, r4, r9, -⟩ := fr
  have e1 : M' 1 = Bm 1 := (m0 1 (by decide) (by decide)).trans r1
  have e4 : M' 4 = Bm 4 := (m0 4 (by decide) (by decide)).trans r4
  have e9 : M' 9 = Bm 9 := (m0 9 (by decide) (by decide)).trans r9
  refine ⟨g1, by rw [f2, e1]; exact h2, by rw [f4]; exact h3, ((h5 ha).cp f5).eq (fun k hk => (m1 k (by omega)).trans (congrFun r4 _)) (fun k hk => (m2 k hk).trans (congrFun r9 _)), fun q => by rw [e4, e9]; exact (h5 q).cp f103, fun q => by rw [e4, e9]; exact (h6 q).cp f124⟩
theorem al0.rst1 (h : al0 Bc Bm t a b) {cv wa fa : Int} {A : Nat → Nat → Int} (fr : mm_fr Bm cv wa fa A) (hb : b ≠ 0) (e : ci_mvhhr1 Bc Bc B') (m : mm_rs 1 A M') : al0 B' M' t a b := by
  obtain ⟨g1, h2, h3, h4, h5, h6⟩ := h
  obtain ⟨f2, f4, f5, f103, f124, -⟩ := e
  obtain ⟨m0, m1, m2⟩ := m
  obtain ⟨r2, r7, r1, r4, r9, -⟩ := fr
  have e1 : M' 1 = Bm 1 := (m0 1 (by decide) (by decide)).trans r1
  have e4 : M' 4 = Bm 4 := (m0 4 (by decide) (by decide)).trans r4
  have e9 : M' 9 = Bm 9 := (m0 9 (by decide) (by decide)).trans r9
  refine ⟨g1, by rw [f2, e1]; exact h2, by rw [f4]; exact h3, ((h6 hb).cp f5).eq (fun k hk => (m1 k (by omega)).trans (congrFun r4 _)) (fun k hk => (m2 k hk).trans (congrFun r9 _)), fun q => by rw [e4, e9]; exact (h5 q).cp f103, fun q => by rw [e4, e9]; exact (h6 q).cp f124⟩
-- the reference's arrays, where only what al0 asks is the same
theorem al0.self (h : al0 Bc Bm t a b) {cv wa fa : Int} {A : Nat → Nat → Int} (fr : mm_fr Bm cv wa fa A) : al0 Bc A t a b := h.same fr.2.2.1 fr.1 (fun k _ => by rw [fr.2.1]) fr.2.2.2.1 fr.2.2.2.2.1
end AL
/-- and the numbers that covering and watch tell, and what no house mixes up -/
def mu (Bm : Nat → Nat → Int) (k : Nat) (v : Int) : Nat → Nat → Int := mm_up Bm 20 (kk_up (Bm 20) k v)
theorem kk_up_id {f : Nat → Int} {k : Nat} : kk_up f k (f k) = f := by
  funext j
  by_cases e : j = k
  · rw [e, kk_up_eq]
  · rw [kk_up_ne e]
set_option maxRecDepth 100000 in
set_option maxHeartbeats 4000000 in
theorem mm_up_id {A : Nat → Nat → Int} {k : Nat} : mm_up A k (A k) = A := by
  funext j
  by_cases e : j = k
  · rw [e]; unfold mm_up; rw [Nat.beq_refl]; rfl
  · rw [mm_up_ne e]
theorem cu_id {B : ci_B} {b : Nat} : cu B b (B.1 0 b) = B := by unfold cu; rw [kk_up_id, mm_up_id]
theorem mu_id {Bm : Nat → Nat → Int} {k : Nat} : mu Bm k (Bm 20 k) = Bm := by unfold mu; rw [kk_up_id, mm_up_id]
def al (Bc : ci_B) (Bm : Nat → Nat → Int) (t a b : Int) : Prop := al0 Bc Bm t a b ∧ (Bc.1 0 16 = Bm 20 1 ∧ Bc.1 0 17 = Bm 20 2 ∧ Bc.1 0 15 = Bm 20 0) ∧ dj (Bc.2 9) (Bc.2 10) ∧ (a ≠ 0 → dj (Bc.2 107) (Bc.2 108)) ∧ (b ≠ 0 → dj (Bc.2 128) (Bc.2 129))
theorem hcp.dj {b b' : Nat} {B B' : ci_B} (h : hcp b B b' B') (hd : dj (B'.2 (b' + 4)) (B'.2 (b' + 5))) : dj (B.2 (b + 4)) (B.2 (b + 5)) := by
  rw [h.2.2.2.2.1, h.2.2.2.2.2.1]
  exact hd
section AL3
variable {Bc B' : ci_B} {Bm M' : Nat → Nat → Int} {t t' a b : Int}
theorem al.le (h : al Bc Bm t a b) (ht : t' = t ∨ t' = 0) : al Bc Bm t' a b := ⟨h.1.le ht, h.2⟩
theorem al.end (h : al Bc Bm t a b) (h0 : 0 ≤ t') (h1 : t' ≤ t) : al Bc Bm t' a b := ⟨h.1.end h0 h1, h.2⟩
theorem al.tape (h : al Bc Bm t a b) {f f1 : Nat → Int} (h0 : 0 ≤ t' ∧ t' ≤ 940) (hf : ∀ j : Nat, (j : Int) < t' → f j = f1 j) : al (Bc.1, mm_up Bc.2 2 f) (mm_up Bm 1 f1) t' a b := ⟨h.1.tape h0 hf, h.2⟩
theorem al.text (h : al Bc Bm t a b) : (fun i => tt_v 940 t (Bm 1) i) = (fun i => tt_v 940 t (Bc.2 2) i) := h.1.text
theorem al.hou (h : al Bc Bm t a b) {o : Nat → Int} {Ac : Nat → Nat → Int} (e2 : B'.2 2 = Bc.2 2) (e4 : B'.2 4 = Bc.2 4) (e103 : hcp 103 B' 103 Bc) (e124 : hcp 124 B' 124 Bc) {v : Int} (es : B'.1 0 16 = Bc.1 0 16 ∧ B'.1 0 17 = Bc.1 0 17 ∧ B'.1 0 15 = v) (eo : B'.1 5 6 = o 6 ∧ B'.1 5 7 = o 7) (ea : B'.2 6 = Ac 1 ∧ B'.2 7 = Ac 2 ∧ B'.2 8 = Ac 3 ∧ B'.2 9 = Ac 4 ∧ B'.2 10 = Ac 5 ∧ B'.2 11 = Ac 6) (hd : dj (Ac 4) (Ac 5)) (hm : mn o Ac (M' 2) (M' 7)) (m1 : M' 1 = Bm 1) (m4 : M' 4 = Bm 4) (m9 : M' 9 = Bm 9) : al B' (fu (sb Bm M') v) 0 a b := by
  have h0 : al0 B' M' 0 a b := h.1.hou e2 e4 e103 e124 eo ea hm m1 m4 m9
  refine ⟨h0, ⟨es.1.trans h.2.1.1, es.2.1.trans h.2.1.2.1, es.2.2⟩, ?_, fun q => e103.dj (h.2.2.2.1 q), fun q => e124.dj (h.2.2.2.2 q)⟩
  rw [ea.2.2.2.1, ea.2.2.2.2.1]
  exact hd
theorem al.sameb (h : al Bc Bm t a b) (m1 : M' 1 = Bm 1) (m2 : ∀ k, k < 67 → M' 2 k = Bm 2 k) (m7 : ∀ k, k < 22 → M' 7 k = Bm 7 k) (m4 : M' 4 = Bm 4) (m9 : M' 9 = Bm 9) : al Bc (sb Bm M') t a b := ⟨(h.1.same m1 m2 m7 m4 m9 : al0 Bc M' t a b), h.2⟩
theorem al.img0 (h : al Bc Bm t a b) {cv wa fa : Int} {A : Nat → Nat → Int} (fr : mm_fr Bm cv wa fa A) (e : ci_mvhhi0 Bc Bc B') (m : mm_im 0 A M') : al B' (sb Bm M') t 1 b := by
  have h0 : al0 B' M' t 1 b := h.1.img0 fr e m
  obtain ⟨-, -, f5, f103, f124, fs⟩ := e
  exact ⟨h0, ⟨fs.1.trans h.2.1.1, fs.2.1.trans h.2.1.2.1, fs.2.2.trans h.2.1.2.2⟩, f5.dj h.2.2.1, fun _ => f103.dj h.2.2.1, fun q => f124.dj (h.2.2.2.2 q)⟩
theorem al.img1 (h : al Bc Bm t a b) {cv wa fa : Int} {A : Nat → Nat → Int} (fr : mm_fr Bm cv wa fa A) (e : ci_mvhhi1 Bc Bc B') (m : mm_im 1 A M') : al B' (sb Bm M') t a 1 := by
  have h0 : al0 B' M' t a 1 := h.1.img1 fr e m
  obtain ⟨-, -, f5, f103, f124, fs⟩ := e
  exact ⟨h0, ⟨fs.1.trans h.2.1.1, fs.2.1.trans h.2.1.2.1, fs.2.2.trans h.2.1.2.2⟩, f5.dj h.2.2.1, fun q => f103.dj (h.2.2.2.1 q), fun _ => f124.dj h.2.2.1⟩
theorem al.rst0 (h : al Bc Bm t a b) {cv wa fa : Int} {A : Nat → Nat → Int} (fr : mm_fr Bm cv wa fa A) (ha : a ≠ 0) (e : ci_mvhhr0 Bc Bc B') (m : mm_rs 0 A M') : al B' (sb Bm M') t a b := by
  have h0 : al0 B' M' t a b := h.1.rst0 fr ha e m
  obtain ⟨-, -, f5, f103, f124, fs⟩ := e
  exact ⟨h0, ⟨fs.1.trans h.2.1.1, fs.2.1.trans h.2.1.2.1, fs.2.2.trans h.2.1.2.2⟩, f5.dj (h.2.2.2.1 ha), fun q => f103.dj (h.2.2.2.1 q), fun q => f124.dj (h.2.2.2.2 q)⟩
theorem al.rst1 (h : al Bc Bm t a b) {cv wa fa : Int} {A : Nat → Nat → Int} (fr : mm_fr Bm cv wa fa A) (hb : b ≠ 0) (e : ci_mvhhr1 Bc Bc B') (m : mm_rs 1 A M') : al B' (sb Bm M') t a b := by
  have h0 : al0 B' M' t a b := h.1.rst1 fr hb e m
  obtain ⟨-, -, f5, f103, f124, fs⟩ := e
  exact ⟨h0, ⟨fs.1.trans h.2.1.1, fs.2.1.trans h.2.1.2.1, fs.2.2.trans h.2.1.2.2⟩, f5.dj (h.2.2.2.2 hb), fun q => f103.dj (h.2.2.2.1 q), fun q => f124.dj (h.2.2.2.2 q)⟩
theorem al.self (h : al Bc Bm t a b) {cv wa fa : Int} {A : Nat → Nat → Int} (fr : mm_fr Bm cv wa fa A) : al Bc (sb Bm A) t a b := ⟨(h.1.self fr : al0 Bc A t a b), h.2⟩
theorem al.rg (h : al Bc Bm t a b) : ∀ j : Nat, j < 10 → (0 ≤ Bm 2 (15 + j) ∧ Bm 2 (15 + j) < 256) ∧ 0 ≤ Bm 2 (25 + j) ∧ Bm 2 (25 + j) < 256 := by
  intro j hj
  obtain ⟨-, -, -, ⟨-, -, -, n5, -⟩, -⟩ := h.1
  obtain ⟨-, q1, q2, q3, q4⟩ := n5 j hj
  rw [q1, q2]
  exact ⟨q3, q4⟩
theorem al.dj (h : al Bc Bm t a b) : dj (fun j => Bm 2 (15 + j)) (fun j => Bm 2 (25 + j)) := by
  obtain ⟨-, -, -, ⟨-, -, -, n5, -⟩, -⟩ := h.1
  exact h.2.2.1.eq (fun j hj => ⟨(n5 j hj).2.1, (n5 j hj).2.2.1⟩)
theorem al.cov (h : al Bc Bm t a b) (v : Int) : al (cu Bc 16 v) (mu Bm 1 v) t a b := ⟨(h.1 : al0 Bc Bm t a b), ⟨rfl, h.2.1.2⟩, h.2.2⟩
theorem al.wat (h : al Bc Bm t a b) (v : Int) : al (cu Bc 17 v) (mu Bm 2 v) t a b := ⟨(h.1 : al0 Bc Bm t a b), ⟨h.2.1.1, rfl, h.2.1.2.2⟩, h.2.2⟩
theorem al.flt (h : al Bc Bm t a b) (v : Int) : al (cu Bc 15 v) (fu Bm v) t a b := ⟨(h.1 : al0 Bc Bm t a b), ⟨h.2.1.1, h.2.1.2.1, rfl⟩, h.2.2⟩
end AL3
section MI3
variable {Bm : Nat → Nat → Int} {F : Nat → Int} {A : Nat → Nat → Int}
set_option maxRecDepth 100000 in
set_option maxHeartbeats 4000000 in
theorem mm_I.f2 (h : mm_I Bm F A) : ∀ k, k < 67 → A 2 k = Bm 2 k := h.2.2.2.2.2.2.2.2.2.2.2.1
set_option maxRecDepth 100000 in
set_option maxHeartbeats 4000000 in
theorem mm_I.f1 (h : mm_I Bm F A) : A 1 = Bm 1 := h.2.2.2.2.2.2.2.2.2.2.2.2.2.1
set_option maxRecDepth 100000 in
set_option maxHeartbeats 4000000 in
theorem mm_I.cv (h : mm_I Bm F A) : F 26 = Bm 20 1 := h.2.2.2.2.2.2.2.2.2.2.2.2.2.2.2.2.1
set_option maxRecDepth 100000 in
set_option maxHeartbeats 4000000 in
theorem mm_I.wa (h : mm_I Bm F A) : F 35 = Bm 20 2 := h.2.2.2.2.2.2.2.2.2.2.2.2.2.2.2.2.2.1
set_option maxRecDepth 100000 in
set_option maxHeartbeats 4000000 in
theorem mm_I.fa (h : mm_I Bm F A) : F 10 = Bm 20 0 := h.2.2.2.2.2.2.2.2.2.2.2.2.2.2.2.2.2.2
set_option maxRecDepth 100000 in
set_option maxHeartbeats 4000000 in
theorem mm_I.cov (h : mm_I Bm F A) {v : Int} : mm_I (mu Bm 1 v) (kk_up F 26 v) A := by
  obtain ⟨h0, z1, z2, z3, z4, z5, z6, z7, z8, z9, z10, f1, f2, f3, f4, f5, -, g2, g3⟩ := h
  exact ⟨h0, z1, z2, z3, z4, z5, z6, z7, z8, z9, z10, f1, f2, f3, f4, f5, rfl, g2, g3⟩
set_option maxRecDepth 100000 in
set_option maxHeartbeats 4000000 in
theorem mm_I.wat {H : Nat → Int} {v : Int} (h : mm_I Bm F A) (hH : ∀ j, j ≠ 35 → H j = F j) (hv : H 35 = v) : mm_I (mu Bm 2 v) H A := by
  obtain ⟨h0, z1, z2, z3, z4, z5, z6, z7, z8, z9, z10, f1, f2, f3, f4, f5, g1, -, g3⟩ := h
  refine ⟨by rw [hH 2 (by decide)]; exact h0, ?_⟩
  rw [hH 23 (by decide), hH 31 (by decide), hH 37 (by decide), hH 26 (by decide), hv, hH 10 (by decide)]
  exact ⟨z1, z2, z3, z4, z5, z6, z7, z8, z9, z10, f1, f2, f3, f4, f5, g1, rfl, g3⟩
end MI3
/-- what count answers -/
def cn_v (Bm : Nat → Nat → Int) (t q : Int) : Int := if 0 ≤ q ∧ q ≤ 4 then Bm 2 q.toNat else if q = 5 then t else -1
theorem cn_in {Bm : Nat → Nat → Int} {t q : Int} (h : 0 ≤ q ∧ q ≤ 4) : cn_v Bm t q = Bm 2 q.toNat := if_pos h
theorem cn_5 {Bm : Nat → Nat → Int} {t q : Int} (h : q = 5) : cn_v Bm t q = t := by unfold cn_v; rw [if_neg (by omega), if_pos h]
theorem cn_o {Bm : Nat → Nat → Int} {t q : Int} (h : q < 0 ∨ 5 < q) : cn_v Bm t q = -1 := by unfold cn_v; rw [if_neg (by omega), if_neg (by omega)]
set_option maxRecDepth 100000 in
set_option maxHeartbeats 4000000 in
theorem mm_xCount (l : Launch) (d : Nat) {Bm : Nat → Nat → Int} (F : Nat → Int) (A : Nat → Nat → Int) (q : Int) (hI : mm_I Bm F A) : kk_Ctr l d en_t_X11_count [(4, 0), (0, q)] (mm_w F A) (fun rs w' => ∃ F' A', w' = mm_w F' A' ∧ mm_I Bm F' A' ∧ F' 2 = F 2 ∧ A' 10 = A 10 ∧ ∃ x, rs = [(0, x)] ∧ x = cn_v Bm (F 2) q) := by
  have fr := hI.2.2.2.2.2.2.2.2.2.2.2.1
  have e0 := fr 0 (by decide)
  have e1 := fr 1 (by decide)
  have e2 := fr 2 (by decide)
  have e3 := fr 3 (by decide)
  have e4 := fr 4 (by decide)
  refine kk_ctr en_hM (List.mem_of_getElem? (i := 205) rfl) rfl (Nat.le_of_ble_eq_true rfl) (fun K hC => ?_)
  repeat' first | refine hC.gn [] _ rfl rfl ?_ | refine And.intro ?_ ?_ | exact True.intro | refine hC.iadd [] rfl rfl (by first | omega | (simp only [Int.reduceToNat] at *; omega)) ?_ | refine hC.isub [] rfl rfl (by first | omega | (simp only [Int.reduceToNat] at *; omega)) ?_ | refine hC.imul [] rfl rfl (by first | omega | (simp only [Int.reduceToNat] at *; omega)) ?_ | refine hC.iinc [] rfl rfl rfl rfl (by first | omega | (simp only [Int.reduceToNat] at *; omega)) ?_ | refine hC.go [] _ rfl rfl ?_ | (intro h; first | exact (h rfl).elim | (exfalso; cases h; done) | (dsimp only [kk_cP, kk_cN] at h) | skip)
  all_goals first | omega | skip
  all_goals first | exact ⟨kk_up F 0 0, A, rfl, hI, rfl, rfl, _, rfl, (cn_o (by omega)).symm⟩ | exact ⟨kk_up F 0 0, A, rfl, hI, rfl, rfl, _, rfl, (cn_5 (by omega)).symm⟩ | ((obtain rfl : q = 0 := (by omega)); exact ⟨kk_up F 0 0, A, rfl, hI, rfl, rfl, _, rfl, e0.trans (cn_in (Bm := Bm) (t := F 2) (q := 0) (by decide)).symm⟩) | ((obtain rfl : q = 1 := (by omega)); exact ⟨kk_up F 0 0, A, rfl, hI, rfl, rfl, _, rfl, e1.trans (cn_in (Bm := Bm) (t := F 2) (q := 1) (by decide)).symm⟩) | ((obtain rfl : q = 2 := (by omega)); exact ⟨kk_up F 0 0, A, rfl, hI, rfl, rfl, _, rfl, e2.trans (cn_in (Bm := Bm) (t := F 2) (q := 2) (by decide)).symm⟩) | ((obtain rfl : q = 3 := (by omega)); exact ⟨kk_up F 0 0, A, rfl, hI, rfl, rfl, _, rfl, e3.trans (cn_in (Bm := Bm) (t := F 2) (q := 3) (by decide)).symm⟩) | ((obtain rfl : q = 4 := (by omega)); exact ⟨kk_up F 0 0, A, rfl, hI, rfl, rfl, _, rfl, e4.trans (cn_in (Bm := Bm) (t := F 2) (q := 4) (by decide)).symm⟩)
set_option maxRecDepth 100000 in
set_option maxHeartbeats 4000000 in
theorem cr_xCount (l : Launch) (d : Nat) {Bc : ci_B} {Bm : Nat → Nat → Int} {a b tl : Int} (O A : Nat → Nat → Int) (q : Int) (hJ : ci_J Bc tl a b O A) (hA : al Bc Bm tl a b) : kk_Ctr l (d + 40) en_t_X10_count [(4, 0), (0, q)] (cx_C O A) (fun rs w' => ∃ O' A', w' = cx_C O' A' ∧ ci_J Bc tl a b O' A' ∧ ∃ x, rs = [(0, x)] ∧ x = cn_v Bm tl q) := by
  have t1 := hJ.2.1
  obtain ⟨-, -, ⟨⟨o6, o7⟩, a1, -⟩, -⟩ := hJ.fr
  obtain ⟨-, -, -, ⟨-, ⟨n0, n1, n2⟩, ⟨n3, n4⟩, -⟩, -⟩ := hA.1
  have h01 := hJ.house.2.1
  have e0 : A 6 0 = Bm 2 0 := (congrFun a1 0).trans n0.symm
  have e1 : A 6 1 = Bm 2 1 := (congrFun a1 1).trans n1.symm
  have e2 : A 6 2 = Bm 2 2 := (congrFun a1 2).trans n2.symm
  have e3 : O 5 6 = Bm 2 3 := o6.trans n3.symm
  have e4 : O 5 7 = Bm 2 4 := o7.trans n4.symm
  have v0 : q < 0 ∨ 5 < q → -1 = cn_v Bm tl q := fun h => (cn_o h).symm
  have v1 : 0 ≤ q ∧ q ≤ 2 → A 6 q.toNat = cn_v Bm tl q := fun h => by
    rw [cn_in (by omega)]
    rcases (show q = 0 ∨ q = 1 ∨ q = 2 by omega) with rfl | rfl | rfl
    · exact e0
    · exact e1
    · exact e2
  have v3 : q = 3 → O 5 6 = cn_v Bm tl q := fun h => by rw [cn_in (by omega), h]; exact e3
  have v4 : q = 4 → O 5 7 = cn_v Bm tl q := fun h => by rw [cn_in (by omega), h]; exact e4
  have v5 : q = 5 → O 1 1 = cn_v Bm tl q := fun h => by rw [cn_5 h]; exact t1
  generalize cn_v Bm tl q = x at *
  refine kk_ctr en_hM (List.mem_of_getElem? (i := 33) rfl) rfl (Nat.le_of_ble_eq_true rfl) (fun K hC => ?_)
  repeat' first | refine hC.gw [] _ rfl rfl ?_ | refine And.intro ?_ ?_ | exact True.intro | refine hC.iadd [] rfl rfl (by first | omega | (simp only [Int.reduceToNat] at *; omega)) ?_ | refine hC.isub [] rfl rfl (by first | omega | (simp only [Int.reduceToNat] at *; omega)) ?_ | refine hC.imul [] rfl rfl (by first | omega | (simp only [Int.reduceToNat] at *; omega)) ?_ | refine hC.iinc [] rfl rfl rfl rfl (by first | omega | (simp only [Int.reduceToNat] at *; omega)) ?_ | refine hC.pfw (W := cx_C) [] rfl rfl rfl rfl rfl rfl ?_ ?_ | refine hC.iaw (W := cx_C) [] rfl rfl rfl rfl ?_ ?_ | refine hC.law (W := cx_C) [] rfl rfl rfl rfl ?_ ?_ | refine hC.cpw (W := cx_C) [] rfl rfl rfl rfl rfl rfl ?_ | refine hC.cpl (W := cx_C) [] rfl rfl rfl rfl rfl rfl ?_ | refine hC.go [] _ rfl rfl ?_ | (intro h; first | exact (h rfl).elim | (exfalso; cases h; done) | (dsimp only [kk_cP, kk_cN] at h) | skip)
  all_goals first | omega | exact ⟨_, _, rfl, hJ, _, rfl, v0 (by omega)⟩ | exact ⟨_, _, rfl, hJ, _, rfl, v1 (by omega)⟩ | exact ⟨_, _, rfl, hJ, _, rfl, v3 (by omega)⟩ | exact ⟨_, _, rfl, hJ, _, rfl, v5 (by omega)⟩ | exact ⟨_, _, rfl, hJ, _, rfl, (show (1 : Int) = x by have := v4 (by omega); omega)⟩ | exact ⟨_, _, rfl, hJ, _, rfl, (show (0 : Int) = x by have := v4 (by omega); omega)⟩
