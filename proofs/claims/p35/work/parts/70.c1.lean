/-! THE CLASS, 1: families of worlds -/
abbrev cc_W : Type := (Nat → Nat → Int) → (Nat → Nat → Int) → List kk_C
def cc_in (ps : List Nat) (O : Nat → Nat → Int) : Nat → Nat → Int := fun p => O (ps.getD p 0)
def cc_out (f g : Nat → Nat → Int) : List Nat → Nat → Nat → Nat → Int
  | [], _, k => g k
  | q :: r, i, k => cond (Nat.beq k q) (f i) (cc_out f g r (i + 1) k)
/-- a world of the family W0 lies in each of W, at these places -/
def cc_E (W W0 : cc_W) (ps : List Nat) : Prop := (∀ O A, kk_emb ps ((W0 (cc_in ps O) (cc_in ps A)).map (kk_renC ps)) (W O A)) ∧ (∀ O A O' A', kk_plug (kk_renC ps) ps (W0 O' A') (W O A) = W (cc_out O' O ps 0) (cc_out A' A ps 0)) ∧ (∀ O A, (va_nd ps && (W0 O A).all (kk_wfC ps.length)) = true) ∧ (∀ O A, kk_plug (kk_renC ps) ps (W0 (cc_in ps O) (cc_in ps A)) (W O A) = W O A)
def cc_wrI (i : Instr) : Bool := match i with
  | .iadd => true
  | .isub => true
  | .imul => true
  | .iinc _ _ => true
  | .putfield _ => true
  | .iastore => true
  | .lastore => true
  | .invokestatic _ => true
  | _ => false
def cc_grw (cuts : List Nat) (pc : Nat) (z : kk_Z5) : Bool := !(cc_wrI z.2.1) && kk_grd cuts pc z
section CCX
variable {l : Launch} {d : Nat} {M : List en_T} {t : en_T} {xc : kk_X} {R : Instr → List en_V → List kk_C → Prop} {K : kk_Q}
set_option maxRecDepth 100000 in
set_option maxHeartbeats 4000000 in
theorem cc_prt {W W0 : cc_W} {ps : List Nat} (E : cc_E W W0 ps) {as0 : List en_V} (hp : as0.all (kk_wfv ps.length) = true) (O A : Nat → Nat → Int) : kk_prt ps as0 (W0 O A) = true := by
  have h := E.2.2.1 O A
  rw [Bool.and_eq_true] at h
  unfold kk_prt
  rw [h.1, h.2, hp]
  rfl
/-- a call in a part of the world -/
theorem kk_Clo.at (hC : kk_Clo l d M t xc R K) {W W0 : cc_W} {ps : List Nat} (E : cc_E W W0 ps) {t' : en_T} {as0 : List en_V} {O A : Nat → Nat → Int} {Φ : List en_V → (Nat → Nat → Int) → (Nat → Nat → Int) → Prop} {d' : Nat} (hct : kk_Ctr l d' t' as0 (W0 (cc_in ps O) (cc_in ps A)) (fun rs w' => ∃ O' A', w' = W0 O' A' ∧ Φ rs O' A')) {pc : Nat} {L : en_L} {st : List en_V} {z : kk_Z5} {as r : List en_V} (hf : en_find (en_te t) pc = some z) (hM : M[z.2.2.1]? = some t') (ht : en_take z.2.2.2.1 [] st = some (as, r)) (hc : kk_chk z t' as r (W O A) = true) (hp : as0.all (kk_wfv ps.length) = true) (ha : as = as0.map (kk_ren ps)) (hd : d' + 1 ≤ d)
    (h : ∀ rs O' A', Φ rs O' A' → K z.1 L (rs.map (kk_ren ps) ++ r) (W (cc_out O' O ps 0) (cc_out A' A ps 0))) : K pc L st (W O A) := by
  refine hC.call hct ps hf hM ht hc (cc_prt E hp _ _) ha (E.1 O A) hd ?_
  rintro rs w0' ⟨O', A', rfl, hΦ⟩
  rw [E.2.1]
  exact h rs O' A' hΦ
/-- a call that changes nothing -/
theorem kk_Clo.rd (hC : kk_Clo l d M t xc R K) {W W0 : cc_W} {ps : List Nat} (E : cc_E W W0 ps) {t' : en_T} {as0 : List en_V} {O A : Nat → Nat → Int} {Φ : List en_V → Prop} {d' : Nat} (hct : kk_Ctr l d' t' as0 (W0 (cc_in ps O) (cc_in ps A)) (fun rs w' => w' = W0 (cc_in ps O) (cc_in ps A) ∧ Φ rs)) {pc : Nat} {L : en_L} {st : List en_V} {z : kk_Z5} {as r : List en_V} (hf : en_find (en_te t) pc = some z) (hM : M[z.2.2.1]? = some t') (ht : en_take z.2.2.2.1 [] st = some (as, r)) (hc : kk_chk z t' as r (W O A) = true) (hp : as0.all (kk_wfv ps.length) = true) (ha : as = as0.map (kk_ren ps)) (hd : d' + 1 ≤ d)
    (h : ∀ rs, Φ rs → K z.1 L (rs.map (kk_ren ps) ++ r) (W O A)) : K pc L st (W O A) := by
  refine hC.call hct ps hf hM ht hc (cc_prt E hp _ _) ha (E.1 O A) hd ?_
  rintro rs w0' ⟨rfl, hΦ⟩
  rw [E.2.2.2]
  exact h rs hΦ
/-- a field is written -/
theorem kk_Clo.pfw (hC : kk_Clo l d M t xc R K) {W : cc_W} (cuts : List Nat) {pc nx a b k : Nat} {x : Nat} {L : en_L} {r : List en_V} {O A : Nat → Nat → Int} {o v : Int} {ty : Nat} {fs : List en_V} {g : Nat → Int} (hf : en_find (en_te t) pc = some (nx, .putfield x, a, b, k)) (_ : kk_grd cuts pc (nx, .putfield x, a, b, k) = true) (hkd : en_kind (.putfield x) k = 0) (h1 : (W O A)[o.toNat]? = some (0, a, fs, g)) (hb : (Nat.beq a a && Nat.blt b fs.length) = true) (h2 : (W O A).set o.toNat (0, a, fs.set b (ty, v), g) = W (mm_up O o.toNat (kk_up (O o.toNat) b v)) A) (hk : kk_fit k (ty, v) True) (h : K nx L r (W (mm_up O o.toNat (kk_up (O o.toNat) b v)) A)) : K pc L ((ty, v) :: (4, o) :: r) (W O A) := by
  refine hC.1 _ hf ?_
  unfold kk_one
  dsimp only
  rw [hkd]
  show kk_pfo b k nx L r (W O A) K a o.toNat (ty, v) (W O A)[o.toNat]?
  rw [h1]
  show cond (Nat.beq a a && Nat.blt b fs.length) (kk_fit k (ty, v) (K nx L r ((W O A).set o.toNat (0, a, fs.set b (ty, v), g)))) False
  rw [hb, h2, cond_true]
  unfold kk_fit at hk ⊢
  split at hk
  · exact h
  · exact ⟨hk.1, h⟩
  · exact h
  · exact h
  · exact h
  · exact hk.elim
/-- a number of an array is written -/
theorem kk_Clo.iaw (hC : kk_Clo l d M t xc R K) {W : cc_W} (cuts : List Nat) {pc nx : Nat} {L : en_L} {r : List en_V} {O A : Nat → Nat → Int} {o v i : Int} {n : Nat} {z : List en_V} {f : Nat → Int} (hf : en_find (en_te t) pc = some (nx, .iastore, 0, 0, 0)) (_ : kk_grd cuts pc (nx, .iastore, 0, 0, 0) = true) (h1 : (W O A)[o.toNat]? = some (1, n, z, f)) (h2 : (W O A).set o.toNat (1, n, z, kk_up f i.toNat v) = W O (mm_up A o.toNat (kk_up f i.toNat v))) (hi : 0 ≤ i ∧ i < (n : Int)) (h : K nx L r (W O (mm_up A o.toNat (kk_up f i.toNat v)))) : K pc L ((0, v) :: (0, i) :: (4, o) :: r) (W O A) := by
  refine hC.1 _ hf ?_
  show kk_aso 1 v i o.toNat nx L r (W O A) K (W O A)[o.toNat]?
  rw [h1]
  show cond (Nat.beq 1 1) ((0 ≤ i ∧ i < (n : Int)) ∧ K nx L r ((W O A).set o.toNat (1, n, z, kk_up f i.toNat v))) False
  rw [h2]
  exact ⟨hi, h⟩
theorem kk_Clo.law (hC : kk_Clo l d M t xc R K) {W : cc_W} (cuts : List Nat) {pc nx : Nat} {L : en_L} {r : List en_V} {O A : Nat → Nat → Int} {o v i : Int} {n : Nat} {z : List en_V} {f : Nat → Int} (hf : en_find (en_te t) pc = some (nx, .lastore, 0, 0, 0)) (_ : kk_grd cuts pc (nx, .lastore, 0, 0, 0) = true) (h1 : (W O A)[o.toNat]? = some (2, n, z, f)) (h2 : (W O A).set o.toNat (2, n, z, kk_up f i.toNat v) = W O (mm_up A o.toNat (kk_up f i.toNat v))) (hi : 0 ≤ i ∧ i < (n : Int)) (h : K nx L r (W O (mm_up A o.toNat (kk_up f i.toNat v)))) : K pc L ((2, v) :: (0, i) :: (4, o) :: r) (W O A) := by
  refine hC.1 _ hf ?_
  show kk_las nx L ((2, v) :: (0, i) :: (4, o) :: r) (W O A) K
  unfold kk_las
  simp only [h1]
  rw [h2]
  exact ⟨hi, h⟩
/-- an array is copied whole -/
theorem kk_Clo.cpw (hC : kk_Clo l d M t xc R K) {W : cc_W} (cuts : List Nat) {pc nx b' : Nat} {x : Nat} {L : en_L} {O A : Nat → Nat → Int} {a b n : Int} {m : Nat} {z z' : List en_V} {f f' : Nat → Int} (hf : en_find (en_te t) pc = some (nx, .invokestatic x, 0, b', 7)) (_ : kk_grd cuts pc (nx, .invokestatic x, 0, b', 7) = true) (h1 : (W O A)[a.toNat]? = some (1, m, z, f)) (h2 : (W O A)[b.toNat]? = some (1, m, z', f')) (hn : n = (m : Int)) (h3 : (W O A).set b.toNat (1, m, z', f) = W O (mm_up A b.toNat f)) (h : K nx L [] (W O (mm_up A b.toNat f))) : K pc L [(0, n), (0, 0), (4, b), (0, 0), (4, a)] (W O A) := by
  refine hC.1 _ hf ?_
  show kk_cpo n b.toNat nx L (W O A) K (W O A)[a.toNat]? (W O A)[b.toNat]?
  rw [h1, h2]
  show (n = (m : Int) ∧ m = m) ∧ K nx L [] ((W O A).set b.toNat (1, m, z', f))
  rw [h3]
  exact ⟨⟨hn, rfl⟩, h⟩
theorem kk_Clo.cpl (hC : kk_Clo l d M t xc R K) {W : cc_W} (cuts : List Nat) {pc nx b' : Nat} {x : Nat} {L : en_L} {O A : Nat → Nat → Int} {a b n : Int} {m : Nat} {z z' : List en_V} {f f' : Nat → Int} (hf : en_find (en_te t) pc = some (nx, .invokestatic x, 0, b', 7)) (_ : kk_grd cuts pc (nx, .invokestatic x, 0, b', 7) = true) (h1 : (W O A)[a.toNat]? = some (2, m, z, f)) (h2 : (W O A)[b.toNat]? = some (2, m, z', f')) (hn : n = (m : Int)) (h3 : (W O A).set b.toNat (2, m, z', f) = W O (mm_up A b.toNat f)) (h : K nx L [] (W O (mm_up A b.toNat f))) : K pc L [(0, n), (0, 0), (4, b), (0, 0), (4, a)] (W O A) := by
  refine hC.1 _ hf ?_
  show kk_cpo n b.toNat nx L (W O A) K (W O A)[a.toNat]? (W O A)[b.toNat]?
  rw [h1, h2]
  show (n = (m : Int) ∧ m = m) ∧ K nx L [] ((W O A).set b.toNat (2, m, z', f))
  rw [h3]
  exact ⟨⟨hn, rfl⟩, h⟩
theorem kk_Clo.gw (hC : kk_Clo l d M t xc R K) (cuts : List Nat) {pc : Nat} {L : en_L} {st : List en_V} {w : List kk_C} (z : kk_Z5) (hf : en_find (en_te t) pc = some z) (_ : cc_grw cuts pc z = true) (h : kk_one xc R t z pc L st w K) : K pc L st w := hC.1 z hf h
end CCX
