/-! THE CALCULUS, 11: rules for walks -/
/-- where a walk may go on by itself: at no cut and no call -/
def kk_grd (cuts : List Nat) (pc : Nat) (z : kk_Z5) : Bool := !(cuts.any (fun q => Nat.beq q pc)) && !(Nat.beq (en_kind z.2.1 z.2.2.2.2) 2)
/-- sums and the like have rules of their own -/
def kk_arI (i : Instr) : Bool := match i with
  | .iadd => true
  | .isub => true
  | .imul => true
  | .iinc _ _ => true
  | _ => false
def kk_grn (cuts : List Nat) (pc : Nat) (z : kk_Z5) : Bool := !(kk_arI z.2.1) && kk_grd cuts pc z
/-! sums, differences, products that fit -/
theorem kk_add {x y : Int} (h : -2147483648 ≤ x + y ∧ x + y ≤ 2147483647) : kk_i2 0 x y = x + y := by
  show (Int32.ofInt x + Int32.ofInt y).toInt = x + y
  rw [← Int32.ofInt_add]
  exact Int32.toInt_ofInt_of_le (by omega) (by omega)
theorem kk_sub2 {x y : Int} (h : -2147483648 ≤ x - y ∧ x - y ≤ 2147483647) : kk_i2 1 x y = x - y := by
  show (Int32.ofInt x - Int32.ofInt y).toInt = x - y
  rw [← Int32.ofInt_sub]
  exact Int32.toInt_ofInt_of_le (by omega) (by omega)
theorem kk_mul {x y : Int} (h : -2147483648 ≤ x * y ∧ x * y ≤ 2147483647) : kk_i2 2 x y = x * y := by
  show (Int32.ofInt x * Int32.ofInt y).toInt = x * y
  rw [← Int32.ofInt_mul]
  exact Int32.toInt_ofInt_of_le (by omega) (by omega)
theorem kk_i2_i (k : Nat) (x y : Int) : kk_i (kk_i2 k x y) := kk_i_of _
theorem kk_l2_l (k : Nat) (x y : Int) : kk_l (kk_l2 k x y) := kk_l_of _
section KKX
variable {l : Launch} {d : Nat} {M : List en_T} {t : en_T} {xc : kk_X} {R : Instr → List en_V → List kk_C → Prop} {K : kk_Q}
theorem kk_Clo.go (hC : kk_Clo l d M t xc R K) (cuts : List Nat) {pc : Nat} {L : en_L} {st : List en_V} {w : List kk_C} (z : kk_Z5) (hf : en_find (en_te t) pc = some z) (_ : kk_grd cuts pc z = true) (h : kk_one xc R t z pc L st w K) : K pc L st w := hC.1 z hf h
theorem kk_Clo.gn (hC : kk_Clo l d M t xc R K) (cuts : List Nat) {pc : Nat} {L : en_L} {st : List en_V} {w : List kk_C} (z : kk_Z5) (hf : en_find (en_te t) pc = some z) (_ : kk_grn cuts pc z = true) (h : kk_one xc R t z pc L st w K) : K pc L st w := hC.1 z hf h
/-- a call in a part of the world -/
theorem kk_Clo.call (hC : kk_Clo l d M t xc R K) {t' : en_T} {as0 : List en_V} {w0 : List kk_C} {Φ : List en_V → List kk_C → Prop} {d' : Nat} (hct : kk_Ctr l d' t' as0 w0 Φ) (ps : List Nat) {pc : Nat} {L : en_L} {st : List en_V} {w : List kk_C} {z : kk_Z5} {as r : List en_V} (hf : en_find (en_te t) pc = some z) (hM : M[z.2.2.1]? = some t') (ht : en_take z.2.2.2.1 [] st = some (as, r)) (hc : kk_chk z t' as r w = true) (hp : kk_prt ps as0 w0 = true) (ha : as = as0.map (kk_ren ps)) (he : kk_emb ps (w0.map (kk_renC ps)) w) (hd : d' + 1 ≤ d)
    (h : ∀ rs w0', Φ rs w0' → K z.1 L (rs.map (kk_ren ps) ++ r) (kk_plug (kk_renC ps) ps w0' w)) : K pc L st w := hC.2.1 z t' as r as0 w0 Φ ps d' hf hM ht hc hp ha he hd hct h
/-- a call in the same world -/
theorem kk_Clo.same (hC : kk_Clo l d M t xc R K) {t' : en_T} {as : List en_V} {w : List kk_C} {Φ : List en_V → List kk_C → Prop} {d' : Nat} (hct : kk_Ctr l d' t' as w Φ) {pc : Nat} {L : en_L} {st : List en_V} {z : kk_Z5} {r : List en_V} (hf : en_find (en_te t) pc = some z) (hM : M[z.2.2.1]? = some t') (ht : en_take z.2.2.2.1 [] st = some (as, r)) (hc : kk_chk z t' as r w = true) (hd : d' + 1 ≤ d)
    (h : ∀ rs w', Φ rs w' → K z.1 L (rs ++ r) w') : K pc L st w := hC.2.2.2.2.2.2.2.2 z t' as r Φ d' hf hM ht hc hd hct h
theorem kk_Clo.sub (hC : kk_Clo l d M t xc R K) (L' : en_L) {pc : Nat} {L : en_L} {st : List en_V} {w : List kk_C} (hs : kk_sub L' L) (h : K pc L' st w) : K pc L st w := hC.2.2.1 hs h
theorem kk_Clo.inL (hC : kk_Clo l d M t xc R K) (i : Nat) {x : Int} {pc : Nat} {L : en_L} {st : List en_V} {w : List kk_C} (hg : en_get L i = some (0, x)) (h : kk_i x → K pc L st w) : K pc L st w := hC.2.2.2.1 i x hg h
theorem kk_Clo.inA (hC : kk_Clo l d M t xc R K) (k : Nat) {n : Nat} {fs : List en_V} {f : Nat → Int} {pc : Nat} {L : en_L} {st : List en_V} {w : List kk_C} (hg : w[k]? = some (1, n, fs, f)) (h : (∀ j, j < n → kk_i (f j)) → K pc L st w) : K pc L st w := hC.2.2.2.2.2.1 k n fs f hg h
theorem kk_Clo.inF (hC : kk_Clo l d M t xc R K) (k b : Nat) {ci : Nat} {fs : List en_V} {f : Nat → Int} {x : Int} {pc : Nat} {L : en_L} {st : List en_V} {w : List kk_C} (hg : w[k]? = some (0, ci, fs, f)) (hb : fs[b]? = some (0, x)) (h : kk_i x → K pc L st w) : K pc L st w := hC.2.2.2.2.2.2.2.1 k ci b fs f x hg hb h
theorem kk_Clo.iadd (hC : kk_Clo l d M t xc R K) (cuts : List Nat) {pc nx : Nat} {L : en_L} {r : List en_V} {w : List kk_C} {x y : Int} (hf : en_find (en_te t) pc = some (nx, .iadd, 0, 0, 0)) (_ : kk_grd cuts pc (nx, .iadd, 0, 0, 0) = true) (hr : -2147483648 ≤ x + y ∧ x + y ≤ 2147483647) (h : K nx L ((0, x + y) :: r) w) : K pc L ((0, y) :: (0, x) :: r) w := hC.1 _ hf (show K nx L ((0, kk_i2 0 x y) :: r) w by rw [kk_add hr]; exact h)
theorem kk_Clo.isub (hC : kk_Clo l d M t xc R K) (cuts : List Nat) {pc nx : Nat} {L : en_L} {r : List en_V} {w : List kk_C} {x y : Int} (hf : en_find (en_te t) pc = some (nx, .isub, 0, 0, 0)) (_ : kk_grd cuts pc (nx, .isub, 0, 0, 0) = true) (hr : -2147483648 ≤ x - y ∧ x - y ≤ 2147483647) (h : K nx L ((0, x - y) :: r) w) : K pc L ((0, y) :: (0, x) :: r) w := hC.1 _ hf (show K nx L ((0, kk_i2 1 x y) :: r) w by rw [kk_sub2 hr]; exact h)
theorem kk_Clo.imul (hC : kk_Clo l d M t xc R K) (cuts : List Nat) {pc nx : Nat} {L : en_L} {r : List en_V} {w : List kk_C} {x y : Int} (hf : en_find (en_te t) pc = some (nx, .imul, 0, 0, 0)) (_ : kk_grd cuts pc (nx, .imul, 0, 0, 0) = true) (hr : -2147483648 ≤ x * y ∧ x * y ≤ 2147483647) (h : K nx L ((0, x * y) :: r) w) : K pc L ((0, y) :: (0, x) :: r) w := hC.1 _ hf (show K nx L ((0, kk_i2 2 x y) :: r) w by rw [kk_mul hr]; exact h)
theorem kk_Clo.iinc (hC : kk_Clo l d M t xc R K) (cuts : List Nat) {pc nx j : Nat} {n : Int} {L : en_L} {st : List en_V} {w : List kk_C} {x : Int} (hf : en_find (en_te t) pc = some (nx, .iinc j n, 0, 0, 0)) (_ : kk_grd cuts pc (nx, .iinc j n, 0, 0, 0) = true) (hg : en_get L j = some (0, x)) (hj : Nat.blt j (en_tl t) = true) (hr : -2147483648 ≤ x + n ∧ x + n ≤ 2147483647) (h : K nx (en_sto L j (0, x + n)) st w) : K pc L st w := by
  refine hC.1 _ hf ?_
  show kk_inc j n nx (en_tl t) L st w K
  unfold kk_inc
  rw [hg]
  show cond (Nat.blt j (en_tl t)) (K nx (en_sto L j (0, kk_i2 0 x n)) st w) False
  rw [hj, kk_add hr]
  exact h
end KKX
