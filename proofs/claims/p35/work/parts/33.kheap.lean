/-! THE CALCULUS, 4: steps on the heap are sound -/
section KKH
variable {p : Program} {l : Launch} {e : Env} {Rm : Room} {s : State} {m : MethodId} {args : Array Value} {below : List Frame} {meth : Method} {c : Code} {Q : State → Prop}
variable {kc : Nat → Nat} {D : va_G} {A : Nat → Prop} {nL : Nat} {cc : ByteArray} {xc : kk_X} {Ts : List Cond} {own : String}
variable {ws : va_W} {tys : List (ClassId × FieldType)} {H : Heap} {locs : List Loc} {la : Array Slot} {sv : List Value} {L : en_L} {st : List en_V} {w : List kk_C} {n1 n2 pc nx : Nat}
/-- what the constant arrays are -/
def kk_XR (kc : Nat → Nat) (A : Nat → Prop) (U : State) (H : Heap) (xc : kk_X) : Prop := ∀ (k n : Nat) (f : Nat → Int), xc k = some (n, f) → ∃ xs : Nat → Int32, va_X (kc k) n xs U H ∧ kc k < H.size ∧ ¬ A (kc k) ∧ n < 2147483648 ∧ ∀ i, i < n → (xs i).toInt = f i
/-- the cell at a place -/
theorem kk_at (hw : kk_w kc ws tys w) {k q : Nat} {e0 : va_E} {cl : kk_C} (h : ws[k]? = some (q, e0)) (hc : w[k]? = some cl) : kk_c kc ws tys cl e0 := by
  obtain ⟨q', e', h6, h7⟩ := hw.2 _ _ hc
  cases Option.some.inj (h.symm.trans h6)
  exact h7
theorem kk_ix {i : Int} {x : Int32} {n : Nat} (e1 : x.toInt = i) (h0 : 0 ≤ i) (h1 : i < (n : Int)) : vp_in x n ∧ x.toNatClampNeg = i.toNat ∧ i.toNat < n := by
  refine ⟨vp_in_iff.mpr ⟨by omega, by omega⟩, by rw [en_cl_toNat, e1], by omega⟩
theorem kk_gf_ok {a b x : Nat} {C : String} {T : u_T} {N : Nat} {ty : Nat → FieldType} (hx : p.tables.exec = Jvm.exec) (hb : c.code = cc) (hts : ∀ w ∈ Ts, w.before args s = true) (hown : s.vm.findClass own = some m.cls) (hcl : en_ci Ts a C T N ty) (hk0 : b < N) (hlk : Cond.fieldLink own x (T b).1 (T b).2.1 (T b).2.2.1 ∈ Ts) (hdg : decode cc pc = .ok (.getfield x, 3))
    (hr : kk_R kc D A s nL ws tys H locs la sv L st w) (hk : kk_gf a b (pc + 3) L st w (kk_K p l e Rm s m args below meth c Q kc D A nL ws tys n1 n2)) : W p l e Rm s m args below meth c H locs n1 n2 Q (F0 m pc la sv) := by
  unfold kk_gf at hk
  split at hk
  · rename_i o r
    obtain ⟨va, sv1, rfl, hva, hr1⟩ := hr.pop
    obtain ⟨q, e0, rfl, h5⟩ := kk_v4 hva
    unfold kk_gfo at hk
    split at hk
    · rename_i ci fs g hc
      have hq := kk_cond hk
      clear hk
      obtain ⟨hci, hk⟩ := hq
      have hci := Nat.eq_of_beq_eq_true hci
      subst hci
      split at hk
      · rename_i v hf
        obtain ⟨-, -, hw, hK, hP, hD, hS⟩ := id hr1
        obtain ⟨fv, rfl, h6⟩ := kk_at hw h5 hc
        obtain ⟨v', h7, h8⟩ := en_f2_get h6 b v hf
        exact va_get (D := D) (ci := ci) (C := C) (T := T) (N := N) hx hb hts hcl.2.1 hown hK hP o.toNat h5 hcl.1 b hk0 (hts _ hlk) (fun _ h9 => h9) h7 hdg (hk.on (hr1.push h8))
      · exact hk.elim
    · exact hk.elim
  · exact hk.elim
theorem kk_fit_ok {k : Nat} {ty : FieldType} {v : en_V} {x : Value} {P : Prop} (hv : en_v kc [] ws v x) (h : kk_fit k v P) (hk : en_kt k ty = true) : P ∧ narrow ty x = x ∧ fits ty x = true := by
  unfold kk_fit at h
  split at h
  · obtain ⟨y, rfl, -⟩ := kk_v0 hv
    cases ty <;> first | exact ⟨h, rfl, rfl⟩ | cases hk
  · obtain ⟨y, rfl, e1, -⟩ := kk_v0 hv
    obtain ⟨h01, h⟩ := h
    have hy : y = 0 ∨ y = 1 := by
      rcases h01 with h0 | h0
      · exact Or.inl (Int32.toInt_inj.mp ((e1.trans h0).trans (show (0 : Int) = (0 : Int32).toInt from rfl)))
      · exact Or.inr (Int32.toInt_inj.mp ((e1.trans h0).trans (show (1 : Int) = (1 : Int32).toInt from rfl)))
    cases ty <;> first | (rcases hy with rfl | rfl <;> exact ⟨h, rfl, rfl⟩) | cases hk
  · obtain ⟨y, rfl, -⟩ := kk_v2 hv
    cases ty <;> first | exact ⟨h, rfl, rfl⟩ | cases hk
  · obtain ⟨y, e0, rfl, -⟩ := kk_v4 hv
    cases ty <;> first | exact ⟨h, rfl, rfl⟩ | cases hk
  · have e1 : x = .null := hv
    subst e1
    cases ty <;> first | exact ⟨h, rfl, rfl⟩ | cases hk
  · exact h.elim
theorem kk_pf_ok {a b k : Nat} {ty : FieldType} (hty : en_kt k ty = true) (hr : kk_R kc D A s nL ws tys H locs la sv L st w)
    (row : ∀ (q q0 : Nat) (v : Value) (fs : List Value) (rest : List Value), ws[q0]? = some (q, .inr (a, fs)) → narrow ty v = v → fits ty v = true → b < fs.length →
      (∀ (H1 : Heap) (locs1 : List Loc), va_P D en_cl (ws.set q0 (q, .inr (a, fs.set b v))) H1 → va_D A (ws.set q0 (q, .inr (a, fs.set b v))) → va_S A s.heap H1 locs1 → W p l e Rm s m args below meth c H1 locs1 n1 n2 Q (F0 m nx la rest)) → W p l e Rm s m args below meth c H locs n1 n2 Q (F0 m pc la (v :: .ref q :: rest)))
    (hk : kk_pf a b k nx L st w (kk_K p l e Rm s m args below meth c Q kc D A nL ws tys n1 n2)) : W p l e Rm s m args below meth c H locs n1 n2 Q (F0 m pc la sv) := by
  unfold kk_pf at hk
  split at hk
  · rename_i v o r
    obtain ⟨vv, sv1, rfl, hvv, hr1⟩ := hr.pop
    obtain ⟨va, sv2, rfl, hva, hr2⟩ := hr1.pop
    obtain ⟨q, e0, rfl, h5⟩ := kk_v4 hva
    unfold kk_pfo at hk
    split at hk
    · rename_i ci fs g hc
      have hq := kk_cond hk
      clear hk
      obtain ⟨hci, hk⟩ := hq
      rw [Bool.and_eq_true] at hci
      have hc1 := Nat.eq_of_beq_eq_true hci.1
      subst hc1
      obtain ⟨fv, rfl, h6⟩ := kk_at hr2.2.2.1 h5 hc
      obtain ⟨hk, f1, f2⟩ := kk_fit_ok hvv hk hty
      refine row q o.toNat vv fv sv2 h5 f1 f2 (by rw [← en_f2_len h6]; exact en_blt hci.2) (fun H1 locs1 hP hD hS => ?_)
      refine hk _ _ _ _ _ (kk_le.set h5 _) (hr2.heap h5 ⟨fv.set b vv, rfl, ?_⟩ hP hD hS)
      exact en_f2_mono (fun x y hxy => en_v.mono en_pre.rf (en_le.set h5 _) hxy) (en_f2_set hvv h6 b)
    · exact hk.elim
  · exact hk.elim
theorem kk_alo_ok {kd : Nat} {tt : FieldType} (hkd : (kd = 1 ∧ tt = .int) ∨ (kd = 4 ∧ tt = .boolean)) {i : Int} {o : Int} {r : List en_V} (hr : kk_R kc D A s nL ws tys H locs la sv L ((0, i) :: (4, o) :: r) w)
    (row : ∀ (q q0 t0 : Nat) (cA : ClassId) (n : Nat) (f : Nat → Int32) (i : Int32) (rest : List Value), ws[q0]? = some (q, .inl (cA, n, .inl f)) → tys[t0]? = some (cA, tt) → vp_in i n → W p l e Rm s m args below meth c H locs n1 n2 Q (F0 m nx la (.int (f i.toNatClampNeg) :: rest)) → W p l e Rm s m args below meth c H locs n1 n2 Q (F0 m pc la (.int i :: .ref q :: rest)))
    (hk : kk_alo kd i nx L r w (kk_K p l e Rm s m args below meth c Q kc D A nL ws tys n1 n2) w[o.toNat]?) : W p l e Rm s m args below meth c H locs n1 n2 Q (F0 m pc la sv) := by
  obtain ⟨vi, sv1, rfl, hvi, hr1⟩ := hr.pop
  obtain ⟨va, sv2, rfl, hva, hr2⟩ := hr1.pop
  obtain ⟨x, rfl, ex, -⟩ := kk_v0 hvi
  obtain ⟨q, e0, rfl, h5⟩ := kk_v4 hva
  unfold kk_alo at hk
  split at hk
  · rename_i t n z f hc
    have hq := kk_cond hk
    clear hk
    obtain ⟨ht, ⟨h0, h1⟩, hk⟩ := hq
    have ht := Nat.eq_of_beq_eq_true ht
    subst ht
    obtain ⟨g1, g2, g3⟩ := kk_ix ex h0 h1
    have h7 := kk_at hr2.2.2.1 h5 hc
    have core : ∃ (cA : ClassId) (f' : Nat → Int32) (t : Nat), e0 = .inl (cA, n, .inl f') ∧ tys[t]? = some (cA, tt) ∧ ∀ j, j < n → (f' j).toInt = f j := by
      rcases hkd with ⟨rfl, rfl⟩ | ⟨rfl, rfl⟩
      · exact h7
      · exact h7
    obtain ⟨cA, f', t, rfl, h8, h9⟩ := core
    refine row q o.toNat t cA n f' x sv2 h5 h8 g1 (hk.on (hr2.push ⟨_, rfl, ?_⟩))
    rw [g2]
    exact h9 _ g3
  · exact hk.elim
theorem kk_aso_ok {kd : Nat} {tt : FieldType} (hkd : (kd = 1 ∧ tt = .int) ∨ (kd = 4 ∧ tt = .boolean)) {v i o : Int} {r : List en_V} (h01 : kd = 4 → v = 0 ∨ v = 1) (hr : kk_R kc D A s nL ws tys H locs la sv L ((0, v) :: (0, i) :: (4, o) :: r) w)
    (row : ∀ (q q0 t0 : Nat) (cA : ClassId) (n : Nat) (f : Nat → Int32) (i x : Int32) (rest : List Value), ws[q0]? = some (q, .inl (cA, n, .inl f)) → tys[t0]? = some (cA, tt) → vp_in i n → (kd = 4 → x = 0 ∨ x = 1) → (∀ (H1 : Heap) (locs1 : List Loc), va_P D en_cl (ws.set q0 (q, .inl (cA, n, .inl (upd f i.toNatClampNeg x)))) H1 → va_D A (ws.set q0 (q, .inl (cA, n, .inl (upd f i.toNatClampNeg x)))) → va_S A s.heap H1 locs1 → W p l e Rm s m args below meth c H1 locs1 n1 n2 Q (F0 m nx la rest)) → W p l e Rm s m args below meth c H locs n1 n2 Q (F0 m pc la (.int x :: .int i :: .ref q :: rest)))
    (hk : kk_aso kd v i o.toNat nx L r w (kk_K p l e Rm s m args below meth c Q kc D A nL ws tys n1 n2) w[o.toNat]?) : W p l e Rm s m args below meth c H locs n1 n2 Q (F0 m pc la sv) := by
  obtain ⟨vv, sv0, rfl, hvv, hr0⟩ := hr.pop
  obtain ⟨vi, sv1, rfl, hvi, hr1⟩ := hr0.pop
  obtain ⟨va, sv2, rfl, hva, hr2⟩ := hr1.pop
  obtain ⟨y, rfl, ey, -⟩ := kk_v0 hvv
  obtain ⟨x, rfl, ex, -⟩ := kk_v0 hvi
  obtain ⟨q, e0, rfl, h5⟩ := kk_v4 hva
  unfold kk_aso at hk
  split at hk
  · rename_i t n z f hc
    have hq := kk_cond hk
    clear hk
    obtain ⟨ht, ⟨h0, h1⟩, hk⟩ := hq
    have ht := Nat.eq_of_beq_eq_true ht
    subst ht
    obtain ⟨g1, g2, g3⟩ := kk_ix ex h0 h1
    have h7 := kk_at hr2.2.2.1 h5 hc
    have core : ∃ (cA : ClassId) (f' : Nat → Int32) (t : Nat), e0 = .inl (cA, n, .inl f') ∧ tys[t]? = some (cA, tt) ∧ ∀ j, j < n → (f' j).toInt = f j := by
      rcases hkd with ⟨rfl, rfl⟩ | ⟨rfl, rfl⟩
      · exact h7
      · exact h7
    obtain ⟨cA, f', t', rfl, h8, h9⟩ := core
    refine row q o.toNat t' cA n f' x y sv2 h5 h8 g1 (fun h4 => ?_) (fun H1 locs1 hP hD hS => ?_)
    · rcases h01 h4 with h | h
      · exact Or.inl (Int32.toInt_inj.mp ((ey.trans h).trans (show (0 : Int) = (0 : Int32).toInt from rfl)))
      · exact Or.inr (Int32.toInt_inj.mp ((ey.trans h).trans (show (1 : Int) = (1 : Int32).toInt from rfl)))
    · have hall : ∀ j, j < n → (upd f' x.toNatClampNeg y j).toInt = kk_up f i.toNat v j := by
        intro j hj
        rw [g2]
        by_cases hji : j = i.toNat
        · rw [hji, pk_us, kk_up_eq]; exact ey
        · rw [pk_un hji, kk_up_ne hji]; exact h9 j hj
      have made : kk_c kc (ws.set o.toNat (q, .inl (cA, n, .inl (upd f' x.toNatClampNeg y)))) tys (t, n, z, kk_up f i.toNat v) (.inl (cA, n, .inl (upd f' x.toNatClampNeg y))) := by
        rcases hkd with ⟨rfl, rfl⟩ | ⟨rfl, rfl⟩
        · exact ⟨cA, _, t', rfl, h8, hall⟩
        · exact ⟨cA, _, t', rfl, h8, hall⟩
      exact hk _ _ _ _ _ (kk_le.set h5 _) (hr2.heap h5 made hP hD hS)
  · exact hk.elim
theorem kk_lal_ok (hx : p.tables.exec = Jvm.exec) (hb : c.code = cc) (hdg : decode cc pc = .ok (.laload, 1)) (hr : kk_R kc D A s nL ws tys H locs la sv L st w)
    (hk : kk_lal (pc + 1) L st w (kk_K p l e Rm s m args below meth c Q kc D A nL ws tys n1 n2)) : W p l e Rm s m args below meth c H locs n1 n2 Q (F0 m pc la sv) := by
  unfold kk_lal at hk
  split at hk
  · rename_i i o r
    obtain ⟨vi, sv1, rfl, hvi, hr1⟩ := hr.pop
    obtain ⟨va, sv2, rfl, hva, hr2⟩ := hr1.pop
    obtain ⟨x, rfl, ex, -⟩ := kk_v0 hvi
    obtain ⟨q, e0, rfl, h5⟩ := kk_v4 hva
    split at hk
    · rename_i n z f hc
      obtain ⟨⟨h0, h1⟩, hk⟩ := hk
      obtain ⟨g1, g2, g3⟩ := kk_ix ex h0 h1
      obtain ⟨cA, f', t, rfl, h8, h9⟩ := kk_at hr2.2.2.1 h5 hc
      refine va_lald hx hb hr2.2.2.2.1 hr2.2.2.2.2.1 o.toNat t h5 h8 g1 hdg (hk.on (hr2.push ⟨_, rfl, ?_⟩))
      rw [g2]
      exact h9 _ g3
    · exact hk.elim
  · exact hk.elim
theorem kk_las_ok (hx : p.tables.exec = Jvm.exec) (hb : c.code = cc) (hdg : decode cc pc = .ok (.lastore, 1)) (hr : kk_R kc D A s nL ws tys H locs la sv L st w)
    (hk : kk_las (pc + 1) L st w (kk_K p l e Rm s m args below meth c Q kc D A nL ws tys n1 n2)) : W p l e Rm s m args below meth c H locs n1 n2 Q (F0 m pc la sv) := by
  unfold kk_las at hk
  split at hk
  · rename_i v i o r
    obtain ⟨vv, sv0, rfl, hvv, hr0⟩ := hr.pop
    obtain ⟨vi, sv1, rfl, hvi, hr1⟩ := hr0.pop
    obtain ⟨va, sv2, rfl, hva, hr2⟩ := hr1.pop
    obtain ⟨y, rfl, ey, -⟩ := kk_v2 hvv
    obtain ⟨x, rfl, ex, -⟩ := kk_v0 hvi
    obtain ⟨q, e0, rfl, h5⟩ := kk_v4 hva
    split at hk
    · rename_i n z f hc
      obtain ⟨⟨h0, h1⟩, hk⟩ := hk
      obtain ⟨g1, g2, g3⟩ := kk_ix ex h0 h1
      obtain ⟨cA, f', t, rfl, h8, h9⟩ := kk_at hr2.2.2.1 h5 hc
      refine va_last hx hb hr2.2.2.2.1 hr2.2.2.2.2.1 hr2.2.2.2.2.2.1 hr2.2.2.2.2.2.2 o.toNat t h5 h8 g1 hdg (fun H1 locs1 hP hD hS => ?_)
      refine hk _ _ _ _ _ (kk_le.set h5 _) (hr2.heap h5 ⟨cA, _, t, rfl, h8, fun j hj => ?_⟩ hP hD hS)
      rw [g2]
      show _ = kk_up f i.toNat v j
      by_cases hji : j = i.toNat
      · rw [hji, pk_uLs, kk_up_eq]; exact ey
      · rw [pk_uLn hji, kk_up_ne hji]; exact h9 j hj
    · exact hk.elim
  · exact hk.elim
end KKH
