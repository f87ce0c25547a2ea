/-! THE ENGINE, 5: long arrays, reference arrays, lengths, new cells, copies, the script -/
theorem en_ofNat_toInt {n : Nat} (h : n < 2147483648) : (Int32.ofNat n).toInt = (n : Int) := nI_toInt (n := n) (by omega)
theorem en_toInt_nn {x : Int32} {n : Int} (h : x.toInt = n) (h0 : 0 ≤ n) : ¬ x < 0 := fun hlt => by
  have := Int32.lt_iff_toInt_lt.mp hlt
  have h2 : (0 : Int32).toInt = 0 := rfl
  omega
section ENH2
variable {p : Program} {l : Launch} {e : Env} {Rm : Room} {s : State} {m : MethodId} {args : Array Value} {below : List Frame} {meth : Method} {c : Code} {Q : State → Prop}
variable {kc : Nat → Nat} {D : va_G} {A : Nat → Prop} {nL : Nat} {cc : ByteArray} {Ts : List Cond} {own : String}
variable {ρ : List Int32} {ws : va_W} {tys : List (ClassId × FieldType)} {H : Heap} {locs : List Loc} {la : Array Slot} {sv : List Value} {L : en_L} {st : List en_V} {iv : en_I} {w : List en_C} {n1 n2 pc nx : Nat}
theorem en_last {q : Nat} {e1 : va_E} (hw : en_w kc ρ ws tys w) : en_v kc ρ (ws ++ [(q, e1)]) (4, (w.length : Int)) (.ref q) := by
  refine ⟨q, e1, rfl, ?_⟩
  show (ws ++ [(q, e1)])[((w.length : Int)).toNat]? = some (q, e1)
  rw [Int.toNat_natCast, hw.1, List.getElem?_append_right (Nat.le_refl _), Nat.sub_self]
  rfl
theorem en_wr1_el {d v : Int × Int} {ex : List (Nat × Int × Int)} {i j : Nat} : en_el d (en_wr1 d ex i v) j = if j = i then v else en_el d ex j := by
  unfold en_wr1
  by_cases hji : j = i
  · rw [if_pos hji, hji]
    split
    · rename_i hvd
      rw [en_rm_me, ← hvd]
    · show cond (Nat.beq i i) v _ = v
      rw [Nat.beq_refl]
      rfl
  · rw [if_neg hji]
    split
    · exact en_rm_el hji _
    · show cond (Nat.beq j i) v _ = _
      have : Nat.beq j i = false := by
        cases hjk : Nat.beq j i with
        | true => exact absurd (Nat.eq_of_beq_eq_true hjk) hji
        | false => rfl
      rw [this]
      exact en_rm_el hji _
def en_lld (nx : Nat) (L : en_L) (st : List en_V) (iv : en_I) (w : List en_C) (n1 n2 : Nat) : en_O := match st with
  | i :: a :: r => match en_arr w a 2 with
    | some z => match en_ix iv i z.1 with
      | some q => en_1 nx L (cond (decide (z.2.1 = (0, 0)) && decide (q.1 = q.2)) (2, (en_el (0, 0) z.2.2 q.1.toNat).1) (3, 0) :: r) iv w n1 n2
      | none => none
    | none => none
  | _ => none
theorem en_lld_ok (hx : p.tables.exec = Jvm.exec) (hb : c.code = cc) (hdg : decode cc pc = .ok (.laload, 1)) (hr : en_R kc D A s nL ρ ws tys H locs la sv L st iv w)
    (hk : en_Ks p l e Rm s m args below meth c Q kc D A nL ρ ws tys (en_lld (pc + 1) L st iv w n1 n2)) : W p l e Rm s m args below meth c H locs n1 n2 Q (F0 m pc la sv) := by
  unfold en_lld at hk
  match st, hr, hk with
  | [], hr, hk => exact (en_no rfl hk).elim
  | [_], hr, hk => exact (en_no rfl hk).elim
  | i :: a :: r, hr, hk =>
    obtain ⟨vi, sv1, rfl, hvi, hr1⟩ := hr.pop
    obtain ⟨va, sv2, rfl, hva, hr2⟩ := hr1.pop
    dsimp only at hk
    cases ho : en_arr w a 2 with
    | none => rw [ho] at hk; exact (en_no rfl hk).elim
    | some z =>
      rw [ho] at hk
      dsimp only at hk
      obtain ⟨q, e0, fl, rfl, h5, -, h7⟩ := en_arr_w hr2.2.2.2.1 hva ho
      cases hq : en_ix iv i z.1 with
      | none => rw [hq] at hk; exact (en_no rfl hk).elim
      | some qi =>
        rw [hq] at hk
        obtain ⟨x, rfl, hx1, hx2, hx3, hx4⟩ := en_ix_ok hr2.2.2.1 hvi hq
        obtain ⟨cA, f, t, rfl, h8, h9⟩ := h7
        refine va_lald hx hb hr2.2.2.2.2.1 hr2.2.2.2.2.2.1 a.2.toNat t h5 h8 hx2 hdg (hk.one en_pre.rf en_le.rf en_pre.rf (hr2.push ?_))
        cases hz : (decide (z.2.1 = (0, 0)) && decide (qi.1 = qi.2)) with
        | false => exact ⟨_, rfl⟩
        | true =>
          rw [Bool.and_eq_true, decide_eq_true_eq, decide_eq_true_eq] at hz
          refine ⟨_, rfl, ?_⟩
          have q9 := h9 hz.1 x.toNatClampNeg hx3
          rw [hx4 hz.2] at q9
          rw [← hx4 hz.2] at q9 ⊢
          exact q9
def en_lst (nx : Nat) (L : en_L) (st : List en_V) (iv : en_I) (w : List en_C) (n1 n2 : Nat) : en_O := match st with
  | v :: i :: a :: r => match en_arr w a 2 with
    | some z => match en_ix iv i z.1 with
      | some q => cond (en_wide v) (cond (decide (z.2.1 = (0, 0)) && (decide (q.1 = q.2) && Nat.beq v.1 2)) (en_put w a.2.toNat (2, z.1, (0, 0), [], en_wr1 (0, 0) z.2.2 q.1.toNat (v.2, v.2)) (fun w' => en_1 nx L r iv w' n1 n2)) (en_put w a.2.toNat (2, z.1, (0, 1), [], []) (fun w' => en_1 nx L r iv w' n1 n2))) none
      | none => none
    | none => none
  | _ => none
theorem en_lst_ok (hx : p.tables.exec = Jvm.exec) (hb : c.code = cc) (hdg : decode cc pc = .ok (.lastore, 1)) (hr : en_R kc D A s nL ρ ws tys H locs la sv L st iv w)
    (hk : en_Ks p l e Rm s m args below meth c Q kc D A nL ρ ws tys (en_lst (pc + 1) L st iv w n1 n2)) : W p l e Rm s m args below meth c H locs n1 n2 Q (F0 m pc la sv) := by
  unfold en_lst at hk
  simp only [en_put_eq] at hk
  match st, hr, hk with
  | [], hr, hk => exact (en_no rfl hk).elim
  | [_], hr, hk => exact (en_no rfl hk).elim
  | [_, _], hr, hk => exact (en_no rfl hk).elim
  | v :: i :: a :: r, hr, hk =>
    obtain ⟨vv, sv0, rfl, hvv, hr0⟩ := hr.pop
    obtain ⟨vi, sv1, rfl, hvi, hr1⟩ := hr0.pop
    obtain ⟨va, sv2, rfl, hva, hr2⟩ := hr1.pop
    dsimp only at hk
    cases ho : en_arr w a 2 with
    | none => rw [ho] at hk; exact (en_no rfl hk).elim
    | some z =>
      rw [ho] at hk
      dsimp only at hk
      obtain ⟨q, e0, fl, rfl, h5, h6, h7⟩ := en_arr_w hr2.2.2.2.1 hva ho
      cases hq : en_ix iv i z.1 with
      | none => rw [hq] at hk; exact (en_no rfl hk).elim
      | some qi =>
        rw [hq] at hk
        dsimp only at hk
        cases hw0 : en_wide v with
        | false => rw [hw0] at hk; exact (en_no rfl hk).elim
        | true =>
          rw [hw0] at hk
          obtain ⟨y, rfl⟩ := hvv.long hw0
          obtain ⟨x, rfl, hx1, hx2, hx3, hx4⟩ := en_ix_ok hr2.2.2.1 hvi hq
          obtain ⟨cA, f, t, rfl, h8, h10⟩ := h7
          dsimp only [cond_true] at hk
          refine va_last hx hb hr2.2.2.2.2.1 hr2.2.2.2.2.2.1 hr2.2.2.2.2.2.2.1 hr2.2.2.2.2.2.2.2 a.2.toNat t h5 h8 hx2 hdg (fun H1 locs1 hP hD hS => ?_)
          cases hz : (decide (z.2.1 = (0, 0)) && (decide (qi.1 = qi.2) && Nat.beq v.1 2)) with
          | false =>
            rw [hz] at hk
            have h9 := hr2.heap (cell := (2, z.1, (0, 1), [], [])) h5 ⟨cA, _, t, rfl, h8, fun h => absurd (show ((0, 1) : Int × Int) = (0, 0) from h) (by decide)⟩ hP hD hS
            exact hk.one en_pre.rf (en_le.set h5 _) en_pre.rf h9
          | true =>
            rw [hz] at hk
            rw [Bool.and_eq_true, Bool.and_eq_true, decide_eq_true_eq, decide_eq_true_eq] at hz
            have e9 : y.toInt = v.2 := (hvv.lit hz.2.2).2
            have h9 := hr2.heap (cell := (2, z.1, (0, 0), [], en_wr1 (0, 0) z.2.2 qi.1.toNat (v.2, v.2))) h5 ⟨cA, _, t, rfl, h8, fun _ j hj => by
              rw [en_wr1_el]
              show ((if j = x.toNatClampNeg then y else f j : Int64)).toInt = _
              rw [hx4 hz.2.1]
              by_cases ej : j = qi.1.toNat
              · rw [if_pos ej, if_pos ej]; exact e9
              · rw [if_neg ej, if_neg ej]; exact h10 hz.1 j hj⟩ hP hD hS
            exact hk.one en_pre.rf (en_le.set h5 _) en_pre.rf h9
/-! reference arrays -/
def en_rar (w : List en_C) (a : en_V) : Option (Nat × List en_V) := cond (Nat.beq a.1 4) (match w[a.2.toNat]? with
  | some ce => cond (Nat.beq ce.1 3) (some (ce.2.1, ce.2.2.2.1)) none
  | none => none) none
theorem en_rar_ok {a : en_V} {v : Value} {z : Nat × List en_V} (hw : en_w kc ρ ws tys w) (hv : en_v kc ρ ws a v) (h : en_rar w a = some z) : ∃ (q : Nat) (cA : ClassId) (f : Nat → Option Nat) (t : Nat), v = .ref q ∧ ws[a.2.toNat]? = some (q, .inl (cA, z.2.length, .inr (.inr (.inr (.inr f))))) ∧ tys[t]? = some (cA, .object (en_an z.1)) ∧ ∀ (j : Nat) (b : en_V), z.2[j]? = some b → en_v kc ρ ws b (va_rf (f j)) := by
  unfold en_rar at h
  cases h4 : Nat.beq a.1 4 with
  | false => rw [h4] at h; cases h
  | true =>
    rw [h4] at h
    obtain ⟨q, e, rfl, h5⟩ := hv.cell h4
    cases hc : w[a.2.toNat]? with
    | none => rw [hc] at h; cases h
    | some cell =>
      rw [hc] at h
      obtain ⟨t, n, d, fs, ex⟩ := cell
      dsimp only [cond_true] at h
      cases hb : Nat.beq t 3 with
      | false => rw [hb] at h; cases h
      | true =>
        rw [hb] at h
        have e0 : t = 3 := Nat.eq_of_beq_eq_true hb
        subst e0
        cases h
        obtain ⟨q', e', h6, h7⟩ := hw.2 _ _ hc
        cases Option.some.inj (h5.symm.trans h6)
        obtain ⟨cA, f, t, rfl, h8, h9⟩ := h7
        exact ⟨q, cA, f, t, rfl, h5, h8, h9⟩
/-- one state for each place that the index can be -/
def en_aal (nx : Nat) (iv : en_I) (i : en_V) (L : en_L) (r : List en_V) (w : List en_C) (n1 n2 : Nat) : Int → List en_V → List (Nat × en_S)
  | _, [] => []
  | k, v :: vs => match en_nar iv i k k with
    | some iv' => (nx, L, v :: r, iv', w, n1, n2) :: en_aal nx iv i L r w n1 n2 (k + 1) vs
    | none => en_aal nx iv i L r w n1 n2 (k + 1) vs
theorem en_aal_mem {i : en_V} {r : List en_V} {x : Int32} (hi : en_iv iv ρ) (hv : en_v kc ρ ws i (.int x)) : ∀ (vs : List en_V) (k : Int) (j : Nat) (v : en_V), vs[j]? = some v → x.toInt = k + j → ∃ iv', en_iv iv' ρ ∧ (nx, L, v :: r, iv', w, n1, n2) ∈ en_aal nx iv i L r w n1 n2 k vs
  | [], _, _, _, h, _ => by simp at h
  | v' :: vs, k, 0, v, h, hx => by
    simp at h
    subst h
    obtain ⟨iv', e1, g1⟩ := en_nar_ok (lo := k) (hi := k) hi hv (by omega) (by omega)
    refine ⟨iv', g1, ?_⟩
    unfold en_aal
    rw [e1]
    exact List.mem_cons_self
  | v' :: vs, k, j + 1, v, h, hx => by
    simp at h
    obtain ⟨iv', g1, g2⟩ := en_aal_mem hi hv vs (k + 1) j v h (by omega)
    refine ⟨iv', g1, ?_⟩
    unfold en_aal
    split
    · exact List.mem_cons_of_mem _ g2
    · exact g2
def en_aald (nx : Nat) (L : en_L) (st : List en_V) (iv : en_I) (w : List en_C) (n1 n2 : Nat) : en_O := match st with
  | i :: a :: r => match en_rar w a with
    | some z => match en_ix iv i z.2.length with
      | some _ => some (en_aal nx iv i L r w n1 n2 0 z.2)
      | none => none
    | none => none
  | _ => none
theorem en_aald_ok (hx : p.tables.exec = Jvm.exec) (hb : c.code = cc) (hdg : decode cc pc = .ok (.aaload, 1)) (hr : en_R kc D A s nL ρ ws tys H locs la sv L st iv w)
    (hk : en_Ks p l e Rm s m args below meth c Q kc D A nL ρ ws tys (en_aald (pc + 1) L st iv w n1 n2)) : W p l e Rm s m args below meth c H locs n1 n2 Q (F0 m pc la sv) := by
  unfold en_aald at hk
  match st, hr, hk with
  | [], hr, hk => exact (en_no rfl hk).elim
  | [_], hr, hk => exact (en_no rfl hk).elim
  | i :: a :: r, hr, hk =>
    obtain ⟨vi, sv1, rfl, hvi, hr1⟩ := hr.pop
    obtain ⟨va, sv2, rfl, hva, hr2⟩ := hr1.pop
    dsimp only at hk
    cases ho : en_rar w a with
    | none => rw [ho] at hk; exact (en_no rfl hk).elim
    | some z =>
      rw [ho] at hk
      dsimp only at hk
      obtain ⟨q, cA, f, t, rfl, h5, h6, h7⟩ := en_rar_ok hr2.2.2.2.1 hva ho
      cases hq : en_ix iv i z.2.length with
      | none => rw [hq] at hk; exact (en_no rfl hk).elim
      | some qi =>
        rw [hq] at hk
        obtain ⟨x, rfl, hx1, hx2, hx3, hx4⟩ := en_ix_ok hr2.2.2.1 hvi hq
        have hxx : x.toInt = 0 + (x.toNatClampNeg : Int) := by
          have := (vp_in_iff.mp hx2).1
          rw [en_cl_toNat]
          omega
        obtain ⟨iv', g1, g2⟩ := en_aal_mem (nx := pc + 1) (L := L) (r := r) (w := w) (n1 := n1) (n2 := n2) hr2.2.2.1 hvi z.2 0 _ _ (List.getElem?_eq_getElem hx3) hxx
        obtain ⟨cs, e1, hk⟩ := hk
        cases e1
        exact va_aldq hx hb hr2.2.2.2.2.1 hr2.2.2.2.2.2.1 a.2.toNat t h5 h6 hx2 hdg (hk _ g2 ρ ws tys H locs la _ en_pre.rf en_le.rf en_pre.rf ((hr2.push (h7 _ _ (List.getElem?_eq_getElem hx3))).rho en_pre.rf g1))
/-- the class numbers of the elements -/
def en_ac (n : Nat) : Nat := match n with
  | 0 => 4
  | _ => 3
theorem en_ac_ok (n : Nat) : ∃ r : vw_C, en_cl[en_ac n]? = some r ∧ r.1 = en_an n := by
  match n with
  | 0 => exact ⟨_, rfl, rfl⟩
  | k + 1 => exact ⟨_, rfl, rfl⟩
def en_aast (nx : Nat) (L : en_L) (st : List en_V) (iv : en_I) (w : List en_C) (n1 n2 : Nat) : en_O := match st with
  | v :: i :: a :: r => match en_rar w a with
    | some z => match en_ix iv i z.2.length, en_obj w v (en_ac z.1) with
      | some q, some _ => if q.1 = q.2 then en_put w a.2.toNat (3, z.1, (0, 0), z.2.set q.1.toNat v, []) (fun w' => en_1 nx L r iv w' n1 n2) else none
      | _, _ => none
    | none => none
  | _ => none
theorem en_aast_ok (hx : p.tables.exec = Jvm.exec) (hb : c.code = cc) (hdg : decode cc pc = .ok (.aastore, 1)) (hr : en_R kc D A s nL ρ ws tys H locs la sv L st iv w)
    (hk : en_Ks p l e Rm s m args below meth c Q kc D A nL ρ ws tys (en_aast (pc + 1) L st iv w n1 n2)) : W p l e Rm s m args below meth c H locs n1 n2 Q (F0 m pc la sv) := by
  unfold en_aast at hk
  simp only [en_put_eq] at hk
  match st, hr, hk with
  | [], hr, hk => exact (en_no rfl hk).elim
  | [_], hr, hk => exact (en_no rfl hk).elim
  | [_, _], hr, hk => exact (en_no rfl hk).elim
  | v :: i :: a :: r, hr, hk =>
    obtain ⟨vv, sv0, rfl, hvv, hr0⟩ := hr.pop
    obtain ⟨vi, sv1, rfl, hvi, hr1⟩ := hr0.pop
    obtain ⟨va, sv2, rfl, hva, hr2⟩ := hr1.pop
    dsimp only at hk
    cases ho : en_rar w a with
    | none => rw [ho] at hk; exact (en_no rfl hk).elim
    | some z =>
      rw [ho] at hk
      dsimp only at hk
      obtain ⟨q, cA, f, t, rfl, h5, h6, h7⟩ := en_rar_ok hr2.2.2.2.1 hva ho
      cases hq : en_ix iv i z.2.length with
      | none => rw [hq] at hk; exact (en_no rfl hk).elim
      | some qi =>
        cases ho2 : en_obj w v (en_ac z.1) with
        | none => rw [hq, ho2] at hk; exact (en_no rfl hk).elim
        | some fa =>
          rw [hq, ho2] at hk
          dsimp only at hk
          by_cases he : qi.1 = qi.2
          · rw [if_pos he] at hk
            obtain ⟨x, rfl, hx1, hx2, hx3, hx4⟩ := en_ix_ok hr2.2.2.1 hvi hq
            obtain ⟨qv, fs, rfl, h8, -⟩ := en_obj_ok hr2.2.2.2.1 hvv ho2
            obtain ⟨rr, hc1, hc2⟩ := en_ac_ok z.1
            refine va_astq hx hb hr2.2.2.2.2.1 hr2.2.2.2.2.2.1 hr2.2.2.2.2.2.2.1 hr2.2.2.2.2.2.2.2 a.2.toNat t v.2.toNat (en_ac z.1) h5 (by rw [hc2]; exact h6) h8 hc1 hx2 hdg (fun H1 locs1 hP hD hS => ?_)
            have hcc : en_c kc ρ (ws.set a.2.toNat (q, .inl (cA, z.2.length, .inr (.inr (.inr (.inr (va_up f x.toNatClampNeg (some qv)))))))) tys (3, z.1, (0, 0), z.2.set qi.1.toNat v, []) (.inl (cA, z.2.length, .inr (.inr (.inr (.inr (va_up f x.toNatClampNeg (some qv))))))) := by
              refine ⟨cA, va_up f x.toNatClampNeg (some qv), t, by rw [List.length_set], h6, fun j b hj => ?_⟩
              have hj : (z.2.set qi.1.toNat v)[j]? = some b := hj
              rw [← hx4 he] at hj
              by_cases hjx : x.toNatClampNeg = j
              · subst hjx
                rw [List.getElem?_set_self hx3] at hj
                cases hj
                refine en_v.mono en_pre.rf (en_le.set h5 _) ?_
                show en_v kc ρ ws v (va_rf (va_up f x.toNatClampNeg (some qv) x.toNatClampNeg))
                unfold va_up
                rw [if_pos rfl]
                exact hvv
              · rw [List.getElem?_set_ne hjx] at hj
                refine en_v.mono en_pre.rf (en_le.set h5 _) ?_
                show en_v kc ρ ws b (va_rf (va_up f x.toNatClampNeg (some qv) j))
                unfold va_up
                rw [if_neg (Ne.symm hjx)]
                exact h7 j b hj
            exact hk.one en_pre.rf (en_le.set h5 _) en_pre.rf (hr2.heap h5 hcc hP hD hS)
          · rw [if_neg he] at hk
            exact (en_no rfl hk).elim
/-- lengths -/
def en_len (w : List en_C) (a : en_V) : Option Nat := cond (Nat.beq a.1 4) (match w[a.2.toNat]? with
  | some ce => match ce.1 with
    | 1 => some ce.2.1
    | 2 => some ce.2.1
    | 3 => some ce.2.2.2.1.length
    | 4 => some ce.2.1
    | _ => none
  | none => none) none
def en_alen (nx : Nat) (L : en_L) (st : List en_V) (iv : en_I) (w : List en_C) (n1 n2 : Nat) : en_O := match st with
  | a :: r => match en_len w a with
    | some n => cond (Nat.blt n 2147483648) (en_1 nx L ((0, (n : Int)) :: r) iv w n1 n2) none
    | none => none
  | _ => none
theorem en_len_ok {a : en_V} {v : Value} {n : Nat} (hw : en_w kc ρ ws tys w) (hv : en_v kc ρ ws a v) (h : en_len w a = some n) : ∃ (q : Nat) (cA : ClassId) (z : vp_A) (t : Nat) (ty : FieldType), v = .ref q ∧ ws[a.2.toNat]? = some (q, .inl (cA, z)) ∧ tys[t]? = some (cA, ty) ∧ z.1 = n := by
  unfold en_len at h
  cases h4 : Nat.beq a.1 4 with
  | false => rw [h4] at h; cases h
  | true =>
    rw [h4] at h
    obtain ⟨q, e, rfl, h5⟩ := hv.cell h4
    cases hc : w[a.2.toNat]? with
    | none => rw [hc] at h; cases h
    | some cell =>
      rw [hc] at h
      obtain ⟨t, k, d, fs, ex⟩ := cell
      obtain ⟨q', e', h6, h7⟩ := hw.2 _ _ hc
      cases Option.some.inj (h5.symm.trans h6)
      dsimp only [cond_true] at h
      match t, h, h7 with
      | 1, h, h7 =>
        cases h
        obtain ⟨cA, f, t, rfl, h8, -⟩ := h7
        exact ⟨q, cA, _, t, _, rfl, h5, h8, rfl⟩
      | 2, h, h7 =>
        cases h
        obtain ⟨cA, f, t, rfl, h8, -⟩ := h7
        exact ⟨q, cA, _, t, _, rfl, h5, h8, rfl⟩
      | 3, h, h7 =>
        cases h
        obtain ⟨cA, f, t, rfl, h8, -⟩ := h7
        exact ⟨q, cA, _, t, _, rfl, h5, h8, rfl⟩
      | 4, h, h7 =>
        cases h
        obtain ⟨cA, f, t, rfl, h8, -⟩ := h7
        exact ⟨q, cA, _, t, _, rfl, h5, h8, rfl⟩
theorem en_alen_ok (hx : p.tables.exec = Jvm.exec) (hb : c.code = cc) (hdg : decode cc pc = .ok (.arraylength, 1)) (hr : en_R kc D A s nL ρ ws tys H locs la sv L st iv w)
    (hk : en_Ks p l e Rm s m args below meth c Q kc D A nL ρ ws tys (en_alen (pc + 1) L st iv w n1 n2)) : W p l e Rm s m args below meth c H locs n1 n2 Q (F0 m pc la sv) := by
  unfold en_alen at hk
  match st, hr, hk with
  | [], hr, hk => exact (en_no rfl hk).elim
  | a :: r, hr, hk =>
    obtain ⟨va, sv2, rfl, hva, hr2⟩ := hr.pop
    dsimp only at hk
    cases ho : en_len w a with
    | none => rw [ho] at hk; exact (en_no rfl hk).elim
    | some n =>
      rw [ho] at hk
      dsimp only at hk
      cases hlt : Nat.blt n 2147483648 with
      | false => rw [hlt] at hk; exact (en_no rfl hk).elim
      | true =>
        rw [hlt] at hk
        obtain ⟨q, cA, z, t, ty, rfl, h5, h6, h7⟩ := en_len_ok hr2.2.2.2.1 hva ho
        refine va_alen hx hb hr2.2.2.2.2.1 hr2.2.2.2.2.2.1 a.2.toNat t h5 h6 rfl hdg (hk.one en_pre.rf en_le.rf en_pre.rf (hr2.push ⟨_, rfl, ?_⟩))
        rw [h7]
        exact en_ofNat_toInt (en_blt hlt)
/-! new cells -/
def en_df (ty : FieldType) : en_V := match ty with
  | .long => (2, 0)
  | .object _ => (5, 0)
  | .array _ => (5, 0)
  | _ => (0, 0)
def en_dfok (ty : FieldType) : Bool := match ty with
  | .float => false
  | .double => false
  | _ => true
theorem en_df_ok {ty : FieldType} (h : en_dfok ty = true) : en_v kc ρ ws (en_df ty) (defaultValue ty) := by
  cases ty with
  | float => cases h
  | double => cases h
  | long => exact ⟨0, rfl, rfl⟩
  | object _ => rfl
  | array _ => rfl
  | _ => exact ⟨0, rfl, rfl⟩
def en_new (ci N : Nat) (dl : List en_V) (bc bs nx : Nat) (L : en_L) (st : List en_V) (iv : en_I) (w : List en_C) (n1 n2 : Nat) : en_O :=
  cond (Nat.ble (n1 + 1) bc && Nat.ble (n2 + N) bs) (en_add w (0, ci, (0, 0), dl, []) (fun w' => en_1 nx L ((4, (w.length : Int)) :: st) iv w' (n1 + 1) (n2 + N))) none
theorem en_new_ok {ci x bc bs : Nat} {dl : List en_V} {C : String} {T : u_T} {N : Nat} {ty : Nat → FieldType} (hx : p.tables.exec = Jvm.exec) (hb : c.code = cc) (hts : ∀ w ∈ Ts, w.before args s = true) (hown : s.vm.findClass own = some m.cls) (hcl : en_ci Ts ci C T N ty) (hdl : dl = (List.range N).map (fun k => en_df (ty k))) (hdf : ∀ k, k < N → en_dfok (ty k) = true) (h1 : Cond.classLink own x C ∈ Ts) (h2 : Cond.instantiable C N ∈ Ts) (h3 : Cond.initialized C ∈ Ts) (hA : ∀ q, s.heap.size ≤ q → A q) (hbc : bc ≤ Rm.cells) (hbs : bs ≤ Rm.slots) (hdg : decode cc pc = .ok (.new x, 3))
    (hr : en_R kc D A s nL ρ ws tys H locs la sv L st iv w) (hk : en_Ks p l e Rm s m args below meth c Q kc D A nL ρ ws tys (en_new ci N dl bc bs (pc + 3) L st iv w n1 n2)) : W p l e Rm s m args below meth c H locs n1 n2 Q (F0 m pc la sv) := by
  unfold en_new at hk
  simp only [en_add_eq] at hk
  cases hbb : (Nat.ble (n1 + 1) bc && Nat.ble (n2 + N) bs) with
  | false => rw [hbb] at hk; exact (en_no rfl hk).elim
  | true =>
    rw [hbb] at hk
    rw [Bool.and_eq_true] at hbb
    have hc1 := Nat.le_of_ble_eq_true hbb.1
    have hc2 := Nat.le_of_ble_eq_true hbb.2
    obtain ⟨-, -, -, hw, hK, hP, hD, hS⟩ := id hr
    refine va_new (fs := (List.range N).map (fun k => defaultValue (ty k))) (C := C) (T := T) (N := N) hx hb hts hcl.2.1 ty hcl.2.2.1 hown (hts _ h1) (hts _ h2) (hts _ h3) hK hP hD hS hA hcl.1 (fun j hj => ?_) (by omega) (by omega) hdg (fun q H1 hP hD hS => ?_)
    · unfold vp_V
      rw [List.getD_eq_getElem?_getD, List.getElem?_map, List.getElem?_range hj]
      rfl
    · have hcc : en_c kc ρ (ws ++ [(q, .inr (ci, (List.range N).map (fun k => defaultValue (ty k))))]) tys (0, ci, (0, 0), dl, []) (.inr (ci, (List.range N).map (fun k => defaultValue (ty k)))) := by
        refine ⟨(List.range N).map (fun k => defaultValue (ty k)), rfl, ?_⟩
        show en_f2 _ dl _
        rw [hdl]
        have : ∀ (k : List Nat), (∀ j ∈ k, j < N) → en_f2 (en_v kc ρ (ws ++ [(q, .inr (ci, (List.range N).map (fun k => defaultValue (ty k))))])) (k.map (fun k => en_df (ty k))) (k.map (fun k => defaultValue (ty k))) := by
          intro k
          induction k with
          | nil => intro _; trivial
          | cons a k ih => intro h; exact ⟨en_df_ok (hdf a (h a List.mem_cons_self)), ih (fun j hj => h j (List.mem_cons_of_mem _ hj))⟩
        exact this _ (fun j hj => List.mem_range.mp hj)
      exact hk.one en_pre.rf (en_le.app _) en_pre.rf ((hr.more en_pre.rf hcc hK hP hD hS).push (en_last hw))
/-- a new array: kd 1 int, 4 boolean, 2 long -/
def en_na (kd bc bs nx : Nat) (L : en_L) (st : List en_V) (iv : en_I) (w : List en_C) (n1 n2 : Nat) : en_O := match st with
  | a :: r => match en_rng iv a with
    | some q => if q.1 = q.2 then (if 0 ≤ q.1 then cond (Nat.ble q.1.toNat 1000000 && (Nat.ble (n1 + 1) bc && Nat.ble (n2 + q.1.toNat) bs)) (en_add w (kd, q.1.toNat, (0, 0), [], []) (fun w' => en_1 nx L ((4, (w.length : Int)) :: r) iv w' (n1 + 1) (n2 + q.1.toNat))) none else none) else none
    | none => none
  | _ => none
theorem en_na_ok {kd bc bs : Nat} (hr : en_R kc D A s nL ρ ws tys H locs la sv L st iv w)
    (row : ∀ (x : Int32) (n : Nat) (rest : List Value), ¬ x < 0 → x.toNatClampNeg = n → n ≤ 1000000 → n1 + 1 ≤ bc → n2 + n ≤ bs → (∀ (q : Nat) (e1 : va_E) (H1 : Heap) (tys1 : List (ClassId × FieldType)), en_pre tys tys1 → en_c kc ρ (ws ++ [(q, e1)]) tys1 (kd, n, (0, 0), [], []) e1 → va_K D en_cl tys1 s → va_P D en_cl (ws ++ [(q, e1)]) H1 → va_D A (ws ++ [(q, e1)]) → va_S A s.heap H1 locs → W p l e Rm s m args below meth c H1 locs (n1 + 1) (n2 + n) Q (F0 m nx la (.ref q :: rest))) → W p l e Rm s m args below meth c H locs n1 n2 Q (F0 m pc la (.int x :: rest)))
    (hk : en_Ks p l e Rm s m args below meth c Q kc D A nL ρ ws tys (en_na kd bc bs nx L st iv w n1 n2)) : W p l e Rm s m args below meth c H locs n1 n2 Q (F0 m pc la sv) := by
  unfold en_na at hk
  simp only [en_add_eq] at hk
  match st, hr, hk with
  | [], hr, hk => exact (en_no rfl hk).elim
  | a :: r, hr, hk =>
    obtain ⟨va, sv2, rfl, hva, hr2⟩ := hr.pop
    dsimp only at hk
    cases ho : en_rng iv a with
    | none => rw [ho] at hk; exact (en_no rfl hk).elim
    | some q0 =>
      rw [ho] at hk
      dsimp only at hk
      by_cases he : q0.1 = q0.2
      · rw [if_pos he] at hk
        by_cases h0 : 0 ≤ q0.1
        · rw [if_pos h0] at hk
          cases hbb : (Nat.ble q0.1.toNat 1000000 && (Nat.ble (n1 + 1) bc && Nat.ble (n2 + q0.1.toNat) bs)) with
          | false => rw [hbb] at hk; exact (en_no rfl hk).elim
          | true =>
            rw [hbb] at hk
            rw [Bool.and_eq_true, Bool.and_eq_true] at hbb
            obtain ⟨x, rfl, h1, h2⟩ := en_rng_ok hr2.2.2.1 hva ho
            have hxq : x.toInt = q0.1 := by omega
            refine row x q0.1.toNat sv2 (en_toInt_nn hxq h0) (by rw [en_cl_toNat, hxq]) (Nat.le_of_ble_eq_true hbb.1) (Nat.le_of_ble_eq_true hbb.2.1) (Nat.le_of_ble_eq_true hbb.2.2) (fun q e1 H1 tys1 g1 g2 g3 g4 g5 g6 => ?_)
            exact hk.one en_pre.rf (en_le.app _) g1 ((hr2.more g1 g2 g3 g4 g5 g6).push (en_last hr2.2.2.2.1))
        · rw [if_neg h0] at hk; exact (en_no rfl hk).elim
      · rw [if_neg he] at hk; exact (en_no rfl hk).elim
theorem en_in00 (j : Nat) : en_in (en_el (0, 0) [] j) (0 : Int32) := ⟨Int.le_refl _, Int.le_refl _⟩
theorem en_na_i {bc bs : Nat} (hx : p.tables.exec = Jvm.exec) (hb : c.code = cc) (hts : ∀ w ∈ Ts, w.before args s = true) (h1 : Cond.arrayClass .int ∈ Ts) (hA : ∀ q, s.heap.size ≤ q → A q) (hbc : bc ≤ Rm.cells) (hbs : bs ≤ Rm.slots) (hdg : decode cc pc = .ok (.newarray .int, 2))
    (hr : en_R kc D A s nL ρ ws tys H locs la sv L st iv w) (hk : en_Ks p l e Rm s m args below meth c Q kc D A nL ρ ws tys (en_na 1 bc bs (pc + 2) L st iv w n1 n2)) : W p l e Rm s m args below meth c H locs n1 n2 Q (F0 m pc la sv) := by
  obtain ⟨-, -, -, hw, hK, hP, hD, hS⟩ := id hr
  refine en_na_ok hr (fun x n rest hx0 hxn hn hc1 hc2 kk => ?_) hk
  exact va_newa (atype := .int) (ty := .int) (a0 := (n, .inl (fun _ => 0))) hx hb (hts _ h1) rfl hK hP hD hS hA (fun cA => rfl) hx0 hxn (by show n * 4 ≤ 536870912; omega) (by omega) (by omega) hdg
    (fun q cA H1 g1 g2 g3 g4 => kk q (.inl (cA, n, .inl (fun _ => 0))) H1 _ (en_pre.app _) (show en_c kc ρ (ws ++ [(q, .inl (cA, n, .inl (fun _ => 0)))]) _ (1, n, (0, 0), [], []) (.inl (cA, n, .inl (fun _ => 0))) from ⟨cA, fun _ => 0, tys.length, rfl, by rw [List.getElem?_append_right (Nat.le_refl _), Nat.sub_self]; rfl, fun j _ => en_in00 j⟩) g1 g2 g3 g4)
theorem en_na_z {bc bs : Nat} (hx : p.tables.exec = Jvm.exec) (hb : c.code = cc) (hts : ∀ w ∈ Ts, w.before args s = true) (h1 : Cond.arrayClass .boolean ∈ Ts) (hA : ∀ q, s.heap.size ≤ q → A q) (hbc : bc ≤ Rm.cells) (hbs : bs ≤ Rm.slots) (hdg : decode cc pc = .ok (.newarray .boolean, 2))
    (hr : en_R kc D A s nL ρ ws tys H locs la sv L st iv w) (hk : en_Ks p l e Rm s m args below meth c Q kc D A nL ρ ws tys (en_na 4 bc bs (pc + 2) L st iv w n1 n2)) : W p l e Rm s m args below meth c H locs n1 n2 Q (F0 m pc la sv) := by
  obtain ⟨-, -, -, hw, hK, hP, hD, hS⟩ := id hr
  refine en_na_ok hr (fun x n rest hx0 hxn hn hc1 hc2 kk => ?_) hk
  exact va_newa (atype := .boolean) (ty := .boolean) (a0 := (n, .inl (fun _ => 0))) hx hb (hts _ h1) rfl hK hP hD hS hA (fun cA => rfl) hx0 hxn (by show n * 1 ≤ 536870912; omega) (by omega) (by omega) hdg
    (fun q cA H1 g1 g2 g3 g4 => kk q (.inl (cA, n, .inl (fun _ => 0))) H1 _ (en_pre.app _) (show en_c kc ρ (ws ++ [(q, .inl (cA, n, .inl (fun _ => 0)))]) _ (4, n, (0, 0), [], []) (.inl (cA, n, .inl (fun _ => 0))) from ⟨cA, fun _ => 0, tys.length, rfl, by rw [List.getElem?_append_right (Nat.le_refl _), Nat.sub_self]; rfl, fun j _ => en_in00 j⟩) g1 g2 g3 g4)
theorem en_na_l {bc bs : Nat} (hx : p.tables.exec = Jvm.exec) (hb : c.code = cc) (hts : ∀ w ∈ Ts, w.before args s = true) (h1 : Cond.arrayClass .long ∈ Ts) (hA : ∀ q, s.heap.size ≤ q → A q) (hbc : bc ≤ Rm.cells) (hbs : bs ≤ Rm.slots) (hdg : decode cc pc = .ok (.newarray .long, 2))
    (hr : en_R kc D A s nL ρ ws tys H locs la sv L st iv w) (hk : en_Ks p l e Rm s m args below meth c Q kc D A nL ρ ws tys (en_na 2 bc bs (pc + 2) L st iv w n1 n2)) : W p l e Rm s m args below meth c H locs n1 n2 Q (F0 m pc la sv) := by
  obtain ⟨-, -, -, hw, hK, hP, hD, hS⟩ := id hr
  refine en_na_ok hr (fun x n rest hx0 hxn hn hc1 hc2 kk => ?_) hk
  exact va_newa (atype := .long) (ty := .long) (a0 := (n, .inr (.inl (fun _ => 0)))) hx hb (hts _ h1) rfl hK hP hD hS hA (fun cA => rfl) hx0 hxn (by show n * 8 ≤ 536870912; omega) (by omega) (by omega) hdg
    (fun q cA H1 g1 g2 g3 g4 => kk q (.inl (cA, n, .inr (.inl (fun _ => 0)))) H1 _ (en_pre.app _) (show en_c kc ρ (ws ++ [(q, .inl (cA, n, .inr (.inl (fun _ => 0))))]) _ (2, n, (0, 0), [], []) (.inl (cA, n, .inr (.inl (fun _ => 0)))) from ⟨cA, fun _ => 0, tys.length, rfl, by rw [List.getElem?_append_right (Nat.le_refl _), Nat.sub_self]; rfl, fun _ _ _ => rfl⟩) g1 g2 g3 g4)
/-- a new array of references: its element class by number -/
def en_nr (k bc bs nx : Nat) (L : en_L) (st : List en_V) (iv : en_I) (w : List en_C) (n1 n2 : Nat) : en_O := match st with
  | a :: r => match en_rng iv a with
    | some q => if q.1 = q.2 then (if 0 ≤ q.1 then cond (Nat.ble q.1.toNat 1000000 && (Nat.ble (n1 + 1) bc && Nat.ble (n2 + q.1.toNat) bs)) (en_add w (3, k, (0, 0), List.replicate q.1.toNat (5, 0), []) (fun w' => en_1 nx L ((4, (w.length : Int)) :: r) iv w' (n1 + 1) (n2 + q.1.toNat))) none else none) else none
    | none => none
  | _ => none
theorem en_nr_ok {k x bc bs : Nat} (hx : p.tables.exec = Jvm.exec) (hb : c.code = cc) (hts : ∀ w ∈ Ts, w.before args s = true) (hown : s.vm.findClass own = some m.cls) (h1 : Cond.classLink own x (en_an k) ∈ Ts) (h2 : va_AO (en_an k) s) (hA : ∀ q, s.heap.size ≤ q → A q) (hbc : bc ≤ Rm.cells) (hbs : bs ≤ Rm.slots) (hdg : decode cc pc = .ok (.anewarray x, 3))
    (hr : en_R kc D A s nL ρ ws tys H locs la sv L st iv w) (hk : en_Ks p l e Rm s m args below meth c Q kc D A nL ρ ws tys (en_nr k bc bs (pc + 3) L st iv w n1 n2)) : W p l e Rm s m args below meth c H locs n1 n2 Q (F0 m pc la sv) := by
  unfold en_nr at hk
  simp only [en_add_eq] at hk
  match st, hr, hk with
  | [], hr, hk => exact (en_no rfl hk).elim
  | a :: r, hr, hk =>
    obtain ⟨va, sv2, rfl, hva, hr2⟩ := hr.pop
    dsimp only at hk
    cases ho : en_rng iv a with
    | none => rw [ho] at hk; exact (en_no rfl hk).elim
    | some q0 =>
      rw [ho] at hk
      dsimp only at hk
      by_cases he : q0.1 = q0.2
      · rw [if_pos he] at hk
        by_cases h0 : 0 ≤ q0.1
        · rw [if_pos h0] at hk
          cases hbb : (Nat.ble q0.1.toNat 1000000 && (Nat.ble (n1 + 1) bc && Nat.ble (n2 + q0.1.toNat) bs)) with
          | false => rw [hbb] at hk; exact (en_no rfl hk).elim
          | true =>
            rw [hbb] at hk
            rw [Bool.and_eq_true, Bool.and_eq_true] at hbb
            have b1 := Nat.le_of_ble_eq_true hbb.1
            have b2 := Nat.le_of_ble_eq_true hbb.2.1
            have b3 := Nat.le_of_ble_eq_true hbb.2.2
            obtain ⟨y, rfl, g1, g2⟩ := en_rng_ok hr2.2.2.1 hva ho
            have hxq : y.toInt = q0.1 := by omega
            obtain ⟨-, -, -, hw, hK, hP, hD, hS⟩ := id hr2
            refine va_newq (C := en_an k) hx hb hown (hts _ h1) h2 hK hP hD hS hA (en_toInt_nn hxq h0) (show y.toNatClampNeg = q0.1.toNat by rw [en_cl_toNat, hxq]) (by omega) (by omega) (by omega) hdg (fun q cA H1 g1 g2 g3 g4 => ?_)
            have hcc : en_c kc ρ (ws ++ [(q, .inl (cA, q0.1.toNat, .inr (.inr (.inr (.inr (fun _ => none))))))]) (tys ++ [(cA, .object (en_an k))]) (3, k, (0, 0), List.replicate q0.1.toNat (5, 0), []) (.inl (cA, q0.1.toNat, .inr (.inr (.inr (.inr (fun _ => none)))))) := by
              refine ⟨cA, fun _ => none, tys.length, by rw [List.length_replicate], by rw [List.getElem?_append_right (Nat.le_refl _), Nat.sub_self]; rfl, fun j b hj => ?_⟩
              have hj : (List.replicate q0.1.toNat ((5, 0) : en_V))[j]? = some b := hj
              rw [List.getElem?_replicate] at hj
              split at hj
              · cases hj; rfl
              · cases hj
            exact hk.one en_pre.rf (en_le.app _) (en_pre.app _) ((hr2.more (en_pre.app _) hcc g1 g2 g3 g4).push (en_last hw))
        · rw [if_neg h0] at hk; exact (en_no rfl hk).elim
      · rw [if_neg he] at hk; exact (en_no rfl hk).elim
end ENH2
