/-! THE ENGINE, 7: String literals, statics, i2c, pop -/
section ENS
variable {p : Program} {l : Launch} {e : Env} {Rm : Room} {s : State} {m : MethodId} {args : Array Value} {below : List Frame} {meth : Method} {c : Code} {Q : State → Prop}
variable {kc : Nat → Nat} {D : va_G} {A : Nat → Prop} {nL : Nat} {cc : ByteArray} {Ts : List Cond} {own : String}
variable {ρ : List Int32} {ws : va_W} {tys : List (ClassId × FieldType)} {H : Heap} {locs : List Loc} {la : Array Slot} {sv : List Value} {L : en_L} {st : List en_V} {iv : en_I} {w : List en_C} {n1 n2 pc nx : Nat}
/-- fields of a literal: b = 0 its bytes, else its coder -/
def en_gfS (b nx : Nat) (L : en_L) (st : List en_V) (iv : en_I) (w : List en_C) (n1 n2 : Nat) : en_O := match st with
  | a :: r => cond (Nat.beq a.1 6 && Nat.blt a.2.toNat 3) (en_1 nx L ((match b with
    | 0 => ((6, ((100 + a.2.toNat : Nat) : Int)) : en_V)
    | _ => (0, 0)) :: r) iv w n1 n2) none
  | _ => none
theorem en_gfS_ok {b x : Nat} (hx : p.tables.exec = Jvm.exec) (hb : c.code = cc) (hB : en_B kc A s s.heap) (hts : ∀ w ∈ Ts, w.before args s = true) (hown : s.vm.findClass own = some m.cls)
    (h0 : b = 0 → Cond.fieldLink own x "java/lang/String" "value" "[B" ∈ Ts) (h1 : b ≠ 0 → Cond.fieldLink own x "java/lang/String" "coder" "B" ∈ Ts) (hdg : decode cc pc = .ok (.getfield x, 3))
    (hr : en_R kc D A s nL ρ ws tys H locs la sv L st iv w) (hk : en_Ks p l e Rm s m args below meth c Q kc D A nL ρ ws tys (en_gfS b (pc + 3) L st iv w n1 n2)) : W p l e Rm s m args below meth c H locs n1 n2 Q (F0 m pc la sv) := by
  unfold en_gfS at hk
  match st, hr, hk with
  | [], hr, hk => exact (en_no rfl hk).elim
  | a :: r, hr, hk =>
    dsimp only at hk
    cases h6 : (Nat.beq a.1 6 && Nat.blt a.2.toNat 3) with
    | false => rw [h6] at hk; exact (en_no rfl hk).elim
    | true =>
      rw [h6] at hk
      rw [Bool.and_eq_true] at h6
      obtain ⟨va, sv2, rfl, hva, hr2⟩ := hr.pop
      have e1 := hva.six h6.1
      subst e1
      obtain ⟨g1, g2, g3, g4⟩ := hB.2.2.2.2.2.2.1.1 a.2.toNat (en_blt h6.2)
      match b, h0, h1, hk with
      | 0, h0, _, hk =>
        exact vk_getf hx hb g3 hr2.2.2.2.2.2.2.2 hown (hts _ (h0 rfl)) (fun _ h9 => h9) hdg (hk.one en_pre.rf en_le.rf en_pre.rf (hr2.push rfl))
      | k + 1, _, h1, hk =>
        exact vk_getf hx hb g2 hr2.2.2.2.2.2.2.2 hown (hts _ (h1 (by omega))) (fun _ h9 => h9) hdg (hk.one en_pre.rf en_le.rf en_pre.rf (hr2.push ⟨0, rfl, rfl⟩))
/-- lengths and bytes of a literal's array -/
def en_lenS (nx : Nat) (L : en_L) (st : List en_V) (iv : en_I) (w : List en_C) (n1 n2 : Nat) : en_O := match st with
  | a :: r => cond (Nat.beq a.1 6 && (Nat.ble 100 a.2.toNat && Nat.blt (a.2.toNat - 100) 3)) (en_1 nx L ((0, ((en_slen.getD (a.2.toNat - 100) 0 : Nat) : Int)) :: r) iv w n1 n2) none
  | _ => none
theorem en_slen_lt (k : Nat) : en_slen.getD k 0 < 2147483648 := by
  match k with
  | 0 => decide
  | 1 => decide
  | 2 => decide
  | k + 3 => exact Nat.lt_of_le_of_lt (Nat.le_of_eq (by simp [en_slen])) (by decide : 0 < 2147483648)
theorem en_lenS_ok (hx : p.tables.exec = Jvm.exec) (hb : c.code = cc) (hB : en_B kc A s s.heap) (hdg : decode cc pc = .ok (.arraylength, 1))
    (hr : en_R kc D A s nL ρ ws tys H locs la sv L st iv w) (hk : en_Ks p l e Rm s m args below meth c Q kc D A nL ρ ws tys (en_lenS (pc + 1) L st iv w n1 n2)) : W p l e Rm s m args below meth c H locs n1 n2 Q (F0 m pc la sv) := by
  unfold en_lenS at hk
  match st, hr, hk with
  | [], hr, hk => exact (en_no rfl hk).elim
  | a :: r, hr, hk =>
    dsimp only at hk
    cases h6 : (Nat.beq a.1 6 && (Nat.ble 100 a.2.toNat && Nat.blt (a.2.toNat - 100) 3)) with
    | false => rw [h6] at hk; exact (en_no rfl hk).elim
    | true =>
      rw [h6] at hk
      rw [Bool.and_eq_true, Bool.and_eq_true] at h6
      obtain ⟨va, sv2, rfl, hva, hr2⟩ := hr.pop
      have e1 := hva.six h6.1
      have e2 : 100 + (a.2.toNat - 100) = a.2.toNat := by have := Nat.le_of_ble_eq_true h6.2.1; omega
      rw [← e2] at e1
      subst e1
      obtain ⟨g1, g2, g3, g4⟩ := hB.2.2.2.2.2.2.1.1 (a.2.toNat - 100) (en_blt h6.2.2)
      exact va_tlen hx hb g4 hr2.2.2.2.2.2.2.2 rfl hdg (hk.one en_pre.rf en_le.rf en_pre.rf (hr2.push ⟨_, rfl, en_ofNat_toInt (en_slen_lt _)⟩))
def en_byS (nx : Nat) (L : en_L) (st : List en_V) (iv : en_I) (w : List en_C) (n1 n2 : Nat) : en_O := match st with
  | i :: a :: r => cond (Nat.beq a.1 6 && (Nat.ble 100 a.2.toNat && Nat.blt (a.2.toNat - 100) 3)) (match en_ix iv i (en_slen.getD (a.2.toNat - 100) 0) with
    | some q => if q.1 = q.2 then en_1 nx L ((0, ((en_sbyt.getD (a.2.toNat - 100) []).getD q.1.toNat 0).toInt) :: r) iv w n1 n2 else none
    | none => none) none
  | _ => none
theorem en_byS_ok (hx : p.tables.exec = Jvm.exec) (hb : c.code = cc) (hB : en_B kc A s s.heap) (hdg : decode cc pc = .ok (.baload, 1))
    (hr : en_R kc D A s nL ρ ws tys H locs la sv L st iv w) (hk : en_Ks p l e Rm s m args below meth c Q kc D A nL ρ ws tys (en_byS (pc + 1) L st iv w n1 n2)) : W p l e Rm s m args below meth c H locs n1 n2 Q (F0 m pc la sv) := by
  unfold en_byS at hk
  match st, hr, hk with
  | [], hr, hk => exact (en_no rfl hk).elim
  | [_], hr, hk => exact (en_no rfl hk).elim
  | i :: a :: r, hr, hk =>
    dsimp only at hk
    cases h6 : (Nat.beq a.1 6 && (Nat.ble 100 a.2.toNat && Nat.blt (a.2.toNat - 100) 3)) with
    | false => rw [h6] at hk; exact (en_no rfl hk).elim
    | true =>
      rw [h6] at hk
      rw [cond_true] at hk
      rw [Bool.and_eq_true, Bool.and_eq_true] at h6
      cases hq : en_ix iv i (en_slen.getD (a.2.toNat - 100) 0) with
      | none => rw [hq] at hk; exact (en_no rfl hk).elim
      | some q =>
        rw [hq] at hk
        dsimp only at hk
        by_cases he : q.1 = q.2
        · rw [if_pos he] at hk
          obtain ⟨vi, sv1, rfl, hvi, hr1⟩ := hr.pop
          obtain ⟨va, sv2, rfl, hva, hr2⟩ := hr1.pop
          have e1 := hva.six h6.1
          have e2 : 100 + (a.2.toNat - 100) = a.2.toNat := by have := Nat.le_of_ble_eq_true h6.2.1; omega
          rw [← e2] at e1
          subst e1
          obtain ⟨x, rfl, hx1, hx2, hx3, hx4⟩ := en_ix_ok hr2.2.2.1 hvi hq
          obtain ⟨g1, g2, g3, g4⟩ := hB.2.2.2.2.2.2.1.1 (a.2.toNat - 100) (en_blt h6.2.2)
          refine va_tb hx hb g4 hr2.2.2.2.2.2.2.2 hx2 rfl hdg (hk.one en_pre.rf en_le.rf en_pre.rf (hr2.push ⟨_, rfl, ?_⟩))
          rw [hx4 he]
        · rw [if_neg he] at hk; exact (en_no rfl hk).elim
/-- statics: a = 0 COMPACT_STRINGS, 1 SIOOBE_FORMATTER -/
def en_gs (a nx : Nat) (L : en_L) (st : List en_V) (iv : en_I) (w : List en_C) (n1 n2 : Nat) : en_O := match a with
  | 0 => en_1 nx L ((0, 1) :: st) iv w n1 n2
  | 1 => en_1 nx L ((9, 0) :: st) iv w n1 n2
  | _ => none
theorem en_gs_ok {a x : Nat} (hx : p.tables.exec = Jvm.exec) (hb : c.code = cc) (hB : en_B kc A s s.heap) (hts : ∀ w ∈ Ts, w.before args s = true) (hown : s.vm.findClass own = some m.cls)
    (h0 : a = 0 → Cond.fieldLink own x "java/lang/String" "COMPACT_STRINGS" "Z" ∈ Ts) (h1 : a = 1 → Cond.fieldLink own x "jdk/internal/util/Preconditions" "SIOOBE_FORMATTER" "Ljava/util/function/BiFunction;" ∈ Ts) (hdg : decode cc pc = .ok (.getstatic x, 3))
    (hr : en_R kc D A s nL ρ ws tys H locs la sv L st iv w) (hk : en_Ks p l e Rm s m args below meth c Q kc D A nL ρ ws tys (en_gs a (pc + 3) L st iv w n1 n2)) : W p l e Rm s m args below meth c H locs n1 n2 Q (F0 m pc la sv) := by
  match a, h0, h1, hk with
  | 0, h0, _, hk => exact va_gets hx hb hB.2.2.2.2.2.2.2.1 hr.2.2.2.2.2.2.2 hown (hts _ (h0 rfl)) (fun _ h9 => h9) hdg (hk.one en_pre.rf en_le.rf en_pre.rf (hr.push ⟨1, rfl, rfl⟩))
  | 1, _, h1, hk =>
    rcases hB.2.2.2.2.2.2.2.2.2.2.2 with h9 | ⟨t, h9⟩
    · exact va_gets hx hb h9 hr.2.2.2.2.2.2.2 hown (hts _ (h1 rfl)) (fun _ h9 => h9) hdg (hk.one en_pre.rf en_le.rf en_pre.rf (hr.push ⟨none, rfl⟩))
    · exact va_gets hx hb h9 hr.2.2.2.2.2.2.2 hown (hts _ (h1 rfl)) (fun _ h9 => h9) hdg (hk.one en_pre.rf en_le.rf en_pre.rf (hr.push ⟨some t, rfl⟩))
  | k + 2, _, _, hk => exact (en_no rfl hk).elim
def en_i2c (nx : Nat) (L : en_L) (st : List en_V) (iv : en_I) (w : List en_C) (n1 n2 : Nat) : en_O := match st with
  | a :: r => match en_rng iv a with
    | some q => if q.1 = q.2 then en_1 nx L ((0, ((Int32.ofInt q.1).toUInt32 % 65536).toInt32.toInt) :: r) iv w n1 n2 else none
    | none => none
  | _ => none
theorem en_i2c_ok (hx : p.tables.exec = Jvm.exec) (hb : c.code = cc) (hdg : decode cc pc = .ok (.i2c, 1))
    (hr : en_R kc D A s nL ρ ws tys H locs la sv L st iv w) (hk : en_Ks p l e Rm s m args below meth c Q kc D A nL ρ ws tys (en_i2c (pc + 1) L st iv w n1 n2)) : W p l e Rm s m args below meth c H locs n1 n2 Q (F0 m pc la sv) := by
  unfold en_i2c at hk
  match st, hr, hk with
  | [], hr, hk => exact (en_no rfl hk).elim
  | a :: r, hr, hk =>
    dsimp only at hk
    cases ha : en_rng iv a with
    | none => rw [ha] at hk; exact (en_no rfl hk).elim
    | some q =>
      rw [ha] at hk
      dsimp only at hk
      by_cases he : q.1 = q.2
      · rw [if_pos he] at hk
        obtain ⟨va, sv2, rfl, hva, hr2⟩ := hr.pop
        obtain ⟨x, rfl, hx1⟩ := en_rng_ok hr2.2.2.1 hva ha
        refine lv_i2c hx hb hdg rfl (hk.one en_pre.rf en_le.rf en_pre.rf (hr2.push ⟨_, rfl, ?_⟩))
        rw [en_in_one hx1 he]
      · rw [if_neg he] at hk; exact (en_no rfl hk).elim
def en_pop (nx : Nat) (L : en_L) (st : List en_V) (iv : en_I) (w : List en_C) (n1 n2 : Nat) : en_O := match st with
  | a :: r => cond (en_wide a) none (en_1 nx L r iv w n1 n2)
  | _ => none
theorem en_pop_ok (hx : p.tables.exec = Jvm.exec) (hb : c.code = cc) (hdg : decode cc pc = .ok (.pop, 1))
    (hr : en_R kc D A s nL ρ ws tys H locs la sv L st iv w) (hk : en_Ks p l e Rm s m args below meth c Q kc D A nL ρ ws tys (en_pop (pc + 1) L st iv w n1 n2)) : W p l e Rm s m args below meth c H locs n1 n2 Q (F0 m pc la sv) := by
  unfold en_pop at hk
  match st, hr, hk with
  | [], hr, hk => exact (en_no rfl hk).elim
  | a :: r, hr, hk =>
    obtain ⟨va, sv1, rfl, hva, hr1⟩ := hr.pop
    dsimp only at hk
    cases h : en_wide a with
    | true => rw [h] at hk; exact (en_no rfl hk).elim
    | false =>
      rw [h] at hk
      exact lv_pop hx hb hdg (hva.one h) (hk.one en_pre.rf en_le.rf en_pre.rf hr1)
/-- a literal: ldc, ldc_w -/
theorem en_str {k x : Nat} (hB : en_B kc A s s.heap) (h : (k = 0 ∧ own = RX6 ∧ x = 19) ∨ (k = 1 ∧ own = RX10 ∧ x = 324) ∨ (k = 2 ∧ own = RX10 ∧ x = 338)) : ∃ tx : String, vk_R own x tx (kc k) s := by
  rcases h with ⟨rfl, rfl, rfl⟩ | ⟨rfl, rfl, rfl⟩ | ⟨rfl, rfl, rfl⟩
  · exact ⟨_, hB.2.2.2.1⟩
  · exact ⟨_, hB.2.2.2.2.1⟩
  · exact ⟨_, hB.2.2.2.2.2.1⟩
theorem en_ldcS {k x : Nat} (hx : p.tables.exec = Jvm.exec) (hb : c.code = cc) (hB : en_B kc A s s.heap) (hown : s.vm.findClass own = some m.cls) (h : (k = 0 ∧ own = RX6 ∧ x = 19) ∨ (k = 1 ∧ own = RX10 ∧ x = 324) ∨ (k = 2 ∧ own = RX10 ∧ x = 338)) (hdg : decode cc pc = .ok (.ldc x, 2))
    (hr : en_R kc D A s nL ρ ws tys H locs la sv L st iv w) (hk : en_Ks p l e Rm s m args below meth c Q kc D A nL ρ ws tys (en_push (pc + 2) (6, (k : Int)) L st iv w n1 n2)) : W p l e Rm s m args below meth c H locs n1 n2 Q (F0 m pc la sv) := by
  obtain ⟨tx, hR⟩ := en_str hB h
  exact en_push_ok (v := .ref (kc k)) hr (by show Value.ref (kc k) = Value.ref (kc ((k : Int)).toNat); rw [Int.toNat_natCast]) (fun z => va_ldcS hx hb hown hR hdg z) hk
theorem en_ldcSw {tx : String} {x q : Nat} {rest : List Value} (hx : p.tables.exec = Jvm.exec) (hb : c.code = cc) (hown : s.vm.findClass own = some m.cls) (hZ : vk_R own x tx q s) (hdg : decode cc pc = .ok (.ldc_w x, 3))
    (k : W p l e Rm s m args below meth c H locs n1 n2 Q (F0 m (pc + 3) la (.ref q :: rest))) : W p l e Rm s m args below meth c H locs n1 n2 Q (F0 m pc la rest) := by
  intro T hT X
  obtain ⟨t, a, b⟩ := k T hT X
  exact ⟨t, X.ldcStringW hx hown (text := tx) (a := q) hZ.1 hZ.2 (g := F0 m pc la rest) rfl (by rw [hb]; exact hdg) t a, b⟩
theorem en_ldcwS {k x : Nat} (hx : p.tables.exec = Jvm.exec) (hb : c.code = cc) (hB : en_B kc A s s.heap) (hown : s.vm.findClass own = some m.cls) (h : (k = 0 ∧ own = RX6 ∧ x = 19) ∨ (k = 1 ∧ own = RX10 ∧ x = 324) ∨ (k = 2 ∧ own = RX10 ∧ x = 338)) (hdg : decode cc pc = .ok (.ldc_w x, 3))
    (hr : en_R kc D A s nL ρ ws tys H locs la sv L st iv w) (hk : en_Ks p l e Rm s m args below meth c Q kc D A nL ρ ws tys (en_push (pc + 3) (6, (k : Int)) L st iv w n1 n2)) : W p l e Rm s m args below meth c H locs n1 n2 Q (F0 m pc la sv) := by
  obtain ⟨tx, hR⟩ := en_str hB h
  exact en_push_ok (v := .ref (kc k)) hr (by show Value.ref (kc k) = Value.ref (kc ((k : Int)).toNat); rw [Int.toNat_natCast]) (fun z => en_ldcSw hx hb hown hR hdg z) hk
end ENS
