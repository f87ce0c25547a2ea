/-! THE CALCULUS, 3: each step is sound -/
section KKS
variable {p : Program} {l : Launch} {e : Env} {Rm : Room} {s : State} {m : MethodId} {args : Array Value} {below : List Frame} {meth : Method} {c : Code} {Q : State → Prop}
variable {kc : Nat → Nat} {D : va_G} {A : Nat → Prop} {nL : Nat} {cc : ByteArray} {xc : kk_X}
variable {ws : va_W} {tys : List (ClassId × FieldType)} {H : Heap} {locs : List Loc} {la : Array Slot} {sv : List Value} {L : en_L} {st : List en_V} {w : List kk_C} {n1 n2 pc nx : Nat}
/-- a world whose cells keep their addresses, none more -/
def kk_le (ws ws' : va_W) : Prop := en_le ws ws' ∧ ws'.length = ws.length
theorem kk_le.rf {ws : va_W} : kk_le ws ws := ⟨en_le.rf, rfl⟩
theorem kk_le.tr {a b c : va_W} (h : kk_le a b) (h' : kk_le b c) : kk_le a c := ⟨h.1.tr h'.1, h'.2.trans h.2⟩
theorem kk_le.set {ws : va_W} {k q : Nat} {e0 : va_E} (h : ws[k]? = some (q, e0)) (e : va_E) : kk_le ws (ws.set k (q, e)) := ⟨en_le.set h e, List.length_set⟩
/-- from every state that is described so, and is later, the machine comes to Q -/
def kk_K (p : Program) (l : Launch) (e : Env) (Rm : Room) (s : State) (m : MethodId) (args : Array Value) (below : List Frame) (meth : Method) (c : Code) (Q : State → Prop) (kc : Nat → Nat) (D : va_G) (A : Nat → Prop) (nL : Nat) (ws : va_W) (tys : List (ClassId × FieldType)) (n1 n2 : Nat) : kk_Q := fun pc L st w =>
  ∀ (ws' : va_W) (H : Heap) (locs : List Loc) (la : Array Slot) (sv : List Value), kk_le ws ws' → kk_R kc D A s nL ws' tys H locs la sv L st w → W p l e Rm s m args below meth c H locs n1 n2 Q (F0 m pc la sv)
theorem kk_K.later {ws' : va_W} (h2 : kk_le ws ws') (h : kk_K p l e Rm s m args below meth c Q kc D A nL ws tys n1 n2 pc L st w) : kk_K p l e Rm s m args below meth c Q kc D A nL ws' tys n1 n2 pc L st w :=
  fun ws2 H locs la sv g2 hr => h ws2 H locs la sv (h2.tr g2) hr
theorem kk_K.on (h : kk_K p l e Rm s m args below meth c Q kc D A nL ws tys n1 n2 pc L st w) (hr : kk_R kc D A s nL ws tys H locs la sv L st w) : W p l e Rm s m args below meth c H locs n1 n2 Q (F0 m pc la sv) := h ws H locs la sv kk_le.rf hr
theorem kk_K.sub {L' : en_L} (hs : kk_sub L' L) (h : kk_K p l e Rm s m args below meth c Q kc D A nL ws tys n1 n2 pc L' st w) : kk_K p l e Rm s m args below meth c Q kc D A nL ws tys n1 n2 pc L st w := by
  intro ws2 H locs la sv g2 hr
  obtain ⟨lv, h1, h2⟩ := hr.1
  obtain ⟨lv', h3, h4⟩ := kk_sub_ok h1 h2 hs
  exact h ws2 H locs la sv g2 ⟨⟨lv', h3, h4⟩, hr.2⟩
theorem kk_cPi {k : ClassFile.Cond} {x y : Int32} (h : en_cP k x y) : kk_cP k x.toInt y.toInt := by
  cases k with
  | eq => exact congrArg Int32.toInt h
  | ne => exact fun g => h (Int32.toInt_inj.mp g)
  | lt => exact Int32.lt_iff_toInt_lt.mp h
  | ge => exact Int32.le_iff_toInt_le.mp h
  | gt => exact Int32.lt_iff_toInt_lt.mp h
  | le => exact Int32.le_iff_toInt_le.mp h
theorem kk_cNi {k : ClassFile.Cond} {x y : Int32} (h : ¬ en_cP k x y) : kk_cN k x.toInt y.toInt := by
  cases k with
  | eq => exact fun g => h (Int32.toInt_inj.mp g)
  | ne => exact congrArg Int32.toInt (Classical.not_not.mp h)
  | lt => exact Int.not_lt.mp (fun g => h (Int32.lt_iff_toInt_lt.mpr g))
  | ge => exact Int.not_le.mp (fun g => h (Int32.le_iff_toInt_le.mpr g))
  | gt => exact Int.not_lt.mp (fun g => h (Int32.lt_iff_toInt_lt.mpr g))
  | le => exact Int.not_le.mp (fun g => h (Int32.le_iff_toInt_le.mpr g))
theorem kk_ib_ok {k : Nat} (hr : kk_R kc D A s nL ws tys H locs la sv L st w)
    (row : ∀ (x y : Int32) (rest : List Value), W p l e Rm s m args below meth c H locs n1 n2 Q (F0 m nx la (.int (en_sem k x y) :: rest)) → W p l e Rm s m args below meth c H locs n1 n2 Q (F0 m pc la (.int y :: .int x :: rest)))
    (hk : kk_ib k nx L st w (kk_K p l e Rm s m args below meth c Q kc D A nL ws tys n1 n2)) : W p l e Rm s m args below meth c H locs n1 n2 Q (F0 m pc la sv) := by
  unfold kk_ib at hk
  split at hk
  · obtain ⟨vb, sv1, rfl, hvb, hr1⟩ := hr.pop
    obtain ⟨va, sv2, rfl, hva, hr2⟩ := hr1.pop
    obtain ⟨x, rfl, -, ex⟩ := kk_v0 hva
    obtain ⟨y, rfl, -, ey⟩ := kk_v0 hvb
    unfold kk_i2 at hk
    rw [ex, ey] at hk
    exact row x y sv2 (hk.on (hr2.push (kk_mk0 _)))
  · exact hk.elim
theorem kk_id_ok {k : Nat} (hr : kk_R kc D A s nL ws tys H locs la sv L st w)
    (row : ∀ (x y : Int32) (rest : List Value), ¬ y = 0 → W p l e Rm s m args below meth c H locs n1 n2 Q (F0 m nx la (.int (en_sem k x y) :: rest)) → W p l e Rm s m args below meth c H locs n1 n2 Q (F0 m pc la (.int y :: .int x :: rest)))
    (hk : kk_id k nx L st w (kk_K p l e Rm s m args below meth c Q kc D A nL ws tys n1 n2)) : W p l e Rm s m args below meth c H locs n1 n2 Q (F0 m pc la sv) := by
  unfold kk_id at hk
  split at hk
  · obtain ⟨vb, sv1, rfl, hvb, hr1⟩ := hr.pop
    obtain ⟨va, sv2, rfl, hva, hr2⟩ := hr1.pop
    obtain ⟨x, rfl, -, ex⟩ := kk_v0 hva
    obtain ⟨y, rfl, ey0, ey⟩ := kk_v0 hvb
    unfold kk_i2 at hk
    rw [ex, ey] at hk
    refine row x y sv2 (fun e0 => hk.1 ?_) (hk.2.on (hr2.push (kk_mk0 _)))
    rw [← ey0, e0]
    rfl
  · exact hk.elim
theorem kk_lb_ok {k : Nat} (hr : kk_R kc D A s nL ws tys H locs la sv L st w)
    (row : ∀ (x y : Int64) (rest : List Value), W p l e Rm s m args below meth c H locs n1 n2 Q (F0 m nx la (.long (en_lsem k x y) :: rest)) → W p l e Rm s m args below meth c H locs n1 n2 Q (F0 m pc la (.long y :: .long x :: rest)))
    (hk : kk_lb k nx L st w (kk_K p l e Rm s m args below meth c Q kc D A nL ws tys n1 n2)) : W p l e Rm s m args below meth c H locs n1 n2 Q (F0 m pc la sv) := by
  unfold kk_lb at hk
  split at hk
  · obtain ⟨vb, sv1, rfl, hvb, hr1⟩ := hr.pop
    obtain ⟨va, sv2, rfl, hva, hr2⟩ := hr1.pop
    obtain ⟨x, rfl, -, ex⟩ := kk_v2 hva
    obtain ⟨y, rfl, -, ey⟩ := kk_v2 hvb
    unfold kk_l2 at hk
    rw [ex, ey] at hk
    exact row x y sv2 (hk.on (hr2.push (kk_mk2 _)))
  · exact hk.elim
theorem kk_ld_ok {k : Nat} (hr : kk_R kc D A s nL ws tys H locs la sv L st w)
    (row : ∀ (x y : Int64) (rest : List Value), ¬ y = 0 → W p l e Rm s m args below meth c H locs n1 n2 Q (F0 m nx la (.long (en_lsem k x y) :: rest)) → W p l e Rm s m args below meth c H locs n1 n2 Q (F0 m pc la (.long y :: .long x :: rest)))
    (hk : kk_ld k nx L st w (kk_K p l e Rm s m args below meth c Q kc D A nL ws tys n1 n2)) : W p l e Rm s m args below meth c H locs n1 n2 Q (F0 m pc la sv) := by
  unfold kk_ld at hk
  split at hk
  · obtain ⟨vb, sv1, rfl, hvb, hr1⟩ := hr.pop
    obtain ⟨va, sv2, rfl, hva, hr2⟩ := hr1.pop
    obtain ⟨x, rfl, -, ex⟩ := kk_v2 hva
    obtain ⟨y, rfl, ey0, ey⟩ := kk_v2 hvb
    unfold kk_l2 at hk
    rw [ex, ey] at hk
    refine row x y sv2 (fun e0 => hk.1 ?_) (hk.2.on (hr2.push (kk_mk2 _)))
    rw [← ey0, e0]
    rfl
  · exact hk.elim
theorem kk_ls_ok {k : Nat} (hr : kk_R kc D A s nL ws tys H locs la sv L st w)
    (row : ∀ (x : Int64) (y : Int32) (rest : List Value), W p l e Rm s m args below meth c H locs n1 n2 Q (F0 m nx la (.long (kk_lm k x y) :: rest)) → W p l e Rm s m args below meth c H locs n1 n2 Q (F0 m pc la (.int y :: .long x :: rest)))
    (hk : kk_ls k nx L st w (kk_K p l e Rm s m args below meth c Q kc D A nL ws tys n1 n2)) : W p l e Rm s m args below meth c H locs n1 n2 Q (F0 m pc la sv) := by
  unfold kk_ls at hk
  split at hk
  · obtain ⟨vb, sv1, rfl, hvb, hr1⟩ := hr.pop
    obtain ⟨va, sv2, rfl, hva, hr2⟩ := hr1.pop
    obtain ⟨x, rfl, -, ex⟩ := kk_v2 hva
    obtain ⟨y, rfl, -, ey⟩ := kk_v0 hvb
    unfold kk_l3 at hk
    rw [ex, ey] at hk
    exact row x y sv2 (hk.on (hr2.push (kk_mk2 _)))
  · exact hk.elim
theorem kk_v7 {x : Int} {v : Value} (h : en_v kc [] ws (7, x) v) : ∃ q : Nat, v = .ref q := h
theorem kk_ldv_ok {kd i : Nat} (hr : kk_R kc D A s nL ws tys H locs la sv L st w)
    (row0 : kd = 0 → ∀ x : Int32, la[i]? = some (.val (.int x)) → W p l e Rm s m args below meth c H locs n1 n2 Q (F0 m nx la (.int x :: sv)) → W p l e Rm s m args below meth c H locs n1 n2 Q (F0 m pc la sv))
    (row1 : kd = 1 → ∀ x : Int64, la[i]? = some (.val (.long x)) → W p l e Rm s m args below meth c H locs n1 n2 Q (F0 m nx la (.long x :: sv)) → W p l e Rm s m args below meth c H locs n1 n2 Q (F0 m pc la sv))
    (row2 : 2 ≤ kd → ∀ x : Nat, la[i]? = some (.val (.ref x)) → W p l e Rm s m args below meth c H locs n1 n2 Q (F0 m nx la (.ref x :: sv)) → W p l e Rm s m args below meth c H locs n1 n2 Q (F0 m pc la sv))
    (row3 : kd = 3 → la[i]? = some (.val .null) → W p l e Rm s m args below meth c H locs n1 n2 Q (F0 m nx la (.null :: sv)) → W p l e Rm s m args below meth c H locs n1 n2 Q (F0 m pc la sv))
    (hk : kk_ldv kd nx L st w (kk_K p l e Rm s m args below meth c Q kc D A nL ws tys n1 n2) (en_get L i)) : W p l e Rm s m args below meth c H locs n1 n2 Q (F0 m pc la sv) := by
  cases hg : en_get L i with
  | none =>
    rw [hg] at hk
    unfold kk_ldv at hk
    split at hk <;> first | exact hk.elim | (rename_i h; cases h)
  | some a =>
    rw [hg] at hk
    obtain ⟨v, h1, h2⟩ := hr.get hg
    unfold kk_ldv at hk
    split at hk
    · rename_i x h; cases h; obtain ⟨y, rfl, -⟩ := kk_v0 h2; exact row0 rfl y h1 (hk.on (hr.push h2))
    · rename_i x h; cases h; obtain ⟨y, rfl, -⟩ := kk_v2 h2; exact row1 rfl y h1 (hk.on (hr.push h2))
    · rename_i x h; cases h; obtain ⟨y, e0, rfl, -⟩ := kk_v4 h2; exact row2 (by omega) y h1 (hk.on (hr.push h2))
    · rename_i x h; cases h; have e1 := kk_v6 h2; subst e1; exact row2 (by omega) _ h1 (hk.on (hr.push h2))
    · rename_i x h; cases h; obtain ⟨y, rfl⟩ := kk_v7 h2; exact row2 (by omega) y h1 (hk.on (hr.push h2))
    · rename_i x h; cases h; obtain ⟨y, e0, rfl, -⟩ := kk_v4 h2; exact row2 (by omega) y h1 (hk.on (hr.push h2))
    · rename_i x h; cases h; have e1 : v = .null := h2; subst e1; exact row3 rfl h1 (hk.on (hr.push h2))
    · rename_i x h; cases h; have e1 := kk_v6 h2; subst e1; exact row2 (by omega) _ h1 (hk.on (hr.push h2))
    · rename_i x h; cases h; obtain ⟨y, rfl⟩ := kk_v7 h2; exact row2 (by omega) y h1 (hk.on (hr.push h2))
    · exact hk.elim
theorem kk_cond {b : Bool} {P : Prop} (h : cond b P False) : b = true ∧ P := by
  cases b with
  | false => exact h.elim
  | true => exact ⟨rfl, h⟩
theorem kk_cond2 {b : Bool} {P : Prop} (h : cond b False P) : b = false ∧ P := by
  cases b with
  | false => exact ⟨rfl, h⟩
  | true => exact h.elim
theorem kk_stv_ok {kd i : Nat} (hr : kk_R kc D A s nL ws tys H locs la sv L st w)
    (row0 : kd = 0 → ∀ (x : Int32) (lv : List (Nat × Value)) (rest : List Value), lv_has la nL lv → i < nL → (∀ la' : Array Slot, lv_has la' nL ((i, .int x) :: lv.filter (fun q => !(q.1 == i) && !(q.1 + 1 == i && q.2.category == 2))) → W p l e Rm s m args below meth c H locs n1 n2 Q (F0 m nx la' rest)) → W p l e Rm s m args below meth c H locs n1 n2 Q (F0 m pc la (.int x :: rest)))
    (row1 : kd = 1 → ∀ (x : Int64) (lv : List (Nat × Value)) (rest : List Value), lv_has la nL lv → i + 1 < nL → (∀ la' : Array Slot, lv_has la' nL ((i, .long x) :: lv.filter (fun q => !(q.1 == i) && (!(q.1 == i + 1) && !(q.1 + 1 == i && q.2.category == 2)))) → W p l e Rm s m args below meth c H locs n1 n2 Q (F0 m nx la' rest)) → W p l e Rm s m args below meth c H locs n1 n2 Q (F0 m pc la (.long x :: rest)))
    (row2 : 2 ≤ kd → ∀ (x : Nat) (lv : List (Nat × Value)) (rest : List Value), lv_has la nL lv → i < nL → (∀ la' : Array Slot, lv_has la' nL ((i, .ref x) :: lv.filter (fun q => !(q.1 == i) && !(q.1 + 1 == i && q.2.category == 2))) → W p l e Rm s m args below meth c H locs n1 n2 Q (F0 m nx la' rest)) → W p l e Rm s m args below meth c H locs n1 n2 Q (F0 m pc la (.ref x :: rest)))
    (row3 : kd = 3 → ∀ (lv : List (Nat × Value)) (rest : List Value), lv_has la nL lv → i < nL → (∀ la' : Array Slot, lv_has la' nL ((i, .null) :: lv.filter (fun q => !(q.1 == i) && !(q.1 + 1 == i && q.2.category == 2))) → W p l e Rm s m args below meth c H locs n1 n2 Q (F0 m nx la' rest)) → W p l e Rm s m args below meth c H locs n1 n2 Q (F0 m pc la (.null :: rest)))
    (hk : kk_stv kd i nx nL L st w (kk_K p l e Rm s m args below meth c Q kc D A nL ws tys n1 n2)) : W p l e Rm s m args below meth c H locs n1 n2 Q (F0 m pc la sv) := by
  unfold kk_stv at hk
  split at hk
  · obtain ⟨hb, hk⟩ := kk_cond hk
    obtain ⟨v, sv', rfl, hv, hr'⟩ := hr.pop
    obtain ⟨lv, g1, g2⟩ := hr'.1
    obtain ⟨y, rfl, -⟩ := kk_v0 hv
    exact row0 rfl y lv sv' g1 (en_blt hb) (fun la' hl => hk.on (hr'.sto g2 hv hl))
  · obtain ⟨hb, hk⟩ := kk_cond hk
    obtain ⟨v, sv', rfl, hv, hr'⟩ := hr.pop
    obtain ⟨lv, g1, g2⟩ := hr'.1
    obtain ⟨y, rfl, -⟩ := kk_v2 hv
    exact row1 rfl y lv sv' g1 (en_blt hb) (fun la' hl => hk.on (hr'.sto2 g2 hv hl))
  · obtain ⟨hb, hk⟩ := kk_cond hk
    obtain ⟨v, sv', rfl, hv, hr'⟩ := hr.pop
    obtain ⟨lv, g1, g2⟩ := hr'.1
    obtain ⟨y, e0, rfl, -⟩ := kk_v4 hv
    exact row2 (by omega) y lv sv' g1 (en_blt hb) (fun la' hl => hk.on (hr'.sto g2 hv hl))
  · obtain ⟨hb, hk⟩ := kk_cond hk
    obtain ⟨v, sv', rfl, hv, hr'⟩ := hr.pop
    obtain ⟨lv, g1, g2⟩ := hr'.1
    obtain ⟨y, rfl⟩ := kk_v7 hv
    exact row2 (by omega) y lv sv' g1 (en_blt hb) (fun la' hl => hk.on (hr'.sto g2 hv hl))
  · obtain ⟨hb, hk⟩ := kk_cond hk
    obtain ⟨v, sv', rfl, hv, hr'⟩ := hr.pop
    obtain ⟨lv, g1, g2⟩ := hr'.1
    obtain ⟨y, e0, rfl, -⟩ := kk_v4 hv
    exact row2 (by omega) y lv sv' g1 (en_blt hb) (fun la' hl => hk.on (hr'.sto g2 hv hl))
  · obtain ⟨hb, hk⟩ := kk_cond hk
    obtain ⟨v, sv', rfl, hv, hr'⟩ := hr.pop
    obtain ⟨lv, g1, g2⟩ := hr'.1
    have e1 : v = .null := hv
    subst e1
    exact row3 rfl lv sv' g1 (en_blt hb) (fun la' hl => hk.on (hr'.sto g2 hv hl))
  · obtain ⟨hb, hk⟩ := kk_cond hk
    obtain ⟨v, sv', rfl, hv, hr'⟩ := hr.pop
    obtain ⟨lv, g1, g2⟩ := hr'.1
    obtain ⟨y, rfl⟩ := kk_v7 hv
    exact row2 (by omega) y lv sv' g1 (en_blt hb) (fun la' hl => hk.on (hr'.sto g2 hv hl))
  · exact hk.elim
theorem kk_inc_ok {i : Nat} {n : Int} (hr : kk_R kc D A s nL ws tys H locs la sv L st w)
    (row : ∀ (k : Nat) (x v : Int32) (lv : List (Nat × Value)), lv_has la nL lv → lv[k]? = some (i, .int x) → x + Int32.ofInt n = v → i < nL → (∀ la' : Array Slot, lv_has la' nL ((i, .int v) :: lv.filter (fun q => !(q.1 == i) && !(q.1 + 1 == i && q.2.category == 2))) → W p l e Rm s m args below meth c H locs n1 n2 Q (F0 m nx la' sv)) → W p l e Rm s m args below meth c H locs n1 n2 Q (F0 m pc la sv))
    (hk : kk_inc i n nx nL L st w (kk_K p l e Rm s m args below meth c Q kc D A nL ws tys n1 n2)) : W p l e Rm s m args below meth c H locs n1 n2 Q (F0 m pc la sv) := by
  unfold kk_inc at hk
  split at hk
  · rename_i x hg
    obtain ⟨hb, hk⟩ := kk_cond hk
    obtain ⟨lv, h1, h2⟩ := hr.1
    obtain ⟨k, v, h3, h4⟩ := en_get_ok (fun a b q => q.1) h2 hg
    obtain ⟨y, rfl, -, ey⟩ := kk_v0 h4.2
    unfold kk_i2 at hk
    rw [ey] at hk
    exact row k y _ lv h1 h3 rfl (en_blt hb) (fun la' hl => hk.on (hr.sto h2 (kk_mk0 _) hl))
  · exact hk.elim
theorem kk_if1_ok {k : ClassFile.Cond} {tgt : Nat} (hr : kk_R kc D A s nL ws tys H locs la sv L st w)
    (row : ∀ (x : Int32) (rest : List Value), (en_cP k x 0 → W p l e Rm s m args below meth c H locs n1 n2 Q (F0 m tgt la rest)) → (¬ en_cP k x 0 → W p l e Rm s m args below meth c H locs n1 n2 Q (F0 m nx la rest)) → W p l e Rm s m args below meth c H locs n1 n2 Q (F0 m pc la (.int x :: rest)))
    (hk : kk_if1 k tgt nx L st w (kk_K p l e Rm s m args below meth c Q kc D A nL ws tys n1 n2)) : W p l e Rm s m args below meth c H locs n1 n2 Q (F0 m pc la sv) := by
  unfold kk_if1 at hk
  split at hk
  · obtain ⟨va, sv2, rfl, hva, hr2⟩ := hr.pop
    obtain ⟨x, rfl, e1, -⟩ := kk_v0 hva
    subst e1
    exact row x sv2 (fun h => (hk.1 (kk_cPi h)).on hr2) (fun h => (hk.2 (kk_cNi h)).on hr2)
  · exact hk.elim
theorem kk_if2_ok {k : ClassFile.Cond} {tgt : Nat} (hr : kk_R kc D A s nL ws tys H locs la sv L st w)
    (row : ∀ (x y : Int32) (rest : List Value), (en_cP k x y → W p l e Rm s m args below meth c H locs n1 n2 Q (F0 m tgt la rest)) → (¬ en_cP k x y → W p l e Rm s m args below meth c H locs n1 n2 Q (F0 m nx la rest)) → W p l e Rm s m args below meth c H locs n1 n2 Q (F0 m pc la (.int y :: .int x :: rest)))
    (hk : kk_if2 k tgt nx L st w (kk_K p l e Rm s m args below meth c Q kc D A nL ws tys n1 n2)) : W p l e Rm s m args below meth c H locs n1 n2 Q (F0 m pc la sv) := by
  unfold kk_if2 at hk
  split at hk
  · obtain ⟨vb, sv1, rfl, hvb, hr1⟩ := hr.pop
    obtain ⟨va, sv2, rfl, hva, hr2⟩ := hr1.pop
    obtain ⟨x, rfl, e1, -⟩ := kk_v0 hva
    obtain ⟨y, rfl, e2, -⟩ := kk_v0 hvb
    subst e1
    subst e2
    exact row x y sv2 (fun h => (hk.1 (kk_cPi h)).on hr2) (fun h => (hk.2 (kk_cNi h)).on hr2)
  · exact hk.elim
theorem kk_ifn_ok {nn : Bool} {tgt : Nat} (hr : kk_R kc D A s nL ws tys H locs la sv L st w)
    (row : ∀ (rest : List Value), W p l e Rm s m args below meth c H locs n1 n2 Q (F0 m (cond nn nx tgt) la rest) → W p l e Rm s m args below meth c H locs n1 n2 Q (F0 m pc la (.null :: rest)))
    (row2 : ∀ (q : Nat) (rest : List Value), W p l e Rm s m args below meth c H locs n1 n2 Q (F0 m (cond nn tgt nx) la rest) → W p l e Rm s m args below meth c H locs n1 n2 Q (F0 m pc la (.ref q :: rest)))
    (hk : kk_ifn nn tgt nx L st w (kk_K p l e Rm s m args below meth c Q kc D A nL ws tys n1 n2)) : W p l e Rm s m args below meth c H locs n1 n2 Q (F0 m pc la sv) := by
  unfold kk_ifn at hk
  split at hk
  · obtain ⟨va, sv2, rfl, hva, hr2⟩ := hr.pop
    have e1 : va = .null := hva
    subst e1
    exact row sv2 (hk.on hr2)
  · obtain ⟨va, sv2, rfl, hva, hr2⟩ := hr.pop
    obtain ⟨y, e0, rfl, -⟩ := kk_v4 hva
    exact row2 y sv2 (hk.on hr2)
  · obtain ⟨va, sv2, rfl, hva, hr2⟩ := hr.pop
    have e1 := kk_v6 hva
    subst e1
    exact row2 _ sv2 (hk.on hr2)
  · obtain ⟨va, sv2, rfl, hva, hr2⟩ := hr.pop
    obtain ⟨y, rfl⟩ := kk_v7 hva
    exact row2 y sv2 (hk.on hr2)
  · exact hk.elim
theorem kk_tab_at {K : kk_Q} {x : Int} {r : List en_V} : ∀ (os : List Int) (k : Int) (j : Nat) (o : Int), kk_tab pc x L r w K k os → os[j]? = some o → x = k + j → K ((pc : Int) + o).toNat L r w
  | [], _, _, _, _, h, _ => by simp at h
  | o' :: os, k, 0, o, hk, h, hx => by
    simp at h
    subst h
    exact hk.1 (by omega)
  | o' :: os, k, j + 1, o, hk, h, hx => by
    simp at h
    exact kk_tab_at os (k + 1) j o hk.2 h (by omega)
theorem kk_sw_ok {dflt lo hi : Int} {offs : List Int} (hr : kk_R kc D A s nL ws tys H locs la sv L st w)
    (rowO : ∀ (x : Int32) (rest : List Value), (x.toInt < lo ∨ hi < x.toInt) → W p l e Rm s m args below meth c H locs n1 n2 Q (F0 m ((pc : Int) + dflt).toNat la rest) → W p l e Rm s m args below meth c H locs n1 n2 Q (F0 m pc la (.int x :: rest)))
    (rowI : ∀ (x : Int32) (o : Int) (rest : List Value), ¬ x.toInt < lo → ¬ hi < x.toInt → offs[(x.toInt - lo).toNat]? = some o → W p l e Rm s m args below meth c H locs n1 n2 Q (F0 m ((pc : Int) + o).toNat la rest) → W p l e Rm s m args below meth c H locs n1 n2 Q (F0 m pc la (.int x :: rest)))
    (hk : kk_sw pc dflt lo hi offs L st w (kk_K p l e Rm s m args below meth c Q kc D A nL ws tys n1 n2)) : W p l e Rm s m args below meth c H locs n1 n2 Q (F0 m pc la sv) := by
  unfold kk_sw at hk
  split at hk
  · obtain ⟨hb, hk1, hk2⟩ := kk_cond hk
    have hb := of_decide_eq_true hb
    obtain ⟨va, sv2, rfl, hva, hr2⟩ := hr.pop
    obtain ⟨x, rfl, e1, -⟩ := kk_v0 hva
    subst e1
    by_cases h : x.toInt < lo ∨ hi < x.toInt
    · exact rowO x sv2 h ((hk1 h).on hr2)
    · have hj : (x.toInt - lo).toNat < offs.length := by omega
      exact rowI x _ sv2 (by omega) (by omega) (List.getElem?_eq_getElem hj) ((kk_tab_at offs lo _ _ hk2 (List.getElem?_eq_getElem hj) (by omega)).on hr2)
  · exact hk.elim
theorem kk_lkp_at {K : kk_Q} {x d : Int} {r : List en_V} : ∀ (os : List (Int × Int)), kk_lkp pc x d L r w K os → K ((pc : Int) + Op.lookupswitch.offset os d x).toNat L r w
  | [], hk => hk
  | q :: os, hk => by
    obtain ⟨a, b⟩ := q
    rw [Op.lookupswitch.offset_cons]
    by_cases h : a = x
    · rw [if_pos h]
      exact hk.1 h.symm
    · rw [if_neg h]
      exact kk_lkp_at os (hk.2 (fun g => h g.symm))
end KKS
