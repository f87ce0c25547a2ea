/-! THE ENGINE, 8: one step of any plain instruction -/
/-- Object's own constructor -/
def en_oi (nx : Nat) (L : en_L) (st : List en_V) (iv : en_I) (w : List en_C) (n1 n2 : Nat) : en_O := match st with
  | a :: r => cond (en_isR a && Nat.ble r.length 4) (en_1 nx L r iv w n1 n2) none
  | _ => none
/-- a reference or null, read and written -/
def en_ldA (i nx : Nat) (L : en_L) (st : List en_V) (iv : en_I) (w : List en_C) (n1 n2 : Nat) : en_O := match en_get L i with
  | some a => cond (Nat.beq a.1 5) (en_1 nx L (a :: st) iv w n1 n2) (en_load 2 i nx L st iv w n1 n2)
  | none => none
def en_stA (i nx nL : Nat) (L : en_L) (st : List en_V) (iv : en_I) (w : List en_C) (n1 n2 : Nat) : en_O := match st with
  | a :: r => cond (Nat.beq a.1 5) (cond (Nat.blt i nL) (en_1 nx (en_sto L i a) r iv w n1 n2) none) (en_store 2 i nx nL L (a :: r) iv w n1 n2)
  | [] => none
/-- Math.min: two ways -/
def en_tw (nx : Nat) (L : en_L) (r : List en_V) (a b : en_V) (w : List en_C) (n1 n2 : Nat) (o : Option en_I × Option en_I) : en_O := match o.1, o.2 with
  | some i1, some i2 => some [(nx, L, b :: r, i1, w, n1, n2), (nx, L, a :: r, i2, w, n1, n2)]
  | some i1, none => some [(nx, L, b :: r, i1, w, n1, n2)]
  | none, some i2 => some [(nx, L, a :: r, i2, w, n1, n2)]
  | none, none => some []
def en_min (bc bs nx : Nat) (L : en_L) (st : List en_V) (iv : en_I) (w : List en_C) (n1 n2 : Nat) : en_O := match st with
  | b :: a :: r => cond (Nat.ble n1 bc && (Nat.ble n2 bs && Nat.ble r.length 4)) (match en_rng iv a, en_rng iv b with
    | some qa, some qb => en_tw nx L r a b w n1 n2 (en_br .lt iv b a qb qa)
    | _, _ => none) none
  | _ => none
theorem en_sum {R : en_V → Value → Prop} : ∀ {l : List en_V} {vs : List Value}, en_f2 R l vs → (vs.map fun v => v.category).sum ≤ 2 * l.length
  | [], [], _ => Nat.le_refl _
  | a :: l, v :: vs, h => by
    have h1 := en_sum h.2
    have h2 : v.category ≤ 2 := by rcases lv_cat v with h | h <;> omega
    simp only [List.map_cons, List.sum_cons, List.length_cons]
    omega
  | [], _ :: _, h => h.elim
  | _ :: _, [], h => h.elim
def en_ilen (i : Instr) (k : Nat) : Nat := match i with
  | .bipush _ => 2
  | .sipush _ => 3
  | .ldc _ => 2
  | .ldc_w _ => 3
  | .ldc2_w _ => 3
  | .iload _ => 2
  | .lload _ => 2
  | .aload _ => 2
  | .istore _ => 2
  | .lstore _ => 2
  | .astore _ => 2
  | .iinc _ _ => 3
  | .ifCond _ _ => 3
  | .if_icmp _ _ => 3
  | .goto _ => 3
  | .ifnull _ => 3
  | .ifnonnull _ => 3
  | .getfield _ => 3
  | .putfield _ => 3
  | .getstatic _ => 3
  | .new _ => 3
  | .newarray _ => 2
  | .anewarray _ => 3
  | .invokestatic _ => 3
  | .invokespecial _ => 3
  | .invokevirtual _ => 3
  | .tableswitch _ _ _ _ => k
  | .lookupswitch _ _ => k
  | _ => 1
/-- what a new object of each class holds -/
def en_dl (ci : Nat) : List en_V := match ci with
  | 0 => [(5, 0), (5, 0), (5, 0), (5, 0), (0, 0), (0, 0)]
  | 1 => [(2, 0), (2, 0)]
  | 2 => [(5, 0), (5, 0), (5, 0), (5, 0), (5, 0), (5, 0), (0, 0), (0, 0)]
  | 3 => [(5, 0), (5, 0), (5, 0), (0, 0)]
  | 4 => (List.range 11).map (fun k => en_df (tyX4 k))
  | 5 => (List.range 7).map (fun k => en_df (tyX5 k))
  | 6 => (List.range 11).map (fun k => en_df (tyX6 k))
  | 7 => (List.range 7).map (fun k => en_df (tyX7 k))
  | 8 => (List.range 2).map (fun k => en_df (tyX8 k))
  | 9 => (List.range 3).map (fun k => en_df (tyX9 k))
  | 10 => (List.range 18).map (fun k => en_df (tyX10 k))
  | _ => (List.range 47).map (fun k => en_df (tyX11 k))
def en_st7 (a bc bs nx : Nat) (L : en_L) (st : List en_V) (iv : en_I) (w : List en_C) (n1 n2 : Nat) : en_O := match a with
  | 0 => en_cpy nx L st iv w n1 n2
  | 1 => en_min bc bs nx L st iv w n1 n2
  | _ => none
def en_step (nL bc bs : Nat) (sc : Option Nat) (pc nx : Nat) (i : Instr) (a b k : Nat) (L : en_L) (st : List en_V) (iv : en_I) (w : List en_C) (n1 n2 : Nat) : en_O := match i with
  | .iconst n => en_push nx (0, (Int32.ofInt n).toInt) L st iv w n1 n2
  | .bipush n => en_push nx (0, (Int8.ofInt n).toInt32.toInt) L st iv w n1 n2
  | .sipush n => en_push nx (0, (Int16.ofInt n).toInt32.toInt) L st iv w n1 n2
  | .lconst n => en_push nx (2, (Int64.ofNat (n : Nat)).toInt) L st iv w n1 n2
  | .ldc _ => en_push nx (6, (a : Int)) L st iv w n1 n2
  | .ldc_w _ => cond (Nat.beq b 0) (en_push nx (0, (Int32.ofNat a).toInt) L st iv w n1 n2) (en_push nx (6, (a : Int)) L st iv w n1 n2)
  | .ldc2_w _ => en_push nx (2, (Int64.ofNat a).toInt) L st iv w n1 n2
  | .aconst_null => en_push nx (5, 0) L st iv w n1 n2
  | .iload_n j => en_load 0 (j : Nat) nx L st iv w n1 n2
  | .iload j => en_load 0 j nx L st iv w n1 n2
  | .lload_n j => en_load 1 (j : Nat) nx L st iv w n1 n2
  | .lload j => en_load 1 j nx L st iv w n1 n2
  | .aload_n j => en_ldA (j : Nat) nx L st iv w n1 n2
  | .aload j => en_load 2 j nx L st iv w n1 n2
  | .istore_n j => en_store 0 (j : Nat) nx nL L st iv w n1 n2
  | .istore j => en_store 0 j nx nL L st iv w n1 n2
  | .lstore_n j => en_store 1 (j : Nat) nx nL L st iv w n1 n2
  | .lstore j => en_store 1 j nx nL L st iv w n1 n2
  | .astore_n j => en_stA (j : Nat) nx nL L st iv w n1 n2
  | .astore j => en_store 2 j nx nL L st iv w n1 n2
  | .iinc j n => en_iinc j n nx nL L st iv w n1 n2
  | .iadd => en_ib 0 nx L st iv w n1 n2
  | .isub => en_ib 1 nx L st iv w n1 n2
  | .imul => en_ib 2 nx L st iv w n1 n2
  | .iand => en_ib 3 nx L st iv w n1 n2
  | .ior => en_ib 4 nx L st iv w n1 n2
  | .ixor => en_ib 5 nx L st iv w n1 n2
  | .ishl => en_ib 6 nx L st iv w n1 n2
  | .ishr => en_ib 7 nx L st iv w n1 n2
  | .iushr => en_ib 8 nx L st iv w n1 n2
  | .idiv => en_id 9 nx L st iv w n1 n2
  | .irem => en_id 10 nx L st iv w n1 n2
  | .ladd => en_lb 0 nx L st iv w n1 n2
  | .lsub => en_lb 1 nx L st iv w n1 n2
  | .lmul => en_lb 2 nx L st iv w n1 n2
  | .land => en_lb 3 nx L st iv w n1 n2
  | .lor => en_lb 4 nx L st iv w n1 n2
  | .lxor => en_lb 5 nx L st iv w n1 n2
  | .ldiv => en_ld 6 nx L st iv w n1 n2
  | .lrem => en_ld 7 nx L st iv w n1 n2
  | .lshl => en_lsh 0 nx L st iv w n1 n2
  | .lushr => en_lsh 1 nx L st iv w n1 n2
  | .lshr => en_lsh 2 nx L st iv w n1 n2
  | .lcmp => en_lcmp nx L st iv w n1 n2
  | .i2l => en_i2l nx L st iv w n1 n2
  | .l2i => en_l2i nx L st iv w n1 n2
  | .i2c => en_i2c nx L st iv w n1 n2
  | .dup => en_dup nx L st iv w n1 n2
  | .pop => en_pop nx L st iv w n1 n2
  | .ifCond c o => en_if1 c ((pc : Int) + o).toNat nx L st iv w n1 n2
  | .if_icmp c o => en_if2 c ((pc : Int) + o).toNat nx L st iv w n1 n2
  | .goto o => en_1 ((pc : Int) + o).toNat L st iv w n1 n2
  | .ifnull o => en_ifn false ((pc : Int) + o).toNat nx L st iv w n1 n2
  | .ifnonnull o => en_ifn true ((pc : Int) + o).toNat nx L st iv w n1 n2
  | .tableswitch d lo hi os => en_sw pc d lo hi os.toList L st iv w n1 n2
  | .getfield _ => cond (Nat.blt a 12) (en_gf a b nx L st iv w n1 n2) (en_gfS b nx L st iv w n1 n2)
  | .putfield _ => en_pf a b k nx L st iv w n1 n2
  | .getstatic _ => en_gs a nx L st iv w n1 n2
  | .new _ => en_new a b (en_dl a) bc bs nx L st iv w n1 n2
  | .newarray t => match t with
    | .int => en_na 1 bc bs nx L st iv w n1 n2
    | .boolean => en_na 4 bc bs nx L st iv w n1 n2
    | .long => en_na 2 bc bs nx L st iv w n1 n2
    | _ => none
  | .anewarray _ => en_nr a bc bs nx L st iv w n1 n2
  | .arraylength => cond (Nat.beq a 1) (en_lenS nx L st iv w n1 n2) (en_alen2 sc nx L st iv w n1 n2)
  | .iaload => en_ald2 sc nx L st iv w n1 n2
  | .iastore => en_ast 1 nx L st iv w n1 n2
  | .baload => cond (Nat.beq a 1) (en_byS nx L st iv w n1 n2) (en_ald 4 nx L st iv w n1 n2)
  | .bastore => en_ast 4 nx L st iv w n1 n2
  | .laload => en_lld nx L st iv w n1 n2
  | .lastore => en_lst nx L st iv w n1 n2
  | .aaload => en_aald nx L st iv w n1 n2
  | .aastore => en_aast nx L st iv w n1 n2
  | .invokespecial _ => cond (Nat.beq k 0) (en_oi nx L st iv w n1 n2) none
  | .invokestatic _ => cond (Nat.beq k 7) (en_st7 a bc bs nx L st iv w n1 n2) none
  | _ => none
/-- a String literal's place in the tables -/
def en_strK (own : String) (x k : Nat) : Prop := (k = 0 ∧ own = RX6 ∧ x = 19) ∨ (k = 1 ∧ own = RX10 ∧ x = 324) ∨ (k = 2 ∧ own = RX10 ∧ x = 338)
/-- what the tables must say of an instruction -/
def en_lnk (y : MethodName) (i : Instr) (a b k : Nat) : Prop := match i with
  | .ldc x => en_strK y.cls x a
  | .ldc_w x => (b = 0 → Cond.constant y.cls x (Int32.ofNat a) ∈ en_gw) ∧ (b ≠ 0 → en_strK y.cls x a)
  | .ldc2_w x => Cond.constantLong y.cls x (Int64.ofNat a) ∈ en_gw
  | .getfield x => (a < 12 → ∃ (C : String) (T : u_T) (N : Nat) (ty : Nat → FieldType), en_ci en_gw a C T N ty ∧ b < N ∧ Cond.fieldLink y.cls x (T b).1 (T b).2.1 (T b).2.2.1 ∈ en_gw) ∧
      (12 ≤ a → (b = 0 → Cond.fieldLink y.cls x "java/lang/String" "value" "[B" ∈ en_gw) ∧ (b ≠ 0 → Cond.fieldLink y.cls x "java/lang/String" "coder" "B" ∈ en_gw))
  | .putfield x => ∃ (C : String) (T : u_T) (N : Nat) (ty : Nat → FieldType), en_ci en_gw a C T N ty ∧ b < N ∧ Cond.fieldLink y.cls x (T b).1 (T b).2.1 (T b).2.2.1 ∈ en_gw ∧ en_kt k (ty b) = true ∧ ((T b).2.2.2 = false ∨ ((T b).2.2.2 = true ∧ y.name = "<init>" ∧ (T b).1 = y.cls))
  | .getstatic x => (a = 0 → Cond.fieldLink y.cls x "java/lang/String" "COMPACT_STRINGS" "Z" ∈ en_gw) ∧ (a = 1 → Cond.fieldLink y.cls x "jdk/internal/util/Preconditions" "SIOOBE_FORMATTER" "Ljava/util/function/BiFunction;" ∈ en_gw) ∧ (a = 2 → y.cls = RX2 ∧ x = 109)
  | .new x => k = 0 → ∃ (C : String) (T : u_T) (ty : Nat → FieldType), en_ci en_gw a C T b ty ∧ en_dl a = (List.range b).map (fun k => en_df (ty k)) ∧ (∀ k, k < b → en_dfok (ty k) = true) ∧ Cond.classLink y.cls x C ∈ en_gw ∧ Cond.instantiable C b ∈ en_gw ∧ Cond.initialized C ∈ en_gw
  | .newarray t => match t with
    | .int => Cond.arrayClass .int ∈ en_gw
    | .boolean => Cond.arrayClass .boolean ∈ en_gw
    | .long => Cond.arrayClass .long ∈ en_gw
    | _ => True
  | .anewarray x => Cond.classLink y.cls x (en_an a) ∈ en_gw
  | .invokespecial x => k = 0 → Cond.methodLink y.cls x Lib.objectInit ∈ en_gw ∧ Cond.instanceMethod Lib.objectInit ∈ en_gw ∧ Cond.code Lib.objectInit ⟨#[0xb1]⟩ 1 none ∈ en_gw
  | .invokestatic x => k = 7 → (a = 0 → Cond.methodLink y.cls x arraycopyName ∈ en_gw ∧ Cond.native arraycopyName ∈ en_gw ∧ Cond.static arraycopyName ∈ en_gw ∧ Cond.initialized "java/lang/System" ∈ en_gw) ∧
      (a = 1 → Cond.methodLink y.cls x Lib.Math.min.name ∈ en_gw ∧ Cond.static Lib.Math.min.name ∈ en_gw ∧ Cond.initialized "java/lang/Math" ∈ en_gw ∧ Cond.code Lib.Math.min.name Lib.Math.min.code 2 (some .int) ∈ en_gw) ∧
      (2 ≤ a → Cond.methodLink y.cls x Lib.Math.max.name ∈ en_gw ∧ Cond.static Lib.Math.max.name ∈ en_gw ∧ Cond.initialized "java/lang/Math" ∈ en_gw ∧ Cond.code Lib.Math.max.name Lib.Math.max.code 2 (some .int) ∈ en_gw)
  | _ => True
section ENT
variable {p : Program} {l : Launch} {e : Env} {Rm : Room} {s : State} {m : MethodId} {args : Array Value} {below : List Frame} {meth : Method} {c : Code} {Q : State → Prop}
variable {kc : Nat → Nat} {D : va_G} {A : Nat → Prop} {nL : Nat} {cc : ByteArray}
variable {ρ : List Int32} {ws : va_W} {tys : List (ClassId × FieldType)} {H : Heap} {locs : List Loc} {la : Array Slot} {sv : List Value} {L : en_L} {st : List en_V} {iv : en_I} {w : List en_C} {n1 n2 pc nx : Nat}
/-- a method's frame: what is fixed while it runs -/
def en_cx (p : Program) (l : Launch) (e : Env) (Rm : Room) (s : State) (m : MethodId) (args : Array Value) (meth : Method) (c : Code) (kc : Nat → Nat) (A : Nat → Prop) (y : MethodName) (cc : ByteArray) (nL bc bs : Nat) : Prop :=
  p.tables.exec = Jvm.exec ∧ c.code = cc ∧ c.maxLocals = nL ∧ s.vm.findClass y.cls = some m.cls ∧ (∀ w ∈ en_gw, w.before args s = true) ∧ en_B kc A s s.heap ∧ (∀ q, s.heap.size ≤ q → A q) ∧ meth.name = y.name ∧ bc ≤ Rm.cells ∧ bs ≤ Rm.slots ∧ 1 ≤ Rm.frames ∧ 64 ≤ Rm.locals
theorem en_tgt {pc : Nat} {o : Int} (h : 0 ≤ (pc : Int) + o) : (pc : Int) + o = ((((pc : Int) + o).toNat : Nat) : Int) := (Int.toNat_of_nonneg h).symm
/-- jumps don't go below 0 -/
def en_jmp (pc : Nat) (i : Instr) : Bool := match i with
  | .ifCond _ o => decide (0 ≤ (pc : Int) + o)
  | .if_icmp _ o => decide (0 ≤ (pc : Int) + o)
  | .goto o => decide (0 ≤ (pc : Int) + o)
  | .ifnull o => decide (0 ≤ (pc : Int) + o)
  | .ifnonnull o => decide (0 ≤ (pc : Int) + o)
  | .tableswitch d _ _ os => decide (0 ≤ (pc : Int) + d) && os.toList.all (fun o => decide (0 ≤ (pc : Int) + o))
  | .lookupswitch d os => decide (0 ≤ (pc : Int) + d) && os.toList.all (fun o => decide (0 ≤ (pc : Int) + o.2))
  | _ => true
theorem en_oi_ok {x : Nat} {own : String} (hx : p.tables.exec = Jvm.exec) (hb : c.code = cc) (hml : c.maxLocals = nL) (hown : s.vm.findClass own = some m.cls) (hts : ∀ w ∈ en_gw, w.before args s = true) (h1 : Cond.methodLink own x Lib.objectInit ∈ en_gw) (h2 : Cond.instanceMethod Lib.objectInit ∈ en_gw) (h3 : Cond.code Lib.objectInit ⟨#[0xb1]⟩ 1 none ∈ en_gw) (hfr : 1 ≤ Rm.frames) (hlo : 64 ≤ Rm.locals) (hdg : decode cc pc = .ok (.invokespecial x, 3))
    (hr : en_R kc D A s nL ρ ws tys H locs la sv L st iv w) (hk : en_Ks p l e Rm s m args below meth c Q kc D A nL ρ ws tys (en_oi (pc + 3) L st iv w n1 n2)) : W p l e Rm s m args below meth c H locs n1 n2 Q (F0 m pc la sv) := by
  unfold en_oi at hk
  match st, hr, hk with
  | [], hr, hk => exact (en_no rfl hk).elim
  | a :: r, hr, hk =>
    dsimp only at hk
    cases h : (en_isR a && Nat.ble r.length 4) with
    | false => rw [h] at hk; exact (en_no rfl hk).elim
    | true =>
      rw [h] at hk
      rw [Bool.and_eq_true] at h
      obtain ⟨va, sv2, rfl, hva, hr2⟩ := hr.pop
      obtain ⟨q, rfl⟩ := hva.ref h.1
      have hs1 := en_sum hr2.2.1
      have hs2 := Nat.le_of_ble_eq_true h.2
      have hs3 := lv_room (m := m) (pc := pc) (ls := la) (rest := .ref q :: sv2) (st := sv2) (by omega)
      refine W.objInit hx hb hown (hts _ h1) (hts _ h2) (hts _ h3) (g := F0 m pc la (.ref q :: sv2)) rfl ?_ rfl hdg hfr (by omega) (hk.one en_pre.rf en_le.rf en_pre.rf hr2)
      obtain ⟨⟨lv, g1, -⟩, -⟩ := hr
      show la.size = c.maxLocals
      rw [hml, g1.1]
theorem en_nul {a : en_V} {v : Value} (hv : en_v kc ρ ws a v) (h : Nat.beq a.1 5 = true) : v = .null := by
  obtain ⟨t, n⟩ := a
  have e1 : t = 5 := Nat.eq_of_beq_eq_true h
  subst e1
  exact hv
theorem en_ldA_ok {j : Fin 4} (hx : p.tables.exec = Jvm.exec) (hb : c.code = cc) (hdg : decode cc pc = .ok (.aload_n j, 1)) (hr : en_R kc D A s nL ρ ws tys H locs la sv L st iv w)
    (hk : en_Ks p l e Rm s m args below meth c Q kc D A nL ρ ws tys (en_ldA (j : Nat) (pc + 1) L st iv w n1 n2)) : W p l e Rm s m args below meth c H locs n1 n2 Q (F0 m pc la sv) := by
  unfold en_ldA at hk
  cases hg : en_get L (j : Nat) with
  | none => rw [hg] at hk; exact (en_no rfl hk).elim
  | some a =>
    rw [hg] at hk
    dsimp only at hk
    cases h5 : Nat.beq a.1 5 with
    | false =>
      rw [h5, cond_false] at hk
      exact en_load_ok (kd := 2) (i := (j : Nat)) hr (fun h => absurd h (by decide)) (fun h => absurd h (by decide)) (fun _ x h z => lv_aload_n hx hb hdg rfl h z) hk
    | true =>
      rw [h5, cond_true] at hk
      obtain ⟨v, h1, h2⟩ := hr.get hg
      have e1 := en_nul h2 h5
      subst e1
      exact lv_aload_nN hx hb hdg rfl h1 (hk.one en_pre.rf en_le.rf en_pre.rf (hr.push h2))
theorem en_stA_ok {j : Fin 4} (hx : p.tables.exec = Jvm.exec) (hb : c.code = cc) (hdg : decode cc pc = .ok (.astore_n j, 1)) (hr : en_R kc D A s nL ρ ws tys H locs la sv L st iv w)
    (hk : en_Ks p l e Rm s m args below meth c Q kc D A nL ρ ws tys (en_stA (j : Nat) (pc + 1) nL L st iv w n1 n2)) : W p l e Rm s m args below meth c H locs n1 n2 Q (F0 m pc la sv) := by
  unfold en_stA at hk
  match st, hr, hk with
  | [], hr, hk => exact (en_no rfl hk).elim
  | a :: r, hr, hk =>
    dsimp only at hk
    cases h5 : Nat.beq a.1 5 with
    | false =>
      rw [h5, cond_false] at hk
      exact en_store_ok (kd := 2) (i := (j : Nat)) hr (fun h => absurd h (by decide)) (fun h => absurd h (by decide)) (fun _ x lv rest h1 h2 h3 => lv_astore_n hx hb hdg rfl h1 h2 rfl h3) hk
    | true =>
      rw [h5, cond_true] at hk
      cases hi : Nat.blt (j : Nat) nL with
      | false => rw [hi] at hk; exact (en_no rfl hk).elim
      | true =>
        rw [hi, cond_true] at hk
        obtain ⟨v, sv', rfl, hv, hr'⟩ := hr.pop
        obtain ⟨lv, g1, g2⟩ := hr'.1
        have e1 := en_nul hv h5
        subst e1
        exact lv_astore_nN hx hb hdg rfl g1 (en_blt hi) rfl (fun la' hl => hk.one en_pre.rf en_le.rf en_pre.rf (hr'.sto g2 hv hl))
theorem en_tw_t {a b : en_V} {o : Option en_I × Option en_I} {i1 : en_I} {v : Value} (h1 : o.1 = some i1) (hi : en_iv i1 ρ) (hr : en_R kc D A s nL ρ ws tys H locs la sv L st iv w) (hv : en_v kc ρ ws b v)
    (hk : en_Ks p l e Rm s m args below meth c Q kc D A nL ρ ws tys (en_tw nx L st a b w n1 n2 o)) : W p l e Rm s m args below meth c H locs n1 n2 Q (F0 m nx la (v :: sv)) := by
  obtain ⟨cs, e1, hk⟩ := hk
  unfold en_tw at e1
  rw [h1] at e1
  cases h2 : o.2 with
  | some i2 =>
    rw [h2] at e1
    cases e1
    exact hk _ List.mem_cons_self ρ ws tys H locs la (v :: sv) en_pre.rf en_le.rf en_pre.rf ((hr.push hv).rho en_pre.rf hi)
  | none =>
    rw [h2] at e1
    cases e1
    exact hk _ List.mem_cons_self ρ ws tys H locs la (v :: sv) en_pre.rf en_le.rf en_pre.rf ((hr.push hv).rho en_pre.rf hi)
theorem en_tw_f {a b : en_V} {o : Option en_I × Option en_I} {i1 : en_I} {v : Value} (h1 : o.2 = some i1) (hi : en_iv i1 ρ) (hr : en_R kc D A s nL ρ ws tys H locs la sv L st iv w) (hv : en_v kc ρ ws a v)
    (hk : en_Ks p l e Rm s m args below meth c Q kc D A nL ρ ws tys (en_tw nx L st a b w n1 n2 o)) : W p l e Rm s m args below meth c H locs n1 n2 Q (F0 m nx la (v :: sv)) := by
  obtain ⟨cs, e1, hk⟩ := hk
  unfold en_tw at e1
  rw [h1] at e1
  cases h2 : o.1 with
  | some i2 =>
    rw [h2] at e1
    cases e1
    exact hk _ (List.mem_cons_of_mem _ List.mem_cons_self) ρ ws tys H locs la (v :: sv) en_pre.rf en_le.rf en_pre.rf ((hr.push hv).rho en_pre.rf hi)
  | none =>
    rw [h2] at e1
    cases e1
    exact hk _ List.mem_cons_self ρ ws tys H locs la (v :: sv) en_pre.rf en_le.rf en_pre.rf ((hr.push hv).rho en_pre.rf hi)
theorem en_min_ok {x bc bs : Nat} {own : String} (hx : p.tables.exec = Jvm.exec) (hb : c.code = cc) (hml : c.maxLocals = nL) (hown : s.vm.findClass own = some m.cls) (hts : ∀ w ∈ en_gw, w.before args s = true) (h1 : Cond.methodLink own x Lib.Math.min.name ∈ en_gw) (h2 : Cond.static Lib.Math.min.name ∈ en_gw) (h3 : Cond.initialized "java/lang/Math" ∈ en_gw) (h4 : Cond.code Lib.Math.min.name Lib.Math.min.code 2 (some .int) ∈ en_gw) (hbc : bc ≤ Rm.cells) (hbs : bs ≤ Rm.slots) (hfr : 1 ≤ Rm.frames) (hlo : 64 ≤ Rm.locals) (hdg : decode cc pc = .ok (.invokestatic x, 3))
    (hr : en_R kc D A s nL ρ ws tys H locs la sv L st iv w) (hk : en_Ks p l e Rm s m args below meth c Q kc D A nL ρ ws tys (en_min bc bs (pc + 3) L st iv w n1 n2)) : W p l e Rm s m args below meth c H locs n1 n2 Q (F0 m pc la sv) := by
  unfold en_min at hk
  match st, hr, hk with
  | [], hr, hk => exact (en_no rfl hk).elim
  | [_], hr, hk => exact (en_no rfl hk).elim
  | b :: a :: r, hr, hk =>
    dsimp only at hk
    cases h : (Nat.ble n1 bc && (Nat.ble n2 bs && Nat.ble r.length 4)) with
    | false => rw [h] at hk; exact (en_no rfl hk).elim
    | true =>
      rw [h, cond_true] at hk
      simp only [Bool.and_eq_true] at h
      have c1 := Nat.le_of_ble_eq_true h.1
      have c2 := Nat.le_of_ble_eq_true h.2.1
      have c3 := Nat.le_of_ble_eq_true h.2.2
      have hsz : c.maxLocals = la.size := by
        obtain ⟨⟨lv, g1, -⟩, -⟩ := hr
        rw [hml, g1.1]
      obtain ⟨vb, sv1, rfl, hvb, hr1⟩ := hr.pop
      obtain ⟨va, sv2, rfl, hva, hr2⟩ := hr1.pop
      have hs1 := en_sum hr2.2.1
      cases ha : en_rng iv a with
      | none => rw [ha] at hk; exact (en_no rfl hk).elim
      | some qa =>
        cases hb0 : en_rng iv b with
        | none => rw [ha, hb0] at hk; exact (en_no rfl hk).elim
        | some qb =>
          rw [ha, hb0] at hk
          obtain ⟨xa, rfl, hxa⟩ := en_rng_ok hr2.2.2.1 hva ha
          obtain ⟨xb, rfl, hxb⟩ := en_rng_ok hr2.2.2.1 hvb hb0
          refine va_mmin hx hb hsz hown (hts _ h1) (hts _ h2) (hts _ h3) (hts _ h4) hfr (by omega) (by omega) (by omega) hdg ?_
          by_cases hc : xb < xa
          · rw [if_pos hc]
            obtain ⟨i1, e1, g1⟩ := en_br_t (k := .lt) hr2.2.2.1 hvb hva hxb hxa hc
            exact en_tw_t e1 g1 hr2 hvb hk
          · rw [if_neg hc]
            obtain ⟨i1, e1, g1⟩ := en_br_f (k := .lt) hr2.2.2.1 hvb hva hxb hxa hc
            exact en_tw_f e1 g1 hr2 hva hk
end ENT
