/-! THE CLAIM OUT OF ONE WALK OF THE LAW'S BODY. Your part is whole_start (and what it stands on); all else here is the same for every law, but numbers. -/
def R_law : String := "RuleByLotLaw"
def lw_P (b : Addr) (xs : List Int32) (args : Array Value) (s : State) : Prop := args = #[.ref b] ∧ s.IntsAt b xs ∧ xs.length ≤ 3072 ∧ (Jvm.Cond.and given_1 narrow_1).before args s = true
def lw_Q (_ : Array Value) (s : State) (o : Outcome) (t : State) : Prop := o = .returned (some (.int 1)) ∧ Framed s o t [] 601024 7293033
def lw_Z (below : List Frame) (a : Array Value) (s : State) : State → Prop := fun t => ∃ o, t.status = .running ∧ Ended t below o ∧ lw_Q a s o t
/-! the law's own end, with 1 on the stack, nothing written that was there before, its room as the claim has it -/
set_option maxRecDepth 100000 in
set_option maxHeartbeats 4000000 in
theorem lw_ret {p : Program} {l : Launch} {e : Env} {s : State} {m : MethodId} {below : List Frame} {meth : Method} {c : Code} {b : Nat} (hx : p.tables.exec = Jvm.exec) (hb : c.code = code) (hr : meth.sig.returnType = ret) (hlocks : meth.locks = false) {pc : Nat} {H : Heap} {ls : Array Slot} (hdg : decode code pc = .ok (.ireturn, 1)) : W p l e room_1 s m #[Value.ref b] below meth c H [] 601024 7293033 (lw_Z below #[Value.ref b] s) (F0 m pc ls [.int 1]) := by
  intro T hT X
  obtain ⟨fs, hret, hrun, hended, hW, hframe⟩ := X.leave (v := some (.int 1)) (hlocks := hlocks) (fun h => by rw [hr] at h; cases h)
  have hmeth' : T.vm.method? m = some meth := X.method'
  refine ⟨T.setFrames fs, ?_, .returned (some (.int 1)), hrun, hended, rfl, ⟨_, rfl⟩, hW, hframe⟩
  jvm_step X.here [X.here.top, hx, hb, hdg, hmeth', hr, ret, narrow_b1]
  (try refine ⟨rfl, ?_⟩); (try refine ⟨rfl, ?_⟩)
  first | (intro acts; rw [hret _ acts rfl rfl rfl]) | rw [hret _ _ rfl rfl rfl]
  exact Steps.refl _
/-! what holds at the law's entry: the machine, the code, the tables' words (any of lw_tbl by 'hts w (by decide +kernel)'), the script of L ints xs at the cell b, what the Statement gives of the start (any of its parts by flat_of_before) -/
def lw_At (p : Program) (s : State) (m : MethodId) (meth : Method) (c : Code) (b L : Nat) (xs : Nat → Int32) : Prop :=
  p.tables.exec = Jvm.exec ∧ c.code = code ∧ meth.sig.returnType = ret ∧ c.maxLocals = 8 ∧ s.vm.findClass R_law = some m.cls ∧ (∀ w ∈ lw_tbl, w.before #[Value.ref b] s = true) ∧ va_X b L xs s s.heap ∧ b < s.heap.size ∧ meth.locks = false ∧ (Jvm.Cond.and given_1 narrow_1).before #[Value.ref b] s = true
/-! THE CLAIM, 1b: where the law begins -/
abbrev en_gn : Cond := Jvm.Cond.and given_1 narrow_1
def en_tm (i : Nat) : Term := match i with
  | 0 => .string RX6 19
  | 1 => .string RX10 324
  | _ => .string RX10 338
def en_pos (i : Nat) : Nat := match i with
  | 0 => 57
  | 1 => 185
  | _ => 202
theorem en_s1 : ∀ i, i < 3 → (flatC en_gn)[en_pos i]? = some (.exactly (en_tm i) "java/lang/String") ∧ (flatC en_gn)[en_pos i + 1]? = some (.eq (.field (en_tm i) "java/lang/String" "coder" "B") (.int 0)) ∧ (flatC en_gn)[en_pos i + 2]? = some (.arrayOf (.field (en_tm i) "java/lang/String" "value" "[B") .byte) ∧ (flatC en_gn)[en_pos i + 3]? = some (.eq (.length (.field (en_tm i) "java/lang/String" "value" "[B")) (.int (Int32.ofNat (en_slen.getD i 0)))) := by decide +kernel
theorem en_s2 : ∀ i, i < 3 → ∀ j, j < en_slen.getD i 0 → (flatC en_gn)[en_pos i + 4 + j]? = some (.eq (.elem (.field (en_tm i) "java/lang/String" "value" "[B") (.int (Int32.ofNat j))) (.int ((en_sbyt.getD i []).getD j 0))) := by decide +kernel
theorem en_s3 : (flatC en_gn)[201]? = some (.not (.eq (en_tm 0) (en_tm 1))) ∧ (flatC en_gn)[212]? = some (.not (.eq (en_tm 0) (en_tm 2))) ∧ (flatC en_gn)[213]? = some (.not (.eq (en_tm 1) (en_tm 2))) := by decide +kernel
theorem en_s4 : (flatC en_gn)[4]? = some (.eq (.static "java/lang/String" "COMPACT_STRINGS" "Z") (.int 1)) ∧ (flatC en_gn)[5]? = some (.isRef (.static "jdk/internal/util/Preconditions" "SIOOBE_FORMATTER" "Ljava/util/function/BiFunction;")) ∧ (flatC en_gn)[15]? = some (.isRef (.static Bundle.tN "UNASSIGNED_STACK" Bundle.steD)) ∧ (flatC en_gn)[16]? = some (.isRef (.static Bundle.tN "SUPPRESSED_SENTINEL" Bundle.listD)) := by decide +kernel
theorem en_t1 : lw_tbl[179]? = some (.laysStatic "java/lang/String" "COMPACT_STRINGS" "Z") ∧ lw_tbl[116]? = some (.initialized "java/lang/String") ∧ lw_tbl[1260]? = some (.laysStatic Bundle.tN "UNASSIGNED_STACK" Bundle.steD) ∧ lw_tbl[1262]? = some (.laysStatic Bundle.tN "SUPPRESSED_SENTINEL" Bundle.listD) ∧ lw_tbl[131]? = some (.initialized Bundle.tN) ∧ lw_tbl[195]? = some (.laysStatic "jdk/internal/util/Preconditions" "SIOOBE_FORMATTER" "Ljava/util/function/BiFunction;") ∧ lw_tbl[118]? = some (.initialized "jdk/internal/util/Preconditions") := by decide +kernel
theorem en_t2 : lw_tbl[380]? = some (.arrayOver (.object RX4)) ∧ lw_tbl[394]? = some (.arrayOver (.object RX3)) ∧ lw_tbl[169]? = some (.stringRef RX6 19 "deed monk chapter must bars work atone once draw fold does night day or and not due barred free done owed left musts number ") ∧ lw_tbl[1020]? = some (.stringRef RX10 324 "nobody knows") ∧ lw_tbl[1035]? = some (.stringRef RX10 338 " holds") := by decide +kernel
theorem en_t3 : en_nest = ([1105, 510, 692, 976, 1015, 825, 866, 952, 679, 1141] : List Nat).filterMap (fun i => lw_tbl[i]?) ∧ en_nest.all Cond.onTables = true := by decide +kernel
theorem en_t4 : en_xw = ([1235, 1236, 1238, 1240] : List Nat).filterMap (fun i => lw_tbl[i]?) ∧ en_xw.all Cond.onTables = true := by decide +kernel
theorem en_ins : ∀ ci, ci < 12 → en_wi (9, 0, 0, ci, (en_clT ci).2.2) = true := by decide +kernel
section ENZ
variable {p : Program} {l : Launch} {e : Env} {s : State} {m : MethodId} {below : List Frame} {meth : Method} {c : Code} {b L : Nat} {xs : Nat → Int32}
theorem en_strs (hgv : en_gn.before #[Value.ref b] s = true) : ∃ adK adV : Nat → Nat, vk_S 3 en_slen en_sbyt adK adV (fun q : Nat => s.heap.size ≤ q) s s.heap ∧ ∀ i : Nat, i < 3 → (en_tm i).eval #[Value.ref b] s none [] s = some (.ref (adK i)) := by
  have hf := flat_of_before _ hgv
  refine vk_Sof (tm := en_tm) (by decide) (fun i hi => hf _ (List.mem_of_getElem? (en_s1 i hi).1)) (fun i hi => hf _ (List.mem_of_getElem? (en_s1 i hi).2.1)) (fun i hi => hf _ (List.mem_of_getElem? (en_s1 i hi).2.2.1)) (fun i hi => hf _ (List.mem_of_getElem? (en_s1 i hi).2.2.2)) (fun i hi j hj => hf _ (List.mem_of_getElem? (en_s2 i hi j hj))) (fun i j hi hj hij => ?_) (fun a h => Nat.not_le.mpr h)
  have g1 := hf _ (List.mem_of_getElem? en_s3.1)
  have g2 := hf _ (List.mem_of_getElem? en_s3.2.1)
  have g3 := hf _ (List.mem_of_getElem? en_s3.2.2)
  match i, j, hi, hj, hij with
  | 0, 0, _, _, h => exact absurd rfl h
  | 1, 1, _, _, h => exact absurd rfl h
  | 2, 2, _, _, h => exact absurd rfl h
  | 0, 1, _, _, _ => exact Or.inl g1
  | 0, 2, _, _, _ => exact Or.inl g2
  | 1, 2, _, _, _ => exact Or.inl g3
  | 1, 0, _, _, _ => exact Or.inr g1
  | 2, 0, _, _, _ => exact Or.inr g2
  | 2, 1, _, _, _ => exact Or.inr g3
  | k + 3, _, h, _, _ => exact absurd h (by omega)
  | 0, k + 3, _, h, _ => exact absurd h (by omega)
  | 1, k + 3, _, h, _ => exact absurd h (by omega)
  | 2, k + 3, _, h, _ => exact absurd h (by omega)
def en_kc (adK adV : Nat → Nat) (b q4 : Nat) (n : Nat) : Nat := match n with
  | 0 => adK 0
  | 1 => adK 1
  | 2 => adK 2
  | 3 => b
  | 4 => q4
  | k + 5 => adV (k - 95)
theorem en_kcB (q4 : Nat) (hgv : en_gn.before #[Value.ref b] s = true) (hts : ∀ w ∈ lw_tbl, w.before #[Value.ref b] s = true) : ∃ kc : Nat → Nat, kc 3 = b ∧ kc 4 = q4 ∧ en_B kc (fun q : Nat => s.heap.size ≤ q) s s.heap := by
  obtain ⟨adK, adV, hS, hev⟩ := en_strs hgv
  have hf := flat_of_before _ hgv
  have hna : ∀ a : Nat, a < s.heap.size → ¬ (fun q : Nat => s.heap.size ≤ q) a := fun a h => Nat.not_le.mpr h
  have ht : ∀ {n : Nat} {w : Cond}, lw_tbl[n]? = some w → w.before #[Value.ref b] s = true := fun h => hts _ (List.mem_of_getElem? h)
  have hq : ∀ {n : Nat} {w : Cond}, (flatC en_gn)[n]? = some w → w.before #[Value.ref b] s = true := fun h => hf _ (List.mem_of_getElem? h)
  refine ⟨en_kc adK adV b q4, rfl, rfl, fun w hw => ?_, va_AO.of (ht en_t2.1), va_AO.of (ht en_t2.2.1), vk_R.of (ht en_t2.2.2.1) (hev 0 (by omega)), vk_R.of (ht en_t2.2.2.2.1) (hev 1 (by omega)), vk_R.of (ht en_t2.2.2.2.2) (hev 2 (by omega)), ?_, va_Zof (ht en_t1.1) (ht en_t1.2.1) (va_eqi (hq en_s4.1)) hna, vx_Zqof (ht en_t1.2.2.1) (ht en_t1.2.2.2.2.1) (hq en_s4.2.2.1) hna, vx_Zqof (ht en_t1.2.2.2.1) (ht en_t1.2.2.2.2.1) (hq en_s4.2.2.2) hna, fun w hw => ?_, va_Zqof (ht en_t1.2.2.2.2.2.1) (ht en_t1.2.2.2.2.2.2) (hq en_s4.2.1) hna⟩
  · refine va_Nw.of (A := #[Value.ref b]) (List.all_eq_true.mp en_t3.2 w hw) ?_
    rw [en_t3.1] at hw
    obtain ⟨j, -, hj⟩ := List.mem_filterMap.mp hw
    exact ht hj
  · refine ⟨fun i hi => ?_, fun i j hi hj he => hS.2 i j hi hj ?_⟩
    · have h := hS.1 i hi
      match i, hi, h with
      | 0, _, h => exact h
      | 1, _, h => exact h
      | 2, _, h => exact h
      | k + 3, hi, _ => exact absurd hi (by omega)
    · have e1 : ∀ k, k < 3 → en_kc adK adV b q4 k = adK k := by
        intro k hk
        match k, hk with
        | 0, _ => rfl
        | 1, _ => rfl
        | 2, _ => rfl
        | k + 3, hk => exact absurd hk (by omega)
      rw [← e1 i hi, ← e1 j hj]
      exact he
  · refine va_Nw.of (A := #[Value.ref b]) (List.all_eq_true.mp en_t4.2 w hw) ?_
    rw [en_t4.1] at hw
    obtain ⟨j, -, hj⟩ := List.mem_filterMap.mp hw
    exact ht hj
theorem en_KD (hg : ∀ w ∈ en_gw, w.before #[Value.ref b] s = true) : ∃ D : va_G, va_K D en_cl [] s := by
  have h1 : ∀ k, k < 12 → ∃ q : ClassId × (Nat → Nat), u_Kn s (en_clT k).1 (en_clT k).2.1 (en_clT k).2.2 q.1 q.2 := by
    intro k hk
    obtain ⟨e1, e2, -⟩ := en_ciX k hk
    have w9 := en_wi_ok (q := (9, 0, 0, k, (en_clT k).2.2)) (en_ins k hk)
    obtain ⟨cC, iS, h⟩ := u_known (C := (en_clT k).1) (T := (en_clT k).2.1) (N := (en_clT k).2.2) (n := (en_clT k).2.2) hg e2 (by rw [(en_cl_ok k hk).2]; exact hg _ w9)
    exact ⟨(cC, iS), h⟩
  obtain ⟨q0, -⟩ := h1 0 (by omega)
  have h2 : ∀ k, ∃ q : ClassId × (Nat → Nat), k < 12 → u_Kn s (en_clT k).1 (en_clT k).2.1 (en_clT k).2.2 q.1 q.2 := by
    intro k
    by_cases hk : k < 12
    · obtain ⟨q, h⟩ := h1 k hk
      exact ⟨q, fun _ => h⟩
    · exact ⟨q0, fun h => absurd h hk⟩
  obtain ⟨f, hf⟩ := Classical.axiomOfChoice h2
  refine ⟨(fun k => (f k).1, fun k => (f k).2), fun k q hq => ?_, fun k q h => by simp at h⟩
  have hk : k < 12 := (List.getElem?_eq_some_iff.mp hq).1
  have e1 := (en_cl_ok k hk).1
  cases Option.some.inj (hq.symm.trans e1)
  exact hf k hk
/-! the one constant array of the class -/
theorem en_s5 : (flatC en_gn)[10]? = some (.arrayOf (.static RX10 "MOST_OF_SORT" "[I") .int) ∧ (flatC en_gn)[11]? = some (.eq (.length (.static RX10 "MOST_OF_SORT" "[I")) (.int 3)) ∧ ∀ j, j < 3 → (flatC en_gn)[12 + j]? = some (.eq (.elem (.static RX10 "MOST_OF_SORT" "[I") (.int (Int32.ofNat j))) (.int (([8, 4, 10] : List Int32).getD j 0))) := by decide +kernel
theorem en_t5 : lw_tbl[652]? = some (.laysStatic RX10 "MOST_OF_SORT" "[I") ∧ lw_tbl[113]? = some (.initialized RX10) ∧ lw_tbl[651]? = some (.fieldLinkNest RX2 109 RX10 "MOST_OF_SORT" "[I" RX10) := by decide +kernel
theorem en_tlen {args : Array Value} {s : State} {tm : Term} {v : Value} (hlen : (Term.length tm).eval args s none [] s = some v) : ∃ (b : Addr) (cell : Cell), tm.eval args s none [] s = some (.ref b) ∧ s.arrayAt? b = some cell ∧ cell.slots.size < 2 ^ 31 := by
  obtain ⟨b, cell, ht, harr, -⟩ := Term.length_spec hlen
  refine ⟨b, cell, ht, harr, ?_⟩
  have hv := hlen
  simp only [Term.eval, ht, harr, Option.bind_eq_bind, Option.bind_some] at hv
  by_cases hlt : cell.slots.size < 2147483648
  · exact hlt
  · simp [hlt] at hv
theorem en_mos (hgv : en_gn.before #[Value.ref b] s = true) (hts : ∀ w ∈ lw_tbl, w.before #[Value.ref b] s = true) : ∃ q4 : Nat, va_X q4 3 (fun j => ([8, 4, 10] : List Int32).getD j 0) s s.heap ∧ q4 < s.heap.size ∧ va_Z RX10 "MOST_OF_SORT" "[I" (.ref q4) (fun q : Nat => s.heap.size ≤ q) s s.heap ∧ va_Nw (.fieldLinkNest RX2 109 RX10 "MOST_OF_SORT" "[I" RX10) s := by
  have hf := flat_of_before _ hgv
  have hna : ∀ a : Nat, a < s.heap.size → ¬ (fun q : Nat => s.heap.size ≤ q) a := fun a h => Nat.not_le.mpr h
  have ht : ∀ {n : Nat} {w : Cond}, lw_tbl[n]? = some w → w.before #[Value.ref b] s = true := fun h => hts _ (List.mem_of_getElem? h)
  have hq : ∀ {n : Nat} {w : Cond}, (flatC en_gn)[n]? = some w → w.before #[Value.ref b] s = true := fun h => hf _ (List.mem_of_getElem? h)
  have hle := va_eqt (hq en_s5.2.1)
  obtain ⟨q4, hev, cell, h1, h2, h3, h4, h5, h6, h7⟩ := va_Tof (f := fun j => .int (([8, 4, 10] : List Int32).getD j 0)) (A := fun q : Nat => s.heap.size ≤ q) (N := 3) (by decide) (hq en_s5.1) hle (fun j hj => va_eqt (hq (en_s5.2.2 j hj))) hna
  have hsz : cell.slots.size < 2 ^ 31 := by
    obtain ⟨b2, cell2, g1, g2, g4⟩ := en_tlen hle
    cases hev.symm.trans g1
    obtain ⟨g3, -⟩ := State.arrayAt?_spec g2
    cases h1.symm.trans g3
    exact g4
  have h9 : cell.slots.size ≤ 3 := (Int32.ofNat_le_ofNat hsz (by decide)).mp (show Int32.ofNat cell.slots.size ≤ Int32.ofNat 3 by rw [show Int32.ofNat cell.slots.size = Int32.ofNat 3 from h5]; exact Int32.le_refl _)
  exact ⟨q4, ⟨cell, h1, h2, h3, by omega, h6⟩, (Array.getElem?_eq_some_iff.mp h1).1, va_Zof (ht en_t5.1) (ht en_t5.2.1) hev hna, va_Nw.of (A := #[Value.ref b]) rfl (ht en_t5.2.2)⟩
end ENZ
