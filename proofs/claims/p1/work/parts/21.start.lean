/-! THE CLAIM, 1b: where the law begins -/
abbrev en_gn : Cond := Jvm.Cond.and given_1 narrow_1
def en_tm (i : Nat) : Term := match i with
  | 0 => .string RX6 19
  | 1 => .string RX10 324
  | _ => .string RX10 338
def en_pos (i : Nat) : Nat := match i with
  | 0 => 57
  | 1 => 185
  | _ => 202
theorem en_s1 : ∀ i, i < 3 → (flatC en_gn)[en_pos i]? = some (.exactly (en_tm i) "java/lang/String") ∧ (flatC en_gn)[en_pos i + 1]? = some (.eq (.field (en_tm i) "java/lang/String" "coder" "B") (.int 0)) ∧ (flatC en_gn)[en_pos i + 2]? = some (.arrayOf (.field (en_tm i) "java/lang/String" "value" "[B") .byte) ∧ (flatC en_gn)[en_pos i + 3]? = some (.eq (.length (.field (en_tm i) "java/lang/String" "value" "[B")) (.int (Int32.ofNat (en_slen.getD i 0)))) := by decide +kernel
theorem en_s2 : ∀ i, i < 3 → ∀ j, j < en_slen.getD i 0 → (flatC en_gn)[en_pos i + 4 + j]? = some (.eq (.elem (.field (en_tm i) "java/lang/String" "value" "[B") (.int (Int32.ofNat j))) (.int ((en_sbyt.getD i []).getD j 0))) := by decide +kernel
theorem en_s3 : (flatC en_gn)[201]? = some (.not (.eq (en_tm 0) (en_tm 1))) ∧ (flatC en_gn)[212]? = some (.not (.eq (en_tm 0) (en_tm 2))) ∧ (flatC en_gn)[213]? = some (.not (.eq (en_tm 1) (en_tm 2))) := by decide +kernel
theorem en_s4 : (flatC en_gn)[4]? = some (.eq (.static "java/lang/String" "COMPACT_STRINGS" "Z") (.int 1)) ∧ (flatC en_gn)[5]? = some (.isRef (.static "jdk/internal/util/Preconditions" "SIOOBE_FORMATTER" "Ljava/util/function/BiFunction;")) ∧ (flatC en_gn)[15]? = some (.isRef (.static Bundle.tN "UNASSIGNED_STACK" Bundle.steD)) ∧ (flatC en_gn)[16]? = some (.isRef (.static Bundle.tN "SUPPRESSED_SENTINEL" Bundle.listD)) := by decide +kernel
theorem en_t1 : lw_tbl[179]? = some (.laysStatic "java/lang/String" "COMPACT_STRINGS" "Z") ∧ lw_tbl[116]? = some (.initialized "java/lang/String") ∧ lw_tbl[1260]? = some (.laysStatic Bundle.tN "UNASSIGNED_STACK" Bundle.steD) ∧ lw_tbl[1262]? = some (.laysStatic Bundle.tN "SUPPRESSED_SENTINEL" Bundle.listD) ∧ lw_tbl[131]? = some (.initialized Bundle.tN) ∧ lw_tbl[195]? = some (.laysStatic "jdk/internal/util/Preconditions" "SIOOBE_FORMATTER" "Ljava/util/function/BiFunction;") ∧ lw_tbl[118]? = some (.initialized "jdk/internal/util/Preconditions") := by decide +kernel
theorem en_t2 : lw_tbl[380]? = some (.arrayOver (.object RX4)) ∧ lw_tbl[394]? = some (.arrayOver (.object RX3)) ∧ lw_tbl[169]? = some (.stringRef RX6 19 "deed monk chapter must bars work atone once draw fold does night day or and not due barred free done owed left musts number ") ∧ lw_tbl[1020]? = some (.stringRef RX10 324 "nobody knows") ∧ lw_tbl[1035]? = some (.stringRef RX10 338 " holds") := by decide +kernel
theorem en_t3 : en_nest = ([510, 679, 692, 825, 866, 952, 976, 1015, 1105, 1141] : List Nat).filterMap (fun i => lw_tbl[i]?) ∧ en_nest.all Cond.onTables = true := by decide +kernel
theorem en_t4 : en_xw = ([1235, 1236, 1238, 1240] : List Nat).filterMap (fun i => lw_tbl[i]?) ∧ en_xw.all Cond.onTables = true := by decide +kernel
theorem en_ins : ∀ ci, ci < 12 → en_wi (9, 0, 0, ci, (en_clT ci).2.2) = true := by decide +kernel
section ENZ
variable {p : Program} {l : Launch} {e : Env} {s : State} {m : MethodId} {below : List Frame} {meth : Method} {c : Code} {b L : Nat} {xs : Nat → Int32}
theorem en_strs (hgv : en_gn.before #[Value.ref b] s = true) : ∃ adK adV : Nat → Nat, vk_S 3 en_slen en_sbyt adK adV (fun q : Nat => s.heap.size ≤ q) s s.heap ∧ ∀ i : Nat, i < 3 → (en_tm i).eval #[Value.ref b] s none [] s = some (.ref (adK i)) := by
  have hf := flat_of_before _ hgv
  refine vk_Sof (tm := en_tm) (by decide) (fun i hi => hf _ (List.mem_of_getElem? (en_s1 i hi).1)) (fun i hi => hf _ (List.mem_of_getElem? (en_s1 i hi).2.1)) (fun i hi => hf _ (List.mem_of_getElem? (en_s1 i hi).2.2.1)) (fun i hi => hf _ (List.mem_of_getElem? (en_s1 i hi).2.2.2)) (fun i hi j hj => hf _ (List.mem_of_getElem? (en_s2 i hi j hj))) (fun i j hi hj hij => ?_) (fun a h => Nat.not_le.mpr h)
  have g1 := hf _ (List.mem_of_getElem? en_s3.1)
  have g2 := hf _ (List.mem_of_getElem? en_s3.2.1)
  have g3 := hf _ (List.mem_of_getElem? en_s3.2.2)
  match i, j, hi, hj, hij with
  | 0, 0, _, _, h => exact absurd rfl h
  | 1, 1, _, _, h => exact absurd rfl h
  | 2, 2, _, _, h => exact absurd rfl h
  | 0, 1, _, _, _ => exact Or.inl g1
  | 0, 2, _, _, _ => exact Or.inl g2
  | 1, 2, _, _, _ => exact Or.inl g3
  | 1, 0, _, _, _ => exact Or.inr g1
  | 2, 0, _, _, _ => exact Or.inr g2
  | 2, 1, _, _, _ => exact Or.inr g3
  | k + 3, _, h, _, _ => exact absurd h (by omega)
  | 0, k + 3, _, h, _ => exact absurd h (by omega)
  | 1, k + 3, _, h, _ => exact absurd h (by omega)
  | 2, k + 3, _, h, _ => exact absurd h (by omega)
def en_kc (adK adV : Nat → Nat) (b : Nat) (n : Nat) : Nat := match n with
  | 0 => adK 0
  | 1 => adK 1
  | 2 => adK 2
  | 3 => b
  | k + 4 => adV (k - 96)
theorem en_kcB (hgv : en_gn.before #[Value.ref b] s = true) (hts : ∀ w ∈ lw_tbl, w.before #[Value.ref b] s = true) : ∃ kc : Nat → Nat, kc 3 = b ∧ en_B kc (fun q : Nat => s.heap.size ≤ q) s s.heap := by
  obtain ⟨adK, adV, hS, hev⟩ := en_strs hgv
  have hf := flat_of_before _ hgv
  have hna : ∀ a : Nat, a < s.heap.size → ¬ (fun q : Nat => s.heap.size ≤ q) a := fun a h => Nat.not_le.mpr h
  have ht : ∀ {n : Nat} {w : Cond}, lw_tbl[n]? = some w → w.before #[Value.ref b] s = true := fun h => hts _ (List.mem_of_getElem? h)
  have hq : ∀ {n : Nat} {w : Cond}, (flatC en_gn)[n]? = some w → w.before #[Value.ref b] s = true := fun h => hf _ (List.mem_of_getElem? h)
  refine ⟨en_kc adK adV b, rfl, fun w hw => ?_, va_AO.of (ht en_t2.1), va_AO.of (ht en_t2.2.1), vk_R.of (ht en_t2.2.2.1) (hev 0 (by omega)), vk_R.of (ht en_t2.2.2.2.1) (hev 1 (by omega)), vk_R.of (ht en_t2.2.2.2.2) (hev 2 (by omega)), ?_, va_Zof (ht en_t1.1) (ht en_t1.2.1) (va_eqi (hq en_s4.1)) hna, vx_Zqof (ht en_t1.2.2.1) (ht en_t1.2.2.2.2.1) (hq en_s4.2.2.1) hna, vx_Zqof (ht en_t1.2.2.2.1) (ht en_t1.2.2.2.2.1) (hq en_s4.2.2.2) hna, fun w hw => ?_, va_Zqof (ht en_t1.2.2.2.2.2.1) (ht en_t1.2.2.2.2.2.2) (hq en_s4.2.1) hna⟩
  · refine va_Nw.of (A := #[Value.ref b]) (List.all_eq_true.mp en_t3.2 w hw) ?_
    rw [en_t3.1] at hw
    obtain ⟨j, -, hj⟩ := List.mem_filterMap.mp hw
    exact ht hj
  · refine ⟨fun i hi => ?_, fun i j hi hj he => hS.2 i j hi hj ?_⟩
    · have h := hS.1 i hi
      match i, hi, h with
      | 0, _, h => exact h
      | 1, _, h => exact h
      | 2, _, h => exact h
      | k + 3, hi, _ => exact absurd hi (by omega)
    · have e1 : ∀ k, k < 3 → en_kc adK adV b k = adK k := by
        intro k hk
        match k, hk with
        | 0, _ => rfl
        | 1, _ => rfl
        | 2, _ => rfl
        | k + 3, hk => exact absurd hk (by omega)
      rw [← e1 i hi, ← e1 j hj]
      exact he
  · refine va_Nw.of (A := #[Value.ref b]) (List.all_eq_true.mp en_t4.2 w hw) ?_
    rw [en_t4.1] at hw
    obtain ⟨j, -, hj⟩ := List.mem_filterMap.mp hw
    exact ht hj
theorem en_KD (hg : ∀ w ∈ en_gw, w.before #[Value.ref b] s = true) : ∃ D : va_G, va_K D en_cl [] s := by
  have h1 : ∀ k, k < 12 → ∃ q : ClassId × (Nat → Nat), u_Kn s (en_clT k).1 (en_clT k).2.1 (en_clT k).2.2 q.1 q.2 := by
    intro k hk
    obtain ⟨e1, e2, -⟩ := en_ciX k hk
    have w9 := en_wi_ok (q := (9, 0, 0, k, (en_clT k).2.2)) (en_ins k hk)
    obtain ⟨cC, iS, h⟩ := u_known (C := (en_clT k).1) (T := (en_clT k).2.1) (N := (en_clT k).2.2) (n := (en_clT k).2.2) hg e2 (by rw [(en_cl_ok k hk).2]; exact hg _ w9)
    exact ⟨(cC, iS), h⟩
  obtain ⟨q0, -⟩ := h1 0 (by omega)
  have h2 : ∀ k, ∃ q : ClassId × (Nat → Nat), k < 12 → u_Kn s (en_clT k).1 (en_clT k).2.1 (en_clT k).2.2 q.1 q.2 := by
    intro k
    by_cases hk : k < 12
    · obtain ⟨q, h⟩ := h1 k hk
      exact ⟨q, fun _ => h⟩
    · exact ⟨q0, fun h => absurd h hk⟩
  obtain ⟨f, hf⟩ := Classical.axiomOfChoice h2
  refine ⟨(fun k => (f k).1, fun k => (f k).2), fun k q hq => ?_, fun k q h => by simp at h⟩
  have hk : k < 12 := (List.getElem?_eq_some_iff.mp hq).1
  have e1 := (en_cl_ok k hk).1
  cases Option.some.inj (hq.symm.trans e1)
  exact hf k hk
theorem en_iv6_ok (xs : Nat → Int32) : en_iv en_iv6 ((List.range 6).map xs) := by
  refine ⟨by simp [en_iv6], fun i q x h1 h2 => ?_⟩
  have h3 : q = (en_lo, en_hi) := by
    have := List.mem_of_getElem? h1
    simp only [en_iv6, List.mem_cons, List.not_mem_nil, or_false, or_self] at this
    exact this
  rw [h3]
  exact en_in_all x
theorem en_lend_ok {lf : Nat × en_S} {kc : Nat → Nat} {D : va_G} {ρ : List Int32} {ws : va_W} {tys : List (ClassId × FieldType)} (hx : p.tables.exec = Jvm.exec) (hb : c.code = code) (hr : meth.sig.returnType = ret) (hlocks : meth.locks = false) (h : en_lend lf = true) :
    en_K p l e room_1 s m #[Value.ref b] below meth c (lw_Z below #[Value.ref b] s) kc D (fun q : Nat => s.heap.size ≤ q) 8 ρ ws tys lf.1 lf.2 := by
  intro ρ' ws' tys' H locs la sv h1 h2 h3 hR
  unfold en_lend at h
  simp only [Bool.and_eq_true] at h
  obtain ⟨g1, g2, g3, g4⟩ := h
  have hd : decode code lf.1 = .ok (.ireturn, 1) := by
    cases hf : en_find (en_te en_t_L_law) lf.1 with
    | none => rw [hf] at g1; cases g1
    | some z =>
      rw [hf] at g1
      obtain ⟨e1, -⟩ := en_lawE _ (en_find_ok hf)
      dsimp only at g1 e1
      split at g1
      · rename_i hi
        rw [hi] at e1
        exact e1
      · cases g1
  have hsv : sv = [.int 1] := by
    obtain ⟨-, hst, -⟩ := hR
    split at g2
    · rename_i v hv
      rw [hv] at hst
      rw [Bool.and_eq_true, decide_eq_true_eq] at g2
      cases sv with
      | nil => exact hst.elim
      | cons x r =>
        cases r with
        | cons _ _ => exact hst.2.elim
        | nil =>
          obtain ⟨t, n⟩ := v
          have e1 : t = 0 := Nat.eq_of_beq_eq_true g2.1
          have e2 : n = 1 := g2.2
          subst e1
          subst e2
          obtain ⟨y, rfl, hy⟩ := hst.1
          have : y = 1 := Int32.toInt_inj.mp hy
          rw [this]
    · cases g2
  subst hsv
  refine va_forget (fun q hq => hR.2.2.2.2.2.2.2.2.2 q hq) ?_
  refine W.widen (k := 600002) (n := 7302232) (Nat.le_trans (Nat.le_of_ble_eq_true g3) (by omega)) (Nat.le_trans (Nat.le_of_ble_eq_true g4) (by omega)) ?_
  exact lw_ret hx hb hr hlocks hd
end ENZ
