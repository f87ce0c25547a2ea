/-! THE CLAIM, 8: from the law's entry to its end -/
section ENZ2
variable {p : Program} {l : Launch} {e : Env} {s : State} {m : MethodId} {below : List Frame} {meth : Method} {c : Code} {b L : Nat} {xs : Nat → Int32}
/-- from the entry, for every script of at most 6 ints, the law comes to its end with true -/
theorem whole_start (hl : l.stackTraces = false) (hL : L ≤ 6) (C0 : lw_At p s m meth c b L xs) (hnm : meth.name = "law") (hex : c.exceptionTable.toList = []) : W p l e room_1 s m #[Value.ref b] below meth c s.heap [] 0 0 (lw_Z below #[Value.ref b] s) (entryFrame m ([Value.ref b] : List Value).toArray 8) := by
  obtain ⟨hx, hb, hr, hml, hown, hts, hX, hbl, hlocks, hgv⟩ := C0
  have hg : ∀ w ∈ en_gw, w.before #[Value.ref b] s = true := fun w hw => hts w (List.mem_filter.mp hw).1
  obtain ⟨kc, hk3, hB⟩ := en_kcB hgv hts
  obtain ⟨D, hK⟩ := en_KD hg
  have hSND := en_snd (l := l) hl (kc := kc) (D := D) (A := fun q : Nat => s.heap.size ≤ q) en_hM en_h9 20000
  have C : en_cx p l e room_1 s m #[Value.ref b] meth c kc (fun q : Nat => s.heap.size ≤ q) yL_law cL_law 8 187 7840 := ⟨hx, hb, hml, hown, hg, hB, fun _ h => h, hnm, Nat.le_of_ble_eq_true rfl, Nat.le_of_ble_eq_true rfl, Nat.le_of_ble_eq_true rfl, Nat.le_of_ble_eq_true rfl⟩
  have hXX : en_X kc (fun q : Nat => s.heap.size ≤ q) s ((List.range 6).map xs) (some L) := by
    intro n hn
    cases hn
    refine ⟨xs, by rw [hk3]; exact hX, by rw [hk3]; exact hbl, by rw [hk3]; exact Nat.not_le.mpr hbl, by omega, fun i hi => ?_⟩
    rw [List.getElem?_map, List.getElem?_range (by omega)]
    rfl
  have hCL : en_CL L (fun pc S => en_K p l e room_1 s m #[Value.ref b] below meth c (lw_Z below #[Value.ref b] s) kc D (fun q : Nat => s.heap.size ≤ q) 8 ((List.range 6).map xs) [] [] pc S) := by
    refine ⟨fun sc es pc S lvs hsc hrn hE hlv => ?_, fun lf h => en_lend_ok hx hb hr hlocks h⟩
    have hX2 : en_X kc (fun q : Nat => s.heap.size ≤ q) s ((List.range 6).map xs) sc := by
      rcases hsc with rfl | rfl
      · exact en_noX
      · exact hXX
    exact hSND 20 sc (en_lw es) pc S lvs hrn hE p e room_1 s m #[Value.ref b] below meth c (lw_Z below #[Value.ref b] s) ((List.range 6).map xs) [] [] C (Nat.le_of_ble_eq_true rfl) (Nat.le_of_ble_eq_true rfl) hX2 hex hlv
  have K1 := en_c0 hL hCL
  have hle := lv_entry ([.ref b]) (n := 8) (Nat.le_of_ble_eq_true rfl)
  rw [lg_entry_eq]
  generalize (lg_sl ([.ref b]) ++ List.replicate (8 - (lg_sl ([.ref b])).length) Slot.unset).toArray = ls at hle ⊢
  have hle : lv_has ls 8 [(0, .ref b)] := hle
  exact K1 ((List.range 6).map xs) [] [] s.heap [] ls [] en_pre.rf en_le.rf en_pre.rf ⟨⟨_, hle, ⟨rfl, by show Value.ref b = .ref (kc 3); rw [hk3]⟩, trivial⟩, trivial, en_iv6_ok xs, ⟨rfl, fun k c h => by cases h⟩, hK, fun k q h => by simp at h, ⟨fun i j p q h => by simp at h, fun k q h => by simp at h⟩, va_S.rf⟩
end ENZ2
