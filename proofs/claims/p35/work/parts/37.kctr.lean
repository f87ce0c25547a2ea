/-! THE CALCULUS, 8: contracts; a part of a world; behind a call -/
/-- the class's own static array: how many there may be of each sort -/
def kk_mos (j : Nat) : Int := match j with
  | 0 => 8
  | 1 => 4
  | _ => 10
def kk_x4 : kk_X := fun k => match k with
  | 4 => some (3, kk_mos)
  | _ => none
/-- places of a part of a world, seen from the whole -/
def kk_ren (ps : List Nat) (v : en_V) : en_V := match v with
  | (4, x) => (4, ((ps.getD x.toNat 0 : Nat) : Int))
  | v => v
def kk_renC (ps : List Nat) (c : kk_C) : kk_C := (c.1, c.2.1, c.2.2.1.map (kk_ren ps), c.2.2.2)
def kk_wfv (n : Nat) (v : en_V) : Bool := match v with
  | (4, x) => Nat.blt x.toNat n
  | _ => true
def kk_wfC (n : Nat) (c : kk_C) : Bool := c.2.2.1.all (kk_wfv n)
def kk_plug {α : Type} (f : α → α) : List Nat → List α → List α → List α
  | k :: ks, c :: cs, w => kk_plug f ks cs (w.set k (f c))
  | _, _, w => w
theorem kk_plug_len {α : Type} {f : α → α} : ∀ {ps : List Nat} {cs w : List α}, (kk_plug f ps cs w).length = w.length
  | [], _, _ => rfl
  | _ :: _, [], _ => rfl
  | k :: ks, c :: cs, w => by
    show (kk_plug f ks cs (w.set k (f c))).length = _
    rw [kk_plug_len, List.length_set]
theorem kk_plug_out {α : Type} {f : α → α} {k : Nat} : ∀ {ps : List Nat} {cs w : List α}, k ∉ ps → (kk_plug f ps cs w)[k]? = w[k]?
  | [], _, _, _ => rfl
  | _ :: _, [], _, _ => rfl
  | k' :: ks, c :: cs, w, h => by
    show (kk_plug f ks cs (w.set k' (f c)))[k]? = _
    rw [kk_plug_out (fun g => h (List.mem_cons_of_mem _ g)), List.getElem?_set_ne (fun e => h (by rw [e]; exact List.mem_cons_self))]
theorem kk_plug_in {α : Type} {f : α → α} : ∀ {ps : List Nat} {cs w : List α} {i k : Nat} {c : α}, va_nd ps = true → ps[i]? = some k → cs[i]? = some c → k < w.length → (kk_plug f ps cs w)[k]? = some (f c)
  | [], _, _, _, _, _, _, h, _, _ => by simp at h
  | _ :: _, [], _, _, _, _, _, _, h, _ => by simp at h
  | k' :: ks, c' :: cs, w, i, k, c, hn, h1, h2, hl => by
    show (kk_plug f ks cs (w.set k' (f c')))[k]? = _
    have hn' : k' ∉ ks ∧ va_nd ks = true := by
      have := hn
      unfold va_nd at this
      simp only [Bool.and_eq_true, Bool.not_eq_true'] at this
      exact ⟨fun hm => by simp [hm] at this, this.2⟩
    cases i with
    | zero =>
      simp at h1 h2
      subst h1
      subst h2
      rw [kk_plug_out hn'.1, List.getElem?_set_self hl]
    | succ i =>
      simp at h1 h2
      exact kk_plug_in hn'.2 h1 h2 (by rw [List.length_set]; exact hl)
section KKC
variable {kc : Nat → Nat} {D : va_G} {A : Nat → Prop} {ws ws0 : va_W} {tys : List (ClassId × FieldType)} {ps : List Nat}
theorem kk_part_at (hC : ps.map (fun i => ws[i]?) = ws0.map some) {i : Nat} {q : Nat × va_E} (h : ws0[i]? = some q) : ∃ k, ps[i]? = some k ∧ ws[k]? = some q := by
  have h1 : (ps.map (fun i => ws[i]?))[i]? = some (some q) := by rw [hC, List.getElem?_map, h]; rfl
  rw [List.getElem?_map] at h1
  cases hi : ps[i]? with
  | none => rw [hi] at h1; cases h1
  | some k => rw [hi] at h1; exact ⟨k, rfl, Option.some.inj h1⟩
theorem kk_part_to (hC : ps.map (fun i => ws[i]?) = ws0.map some) {i k : Nat} (h : ps[i]? = some k) : ws0[i]? = ws[k]? := by
  have h1 : (ws0.map some)[i]? = some (ws[k]?) := by rw [← hC, List.getElem?_map, h]; rfl
  rw [List.getElem?_map] at h1
  cases hi : ws0[i]? with
  | none => rw [hi] at h1; cases h1
  | some q => rw [hi] at h1; exact (Option.some.inj h1)
theorem kk_part_len (hC : ps.map (fun i => ws[i]?) = ws0.map some) : ps.length = ws0.length := by
  have := congrArg List.length hC
  simpa using this
theorem kk_getD {i k : Nat} (h : ps[i]? = some k) : ps.getD i 0 = k := by rw [List.getD_eq_getElem?_getD, h]; rfl
/-- a value of the whole world, seen in the part -/
theorem kk_ren_v (hC : ps.map (fun i => ws[i]?) = ws0.map some) {v : en_V} {x : Value} (hw : kk_wfv ps.length v = true) (h : en_v kc [] ws (kk_ren ps v) x) : en_v kc [] ws0 v x := by
  unfold kk_ren at h
  unfold kk_wfv at hw
  split at h
  · rename_i y
    have hl : y.toNat < ps.length := en_blt hw
    obtain ⟨q, e, h1, h2⟩ := kk_v4 h
    have h3 : ps[y.toNat]? = some ps[y.toNat] := List.getElem?_eq_getElem hl
    refine ⟨q, e, h1, ?_⟩
    show ws0[y.toNat]? = some (q, e)
    rw [kk_part_to hC h3]
    rw [Int.toNat_natCast, kk_getD h3] at h2
    exact h2
  · rename_i v' hne
    obtain ⟨t, y⟩ := v
    unfold en_v at h ⊢
    dsimp only at h ⊢
    split at h
    · exact h
    · exact h
    · exact h
    · exact h
    · exact absurd rfl (hne _)
    · exact h
    · exact h
    · exact h
    · exact h
    · exact h
/-- and back -/
theorem kk_ren_b (hC : ps.map (fun i => ws[i]?) = ws0.map some) {v : en_V} {x : Value} (h : en_v kc [] ws0 v x) : en_v kc [] ws (kk_ren ps v) x := by
  unfold kk_ren
  split
  · rename_i y
    obtain ⟨q, e, h1, h2⟩ := kk_v4 h
    obtain ⟨k, h3, h4⟩ := kk_part_at hC h2
    refine ⟨q, e, h1, ?_⟩
    show ws[(((ps.getD y.toNat 0 : Nat) : Int)).toNat]? = some (q, e)
    rw [Int.toNat_natCast, kk_getD h3]
    exact h4
  · rename_i v' hne
    obtain ⟨t, y⟩ := v
    unfold en_v at h ⊢
    dsimp only at h ⊢
    split at h
    · exact h
    · exact h
    · exact h
    · exact h
    · exact absurd rfl (hne _)
    · exact h
    · exact h
    · exact h
    · exact h
    · exact h
theorem kk_f2_ren (hC : ps.map (fun i => ws[i]?) = ws0.map some) : ∀ {l : List en_V} {vs : List Value}, l.all (kk_wfv ps.length) = true → en_f2 (en_v kc [] ws) (l.map (kk_ren ps)) vs → en_f2 (en_v kc [] ws0) l vs
  | [], [], _, _ => trivial
  | a :: l, v :: vs, hw, h => by
    rw [List.all_cons, Bool.and_eq_true] at hw
    exact ⟨kk_ren_v hC hw.1 h.1, kk_f2_ren hC hw.2 h.2⟩
  | [], _ :: _, _, h => h.elim
  | _ :: _, [], _, h => h.elim
theorem kk_f2_bck (hC : ps.map (fun i => ws[i]?) = ws0.map some) : ∀ {l : List en_V} {vs : List Value}, en_f2 (en_v kc [] ws0) l vs → en_f2 (en_v kc [] ws) (l.map (kk_ren ps)) vs
  | [], [], _ => trivial
  | a :: l, v :: vs, h => ⟨kk_ren_b hC h.1, kk_f2_bck hC h.2⟩
  | [], _ :: _, h => h.elim
  | _ :: _, [], h => h.elim
theorem kk_c_ren (hC : ps.map (fun i => ws[i]?) = ws0.map some) {c : kk_C} {e : va_E} (hw : kk_wfC ps.length c = true) (h : kk_c kc ws tys (kk_renC ps c) e) : kk_c kc ws0 tys c e := by
  obtain ⟨t, n, fs, g⟩ := c
  have hw : fs.all (kk_wfv ps.length) = true := hw
  unfold kk_c kk_renC at h
  unfold kk_c
  dsimp only at h ⊢
  split at h
  · obtain ⟨fv, h1, h2⟩ := h
    exact ⟨fv, h1, kk_f2_ren hC hw h2⟩
  · exact h
  · exact h
  · obtain ⟨cA, f, t, h1, h2, h3⟩ := h
    refine ⟨cA, f, t, by rw [h1, List.length_map], h2, fun j a ha => kk_ren_v hC ?_ (h3 j (kk_ren ps a) (by rw [List.getElem?_map, ha]; rfl))⟩
    exact List.all_eq_true.mp hw a (List.mem_of_getElem? ha)
  · exact h
  · exact h
theorem kk_c_bck (hC : ps.map (fun i => ws[i]?) = ws0.map some) {c : kk_C} {e : va_E} (h : kk_c kc ws0 tys c e) : kk_c kc ws tys (kk_renC ps c) e := by
  obtain ⟨t, n, fs, g⟩ := c
  unfold kk_c kk_renC
  unfold kk_c at h
  dsimp only at h ⊢
  split at h
  · obtain ⟨fv, h1, h2⟩ := h
    exact ⟨fv, h1, kk_f2_bck hC h2⟩
  · exact h
  · exact h
  · obtain ⟨cA, f, t, h1, h2, h3⟩ := h
    refine ⟨cA, f, t, by rw [h1, List.length_map], h2, fun j a ha => ?_⟩
    rw [List.getElem?_map] at ha
    cases hb : fs[j]? with
    | none => rw [hb] at ha; cases ha
    | some b => rw [hb] at ha; cases ha; exact kk_ren_b hC (h3 j b hb)
  · exact h
  · exact h
/-- what a part of a world must be -/
def kk_emb (ps : List Nat) (w0 w : List kk_C) : Prop := match ps, w0 with
  | [], [] => True
  | k :: ks, c :: cs => w[k]? = some c ∧ kk_emb ks cs w
  | _, _ => False
theorem kk_emb_len {w : List kk_C} : ∀ {ps : List Nat} {w0 : List kk_C}, kk_emb ps w0 w → ps.length = w0.length
  | [], [], _ => rfl
  | _ :: _, _ :: _, h => by rw [List.length_cons, List.length_cons, kk_emb_len h.2]
  | [], _ :: _, h => h.elim
  | _ :: _, [], h => h.elim
theorem kk_emb_at {w : List kk_C} : ∀ {ps : List Nat} {w0 : List kk_C} {i k : Nat}, kk_emb ps w0 w → ps[i]? = some k → ∃ c, w0[i]? = some c ∧ w[k]? = some c
  | [], _, _, _, _, h => by simp at h
  | k' :: ks, c :: cs, i, k, h, h1 => by
    cases i with
    | zero => simp at h1; subst h1; exact ⟨c, rfl, h.1⟩
    | succ i => simp at h1; simpa using kk_emb_at h.2 h1
  | _ :: _, [], _, _, h, _ => h.elim
theorem kk_emb_ws {w : List kk_C} (hw : kk_w kc ws tys w) : ∀ {ps : List Nat} {w0 : List kk_C}, kk_emb ps w0 w → ∃ ws0 : va_W, ps.map (fun i => ws[i]?) = ws0.map some
  | [], _, _ => ⟨[], rfl⟩
  | k :: ks, c :: cs, h => by
    obtain ⟨ws0, h1⟩ := kk_emb_ws hw h.2
    obtain ⟨q, e, h2, -⟩ := hw.2 k c h.1
    exact ⟨(q, e) :: ws0, by rw [List.map_cons, List.map_cons, h1, h2]⟩
  | _ :: _, [], h => h.elim
end KKC
