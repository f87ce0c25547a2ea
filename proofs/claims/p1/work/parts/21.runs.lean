/-! THE CLAIM, 1: runs of the law (printed by wip/eng/gen5.py) -/
abbrev en_lw (es : List en_E) : en_T := (yL_law, cL_law, 8, (some .boolean), 187, 7840, 106, [], es)
def en_iv6 : en_I := [(en_lo, en_hi), (en_lo, en_hi), (en_lo, en_hi), (en_lo, en_hi), (en_lo, en_hi), (en_lo, en_hi)]
def en_S0 : en_S := ([(0, (6, 3))], [], en_iv6, [], 0, 0)
def en_qL {α : Type} (f : α → α → Bool) : List α → List α → Bool
  | [], [] => true
  | a :: r, b :: q => f a b && en_qL f r q
  | _, _ => false
theorem en_qL_ok {α : Type} {f : α → α → Bool} (hf : ∀ a b, f a b = true → a = b) : ∀ {r q : List α}, en_qL f r q = true → r = q
  | [], [], _ => rfl
  | a :: r, b :: q, h => by
    unfold en_qL at h
    rw [Bool.and_eq_true] at h
    rw [hf a b h.1, en_qL_ok hf h.2]
  | [], _ :: _, h => by cases h
  | _ :: _, [], h => by cases h
def en_qI (a b : Int × Int) : Bool := decide (a.1 = b.1) && decide (a.2 = b.2)
theorem en_qI_ok (a b : Int × Int) (h : en_qI a b = true) : a = b := by
  unfold en_qI at h
  rw [Bool.and_eq_true, decide_eq_true_eq, decide_eq_true_eq] at h
  exact Prod.ext h.1 h.2
def en_qV (a b : en_V) : Bool := Nat.beq a.1 b.1 && decide (a.2 = b.2)
theorem en_qV_ok (a b : en_V) (h : en_qV a b = true) : a = b := by
  unfold en_qV at h
  rw [Bool.and_eq_true, decide_eq_true_eq] at h
  exact Prod.ext (Nat.eq_of_beq_eq_true h.1) h.2
def en_qP (a b : Nat × en_V) : Bool := Nat.beq a.1 b.1 && en_qV a.2 b.2
theorem en_qP_ok (a b : Nat × en_V) (h : en_qP a b = true) : a = b := by
  unfold en_qP at h
  rw [Bool.and_eq_true] at h
  exact Prod.ext (Nat.eq_of_beq_eq_true h.1) (en_qV_ok _ _ h.2)
def en_qX (a b : Nat × Int × Int) : Bool := Nat.beq a.1 b.1 && en_qI a.2 b.2
theorem en_qX_ok (a b : Nat × Int × Int) (h : en_qX a b = true) : a = b := by
  unfold en_qX at h
  rw [Bool.and_eq_true] at h
  exact Prod.ext (Nat.eq_of_beq_eq_true h.1) (en_qI_ok _ _ h.2)
def en_qC (a b : en_C) : Bool := Nat.beq a.1 b.1 && (Nat.beq a.2.1 b.2.1 && (en_qI a.2.2.1 b.2.2.1 && (en_qL en_qV a.2.2.2.1 b.2.2.2.1 && en_qL en_qX a.2.2.2.2 b.2.2.2.2)))
theorem en_qC_ok (a b : en_C) (h : en_qC a b = true) : a = b := by
  unfold en_qC at h
  simp only [Bool.and_eq_true] at h
  exact Prod.ext (Nat.eq_of_beq_eq_true h.1) (Prod.ext (Nat.eq_of_beq_eq_true h.2.1) (Prod.ext (en_qI_ok _ _ h.2.2.1) (Prod.ext (en_qL_ok en_qV_ok h.2.2.2.1) (en_qL_ok en_qX_ok h.2.2.2.2))))
def en_qS (a b : Nat × en_S) : Bool := Nat.beq a.1 b.1 && (en_qL en_qP a.2.1 b.2.1 && (en_qL en_qV a.2.2.1 b.2.2.1 && (en_qL en_qI a.2.2.2.1 b.2.2.2.1 && (en_qL en_qC a.2.2.2.2.1 b.2.2.2.2.1 && (Nat.beq a.2.2.2.2.2.1 b.2.2.2.2.2.1 && Nat.beq a.2.2.2.2.2.2 b.2.2.2.2.2.2)))))
theorem en_qS_ok (a b : Nat × en_S) (h : en_qS a b = true) : a = b := by
  unfold en_qS at h
  simp only [Bool.and_eq_true] at h
  exact Prod.ext (Nat.eq_of_beq_eq_true h.1) (Prod.ext (en_qL_ok en_qP_ok h.2.1) (Prod.ext (en_qL_ok en_qV_ok h.2.2.1) (Prod.ext (en_qL_ok en_qI_ok h.2.2.2.1) (Prod.ext (en_qL_ok en_qC_ok h.2.2.2.2.1) (Prod.ext (Nat.eq_of_beq_eq_true h.2.2.2.2.2.1) (Nat.eq_of_beq_eq_true h.2.2.2.2.2.2))))))
def en_qO (o : Option (List (Nat × en_S))) (l : List (Nat × en_S)) : Bool := match o with
  | some q => en_qL en_qS q l
  | none => false
theorem en_qO_ok {o : Option (List (Nat × en_S))} {l : List (Nat × en_S)} (h : en_qO o l = true) : o = some l := by
  unfold en_qO at h
  split at h
  · rw [en_qL_ok en_qS_ok h]
  · cases h
def en_lend (q : Nat × en_S) : Bool := (match en_find (en_te en_t_L_law) q.1 with
    | some z => (match z.2.1 with
      | .ireturn => true
      | _ => false)
    | none => false) && ((match q.2.2.1 with
    | [v] => Nat.beq v.1 0 && decide (v.2 = 1)
    | _ => false) && (Nat.ble q.2.2.2.2.2.1 187 && Nat.ble q.2.2.2.2.2.2 7840))
def en_end (o : Option (List (Nat × en_S))) : Bool := match o with
  | some l => l.all en_lend
  | none => false
/-- what is carried back along runs of the law -/
def en_CL (L : Nat) (P : Nat → en_S → Prop) : Prop := (∀ (sc : Option Nat) (es : List en_E) (pc : Nat) (S : en_S) (lvs : List (Nat × en_S)), (sc = none ∨ sc = some L) → en_run en_M 20000 20 sc (en_lw es) pc S = some lvs → en_Eok en_M (en_lw es) → (∀ lf ∈ lvs, P lf.1 lf.2) → P pc S) ∧ ∀ lf : Nat × en_S, en_lend lf = true → P lf.1 lf.2
theorem en_CL.fin {L : Nat} {P : Nat → en_S → Prop} (h : en_CL L P) {pc : Nat} {S : en_S} (hr : en_end (en_run en_M 20000 20 (some L) (en_lw en_c_L_law) pc S) = true) : P pc S := by
  cases hrn : en_run en_M 20000 20 (some L) (en_lw en_c_L_law) pc S with
  | none => rw [hrn] at hr; cases hr
  | some lvs =>
    rw [hrn] at hr
    exact h.1 (some L) en_c_L_law pc S lvs (Or.inr rfl) hrn en_lawE (fun lf hm => h.2 lf (List.all_eq_true.mp hr lf hm))
