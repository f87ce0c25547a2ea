/-! THE CLASS, 25: how the parts lie in the whole -/
abbrev pC_T : List Nat := [1, 2]
set_option maxRecDepth 100000 in
set_option maxHeartbeats 4000000 in
theorem ce_C_T : cc_E cx_C cx_T pC_T := cc_plan cq_C cq_T (by decide +kernel) (by decide +kernel)
abbrev pC_N : List Nat := [166, 167]
set_option maxRecDepth 100000 in
set_option maxHeartbeats 4000000 in
theorem ce_C_N : cc_E cx_C cx_T80 pC_N := cc_plan cq_C cq_T80 (by decide +kernel) (by decide +kernel)
abbrev pC_H : List Nat := [5, 6, 7, 8, 9, 10, 11]
set_option maxRecDepth 100000 in
set_option maxHeartbeats 4000000 in
theorem ce_C_H : cc_E cx_C cx_H pC_H := cc_plan cq_C cq_H (by decide +kernel) (by decide +kernel)
abbrev pC_L : List Nat := [19, 20, 21, 22, 23, 24, 25, 26, 5, 6, 7, 8, 9, 10, 11]
set_option maxRecDepth 100000 in
set_option maxHeartbeats 4000000 in
theorem ce_C_L : cc_E cx_C cx_L pC_L := cc_plan cq_C cq_L (by decide +kernel) (by decide +kernel)
abbrev pC_Lt : List Nat := [27, 28, 29, 30, 31, 32, 33, 34, 5, 6, 7, 8, 9, 10, 11]
set_option maxRecDepth 100000 in
set_option maxHeartbeats 4000000 in
theorem ce_C_Lt : cc_E cx_C cx_L pC_Lt := cc_plan cq_C cq_L (by decide +kernel) (by decide +kernel)
abbrev pC_HR : List Nat := [12, 13, 14, 15, 16, 17, 18, 3, 4, 1, 2]
set_option maxRecDepth 100000 in
set_option maxHeartbeats 4000000 in
theorem ce_C_HR : cc_E cx_C cx_HR pC_HR := cc_plan cq_C cq_HR (by decide +kernel) (by decide +kernel)
abbrev pC_HH : List Nat := [5, 6, 7, 8, 9, 10, 11, 12, 13, 14, 15, 16, 17, 18]
set_option maxRecDepth 100000 in
set_option maxHeartbeats 4000000 in
theorem ce_C_HH : cc_E cx_C cx_HH pC_HH := cc_plan cq_C cq_HH (by decide +kernel) (by decide +kernel)
abbrev pC_LLt : List Nat := [27, 28, 29, 30, 31, 32, 33, 34, 19, 20, 21, 22, 23, 24, 25, 26, 5, 6, 7, 8, 9, 10, 11]
set_option maxRecDepth 100000 in
set_option maxHeartbeats 4000000 in
theorem ce_C_LLt : cc_E cx_C cx_LL pC_LLt := cc_plan cq_C cq_LL (by decide +kernel) (by decide +kernel)
abbrev pC_LLu : List Nat := [19, 20, 21, 22, 23, 24, 25, 26, 27, 28, 29, 30, 31, 32, 33, 34, 5, 6, 7, 8, 9, 10, 11]
set_option maxRecDepth 100000 in
set_option maxHeartbeats 4000000 in
theorem ce_C_LLu : cc_E cx_C cx_LL pC_LLu := cc_plan cq_C cq_LL (by decide +kernel) (by decide +kernel)
abbrev pC_U : List Nat := [35, 36, 37, 38, 39, 40, 41, 42, 43, 44, 45, 46, 47, 48, 49, 50, 51, 52, 53, 54, 55, 56, 57, 58, 59, 60, 61, 62, 63, 64, 65, 66, 67, 68, 69, 70, 71, 72, 73, 74, 75, 76, 77, 78, 79, 80, 81, 82, 83, 84, 85, 86, 87, 88, 89, 90, 91, 92, 93, 94, 95, 96, 97, 98, 99, 100, 19, 20, 21, 22, 23, 24, 25, 26, 5, 6, 7, 8, 9, 10, 11]
set_option maxRecDepth 100000 in
set_option maxHeartbeats 4000000 in
theorem ce_C_U : cc_E cx_C cx_U pC_U := cc_plan cq_C cq_U (by decide +kernel) (by decide +kernel)
abbrev pC_S : List Nat := [149, 150, 151, 152, 153]
set_option maxRecDepth 100000 in
set_option maxHeartbeats 4000000 in
theorem ce_C_S : cc_E cx_C cx_S pC_S := cc_plan cq_C cq_S (by decide +kernel) (by decide +kernel)
abbrev pC_SHR : List Nat := [154, 155, 156, 157, 158, 5, 6, 7, 8, 9, 10, 11, 3, 4, 1, 2]
set_option maxRecDepth 100000 in
set_option maxHeartbeats 4000000 in
theorem ce_C_SHR : cc_E cx_C cx_SHR pC_SHR := cc_plan cq_C cq_SHR (by decide +kernel) (by decide +kernel)
abbrev pC_SS : List Nat := [149, 150, 151, 152, 153, 154, 155, 156, 157, 158]
set_option maxRecDepth 100000 in
set_option maxHeartbeats 4000000 in
theorem ce_C_SS : cc_E cx_C cx_SS pC_SS := cc_plan cq_C cq_SS (by decide +kernel) (by decide +kernel)
abbrev pC_SL : List Nat := [149, 150, 151, 152, 153, 19, 20, 21, 22, 23, 24, 25, 26, 5, 6, 7, 8, 9, 10, 11]
set_option maxRecDepth 100000 in
set_option maxHeartbeats 4000000 in
theorem ce_C_SL : cc_E cx_C cx_SL pC_SL := cc_plan cq_C cq_SL (by decide +kernel) (by decide +kernel)
abbrev pC_BHR : List Nat := [144, 145, 146, 147, 148, 5, 6, 7, 8, 9, 10, 11, 3, 4, 1, 2]
set_option maxRecDepth 100000 in
set_option maxHeartbeats 4000000 in
theorem ce_C_BHR : cc_E cx_C cx_BHR pC_BHR := cc_plan cq_C cq_BHR (by decide +kernel) (by decide +kernel)
abbrev pC_BL : List Nat := [144, 145, 146, 147, 148, 27, 28, 29, 30, 31, 32, 33, 34, 5, 6, 7, 8, 9, 10, 11]
set_option maxRecDepth 100000 in
set_option maxHeartbeats 4000000 in
theorem ce_C_BL : cc_E cx_C cx_BL pC_BL := cc_plan cq_C cq_BL (by decide +kernel) (by decide +kernel)
abbrev pC_Lo : List Nat := [159, 160, 161, 162, 163, 19, 20, 21, 22, 23, 24, 25, 26, 5, 6, 7, 8, 9, 10, 11]
set_option maxRecDepth 100000 in
set_option maxHeartbeats 4000000 in
theorem ce_C_Lo : cc_E cx_C cx_Lo pC_Lo := cc_plan cq_C cq_Lo (by decide +kernel) (by decide +kernel)
abbrev pC_LoF : List Nat := [159, 160, 161, 162, 163, 19, 20, 21, 22, 23, 24, 25, 26, 5, 6, 7, 8, 9, 10, 11, 164]
set_option maxRecDepth 100000 in
set_option maxHeartbeats 4000000 in
theorem ce_C_LoF : cc_E cx_C cx_LoF pC_LoF := cc_plan cq_C cq_LoF (by decide +kernel) (by decide +kernel)
abbrev pC_LoT : List Nat := [159, 160, 161, 162, 163, 19, 20, 21, 22, 23, 24, 25, 26, 5, 6, 7, 8, 9, 10, 11, 1, 2]
set_option maxRecDepth 100000 in
set_option maxHeartbeats 4000000 in
theorem ce_C_LoT : cc_E cx_C cx_LoT pC_LoT := cc_plan cq_C cq_LoT (by decide +kernel) (by decide +kernel)
abbrev pC_LoTF : List Nat := [159, 160, 161, 162, 163, 19, 20, 21, 22, 23, 24, 25, 26, 5, 6, 7, 8, 9, 10, 11, 1, 2, 165]
set_option maxRecDepth 100000 in
set_option maxHeartbeats 4000000 in
theorem ce_C_LoTF : cc_E cx_C cx_LoTF pC_LoTF := cc_plan cq_C cq_LoTF (by decide +kernel) (by decide +kernel)
abbrev pC_HT : List Nat := [5, 6, 7, 8, 9, 10, 11, 1, 2]
set_option maxRecDepth 100000 in
set_option maxHeartbeats 4000000 in
theorem ce_C_HT : cc_E cx_C cx_HT pC_HT := cc_plan cq_C cq_HT (by decide +kernel) (by decide +kernel)
abbrev pC_HX : List Nat := [5, 6, 7, 8, 9, 10, 11, 20]
set_option maxRecDepth 100000 in
set_option maxHeartbeats 4000000 in
theorem ce_C_HX : cc_E cx_C cx_HX pC_HX := cc_plan cq_C cq_HX (by decide +kernel) (by decide +kernel)
abbrev pC_Fl : List Nat := [164]
set_option maxRecDepth 100000 in
set_option maxHeartbeats 4000000 in
theorem ce_C_Fl : cc_E cx_C cx_F pC_Fl := cc_plan cq_C cq_F (by decide +kernel) (by decide +kernel)
abbrev pC_Ff : List Nat := [165]
set_option maxRecDepth 100000 in
set_option maxHeartbeats 4000000 in
theorem ce_C_Ff : cc_E cx_C cx_F pC_Ff := cc_plan cq_C cq_F (by decide +kernel) (by decide +kernel)
abbrev pC_HHi0 : List Nat := [103, 104, 105, 106, 107, 108, 109, 5, 6, 7, 8, 9, 10, 11]
set_option maxRecDepth 100000 in
set_option maxHeartbeats 4000000 in
theorem ce_C_HHi0 : cc_E cx_C cx_HH pC_HHi0 := cc_plan cq_C cq_HH (by decide +kernel) (by decide +kernel)
abbrev pC_LLi0 : List Nat := [110, 111, 112, 113, 114, 115, 116, 117, 19, 20, 21, 22, 23, 24, 25, 26, 5, 6, 7, 8, 9, 10, 11]
set_option maxRecDepth 100000 in
set_option maxHeartbeats 4000000 in
theorem ce_C_LLi0 : cc_E cx_C cx_LL pC_LLi0 := cc_plan cq_C cq_LL (by decide +kernel) (by decide +kernel)
abbrev pC_SSi0 : List Nat := [118, 119, 120, 121, 122, 149, 150, 151, 152, 153]
set_option maxRecDepth 100000 in
set_option maxHeartbeats 4000000 in
theorem ce_C_SSi0 : cc_E cx_C cx_SS pC_SSi0 := cc_plan cq_C cq_SS (by decide +kernel) (by decide +kernel)
abbrev pC_HHr0 : List Nat := [5, 6, 7, 8, 9, 10, 11, 103, 104, 105, 106, 107, 108, 109]
set_option maxRecDepth 100000 in
set_option maxHeartbeats 4000000 in
theorem ce_C_HHr0 : cc_E cx_C cx_HH pC_HHr0 := cc_plan cq_C cq_HH (by decide +kernel) (by decide +kernel)
abbrev pC_LLr0 : List Nat := [19, 20, 21, 22, 23, 24, 25, 26, 110, 111, 112, 113, 114, 115, 116, 117, 5, 6, 7, 8, 9, 10, 11]
set_option maxRecDepth 100000 in
set_option maxHeartbeats 4000000 in
theorem ce_C_LLr0 : cc_E cx_C cx_LL pC_LLr0 := cc_plan cq_C cq_LL (by decide +kernel) (by decide +kernel)
abbrev pC_SSr0 : List Nat := [149, 150, 151, 152, 153, 118, 119, 120, 121, 122]
set_option maxRecDepth 100000 in
set_option maxHeartbeats 4000000 in
theorem ce_C_SSr0 : cc_E cx_C cx_SS pC_SSr0 := cc_plan cq_C cq_SS (by decide +kernel) (by decide +kernel)
abbrev pC_HHi1 : List Nat := [124, 125, 126, 127, 128, 129, 130, 5, 6, 7, 8, 9, 10, 11]
set_option maxRecDepth 100000 in
set_option maxHeartbeats 4000000 in
theorem ce_C_HHi1 : cc_E cx_C cx_HH pC_HHi1 := cc_plan cq_C cq_HH (by decide +kernel) (by decide +kernel)
abbrev pC_LLi1 : List Nat := [131, 132, 133, 134, 135, 136, 137, 138, 19, 20, 21, 22, 23, 24, 25, 26, 5, 6, 7, 8, 9, 10, 11]
set_option maxRecDepth 100000 in
set_option maxHeartbeats 4000000 in
theorem ce_C_LLi1 : cc_E cx_C cx_LL pC_LLi1 := cc_plan cq_C cq_LL (by decide +kernel) (by decide +kernel)
abbrev pC_SSi1 : List Nat := [139, 140, 141, 142, 143, 149, 150, 151, 152, 153]
set_option maxRecDepth 100000 in
set_option maxHeartbeats 4000000 in
theorem ce_C_SSi1 : cc_E cx_C cx_SS pC_SSi1 := cc_plan cq_C cq_SS (by decide +kernel) (by decide +kernel)
abbrev pC_HHr1 : List Nat := [5, 6, 7, 8, 9, 10, 11, 124, 125, 126, 127, 128, 129, 130]
set_option maxRecDepth 100000 in
set_option maxHeartbeats 4000000 in
theorem ce_C_HHr1 : cc_E cx_C cx_HH pC_HHr1 := cc_plan cq_C cq_HH (by decide +kernel) (by decide +kernel)
abbrev pC_LLr1 : List Nat := [19, 20, 21, 22, 23, 24, 25, 26, 131, 132, 133, 134, 135, 136, 137, 138, 5, 6, 7, 8, 9, 10, 11]
set_option maxRecDepth 100000 in
set_option maxHeartbeats 4000000 in
theorem ce_C_LLr1 : cc_E cx_C cx_LL pC_LLr1 := cc_plan cq_C cq_LL (by decide +kernel) (by decide +kernel)
abbrev pC_SSr1 : List Nat := [149, 150, 151, 152, 153, 139, 140, 141, 142, 143]
set_option maxRecDepth 100000 in
set_option maxHeartbeats 4000000 in
theorem ce_C_SSr1 : cc_E cx_C cx_SS pC_SSr1 := cc_plan cq_C cq_SS (by decide +kernel) (by decide +kernel)
def hs_ok (b : Nat) (O A : Nat → Nat → Int) : Prop := ((0 ≤ A (b + 1) 0 ∧ A (b + 1) 0 ≤ 8) ∧ (0 ≤ A (b + 1) 1 ∧ A (b + 1) 1 ≤ 4) ∧ (0 ≤ A (b + 1) 2 ∧ A (b + 1) 2 ≤ 10)) ∧ (O b 7 = 0 ∨ O b 7 = 1) ∧ ∀ j, j < 32 → 0 ≤ A (b + 6) j
def lf_ok (b : Nat) (O A : Nat → Nat → Int) : Prop := ll_d (O b 9) (O b 10) (O b 8) ∧ ∀ j, j < 32 → 0 ≤ A (b + 6) j
def se_ok (b : Nat) (O A : Nat → Nat → Int) : Prop := (0 ≤ O b 4 ∧ O b 4 ≤ 40) ∧ ∀ j : Nat, (j : Int) < O b 4 → (A (b + 1) j = 19 ∨ A (b + 1) j = 20) → 0 ≤ A (b + 3) j ∧ A (b + 3) j ≤ 3
def cg_ok (k b : Nat) (O A : Nat → Nat → Int) : Prop := match k with
  | 0 => hs_ok b O A
  | 1 => lf_ok b O A
  | 2 => se_ok b O A
  | 3 => 0 ≤ O b 1 ∧ O b 1 ≤ 940
  | 4 => (0 ≤ O b 1 ∧ O b 1 ≤ 7) ∧ (0 ≤ O b 2 ∧ O b 2 ≤ 8)
  | 5 => 0 ≤ O b 6 ∧ O b 6 ≤ 4
  | _ => 0 ≤ O b 1
def cg_fp (k b : Nat) : List Nat := match k with
  | 0 => [b, b + 1, b + 6]
  | 1 => [b, b + 6]
  | 2 => [b, b + 1, b + 3]
  | _ => [b]
theorem cg_same {k b : Nat} {O A O' A' : Nat → Nat → Int} (he : ∀ p, p ∈ cg_fp k b → O' p = O p ∧ A' p = A p) (h : cg_ok k b O A) : cg_ok k b O' A' := by
  match k, he, h with
  | 0, he, h =>
    obtain ⟨e0, e1, e6⟩ : (O' b = O b ∧ A' b = A b) ∧ (O' (b + 1) = O (b + 1) ∧ A' (b + 1) = A (b + 1)) ∧ (O' (b + 6) = O (b + 6) ∧ A' (b + 6) = A (b + 6)) := ⟨he _ (by simp [cg_fp]), he _ (by simp [cg_fp]), he _ (by simp [cg_fp])⟩
    show hs_ok b O' A'
    unfold hs_ok
    rw [e0.1, e1.2, e6.2]
    exact h
  | 1, he, h =>
    obtain ⟨e0, e6⟩ : (O' b = O b ∧ A' b = A b) ∧ (O' (b + 6) = O (b + 6) ∧ A' (b + 6) = A (b + 6)) := ⟨he _ (by simp [cg_fp]), he _ (by simp [cg_fp])⟩
    show lf_ok b O' A'
    unfold lf_ok
    rw [e0.1, e6.2]
    exact h
  | 2, he, h =>
    obtain ⟨e0, e1, e3⟩ : (O' b = O b ∧ A' b = A b) ∧ (O' (b + 1) = O (b + 1) ∧ A' (b + 1) = A (b + 1)) ∧ (O' (b + 3) = O (b + 3) ∧ A' (b + 3) = A (b + 3)) := ⟨he _ (by simp [cg_fp]), he _ (by simp [cg_fp]), he _ (by simp [cg_fp])⟩
    show se_ok b O' A'
    unfold se_ok
    rw [e0.1, e1.2, e3.2]
    exact h
  | 3, he, h =>
    have e0 : O' b = O b := (he b (by simp [cg_fp])).1
    show 0 ≤ O' b 1 ∧ O' b 1 ≤ 940
    rw [e0]
    exact h
  | 4, he, h =>
    have e0 : O' b = O b := (he b (by simp [cg_fp])).1
    show (0 ≤ O' b 1 ∧ O' b 1 ≤ 7) ∧ (0 ≤ O' b 2 ∧ O' b 2 ≤ 8)
    rw [e0]
    exact h
  | 5, he, h =>
    have e0 : O' b = O b := (he b (by simp [cg_fp])).1
    show 0 ≤ O' b 6 ∧ O' b 6 ≤ 4
    rw [e0]
    exact h
  | k + 6, he, h =>
    have e0 : O' b = O b := (he b (by simp [cg_fp])).1
    show 0 ≤ O' b 1
    rw [e0]
    exact h
def cg_all : List (Nat × Nat) → (Nat → Nat → Int) → (Nat → Nat → Int) → Prop
  | [], _, _ => True
  | g :: r, O, A => cg_ok g.1 g.2 O A ∧ cg_all r O A
theorem cg_all.mem {T : List (Nat × Nat)} {O A : Nat → Nat → Int} (h : cg_all T O A) {g : Nat × Nat} (hg : g ∈ T) : cg_ok g.1 g.2 O A := by
  induction T with
  | nil => cases hg
  | cons q r ih =>
    rcases List.mem_cons.mp hg with rfl | hg
    · exact h.1
    · exact ih h.2 hg
def ci_G : List (Nat × Nat) := [(0, 5), (0, 103), (0, 124), (1, 19), (1, 27), (1, 37), (1, 45), (1, 53), (1, 61), (1, 69), (1, 77), (1, 85), (1, 93), (1, 110), (1, 131), (2, 118), (2, 139), (2, 149), (2, 154), (3, 1), (4, 35), (5, 159), (6, 166)]
def ci_I (O A : Nat → Nat → Int) : Prop := ∀ g, g ∈ ci_G → cg_ok g.1 g.2 O A
set_option maxRecDepth 100000 in
set_option maxHeartbeats 4000000 in
theorem ci_up {O A O' A' : Nat → Nat → Int} (h : ci_I O A) (S : List Nat) (T : List (Nat × Nat)) (he : ∀ p, p ∉ S → O' p = O p ∧ A' p = A p) (hT : (ci_G.all fun g => T.elem g || (cg_fp g.1 g.2).all fun p => !S.elem p) = true) (hg : cg_all T O' A') : ci_I O' A' := by
  intro g hgm
  have q := List.all_eq_true.mp hT g hgm
  rw [Bool.or_eq_true] at q
  rcases q with q | q
  · exact hg.mem (List.elem_iff.mp q)
  · refine cg_same (fun p hp => he p ?_) (h g hgm)
    have q2 := List.all_eq_true.mp q p hp
    intro hm
    rw [List.elem_eq_true_of_mem hm] at q2
    cases q2
set_option maxRecDepth 100000 in
set_option maxHeartbeats 4000000 in
theorem ci_at {O A O2 A2 : Nat → Nat → Int} (h : ci_I O A) (ps : List Nat) (T : List (Nat × Nat)) (hT : (ci_G.all fun g => T.elem g || (cg_fp g.1 g.2).all fun p => !ps.elem p) = true) (hg : cg_all T (cc_out O2 O ps 0) (cc_out A2 A ps 0)) : ci_I (cc_out O2 O ps 0) (cc_out A2 A ps 0) := ci_up h ps T (fun _ hp => ⟨cc_out_out hp, cc_out_out hp⟩) hT hg
/-! what stays: the tape's bytes, the reserved words, the house, the images' houses -/
abbrev ci_B : Type := (Nat → Nat → Int) × (Nat → Nat → Int)
/-- the house at b in one, the house at b' in the other: the same -/
def hcp (b : Nat) (B : ci_B) (b' : Nat) (B' : ci_B) : Prop := (B.1 b 6 = B'.1 b' 6 ∧ B.1 b 7 = B'.1 b' 7) ∧ B.2 (b + 1) = B'.2 (b' + 1) ∧ B.2 (b + 2) = B'.2 (b' + 2) ∧ B.2 (b + 3) = B'.2 (b' + 3) ∧ B.2 (b + 4) = B'.2 (b' + 4) ∧ B.2 (b + 5) = B'.2 (b' + 5) ∧ B.2 (b + 6) = B'.2 (b' + 6)
theorem hcp.rf {b : Nat} {B : ci_B} : hcp b B b B := ⟨⟨rfl, rfl⟩, rfl, rfl, rfl, rfl, rfl, rfl⟩
theorem hcp.tr {b b' b'' : Nat} {B B' B'' : ci_B} (h : hcp b B b' B') (h' : hcp b' B' b'' B'') : hcp b B b'' B'' := ⟨⟨h.1.1.trans h'.1.1, h.1.2.trans h'.1.2⟩, h.2.1.trans h'.2.1, h.2.2.1.trans h'.2.2.1, h.2.2.2.1.trans h'.2.2.2.1, h.2.2.2.2.1.trans h'.2.2.2.2.1, h.2.2.2.2.2.1.trans h'.2.2.2.2.2.1, h.2.2.2.2.2.2.trans h'.2.2.2.2.2.2⟩
def ci_fr (B : ci_B) (O A : Nat → Nat → Int) : Prop := A 2 = B.2 2 ∧ A 4 = B.2 4 ∧ hcp 5 (O, A) 5 B ∧ hcp 103 (O, A) 103 B ∧ hcp 124 (O, A) 124 B ∧ O 0 16 = B.1 0 16 ∧ O 0 17 = B.1 0 17 ∧ O 0 15 = B.1 0 15
set_option maxRecDepth 100000 in
set_option maxHeartbeats 4000000 in
theorem ci_fr.rf {O A : Nat → Nat → Int} : ci_fr (O, A) O A := ⟨rfl, rfl, hcp.rf, hcp.rf, hcp.rf, rfl, rfl, rfl⟩
def ci_pO (p : Nat) : Bool := Nat.beq p 0 || Nat.beq p 5 || Nat.beq p 103 || Nat.beq p 124
def ci_pA (p : Nat) : Bool := Nat.beq p 2 || Nat.beq p 4 || (Nat.ble 6 p && Nat.ble p 11) || (Nat.ble 104 p && Nat.ble p 109) || (Nat.ble 125 p && Nat.ble p 130)
theorem hcp.eq {b b' : Nat} {B : ci_B} {O A O' A' : Nat → Nat → Int} (h : hcp b (O, A) b' B) (e0 : O' b = O b) (e : ∀ j, 1 ≤ j → j ≤ 6 → A' (b + j) = A (b + j)) : hcp b (O', A') b' B := by
  obtain ⟨⟨a, c⟩, a1, a2, a3, a4, a5, a6⟩ := h
  exact ⟨⟨(congrFun e0 6).trans a, (congrFun e0 7).trans c⟩, (e 1 (by decide) (by decide)).trans a1, (e 2 (by decide) (by decide)).trans a2, (e 3 (by decide) (by decide)).trans a3, (e 4 (by decide) (by decide)).trans a4, (e 5 (by decide) (by decide)).trans a5, (e 6 (by decide) (by decide)).trans a6⟩
set_option maxRecDepth 100000 in
set_option maxHeartbeats 4000000 in
theorem ci_fr.eq {B : ci_B} {O A O' A' : Nat → Nat → Int} (hf : ci_fr B O A) (eO : ∀ p, ci_pO p = true → O' p = O p) (eA : ∀ p, ci_pA p = true → A' p = A p) : ci_fr B O' A' := by
  obtain ⟨h2, h4, h5, h103, h124, h16, h17, h15⟩ := hf
  refine ⟨(eA 2 rfl).trans h2, (eA 4 rfl).trans h4, h5.eq (eO 5 rfl) (fun j h1 h6 => eA _ ?_), h103.eq (eO 103 rfl) (fun j h1 h6 => eA _ ?_), h124.eq (eO 124 rfl) (fun j h1 h6 => eA _ ?_), (congrFun (eO 0 rfl) 16).trans h16, (congrFun (eO 0 rfl) 17).trans h17, (congrFun (eO 0 rfl) 15).trans h15⟩
  all_goals (rcases (show j = 1 ∨ j = 2 ∨ j = 3 ∨ j = 4 ∨ j = 5 ∨ j = 6 by omega) with rfl | rfl | rfl | rfl | rfl | rfl <;> rfl)
set_option maxRecDepth 100000 in
set_option maxHeartbeats 4000000 in
theorem ci_fr.ge {B : ci_B} {O A O2 A2 : Nat → Nat → Int} (hf : ci_fr B O A) (ps : List Nat) (k m : Nat) (hn : va_nd ps = true) (hk : ((List.range ps.length).all fun i => !(ci_pO (ps.getD i 0) || ci_pA (ps.getD i 0)) || (Nat.ble k i && Nat.blt i m)) = true) (s : ∀ i, k ≤ i → i < m → O2 i = cc_in ps O i ∧ A2 i = cc_in ps A i) : ci_fr B (cc_out O2 O ps 0) (cc_out A2 A ps 0) := by
  have key : ∀ i p, ps[i]? = some p → (ci_pO p || ci_pA p) = true → k ≤ i ∧ i < m := by
    intro i p hi hp
    have q := List.all_eq_true.mp hk i (List.mem_range.mpr (List.getElem?_eq_some_iff.mp hi).1)
    rw [kk_getD hi, hp] at q
    simp only [Bool.not_true, Bool.false_or, Bool.and_eq_true] at q
    exact ⟨Nat.le_of_ble_eq_true q.1, Nat.le_of_ble_eq_true (n := i + 1) q.2⟩
  refine hf.eq (fun p hp => ?_) (fun p hp => ?_)
  · by_cases hm : p ∈ ps
    · obtain ⟨i, hi⟩ := List.getElem?_of_mem hm
      obtain ⟨k1, k2⟩ := key i p hi (by rw [hp]; rfl)
      rw [cc_out_in hn hi, Nat.zero_add, (s i k1 k2).1]
      show O (ps.getD i 0) = O p
      rw [kk_getD hi]
    · exact cc_out_out hm
  · by_cases hm : p ∈ ps
    · obtain ⟨i, hi⟩ := List.getElem?_of_mem hm
      obtain ⟨k1, k2⟩ := key i p hi (by rw [hp, Bool.or_true])
      rw [cc_out_in hn hi, Nat.zero_add, (s i k1 k2).2]
      show A (ps.getD i 0) = A p
      rw [kk_getD hi]
    · exact cc_out_out hm
set_option maxRecDepth 100000 in
set_option maxHeartbeats 4000000 in
theorem ci_fr.far {B : ci_B} {O A O2 A2 : Nat → Nat → Int} (hf : ci_fr B O A) (ps : List Nat) (hk : (ps.all fun p => !(ci_pO p || ci_pA p)) = true) : ci_fr B (cc_out O2 O ps 0) (cc_out A2 A ps 0) := by
  refine hf.eq (fun p hp => cc_out_out (fun hm => ?_)) (fun p hp => cc_out_out (fun hm => ?_))
  · have q := List.all_eq_true.mp hk p hm
    rw [hp] at q
    cases q
  · have q := List.all_eq_true.mp hk p hm
    rw [hp, Bool.or_true] at q
    cases q
/-! with the tape's length, and which images are kept, and what stays -/
def ci_J (Bc : ci_B) (t k0 k1 : Int) (O A : Nat → Nat → Int) : Prop := ci_I O A ∧ O 1 1 = t ∧ O 102 3 = k0 ∧ O 123 3 = k1 ∧ ci_fr Bc O A
def ci_Q (Bc : ci_B) (t k0 k1 : Int) (ty : Nat) : List en_V → List kk_C → Prop := fun rs w' => ∃ O' A', w' = cx_C O' A' ∧ ci_J Bc t k0 k1 O' A' ∧ ∃ x, rs = [(ty, x)]
set_option maxRecDepth 100000 in
set_option maxHeartbeats 4000000 in
theorem ci_J.fr {Bc : ci_B} {t k0 k1 : Int} {O A : Nat → Nat → Int} (h : ci_J Bc t k0 k1 O A) : ci_fr Bc O A := h.2.2.2.2
set_option maxRecDepth 100000 in
set_option maxHeartbeats 4000000 in
theorem ci_J.self {Bc : ci_B} {t k0 k1 : Int} {O A : Nat → Nat → Int} (h : ci_J Bc t k0 k1 O A) : ci_J (O, A) t k0 k1 O A := ⟨h.1, h.2.1, h.2.2.1, h.2.2.2.1, ci_fr.rf⟩
variable {Bc : ci_B}
section CIJ
variable {t k0 k1 : Int} {O A O2 A2 : Nat → Nat → Int}
set_option maxRecDepth 100000 in
set_option maxHeartbeats 4000000 in
theorem ci_J.house (h : ci_J Bc t k0 k1 O A) : hs_ok 5 O A := h.1 (0, 5) (by decide)
set_option maxRecDepth 100000 in
set_option maxHeartbeats 4000000 in
theorem ci_J.life (h : ci_J Bc t k0 k1 O A) : lf_ok 19 O A := h.1 (1, 19) (by decide)
set_option maxRecDepth 100000 in
set_option maxHeartbeats 4000000 in
theorem ci_J.L (h : ci_J Bc t k0 k1 O A) : ll_I (cc_in pC_L O) (cc_in pC_L A) := ⟨h.house.1, h.house.2.1, h.life.2, h.life.1⟩
set_option maxRecDepth 100000 in
set_option maxHeartbeats 4000000 in
theorem ci_J.tape (h : ci_J Bc t k0 k1 O A) : 0 ≤ t ∧ t ≤ 940 := by
  have q : 0 ≤ O 1 1 ∧ O 1 1 ≤ 940 := h.1 (3, 1) (by decide)
  rw [h.2.1] at q
  exact q
set_option maxRecDepth 100000 in
set_option maxHeartbeats 4000000 in
theorem ci_J.sent (h : ci_J Bc t k0 k1 O A) : se_ok 149 O A := h.1 (2, 149) (by decide)
set_option maxRecDepth 100000 in
set_option maxHeartbeats 4000000 in
theorem ci_J.put (h : ci_J Bc t k0 k1 O A) (hI : ll_I O2 A2) (s : ∀ p, 8 ≤ p → p < 15 → O2 p = cc_in pC_L O p ∧ A2 p = cc_in pC_L A p) : ci_J Bc t k0 k1 (cc_out O2 O pC_L 0) (cc_out A2 A pC_L 0) := by
  refine ⟨ci_at h.1 pC_L [(1, 19), (0, 5)] (by decide +kernel) ⟨⟨hI.2.2.2, hI.2.2.1⟩, ⟨hI.1, hI.2.1, ?_⟩, trivial⟩, h.2.1, h.2.2.1, h.2.2.2.1, h.fr.ge pC_L 8 15 (by decide +kernel) (by decide +kernel) s⟩
  show ∀ j, j < 32 → 0 ≤ A2 14 j
  rw [(s 14 (by decide) (by decide)).2]
  exact h.house.2.2
set_option maxRecDepth 100000 in
set_option maxHeartbeats 4000000 in
theorem ci_J.U (h : ci_J Bc t k0 k1 O A) : uu_I (cc_in pC_U O) (cc_in pC_U A) := by
  have q : (0 ≤ O 35 1 ∧ O 35 1 ≤ 7) ∧ (0 ≤ O 35 2 ∧ O 35 2 ≤ 8) := h.1 (4, 35) (by decide)
  refine ⟨q.1, q.2, fun k hk => ?_, h.life⟩
  match k, hk with

  | 0, _ => exact (h.1 (1, 37) (by decide) : lf_ok 37 O A)
  | 1, _ => exact (h.1 (1, 45) (by decide) : lf_ok 45 O A)
  | 2, _ => exact (h.1 (1, 53) (by decide) : lf_ok 53 O A)
  | 3, _ => exact (h.1 (1, 61) (by decide) : lf_ok 61 O A)
  | 4, _ => exact (h.1 (1, 69) (by decide) : lf_ok 69 O A)
  | 5, _ => exact (h.1 (1, 77) (by decide) : lf_ok 77 O A)
  | 6, _ => exact (h.1 (1, 85) (by decide) : lf_ok 85 O A)
  | 7, _ => exact (h.1 (1, 93) (by decide) : lf_ok 93 O A)
set_option maxRecDepth 100000 in
set_option maxHeartbeats 4000000 in
theorem ci_J.undone (h : ci_J Bc t k0 k1 O A) (hI : uu_I O2 A2) (hP : ∀ p, 74 ≤ p → O2 p = cc_in pC_U O p ∧ A2 p = cc_in pC_U A p) : ci_J Bc t k0 k1 (cc_out O2 O pC_U 0) (cc_out A2 A pC_U 0) := by
  refine ⟨ci_at h.1 pC_U [(4, 35), (1, 37), (1, 45), (1, 53), (1, 61), (1, 69), (1, 77), (1, 85), (1, 93), (1, 19), (0, 5)] (by decide +kernel) ⟨⟨hI.1, hI.2.1⟩, hI.2.2.1 0 (by decide), hI.2.2.1 1 (by decide), hI.2.2.1 2 (by decide), hI.2.2.1 3 (by decide), hI.2.2.1 4 (by decide), hI.2.2.1 5 (by decide), hI.2.2.1 6 (by decide), hI.2.2.1 7 (by decide), hI.2.2.2, ?_, trivial⟩, h.2.1, h.2.2.1, h.2.2.2.1, h.fr.ge pC_U 74 81 (by decide +kernel) (by decide +kernel) (fun i h1 h2 => hP i h1)⟩
  have q := h.house
  refine ⟨?_, ?_, ?_⟩
  · show ((0 ≤ A2 75 0 ∧ A2 75 0 ≤ 8) ∧ (0 ≤ A2 75 1 ∧ A2 75 1 ≤ 4) ∧ (0 ≤ A2 75 2 ∧ A2 75 2 ≤ 10))
    rw [(hP 75 (by decide)).2]
    exact q.1
  · show O2 74 7 = 0 ∨ O2 74 7 = 1
    rw [(hP 74 (by decide)).1]
    exact q.2.1
  · show ∀ j, j < 32 → 0 ≤ A2 80 j
    rw [(hP 80 (by decide)).2]
    exact q.2.2
end CIJ
