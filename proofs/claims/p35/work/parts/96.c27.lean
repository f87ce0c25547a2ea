/-! THE CLASS, 27: what calls into the parts leave of the whole -/
variable {Bc : ci_B}
variable {Rs : Nat → Int}
section CJ2
variable {tl k0 k1 : Int} {O A O2 A2 : Nat → Nat → Int}
/-- the class's object with another number -/
def cu (B : ci_B) (b : Nat) (v : Int) : ci_B := (mm_up B.1 0 (kk_up (B.1 0) b v), B.2)
theorem cu_k {f g : Nat → Int} {b k : Nat} {v : Int} (h : f k = g k) : kk_up f b v k = kk_up g b v k := by
  by_cases e : k = b
  · rw [e, kk_up_eq, kk_up_eq]
  · rw [kk_up_ne e, kk_up_ne e]; exact h
set_option maxRecDepth 100000 in
set_option maxHeartbeats 4000000 in
theorem ci_J.fxc (h : ci_J Bc tl k0 k1 O A) {b : Nat} {v : Int} : ci_J (cu Bc b v) tl k0 k1 (mm_up O 0 (kk_up (O 0) b v)) A := ⟨ci_up h.1 [0] [] (fun p hp => ⟨mm_up_ne (by simpa using hp), rfl⟩) (by decide +kernel) trivial, h.2.1, h.2.2.1, h.2.2.2.1, h.fr.1, h.fr.2.1, h.fr.2.2.1, h.fr.2.2.2.1, h.fr.2.2.2.2.1, (show kk_up (O 0) b v 16 = kk_up (Bc.1 0) b v 16 from cu_k h.fr.2.2.2.2.2.1), (show kk_up (O 0) b v 17 = kk_up (Bc.1 0) b v 17 from cu_k h.fr.2.2.2.2.2.2.1), (show kk_up (O 0) b v 15 = kk_up (Bc.1 0) b v 15 from cu_k h.fr.2.2.2.2.2.2.2)⟩
set_option maxRecDepth 100000 in
set_option maxHeartbeats 4000000 in
theorem ci_J.cue {b : Nat} {v v' : Int} (h : ci_J (cu Bc b v) tl k0 k1 O A) (e : v = v') : ci_J (cu Bc b v') tl k0 k1 O A := by
  subst e
  exact h
set_option maxRecDepth 100000 in
set_option maxHeartbeats 4000000 in
theorem ci_J.len (h : ci_J Bc tl k0 k1 O A) {n : Int} (h0 : 0 ≤ n) (h9 : n ≤ 940) : ci_J Bc n k0 k1 (mm_up O 1 (kk_up (O 1) 1 n)) A := ⟨ci_up h.1 [1] [(3, 1)] (fun p hp => ⟨mm_up_ne (by simpa using hp), rfl⟩) (by decide +kernel) ⟨⟨h0, h9⟩, trivial⟩, rfl, h.2.2.1, h.2.2.2.1, h.fr⟩
set_option maxRecDepth 100000 in
set_option maxHeartbeats 4000000 in
theorem ci_J.note0 (h : ci_J Bc tl k0 k1 O A) {n : Int} (h0 : 0 ≤ n) : ci_J Bc tl k0 k1 (mm_up O 166 (kk_up (O 166) 1 n)) A := ⟨ci_up h.1 [166] [(6, 166)] (fun p hp => ⟨mm_up_ne (by simpa using hp), rfl⟩) (by decide +kernel) ⟨h0, trivial⟩, h.2.1, h.2.2.1, h.2.2.2.1, h.fr⟩
set_option maxRecDepth 100000 in
set_option maxHeartbeats 4000000 in
theorem ci_J.keep0 (h : ci_J Bc tl k0 k1 O A) {n : Int} : ci_J Bc tl n k1 (mm_up O 102 (kk_up (O 102) 3 n)) A := ⟨ci_up h.1 [102] [] (fun p hp => ⟨mm_up_ne (by simpa using hp), rfl⟩) (by decide +kernel) trivial, h.2.1, rfl, h.2.2.2.1, h.fr⟩
set_option maxRecDepth 100000 in
set_option maxHeartbeats 4000000 in
theorem ci_J.keep1 (h : ci_J Bc tl k0 k1 O A) {n : Int} : ci_J Bc tl k0 n (mm_up O 123 (kk_up (O 123) 3 n)) A := ⟨ci_up h.1 [123] [] (fun p hp => ⟨mm_up_ne (by simpa using hp), rfl⟩) (by decide +kernel) trivial, h.2.1, h.2.2.1, rfl, h.fr⟩
set_option maxRecDepth 100000 in
set_option maxHeartbeats 4000000 in
theorem ci_J.note (h : ci_J Bc tl k0 k1 O A) (hn : 0 ≤ O2 0 1) : ci_J Bc tl k0 k1 (cc_out O2 O pC_N 0) (cc_out A2 A pC_N 0) := by
  refine ⟨ci_at h.1 pC_N [(6, 166)] (by decide +kernel) ⟨?_, trivial⟩, h.2.1, h.2.2.1, h.2.2.2.1, h.fr.far pC_N (by decide +kernel)⟩
  · show 0 ≤ O2 0 1
    exact hn
set_option maxRecDepth 100000 in
set_option maxHeartbeats 4000000 in
theorem ci_J.add4 (h : ci_J Bc tl k0 k1 O A) (e : O2 0 1 = cc_in pC_T O 0 1 + 4) {f : Nat → Int} (ea : A2 1 = f) (h9 : tl ≤ 936) : ci_J (Bc.1, mm_up Bc.2 2 f) (tl + 4) k0 k1 (cc_out O2 O pC_T 0) (cc_out A2 A pC_T 0) := by
  have e1 : O2 0 1 = tl + 4 := by
    rw [e]
    show O 1 1 + 4 = tl + 4
    rw [h.2.1]
  have q := h.tape
  exact ⟨ci_at h.1 pC_T [(3, 1)] (by decide +kernel) ⟨(show 0 ≤ O2 0 1 ∧ O2 0 1 ≤ 940 by omega), trivial⟩, e1, h.2.2.1, h.2.2.2.1, ea, h.fr.2.1, h.fr.2.2⟩
set_option maxRecDepth 100000 in
set_option maxHeartbeats 4000000 in
theorem ci_J.rdH (h : ci_J Bc tl k0 k1 O A) (hr : hr_J (O 1) (A 2) (A 4) O2 A2) : ci_J Bc tl k0 k1 (cc_out O2 O pC_HR 0) (cc_out A2 A pC_HR 0) ∧ hs_ok 12 (cc_out O2 O pC_HR 0) (cc_out A2 A pC_HR 0) := by
  refine ⟨⟨ci_at h.1 pC_HR [(3, 1)] (by decide +kernel) ⟨?_, trivial⟩, ?_, h.2.2.1, h.2.2.2.1, hr.2.2.2.2.1.trans h.fr.1, hr.2.2.2.2.2.2.trans h.fr.2.1, h.fr.2.2⟩, ⟨hr.1, hr.2.2.1, hr.2.1⟩⟩
  · show 0 ≤ O2 9 1 ∧ O2 9 1 ≤ 940
    rw [hr.2.2.2.1]
    exact hr.2.2.2.2.2.1
  · show O2 9 1 = tl
    rw [hr.2.2.2.1]
    exact h.2.1
/-- what became of the houses -/
def ci_mvcpH (B X B' : ci_B) : Prop := B'.2 2 = B.2 2 ∧ B'.2 4 = B.2 4 ∧ hcp 5 B' 12 X ∧ hcp 103 B' 103 B ∧ hcp 124 B' 124 B ∧ (B'.1 0 16 = B.1 0 16 ∧ B'.1 0 17 = B.1 0 17 ∧ B'.1 0 15 = B.1 0 15)
set_option maxRecDepth 100000 in
set_option maxHeartbeats 4000000 in
theorem ci_J.cpH (h : ci_J Bc tl k0 k1 O A) (hd : hs_ok 12 O A) (c1 : ∀ p, p < 7 → 0 < p → A2 p = cc_in pC_HH A (7 + p)) (o1 : O2 0 7 = cc_in pC_HH O 7 7 ∧ O2 0 6 = cc_in pC_HH O 7 6) : ci_J (cc_out O2 O pC_HH 0, cc_out A2 A pC_HH 0) tl k0 k1 (cc_out O2 O pC_HH 0) (cc_out A2 A pC_HH 0) ∧ ci_mvcpH Bc (O, A) (cc_out O2 O pC_HH 0, cc_out A2 A pC_HH 0) := by
  obtain ⟨f2, f4, f5, f103, f124, fs⟩ := h.fr
  refine ⟨⟨ci_at h.1 pC_HH [(0, 5)] (by decide +kernel) ⟨⟨?_, ?_, ?_⟩, trivial⟩, h.2.1, h.2.2.1, h.2.2.2.1, ci_fr.rf⟩, f2, f4, ⟨⟨o1.2, o1.1⟩, c1 1 (by decide) (by decide), c1 2 (by decide) (by decide), c1 3 (by decide) (by decide), c1 4 (by decide) (by decide), c1 5 (by decide) (by decide), c1 6 (by decide) (by decide)⟩, f103, f124, fs⟩
  · show (0 ≤ A2 1 0 ∧ A2 1 0 ≤ 8) ∧ (0 ≤ A2 1 1 ∧ A2 1 1 ≤ 4) ∧ (0 ≤ A2 1 2 ∧ A2 1 2 ≤ 10)
    rw [c1 1 (by decide) (by decide)]
    exact hd.1
  · show O2 0 7 = 0 ∨ O2 0 7 = 1
    rw [o1.1]
    exact hd.2.1
  · show ∀ j, j < 32 → 0 ≤ A2 6 j
    rw [c1 6 (by decide) (by decide)]
    exact hd.2.2
/-- what became of the houses -/
def ci_mvhhi0 (B X B' : ci_B) : Prop := B'.2 2 = B.2 2 ∧ B'.2 4 = B.2 4 ∧ hcp 5 B' 5 B ∧ hcp 103 B' 5 B ∧ hcp 124 B' 124 B ∧ (B'.1 0 16 = B.1 0 16 ∧ B'.1 0 17 = B.1 0 17 ∧ B'.1 0 15 = B.1 0 15)
set_option maxRecDepth 100000 in
set_option maxHeartbeats 4000000 in
theorem ci_J.hhi0 (h : ci_J Bc tl k0 k1 O A) (c1 : ∀ p, p < 7 → 0 < p → A2 p = cc_in pC_HHi0 A (7 + p)) (c2 : ∀ p, 7 ≤ p → p < 14 → A2 p = cc_in pC_HHi0 A p) (o1 : O2 0 7 = cc_in pC_HHi0 O 7 7 ∧ O2 0 6 = cc_in pC_HHi0 O 7 6) (o2 : O2 7 = cc_in pC_HHi0 O 7) : ci_J (cc_out O2 O pC_HHi0 0, cc_out A2 A pC_HHi0 0) tl k0 k1 (cc_out O2 O pC_HHi0 0) (cc_out A2 A pC_HHi0 0) ∧ ci_mvhhi0 Bc (O, A) (cc_out O2 O pC_HHi0 0, cc_out A2 A pC_HHi0 0) := by
  have q : hs_ok 5 O A := h.1 (0, 5) (by decide)
  obtain ⟨f2, f4, f5, f103, f124, fs⟩ := h.fr
  refine ⟨⟨ci_at h.1 pC_HHi0 [(0, 103), (0, 5)] (by decide +kernel) ⟨⟨?_, ?_, ?_⟩, ⟨?_, ?_, ?_⟩, trivial⟩, h.2.1, h.2.2.1, h.2.2.2.1, ci_fr.rf⟩, f2, f4, ⟨⟨(congrFun o2 6).trans f5.1.1, (congrFun o2 7).trans f5.1.2⟩, (c2 8 (by decide) (by decide)).trans f5.2.1, (c2 9 (by decide) (by decide)).trans f5.2.2.1, (c2 10 (by decide) (by decide)).trans f5.2.2.2.1, (c2 11 (by decide) (by decide)).trans f5.2.2.2.2.1, (c2 12 (by decide) (by decide)).trans f5.2.2.2.2.2.1, (c2 13 (by decide) (by decide)).trans f5.2.2.2.2.2.2⟩, ⟨⟨o1.2.trans f5.1.1, o1.1.trans f5.1.2⟩, (c1 1 (by decide) (by decide)).trans f5.2.1, (c1 2 (by decide) (by decide)).trans f5.2.2.1, (c1 3 (by decide) (by decide)).trans f5.2.2.2.1, (c1 4 (by decide) (by decide)).trans f5.2.2.2.2.1, (c1 5 (by decide) (by decide)).trans f5.2.2.2.2.2.1, (c1 6 (by decide) (by decide)).trans f5.2.2.2.2.2.2⟩, f124, fs⟩
  · show (0 ≤ A2 1 0 ∧ A2 1 0 ≤ 8) ∧ (0 ≤ A2 1 1 ∧ A2 1 1 ≤ 4) ∧ (0 ≤ A2 1 2 ∧ A2 1 2 ≤ 10)
    rw [c1 1 (by decide) (by decide)]
    exact q.1
  · show O2 0 7 = 0 ∨ O2 0 7 = 1
    rw [o1.1]
    exact q.2.1
  · show ∀ j, j < 32 → 0 ≤ A2 6 j
    rw [c1 6 (by decide) (by decide)]
    exact q.2.2
  · show (0 ≤ A2 8 0 ∧ A2 8 0 ≤ 8) ∧ (0 ≤ A2 8 1 ∧ A2 8 1 ≤ 4) ∧ (0 ≤ A2 8 2 ∧ A2 8 2 ≤ 10)
    rw [c2 8 (by decide) (by decide)]
    exact q.1
  · show O2 7 7 = 0 ∨ O2 7 7 = 1
    rw [o2]
    exact q.2.1
  · show ∀ j, j < 32 → 0 ≤ A2 13 j
    rw [c2 13 (by decide) (by decide)]
    exact q.2.2
/-- what became of the houses -/
def ci_mvhhr0 (B X B' : ci_B) : Prop := B'.2 2 = B.2 2 ∧ B'.2 4 = B.2 4 ∧ hcp 5 B' 103 B ∧ hcp 103 B' 103 B ∧ hcp 124 B' 124 B ∧ (B'.1 0 16 = B.1 0 16 ∧ B'.1 0 17 = B.1 0 17 ∧ B'.1 0 15 = B.1 0 15)
set_option maxRecDepth 100000 in
set_option maxHeartbeats 4000000 in
theorem ci_J.hhr0 (h : ci_J Bc tl k0 k1 O A) (c1 : ∀ p, p < 7 → 0 < p → A2 p = cc_in pC_HHr0 A (7 + p)) (c2 : ∀ p, 7 ≤ p → p < 14 → A2 p = cc_in pC_HHr0 A p) (o1 : O2 0 7 = cc_in pC_HHr0 O 7 7 ∧ O2 0 6 = cc_in pC_HHr0 O 7 6) (o2 : O2 7 = cc_in pC_HHr0 O 7) : ci_J (cc_out O2 O pC_HHr0 0, cc_out A2 A pC_HHr0 0) tl k0 k1 (cc_out O2 O pC_HHr0 0) (cc_out A2 A pC_HHr0 0) ∧ ci_mvhhr0 Bc (O, A) (cc_out O2 O pC_HHr0 0, cc_out A2 A pC_HHr0 0) := by
  have q : hs_ok 103 O A := h.1 (0, 103) (by decide)
  obtain ⟨f2, f4, f5, f103, f124, fs⟩ := h.fr
  refine ⟨⟨ci_at h.1 pC_HHr0 [(0, 5), (0, 103)] (by decide +kernel) ⟨⟨?_, ?_, ?_⟩, ⟨?_, ?_, ?_⟩, trivial⟩, h.2.1, h.2.2.1, h.2.2.2.1, ci_fr.rf⟩, f2, f4, ⟨⟨o1.2.trans f103.1.1, o1.1.trans f103.1.2⟩, (c1 1 (by decide) (by decide)).trans f103.2.1, (c1 2 (by decide) (by decide)).trans f103.2.2.1, (c1 3 (by decide) (by decide)).trans f103.2.2.2.1, (c1 4 (by decide) (by decide)).trans f103.2.2.2.2.1, (c1 5 (by decide) (by decide)).trans f103.2.2.2.2.2.1, (c1 6 (by decide) (by decide)).trans f103.2.2.2.2.2.2⟩, ⟨⟨(congrFun o2 6).trans f103.1.1, (congrFun o2 7).trans f103.1.2⟩, (c2 8 (by decide) (by decide)).trans f103.2.1, (c2 9 (by decide) (by decide)).trans f103.2.2.1, (c2 10 (by decide) (by decide)).trans f103.2.2.2.1, (c2 11 (by decide) (by decide)).trans f103.2.2.2.2.1, (c2 12 (by decide) (by decide)).trans f103.2.2.2.2.2.1, (c2 13 (by decide) (by decide)).trans f103.2.2.2.2.2.2⟩, f124, fs⟩
  · show (0 ≤ A2 1 0 ∧ A2 1 0 ≤ 8) ∧ (0 ≤ A2 1 1 ∧ A2 1 1 ≤ 4) ∧ (0 ≤ A2 1 2 ∧ A2 1 2 ≤ 10)
    rw [c1 1 (by decide) (by decide)]
    exact q.1
  · show O2 0 7 = 0 ∨ O2 0 7 = 1
    rw [o1.1]
    exact q.2.1
  · show ∀ j, j < 32 → 0 ≤ A2 6 j
    rw [c1 6 (by decide) (by decide)]
    exact q.2.2
  · show (0 ≤ A2 8 0 ∧ A2 8 0 ≤ 8) ∧ (0 ≤ A2 8 1 ∧ A2 8 1 ≤ 4) ∧ (0 ≤ A2 8 2 ∧ A2 8 2 ≤ 10)
    rw [c2 8 (by decide) (by decide)]
    exact q.1
  · show O2 7 7 = 0 ∨ O2 7 7 = 1
    rw [o2]
    exact q.2.1
  · show ∀ j, j < 32 → 0 ≤ A2 13 j
    rw [c2 13 (by decide) (by decide)]
    exact q.2.2
/-- what became of the houses -/
def ci_mvhhi1 (B X B' : ci_B) : Prop := B'.2 2 = B.2 2 ∧ B'.2 4 = B.2 4 ∧ hcp 5 B' 5 B ∧ hcp 103 B' 103 B ∧ hcp 124 B' 5 B ∧ (B'.1 0 16 = B.1 0 16 ∧ B'.1 0 17 = B.1 0 17 ∧ B'.1 0 15 = B.1 0 15)
set_option maxRecDepth 100000 in
set_option maxHeartbeats 4000000 in
theorem ci_J.hhi1 (h : ci_J Bc tl k0 k1 O A) (c1 : ∀ p, p < 7 → 0 < p → A2 p = cc_in pC_HHi1 A (7 + p)) (c2 : ∀ p, 7 ≤ p → p < 14 → A2 p = cc_in pC_HHi1 A p) (o1 : O2 0 7 = cc_in pC_HHi1 O 7 7 ∧ O2 0 6 = cc_in pC_HHi1 O 7 6) (o2 : O2 7 = cc_in pC_HHi1 O 7) : ci_J (cc_out O2 O pC_HHi1 0, cc_out A2 A pC_HHi1 0) tl k0 k1 (cc_out O2 O pC_HHi1 0) (cc_out A2 A pC_HHi1 0) ∧ ci_mvhhi1 Bc (O, A) (cc_out O2 O pC_HHi1 0, cc_out A2 A pC_HHi1 0) := by
  have q : hs_ok 5 O A := h.1 (0, 5) (by decide)
  obtain ⟨f2, f4, f5, f103, f124, fs⟩ := h.fr
  refine ⟨⟨ci_at h.1 pC_HHi1 [(0, 124), (0, 5)] (by decide +kernel) ⟨⟨?_, ?_, ?_⟩, ⟨?_, ?_, ?_⟩, trivial⟩, h.2.1, h.2.2.1, h.2.2.2.1, ci_fr.rf⟩, f2, f4, ⟨⟨(congrFun o2 6).trans f5.1.1, (congrFun o2 7).trans f5.1.2⟩, (c2 8 (by decide) (by decide)).trans f5.2.1, (c2 9 (by decide) (by decide)).trans f5.2.2.1, (c2 10 (by decide) (by decide)).trans f5.2.2.2.1, (c2 11 (by decide) (by decide)).trans f5.2.2.2.2.1, (c2 12 (by decide) (by decide)).trans f5.2.2.2.2.2.1, (c2 13 (by decide) (by decide)).trans f5.2.2.2.2.2.2⟩, f103, ⟨⟨o1.2.trans f5.1.1, o1.1.trans f5.1.2⟩, (c1 1 (by decide) (by decide)).trans f5.2.1, (c1 2 (by decide) (by decide)).trans f5.2.2.1, (c1 3 (by decide) (by decide)).trans f5.2.2.2.1, (c1 4 (by decide) (by decide)).trans f5.2.2.2.2.1, (c1 5 (by decide) (by decide)).trans f5.2.2.2.2.2.1, (c1 6 (by decide) (by decide)).trans f5.2.2.2.2.2.2⟩, fs⟩
  · show (0 ≤ A2 1 0 ∧ A2 1 0 ≤ 8) ∧ (0 ≤ A2 1 1 ∧ A2 1 1 ≤ 4) ∧ (0 ≤ A2 1 2 ∧ A2 1 2 ≤ 10)
    rw [c1 1 (by decide) (by decide)]
    exact q.1
  · show O2 0 7 = 0 ∨ O2 0 7 = 1
    rw [o1.1]
    exact q.2.1
  · show ∀ j, j < 32 → 0 ≤ A2 6 j
    rw [c1 6 (by decide) (by decide)]
    exact q.2.2
  · show (0 ≤ A2 8 0 ∧ A2 8 0 ≤ 8) ∧ (0 ≤ A2 8 1 ∧ A2 8 1 ≤ 4) ∧ (0 ≤ A2 8 2 ∧ A2 8 2 ≤ 10)
    rw [c2 8 (by decide) (by decide)]
    exact q.1
  · show O2 7 7 = 0 ∨ O2 7 7 = 1
    rw [o2]
    exact q.2.1
  · show ∀ j, j < 32 → 0 ≤ A2 13 j
    rw [c2 13 (by decide) (by decide)]
    exact q.2.2
/-- what became of the houses -/
def ci_mvhhr1 (B X B' : ci_B) : Prop := B'.2 2 = B.2 2 ∧ B'.2 4 = B.2 4 ∧ hcp 5 B' 124 B ∧ hcp 103 B' 103 B ∧ hcp 124 B' 124 B ∧ (B'.1 0 16 = B.1 0 16 ∧ B'.1 0 17 = B.1 0 17 ∧ B'.1 0 15 = B.1 0 15)
set_option maxRecDepth 100000 in
set_option maxHeartbeats 4000000 in
theorem ci_J.hhr1 (h : ci_J Bc tl k0 k1 O A) (c1 : ∀ p, p < 7 → 0 < p → A2 p = cc_in pC_HHr1 A (7 + p)) (c2 : ∀ p, 7 ≤ p → p < 14 → A2 p = cc_in pC_HHr1 A p) (o1 : O2 0 7 = cc_in pC_HHr1 O 7 7 ∧ O2 0 6 = cc_in pC_HHr1 O 7 6) (o2 : O2 7 = cc_in pC_HHr1 O 7) : ci_J (cc_out O2 O pC_HHr1 0, cc_out A2 A pC_HHr1 0) tl k0 k1 (cc_out O2 O pC_HHr1 0) (cc_out A2 A pC_HHr1 0) ∧ ci_mvhhr1 Bc (O, A) (cc_out O2 O pC_HHr1 0, cc_out A2 A pC_HHr1 0) := by
  have q : hs_ok 124 O A := h.1 (0, 124) (by decide)
  obtain ⟨f2, f4, f5, f103, f124, fs⟩ := h.fr
  refine ⟨⟨ci_at h.1 pC_HHr1 [(0, 5), (0, 124)] (by decide +kernel) ⟨⟨?_, ?_, ?_⟩, ⟨?_, ?_, ?_⟩, trivial⟩, h.2.1, h.2.2.1, h.2.2.2.1, ci_fr.rf⟩, f2, f4, ⟨⟨o1.2.trans f124.1.1, o1.1.trans f124.1.2⟩, (c1 1 (by decide) (by decide)).trans f124.2.1, (c1 2 (by decide) (by decide)).trans f124.2.2.1, (c1 3 (by decide) (by decide)).trans f124.2.2.2.1, (c1 4 (by decide) (by decide)).trans f124.2.2.2.2.1, (c1 5 (by decide) (by decide)).trans f124.2.2.2.2.2.1, (c1 6 (by decide) (by decide)).trans f124.2.2.2.2.2.2⟩, f103, ⟨⟨(congrFun o2 6).trans f124.1.1, (congrFun o2 7).trans f124.1.2⟩, (c2 8 (by decide) (by decide)).trans f124.2.1, (c2 9 (by decide) (by decide)).trans f124.2.2.1, (c2 10 (by decide) (by decide)).trans f124.2.2.2.1, (c2 11 (by decide) (by decide)).trans f124.2.2.2.2.1, (c2 12 (by decide) (by decide)).trans f124.2.2.2.2.2.1, (c2 13 (by decide) (by decide)).trans f124.2.2.2.2.2.2⟩, fs⟩
  · show (0 ≤ A2 1 0 ∧ A2 1 0 ≤ 8) ∧ (0 ≤ A2 1 1 ∧ A2 1 1 ≤ 4) ∧ (0 ≤ A2 1 2 ∧ A2 1 2 ≤ 10)
    rw [c1 1 (by decide) (by decide)]
    exact q.1
  · show O2 0 7 = 0 ∨ O2 0 7 = 1
    rw [o1.1]
    exact q.2.1
  · show ∀ j, j < 32 → 0 ≤ A2 6 j
    rw [c1 6 (by decide) (by decide)]
    exact q.2.2
  · show (0 ≤ A2 8 0 ∧ A2 8 0 ≤ 8) ∧ (0 ≤ A2 8 1 ∧ A2 8 1 ≤ 4) ∧ (0 ≤ A2 8 2 ∧ A2 8 2 ≤ 10)
    rw [c2 8 (by decide) (by decide)]
    exact q.1
  · show O2 7 7 = 0 ∨ O2 7 7 = 1
    rw [o2]
    exact q.2.1
  · show ∀ j, j < 32 → 0 ≤ A2 13 j
    rw [c2 13 (by decide) (by decide)]
    exact q.2.2
set_option maxRecDepth 100000 in
set_option maxHeartbeats 4000000 in
theorem ci_J.llt (h : ci_J Bc tl k0 k1 O A) (c : A2 6 = cc_in pC_LLt A 14) (o : O2 0 8 = cc_in pC_LLt O 8 8 ∧ O2 0 9 = cc_in pC_LLt O 8 9 ∧ O2 0 10 = cc_in pC_LLt O 8 10) (s : ∀ p, 8 ≤ p → p < 23 → O2 p = cc_in pC_LLt O p ∧ A2 p = cc_in pC_LLt A p) : ci_J Bc tl k0 k1 (cc_out O2 O pC_LLt 0) (cc_out A2 A pC_LLt 0) := by
  have q : lf_ok 19 O A := h.1 (1, 19) (by decide)
  refine ⟨ci_at h.1 pC_LLt [(1, 27), (1, 19), (0, 5)] (by decide +kernel) ⟨⟨?_, ?_⟩, ⟨?_, ?_⟩, ⟨?_, ?_, ?_⟩, trivial⟩, h.2.1, h.2.2.1, h.2.2.2.1, h.fr.ge pC_LLt 16 23 (by decide +kernel) (by decide +kernel) (fun i h1 h2 => s i (by omega) h2)⟩
  · show ll_d (O2 0 9) (O2 0 10) (O2 0 8)
    rw [o.1, o.2.1, o.2.2]
    exact q.1
  · show ∀ j, j < 32 → 0 ≤ A2 6 j
    rw [c]
    exact q.2
  · show ll_d (O2 8 9) (O2 8 10) (O2 8 8)
    rw [(s 8 (by decide) (by decide)).1]
    exact q.1
  · show ∀ j, j < 32 → 0 ≤ A2 14 j
    rw [(s 14 (by decide) (by decide)).2]
    exact q.2
  · show (0 ≤ A2 17 0 ∧ A2 17 0 ≤ 8) ∧ (0 ≤ A2 17 1 ∧ A2 17 1 ≤ 4) ∧ (0 ≤ A2 17 2 ∧ A2 17 2 ≤ 10)
    rw [(s 17 (by decide) (by decide)).2]
    exact h.house.1
  · show O2 16 7 = 0 ∨ O2 16 7 = 1
    rw [(s 16 (by decide) (by decide)).1]
    exact h.house.2.1
  · show ∀ j, j < 32 → 0 ≤ A2 22 j
    rw [(s 22 (by decide) (by decide)).2]
    exact h.house.2.2
set_option maxRecDepth 100000 in
set_option maxHeartbeats 4000000 in
theorem ci_J.llu (h : ci_J Bc tl k0 k1 O A) (c : A2 6 = cc_in pC_LLu A 14) (o : O2 0 8 = cc_in pC_LLu O 8 8 ∧ O2 0 9 = cc_in pC_LLu O 8 9 ∧ O2 0 10 = cc_in pC_LLu O 8 10) (s : ∀ p, 8 ≤ p → p < 23 → O2 p = cc_in pC_LLu O p ∧ A2 p = cc_in pC_LLu A p) : ci_J Bc tl k0 k1 (cc_out O2 O pC_LLu 0) (cc_out A2 A pC_LLu 0) := by
  have q : lf_ok 27 O A := h.1 (1, 27) (by decide)
  refine ⟨ci_at h.1 pC_LLu [(1, 19), (1, 27), (0, 5)] (by decide +kernel) ⟨⟨?_, ?_⟩, ⟨?_, ?_⟩, ⟨?_, ?_, ?_⟩, trivial⟩, h.2.1, h.2.2.1, h.2.2.2.1, h.fr.ge pC_LLu 16 23 (by decide +kernel) (by decide +kernel) (fun i h1 h2 => s i (by omega) h2)⟩
  · show ll_d (O2 0 9) (O2 0 10) (O2 0 8)
    rw [o.1, o.2.1, o.2.2]
    exact q.1
  · show ∀ j, j < 32 → 0 ≤ A2 6 j
    rw [c]
    exact q.2
  · show ll_d (O2 8 9) (O2 8 10) (O2 8 8)
    rw [(s 8 (by decide) (by decide)).1]
    exact q.1
  · show ∀ j, j < 32 → 0 ≤ A2 14 j
    rw [(s 14 (by decide) (by decide)).2]
    exact q.2
  · show (0 ≤ A2 17 0 ∧ A2 17 0 ≤ 8) ∧ (0 ≤ A2 17 1 ∧ A2 17 1 ≤ 4) ∧ (0 ≤ A2 17 2 ∧ A2 17 2 ≤ 10)
    rw [(s 17 (by decide) (by decide)).2]
    exact h.house.1
  · show O2 16 7 = 0 ∨ O2 16 7 = 1
    rw [(s 16 (by decide) (by decide)).1]
    exact h.house.2.1
  · show ∀ j, j < 32 → 0 ≤ A2 22 j
    rw [(s 22 (by decide) (by decide)).2]
    exact h.house.2.2
set_option maxRecDepth 100000 in
set_option maxHeartbeats 4000000 in
theorem ci_J.lli0 (h : ci_J Bc tl k0 k1 O A) (c : A2 6 = cc_in pC_LLi0 A 14) (o : O2 0 8 = cc_in pC_LLi0 O 8 8 ∧ O2 0 9 = cc_in pC_LLi0 O 8 9 ∧ O2 0 10 = cc_in pC_LLi0 O 8 10) (s : ∀ p, 8 ≤ p → p < 23 → O2 p = cc_in pC_LLi0 O p ∧ A2 p = cc_in pC_LLi0 A p) : ci_J Bc tl k0 k1 (cc_out O2 O pC_LLi0 0) (cc_out A2 A pC_LLi0 0) := by
  have q : lf_ok 19 O A := h.1 (1, 19) (by decide)
  refine ⟨ci_at h.1 pC_LLi0 [(1, 110), (1, 19), (0, 5)] (by decide +kernel) ⟨⟨?_, ?_⟩, ⟨?_, ?_⟩, ⟨?_, ?_, ?_⟩, trivial⟩, h.2.1, h.2.2.1, h.2.2.2.1, h.fr.ge pC_LLi0 16 23 (by decide +kernel) (by decide +kernel) (fun i h1 h2 => s i (by omega) h2)⟩
  · show ll_d (O2 0 9) (O2 0 10) (O2 0 8)
    rw [o.1, o.2.1, o.2.2]
    exact q.1
  · show ∀ j, j < 32 → 0 ≤ A2 6 j
    rw [c]
    exact q.2
  · show ll_d (O2 8 9) (O2 8 10) (O2 8 8)
    rw [(s 8 (by decide) (by decide)).1]
    exact q.1
  · show ∀ j, j < 32 → 0 ≤ A2 14 j
    rw [(s 14 (by decide) (by decide)).2]
    exact q.2
  · show (0 ≤ A2 17 0 ∧ A2 17 0 ≤ 8) ∧ (0 ≤ A2 17 1 ∧ A2 17 1 ≤ 4) ∧ (0 ≤ A2 17 2 ∧ A2 17 2 ≤ 10)
    rw [(s 17 (by decide) (by decide)).2]
    exact h.house.1
  · show O2 16 7 = 0 ∨ O2 16 7 = 1
    rw [(s 16 (by decide) (by decide)).1]
    exact h.house.2.1
  · show ∀ j, j < 32 → 0 ≤ A2 22 j
    rw [(s 22 (by decide) (by decide)).2]
    exact h.house.2.2
set_option maxRecDepth 100000 in
set_option maxHeartbeats 4000000 in
theorem ci_J.llr0 (h : ci_J Bc tl k0 k1 O A) (c : A2 6 = cc_in pC_LLr0 A 14) (o : O2 0 8 = cc_in pC_LLr0 O 8 8 ∧ O2 0 9 = cc_in pC_LLr0 O 8 9 ∧ O2 0 10 = cc_in pC_LLr0 O 8 10) (s : ∀ p, 8 ≤ p → p < 23 → O2 p = cc_in pC_LLr0 O p ∧ A2 p = cc_in pC_LLr0 A p) : ci_J Bc tl k0 k1 (cc_out O2 O pC_LLr0 0) (cc_out A2 A pC_LLr0 0) := by
  have q : lf_ok 110 O A := h.1 (1, 110) (by decide)
  refine ⟨ci_at h.1 pC_LLr0 [(1, 19), (1, 110), (0, 5)] (by decide +kernel) ⟨⟨?_, ?_⟩, ⟨?_, ?_⟩, ⟨?_, ?_, ?_⟩, trivial⟩, h.2.1, h.2.2.1, h.2.2.2.1, h.fr.ge pC_LLr0 16 23 (by decide +kernel) (by decide +kernel) (fun i h1 h2 => s i (by omega) h2)⟩
  · show ll_d (O2 0 9) (O2 0 10) (O2 0 8)
    rw [o.1, o.2.1, o.2.2]
    exact q.1
  · show ∀ j, j < 32 → 0 ≤ A2 6 j
    rw [c]
    exact q.2
  · show ll_d (O2 8 9) (O2 8 10) (O2 8 8)
    rw [(s 8 (by decide) (by decide)).1]
    exact q.1
  · show ∀ j, j < 32 → 0 ≤ A2 14 j
    rw [(s 14 (by decide) (by decide)).2]
    exact q.2
  · show (0 ≤ A2 17 0 ∧ A2 17 0 ≤ 8) ∧ (0 ≤ A2 17 1 ∧ A2 17 1 ≤ 4) ∧ (0 ≤ A2 17 2 ∧ A2 17 2 ≤ 10)
    rw [(s 17 (by decide) (by decide)).2]
    exact h.house.1
  · show O2 16 7 = 0 ∨ O2 16 7 = 1
    rw [(s 16 (by decide) (by decide)).1]
    exact h.house.2.1
  · show ∀ j, j < 32 → 0 ≤ A2 22 j
    rw [(s 22 (by decide) (by decide)).2]
    exact h.house.2.2
set_option maxRecDepth 100000 in
set_option maxHeartbeats 4000000 in
theorem ci_J.lli1 (h : ci_J Bc tl k0 k1 O A) (c : A2 6 = cc_in pC_LLi1 A 14) (o : O2 0 8 = cc_in pC_LLi1 O 8 8 ∧ O2 0 9 = cc_in pC_LLi1 O 8 9 ∧ O2 0 10 = cc_in pC_LLi1 O 8 10) (s : ∀ p, 8 ≤ p → p < 23 → O2 p = cc_in pC_LLi1 O p ∧ A2 p = cc_in pC_LLi1 A p) : ci_J Bc tl k0 k1 (cc_out O2 O pC_LLi1 0) (cc_out A2 A pC_LLi1 0) := by
  have q : lf_ok 19 O A := h.1 (1, 19) (by decide)
  refine ⟨ci_at h.1 pC_LLi1 [(1, 131), (1, 19), (0, 5)] (by decide +kernel) ⟨⟨?_, ?_⟩, ⟨?_, ?_⟩, ⟨?_, ?_, ?_⟩, trivial⟩, h.2.1, h.2.2.1, h.2.2.2.1, h.fr.ge pC_LLi1 16 23 (by decide +kernel) (by decide +kernel) (fun i h1 h2 => s i (by omega) h2)⟩
  · show ll_d (O2 0 9) (O2 0 10) (O2 0 8)
    rw [o.1, o.2.1, o.2.2]
    exact q.1
  · show ∀ j, j < 32 → 0 ≤ A2 6 j
    rw [c]
    exact q.2
  · show ll_d (O2 8 9) (O2 8 10) (O2 8 8)
    rw [(s 8 (by decide) (by decide)).1]
    exact q.1
  · show ∀ j, j < 32 → 0 ≤ A2 14 j
    rw [(s 14 (by decide) (by decide)).2]
    exact q.2
  · show (0 ≤ A2 17 0 ∧ A2 17 0 ≤ 8) ∧ (0 ≤ A2 17 1 ∧ A2 17 1 ≤ 4) ∧ (0 ≤ A2 17 2 ∧ A2 17 2 ≤ 10)
    rw [(s 17 (by decide) (by decide)).2]
    exact h.house.1
  · show O2 16 7 = 0 ∨ O2 16 7 = 1
    rw [(s 16 (by decide) (by decide)).1]
    exact h.house.2.1
  · show ∀ j, j < 32 → 0 ≤ A2 22 j
    rw [(s 22 (by decide) (by decide)).2]
    exact h.house.2.2
set_option maxRecDepth 100000 in
set_option maxHeartbeats 4000000 in
theorem ci_J.llr1 (h : ci_J Bc tl k0 k1 O A) (c : A2 6 = cc_in pC_LLr1 A 14) (o : O2 0 8 = cc_in pC_LLr1 O 8 8 ∧ O2 0 9 = cc_in pC_LLr1 O 8 9 ∧ O2 0 10 = cc_in pC_LLr1 O 8 10) (s : ∀ p, 8 ≤ p → p < 23 → O2 p = cc_in pC_LLr1 O p ∧ A2 p = cc_in pC_LLr1 A p) : ci_J Bc tl k0 k1 (cc_out O2 O pC_LLr1 0) (cc_out A2 A pC_LLr1 0) := by
  have q : lf_ok 131 O A := h.1 (1, 131) (by decide)
  refine ⟨ci_at h.1 pC_LLr1 [(1, 19), (1, 131), (0, 5)] (by decide +kernel) ⟨⟨?_, ?_⟩, ⟨?_, ?_⟩, ⟨?_, ?_, ?_⟩, trivial⟩, h.2.1, h.2.2.1, h.2.2.2.1, h.fr.ge pC_LLr1 16 23 (by decide +kernel) (by decide +kernel) (fun i h1 h2 => s i (by omega) h2)⟩
  · show ll_d (O2 0 9) (O2 0 10) (O2 0 8)
    rw [o.1, o.2.1, o.2.2]
    exact q.1
  · show ∀ j, j < 32 → 0 ≤ A2 6 j
    rw [c]
    exact q.2
  · show ll_d (O2 8 9) (O2 8 10) (O2 8 8)
    rw [(s 8 (by decide) (by decide)).1]
    exact q.1
  · show ∀ j, j < 32 → 0 ≤ A2 14 j
    rw [(s 14 (by decide) (by decide)).2]
    exact q.2
  · show (0 ≤ A2 17 0 ∧ A2 17 0 ≤ 8) ∧ (0 ≤ A2 17 1 ∧ A2 17 1 ≤ 4) ∧ (0 ≤ A2 17 2 ∧ A2 17 2 ≤ 10)
    rw [(s 17 (by decide) (by decide)).2]
    exact h.house.1
  · show O2 16 7 = 0 ∨ O2 16 7 = 1
    rw [(s 16 (by decide) (by decide)).1]
    exact h.house.2.1
  · show ∀ j, j < 32 → 0 ≤ A2 22 j
    rw [(s 22 (by decide) (by decide)).2]
    exact h.house.2.2
set_option maxRecDepth 100000 in
set_option maxHeartbeats 4000000 in
theorem ci_J.ss (h : ci_J Bc tl k0 k1 O A) (c : A2 1 = cc_in pC_SS A 6 ∧ A2 3 = cc_in pC_SS A 8 ∧ O2 0 4 = cc_in pC_SS O 5 4 ∧ O2 0 5 = cc_in pC_SS O 5 5) (s : ∀ p, 5 ≤ p → p < 10 → O2 p = cc_in pC_SS O p ∧ A2 p = cc_in pC_SS A p) : ci_J Bc tl k0 k1 (cc_out O2 O pC_SS 0) (cc_out A2 A pC_SS 0) := by
  have q : se_ok 154 O A := h.1 (2, 154) (by decide)
  refine ⟨ci_at h.1 pC_SS [(2, 149), (2, 154)] (by decide +kernel) ⟨?_, ?_, trivial⟩, h.2.1, h.2.2.1, h.2.2.2.1, h.fr.far pC_SS (by decide +kernel)⟩
  · show (0 ≤ O2 0 4 ∧ O2 0 4 ≤ 40) ∧ ∀ j : Nat, (j : Int) < O2 0 4 → (A2 1 j = 19 ∨ A2 1 j = 20) → 0 ≤ A2 3 j ∧ A2 3 j ≤ 3
    rw [c.1, c.2.1, c.2.2.1]
    exact q
  · show (0 ≤ O2 5 4 ∧ O2 5 4 ≤ 40) ∧ ∀ j : Nat, (j : Int) < O2 5 4 → (A2 6 j = 19 ∨ A2 6 j = 20) → 0 ≤ A2 8 j ∧ A2 8 j ≤ 3
    rw [(s 5 (by decide) (by decide)).1, (s 6 (by decide) (by decide)).2, (s 8 (by decide) (by decide)).2]
    exact q
set_option maxRecDepth 100000 in
set_option maxHeartbeats 4000000 in
theorem ci_J.ssi0 (h : ci_J Bc tl k0 k1 O A) (c : A2 1 = cc_in pC_SSi0 A 6 ∧ A2 3 = cc_in pC_SSi0 A 8 ∧ O2 0 4 = cc_in pC_SSi0 O 5 4 ∧ O2 0 5 = cc_in pC_SSi0 O 5 5) (s : ∀ p, 5 ≤ p → p < 10 → O2 p = cc_in pC_SSi0 O p ∧ A2 p = cc_in pC_SSi0 A p) : ci_J Bc tl k0 k1 (cc_out O2 O pC_SSi0 0) (cc_out A2 A pC_SSi0 0) := by
  have q : se_ok 149 O A := h.1 (2, 149) (by decide)
  refine ⟨ci_at h.1 pC_SSi0 [(2, 118), (2, 149)] (by decide +kernel) ⟨?_, ?_, trivial⟩, h.2.1, h.2.2.1, h.2.2.2.1, h.fr.far pC_SSi0 (by decide +kernel)⟩
  · show (0 ≤ O2 0 4 ∧ O2 0 4 ≤ 40) ∧ ∀ j : Nat, (j : Int) < O2 0 4 → (A2 1 j = 19 ∨ A2 1 j = 20) → 0 ≤ A2 3 j ∧ A2 3 j ≤ 3
    rw [c.1, c.2.1, c.2.2.1]
    exact q
  · show (0 ≤ O2 5 4 ∧ O2 5 4 ≤ 40) ∧ ∀ j : Nat, (j : Int) < O2 5 4 → (A2 6 j = 19 ∨ A2 6 j = 20) → 0 ≤ A2 8 j ∧ A2 8 j ≤ 3
    rw [(s 5 (by decide) (by decide)).1, (s 6 (by decide) (by decide)).2, (s 8 (by decide) (by decide)).2]
    exact q
set_option maxRecDepth 100000 in
set_option maxHeartbeats 4000000 in
theorem ci_J.ssr0 (h : ci_J Bc tl k0 k1 O A) (c : A2 1 = cc_in pC_SSr0 A 6 ∧ A2 3 = cc_in pC_SSr0 A 8 ∧ O2 0 4 = cc_in pC_SSr0 O 5 4 ∧ O2 0 5 = cc_in pC_SSr0 O 5 5) (s : ∀ p, 5 ≤ p → p < 10 → O2 p = cc_in pC_SSr0 O p ∧ A2 p = cc_in pC_SSr0 A p) : ci_J Bc tl k0 k1 (cc_out O2 O pC_SSr0 0) (cc_out A2 A pC_SSr0 0) := by
  have q : se_ok 118 O A := h.1 (2, 118) (by decide)
  refine ⟨ci_at h.1 pC_SSr0 [(2, 149), (2, 118)] (by decide +kernel) ⟨?_, ?_, trivial⟩, h.2.1, h.2.2.1, h.2.2.2.1, h.fr.far pC_SSr0 (by decide +kernel)⟩
  · show (0 ≤ O2 0 4 ∧ O2 0 4 ≤ 40) ∧ ∀ j : Nat, (j : Int) < O2 0 4 → (A2 1 j = 19 ∨ A2 1 j = 20) → 0 ≤ A2 3 j ∧ A2 3 j ≤ 3
    rw [c.1, c.2.1, c.2.2.1]
    exact q
  · show (0 ≤ O2 5 4 ∧ O2 5 4 ≤ 40) ∧ ∀ j : Nat, (j : Int) < O2 5 4 → (A2 6 j = 19 ∨ A2 6 j = 20) → 0 ≤ A2 8 j ∧ A2 8 j ≤ 3
    rw [(s 5 (by decide) (by decide)).1, (s 6 (by decide) (by decide)).2, (s 8 (by decide) (by decide)).2]
    exact q
set_option maxRecDepth 100000 in
set_option maxHeartbeats 4000000 in
theorem ci_J.ssi1 (h : ci_J Bc tl k0 k1 O A) (c : A2 1 = cc_in pC_SSi1 A 6 ∧ A2 3 = cc_in pC_SSi1 A 8 ∧ O2 0 4 = cc_in pC_SSi1 O 5 4 ∧ O2 0 5 = cc_in pC_SSi1 O 5 5) (s : ∀ p, 5 ≤ p → p < 10 → O2 p = cc_in pC_SSi1 O p ∧ A2 p = cc_in pC_SSi1 A p) : ci_J Bc tl k0 k1 (cc_out O2 O pC_SSi1 0) (cc_out A2 A pC_SSi1 0) := by
  have q : se_ok 149 O A := h.1 (2, 149) (by decide)
  refine ⟨ci_at h.1 pC_SSi1 [(2, 139), (2, 149)] (by decide +kernel) ⟨?_, ?_, trivial⟩, h.2.1, h.2.2.1, h.2.2.2.1, h.fr.far pC_SSi1 (by decide +kernel)⟩
  · show (0 ≤ O2 0 4 ∧ O2 0 4 ≤ 40) ∧ ∀ j : Nat, (j : Int) < O2 0 4 → (A2 1 j = 19 ∨ A2 1 j = 20) → 0 ≤ A2 3 j ∧ A2 3 j ≤ 3
    rw [c.1, c.2.1, c.2.2.1]
    exact q
  · show (0 ≤ O2 5 4 ∧ O2 5 4 ≤ 40) ∧ ∀ j : Nat, (j : Int) < O2 5 4 → (A2 6 j = 19 ∨ A2 6 j = 20) → 0 ≤ A2 8 j ∧ A2 8 j ≤ 3
    rw [(s 5 (by decide) (by decide)).1, (s 6 (by decide) (by decide)).2, (s 8 (by decide) (by decide)).2]
    exact q
set_option maxRecDepth 100000 in
set_option maxHeartbeats 4000000 in
theorem ci_J.ssr1 (h : ci_J Bc tl k0 k1 O A) (c : A2 1 = cc_in pC_SSr1 A 6 ∧ A2 3 = cc_in pC_SSr1 A 8 ∧ O2 0 4 = cc_in pC_SSr1 O 5 4 ∧ O2 0 5 = cc_in pC_SSr1 O 5 5) (s : ∀ p, 5 ≤ p → p < 10 → O2 p = cc_in pC_SSr1 O p ∧ A2 p = cc_in pC_SSr1 A p) : ci_J Bc tl k0 k1 (cc_out O2 O pC_SSr1 0) (cc_out A2 A pC_SSr1 0) := by
  have q : se_ok 139 O A := h.1 (2, 139) (by decide)
  refine ⟨ci_at h.1 pC_SSr1 [(2, 149), (2, 139)] (by decide +kernel) ⟨?_, ?_, trivial⟩, h.2.1, h.2.2.1, h.2.2.2.1, h.fr.far pC_SSr1 (by decide +kernel)⟩
  · show (0 ≤ O2 0 4 ∧ O2 0 4 ≤ 40) ∧ ∀ j : Nat, (j : Int) < O2 0 4 → (A2 1 j = 19 ∨ A2 1 j = 20) → 0 ≤ A2 3 j ∧ A2 3 j ≤ 3
    rw [c.1, c.2.1, c.2.2.1]
    exact q
  · show (0 ≤ O2 5 4 ∧ O2 5 4 ≤ 40) ∧ ∀ j : Nat, (j : Int) < O2 5 4 → (A2 6 j = 19 ∨ A2 6 j = 20) → 0 ≤ A2 8 j ∧ A2 8 j ≤ 3
    rw [(s 5 (by decide) (by decide)).1, (s 6 (by decide) (by decide)).2, (s 8 (by decide) (by decide)).2]
    exact q
set_option maxRecDepth 100000 in
set_option maxHeartbeats 4000000 in
theorem ci_J.putT (h : ci_J Bc tl k0 k1 O A) (hP : ll_P (cc_in pC_Lt O) (cc_in pC_Lt A) O2 A2) : ci_J Bc tl k0 k1 (cc_out O2 O pC_Lt 0) (cc_out A2 A pC_Lt 0) := by
  have s := hP.2
  refine ⟨ci_at h.1 pC_Lt [(1, 27), (0, 5)] (by decide +kernel) ⟨⟨?_, ?_⟩, ⟨?_, ?_, ?_⟩, trivial⟩, h.2.1, h.2.2.1, h.2.2.2.1, h.fr.ge pC_Lt 8 15 (by decide +kernel) (by decide +kernel) (fun i h1 h2 => s i h1)⟩
  · show ll_d (O2 0 9) (O2 0 10) (O2 0 8)
    exact hP.1.2.2.2
  · show ∀ j, j < 32 → 0 ≤ A2 6 j
    exact hP.1.2.2.1
  · show (0 ≤ A2 9 0 ∧ A2 9 0 ≤ 8) ∧ (0 ≤ A2 9 1 ∧ A2 9 1 ≤ 4) ∧ (0 ≤ A2 9 2 ∧ A2 9 2 ≤ 10)
    rw [(s 9 (by decide)).2]
    exact h.house.1
  · show O2 8 7 = 0 ∨ O2 8 7 = 1
    rw [(s 8 (by decide)).1]
    exact h.house.2.1
  · show ∀ j, j < 32 → 0 ≤ A2 14 j
    rw [(s 14 (by decide)).2]
    exact h.house.2.2
set_option maxRecDepth 100000 in
set_option maxHeartbeats 4000000 in
theorem ci_J.rdS (h : ci_J Bc tl k0 k1 O A) (hr : sh_J (O 1) (A 2) (A 4) (cc_in pC_SHR O) (cc_in pC_SHR A) O2 A2) : ci_J Bc tl k0 k1 (cc_out O2 O pC_SHR 0) (cc_out A2 A pC_SHR 0) := by
  refine ⟨ci_at h.1 pC_SHR [(2, 154), (0, 5), (3, 1)] (by decide +kernel) ⟨?_, ⟨?_, ?_, ?_⟩, ?_, trivial⟩, (show O2 14 1 = tl by rw [show O2 14 = O 1 from hr.2.1.2.2.2.1]; exact h.2.1), h.2.2.1, h.2.2.2.1, hr.2.1.2.2.2.2.1.trans h.fr.1, hr.2.1.2.2.2.2.2.2.trans h.fr.2.1, h.fr.2.2.1.eq (hr.2.2 5 (by decide) (by decide)).1 (fun j h1 h6 => ?_), h.fr.2.2.2⟩
  · show (0 ≤ O2 0 4 ∧ O2 0 4 ≤ 40) ∧ ∀ j : Nat, (j : Int) < O2 0 4 → (A2 1 j = 19 ∨ A2 1 j = 20) → 0 ≤ A2 3 j ∧ A2 3 j ≤ 3
    exact hr.1.1
  · show (0 ≤ A2 6 0 ∧ A2 6 0 ≤ 8) ∧ (0 ≤ A2 6 1 ∧ A2 6 1 ≤ 4) ∧ (0 ≤ A2 6 2 ∧ A2 6 2 ≤ 10)
    exact hr.2.1.1
  · show O2 5 7 = 0 ∨ O2 5 7 = 1
    exact hr.2.1.2.2.1
  · show ∀ j, j < 32 → 0 ≤ A2 11 j
    exact hr.2.1.2.1
  · show 0 ≤ O2 14 1 ∧ O2 14 1 ≤ 940
    rw [(show O2 14 = O 1 from hr.2.1.2.2.2.1)]
    exact hr.2.1.2.2.2.2.2.1
  · rcases (show j = 1 ∨ j = 2 ∨ j = 3 ∨ j = 4 ∨ j = 5 ∨ j = 6 by omega) with rfl | rfl | rfl | rfl | rfl | rfl
    · exact (hr.2.2 6 (by decide) (by decide)).2
    · exact (hr.2.2 7 (by decide) (by decide)).2
    · exact (hr.2.2 8 (by decide) (by decide)).2
    · exact (hr.2.2 9 (by decide) (by decide)).2
    · exact (hr.2.2 10 (by decide) (by decide)).2
    · exact (hr.2.2 11 (by decide) (by decide)).2
set_option maxRecDepth 100000 in
set_option maxHeartbeats 4000000 in
theorem ci_J.rdB (h : ci_J Bc tl k0 k1 O A) (hr : bh_J (O 1) (A 2) (A 4) (cc_in pC_BHR O) (cc_in pC_BHR A) O2 A2) : ci_J Bc tl k0 k1 (cc_out O2 O pC_BHR 0) (cc_out A2 A pC_BHR 0) := by
  refine ⟨ci_at h.1 pC_BHR [(0, 5), (3, 1)] (by decide +kernel) ⟨⟨?_, ?_, ?_⟩, ?_, trivial⟩, (show O2 14 1 = tl by rw [show O2 14 = O 1 from hr.2.1.2.2.2.1]; exact h.2.1), h.2.2.1, h.2.2.2.1, hr.2.1.2.2.2.2.1.trans h.fr.1, hr.2.1.2.2.2.2.2.2.trans h.fr.2.1, h.fr.2.2.1.eq (hr.2.2 5 (by decide) (by decide)).1 (fun j h1 h6 => ?_), h.fr.2.2.2⟩
  · show (0 ≤ A2 6 0 ∧ A2 6 0 ≤ 8) ∧ (0 ≤ A2 6 1 ∧ A2 6 1 ≤ 4) ∧ (0 ≤ A2 6 2 ∧ A2 6 2 ≤ 10)
    exact hr.2.1.1
  · show O2 5 7 = 0 ∨ O2 5 7 = 1
    exact hr.2.1.2.2.1
  · show ∀ j, j < 32 → 0 ≤ A2 11 j
    exact hr.2.1.2.1
  · show 0 ≤ O2 14 1 ∧ O2 14 1 ≤ 940
    rw [(show O2 14 = O 1 from hr.2.1.2.2.2.1)]
    exact hr.2.1.2.2.2.2.2.1
  · rcases (show j = 1 ∨ j = 2 ∨ j = 3 ∨ j = 4 ∨ j = 5 ∨ j = 6 by omega) with rfl | rfl | rfl | rfl | rfl | rfl
    · exact (hr.2.2 6 (by decide) (by decide)).2
    · exact (hr.2.2 7 (by decide) (by decide)).2
    · exact (hr.2.2 8 (by decide) (by decide)).2
    · exact (hr.2.2 9 (by decide) (by decide)).2
    · exact (hr.2.2 10 (by decide) (by decide)).2
    · exact (hr.2.2 11 (by decide) (by decide)).2
set_option maxRecDepth 100000 in
set_option maxHeartbeats 4000000 in
theorem ci_J.jdg (h : ci_J Bc tl k0 k1 O A) (hI : lo_I O2 A2) (s : ∀ p, 13 ≤ p → O2 p = cc_in pC_BL O p ∧ A2 p = cc_in pC_BL A p) : ci_J Bc tl k0 k1 (cc_out O2 O pC_BL 0) (cc_out A2 A pC_BL 0) := by
  refine ⟨ci_at h.1 pC_BL [(1, 27), (0, 5)] (by decide +kernel) ⟨⟨?_, ?_⟩, ⟨?_, ?_, ?_⟩, trivial⟩, h.2.1, h.2.2.1, h.2.2.2.1, h.fr.ge pC_BL 13 20 (by decide +kernel) (by decide +kernel) (fun i h1 h2 => s i h1)⟩
  · show ll_d (O2 5 9) (O2 5 10) (O2 5 8)
    exact hI.2.2.2
  · show ∀ j, j < 32 → 0 ≤ A2 11 j
    exact hI.2.2.1
  · show (0 ≤ A2 14 0 ∧ A2 14 0 ≤ 8) ∧ (0 ≤ A2 14 1 ∧ A2 14 1 ≤ 4) ∧ (0 ≤ A2 14 2 ∧ A2 14 2 ≤ 10)
    rw [(s 14 (by decide)).2]
    exact h.house.1
  · show O2 13 7 = 0 ∨ O2 13 7 = 1
    rw [(s 13 (by decide)).1]
    exact h.house.2.1
  · show ∀ j, j < 32 → 0 ≤ A2 19 j
    rw [(s 19 (by decide)).2]
    exact h.house.2.2
set_option maxRecDepth 100000 in
set_option maxHeartbeats 4000000 in
theorem ci_J.most (h : ci_J Bc tl k0 k1 O A) {k : Int} (e : O2 0 6 = k) (hk1 : 1 ≤ k) (hk4 : k ≤ 4) (s : ∀ p, 5 ≤ p → O2 p = cc_in pC_Lo O p ∧ A2 p = cc_in pC_Lo A p) : ci_J Bc tl k0 k1 (cc_out O2 O pC_Lo 0) (cc_out A2 A pC_Lo 0) := by
  refine ⟨ci_at h.1 pC_Lo [(5, 159), (1, 19), (0, 5)] (by decide +kernel) ⟨?_, ⟨?_, ?_⟩, ⟨?_, ?_, ?_⟩, trivial⟩, h.2.1, h.2.2.1, h.2.2.2.1, h.fr.ge pC_Lo 13 20 (by decide +kernel) (by decide +kernel) (fun i h1 h2 => s i (by omega))⟩
  · show 0 ≤ O2 0 6 ∧ O2 0 6 ≤ 4
    rw [e]
    exact ⟨by omega, by omega⟩
  · show ll_d (O2 5 9) (O2 5 10) (O2 5 8)
    rw [(s 5 (by decide)).1]
    exact h.life.1
  · show ∀ j, j < 32 → 0 ≤ A2 11 j
    rw [(s 11 (by decide)).2]
    exact h.life.2
  · show (0 ≤ A2 14 0 ∧ A2 14 0 ≤ 8) ∧ (0 ≤ A2 14 1 ∧ A2 14 1 ≤ 4) ∧ (0 ≤ A2 14 2 ∧ A2 14 2 ≤ 10)
    rw [(s 14 (by decide)).2]
    exact h.house.1
  · show O2 13 7 = 0 ∨ O2 13 7 = 1
    rw [(s 13 (by decide)).1]
    exact h.house.2.1
  · show ∀ j, j < 32 → 0 ≤ A2 19 j
    rw [(s 19 (by decide)).2]
    exact h.house.2.2
set_option maxRecDepth 100000 in
set_option maxHeartbeats 4000000 in
theorem ci_J.fin (h : ci_J Bc tl k0 k1 O A) (a : ∀ p, p ≠ 20 → p ≠ 1 → O2 p = cc_in pC_LoF O p) (b : ∀ p, p ≠ 1 → p ≠ 20 → A2 p = cc_in pC_LoF A p) : ci_J Bc tl k0 k1 (cc_out O2 O pC_LoF 0) (cc_out A2 A pC_LoF 0) := by
  refine ⟨ci_at h.1 pC_LoF [(5, 159), (1, 19), (0, 5)] (by decide +kernel) ⟨?_, ⟨?_, ?_⟩, ⟨?_, ?_, ?_⟩, trivial⟩, h.2.1, h.2.2.1, h.2.2.2.1, h.fr.ge pC_LoF 13 20 (by decide +kernel) (by decide +kernel) (fun i h1 h2 => ⟨a i (by omega) (by omega), b i (by omega) (by omega)⟩)⟩
  · show 0 ≤ O2 0 6 ∧ O2 0 6 ≤ 4
    rw [a 0 (by decide) (by decide)]
    exact (h.1 (5, 159) (by decide) : cg_ok 5 159 O A)
  · show ll_d (O2 5 9) (O2 5 10) (O2 5 8)
    rw [a 5 (by decide) (by decide)]
    exact h.life.1
  · show ∀ j, j < 32 → 0 ≤ A2 11 j
    rw [b 11 (by decide) (by decide)]
    exact h.life.2
  · show (0 ≤ A2 14 0 ∧ A2 14 0 ≤ 8) ∧ (0 ≤ A2 14 1 ∧ A2 14 1 ≤ 4) ∧ (0 ≤ A2 14 2 ∧ A2 14 2 ≤ 10)
    rw [b 14 (by decide) (by decide)]
    exact h.house.1
  · show O2 13 7 = 0 ∨ O2 13 7 = 1
    rw [a 13 (by decide) (by decide)]
    exact h.house.2.1
  · show ∀ j, j < 32 → 0 ≤ A2 19 j
    rw [b 19 (by decide) (by decide)]
    exact h.house.2.2
set_option maxRecDepth 100000 in
set_option maxHeartbeats 4000000 in
theorem ci_J.fair (h : ci_J Bc tl k0 k1 O A) (a : ∀ p, p ≠ 22 → O2 p = cc_in pC_LoTF O p) (b : ∀ p, p ≠ 2 → p ≠ 22 → A2 p = cc_in pC_LoTF A p) : ci_J Bc tl k0 k1 (cc_out O2 O pC_LoTF 0) (cc_out A2 A pC_LoTF 0) := by
  refine ⟨ci_at h.1 pC_LoTF [(5, 159), (1, 19), (0, 5), (3, 1)] (by decide +kernel) ⟨?_, ⟨?_, ?_⟩, ⟨?_, ?_, ?_⟩, ?_, trivial⟩, (show O2 20 1 = tl by rw [a 20 (by decide)]; exact h.2.1), h.2.2.1, h.2.2.2.1, h.fr.ge pC_LoTF 13 22 (by decide +kernel) (by decide +kernel) (fun i h1 h2 => ⟨a i (by omega), b i (by omega) (by omega)⟩)⟩
  · show 0 ≤ O2 0 6 ∧ O2 0 6 ≤ 4
    rw [a 0 (by decide)]
    exact (h.1 (5, 159) (by decide) : cg_ok 5 159 O A)
  · show ll_d (O2 5 9) (O2 5 10) (O2 5 8)
    rw [a 5 (by decide)]
    exact h.life.1
  · show ∀ j, j < 32 → 0 ≤ A2 11 j
    rw [b 11 (by decide) (by decide)]
    exact h.life.2
  · show (0 ≤ A2 14 0 ∧ A2 14 0 ≤ 8) ∧ (0 ≤ A2 14 1 ∧ A2 14 1 ≤ 4) ∧ (0 ≤ A2 14 2 ∧ A2 14 2 ≤ 10)
    rw [b 14 (by decide) (by decide)]
    exact h.house.1
  · show O2 13 7 = 0 ∨ O2 13 7 = 1
    rw [a 13 (by decide)]
    exact h.house.2.1
  · show ∀ j, j < 32 → 0 ≤ A2 19 j
    rw [b 19 (by decide) (by decide)]
    exact h.house.2.2
  · show 0 ≤ O2 20 1 ∧ O2 20 1 ≤ 940
    rw [a 20 (by decide)]
    exact (h.1 (3, 1) (by decide) : cg_ok 3 1 O A)
set_option maxRecDepth 100000 in
set_option maxHeartbeats 4000000 in
theorem ci_J.said (h : ci_J Bc tl k0 k1 O A) (ho : sl_o (cc_in pC_SL O) (cc_in pC_SL A) O2 A2) : ci_J Bc tl k0 k1 (cc_out O2 O pC_SL 0) (cc_out A2 A pC_SL 0) := by
  refine ⟨ci_at h.1 pC_SL [(2, 149), (1, 19), (0, 5)] (by decide +kernel) ⟨?_, ⟨?_, ?_⟩, ⟨?_, ?_, ?_⟩, trivial⟩, h.2.1, h.2.2.1, h.2.2.2.1, h.fr.ge pC_SL 13 20 (by decide +kernel) (by decide +kernel) (fun i h1 h2 => ho.2.2 i (by omega))⟩
  · show (0 ≤ O2 0 4 ∧ O2 0 4 ≤ 40) ∧ ∀ j : Nat, (j : Int) < O2 0 4 → (A2 1 j = 19 ∨ A2 1 j = 20) → 0 ≤ A2 3 j ∧ A2 3 j ≤ 3
    rw [ho.1.1, ho.2.1 1 (by decide), ho.2.1 3 (by decide)]
    exact h.sent
  · show ll_d (O2 5 9) (O2 5 10) (O2 5 8)
    rw [(ho.2.2 5 (by decide)).1]
    exact h.life.1
  · show ∀ j, j < 32 → 0 ≤ A2 11 j
    rw [(ho.2.2 11 (by decide)).2]
    exact h.life.2
  · show (0 ≤ A2 14 0 ∧ A2 14 0 ≤ 8) ∧ (0 ≤ A2 14 1 ∧ A2 14 1 ≤ 4) ∧ (0 ≤ A2 14 2 ∧ A2 14 2 ≤ 10)
    rw [(ho.2.2 14 (by decide)).2]
    exact h.house.1
  · show O2 13 7 = 0 ∨ O2 13 7 = 1
    rw [(ho.2.2 13 (by decide)).1]
    exact h.house.2.1
  · show ∀ j, j < 32 → 0 ≤ A2 19 j
    rw [(ho.2.2 19 (by decide)).2]
    exact h.house.2.2
set_option maxRecDepth 100000 in
set_option maxHeartbeats 4000000 in
theorem ci_J.clr (h : ci_J Bc tl k0 k1 O A) (hI : ss_I O2 A2) : ci_J Bc tl k0 k1 (cc_out O2 O pC_S 0) (cc_out A2 A pC_S 0) := by
  refine ⟨ci_at h.1 pC_S [(2, 149)] (by decide +kernel) ⟨?_, trivial⟩, h.2.1, h.2.2.1, h.2.2.2.1, h.fr.far pC_S (by decide +kernel)⟩
  · show (0 ≤ O2 0 4 ∧ O2 0 4 ≤ 40) ∧ ∀ j : Nat, (j : Int) < O2 0 4 → (A2 1 j = 19 ∨ A2 1 j = 20) → 0 ≤ A2 3 j ∧ A2 3 j ≤ 3
    exact hI
set_option maxRecDepth 100000 in
set_option maxHeartbeats 4000000 in
theorem ci_J.fFl (h : ci_J Bc tl k0 k1 O A) : ci_J Bc tl k0 k1 (cc_out O2 O pC_Fl 0) (cc_out A2 A pC_Fl 0) := ⟨ci_at h.1 pC_Fl [] (by decide +kernel) trivial, h.2.1, h.2.2.1, h.2.2.2.1, h.fr.far pC_Fl (by decide +kernel)⟩
set_option maxRecDepth 100000 in
set_option maxHeartbeats 4000000 in
theorem ci_J.fFf (h : ci_J Bc tl k0 k1 O A) : ci_J Bc tl k0 k1 (cc_out O2 O pC_Ff 0) (cc_out A2 A pC_Ff 0) := ⟨ci_at h.1 pC_Ff [] (by decide +kernel) trivial, h.2.1, h.2.2.1, h.2.2.2.1, h.fr.far pC_Ff (by decide +kernel)⟩
end CJ2
