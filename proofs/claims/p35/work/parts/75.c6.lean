/-! THE CLASS, 6: a house is read from the tape -/
variable {Rs : Nat → Int}
set_option maxRecDepth 100000 in
set_option maxHeartbeats 4000000 in
theorem cc_same {ps : List Nat} (hn : va_nd ps = true) {A : Nat → Nat → Int} : cc_out (cc_in ps A) A ps 0 = A := by
  funext k
  by_cases hm : k ∈ ps
  · obtain ⟨i, hi⟩ := List.getElem?_of_mem hm
    rw [cc_out_in hn hi, Nat.zero_add]
    show A (ps.getD i 0) = A k
    rw [kk_getD hi]
  · exact cc_out_out hm
section RRW
variable {l : Launch} {d d' : Nat} {M : List en_T} {t : en_T} {xc : kk_X} {R : Instr → List en_V → List kk_C → Prop} {K : kk_Q} {W : cc_W} {ps : List Nat} {O A : Nat → Nat → Int} {pc : Nat} {L : en_L} {st r : List en_V} {z : kk_Z5}
/-! the reader's methods, in any world that it lies in -/
theorem rw_step (hC : kk_Clo l d M t xc R K) (E : cc_E W cx_R ps) (hn : va_nd ps = true) (h9 : 0 ≤ cc_in ps O 2 1 ∧ cc_in ps O 2 1 ≤ 940) (hd : d' + 3 ≤ d) (hf : en_find (en_te t) pc = some z) (hM : M[z.2.2.1]? = some en_t_X6_step) (ht : en_take z.2.2.2.1 [] st = some ([(4, 0)].map (kk_ren ps), r)) (hp : [(4, (0 : Int))].all (kk_wfv ps.length) = true) (hc : kk_chk z en_t_X6_step ([(4, 0)].map (kk_ren ps)) r (W O A) = true) (h : ∀ O2, O2 2 = cc_in ps O 2 → K z.1 L r (W (cc_out O2 O ps 0) A)) : K pc L st (W O A) := by
  refine hC.at E (rr_step l d' _ _ h9) hf hM ht hc hp rfl hd ?_
  rintro rs O2 A2 ⟨rfl, rfl, hk⟩
  rw [cc_same hn]
  exact h O2 hk
theorem rw_begin (hC : kk_Clo l d M t xc R K) (E : cc_E W cx_R ps) (hn : va_nd ps = true) (m : Int) (h9 : 0 ≤ cc_in ps O 2 1 ∧ cc_in ps O 2 1 ≤ 940) (hd : d' + 4 ≤ d) (hf : en_find (en_te t) pc = some z) (hM : M[z.2.2.1]? = some en_t_X6_begin) (ht : en_take z.2.2.2.1 [] st = some ([(4, 0), (0, m)].map (kk_ren ps), r)) (hp : [(4, (0 : Int)), (0, m)].all (kk_wfv ps.length) = true) (hc : kk_chk z en_t_X6_begin ([(4, 0), (0, m)].map (kk_ren ps)) r (W O A) = true) (h : ∀ O2, O2 2 = cc_in ps O 2 → K z.1 L r (W (cc_out O2 O ps 0) A)) : K pc L st (W O A) := by
  refine hC.at E (rr_begin l d' _ _ m h9) hf hM ht hc hp rfl hd ?_
  rintro rs O2 A2 ⟨rfl, rfl, hk⟩
  rw [cc_same hn]
  exact h O2 hk
theorem rw_refuse (hC : kk_Clo l d M t xc R K) (E : cc_E W cx_R ps) (hn : va_nd ps = true) (m : Int) (hd : d' + 1 ≤ d) (hf : en_find (en_te t) pc = some z) (hM : M[z.2.2.1]? = some en_t_X6_refuse) (ht : en_take z.2.2.2.1 [] st = some ([(4, 0), (0, m)].map (kk_ren ps), r)) (hp : [(4, (0 : Int)), (0, m)].all (kk_wfv ps.length) = true) (hc : kk_chk z en_t_X6_refuse ([(4, 0), (0, m)].map (kk_ren ps)) r (W O A) = true) (h : ∀ O2, O2 2 = cc_in ps O 2 → K z.1 L ((0, 0) :: r) (W (cc_out O2 O ps 0) A)) : K pc L st (W O A) := by
  refine hC.at E (rr_refuse l d' _ _ m) hf hM ht hc hp rfl hd ?_
  rintro rs O2 A2 ⟨rfl, ⟨rfl, hk⟩, -⟩
  rw [cc_same hn]
  exact h O2 hk
theorem rw_isName (hC : kk_Clo l d M t xc R K) (E : cc_E W cx_R ps) (hd : d' + 1 ≤ d) (hf : en_find (en_te t) pc = some z) (hM : M[z.2.2.1]? = some en_t_X6_isName) (ht : en_take z.2.2.2.1 [] st = some ([(4, 0)].map (kk_ren ps), r)) (hp : [(4, (0 : Int))].all (kk_wfv ps.length) = true) (hc : kk_chk z en_t_X6_isName ([(4, 0)].map (kk_ren ps)) r (W O A) = true) (h1 : K z.1 L ((0, 1) :: r) (W O A)) (h0 : K z.1 L ((0, 0) :: r) (W O A)) : K pc L st (W O A) := by
  refine hC.rd E (rr_isName l d' _ _) hf hM ht hc hp rfl hd ?_
  rintro rs (rfl | rfl)
  · exact h1
  · exact h0
theorem rw_takeSign (hC : kk_Clo l d M t xc R K) (E : cc_E W cx_R ps) (hn : va_nd ps = true) (m : Int) (h9 : 0 ≤ cc_in ps O 2 1 ∧ cc_in ps O 2 1 ≤ 940) (hd : d' + 4 ≤ d) (hf : en_find (en_te t) pc = some z) (hM : M[z.2.2.1]? = some en_t_X6_takeSign) (ht : en_take z.2.2.2.1 [] st = some ([(4, 0), (0, m)].map (kk_ren ps), r)) (hp : [(4, (0 : Int)), (0, m)].all (kk_wfv ps.length) = true) (hc : kk_chk z en_t_X6_takeSign ([(4, 0), (0, m)].map (kk_ren ps)) r (W O A) = true) (h1 : ∀ O2, O2 2 = cc_in ps O 2 → K z.1 L ((0, 1) :: r) (W (cc_out O2 O ps 0) A)) (h0 : ∀ O2, O2 2 = cc_in ps O 2 → K z.1 L ((0, 0) :: r) (W (cc_out O2 O ps 0) A)) : K pc L st (W O A) := by
  refine hC.at E (rr_takeSign l d' _ _ m h9) hf hM ht hc hp rfl hd ?_
  rintro rs O2 A2 ⟨⟨rfl, hk⟩, rfl | rfl⟩
  · rw [cc_same hn]; exact h1 O2 hk
  · rw [cc_same hn]; exact h0 O2 hk
theorem rw_takeWord (hC : kk_Clo l d M t xc R K) (E : cc_E W cx_R ps) (hn : va_nd ps = true) (m : Int) (h9 : 0 ≤ cc_in ps O 2 1 ∧ cc_in ps O 2 1 ≤ 940) (hd : d' + 4 ≤ d) (hf : en_find (en_te t) pc = some z) (hM : M[z.2.2.1]? = some en_t_X6_takeWord) (ht : en_take z.2.2.2.1 [] st = some ([(4, 0), (0, m)].map (kk_ren ps), r)) (hp : [(4, (0 : Int)), (0, m)].all (kk_wfv ps.length) = true) (hc : kk_chk z en_t_X6_takeWord ([(4, 0), (0, m)].map (kk_ren ps)) r (W O A) = true) (h1 : ∀ O2, O2 2 = cc_in ps O 2 → K z.1 L ((0, 1) :: r) (W (cc_out O2 O ps 0) A)) (h0 : ∀ O2, O2 2 = cc_in ps O 2 → K z.1 L ((0, 0) :: r) (W (cc_out O2 O ps 0) A)) : K pc L st (W O A) := by
  refine hC.at E (rr_takeWord l d' _ _ m h9) hf hM ht hc hp rfl hd ?_
  rintro rs O2 A2 ⟨⟨rfl, hk⟩, rfl | rfl⟩
  · rw [cc_same hn]; exact h1 O2 hk
  · rw [cc_same hn]; exact h0 O2 hk
theorem rw_number (hC : kk_Clo l d M t xc R K) (E : cc_E W cx_R ps) (hn : va_nd ps = true) (a b : Int) (hd : d' + 2 ≤ d) (hf : en_find (en_te t) pc = some z) (hM : M[z.2.2.1]? = some en_t_X6_isNumberWithin) (ht : en_take z.2.2.2.1 [] st = some ([(4, 0), (0, a), (0, b)].map (kk_ren ps), r)) (hp : [(4, (0 : Int)), (0, a), (0, b)].all (kk_wfv ps.length) = true) (hc : kk_chk z en_t_X6_isNumberWithin ([(4, 0), (0, a), (0, b)].map (kk_ren ps)) r (W O A) = true) (h1 : ∀ O2, O2 2 = cc_in ps O 2 → a ≤ O2 0 8 → O2 0 8 ≤ b → K z.1 L ((0, 1) :: r) (W (cc_out O2 O ps 0) A)) (h0 : ∀ O2, O2 2 = cc_in ps O 2 → K z.1 L ((0, 0) :: r) (W (cc_out O2 O ps 0) A)) : K pc L st (W O A) := by
  refine hC.at E (rr_isNumberWithin l d' _ _ a b) hf hM ht hc hp rfl hd ?_
  rintro rs O2 A2 ⟨⟨rfl, hk⟩, ⟨rfl, q1, q2⟩ | rfl⟩
  · rw [cc_same hn]; exact h1 O2 hk q1 q2
  · rw [cc_same hn]; exact h0 O2 hk
end RRW
/-- while a house is read: what is so of it, and the tape stays -/
def hr_J (T Bt Rs : Nat → Int) (O A : Nat → Nat → Int) : Prop := hh_c A ∧ (∀ j, j < 32 → 0 ≤ A 6 j) ∧ (O 0 7 = 0 ∨ O 0 7 = 1) ∧ O 9 = T ∧ A 10 = Bt ∧ (0 ≤ T 1 ∧ T 1 ≤ 940) ∧ A 8 = Rs
theorem hr_J.len {T Bt : Nat → Int} {O A : Nat → Nat → Int} (h : hr_J T Bt Rs O A) : 0 ≤ cc_in [7, 8, 9, 10] O 2 1 ∧ cc_in [7, 8, 9, 10] O 2 1 ≤ 940 := by
  show 0 ≤ O 9 1 ∧ O 9 1 ≤ 940
  rw [h.2.2.2.1]
  exact h.2.2.2.2.2.1
theorem hr_J.out {T Bt : Nat → Int} {O A O2 : Nat → Nat → Int} (h : hr_J T Bt Rs O A) (hk : O2 2 = cc_in [7, 8, 9, 10] O 2) : hr_J T Bt Rs (cc_out O2 O [7, 8, 9, 10] 0) A := ⟨h.1, h.2.1, h.2.2.1, (show O2 2 = T from hk.trans h.2.2.2.1), h.2.2.2.2.1, h.2.2.2.2.2⟩
def hr_Q (T Bt Rs : Nat → Int) : List en_V → List kk_C → Prop := fun rs w' => ∃ O' A', w' = cx_HR O' A' ∧ hr_J T Bt Rs O' A' ∧ (rs = [(0, 1)] ∨ rs = [(0, 0)])
set_option maxRecDepth 100000 in
set_option maxHeartbeats 4000000 in
theorem rr_findName (l : Launch) (d : Nat) (T Bt : Nat → Int) (O A : Nat → Nat → Int) (s : Int) (hJ : hr_J T Bt Rs O A) (h0 : 0 ≤ s) (h2 : s ≤ 2) : kk_Ctr l (d + 1) en_t_X6_findName [(4, 7), (4, 0), (0, s)] (cx_HR O A) (fun rs w' => ∃ O', w' = cx_HR O' A ∧ hr_J T Bt Rs O' A ∧ (∀ p, p < 7 → O' p = O p) ∧ ∃ x, rs = [(0, x)] ∧ -1 ≤ x ∧ x < A 1 s.toNat) := by
  have hb := hh_at hJ.1 h0 h2
  refine kk_ctr en_hM (List.mem_of_getElem? (i := 125) rfl) rfl (Nat.le_of_ble_eq_true rfl) (fun K hC => ?_)
  repeat' first | refine hC.gw [] _ rfl rfl ?_ | refine And.intro ?_ ?_ | exact True.intro | refine hC.iadd [] rfl rfl (by first | omega | (simp only [Int.reduceToNat] at *; omega)) ?_ | refine hC.isub [] rfl rfl (by first | omega | (simp only [Int.reduceToNat] at *; omega)) ?_ | refine hC.imul [] rfl rfl (by first | omega | (simp only [Int.reduceToNat] at *; omega)) ?_ | refine hC.iinc [] rfl rfl rfl rfl (by first | omega | (simp only [Int.reduceToNat] at *; omega)) ?_ | refine hC.pfw (W := cx_HR) [] rfl rfl rfl rfl rfl rfl ?_ ?_ | refine hC.iaw (W := cx_HR) [] rfl rfl rfl rfl ?_ ?_ | refine hC.law (W := cx_HR) [] rfl rfl rfl rfl ?_ ?_ | refine hC.cpw (W := cx_HR) [] rfl rfl rfl rfl rfl rfl ?_ | refine hC.cpl (W := cx_HR) [] rfl rfl rfl rfl rfl rfl ?_ | refine hC.go [] _ rfl rfl ?_ | (intro h; first | exact (h rfl).elim | (exfalso; cases h; done) | (dsimp only [kk_cP, kk_cN] at h) | skip) | (refine rw_isName hC ce_HR_R (Nat.le_refl _) rfl rfl rfl rfl rfl ?_ ?_) | (refine rw_refuse hC ce_HR_R rfl _ (Nat.le_refl _) rfl rfl rfl rfl rfl ?_; intro O2 hk2; have hJ2 := hr_J.out (by assumption) hk2)
  · refine hC.rd ce_HR_H (hh_placeOf l _ _ _ s _ hJ.1 h0 h2) rfl rfl rfl rfl rfl rfl (Nat.le_refl _) ?_
    rintro rs ⟨y, rfl, y1, y2⟩
    repeat' first | refine hC.gw [] _ rfl rfl ?_ | refine And.intro ?_ ?_ | exact True.intro | refine hC.iadd [] rfl rfl (by first | omega | (simp only [Int.reduceToNat] at *; omega)) ?_ | refine hC.isub [] rfl rfl (by first | omega | (simp only [Int.reduceToNat] at *; omega)) ?_ | refine hC.imul [] rfl rfl (by first | omega | (simp only [Int.reduceToNat] at *; omega)) ?_ | refine hC.iinc [] rfl rfl rfl rfl (by first | omega | (simp only [Int.reduceToNat] at *; omega)) ?_ | refine hC.pfw (W := cx_HR) [] rfl rfl rfl rfl rfl rfl ?_ ?_ | refine hC.iaw (W := cx_HR) [] rfl rfl rfl rfl ?_ ?_ | refine hC.law (W := cx_HR) [] rfl rfl rfl rfl ?_ ?_ | refine hC.cpw (W := cx_HR) [] rfl rfl rfl rfl rfl rfl ?_ | refine hC.cpl (W := cx_HR) [] rfl rfl rfl rfl rfl rfl ?_ | refine hC.go [] _ rfl rfl ?_ | (intro h; first | exact (h rfl).elim | (exfalso; cases h; done) | (dsimp only [kk_cP, kk_cN] at h) | skip) | (refine rw_refuse hC ce_HR_R rfl _ (Nat.le_refl _) rfl rfl rfl rfl rfl ?_; intro O2 hk2; have hJ2 := hr_J.out (by assumption) hk2)
    all_goals first | exact ⟨_, rfl, hJ, fun _ _ => rfl, _, rfl, y1, y2⟩ | exact ⟨_, rfl, hJ2, fun p hp => (by match p, hp with | 0, _ => rfl | 1, _ => rfl | 2, _ => rfl | 3, _ => rfl | 4, _ => rfl | 5, _ => rfl | 6, _ => rfl), _, rfl, y1, y2⟩
  · exact ⟨_, rfl, hJ2, fun p hp => (by match p, hp with | 0, _ => rfl | 1, _ => rfl | 2, _ => rfl | 3, _ => rfl | 4, _ => rfl | 5, _ => rfl | 6, _ => rfl), _, rfl, by omega, by omega⟩
