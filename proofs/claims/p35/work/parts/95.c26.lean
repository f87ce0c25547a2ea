/-! THE CLASS, 26: calls of the whole that only read -/
variable {Bc : ci_B}
section CW
variable {l : Launch} {d d' : Nat} {M : List en_T} {t : en_T} {xc : kk_X} {R : Instr → List en_V → List kk_C → Prop} {K : kk_Q} {O A : Nat → Nat → Int} {pc : Nat} {L : en_L} {st r : List en_V} {z : kk_Z5} {tl k0 k1 : Int}
set_option maxRecDepth 100000 in
set_option maxHeartbeats 4000000 in
theorem cw_has {W : cc_W} (E : cc_E W cx_H pC_H) {s n b : Int} (hC : kk_Clo l d M t xc R K) (hJ : ci_J Bc tl k0 k1 O A) (hs : (s = 0 ∧ b = 7) ∨ (s = 1 ∧ b = 3) ∨ (s = 2 ∧ b = 9)) (hd : d' + 1 ≤ d) (hf : en_find (en_te t) pc = some z) (hM : M[z.2.2.1]? = some en_t_X2_has) (ht : en_take z.2.2.2.1 [] st = some ([(4, 0), (0, s), (0, n)].map (kk_ren pC_H), r)) (hp : [(4, (0 : Int)), (0, s), (0, n)].all (kk_wfv pC_H.length) = true) (hc : kk_chk z en_t_X2_has ([(4, 0), (0, s), (0, n)].map (kk_ren pC_H)) r (W O A) = true) (h1 : 0 ≤ n → n ≤ b → K z.1 L ((0, 1) :: r) (W O A)) (h0 : K z.1 L ((0, 0) :: r) (W O A)) : K pc L st (W O A) := by
  have hH := hJ.house.1
  refine hC.rd E (hh_has l d' _ _ s n hH (by omega) (by omega)) hf hM ht hc hp rfl hd ?_
  rintro rs (⟨rfl, q1, q2⟩ | ⟨rfl, -⟩)
  · refine h1 q1 ?_
    rcases hs with ⟨rfl, rfl⟩ | ⟨rfl, rfl⟩ | ⟨rfl, rfl⟩
    · have q : n < A 6 0 := q2
      have q3 : A 6 0 ≤ 8 := hH.1.2
      omega
    · have q : n < A 6 1 := q2
      have q3 : A 6 1 ≤ 4 := hH.2.1.2
      omega
    · have q : n < A 6 2 := q2
      have q3 : A 6 2 ≤ 10 := hH.2.2.2
      omega
  · exact h0
end CW
section CR
variable (l : Launch) (d : Nat) (tl k0 k1 : Int) (O A : Nat → Nat → Int)
set_option maxRecDepth 100000 in
set_option maxHeartbeats 4000000 in
theorem cr_fault (hJ : ci_J Bc tl k0 k1 O A) : kk_Ctr l (d + 40) en_t_X10_fault [(4, 0)] (cx_C O A) (ci_Q Bc tl k0 k1 0) := by
  refine kk_ctr en_hM (List.mem_of_getElem? (i := 4) rfl) rfl (Nat.le_of_ble_eq_true rfl) (fun K hC => ?_)
  repeat' first | refine hC.gw [] _ rfl rfl ?_ | refine And.intro ?_ ?_ | exact True.intro | refine hC.iadd [] rfl rfl (by first | omega | (simp only [Int.reduceToNat] at *; omega)) ?_ | refine hC.isub [] rfl rfl (by first | omega | (simp only [Int.reduceToNat] at *; omega)) ?_ | refine hC.imul [] rfl rfl (by first | omega | (simp only [Int.reduceToNat] at *; omega)) ?_ | refine hC.iinc [] rfl rfl rfl rfl (by first | omega | (simp only [Int.reduceToNat] at *; omega)) ?_ | refine hC.pfw (W := cx_C) [] rfl rfl rfl rfl rfl rfl ?_ ?_ | refine hC.iaw (W := cx_C) [] rfl rfl rfl rfl ?_ ?_ | refine hC.law (W := cx_C) [] rfl rfl rfl rfl ?_ ?_ | refine hC.cpw (W := cx_C) [] rfl rfl rfl rfl rfl rfl ?_ | refine hC.cpl (W := cx_C) [] rfl rfl rfl rfl rfl rfl ?_ | refine hC.go [] _ rfl rfl ?_ | (intro h; first | exact (h rfl).elim | (exfalso; cases h; done) | (dsimp only [kk_cP, kk_cN] at h) | skip)
  all_goals first | exact ⟨_, _, rfl, hJ, _, rfl⟩ | omega
set_option maxRecDepth 100000 in
set_option maxHeartbeats 4000000 in
theorem cr_covering (hJ : ci_J Bc tl k0 k1 O A) : kk_Ctr l (d + 40) en_t_X10_covering [(4, 0)] (cx_C O A) (ci_Q Bc tl k0 k1 0) := by
  refine kk_ctr en_hM (List.mem_of_getElem? (i := 16) rfl) rfl (Nat.le_of_ble_eq_true rfl) (fun K hC => ?_)
  repeat' first | refine hC.gw [] _ rfl rfl ?_ | refine And.intro ?_ ?_ | exact True.intro | refine hC.iadd [] rfl rfl (by first | omega | (simp only [Int.reduceToNat] at *; omega)) ?_ | refine hC.isub [] rfl rfl (by first | omega | (simp only [Int.reduceToNat] at *; omega)) ?_ | refine hC.imul [] rfl rfl (by first | omega | (simp only [Int.reduceToNat] at *; omega)) ?_ | refine hC.iinc [] rfl rfl rfl rfl (by first | omega | (simp only [Int.reduceToNat] at *; omega)) ?_ | refine hC.pfw (W := cx_C) [] rfl rfl rfl rfl rfl rfl ?_ ?_ | refine hC.iaw (W := cx_C) [] rfl rfl rfl rfl ?_ ?_ | refine hC.law (W := cx_C) [] rfl rfl rfl rfl ?_ ?_ | refine hC.cpw (W := cx_C) [] rfl rfl rfl rfl rfl rfl ?_ | refine hC.cpl (W := cx_C) [] rfl rfl rfl rfl rfl rfl ?_ | refine hC.go [] _ rfl rfl ?_ | (intro h; first | exact (h rfl).elim | (exfalso; cases h; done) | (dsimp only [kk_cP, kk_cN] at h) | skip)
  all_goals first | exact ⟨_, _, rfl, hJ, _, rfl⟩ | omega
set_option maxRecDepth 100000 in
set_option maxHeartbeats 4000000 in
theorem cr_watch (hJ : ci_J Bc tl k0 k1 O A) : kk_Ctr l (d + 40) en_t_X10_watch [(4, 0)] (cx_C O A) (ci_Q Bc tl k0 k1 0) := by
  refine kk_ctr en_hM (List.mem_of_getElem? (i := 21) rfl) rfl (Nat.le_of_ble_eq_true rfl) (fun K hC => ?_)
  repeat' first | refine hC.gw [] _ rfl rfl ?_ | refine And.intro ?_ ?_ | exact True.intro | refine hC.iadd [] rfl rfl (by first | omega | (simp only [Int.reduceToNat] at *; omega)) ?_ | refine hC.isub [] rfl rfl (by first | omega | (simp only [Int.reduceToNat] at *; omega)) ?_ | refine hC.imul [] rfl rfl (by first | omega | (simp only [Int.reduceToNat] at *; omega)) ?_ | refine hC.iinc [] rfl rfl rfl rfl (by first | omega | (simp only [Int.reduceToNat] at *; omega)) ?_ | refine hC.pfw (W := cx_C) [] rfl rfl rfl rfl rfl rfl ?_ ?_ | refine hC.iaw (W := cx_C) [] rfl rfl rfl rfl ?_ ?_ | refine hC.law (W := cx_C) [] rfl rfl rfl rfl ?_ ?_ | refine hC.cpw (W := cx_C) [] rfl rfl rfl rfl rfl rfl ?_ | refine hC.cpl (W := cx_C) [] rfl rfl rfl rfl rfl rfl ?_ | refine hC.go [] _ rfl rfl ?_ | (intro h; first | exact (h rfl).elim | (exfalso; cases h; done) | (dsimp only [kk_cP, kk_cN] at h) | skip)
  all_goals first | exact ⟨_, _, rfl, hJ, _, rfl⟩ | omega
set_option maxRecDepth 100000 in
set_option maxHeartbeats 4000000 in
theorem cr_left (hJ : ci_J Bc tl k0 k1 O A) (m e : Int) : kk_Ctr l (d + 40) en_t_X10_left [(4, 0), (0, m), (0, e)] (cx_C O A) (ci_Q Bc tl k0 k1 0) := by
  refine kk_ctr en_hM (List.mem_of_getElem? (i := 5) rfl) rfl (Nat.le_of_ble_eq_true rfl) (fun K hC => ?_)
  repeat' first | refine hC.gw [] _ rfl rfl ?_ | refine And.intro ?_ ?_ | exact True.intro | refine hC.iadd [] rfl rfl (by first | omega | (simp only [Int.reduceToNat] at *; omega)) ?_ | refine hC.isub [] rfl rfl (by first | omega | (simp only [Int.reduceToNat] at *; omega)) ?_ | refine hC.imul [] rfl rfl (by first | omega | (simp only [Int.reduceToNat] at *; omega)) ?_ | refine hC.iinc [] rfl rfl rfl rfl (by first | omega | (simp only [Int.reduceToNat] at *; omega)) ?_ | refine hC.pfw (W := cx_C) [] rfl rfl rfl rfl rfl rfl ?_ ?_ | refine hC.iaw (W := cx_C) [] rfl rfl rfl rfl ?_ ?_ | refine hC.law (W := cx_C) [] rfl rfl rfl rfl ?_ ?_ | refine hC.cpw (W := cx_C) [] rfl rfl rfl rfl rfl rfl ?_ | refine hC.cpl (W := cx_C) [] rfl rfl rfl rfl rfl rfl ?_ | refine hC.go [] _ rfl rfl ?_ | (intro h; first | exact (h rfl).elim | (exfalso; cases h; done) | (dsimp only [kk_cP, kk_cN] at h) | skip) | (refine cw_has ce_C_H (b := 3) hC hJ (Or.inr (Or.inl ⟨rfl, rfl⟩)) (Nat.le_refl _) rfl rfl rfl rfl rfl ?_ ?_ <;> (try intro m1 m2)) | (refine cw_has ce_C_H (b := 7) hC hJ (Or.inl ⟨rfl, rfl⟩) (Nat.le_refl _) rfl rfl rfl rfl rfl ?_ ?_ <;> (try intro e1 e2))
  all_goals first | exact ⟨_, _, rfl, hJ, _, rfl⟩ | omega
set_option maxRecDepth 100000 in
set_option maxHeartbeats 4000000 in
theorem cr_now (hJ : ci_J Bc tl k0 k1 O A) (q : Int) : kk_Ctr l (d + 40) en_t_X10_now [(4, 0), (0, q)] (cx_C O A) (ci_Q Bc tl k0 k1 0) := by
  refine kk_ctr en_hM (List.mem_of_getElem? (i := 6) rfl) rfl (Nat.le_of_ble_eq_true rfl) (fun K hC => ?_)
  repeat' first | refine hC.gw [] _ rfl rfl ?_ | refine And.intro ?_ ?_ | exact True.intro | refine hC.iadd [] rfl rfl (by first | omega | (simp only [Int.reduceToNat] at *; omega)) ?_ | refine hC.isub [] rfl rfl (by first | omega | (simp only [Int.reduceToNat] at *; omega)) ?_ | refine hC.imul [] rfl rfl (by first | omega | (simp only [Int.reduceToNat] at *; omega)) ?_ | refine hC.iinc [] rfl rfl rfl rfl (by first | omega | (simp only [Int.reduceToNat] at *; omega)) ?_ | refine hC.pfw (W := cx_C) [] rfl rfl rfl rfl rfl rfl ?_ ?_ | refine hC.iaw (W := cx_C) [] rfl rfl rfl rfl ?_ ?_ | refine hC.law (W := cx_C) [] rfl rfl rfl rfl ?_ ?_ | refine hC.cpw (W := cx_C) [] rfl rfl rfl rfl rfl rfl ?_ | refine hC.cpl (W := cx_C) [] rfl rfl rfl rfl rfl rfl ?_ | refine hC.go [] _ rfl rfl ?_ | (intro h; first | exact (h rfl).elim | (exfalso; cases h; done) | (dsimp only [kk_cP, kk_cN] at h) | skip) | (refine hC.rd ce_C_L (ll_must l _ _ _) rfl rfl rfl rfl rfl rfl (Nat.le_refl _) ?_; rintro rs ⟨xf, rfl⟩) | (refine hC.rd ce_C_L (ll_barred l _ _ _) rfl rfl rfl rfl rfl rfl (Nat.le_refl _) ?_; rintro rs ⟨xf, rfl⟩) | (refine hC.rd ce_C_L (ll_slips l _ _ _ (by exact hJ.L)) rfl rfl rfl rfl rfl rfl (Nat.le_refl _) ?_; rintro rs ⟨xf, rfl⟩) | (refine hC.rd ce_C_L (ll_allPenances l _ _ _ (by exact hJ.L)) rfl rfl rfl rfl rfl rfl (Nat.le_refl _) ?_; rintro rs ⟨xf, rfl⟩) | (refine hC.rd ce_C_L (ll_allWorkLeft l _ _ _ (by exact hJ.L)) rfl rfl rfl rfl rfl rfl (Nat.le_refl _) ?_; rintro rs ⟨xf, rfl⟩)
  all_goals first | exact ⟨_, _, rfl, hJ, _, rfl⟩ | omega
set_option maxRecDepth 100000 in
set_option maxHeartbeats 4000000 in
theorem cr_free (hJ : ci_J Bc tl k0 k1 O A) : kk_Ctr l (d + 40) en_t_X10_free [(4, 0)] (cx_C O A) (ci_Q Bc tl k0 k1 0) := by
  refine kk_ctr en_hM (List.mem_of_getElem? (i := 13) rfl) rfl (Nat.le_of_ble_eq_true rfl) (fun K hC => ?_)
  repeat' first | refine hC.gw [] _ rfl rfl ?_ | refine And.intro ?_ ?_ | exact True.intro | refine hC.iadd [] rfl rfl (by first | omega | (simp only [Int.reduceToNat] at *; omega)) ?_ | refine hC.isub [] rfl rfl (by first | omega | (simp only [Int.reduceToNat] at *; omega)) ?_ | refine hC.imul [] rfl rfl (by first | omega | (simp only [Int.reduceToNat] at *; omega)) ?_ | refine hC.iinc [] rfl rfl rfl rfl (by first | omega | (simp only [Int.reduceToNat] at *; omega)) ?_ | refine hC.pfw (W := cx_C) [] rfl rfl rfl rfl rfl rfl ?_ ?_ | refine hC.iaw (W := cx_C) [] rfl rfl rfl rfl ?_ ?_ | refine hC.law (W := cx_C) [] rfl rfl rfl rfl ?_ ?_ | refine hC.cpw (W := cx_C) [] rfl rfl rfl rfl rfl rfl ?_ | refine hC.cpl (W := cx_C) [] rfl rfl rfl rfl rfl rfl ?_ | refine hC.go [] _ rfl rfl ?_ | (intro h; first | exact (h rfl).elim | (exfalso; cases h; done) | (dsimp only [kk_cP, kk_cN] at h) | skip) | (refine hC.rd ce_C_H (hh_freeDeeds l _ _ _ (by exact hJ.house.1)) rfl rfl rfl rfl rfl rfl (Nat.le_refl _) ?_; rintro rs ⟨xf, rfl⟩)
  all_goals first | exact ⟨_, _, rfl, hJ, _, rfl⟩ | omega
set_option maxRecDepth 100000 in
set_option maxHeartbeats 4000000 in
theorem cr_quarrels (hJ : ci_J Bc tl k0 k1 O A) (c : Int) : kk_Ctr l (d + 40) en_t_X10_quarrels [(4, 0), (0, c)] (cx_C O A) (ci_Q Bc tl k0 k1 0) := by
  refine kk_ctr en_hM (List.mem_of_getElem? (i := 14) rfl) rfl (Nat.le_of_ble_eq_true rfl) (fun K hC => ?_)
  repeat' first | refine hC.gw [] _ rfl rfl ?_ | refine And.intro ?_ ?_ | exact True.intro | refine hC.iadd [] rfl rfl (by first | omega | (simp only [Int.reduceToNat] at *; omega)) ?_ | refine hC.isub [] rfl rfl (by first | omega | (simp only [Int.reduceToNat] at *; omega)) ?_ | refine hC.imul [] rfl rfl (by first | omega | (simp only [Int.reduceToNat] at *; omega)) ?_ | refine hC.iinc [] rfl rfl rfl rfl (by first | omega | (simp only [Int.reduceToNat] at *; omega)) ?_ | refine hC.pfw (W := cx_C) [] rfl rfl rfl rfl rfl rfl ?_ ?_ | refine hC.iaw (W := cx_C) [] rfl rfl rfl rfl ?_ ?_ | refine hC.law (W := cx_C) [] rfl rfl rfl rfl ?_ ?_ | refine hC.cpw (W := cx_C) [] rfl rfl rfl rfl rfl rfl ?_ | refine hC.cpl (W := cx_C) [] rfl rfl rfl rfl rfl rfl ?_ | refine hC.go [] _ rfl rfl ?_ | (intro h; first | exact (h rfl).elim | (exfalso; cases h; done) | (dsimp only [kk_cP, kk_cN] at h) | skip) | (refine cw_has ce_C_H (b := 9) hC hJ (Or.inr (Or.inr ⟨rfl, rfl⟩)) (Nat.le_refl _) rfl rfl rfl rfl rfl ?_ ?_ <;> (try intro c1 c2)) | (refine hC.rd ce_C_H (hh_quarrels l _ _ _ _ (by exact hJ.house.1) (by omega) (by omega)) rfl rfl rfl rfl rfl rfl (Nat.le_refl _) ?_; rintro rs ⟨xf, rfl⟩)
  all_goals first | exact ⟨_, _, rfl, hJ, _, rfl⟩ | omega
set_option maxRecDepth 100000 in
set_option maxHeartbeats 4000000 in
theorem cr_mostAt (hJ : ci_J Bc tl k0 k1 O A) (i : Int) : kk_Ctr l (d + 40) en_t_X10_mostAt [(4, 0), (0, i)] (cx_C O A) (ci_Q Bc tl k0 k1 0) := by
  have h5 : 0 ≤ O 159 6 ∧ O 159 6 ≤ 4 := hJ.1 (5, 159) (by decide)
  refine kk_ctr en_hM (List.mem_of_getElem? (i := 18) rfl) rfl (Nat.le_of_ble_eq_true rfl) (fun K hC => ?_)
  repeat' first | refine hC.gw [] _ rfl rfl ?_ | refine And.intro ?_ ?_ | exact True.intro | refine hC.iadd [] rfl rfl (by first | omega | (simp only [Int.reduceToNat] at *; omega)) ?_ | refine hC.isub [] rfl rfl (by first | omega | (simp only [Int.reduceToNat] at *; omega)) ?_ | refine hC.imul [] rfl rfl (by first | omega | (simp only [Int.reduceToNat] at *; omega)) ?_ | refine hC.iinc [] rfl rfl rfl rfl (by first | omega | (simp only [Int.reduceToNat] at *; omega)) ?_ | refine hC.pfw (W := cx_C) [] rfl rfl rfl rfl rfl rfl ?_ ?_ | refine hC.iaw (W := cx_C) [] rfl rfl rfl rfl ?_ ?_ | refine hC.law (W := cx_C) [] rfl rfl rfl rfl ?_ ?_ | refine hC.cpw (W := cx_C) [] rfl rfl rfl rfl rfl rfl ?_ | refine hC.cpl (W := cx_C) [] rfl rfl rfl rfl rfl rfl ?_ | refine hC.go [] _ rfl rfl ?_ | (intro h; first | exact (h rfl).elim | (exfalso; cases h; done) | (dsimp only [kk_cP, kk_cN] at h) | skip)
  all_goals first | exact ⟨_, _, rfl, hJ, _, rfl⟩ | omega
set_option maxRecDepth 100000 in
set_option maxHeartbeats 4000000 in
theorem cr_waits (hJ : ci_J Bc tl k0 k1 O A) (c : Int) : kk_Ctr l (d + 40) en_t_X10_waits [(4, 0), (0, c)] (cx_C O A) (ci_Q Bc tl k0 k1 0) := by
  refine kk_ctr en_hM (List.mem_of_getElem? (i := 22) rfl) rfl (Nat.le_of_ble_eq_true rfl) (fun K hC => ?_)
  repeat' first | refine hC.gw [] _ rfl rfl ?_ | refine And.intro ?_ ?_ | exact True.intro | refine hC.iadd [] rfl rfl (by first | omega | (simp only [Int.reduceToNat] at *; omega)) ?_ | refine hC.isub [] rfl rfl (by first | omega | (simp only [Int.reduceToNat] at *; omega)) ?_ | refine hC.imul [] rfl rfl (by first | omega | (simp only [Int.reduceToNat] at *; omega)) ?_ | refine hC.iinc [] rfl rfl rfl rfl (by first | omega | (simp only [Int.reduceToNat] at *; omega)) ?_ | refine hC.pfw (W := cx_C) [] rfl rfl rfl rfl rfl rfl ?_ ?_ | refine hC.iaw (W := cx_C) [] rfl rfl rfl rfl ?_ ?_ | refine hC.law (W := cx_C) [] rfl rfl rfl rfl ?_ ?_ | refine hC.cpw (W := cx_C) [] rfl rfl rfl rfl rfl rfl ?_ | refine hC.cpl (W := cx_C) [] rfl rfl rfl rfl rfl rfl ?_ | refine hC.go [] _ rfl rfl ?_ | (intro h; first | exact (h rfl).elim | (exfalso; cases h; done) | (dsimp only [kk_cP, kk_cN] at h) | skip) | (refine cw_has ce_C_H (b := 9) hC hJ (Or.inr (Or.inr ⟨rfl, rfl⟩)) (Nat.le_refl _) rfl rfl rfl rfl rfl ?_ ?_ <;> (try intro c1 c2)) | (refine hC.rd ce_C_L (ll_longestWait l _ _ _ _ (by exact hJ.L) (by omega) (by omega)) rfl rfl rfl rfl rfl rfl (Nat.le_refl _) ?_; rintro rs ⟨xf, rfl⟩)
  all_goals first | exact ⟨_, _, rfl, hJ, _, rfl⟩ | omega
set_option maxRecDepth 100000 in
set_option maxHeartbeats 4000000 in
theorem cr_ago (hJ : ci_J Bc tl k0 k1 O A) (k : Int) : kk_Ctr l (d + 40) en_t_X10_ago [(4, 0), (0, k)] (cx_C O A) (ci_Q Bc tl k0 k1 0) := by
  refine kk_ctr en_hM (List.mem_of_getElem? (i := 23) rfl) rfl (Nat.le_of_ble_eq_true rfl) (fun K hC => ?_)
  repeat' first | refine hC.gw [] _ rfl rfl ?_ | refine And.intro ?_ ?_ | exact True.intro | refine hC.iadd [] rfl rfl (by first | omega | (simp only [Int.reduceToNat] at *; omega)) ?_ | refine hC.isub [] rfl rfl (by first | omega | (simp only [Int.reduceToNat] at *; omega)) ?_ | refine hC.imul [] rfl rfl (by first | omega | (simp only [Int.reduceToNat] at *; omega)) ?_ | refine hC.iinc [] rfl rfl rfl rfl (by first | omega | (simp only [Int.reduceToNat] at *; omega)) ?_ | refine hC.pfw (W := cx_C) [] rfl rfl rfl rfl rfl rfl ?_ ?_ | refine hC.iaw (W := cx_C) [] rfl rfl rfl rfl ?_ ?_ | refine hC.law (W := cx_C) [] rfl rfl rfl rfl ?_ ?_ | refine hC.cpw (W := cx_C) [] rfl rfl rfl rfl rfl rfl ?_ | refine hC.cpl (W := cx_C) [] rfl rfl rfl rfl rfl rfl ?_ | refine hC.go [] _ rfl rfl ?_ | (intro h; first | exact (h rfl).elim | (exfalso; cases h; done) | (dsimp only [kk_cP, kk_cN] at h) | skip) | (refine hC.rd ce_C_L (ll_drawnAgo l _ _ _ _ (by exact hJ.L)) rfl rfl rfl rfl rfl rfl (Nat.le_refl _) ?_; rintro rs ⟨xf, rfl⟩)
  all_goals first | exact ⟨_, _, rfl, hJ, _, rfl⟩ | omega
set_option maxRecDepth 100000 in
set_option maxHeartbeats 4000000 in
theorem cr_byteAt (hJ : ci_J Bc tl k0 k1 O A) (i : Int) : kk_Ctr l (d + 40) en_t_X10_byteAt [(4, 0), (0, i)] (cx_C O A) (ci_Q Bc tl k0 k1 0) := by
  refine kk_ctr en_hM (List.mem_of_getElem? (i := 25) rfl) rfl (Nat.le_of_ble_eq_true rfl) (fun K hC => ?_)
  repeat' first | refine hC.gw [] _ rfl rfl ?_ | refine And.intro ?_ ?_ | exact True.intro | refine hC.iadd [] rfl rfl (by first | omega | (simp only [Int.reduceToNat] at *; omega)) ?_ | refine hC.isub [] rfl rfl (by first | omega | (simp only [Int.reduceToNat] at *; omega)) ?_ | refine hC.imul [] rfl rfl (by first | omega | (simp only [Int.reduceToNat] at *; omega)) ?_ | refine hC.iinc [] rfl rfl rfl rfl (by first | omega | (simp only [Int.reduceToNat] at *; omega)) ?_ | refine hC.pfw (W := cx_C) [] rfl rfl rfl rfl rfl rfl ?_ ?_ | refine hC.iaw (W := cx_C) [] rfl rfl rfl rfl ?_ ?_ | refine hC.law (W := cx_C) [] rfl rfl rfl rfl ?_ ?_ | refine hC.cpw (W := cx_C) [] rfl rfl rfl rfl rfl rfl ?_ | refine hC.cpl (W := cx_C) [] rfl rfl rfl rfl rfl rfl ?_ | refine hC.go [] _ rfl rfl ?_ | (intro h; first | exact (h rfl).elim | (exfalso; cases h; done) | (dsimp only [kk_cP, kk_cN] at h) | skip) | (refine hC.rd ce_C_N (tt_at80 l _ _ _ _) rfl rfl rfl rfl rfl rfl (Nat.le_refl _) ?_; rintro rs rfl)
  all_goals first | exact ⟨_, _, rfl, hJ, _, rfl⟩ | omega
set_option maxRecDepth 100000 in
set_option maxHeartbeats 4000000 in
theorem cr_told (hJ : ci_J Bc tl k0 k1 O A) (q : Int) : kk_Ctr l (d + 40) en_t_X10_told [(4, 0), (0, q)] (cx_C O A) (ci_Q Bc tl k0 k1 0) := by
  refine kk_ctr en_hM (List.mem_of_getElem? (i := 28) rfl) rfl (Nat.le_of_ble_eq_true rfl) (fun K hC => ?_)
  repeat' first | refine hC.gw [] _ rfl rfl ?_ | refine And.intro ?_ ?_ | exact True.intro | refine hC.iadd [] rfl rfl (by first | omega | (simp only [Int.reduceToNat] at *; omega)) ?_ | refine hC.isub [] rfl rfl (by first | omega | (simp only [Int.reduceToNat] at *; omega)) ?_ | refine hC.imul [] rfl rfl (by first | omega | (simp only [Int.reduceToNat] at *; omega)) ?_ | refine hC.iinc [] rfl rfl rfl rfl (by first | omega | (simp only [Int.reduceToNat] at *; omega)) ?_ | refine hC.pfw (W := cx_C) [] rfl rfl rfl rfl rfl rfl ?_ ?_ | refine hC.iaw (W := cx_C) [] rfl rfl rfl rfl ?_ ?_ | refine hC.law (W := cx_C) [] rfl rfl rfl rfl ?_ ?_ | refine hC.cpw (W := cx_C) [] rfl rfl rfl rfl rfl rfl ?_ | refine hC.cpl (W := cx_C) [] rfl rfl rfl rfl rfl rfl ?_ | refine hC.go [] _ rfl rfl ?_ | (intro h; first | exact (h rfl).elim | (exfalso; cases h; done) | (dsimp only [kk_cP, kk_cN] at h) | skip) | (refine hC.call (xx_isWithin l _ _ _ _) [] rfl rfl rfl rfl rfl rfl trivial (Nat.le_refl _) ?_; rintro rs w' ⟨rfl, ⟨rfl, w1, w2⟩ | ⟨rfl, w1⟩⟩)
  all_goals first | exact ⟨_, _, rfl, hJ, _, rfl⟩ | omega
set_option maxRecDepth 100000 in
set_option maxHeartbeats 4000000 in
theorem cr_count (hJ : ci_J Bc tl k0 k1 O A) (q : Int) : kk_Ctr l (d + 40) en_t_X10_count [(4, 0), (0, q)] (cx_C O A) (fun rs w' => ∃ O' A', w' = cx_C O' A' ∧ ci_J Bc tl k0 k1 O' A' ∧ ∃ x, rs = [(0, x)] ∧ (q = 5 → x = tl)) := by
  have e1 := hJ.2.1
  refine kk_ctr en_hM (List.mem_of_getElem? (i := 33) rfl) rfl (Nat.le_of_ble_eq_true rfl) (fun K hC => ?_)
  repeat' first | refine hC.gw [] _ rfl rfl ?_ | refine And.intro ?_ ?_ | exact True.intro | refine hC.iadd [] rfl rfl (by first | omega | (simp only [Int.reduceToNat] at *; omega)) ?_ | refine hC.isub [] rfl rfl (by first | omega | (simp only [Int.reduceToNat] at *; omega)) ?_ | refine hC.imul [] rfl rfl (by first | omega | (simp only [Int.reduceToNat] at *; omega)) ?_ | refine hC.iinc [] rfl rfl rfl rfl (by first | omega | (simp only [Int.reduceToNat] at *; omega)) ?_ | refine hC.pfw (W := cx_C) [] rfl rfl rfl rfl rfl rfl ?_ ?_ | refine hC.iaw (W := cx_C) [] rfl rfl rfl rfl ?_ ?_ | refine hC.law (W := cx_C) [] rfl rfl rfl rfl ?_ ?_ | refine hC.cpw (W := cx_C) [] rfl rfl rfl rfl rfl rfl ?_ | refine hC.cpl (W := cx_C) [] rfl rfl rfl rfl rfl rfl ?_ | refine hC.go [] _ rfl rfl ?_ | (intro h; first | exact (h rfl).elim | (exfalso; cases h; done) | (dsimp only [kk_cP, kk_cN] at h) | skip)
  all_goals first | exact ⟨_, _, rfl, hJ, _, rfl, fun _ => by omega⟩ | omega
end CR
set_option maxRecDepth 100000 in
set_option maxHeartbeats 4000000 in
theorem xx_placeOfBit (l : Launch) (d : Nat) (a k : Int) : kk_Ctr l (d + 1) en_t_X10_placeOfBit [(0, a), (0, k)] [] (fun rs w' => w' = [] ∧ ∃ y, rs = [(0, y)]) := by
  refine kk_ctr en_hM (List.mem_of_getElem? (i := 42) rfl) rfl (Nat.le_of_ble_eq_true rfl) (fun K hC => ?_)
  have k4 : ∀ (n : Nat) (e : Int) (s : Int), (9 - e).toNat < n → (0 ≤ e ∧ e ≤ 8) → K 4 [(0, (0, a)), (1, (0, k)), (2, (0, s)), (3, (0, e))] [] [] := by
    intro n
    induction n with
    | zero => intro e s hz; exact absurd hz (Nat.not_lt_zero _)
    | succ n ih =>
      intro e s hn g0
      refine hC.go [] _ rfl rfl ?_
      repeat' first | refine hC.gn [4] _ rfl rfl ?_ | refine And.intro ?_ ?_ | exact True.intro | refine hC.iadd [4] rfl rfl (by first | omega | (simp only [Int.reduceToNat] at *; omega)) ?_ | refine hC.isub [4] rfl rfl (by first | omega | (simp only [Int.reduceToNat] at *; omega)) ?_ | refine hC.imul [4] rfl rfl (by first | omega | (simp only [Int.reduceToNat] at *; omega)) ?_ | refine hC.iinc [4] rfl rfl rfl rfl (by first | omega | (simp only [Int.reduceToNat] at *; omega)) ?_ | refine hC.go [4] _ rfl rfl ?_ | (intro h; first | exact (h rfl).elim | (exfalso; cases h; done) | (dsimp only [kk_cP, kk_cN] at h) | skip) | (refine hC.call (xx_hasBit l _ _ _) [] rfl rfl rfl rfl rfl rfl trivial (Nat.le_refl _) ?_; rintro rs w' ⟨rfl, rfl | rfl⟩)
      all_goals first | rfl | omega | exact ⟨_, rfl⟩ | exact Or.inl rfl | exact Or.inr rfl | (simp only [Int.reduceToNat] at *; omega) | exact hC.sub [(0, (0, _)), (1, (0, _)), (2, (0, _)), (3, (0, _))] ⟨rfl, rfl, rfl, rfl, trivial⟩ (ih _ _ (by omega) (by omega))
  repeat' first | refine hC.gn [4] _ rfl rfl ?_ | refine And.intro ?_ ?_ | exact True.intro | refine hC.iadd [4] rfl rfl (by first | omega | (simp only [Int.reduceToNat] at *; omega)) ?_ | refine hC.isub [4] rfl rfl (by first | omega | (simp only [Int.reduceToNat] at *; omega)) ?_ | refine hC.imul [4] rfl rfl (by first | omega | (simp only [Int.reduceToNat] at *; omega)) ?_ | refine hC.iinc [4] rfl rfl rfl rfl (by first | omega | (simp only [Int.reduceToNat] at *; omega)) ?_ | refine hC.go [4] _ rfl rfl ?_ | (intro h; first | exact (h rfl).elim | (exfalso; cases h; done) | (dsimp only [kk_cP, kk_cN] at h) | skip)
  exact hC.sub [(0, (0, _)), (1, (0, _)), (2, (0, _)), (3, (0, _))] ⟨rfl, rfl, rfl, rfl, trivial⟩ (k4 _ _ _ (Nat.lt_succ_self _) (by omega))
