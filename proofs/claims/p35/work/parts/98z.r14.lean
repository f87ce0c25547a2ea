/-! READING, 14: the reference reads, exactly -/
def rmw (n mo : Int) (a : Int → Int) (res : Nat → Int) (c : Int) (F : Nat → Int) (A : Nat → Nat → Int) : Prop := rm n mo a res c F ∧ tk_at n a c ∧ (fun i => tt_v 940 n (A 1) i) = a ∧ tk_cx n a
section
variable {n mo : Int} {a : Int → Int} {res : Nat → Int} {c : Int} {F : Nat → Int} {A : Nat → Nat → Int}
theorem rmw.tok (h : rmw n mo a res c F A) : tk_tok res (tk_ob n mo a res c) F := h.1.2.2.1
theorem rmw.pl (h : rmw n mo a res c F A) : tk_ob n mo a res c 4 = F 6 := h.1.2.2.2.1
theorem rmw.ok (h : rmw n mo a res c F A) : mm_ok F := by
  have h1 := h.1.2.2.2.2.2
  have h2 := h.2.2.2.2
  have h3 := h.1.1
  refine ⟨by omega, by omega, by omega, fun q => ?_⟩
  obtain ⟨k1, k2⟩ := h.tok.k2
  exact (k2 (k1.mp q)).le
end
theorem tm_T.ge {n most : Int} {a : Int → Int} {q : Int} {F : Nat → Int} (h : tm_T n most a q F) : q ≤ F 5 := by
  rcases h with ⟨c, h7, h6, h5⟩ | ⟨c, c2, h7, h6, h5⟩ | ⟨c, c2, h6, ⟨an, h5, hk⟩ | ⟨an, h5, hk⟩⟩
  · omega
  · omega
  · have e2 := tk_en_ge (a := a) (k := 940) (p := q)
    omega
  · omega
section
variable (l : Launch) (d : Nat) {n mo : Int} {a : Int → Int} {res : Nat → Int} {c : Int} (F : Nat → Int) (A : Nat → Nat → Int)
theorem mz_go (hr : rmw n mo a res c F A) : kk_Ctr l (d + 1) en_t_X11_go [(4, 0)] (mm_w F A) (fun rs w' => rs = [] ∧ ∃ F', w' = mm_w F' A ∧ mx_f F F' ∧ mm_p F F' ∧ rmw n mo a res (tk_nx n mo a res c) F' A) := by
  obtain ⟨hm, hat, ha, hx⟩ := hr
  obtain ⟨e3, e4, htok, hpl, hnx, b0, b1⟩ := id hm
  refine (mm_xGo l d F A b0 (by omega) (by have := hx.2; omega)).mono ?_
  rintro rs w' ⟨rfl, F', rfl, hf, hT⟩
  have ea : mx_a F A = a := by rw [← ha]; unfold mx_a; rw [e3]
  rw [ea, e3, e4] at hT
  have hge := hT.ge
  obtain ⟨-, s2, -⟩ := tk_sk_x hx.1 (k := 940) (p := F 5) (by have := hx.2; omega)
  rw [hnx] at hT
  have g3 : F' 3 = n := (hf 3 (by decide) (by decide) (by decide) (by decide) (by decide) (by decide)).trans e3
  have g4 : F' 4 = mo := (hf 4 (by decide) (by decide) (by decide) (by decide) (by decide) (by decide)).trans e4
  have hrw : rmw n mo a res (tk_nx n mo a res c) F' A := ⟨rm_new hx (hat.nx hx) g3 g4 hT, hat.nx hx, ha, hx⟩
  exact ⟨rfl, F', rfl, hf, ⟨fun k hk => hf k (by omega) (by omega) (by omega) (by omega) (by omega) (by omega), hrw.ok, by omega⟩, hrw⟩
set_option maxRecDepth 100000 in
set_option maxHeartbeats 4000000 in
theorem mm_xIsWord (k : Nat) (hk : k < 24) : kk_Ctr l (d + 2) en_t_X11_isWord [(4, 0), (0, (k : Int))] (mm_w F A) (fun rs w' => w' = mm_w F A ∧ ((rs = [(0, 1)] ∧ F 7 = 2 ∧ F 12 = wv k) ∨ (rs = [(0, 0)] ∧ ¬ (F 7 = 2 ∧ F 12 = wv k)))) := by
  refine kk_ctr en_hM (List.mem_of_getElem? (i := 255) rfl) rfl (Nat.le_of_ble_eq_true rfl) (fun K hC => ?_)
  repeat' first | refine hC.gn [] _ rfl rfl ?_ | refine And.intro ?_ ?_ | exact True.intro | refine hC.iadd [] rfl rfl (by first | omega | (simp only [Int.reduceToNat] at *; omega)) ?_ | refine hC.isub [] rfl rfl (by first | omega | (simp only [Int.reduceToNat] at *; omega)) ?_ | refine hC.imul [] rfl rfl (by first | omega | (simp only [Int.reduceToNat] at *; omega)) ?_ | refine hC.iinc [] rfl rfl rfl rfl (by first | omega | (simp only [Int.reduceToNat] at *; omega)) ?_ | refine hC.go [] _ rfl rfl ?_ | (intro h; first | exact (h rfl).elim | (exfalso; cases h; done) | (dsimp only [kk_cP, kk_cN] at h) | skip)
  all_goals first | rfl | omega | exact Or.inl rfl | exact Or.inr rfl | exact Or.inr ⟨rfl, by omega⟩ | skip
  refine hC.call (mm_xWordOf l _ k hk) [] rfl rfl rfl rfl rfl rfl trivial (Nat.le_refl _) ?_
  rintro rs w' ⟨rfl, x, rfl, hx⟩
  repeat' first | refine hC.gn [] _ rfl rfl ?_ | refine And.intro ?_ ?_ | exact True.intro | refine hC.iadd [] rfl rfl (by first | omega | (simp only [Int.reduceToNat] at *; omega)) ?_ | refine hC.isub [] rfl rfl (by first | omega | (simp only [Int.reduceToNat] at *; omega)) ?_ | refine hC.imul [] rfl rfl (by first | omega | (simp only [Int.reduceToNat] at *; omega)) ?_ | refine hC.iinc [] rfl rfl rfl rfl (by first | omega | (simp only [Int.reduceToNat] at *; omega)) ?_ | refine hC.go [] _ rfl rfl ?_ | (intro h; first | exact (h rfl).elim | (exfalso; cases h; done) | (dsimp only [kk_cP, kk_cN] at h) | skip)
  all_goals first | rfl | omega | exact Or.inl rfl | exact Or.inr rfl | exact Or.inl ⟨rfl, by assumption, (kk_cmp0.mp (by assumption)).trans hx⟩ | exact Or.inr ⟨rfl, fun g => absurd (kk_cmp0.mpr (g.2.trans hx.symm)) (by assumption)⟩
set_option maxRecDepth 100000 in
set_option maxHeartbeats 4000000 in
theorem mm_xIsSign (m : Int) : kk_Ctr l d en_t_X11_isSign [(4, 0), (0, m)] (mm_w F A) (fun rs w' => w' = mm_w F A ∧ ((rs = [(0, 1)] ∧ F 7 = 4 ∧ F 9 = m) ∨ (rs = [(0, 0)] ∧ ¬ (F 7 = 4 ∧ F 9 = m)))) := by
  refine kk_ctr en_hM (List.mem_of_getElem? (i := 262) rfl) rfl (Nat.le_of_ble_eq_true rfl) (fun K hC => ?_)
  repeat' first | refine hC.gn [] _ rfl rfl ?_ | refine And.intro ?_ ?_ | exact True.intro | refine hC.iadd [] rfl rfl (by first | omega | (simp only [Int.reduceToNat] at *; omega)) ?_ | refine hC.isub [] rfl rfl (by first | omega | (simp only [Int.reduceToNat] at *; omega)) ?_ | refine hC.imul [] rfl rfl (by first | omega | (simp only [Int.reduceToNat] at *; omega)) ?_ | refine hC.iinc [] rfl rfl rfl rfl (by first | omega | (simp only [Int.reduceToNat] at *; omega)) ?_ | refine hC.go [] _ rfl rfl ?_ | (intro h; first | exact (h rfl).elim | (exfalso; cases h; done) | (dsimp only [kk_cP, kk_cN] at h) | skip)
  all_goals first | rfl | omega | exact Or.inl rfl | exact Or.inr rfl | exact Or.inl ⟨rfl, by omega, by omega⟩ | exact Or.inr ⟨rfl, by omega⟩
set_option maxRecDepth 100000 in
set_option maxHeartbeats 4000000 in
theorem mm_xIsName : kk_Ctr l (d + 2) en_t_X11_isName [(4, 0)] (mm_w F A) (fun rs w' => w' = mm_w F A ∧ ((rs = [(0, 1)] ∧ F 7 = 2 ∧ ∀ k : Nat, k < 24 → F 12 ≠ wv k) ∨ (rs = [(0, 0)] ∧ ¬ (F 7 = 2 ∧ ∀ k : Nat, k < 24 → F 12 ≠ wv k)))) := by
  refine kk_ctr en_hM (List.mem_of_getElem? (i := 271) rfl) rfl (Nat.le_of_ble_eq_true rfl) (fun K hC => ?_)
  have key : F 7 = 2 → ∀ (j : Nat) (k : Nat), 24 - k < j → k ≤ 24 → (∀ i : Nat, i < k → F 12 ≠ wv i) → K 12 [(0, (4, 0)), (1, (0, (k : Int)))] [] (mm_w F A) := by
    intro h7 j
    induction j with
    | zero => intro k h; exact absurd h (Nat.not_lt_zero _)
    | succ j ih =>
      intro k hj hk hw
      refine hC.go [] _ rfl rfl ?_
      repeat' first | refine hC.gn [12] _ rfl rfl ?_ | refine And.intro ?_ ?_ | exact True.intro | refine hC.iadd [12] rfl rfl (by first | omega | (simp only [Int.reduceToNat] at *; omega)) ?_ | refine hC.isub [12] rfl rfl (by first | omega | (simp only [Int.reduceToNat] at *; omega)) ?_ | refine hC.imul [12] rfl rfl (by first | omega | (simp only [Int.reduceToNat] at *; omega)) ?_ | refine hC.iinc [12] rfl rfl rfl rfl (by first | omega | (simp only [Int.reduceToNat] at *; omega)) ?_ | refine hC.go [12] _ rfl rfl ?_ | (intro h; first | exact (h rfl).elim | (exfalso; cases h; done) | (dsimp only [kk_cP, kk_cN] at h) | skip)
      all_goals first | rfl | omega | exact Or.inl rfl | exact Or.inr rfl | exact Or.inl ⟨rfl, h7, fun i hi => hw i (by omega)⟩ | skip
      refine hC.call (mm_xWordOf l _ k (by omega)) [] rfl rfl rfl rfl rfl rfl trivial (Nat.le_refl _) ?_
      rintro rs w' ⟨rfl, x, rfl, hx⟩
      repeat' first | refine hC.gn [12] _ rfl rfl ?_ | refine And.intro ?_ ?_ | exact True.intro | refine hC.iadd [12] rfl rfl (by first | omega | (simp only [Int.reduceToNat] at *; omega)) ?_ | refine hC.isub [12] rfl rfl (by first | omega | (simp only [Int.reduceToNat] at *; omega)) ?_ | refine hC.imul [12] rfl rfl (by first | omega | (simp only [Int.reduceToNat] at *; omega)) ?_ | refine hC.iinc [12] rfl rfl rfl rfl (by first | omega | (simp only [Int.reduceToNat] at *; omega)) ?_ | refine hC.go [12] _ rfl rfl ?_ | (intro h; first | exact (h rfl).elim | (exfalso; cases h; done) | (dsimp only [kk_cP, kk_cN] at h) | skip)
      all_goals first | rfl | omega | exact Or.inl rfl | exact Or.inr rfl | exact Or.inr ⟨rfl, fun g => g.2 k (by omega) ((kk_cmp0.mp (by assumption)).trans hx)⟩ | skip
      refine hC.sub [(0, (4, 0)), (1, (0, _))] ⟨rfl, rfl, trivial⟩ (ih (k + 1) (by omega) (by omega) (fun i hi => ?_))
      by_cases e : i = k
      · rw [e]; exact fun q => absurd (kk_cmp0.mpr (q.trans hx.symm)) (by assumption)
      · exact hw i (by omega)
  repeat' first | refine hC.gn [12] _ rfl rfl ?_ | refine And.intro ?_ ?_ | exact True.intro | refine hC.iadd [12] rfl rfl (by first | omega | (simp only [Int.reduceToNat] at *; omega)) ?_ | refine hC.isub [12] rfl rfl (by first | omega | (simp only [Int.reduceToNat] at *; omega)) ?_ | refine hC.imul [12] rfl rfl (by first | omega | (simp only [Int.reduceToNat] at *; omega)) ?_ | refine hC.iinc [12] rfl rfl rfl rfl (by first | omega | (simp only [Int.reduceToNat] at *; omega)) ?_ | refine hC.go [12] _ rfl rfl ?_ | (intro h; first | exact (h rfl).elim | (exfalso; cases h; done) | (dsimp only [kk_cP, kk_cN] at h) | skip)
  all_goals first | rfl | omega | exact Or.inl rfl | exact Or.inr rfl | exact Or.inr ⟨rfl, by omega⟩ | exact hC.sub [(0, (4, 0)), (1, (0, _))] ⟨rfl, rfl, trivial⟩ (key (by omega) _ 0 (Nat.lt_succ_self _) (by omega) (fun i hi => absurd hi (by omega)))
set_option maxRecDepth 100000 in
set_option maxHeartbeats 4000000 in
theorem mm_xBad (k : Int) : kk_Ctr l d en_t_X11_bad [(4, 0), (0, k)] (mm_w F A) (fun rs w' => rs = [(0, 0)] ∧ ∃ x, w' = mm_w (kk_up (kk_up F 10 x) 11 (F 6)) A ∧ ((F 7 = 1 ∧ x = 1) ∨ (F 7 ≠ 1 ∧ x = k))) := by
  refine kk_ctr en_hM (List.mem_of_getElem? (i := 252) rfl) rfl (Nat.le_of_ble_eq_true rfl) (fun K hC => ?_)
  repeat' first | refine hC.gn [] _ rfl rfl ?_ | refine And.intro ?_ ?_ | exact True.intro | refine hC.iadd [] rfl rfl (by first | omega | (simp only [Int.reduceToNat] at *; omega)) ?_ | refine hC.isub [] rfl rfl (by first | omega | (simp only [Int.reduceToNat] at *; omega)) ?_ | refine hC.imul [] rfl rfl (by first | omega | (simp only [Int.reduceToNat] at *; omega)) ?_ | refine hC.iinc [] rfl rfl rfl rfl (by first | omega | (simp only [Int.reduceToNat] at *; omega)) ?_ | refine hC.go [] _ rfl rfl ?_ | (intro h; first | exact (h rfl).elim | (exfalso; cases h; done) | (dsimp only [kk_cP, kk_cN] at h) | skip)
  all_goals first | rfl | omega | exact Or.inl rfl | exact ⟨_, rfl, Or.inl ⟨by omega, rfl⟩⟩ | exact ⟨_, rfl, Or.inr ⟨by omega, rfl⟩⟩
set_option maxRecDepth 100000 in
set_option maxHeartbeats 4000000 in
theorem mm_xHas (v a : Int) : kk_Ctr l d en_t_X11_has [(0, v), (0, a)] [] (fun rs w' => w' = [] ∧ ((rs = [(0, 1)] ∧ kk_i2 3 (kk_i2 7 v a) 1 = 1) ∨ (rs = [(0, 0)] ∧ kk_i2 3 (kk_i2 7 v a) 1 ≠ 1))) := by
  refine kk_ctr en_hM (List.mem_of_getElem? (i := 247) rfl) rfl (Nat.le_of_ble_eq_true rfl) (fun K hC => ?_)
  repeat' first | refine hC.gn [] _ rfl rfl ?_ | refine And.intro ?_ ?_ | exact True.intro | refine hC.iadd [] rfl rfl (by first | omega | (simp only [Int.reduceToNat] at *; omega)) ?_ | refine hC.isub [] rfl rfl (by first | omega | (simp only [Int.reduceToNat] at *; omega)) ?_ | refine hC.imul [] rfl rfl (by first | omega | (simp only [Int.reduceToNat] at *; omega)) ?_ | refine hC.iinc [] rfl rfl rfl rfl (by first | omega | (simp only [Int.reduceToNat] at *; omega)) ?_ | refine hC.go [] _ rfl rfl ?_ | (intro h; first | exact (h rfl).elim | (exfalso; cases h; done) | (dsimp only [kk_cP, kk_cN] at h) | skip)
  all_goals first | rfl | exact Or.inl rfl | exact Or.inr rfl | exact Or.inl ⟨rfl, by assumption⟩ | exact Or.inr ⟨rfl, by assumption⟩
set_option maxRecDepth 100000 in
set_option maxHeartbeats 4000000 in
theorem mm_xFindIn (n : Nat) (f : Nat → Int) (base : Nat) (many : Int) (w : Int) (hm : (base : Int) + many ≤ n) (hn : n ≤ 1000) (h0 : 0 ≤ many) : kk_Ctr l d en_t_X11_findIn [(4, 0), (0, (base : Int)), (0, many), (2, w)] [(2, n, [], f)] (fun rs w' => w' = [(2, n, [], f)] ∧ ∃ x, rs = [(0, x)] ∧ fi_I f base many w x) := by
  refine kk_ctr en_hM (List.mem_of_getElem? (i := 272) rfl) rfl (Nat.le_of_ble_eq_true rfl) (fun K hC => ?_)
  have key : ∀ (j : Nat) (i : Int), (many - i).toNat < j → 0 ≤ i → i ≤ many → (∀ k : Nat, (k : Int) < i → f (base + k) ≠ w) → K 3 [(0, (4, 0)), (1, (0, (base : Int))), (2, (0, many)), (3, (2, w)), (5, (0, i))] [] [(2, n, [], f)] := by
    intro j
    induction j with
    | zero => intro i h; exact absurd h (Nat.not_lt_zero _)
    | succ j ih =>
      intro i hj hi him hk
      have e : ((base : Int) + i).toNat = base + i.toNat := by omega
      refine hC.go [] _ rfl rfl ?_
      repeat' first | refine hC.gn [3] _ rfl rfl ?_ | refine And.intro ?_ ?_ | exact True.intro | refine hC.iadd [3] rfl rfl (by first | omega | (simp only [Int.reduceToNat] at *; omega)) ?_ | refine hC.isub [3] rfl rfl (by first | omega | (simp only [Int.reduceToNat] at *; omega)) ?_ | refine hC.imul [3] rfl rfl (by first | omega | (simp only [Int.reduceToNat] at *; omega)) ?_ | refine hC.iinc [3] rfl rfl rfl rfl (by first | omega | (simp only [Int.reduceToNat] at *; omega)) ?_ | refine hC.go [3] _ rfl rfl ?_ | (intro h; first | exact (h rfl).elim | (exfalso; cases h; done) | (dsimp only [kk_cP, kk_cN] at h) | skip)
      all_goals first | rfl | omega | exact ⟨_, rfl, Or.inr ⟨rfl, fun k hkk => hk k (by omega)⟩⟩ | exact ⟨_, rfl, Or.inl ⟨hi, by assumption, by rw [← e]; exact kk_cmp0.mp (by assumption), hk⟩⟩ | skip
      refine hC.sub [(0, (4, 0)), (1, (0, (base : Int))), (2, (0, many)), (3, (2, w)), (5, (0, _))] ⟨rfl, rfl, rfl, rfl, rfl, trivial⟩ (ih _ (by omega) (by omega) (by omega) (fun k hkk => ?_))
      by_cases ek : (k : Int) < i
      · exact hk k ek
      · rw [show base + k = ((base : Int) + i).toNat by omega]
        exact fun q => absurd (kk_cmp0.mpr q) (by assumption)
  repeat' first | refine hC.gn [3] _ rfl rfl ?_ | refine And.intro ?_ ?_ | exact True.intro | refine hC.iadd [3] rfl rfl (by first | omega | (simp only [Int.reduceToNat] at *; omega)) ?_ | refine hC.isub [3] rfl rfl (by first | omega | (simp only [Int.reduceToNat] at *; omega)) ?_ | refine hC.imul [3] rfl rfl (by first | omega | (simp only [Int.reduceToNat] at *; omega)) ?_ | refine hC.iinc [3] rfl rfl rfl rfl (by first | omega | (simp only [Int.reduceToNat] at *; omega)) ?_ | refine hC.go [3] _ rfl rfl ?_ | (intro h; first | exact (h rfl).elim | (exfalso; cases h; done) | (dsimp only [kk_cP, kk_cN] at h) | skip)
  exact hC.sub [(0, (4, 0)), (1, (0, (base : Int))), (2, (0, many)), (3, (2, w)), (5, (0, _))] ⟨rfl, rfl, rfl, rfl, rfl, trivial⟩ (key _ _ (Nat.lt_succ_self _) (by omega) (by omega) (fun k hk => absurd hk (by omega)))
end
