/-! READING, 6: the reference's token -/
theorem mx_wd {k : Nat} {x c : Int} (hk : k < 7) (h1 : -2 * mm_B k + 2 ≤ x) (h2 : x ≤ mm_B k - 1) (h3 : 48 ≤ c) (h4 : c ≤ 122) : kk_l2 1 (kk_l2 0 (kk_l2 2 27 x) c) 96 = 27 * x + c - 96 := by
  obtain ⟨e1, e2, e3⟩ := mm_B_s hk
  rw [kk_lmul (by omega), kk_ladd (by omega), kk_lsub (by omega)]
def mx_f (F F' : Nat → Int) : Prop := ∀ k, k ≠ 5 → k ≠ 6 → k ≠ 7 → k ≠ 8 → k ≠ 9 → k ≠ 12 → F' k = F k
theorem mx_f.up {F F1 : Nat → Int} (h : mx_f F F1) {b : Nat} {v : Int} (hb : b = 5 ∨ b = 6 ∨ b = 7 ∨ b = 8 ∨ b = 9 ∨ b = 12) : mx_f F (kk_up F1 b v) := fun k h5 h6 h7 h8 h9 h12 => by
  rw [kk_up_ne (by omega)]
  exact h k h5 h6 h7 h8 h9 h12
def tm_R (a : Int → Int) (q : Int) (F : Nat → Int) : Prop := F 5 = tk_en a 940 q ∧ ∃ lt b, mq a q (F 5) lt b (F 12) (F 8) ∧ ((b = 1 ∧ lt = 1 ∧ F 5 - q ≤ 7 ∧ F 7 = 2) ∨ (b = 1 ∧ lt = 0 ∧ F 5 - q ≤ 3 ∧ F 7 = 3) ∨ (¬ (b = 1 ∧ lt = 1 ∧ F 5 - q ≤ 7) ∧ ¬ (b = 1 ∧ lt = 0 ∧ F 5 - q ≤ 3) ∧ F 7 = 1))
def tm_T (n most : Int) (a : Int → Int) (q : Int) (F : Nat → Int) : Prop :=
  ((most < n ∧ most ≤ q) ∧ F 7 = 1 ∧ F 6 = most ∧ F 5 = q) ∨ (¬ (most < n ∧ most ≤ q) ∧ n ≤ q ∧ F 7 = 0 ∧ F 6 = q ∧ F 5 = q) ∨ (¬ (most < n ∧ most ≤ q) ∧ q < n ∧ F 6 = q ∧ ((tk_an (a q) = true ∧ tm_R a q F) ∨ (tk_an (a q) = false ∧ F 5 = q + 1 ∧ F 9 = a q ∧ ((tk_sg (a q) = true ∧ F 7 = 4) ∨ (tk_sg (a q) = false ∧ F 7 = 1)))))
theorem tk_an_f {c : Int} (h1 : ¬ (97 ≤ c ∧ c ≤ 122)) (h2 : ¬ (48 ≤ c ∧ c ≤ 57)) : tk_an c = false := by
  unfold tk_an
  rw [tk_no tk_lt_t h1, tk_no tk_dg_t h2]
  rfl
theorem tk_an_l {c : Int} (h : 97 ≤ c ∧ c ≤ 122) : tk_an c = true := by
  unfold tk_an
  rw [tk_lt_t.mpr h]
  rfl
theorem tk_an_d {c : Int} (h : 48 ≤ c ∧ c ≤ 57) : tk_an c = true := by
  unfold tk_an
  rw [tk_dg_t.mpr h, Bool.or_true]
theorem mx_b {a : Int → Int} {q lt g c : Int} (h : (lt = 1 ∧ tk_lt (a q) = true) ∨ (lt = 0 ∧ tk_lt (a q) = false)) (hg : (g = 1 ∧ 97 ≤ c ∧ c ≤ 122) ∨ (g = 0 ∧ ¬ (97 ≤ c ∧ c ≤ 122))) : (g = lt → tk_lt c = tk_lt (a q)) ∧ (g ≠ lt → tk_lt c ≠ tk_lt (a q)) := by
  rcases hg with ⟨rfl, hc⟩ | ⟨rfl, hc⟩
  · rw [tk_lt_t.mpr hc]
    rcases h with ⟨rfl, h⟩ | ⟨rfl, h⟩ <;> rw [h] <;> simp
  · rw [tk_no tk_lt_t hc]
    rcases h with ⟨rfl, h⟩ | ⟨rfl, h⟩ <;> rw [h] <;> simp
set_option maxRecDepth 100000 in
set_option maxHeartbeats 4000000 in
theorem mm_xGo (l : Launch) (d : Nat) (F : Nat → Int) (A : Nat → Nat → Int) (y0 : 0 ≤ F 5) (y1 : F 5 ≤ F 3) (y2 : F 3 ≤ 940) : kk_Ctr l (d + 1) en_t_X11_go [(4, 0)] (mm_w F A) (fun rs w' => rs = [] ∧ ∃ F', w' = mm_w F' A ∧ mx_f F F' ∧ tm_T (F 3) (F 4) (mx_a F A) (tk_sk (mx_a F A) 940 (F 5)) F') := by
  generalize hq0 : tk_sk (mx_a F A) 940 (F 5) = q
  refine kk_ctr en_hM (List.mem_of_getElem? (i := 254) rfl) rfl (Nat.le_of_ble_eq_true rfl) (fun K hC => ?_)
  have fin : ∀ (F1 : Nat → Int) (lt b : Int), mx_f F F1 → F1 6 = q → F1 5 = tk_en (mx_a F A) 940 q → mq (mx_a F A) q (F1 5) lt b (F1 12) (F1 8) → q < F 3 → tk_an (mx_a F A q) = true → ¬ (F 4 < F 3 ∧ F 4 ≤ q) → F1 5 ≤ 940 → 0 ≤ q → K 350 [(0, (4, 0)), (2, (0, lt)), (3, (0, b))] [] (mm_w F1 A) := by
    intro F1 lt b hf h6 he hr qn han hm h94 q0
    have hl : lt = 1 ∨ lt = 0 := by rcases hr.2.1 with ⟨e, -⟩ | ⟨e, -⟩ <;> omega
    have hb : b = 1 ∨ b = 0 := by rcases hr.2.2.1 with ⟨e, -⟩ | ⟨e, -⟩ <;> omega
    have hqi := hr.1
    refine hC.go [] _ rfl rfl ?_
    repeat' first | refine hC.gn [] _ rfl rfl ?_ | refine And.intro ?_ ?_ | exact True.intro | refine hC.iadd [] rfl rfl (by first | omega | (simp only [Int.reduceToNat] at *; omega)) ?_ | refine hC.isub [] rfl rfl (by first | omega | (simp only [Int.reduceToNat] at *; omega)) ?_ | refine hC.imul [] rfl rfl (by first | omega | (simp only [Int.reduceToNat] at *; omega)) ?_ | refine hC.iinc [] rfl rfl rfl rfl (by first | omega | (simp only [Int.reduceToNat] at *; omega)) ?_ | refine hC.go [] _ rfl rfl ?_ | (intro h; first | exact (h rfl).elim | (exfalso; cases h; done) | (dsimp only [kk_cP, kk_cN] at h) | skip)
    all_goals first | rfl | exact ⟨kk_up F1 7 _, rfl, hf.up (by omega), Or.inr (Or.inr ⟨hm, qn, h6, Or.inl ⟨han, he, lt, b, hr, Or.inr (Or.inr ⟨fun hh => (by have hh : b = 1 ∧ lt = 1 ∧ F1 5 - q ≤ 7 := hh; omega), fun hh => (by have hh : b = 1 ∧ lt = 0 ∧ F1 5 - q ≤ 3 := hh; omega), rfl⟩)⟩⟩)⟩ | exact ⟨kk_up F1 7 _, rfl, hf.up (by omega), Or.inr (Or.inr ⟨hm, qn, h6, Or.inl ⟨han, he, lt, b, hr, Or.inl ⟨by omega, by omega, (show F1 5 - q ≤ 7 by omega), rfl⟩⟩⟩)⟩ | exact ⟨kk_up F1 7 _, rfl, hf.up (by omega), Or.inr (Or.inr ⟨hm, qn, h6, Or.inl ⟨han, he, lt, b, hr, Or.inr (Or.inl ⟨by omega, by omega, (show F1 5 - q ≤ 3 by omega), rfl⟩)⟩⟩)⟩
  have lp : ∀ (n : Nat) (F1 : Nat → Int) (lt b : Int) (f : Nat), (F 3 - F1 5).toNat < n → mx_f F F1 → F1 6 = q → F1 5 ≤ F 3 → 0 ≤ q → q < F 3 → tk_an (mx_a F A q) = true → ¬ (F 4 < F 3 ∧ F 4 ≤ q) → mq (mx_a F A) q (F1 5) lt b (F1 12) (F1 8) → (f : Int) = 940 - (F1 5 - q) → tk_en (mx_a F A) f (F1 5) = tk_en (mx_a F A) 940 q → K 215 [(0, (4, 0)), (2, (0, lt)), (3, (0, b))] [] (mm_w F1 A) := by
    intro n
    induction n with
    | zero => intro F1 lt b f h; exact absurd h (Nat.not_lt_zero _)
    | succ n ih =>
      intro F1 lt b f hn hf h6 g3 q0 qn han hm hr hu he
      have e3 : F1 3 = F 3 := hf 3 (by decide) (by decide) (by decide) (by decide) (by decide) (by decide)
      have hqi := hr.1
      have hl : lt = 1 ∨ lt = 0 := by rcases hr.2.1 with ⟨e, -⟩ | ⟨e, -⟩ <;> omega
      have hb : b = 1 ∨ b = 0 := by rcases hr.2.2.1 with ⟨e, -⟩ | ⟨e, -⟩ <;> omega
      have k350 : tk_an (mx_a F A (F1 5)) = false → K 350 [(0, (4, 0)), (2, (0, lt)), (3, (0, b))] [] (mm_w F1 A) := fun hna => fin F1 lt b hf h6 (by rw [← he]; exact (tk_en_n hna).symm) hr qn han hm (by omega) q0
      have k337 : ∀ (F2 : Nat → Int) (b : Int), F1 5 < F 3 → tk_an (mx_a F A (F1 5)) = true → mx_f F F2 → F2 5 = F1 5 → F2 6 = q → mq (mx_a F A) q (F1 5 + 1) lt b (F2 12) (F2 8) → K 337 [(0, (4, 0)), (2, (0, lt)), (3, (0, b))] [] (mm_w F2 A) := by
        intro F2 b hi ha hf2 e5 e6 hr2
        obtain ⟨f', rfl⟩ : ∃ f', f = f' + 1 := ⟨f - 1, by omega⟩
        refine hC.go [] _ rfl rfl ?_
        repeat' first | refine hC.gn [215] _ rfl rfl ?_ | refine And.intro ?_ ?_ | exact True.intro | refine hC.iadd [215] rfl rfl (by first | omega | (simp only [Int.reduceToNat] at *; omega)) ?_ | refine hC.isub [215] rfl rfl (by first | omega | (simp only [Int.reduceToNat] at *; omega)) ?_ | refine hC.imul [215] rfl rfl (by first | omega | (simp only [Int.reduceToNat] at *; omega)) ?_ | refine hC.iinc [215] rfl rfl rfl rfl (by first | omega | (simp only [Int.reduceToNat] at *; omega)) ?_ | refine hC.go [215] _ rfl rfl ?_ | (intro h; first | exact (h rfl).elim | (exfalso; cases h; done) | (dsimp only [kk_cP, kk_cN] at h) | skip)
        refine hC.sub [(0, (4, 0)), (2, (0, lt)), (3, (0, b))] ⟨rfl, rfl, rfl, trivial⟩ (ih (kk_up F2 5 (F2 5 + 1)) lt b f' (show (F 3 - (F2 5 + 1)).toNat < n by omega) (hf2.up (by omega)) e6 (show F2 5 + 1 ≤ F 3 by omega) q0 qn han hm (by show mq (mx_a F A) q (F2 5 + 1) lt b (F2 12) (F2 8); rw [e5]; exact hr2) (by show (f' : Int) = 940 - (F2 5 + 1 - q); omega) (by show tk_en (mx_a F A) f' (F2 5 + 1) = _; rw [e5, ← he]; exact (tk_en_y ha).symm))
      have hu8 : 3 ≤ F1 5 - q ∨ (0 ≤ F1 8 ∧ F1 8 ≤ 814) := by
        obtain ⟨u0, u1, u2, -⟩ := hr.2.2.2.2.2.2.2
        rcases (show F1 5 - q = 0 ∨ F1 5 - q = 1 ∨ F1 5 - q = 2 ∨ 3 ≤ F1 5 - q by omega) with g | g | g | g
        · have := u0 g; omega
        · have := u1 g; omega
        · have := u2 g; omega
        · exact Or.inl g
      have k307 : ∀ (F2 : Nat → Int) (b' c : Int), c = mx_a F A (F1 5) → F1 5 < F 3 → tk_an (mx_a F A (F1 5)) = true → mx_f F F2 → F2 5 = F1 5 → F2 6 = q → F2 8 = F1 8 → ((F1 5 - q < 7 ∧ F2 12 = 27 * F1 12 + mx_a F A (F1 5) - 96) ∨ 7 ≤ F1 5 - q) → ((b' = 1 ∧ b = 1 ∧ tk_lt (mx_a F A (F1 5)) = tk_lt (mx_a F A q)) ∨ (b' = 0 ∧ (b = 0 ∨ tk_lt (mx_a F A (F1 5)) ≠ tk_lt (mx_a F A q)))) → K 307 [(0, (4, 0)), (2, (0, lt)), (3, (0, b')), (4, (0, c))] [] (mm_w F2 A) := by
        intro F2 b' c hc hi ha hf2 e5 e6 e8 hw hb'
        have hcc := tk_an_c ha
        rw [← hc] at hcc
        refine hC.go [] _ rfl rfl ?_
        repeat' first | refine hC.gn [337] _ rfl rfl ?_ | refine And.intro ?_ ?_ | exact True.intro | refine hC.iadd [337] rfl rfl (by first | omega | (simp only [Int.reduceToNat] at *; omega)) ?_ | refine hC.isub [337] rfl rfl (by first | omega | (simp only [Int.reduceToNat] at *; omega)) ?_ | refine hC.imul [337] rfl rfl (by first | omega | (simp only [Int.reduceToNat] at *; omega)) ?_ | refine hC.iinc [337] rfl rfl rfl rfl (by first | omega | (simp only [Int.reduceToNat] at *; omega)) ?_ | refine hC.go [337] _ rfl rfl ?_ | (intro h; first | exact (h rfl).elim | (exfalso; cases h; done) | (dsimp only [kk_cP, kk_cN] at h) | skip)
        · exact hC.sub [(0, (4, 0)), (2, (0, lt)), (3, (0, b'))] ⟨rfl, rfl, rfl, trivial⟩ (k337 F2 b' hi ha hf2 e5 e6 (mq_s hr ha hb' hw (Or.inr (by omega))))
        · exact hC.sub [(0, (4, 0)), (2, (0, lt)), (3, (0, b'))] ⟨rfl, rfl, rfl, trivial⟩ (k337 (kk_up F2 8 _) b' hi ha (hf2.up (by omega)) e5 e6 (mq_s hr ha hb' hw (Or.inl ⟨by omega, by show 10 * F2 8 + c - 48 = 10 * F1 8 + mx_a F A (F1 5) - 48; rw [e8, hc]⟩)))
      have k273 : ∀ (b' c : Int), c = mx_a F A (F1 5) → F1 5 < F 3 → tk_an (mx_a F A (F1 5)) = true → ((b' = 1 ∧ b = 1 ∧ tk_lt (mx_a F A (F1 5)) = tk_lt (mx_a F A q)) ∨ (b' = 0 ∧ (b = 0 ∨ tk_lt (mx_a F A (F1 5)) ≠ tk_lt (mx_a F A q)))) → K 273 [(0, (4, 0)), (2, (0, lt)), (3, (0, b')), (4, (0, c))] [] (mm_w F1 A) := by
        intro b' c hc hi ha hb'
        have hcc := tk_an_c ha
        rw [← hc] at hcc
        refine hC.go [] _ rfl rfl ?_
        repeat' first | refine hC.gn [307] _ rfl rfl ?_ | refine And.intro ?_ ?_ | exact True.intro | refine hC.iadd [307] rfl rfl (by first | omega | (simp only [Int.reduceToNat] at *; omega)) ?_ | refine hC.isub [307] rfl rfl (by first | omega | (simp only [Int.reduceToNat] at *; omega)) ?_ | refine hC.imul [307] rfl rfl (by first | omega | (simp only [Int.reduceToNat] at *; omega)) ?_ | refine hC.iinc [307] rfl rfl rfl rfl (by first | omega | (simp only [Int.reduceToNat] at *; omega)) ?_ | refine hC.go [307] _ rfl rfl ?_ | (intro h; first | exact (h rfl).elim | (exfalso; cases h; done) | (dsimp only [kk_cP, kk_cN] at h) | skip)
        · exact hC.sub [(0, (4, 0)), (2, (0, lt)), (3, (0, b')), (4, (0, c))] ⟨rfl, rfl, rfl, rfl, trivial⟩ (k307 F1 b' c hc hi ha hf rfl h6 rfl (Or.inr (by omega)) hb')
        · obtain ⟨w1, w2⟩ := hr.2.2.2.2.2.2.1 (by omega)
          exact hC.sub [(0, (4, 0)), (2, (0, lt)), (3, (0, b')), (4, (0, c))] ⟨rfl, rfl, rfl, rfl, trivial⟩ (k307 (kk_up F1 12 _) b' c hc hi ha (hf.up (by omega)) rfl h6 rfl (Or.inl ⟨by omega, by show kk_l2 1 (kk_l2 0 (kk_l2 2 27 (F1 12)) c) 96 = _; rw [mx_wd (k := (F1 5 - q).toNat) (by omega) w1 w2 hcc.1 hcc.2, hc]⟩) hb')
      have k243 : F1 5 < F 3 → tk_an (mx_a F A (F1 5)) = true → K 243 [(0, (4, 0)), (2, (0, lt)), (3, (0, b))] [] (mm_w F1 A) := by
        intro hi ha
        have ec : A 1 (F1 5).toNat = mx_a F A (F1 5) := (mx_in (by omega) hi y2).symm
        refine hC.go [] _ rfl rfl ?_
        repeat' first | refine hC.gn [273] _ rfl rfl ?_ | refine And.intro ?_ ?_ | exact True.intro | refine hC.iadd [273] rfl rfl (by first | omega | (simp only [Int.reduceToNat] at *; omega)) ?_ | refine hC.isub [273] rfl rfl (by first | omega | (simp only [Int.reduceToNat] at *; omega)) ?_ | refine hC.imul [273] rfl rfl (by first | omega | (simp only [Int.reduceToNat] at *; omega)) ?_ | refine hC.iinc [273] rfl rfl rfl rfl (by first | omega | (simp only [Int.reduceToNat] at *; omega)) ?_ | refine hC.go [273] _ rfl rfl ?_ | (intro h; first | exact (h rfl).elim | (exfalso; cases h; done) | (dsimp only [kk_cP, kk_cN] at h) | skip) | (refine hC.call (mm_isLetter l _ _) [] rfl rfl rfl rfl rfl rfl trivial (Nat.le_refl _) ?_; rintro rs w' ⟨rfl, ⟨rfl, h1, h2⟩ | ⟨rfl, h1⟩⟩)
        all_goals first | omega | exact hC.sub [(0, (4, 0)), (2, (0, lt)), (3, (0, 0)), (4, (0, _))] ⟨rfl, rfl, rfl, rfl, trivial⟩ (k273 0 _ ec hi ha (Or.inr ⟨rfl, Or.inl (by omega)⟩)) | exact hC.sub [(0, (4, 0)), (2, (0, lt)), (3, (0, 1)), (4, (0, _))] ⟨rfl, rfl, rfl, rfl, trivial⟩ (k273 1 _ ec hi ha (Or.inl ⟨rfl, by omega, by rw [← ec]; exact (mx_b (g := 1) hr.2.1 (Or.inl ⟨rfl, by omega, by omega⟩)).1 (by omega)⟩)) | exact hC.sub [(0, (4, 0)), (2, (0, lt)), (3, (0, 0)), (4, (0, _))] ⟨rfl, rfl, rfl, rfl, trivial⟩ (k273 0 _ ec hi ha (Or.inr ⟨rfl, Or.inr (by rw [← ec]; exact (mx_b (g := 1) hr.2.1 (Or.inl ⟨rfl, by omega, by omega⟩)).2 (by omega))⟩)) | exact hC.sub [(0, (4, 0)), (2, (0, lt)), (3, (0, 1)), (4, (0, _))] ⟨rfl, rfl, rfl, rfl, trivial⟩ (k273 1 _ ec hi ha (Or.inl ⟨rfl, by omega, by rw [← ec]; exact (mx_b (g := 0) hr.2.1 (Or.inr ⟨rfl, by assumption⟩)).1 (by omega)⟩)) | exact hC.sub [(0, (4, 0)), (2, (0, lt)), (3, (0, 0)), (4, (0, _))] ⟨rfl, rfl, rfl, rfl, trivial⟩ (k273 0 _ ec hi ha (Or.inr ⟨rfl, Or.inr (by rw [← ec]; exact (mx_b (g := 0) hr.2.1 (Or.inr ⟨rfl, by assumption⟩)).2 (by omega))⟩))
      refine hC.go [] _ rfl rfl ?_
      repeat' first | refine hC.gn [243, 350] _ rfl rfl ?_ | refine And.intro ?_ ?_ | exact True.intro | refine hC.iadd [243, 350] rfl rfl (by first | omega | (simp only [Int.reduceToNat] at *; omega)) ?_ | refine hC.isub [243, 350] rfl rfl (by first | omega | (simp only [Int.reduceToNat] at *; omega)) ?_ | refine hC.imul [243, 350] rfl rfl (by first | omega | (simp only [Int.reduceToNat] at *; omega)) ?_ | refine hC.iinc [243, 350] rfl rfl rfl rfl (by first | omega | (simp only [Int.reduceToNat] at *; omega)) ?_ | refine hC.go [243, 350] _ rfl rfl ?_ | (intro h; first | exact (h rfl).elim | (exfalso; cases h; done) | (dsimp only [kk_cP, kk_cN] at h) | skip) | (refine hC.same (mm_tapeAt l _ _ _ _ ?_ ?_) rfl rfl rfl rfl (Nat.le_refl _) ?_; rotate_left 2; rintro rs w' ⟨rfl, ⟨h1, rfl⟩ | ⟨h1, rfl⟩⟩) | (refine hC.call (mm_isLetter l _ _) [] rfl rfl rfl rfl rfl rfl trivial (Nat.le_refl _) ?_; rintro rs w' ⟨rfl, ⟨rfl, h1, h2⟩ | ⟨rfl, h1⟩⟩) | (refine hC.call (mm_isDigit l _ _) [] rfl rfl rfl rfl rfl rfl trivial (Nat.le_refl _) ?_; rintro rs w' ⟨rfl, ⟨rfl, h1, h2⟩ | ⟨rfl, h1⟩⟩)
      all_goals first | omega | exact k350 (by rw [mx_out (by omega)]; rfl) | exact k350 (by rw [mx_in (by omega) (by omega) y2]; exact tk_an_f (by assumption) (by assumption)) | exact k243 (by omega) (by rw [mx_in (by omega) (by omega) y2]; exact tk_an_l (by omega)) | exact k243 (by omega) (by rw [mx_in (by omega) (by omega) y2]; exact tk_an_d (by omega))
  have k52 : ∀ (F1 : Nat → Int), (∀ k, k ≠ 5 → F1 k = F k) → F1 5 = q → 0 ≤ q → q ≤ F 3 → K 52 [(0, (4, 0))] [] (mm_w F1 A) := by
    intro F1 hag e5 q0 qn
    have e3 : F1 3 = F 3 := hag 3 (by decide)
    have e4 : F1 4 = F 4 := hag 4 (by decide)
    have hf : mx_f F F1 := fun k h5 _ _ _ _ _ => hag k h5
    have k215 : ∀ (F2 : Nat → Int) (lt : Int), q < F 3 → ¬ (F 4 < F 3 ∧ F 4 ≤ q) → tk_an (mx_a F A q) = true → ((lt = 1 ∧ tk_lt (mx_a F A q) = true) ∨ (lt = 0 ∧ tk_lt (mx_a F A q) = false)) → mx_f F F2 → F2 5 = q → F2 6 = q → F2 12 = 0 → F2 8 = 0 → K 215 [(0, (4, 0)), (2, (0, lt)), (3, (0, 1))] [] (mm_w F2 A) := by
      intro F2 lt hi hm ha hl hf2 g5 g6 g12 g8
      exact lp _ F2 lt 1 940 (Nat.lt_succ_self _) hf2 g6 (by omega) q0 hi ha hm (by rw [g5, g12, g8]; exact mq_0 _ _ _ hl) (by omega) (by rw [g5])
    have ac : F1 5 < F 3 → A 1 (F1 5).toNat = mx_a F A q := fun hi => by rw [← e5]; exact (mx_in (by omega) hi y2).symm
    refine hC.go [] _ rfl rfl ?_
    repeat' first | refine hC.gn [215] _ rfl rfl ?_ | refine And.intro ?_ ?_ | exact True.intro | refine hC.iadd [215] rfl rfl (by first | omega | (simp only [Int.reduceToNat] at *; omega)) ?_ | refine hC.isub [215] rfl rfl (by first | omega | (simp only [Int.reduceToNat] at *; omega)) ?_ | refine hC.imul [215] rfl rfl (by first | omega | (simp only [Int.reduceToNat] at *; omega)) ?_ | refine hC.iinc [215] rfl rfl rfl rfl (by first | omega | (simp only [Int.reduceToNat] at *; omega)) ?_ | refine hC.go [215] _ rfl rfl ?_ | (intro h; first | exact (h rfl).elim | (exfalso; cases h; done) | (dsimp only [kk_cP, kk_cN] at h) | skip) | (refine hC.call (mm_isLetter l _ _) [] rfl rfl rfl rfl rfl rfl trivial (Nat.le_refl _) ?_; rintro rs w' ⟨rfl, ⟨rfl, h1, h2⟩ | ⟨rfl, h1⟩⟩) | (refine hC.call (mm_isDigit l _ _) [] rfl rfl rfl rfl rfl rfl trivial (Nat.le_refl _) ?_; rintro rs w' ⟨rfl, ⟨rfl, h1, h2⟩ | ⟨rfl, h1⟩⟩)
    all_goals first | rfl | omega | skip
    all_goals first | exact ⟨kk_up (kk_up F1 6 _) 7 _, rfl, (hf.up (b := 6) (by omega)).up (by omega), Or.inl ⟨⟨by omega, by omega⟩, rfl, e4, e5⟩⟩ | exact ⟨kk_up (kk_up F1 6 _) 7 _, rfl, (hf.up (b := 6) (by omega)).up (by omega), Or.inr (Or.inl ⟨by omega, by omega, rfl, e5, e5⟩)⟩ | exact hC.sub [(0, (4, 0)), (2, (0, 1)), (3, (0, 1))] ⟨rfl, rfl, rfl, trivial⟩ (k215 (kk_up (kk_up (kk_up F1 6 _) 12 _) 8 _) 1 (by omega) (by omega) (by rw [← ac (by omega)]; exact tk_an_l (by omega)) (Or.inl ⟨rfl, by rw [← ac (by omega)]; exact tk_lt_t.mpr (by omega)⟩) (((hf.up (b := 6) (by omega)).up (b := 12) (by omega)).up (by omega)) e5 e5 rfl rfl) | exact hC.sub [(0, (4, 0)), (2, (0, 0)), (3, (0, 1))] ⟨rfl, rfl, rfl, trivial⟩ (k215 (kk_up (kk_up (kk_up F1 6 _) 12 _) 8 _) 0 (by omega) (by omega) (by rw [← ac (by omega)]; exact tk_an_d (by omega)) (Or.inr ⟨rfl, by rw [← ac (by omega)]; exact tk_no tk_lt_t (by assumption)⟩) (((hf.up (b := 6) (by omega)).up (b := 12) (by omega)).up (by omega)) e5 e5 rfl rfl) | exact ⟨kk_up (kk_up (kk_up (kk_up F1 6 _) 7 _) 9 _) 5 _, rfl, (((hf.up (b := 6) (by omega)).up (b := 7) (by omega)).up (b := 9) (by omega)).up (by omega), Or.inr (Or.inr ⟨by omega, by omega, e5, Or.inr ⟨by rw [← ac (by omega)]; exact tk_an_f (by assumption) (by assumption), (show F1 5 + 1 = q + 1 by omega), ac (by omega), Or.inl ⟨by rw [← ac (by omega)]; exact tk_sg_t.mpr (by omega), rfl⟩⟩⟩)⟩ | exact ⟨kk_up (kk_up (kk_up (kk_up F1 6 _) 7 _) 9 _) 5 _, rfl, (((hf.up (b := 6) (by omega)).up (b := 7) (by omega)).up (b := 9) (by omega)).up (by omega), Or.inr (Or.inr ⟨by omega, by omega, e5, Or.inr ⟨by rw [← ac (by omega)]; exact tk_an_f (by assumption) (by assumption), (show F1 5 + 1 = q + 1 by omega), ac (by omega), Or.inr ⟨by rw [← ac (by omega)]; exact tk_no tk_sg_t (by omega), rfl⟩⟩⟩)⟩
  have sk : ∀ (n : Nat) (F1 : Nat → Int) (f : Nat), (F 3 - F1 5).toNat < n → (∀ k, k ≠ 5 → F1 k = F k) → F 5 ≤ F1 5 → F1 5 ≤ F 3 → (f : Int) = 940 - (F1 5 - F 5) → tk_sk (mx_a F A) f (F1 5) = q → K 0 [(0, (4, 0))] [] (mm_w F1 A) := by
    intro n
    induction n with
    | zero => intro F1 f h; exact absurd h (Nat.not_lt_zero _)
    | succ n ih =>
      intro F1 f hn hag g1 g2 hu he
      have e3 : F1 3 = F 3 := hag 3 (by decide)
      have ex : tk_bl (mx_a F A (F1 5)) = false → K 52 [(0, (4, 0))] [] (mm_w F1 A) := fun hb => k52 F1 hag (by rw [← he]; exact (tk_sk_n hb).symm) (by rw [← he, tk_sk_n hb]; omega) (by rw [← he, tk_sk_n hb]; omega)
      have ag : F1 5 < F 3 → tk_bl (mx_a F A (F1 5)) = true → K 0 [(0, (4, 0))] [] (mm_w (kk_up F1 5 (F1 5 + 1)) A) := by
        intro hi hb
        obtain ⟨f', rfl⟩ : ∃ f', f = f' + 1 := ⟨f - 1, by omega⟩
        exact ih (kk_up F1 5 (F1 5 + 1)) f' (show (F 3 - (F1 5 + 1)).toNat < n by omega) (fun k h5 => (kk_up_ne h5).trans (hag k h5)) (show F 5 ≤ F1 5 + 1 by omega) (show F1 5 + 1 ≤ F 3 by omega) (by show (f' : Int) = 940 - (F1 5 + 1 - F 5); omega) (by show tk_sk (mx_a F A) f' (F1 5 + 1) = q; rw [← he]; exact (tk_sk_y hb).symm)
      refine hC.go [] _ rfl rfl ?_
      repeat' first | refine hC.gn [0, 52] _ rfl rfl ?_ | refine And.intro ?_ ?_ | exact True.intro | refine hC.iadd [0, 52] rfl rfl (by first | omega | (simp only [Int.reduceToNat] at *; omega)) ?_ | refine hC.isub [0, 52] rfl rfl (by first | omega | (simp only [Int.reduceToNat] at *; omega)) ?_ | refine hC.imul [0, 52] rfl rfl (by first | omega | (simp only [Int.reduceToNat] at *; omega)) ?_ | refine hC.iinc [0, 52] rfl rfl rfl rfl (by first | omega | (simp only [Int.reduceToNat] at *; omega)) ?_ | refine hC.go [0, 52] _ rfl rfl ?_ | (intro h; first | exact (h rfl).elim | (exfalso; cases h; done) | (dsimp only [kk_cP, kk_cN] at h) | skip)
      all_goals first | omega | exact ex (by rw [mx_out (by omega)]; rfl) | exact ex (by rw [mx_in (by omega) (by omega) y2]; exact tk_no tk_bl_t (by omega)) | exact ag (by omega) (by rw [mx_in (by omega) (by omega) y2]; exact tk_bl_t.mpr (by omega))
  exact sk _ F 940 (Nat.lt_succ_self _) (fun k _ => rfl) (by omega) y1 (by omega) hq0
