/-! READING, 5: the reference's run -/
def mq_n (k u : Int) : Prop := (k = 0 → u = 0) ∧ (k = 1 → 0 ≤ u ∧ u ≤ 74) ∧ (k = 2 → 0 ≤ u ∧ u ≤ 814) ∧ (k = 3 → 0 ≤ u ∧ u ≤ 8214)
def mq (a : Int → Int) (q i lt b w u : Int) : Prop := q ≤ i ∧ ((lt = 1 ∧ tk_lt (a q) = true) ∨ (lt = 0 ∧ tk_lt (a q) = false)) ∧ ((b = 1 ∧ ∀ j : Nat, (j : Int) < i - q → tk_lt (a (q + j)) = tk_lt (a q)) ∨ (b = 0 ∧ ∃ j : Nat, (j : Int) < i - q ∧ tk_lt (a (q + j)) ≠ tk_lt (a q))) ∧ (∀ j : Nat, (j : Int) < i - q → tk_an (a (q + j)) = true) ∧ (i - q ≤ 7 → w = nv 27 (fun j => a (q + j) - 96) (i - q).toNat) ∧ (i - q ≤ 3 → u = nv 10 (fun j => a (q + j) - 48) (i - q).toNat) ∧ (i - q ≤ 7 → -2 * mm_B (i - q).toNat + 2 ≤ w ∧ w ≤ mm_B (i - q).toNat - 1) ∧ mq_n (i - q) u
theorem tk_an_c {c : Int} (h : tk_an c = true) : 48 ≤ c ∧ c ≤ 122 := by
  unfold tk_an at h
  rw [Bool.or_eq_true] at h
  rcases h with h | h
  · have := tk_lt_t.mp h; omega
  · have := tk_dg_t.mp h; omega
theorem mq_0 (a : Int → Int) (q lt : Int) (h : (lt = 1 ∧ tk_lt (a q) = true) ∨ (lt = 0 ∧ tk_lt (a q) = false)) : mq a q q lt 1 0 0 := by
  have e : (q - q).toNat = 0 := by omega
  refine ⟨by omega, h, Or.inl ⟨rfl, fun j hj => absurd hj (by omega)⟩, fun j hj => absurd hj (by omega), fun _ => by rw [e]; rfl, fun _ => by rw [e]; rfl, fun _ => by rw [e]; decide, ⟨fun _ => rfl, fun h => absurd h (by omega), fun h => absurd h (by omega), fun h => absurd h (by omega)⟩⟩
theorem mq_s {a : Int → Int} {q i lt b w u b' w' u' : Int} (h : mq a q i lt b w u) (hc : tk_an (a i) = true) (hb : (b' = 1 ∧ b = 1 ∧ tk_lt (a i) = tk_lt (a q)) ∨ (b' = 0 ∧ (b = 0 ∨ tk_lt (a i) ≠ tk_lt (a q)))) (hw : (i - q < 7 ∧ w' = 27 * w + a i - 96) ∨ (7 ≤ i - q)) (hu : (i - q < 3 ∧ u' = 10 * u + a i - 48) ∨ (3 ≤ i - q)) : mq a q (i + 1) lt b' w' u' := by
  obtain ⟨h1, h2, h3, h4, h5, h6, h7, h8⟩ := h
  have hcc := tk_an_c hc
  have ei : q + ((i - q).toNat : Int) = i := by omega
  have e1 : (i + 1 - q).toNat = (i - q).toNat + 1 := by omega
  refine ⟨by omega, h2, ?_, fun j hj => ?_, fun hk => ?_, fun hk => ?_, fun hk => ?_, ?_⟩
  · rcases hb with ⟨rfl, rfl, hl⟩ | ⟨rfl, hl⟩
    · refine Or.inl ⟨rfl, fun j hj => ?_⟩
      rcases h3 with ⟨-, h3⟩ | ⟨h3, -⟩
      · by_cases hjj : (j : Int) < i - q
        · exact h3 j hjj
        · rw [show q + (j : Int) = i by omega]; exact hl
      · exact absurd h3 (by decide)
    · refine Or.inr ⟨rfl, ?_⟩
      rcases h3 with ⟨h3, -⟩ | ⟨-, j, j1, j2⟩
      · rcases hl with hl | hl
        · rw [h3] at hl; exact absurd hl (by decide)
        · exact ⟨(i - q).toNat, by omega, by rw [ei]; exact hl⟩
      · exact ⟨j, by omega, j2⟩
  · by_cases hjj : (j : Int) < i - q
    · exact h4 j hjj
    · rw [show q + (j : Int) = i by omega]; exact hc
  · rcases hw with ⟨hk2, rfl⟩ | hk2
    · rw [e1, h5 (by omega)]
      show 27 * nv 27 (fun j => a (q + j) - 96) (i - q).toNat + a i - 96 = 27 * nv 27 (fun j => a (q + j) - 96) (i - q).toNat + (a (q + ((i - q).toNat : Int)) - 96)
      rw [ei]
      omega
    · omega
  · rcases hu with ⟨hk2, rfl⟩ | hk2
    · rw [e1, h6 (by omega)]
      show 10 * nv 10 (fun j => a (q + j) - 48) (i - q).toNat + a i - 48 = 10 * nv 10 (fun j => a (q + j) - 48) (i - q).toNat + (a (q + ((i - q).toNat : Int)) - 48)
      rw [ei]
      omega
    · omega
  · rcases hw with ⟨hk2, rfl⟩ | hk2
    · rw [e1]
      obtain ⟨b1, b2⟩ := h7 (by omega)
      obtain ⟨m1, m2, m3⟩ := mm_B_s (k := (i - q).toNat) (by omega)
      rw [m1]
      omega
    · omega
  · obtain ⟨u0, u1, u2, u3⟩ := h8
    rcases hu with ⟨hk2, rfl⟩ | hk2
    · refine ⟨fun h => absurd h (by omega), fun h => ?_, fun h => ?_, fun h => ?_⟩
      · have := u0 (by omega); omega
      · have := u1 (by omega); omega
      · have := u2 (by omega); omega
    · exact ⟨fun h => absurd h (by omega), fun h => absurd h (by omega), fun h => absurd h (by omega), fun h => absurd h (by omega)⟩
/-- the text as the reference has it -/
def mx_a (F : Nat → Int) (A : Nat → Nat → Int) : Int → Int := fun i => tt_v 940 (F 3) (A 1) i
theorem mx_in {F : Nat → Int} {A : Nat → Nat → Int} {i : Int} (h0 : 0 ≤ i) (h1 : i < F 3) (h2 : F 3 ≤ 940) : mx_a F A i = A 1 i.toNat := if_pos ⟨h0, h1, by omega⟩
theorem mx_out {F : Nat → Int} {A : Nat → Nat → Int} {i : Int} (h1 : F 3 ≤ i) : mx_a F A i = -1 := if_neg (by omega)
