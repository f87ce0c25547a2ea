/-! THE CLAIM, 7: the runs, one behind the other -/
theorem en_cF0 {P : Nat → en_S → Prop} (h : en_CL 6 P) : P 1358 en_SE0 := h.fin en_rF0
theorem en_cF1 {P : Nat → en_S → Prop} (h : en_CL 6 P) : P 1358 en_SE1 := h.fin en_rF1
theorem en_cF2 {P : Nat → en_S → Prop} (h : en_CL 6 P) : P 208 en_SE2 := h.fin en_rF2
theorem en_cF3 {P : Nat → en_S → Prop} (h : en_CL 6 P) : P 281 en_SE3 := h.fin en_rF3
theorem en_cF4 {P : Nat → en_S → Prop} (h : en_CL 6 P) : P 306 en_SE4 := h.fin en_rF4
theorem en_cF5 {P : Nat → en_S → Prop} (h : en_CL 6 P) : P 319 en_SE5 := h.fin en_rF5
theorem en_cF6 {P : Nat → en_S → Prop} (h : en_CL 6 P) : P 332 en_SE6 := h.fin en_rF6
theorem en_cF7 {P : Nat → en_S → Prop} (h : en_CL 6 P) : P 400 en_SE7 := h.fin en_rF7
theorem en_cF8 {P : Nat → en_S → Prop} (h : en_CL 6 P) : P 468 en_SE8 := h.fin en_rF8
theorem en_cF9 {P : Nat → en_S → Prop} (h : en_CL 6 P) : P 505 en_SE9 := h.fin en_rF9
theorem en_cF10 {P : Nat → en_S → Prop} (h : en_CL 6 P) : P 530 en_SE10 := h.fin en_rF10
theorem en_cF11 {P : Nat → en_S → Prop} (h : en_CL 6 P) : P 555 en_SE11 := h.fin en_rF11
theorem en_cF12 {P : Nat → en_S → Prop} (h : en_CL 6 P) : P 580 en_SE12 := h.fin en_rF12
theorem en_cF13 {P : Nat → en_S → Prop} (h : en_CL 6 P) : P 617 en_SE13 := h.fin en_rF13
theorem en_cF14 {P : Nat → en_S → Prop} (h : en_CL 6 P) : P 630 en_SE14 := h.fin en_rF14
theorem en_cF15 {P : Nat → en_S → Prop} (h : en_CL 6 P) : P 667 en_SE15 := h.fin en_rF15
theorem en_cF16 {P : Nat → en_S → Prop} (h : en_CL 6 P) : P 680 en_SE16 := h.fin en_rF16
theorem en_cF17 {P : Nat → en_S → Prop} (h : en_CL 6 P) : P 693 en_SE17 := h.fin en_rF17
theorem en_cF18 {P : Nat → en_S → Prop} (h : en_CL 6 P) : P 718 en_SE18 := h.fin en_rF18
theorem en_cF19 {P : Nat → en_S → Prop} (h : en_CL 6 P) : P 731 en_SE19 := h.fin en_rF19
theorem en_cF20 {P : Nat → en_S → Prop} (h : en_CL 6 P) : P 744 en_SE20 := h.fin en_rF20
theorem en_cF21 {P : Nat → en_S → Prop} (h : en_CL 6 P) : P 811 en_SE21 := h.fin en_rF21
theorem en_cF22 {P : Nat → en_S → Prop} (h : en_CL 6 P) : P 902 en_SE22 := h.fin en_rF22
theorem en_cF23 {P : Nat → en_S → Prop} (h : en_CL 6 P) : P 927 en_SE23 := h.fin en_rF23
theorem en_cF24 {P : Nat → en_S → Prop} (h : en_CL 6 P) : P 952 en_SE24 := h.fin en_rF24
theorem en_cF25 {P : Nat → en_S → Prop} (h : en_CL 6 P) : P 965 en_SE25 := h.fin en_rF25
theorem en_cF26 {P : Nat → en_S → Prop} (h : en_CL 6 P) : P 1020 en_SE26 := h.fin en_rF26
theorem en_cF27 {P : Nat → en_S → Prop} (h : en_CL 6 P) : P 1033 en_SE27 := h.fin en_rF27
theorem en_cF28 {P : Nat → en_S → Prop} (h : en_CL 6 P) : P 1046 en_SE28 := h.fin en_rF28
theorem en_cF29 {P : Nat → en_S → Prop} (h : en_CL 6 P) : P 1071 en_SE29 := h.fin en_rF29
theorem en_cF30 {P : Nat → en_S → Prop} (h : en_CL 6 P) : P 1096 en_SE30 := h.fin en_rF30
theorem en_cF31 {P : Nat → en_S → Prop} (h : en_CL 6 P) : P 1109 en_SE31 := h.fin en_rF31
theorem en_cF32 {P : Nat → en_S → Prop} (h : en_CL 6 P) : P 1134 en_SE32 := h.fin en_rF32
theorem en_cF33 {P : Nat → en_S → Prop} (h : en_CL 6 P) : P 1195 en_SE33 := h.fin en_rF33
theorem en_cF34 {P : Nat → en_S → Prop} (h : en_CL 6 P) : P 1220 en_SE34 := h.fin en_rF34
theorem en_cF35 {P : Nat → en_S → Prop} (h : en_CL 6 P) : P 1245 en_SE35 := h.fin en_rF35
theorem en_cF36 {P : Nat → en_S → Prop} (h : en_CL 6 P) : P 1258 en_SE36 := h.fin en_rF36
theorem en_cF37 {P : Nat → en_S → Prop} (h : en_CL 6 P) : P 1283 en_SE37 := h.1 (some 6) en_lG37 _ _ _ (Or.inr rfl) (en_qO_ok en_rG37) en_lG37_E (by
  intro lf hm
  simp only [List.mem_cons, List.not_mem_nil, or_false] at hm
  rcases hm with rfl | rfl | rfl | rfl
  · exact h.fin en_rG37_0
  · exact h.fin en_rG37_1
  · exact h.fin en_rG37_2
  · exact h.fin en_rG37_3)
theorem en_cF38 {P : Nat → en_S → Prop} (h : en_CL 6 P) : P 1308 en_SE38 := h.fin en_rF38
theorem en_cF39 {P : Nat → en_S → Prop} (h : en_CL 6 P) : P 1333 en_SE39 := h.fin en_rF39
theorem en_c23 {P : Nat → en_S → Prop} (h : en_CL 6 P) : P 23 en_S1 := h.1 (some 6) en_lE _ _ _ (Or.inr rfl) (en_qO_ok en_rE) en_lE_E (by
  refine List.forall_mem_cons.mpr ⟨en_cF0 h, List.forall_mem_cons.mpr ⟨en_cF1 h, List.forall_mem_cons.mpr ⟨en_cF2 h, List.forall_mem_cons.mpr ⟨en_cF3 h, List.forall_mem_cons.mpr ⟨en_cF4 h, List.forall_mem_cons.mpr ⟨en_cF5 h, List.forall_mem_cons.mpr ⟨en_cF6 h, List.forall_mem_cons.mpr ⟨en_cF7 h, List.forall_mem_cons.mpr ⟨en_cF8 h, List.forall_mem_cons.mpr ⟨en_cF9 h, List.forall_mem_cons.mpr ⟨en_cF10 h, List.forall_mem_cons.mpr ⟨en_cF11 h, List.forall_mem_cons.mpr ⟨en_cF12 h, List.forall_mem_cons.mpr ⟨en_cF13 h, List.forall_mem_cons.mpr ⟨en_cF14 h, List.forall_mem_cons.mpr ⟨en_cF15 h, List.forall_mem_cons.mpr ⟨en_cF16 h, List.forall_mem_cons.mpr ⟨en_cF17 h, List.forall_mem_cons.mpr ⟨en_cF18 h, List.forall_mem_cons.mpr ⟨en_cF19 h, List.forall_mem_cons.mpr ⟨en_cF20 h, List.forall_mem_cons.mpr ⟨en_cF21 h, List.forall_mem_cons.mpr ⟨en_cF22 h, List.forall_mem_cons.mpr ⟨en_cF23 h, List.forall_mem_cons.mpr ⟨en_cF24 h, List.forall_mem_cons.mpr ⟨en_cF25 h, List.forall_mem_cons.mpr ⟨en_cF26 h, List.forall_mem_cons.mpr ⟨en_cF27 h, List.forall_mem_cons.mpr ⟨en_cF28 h, List.forall_mem_cons.mpr ⟨en_cF29 h, List.forall_mem_cons.mpr ⟨en_cF30 h, List.forall_mem_cons.mpr ⟨en_cF31 h, List.forall_mem_cons.mpr ⟨en_cF32 h, List.forall_mem_cons.mpr ⟨en_cF33 h, List.forall_mem_cons.mpr ⟨en_cF34 h, List.forall_mem_cons.mpr ⟨en_cF35 h, List.forall_mem_cons.mpr ⟨en_cF36 h, List.forall_mem_cons.mpr ⟨en_cF37 h, List.forall_mem_cons.mpr ⟨en_cF38 h, List.forall_mem_cons.mpr ⟨en_cF39 h, fun _ h9 => absurd h9 List.not_mem_nil⟩⟩⟩⟩⟩⟩⟩⟩⟩⟩⟩⟩⟩⟩⟩⟩⟩⟩⟩⟩⟩⟩⟩⟩⟩⟩⟩⟩⟩⟩⟩⟩⟩⟩⟩⟩⟩⟩⟩⟩)
theorem en_cAll {L : Nat} (hL : L ≤ 6) {P : Nat → en_S → Prop} (h : en_CL L P) : P 23 en_S1 := by
  match L, hL, h with
  | 0, _, h => exact h.fin en_rD0
  | 1, _, h => exact h.fin en_rD1
  | 2, _, h => exact h.fin en_rD2
  | 3, _, h => exact h.fin en_rD3
  | 4, _, h => exact h.fin en_rD4
  | 5, _, h => exact h.fin en_rD5
  | 6, _, h => exact en_c23 h
  | k + 7, hL, _ => exact absurd hL (by omega)
theorem en_c0 {L : Nat} (hL : L ≤ 6) {P : Nat → en_S → Prop} (h : en_CL L P) : P 0 en_S0 :=
  h.1 none en_lA _ _ _ (Or.inl rfl) (en_qO_ok en_rA) en_lA_E (List.forall_mem_cons.mpr ⟨h.1 none en_lB _ _ _ (Or.inl rfl) (en_qO_ok en_rB) en_lB_E (List.forall_mem_cons.mpr ⟨h.1 none en_lC _ _ _ (Or.inl rfl) (en_qO_ok en_rC) en_lC_E (List.forall_mem_cons.mpr ⟨en_cAll hL h, fun _ h9 => absurd h9 List.not_mem_nil⟩), fun _ h9 => absurd h9 List.not_mem_nil⟩), fun _ h9 => absurd h9 List.not_mem_nil⟩)
