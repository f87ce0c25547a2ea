/-! THE ENGINE, 18: calls and throws of the tables -/
def en_npt : List Nat := [0, 5, 1, 0, 0, 2, 1, 1, 1, 2, 0, 2, 0, 0, 1, 0, 0, 1, 1, 0, 0, 0, 1, 1, 0, 1, 4, 1, 1, 0, 1, 1, 1, 1, 2, 2, 1, 3, 2, 4, 1, 2, 2, 1, 0, 2, 1, 2, 2, 2, 3, 3, 2, 2, 0, 2, 1, 0, 1, 1, 2, 0, 0, 1, 0, 1, 1, 1, 2, 0, 1, 1, 2, 0, 2, 2, 1, 2, 1, 1, 1, 1, 2, 1, 1, 1, 0, 0, 0, 0, 0, 0, 0, 1, 1, 1, 2, 2, 0, 0, 2, 1, 1, 1, 3, 1, 1, 1, 1, 1, 2, 1, 1, 2, 4, 1, 1, 3, 1, 2, 1, 1, 1, 0, 0, 2, 1, 1, 1, 1, 0, 1, 2, 0, 0, 0, 2, 1, 1, 3, 0, 1, 2, 3, 3, 2, 3, 3, 3, 1, 3, 2, 1, 1, 1, 1, 1, 1, 1, 0, 1, 1, 4, 4, 4, 6, 3, 0, 5, 1, 0, 0, 2, 2, 2, 1, 1, 1, 2, 0, 2, 0, 0, 1, 0, 0, 2, 4, 1, 1, 0, 1, 0, 0, 1, 1, 0, 1, 4, 1, 1, 0, 1, 1, 1, 1, 0, 1, 1, 0, 0, 1, 0, 1, 1, 1, 1, 2, 0, 0, 0, 2, 3, 0, 0, 1, 2, 0, 0, 3, 2, 0, 0, 1, 1, 2, 3, 4, 3, 0, 0, 0, 2, 2, 7, 1, 1, 2, 0, 1, 1, 0, 1, 2, 0, 1, 3, 0, 1, 0, 0, 0, 1, 0, 1, 2, 2, 2, 1, 1, 0, 0, 4, 1, 2, 2, 2, 3, 0, 4, 1, 1, 1, 1, 1, 1, 2, 1, 2, 2, 0, 0, 0, 1, 1, 1, 0, 1, 0, 0, 2, 2, 2, 2, 3]
def en_np (a : Nat) : Nat := en_npt.getD a 99
theorem en_par0 : ∀ a, a < 12 → 0 ≤ a → (en_ty (en_mt a)).cls ≠ "java/lang/invoke/MethodHandle" ∧ (en_ty (en_mt a)).cls ≠ "java/lang/invoke/VarHandle" ∧ (parseMethodDescriptor (en_ty (en_mt a)).desc).map (fun d => d.parameters.length) = some (en_np a) := by decide +kernel
theorem en_onn0 : ∀ a, a < 12 → 0 ≤ a → (en_ty (en_mt a)).cls = en_on (en_tn (en_mt a)) := by decide +kernel
theorem en_par1 : ∀ a, a < 24 → 12 ≤ a → (en_ty (en_mt a)).cls ≠ "java/lang/invoke/MethodHandle" ∧ (en_ty (en_mt a)).cls ≠ "java/lang/invoke/VarHandle" ∧ (parseMethodDescriptor (en_ty (en_mt a)).desc).map (fun d => d.parameters.length) = some (en_np a) := by decide +kernel
theorem en_onn1 : ∀ a, a < 24 → 12 ≤ a → (en_ty (en_mt a)).cls = en_on (en_tn (en_mt a)) := by decide +kernel
theorem en_par2 : ∀ a, a < 36 → 24 ≤ a → (en_ty (en_mt a)).cls ≠ "java/lang/invoke/MethodHandle" ∧ (en_ty (en_mt a)).cls ≠ "java/lang/invoke/VarHandle" ∧ (parseMethodDescriptor (en_ty (en_mt a)).desc).map (fun d => d.parameters.length) = some (en_np a) := by decide +kernel
theorem en_onn2 : ∀ a, a < 36 → 24 ≤ a → (en_ty (en_mt a)).cls = en_on (en_tn (en_mt a)) := by decide +kernel
theorem en_par3 : ∀ a, a < 48 → 36 ≤ a → (en_ty (en_mt a)).cls ≠ "java/lang/invoke/MethodHandle" ∧ (en_ty (en_mt a)).cls ≠ "java/lang/invoke/VarHandle" ∧ (parseMethodDescriptor (en_ty (en_mt a)).desc).map (fun d => d.parameters.length) = some (en_np a) := by decide +kernel
theorem en_onn3 : ∀ a, a < 48 → 36 ≤ a → (en_ty (en_mt a)).cls = en_on (en_tn (en_mt a)) := by decide +kernel
theorem en_par4 : ∀ a, a < 60 → 48 ≤ a → (en_ty (en_mt a)).cls ≠ "java/lang/invoke/MethodHandle" ∧ (en_ty (en_mt a)).cls ≠ "java/lang/invoke/VarHandle" ∧ (parseMethodDescriptor (en_ty (en_mt a)).desc).map (fun d => d.parameters.length) = some (en_np a) := by decide +kernel
theorem en_onn4 : ∀ a, a < 60 → 48 ≤ a → (en_ty (en_mt a)).cls = en_on (en_tn (en_mt a)) := by decide +kernel
theorem en_par5 : ∀ a, a < 72 → 60 ≤ a → (en_ty (en_mt a)).cls ≠ "java/lang/invoke/MethodHandle" ∧ (en_ty (en_mt a)).cls ≠ "java/lang/invoke/VarHandle" ∧ (parseMethodDescriptor (en_ty (en_mt a)).desc).map (fun d => d.parameters.length) = some (en_np a) := by decide +kernel
theorem en_onn5 : ∀ a, a < 72 → 60 ≤ a → (en_ty (en_mt a)).cls = en_on (en_tn (en_mt a)) := by decide +kernel
theorem en_par6 : ∀ a, a < 84 → 72 ≤ a → (en_ty (en_mt a)).cls ≠ "java/lang/invoke/MethodHandle" ∧ (en_ty (en_mt a)).cls ≠ "java/lang/invoke/VarHandle" ∧ (parseMethodDescriptor (en_ty (en_mt a)).desc).map (fun d => d.parameters.length) = some (en_np a) := by decide +kernel
theorem en_onn6 : ∀ a, a < 84 → 72 ≤ a → (en_ty (en_mt a)).cls = en_on (en_tn (en_mt a)) := by decide +kernel
theorem en_par7 : ∀ a, a < 96 → 84 ≤ a → (en_ty (en_mt a)).cls ≠ "java/lang/invoke/MethodHandle" ∧ (en_ty (en_mt a)).cls ≠ "java/lang/invoke/VarHandle" ∧ (parseMethodDescriptor (en_ty (en_mt a)).desc).map (fun d => d.parameters.length) = some (en_np a) := by decide +kernel
theorem en_onn7 : ∀ a, a < 96 → 84 ≤ a → (en_ty (en_mt a)).cls = en_on (en_tn (en_mt a)) := by decide +kernel
theorem en_par8 : ∀ a, a < 108 → 96 ≤ a → (en_ty (en_mt a)).cls ≠ "java/lang/invoke/MethodHandle" ∧ (en_ty (en_mt a)).cls ≠ "java/lang/invoke/VarHandle" ∧ (parseMethodDescriptor (en_ty (en_mt a)).desc).map (fun d => d.parameters.length) = some (en_np a) := by decide +kernel
theorem en_onn8 : ∀ a, a < 108 → 96 ≤ a → (en_ty (en_mt a)).cls = en_on (en_tn (en_mt a)) := by decide +kernel
theorem en_par9 : ∀ a, a < 120 → 108 ≤ a → (en_ty (en_mt a)).cls ≠ "java/lang/invoke/MethodHandle" ∧ (en_ty (en_mt a)).cls ≠ "java/lang/invoke/VarHandle" ∧ (parseMethodDescriptor (en_ty (en_mt a)).desc).map (fun d => d.parameters.length) = some (en_np a) := by decide +kernel
theorem en_onn9 : ∀ a, a < 120 → 108 ≤ a → (en_ty (en_mt a)).cls = en_on (en_tn (en_mt a)) := by decide +kernel
theorem en_par10 : ∀ a, a < 132 → 120 ≤ a → (en_ty (en_mt a)).cls ≠ "java/lang/invoke/MethodHandle" ∧ (en_ty (en_mt a)).cls ≠ "java/lang/invoke/VarHandle" ∧ (parseMethodDescriptor (en_ty (en_mt a)).desc).map (fun d => d.parameters.length) = some (en_np a) := by decide +kernel
theorem en_onn10 : ∀ a, a < 132 → 120 ≤ a → (en_ty (en_mt a)).cls = en_on (en_tn (en_mt a)) := by decide +kernel
theorem en_par11 : ∀ a, a < 144 → 132 ≤ a → (en_ty (en_mt a)).cls ≠ "java/lang/invoke/MethodHandle" ∧ (en_ty (en_mt a)).cls ≠ "java/lang/invoke/VarHandle" ∧ (parseMethodDescriptor (en_ty (en_mt a)).desc).map (fun d => d.parameters.length) = some (en_np a) := by decide +kernel
theorem en_onn11 : ∀ a, a < 144 → 132 ≤ a → (en_ty (en_mt a)).cls = en_on (en_tn (en_mt a)) := by decide +kernel
theorem en_par12 : ∀ a, a < 156 → 144 ≤ a → (en_ty (en_mt a)).cls ≠ "java/lang/invoke/MethodHandle" ∧ (en_ty (en_mt a)).cls ≠ "java/lang/invoke/VarHandle" ∧ (parseMethodDescriptor (en_ty (en_mt a)).desc).map (fun d => d.parameters.length) = some (en_np a) := by decide +kernel
theorem en_onn12 : ∀ a, a < 156 → 144 ≤ a → (en_ty (en_mt a)).cls = en_on (en_tn (en_mt a)) := by decide +kernel
theorem en_par13 : ∀ a, a < 168 → 156 ≤ a → (en_ty (en_mt a)).cls ≠ "java/lang/invoke/MethodHandle" ∧ (en_ty (en_mt a)).cls ≠ "java/lang/invoke/VarHandle" ∧ (parseMethodDescriptor (en_ty (en_mt a)).desc).map (fun d => d.parameters.length) = some (en_np a) := by decide +kernel
theorem en_onn13 : ∀ a, a < 168 → 156 ≤ a → (en_ty (en_mt a)).cls = en_on (en_tn (en_mt a)) := by decide +kernel
theorem en_par14 : ∀ a, a < 180 → 168 ≤ a → (en_ty (en_mt a)).cls ≠ "java/lang/invoke/MethodHandle" ∧ (en_ty (en_mt a)).cls ≠ "java/lang/invoke/VarHandle" ∧ (parseMethodDescriptor (en_ty (en_mt a)).desc).map (fun d => d.parameters.length) = some (en_np a) := by decide +kernel
theorem en_onn14 : ∀ a, a < 180 → 168 ≤ a → (en_ty (en_mt a)).cls = en_on (en_tn (en_mt a)) := by decide +kernel
theorem en_par15 : ∀ a, a < 192 → 180 ≤ a → (en_ty (en_mt a)).cls ≠ "java/lang/invoke/MethodHandle" ∧ (en_ty (en_mt a)).cls ≠ "java/lang/invoke/VarHandle" ∧ (parseMethodDescriptor (en_ty (en_mt a)).desc).map (fun d => d.parameters.length) = some (en_np a) := by decide +kernel
theorem en_onn15 : ∀ a, a < 192 → 180 ≤ a → (en_ty (en_mt a)).cls = en_on (en_tn (en_mt a)) := by decide +kernel
theorem en_par16 : ∀ a, a < 204 → 192 ≤ a → (en_ty (en_mt a)).cls ≠ "java/lang/invoke/MethodHandle" ∧ (en_ty (en_mt a)).cls ≠ "java/lang/invoke/VarHandle" ∧ (parseMethodDescriptor (en_ty (en_mt a)).desc).map (fun d => d.parameters.length) = some (en_np a) := by decide +kernel
theorem en_onn16 : ∀ a, a < 204 → 192 ≤ a → (en_ty (en_mt a)).cls = en_on (en_tn (en_mt a)) := by decide +kernel
theorem en_par17 : ∀ a, a < 216 → 204 ≤ a → (en_ty (en_mt a)).cls ≠ "java/lang/invoke/MethodHandle" ∧ (en_ty (en_mt a)).cls ≠ "java/lang/invoke/VarHandle" ∧ (parseMethodDescriptor (en_ty (en_mt a)).desc).map (fun d => d.parameters.length) = some (en_np a) := by decide +kernel
theorem en_onn17 : ∀ a, a < 216 → 204 ≤ a → (en_ty (en_mt a)).cls = en_on (en_tn (en_mt a)) := by decide +kernel
theorem en_par18 : ∀ a, a < 228 → 216 ≤ a → (en_ty (en_mt a)).cls ≠ "java/lang/invoke/MethodHandle" ∧ (en_ty (en_mt a)).cls ≠ "java/lang/invoke/VarHandle" ∧ (parseMethodDescriptor (en_ty (en_mt a)).desc).map (fun d => d.parameters.length) = some (en_np a) := by decide +kernel
theorem en_onn18 : ∀ a, a < 228 → 216 ≤ a → (en_ty (en_mt a)).cls = en_on (en_tn (en_mt a)) := by decide +kernel
theorem en_par19 : ∀ a, a < 240 → 228 ≤ a → (en_ty (en_mt a)).cls ≠ "java/lang/invoke/MethodHandle" ∧ (en_ty (en_mt a)).cls ≠ "java/lang/invoke/VarHandle" ∧ (parseMethodDescriptor (en_ty (en_mt a)).desc).map (fun d => d.parameters.length) = some (en_np a) := by decide +kernel
theorem en_onn19 : ∀ a, a < 240 → 228 ≤ a → (en_ty (en_mt a)).cls = en_on (en_tn (en_mt a)) := by decide +kernel
theorem en_par20 : ∀ a, a < 252 → 240 ≤ a → (en_ty (en_mt a)).cls ≠ "java/lang/invoke/MethodHandle" ∧ (en_ty (en_mt a)).cls ≠ "java/lang/invoke/VarHandle" ∧ (parseMethodDescriptor (en_ty (en_mt a)).desc).map (fun d => d.parameters.length) = some (en_np a) := by decide +kernel
theorem en_onn20 : ∀ a, a < 252 → 240 ≤ a → (en_ty (en_mt a)).cls = en_on (en_tn (en_mt a)) := by decide +kernel
theorem en_par21 : ∀ a, a < 264 → 252 ≤ a → (en_ty (en_mt a)).cls ≠ "java/lang/invoke/MethodHandle" ∧ (en_ty (en_mt a)).cls ≠ "java/lang/invoke/VarHandle" ∧ (parseMethodDescriptor (en_ty (en_mt a)).desc).map (fun d => d.parameters.length) = some (en_np a) := by decide +kernel
theorem en_onn21 : ∀ a, a < 264 → 252 ≤ a → (en_ty (en_mt a)).cls = en_on (en_tn (en_mt a)) := by decide +kernel
theorem en_par22 : ∀ a, a < 276 → 264 ≤ a → (en_ty (en_mt a)).cls ≠ "java/lang/invoke/MethodHandle" ∧ (en_ty (en_mt a)).cls ≠ "java/lang/invoke/VarHandle" ∧ (parseMethodDescriptor (en_ty (en_mt a)).desc).map (fun d => d.parameters.length) = some (en_np a) := by decide +kernel
theorem en_onn22 : ∀ a, a < 276 → 264 ≤ a → (en_ty (en_mt a)).cls = en_on (en_tn (en_mt a)) := by decide +kernel
theorem en_par23 : ∀ a, a < 288 → 276 ≤ a → (en_ty (en_mt a)).cls ≠ "java/lang/invoke/MethodHandle" ∧ (en_ty (en_mt a)).cls ≠ "java/lang/invoke/VarHandle" ∧ (parseMethodDescriptor (en_ty (en_mt a)).desc).map (fun d => d.parameters.length) = some (en_np a) := by decide +kernel
theorem en_onn23 : ∀ a, a < 288 → 276 ≤ a → (en_ty (en_mt a)).cls = en_on (en_tn (en_mt a)) := by decide +kernel
theorem en_par24 : ∀ a, a < 300 → 288 ≤ a → (en_ty (en_mt a)).cls ≠ "java/lang/invoke/MethodHandle" ∧ (en_ty (en_mt a)).cls ≠ "java/lang/invoke/VarHandle" ∧ (parseMethodDescriptor (en_ty (en_mt a)).desc).map (fun d => d.parameters.length) = some (en_np a) := by decide +kernel
theorem en_onn24 : ∀ a, a < 300 → 288 ≤ a → (en_ty (en_mt a)).cls = en_on (en_tn (en_mt a)) := by decide +kernel
theorem en_par25 : ∀ a, a < 305 → 300 ≤ a → (en_ty (en_mt a)).cls ≠ "java/lang/invoke/MethodHandle" ∧ (en_ty (en_mt a)).cls ≠ "java/lang/invoke/VarHandle" ∧ (parseMethodDescriptor (en_ty (en_mt a)).desc).map (fun d => d.parameters.length) = some (en_np a) := by decide +kernel
theorem en_onn25 : ∀ a, a < 305 → 300 ≤ a → (en_ty (en_mt a)).cls = en_on (en_tn (en_mt a)) := by decide +kernel
set_option maxRecDepth 100000 in
theorem en_par_ok : ∀ a, a < en_M.length → en_par (en_ty (en_mt a)) (en_np a) := by
  intro a ha
  have ha : a < 305 := ha
  by_cases h0 : a < 12
  · exact en_par0 a h0 (by omega)
  by_cases h1 : a < 24
  · exact en_par1 a h1 (by omega)
  by_cases h2 : a < 36
  · exact en_par2 a h2 (by omega)
  by_cases h3 : a < 48
  · exact en_par3 a h3 (by omega)
  by_cases h4 : a < 60
  · exact en_par4 a h4 (by omega)
  by_cases h5 : a < 72
  · exact en_par5 a h5 (by omega)
  by_cases h6 : a < 84
  · exact en_par6 a h6 (by omega)
  by_cases h7 : a < 96
  · exact en_par7 a h7 (by omega)
  by_cases h8 : a < 108
  · exact en_par8 a h8 (by omega)
  by_cases h9 : a < 120
  · exact en_par9 a h9 (by omega)
  by_cases h10 : a < 132
  · exact en_par10 a h10 (by omega)
  by_cases h11 : a < 144
  · exact en_par11 a h11 (by omega)
  by_cases h12 : a < 156
  · exact en_par12 a h12 (by omega)
  by_cases h13 : a < 168
  · exact en_par13 a h13 (by omega)
  by_cases h14 : a < 180
  · exact en_par14 a h14 (by omega)
  by_cases h15 : a < 192
  · exact en_par15 a h15 (by omega)
  by_cases h16 : a < 204
  · exact en_par16 a h16 (by omega)
  by_cases h17 : a < 216
  · exact en_par17 a h17 (by omega)
  by_cases h18 : a < 228
  · exact en_par18 a h18 (by omega)
  by_cases h19 : a < 240
  · exact en_par19 a h19 (by omega)
  by_cases h20 : a < 252
  · exact en_par20 a h20 (by omega)
  by_cases h21 : a < 264
  · exact en_par21 a h21 (by omega)
  by_cases h22 : a < 276
  · exact en_par22 a h22 (by omega)
  by_cases h23 : a < 288
  · exact en_par23 a h23 (by omega)
  by_cases h24 : a < 300
  · exact en_par24 a h24 (by omega)
  exact en_par25 a ha (by omega)
set_option maxRecDepth 100000 in
theorem en_on_ok : ∀ a, a < en_M.length → (en_ty (en_mt a)).cls = en_on (en_tn (en_mt a)) := by
  intro a ha
  have ha : a < 305 := ha
  by_cases h0 : a < 12
  · exact en_onn0 a h0 (by omega)
  by_cases h1 : a < 24
  · exact en_onn1 a h1 (by omega)
  by_cases h2 : a < 36
  · exact en_onn2 a h2 (by omega)
  by_cases h3 : a < 48
  · exact en_onn3 a h3 (by omega)
  by_cases h4 : a < 60
  · exact en_onn4 a h4 (by omega)
  by_cases h5 : a < 72
  · exact en_onn5 a h5 (by omega)
  by_cases h6 : a < 84
  · exact en_onn6 a h6 (by omega)
  by_cases h7 : a < 96
  · exact en_onn7 a h7 (by omega)
  by_cases h8 : a < 108
  · exact en_onn8 a h8 (by omega)
  by_cases h9 : a < 120
  · exact en_onn9 a h9 (by omega)
  by_cases h10 : a < 132
  · exact en_onn10 a h10 (by omega)
  by_cases h11 : a < 144
  · exact en_onn11 a h11 (by omega)
  by_cases h12 : a < 156
  · exact en_onn12 a h12 (by omega)
  by_cases h13 : a < 168
  · exact en_onn13 a h13 (by omega)
  by_cases h14 : a < 180
  · exact en_onn14 a h14 (by omega)
  by_cases h15 : a < 192
  · exact en_onn15 a h15 (by omega)
  by_cases h16 : a < 204
  · exact en_onn16 a h16 (by omega)
  by_cases h17 : a < 216
  · exact en_onn17 a h17 (by omega)
  by_cases h18 : a < 228
  · exact en_onn18 a h18 (by omega)
  by_cases h19 : a < 240
  · exact en_onn19 a h19 (by omega)
  by_cases h20 : a < 252
  · exact en_onn20 a h20 (by omega)
  by_cases h21 : a < 264
  · exact en_onn21 a h21 (by omega)
  by_cases h22 : a < 276
  · exact en_onn22 a h22 (by omega)
  by_cases h23 : a < 288
  · exact en_onn23 a h23 (by omega)
  by_cases h24 : a < 300
  · exact en_onn24 a h24 (by omega)
  exact en_onn25 a ha (by omega)
theorem en_mt_of {a : Nat} {t' : en_T} (h : en_M[a]? = some t') : en_mt a = t' := by
  unfold en_mt
  rw [List.getD_eq_getElem?_getD, h]
  rfl
def en_thB (t : en_T) : Bool := match en_th t with
  | [] => true
  | _ => false
theorem en_thB_t {t : en_T} (h : en_thB t = true) : en_th t = [] := by
  unfold en_thB at h
  split at h
  · rename_i h9; exact h9
  · cases h
theorem en_thB_f {t : en_T} (h : en_thB t = false) : en_th t ≠ [] := by
  intro h9
  unfold en_thB at h
  rw [h9] at h
  cases h
def en_hx (t : en_T) (k : Nat) : Bool := match en_th t with
  | [q] => Nat.beq q.1 0 && (Nat.beq q.2.2.1 (k - 100) && (!(Nat.beq q.2.2.2 0) && en_wi (2, en_tn t, q.2.2.2, 107, 0)))
  | _ => false
def en_isN (t : en_T) : Bool := match en_tr t with
  | none => true
  | some _ => false
def en_chkC (t : en_T) (i : Instr) (a b k : Nat) : Bool := match i with
  | .invokevirtual x => Nat.blt a en_M.length && (en_thB (en_mt a) && (en_wi (1, en_tn t, x, a, 0) && (en_wi (10, 0, 0, a, 0) && (en_wi (12, 0, 0, a, 0) && (Nat.beq (en_np a) (b - 1) && (Nat.ble 1 b && ((Nat.beq (en_tn (en_mt a)) 100 || Nat.blt (en_tn (en_mt a)) 12) && cond (Nat.ble 100 k) (en_hx t k) true)))))))
  | .invokestatic x => cond (Nat.beq k 7) true (Nat.blt k 100 && (Nat.blt a en_M.length && (en_wi (11, 0, 0, a, 0) && (Nat.beq (en_np a) b && cond (Nat.beq k 1) (en_thB (en_mt a) && en_wi (1, en_tn t, x, a, 0)) (cond (Nat.beq k 2) (en_thB (en_mt a) && decide (Cond.methodLinkNest (en_on (en_tn t)) x (en_ty (en_mt a)) RX10 ∈ en_nest)) (!(en_thB (en_mt a)) && en_wi (1, en_tn t, x, a, 0)))))))
  | .invokespecial x => cond (Nat.beq k 0) true (Nat.blt k 100 && (Nat.blt a en_M.length && (en_thB (en_mt a) && (en_isN (en_mt a) && (decide ((en_ty (en_mt a)).name = "<init>") && (en_wi (10, 0, 0, a, 0) && (Nat.beq (en_np a) (b - 1) && (Nat.ble 1 b && cond (Nat.beq k 1) (en_wi (1, en_tn t, x, a, 0)) (decide (Cond.methodLinkNest (en_on (en_tn t)) x (en_ty (en_mt a)) RX10 ∈ en_nest))))))))))
  | _ => true
theorem en_bf {a b : Nat} (h : a ≠ b) : Nat.beq a b = false := by
  cases h9 : Nat.beq a b with
  | true => exact absurd (Nat.eq_of_beq_eq_true h9) h
  | false => rfl
theorem en_chkC_ok {t : en_T} {i : Instr} {a b k : Nat} (hy : (en_ty t).cls = en_on (en_tn t)) (h : en_chkC t i a b k = true) : en_clk en_M t i a b k := by
  cases i with
  | invokevirtual x =>
    intro t' ht
    have h : (Nat.blt a en_M.length && (en_thB (en_mt a) && (en_wi (1, en_tn t, x, a, 0) && (en_wi (10, 0, 0, a, 0) && (en_wi (12, 0, 0, a, 0) && (Nat.beq (en_np a) (b - 1) && (Nat.ble 1 b && ((Nat.beq (en_tn (en_mt a)) 100 || Nat.blt (en_tn (en_mt a)) 12) && cond (Nat.ble 100 k) (en_hx t k) true)))))))) = true := h
    simp only [Bool.and_eq_true] at h
    obtain ⟨h1, h2, h3, h4, h5, h6, h7, h8, h9⟩ := h
    have ha := en_blt h1
    have hpar := en_par_ok a ha
    have hon := en_on_ok a ha
    rw [Nat.eq_of_beq_eq_true h6] at hpar
    rw [en_mt_of ht] at h2 h8 hpar hon
    have w3 := en_wi_ok h3
    have w4 := en_wi_ok h4
    have w5 := en_wi_ok h5
    simp only [en_wf, en_mt_of ht] at w3 w4 w5
    refine ⟨en_thB_t h2, by rw [hy]; exact w3, w4, w5, hpar, Nat.le_of_ble_eq_true h7, fun e9 => ?_, fun e9 => ?_, fun e9 => ?_⟩
    · rw [hon, e9]; rfl
    · rw [en_bf e9, Bool.false_or] at h8
      obtain ⟨c1, c2⟩ := en_cl_ok _ (en_blt h8)
      exact ⟨_, c1, by rw [c2, hon]⟩
    · rw [Nat.ble_eq_true_of_le e9, cond_true] at h9
      unfold en_hx at h9
      split at h9
      · rename_i q hq
        simp only [Bool.and_eq_true] at h9
        obtain ⟨f1, f2, f3, f4⟩ := h9
        have w6 := en_wi_ok f4
        refine ⟨q, hq, Nat.eq_of_beq_eq_true f1, Nat.eq_of_beq_eq_true f2, fun e0 => ?_, by rw [hy]; exact w6⟩
        rw [e0] at f3
        cases f3
      · cases h9
  | invokestatic x =>
    intro hk7
    have h : cond (Nat.beq k 7) true (Nat.blt k 100 && (Nat.blt a en_M.length && (en_wi (11, 0, 0, a, 0) && (Nat.beq (en_np a) b && cond (Nat.beq k 1) (en_thB (en_mt a) && en_wi (1, en_tn t, x, a, 0)) (cond (Nat.beq k 2) (en_thB (en_mt a) && decide (Cond.methodLinkNest (en_on (en_tn t)) x (en_ty (en_mt a)) RX10 ∈ en_nest)) (!(en_thB (en_mt a)) && en_wi (1, en_tn t, x, a, 0))))))) = true := h
    rw [en_bf hk7, cond_false] at h
    simp only [Bool.and_eq_true] at h
    obtain ⟨h0, h1, h2, h3, h4⟩ := h
    refine ⟨en_blt h0, fun t' ht => ?_⟩
    have ha := en_blt h1
    have hpar := en_par_ok a ha
    rw [Nat.eq_of_beq_eq_true h3] at hpar
    rw [en_mt_of ht] at h4 hpar
    have w2 := en_wi_ok h2
    simp only [en_wf, en_mt_of ht] at w2
    refine ⟨w2, hpar, fun e1 => ?_, fun e2 => ?_, fun e1 e2 => ?_⟩
    · subst e1
      have h4 : (en_thB t' && en_wi (1, en_tn t, x, a, 0)) = true := en_c11 h4
      rw [Bool.and_eq_true] at h4
      have w3 := en_wi_ok h4.2
      simp only [en_wf, en_mt_of ht] at w3
      exact ⟨en_thB_t h4.1, by rw [hy]; exact w3⟩
    · subst e2
      have h4 : (en_thB t' && decide (Cond.methodLinkNest (en_on (en_tn t)) x (en_ty t') RX10 ∈ en_nest)) = true := en_c22 (en_c21 h4)
      rw [Bool.and_eq_true, decide_eq_true_eq] at h4
      exact ⟨en_thB_t h4.1, by rw [hy]; exact h4.2⟩
    · rw [en_bf e1, en_bf e2, cond_false, cond_false, Bool.and_eq_true] at h4
      have w3 := en_wi_ok h4.2
      simp only [en_wf, en_mt_of ht] at w3
      refine ⟨en_thB_f ?_, by rw [hy]; exact w3⟩
      cases h9 : en_thB t' with
      | false => rfl
      | true => rw [h9] at h4; cases h4.1
  | invokespecial x =>
    intro hk0
    have h : cond (Nat.beq k 0) true (Nat.blt k 100 && (Nat.blt a en_M.length && (en_thB (en_mt a) && (en_isN (en_mt a) && (decide ((en_ty (en_mt a)).name = "<init>") && (en_wi (10, 0, 0, a, 0) && (Nat.beq (en_np a) (b - 1) && (Nat.ble 1 b && cond (Nat.beq k 1) (en_wi (1, en_tn t, x, a, 0)) (decide (Cond.methodLinkNest (en_on (en_tn t)) x (en_ty (en_mt a)) RX10 ∈ en_nest)))))))))) = true := h
    rw [en_bf hk0, cond_false] at h
    simp only [Bool.and_eq_true] at h
    obtain ⟨h0, h1, h2, h3, h4, h5, h6, h7, h8⟩ := h
    refine ⟨en_blt h0, fun t' ht => ?_⟩
    have ha := en_blt h1
    have hpar := en_par_ok a ha
    rw [Nat.eq_of_beq_eq_true h6] at hpar
    rw [en_mt_of ht] at h2 h3 h4 h8 hpar
    have w5 := en_wi_ok h5
    simp only [en_wf, en_mt_of ht] at w5
    refine ⟨en_thB_t h2, ?_, of_decide_eq_true h4, w5, hpar, Nat.le_of_ble_eq_true h7, fun e1 => ?_, fun e1 => ?_⟩
    · unfold en_isN at h3
      split at h3
      · rename_i h9; exact h9
      · cases h3
    · subst e1
      have w3 := en_wi_ok (q := (1, en_tn t, x, a, 0)) (en_c11 h8)
      simp only [en_wf, en_mt_of ht] at w3
      rw [hy]; exact w3
    · rw [en_bf e1, cond_false, decide_eq_true_eq] at h8
      rw [hy]; exact h8
  | _ => trivial
theorem en_thr_g : (vx_at0 RX10 144 en_nse ["java/lang/RuntimeException", "java/lang/Exception"]).filter goodWord = ([131, 1255, 1264, 1266, 1269, 1271, 1256, 1257, 143, 144, 1258, 1263, 1267, 1283, 1245, 1284, 1247, 1285, 1249, 1259, 1261, 1251, 1273, 1274, 1275, 1276, 1276, 1277, 1278, 1279, 1279, 1280, 1281, 1256, 1272, 1234, 1242, 1243, 1244, 1246, 1248, 1250, 1254, 1253, 1252] : List Nat).filterMap (fun i => lw_tbl[i]?) := by decide +kernel
theorem en_thr_n : ∀ w ∈ (vx_at0 RX10 144 en_nse ["java/lang/RuntimeException", "java/lang/Exception"]).filter (fun w => !goodWord w), w ∈ en_xw := by decide +kernel
theorem en_thr_o : ∀ w ∈ Cond.classLink RX10 142 en_nse :: Cond.initialized en_nse :: vx_at0 RX10 144 en_nse ["java/lang/RuntimeException", "java/lang/Exception"], vx_ot w = true := by decide +kernel
theorem en_thr_w : en_wi (2, 10, 142, 107, 0) = true ∧ en_wi (8, 0, 0, 107, 0) = true := by decide +kernel
def en_chkT (t : en_T) (pc : Nat) (i : Instr) : Bool := Nat.beq (en_tn t) 10 && (decide (i = .new 142) && (decide (decode (en_tc t) (pc + 3) = .ok (.dup, 1)) && (decide (decode (en_tc t) (pc + 4) = .ok (.invokespecial 144, 3)) && decide (decode (en_tc t) (pc + 7) = .ok (.athrow, 1)))))
theorem en_chkT_ok {t : en_T} {pc : Nat} {i : Instr} (hy : (en_ty t).cls = en_on (en_tn t)) (h : en_chkT t pc i = true) : en_thr t pc i := by
  unfold en_chkT at h
  simp only [Bool.and_eq_true, decide_eq_true_eq] at h
  obtain ⟨h1, h2, h3, h4, h5⟩ := h
  have hc : (en_ty t).cls = RX10 := by rw [hy, show en_tn t = 10 from Nat.eq_of_beq_eq_true h1]; rfl
  refine ⟨142, 144, h2, h3, h4, h5, ?_, en_wi_ok (q := (8, 0, 0, 107, 0)) en_thr_w.2, ?_, ?_, ?_⟩
  · rw [hc]; exact en_wi_ok (q := (2, 10, 142, 107, 0)) en_thr_w.1
  · rw [hc]
    intro w hw
    have hg : goodWord w = true := (List.mem_filter.mp hw).2
    rw [en_thr_g] at hw
    obtain ⟨j, -, hj⟩ := List.mem_filterMap.mp hw
    exact List.mem_filter.mpr ⟨List.mem_of_getElem? hj, hg⟩
  · rw [hc]; exact en_thr_n
  · rw [hc]; exact en_thr_o
def en_chkE (t : en_T) (q : en_E) : Bool := decide (decode (en_tc t) q.1 = .ok (q.2.2.1, en_ilen q.2.2.1 q.2.2.2.2.2)) && (Nat.beq q.2.1 (q.1 + en_ilen q.2.2.1 q.2.2.2.2.2) && (en_jmp q.1 q.2.2.1 && (en_chkL (en_tn t) (en_ty t).name q.2.2.1 q.2.2.2.1 q.2.2.2.2.1 q.2.2.2.2.2 && (en_chkC t q.2.2.1 q.2.2.2.1 q.2.2.2.2.1 q.2.2.2.2.2 && (cond (Nat.beq q.2.2.2.2.2 9) (en_chkT t q.1 q.2.2.1) true && cond (Nat.ble 100 q.2.2.2.2.2) (match en_th t with
  | [h] => covers ⟨h.1, h.2.1, h.2.2.1, h.2.2.2⟩ q.1
  | _ => true) true)))))
theorem en_chkE_ok {t : en_T} {q : en_E} (hy : (en_ty t).cls = en_on (en_tn t)) (h : en_chkE t q = true) : en_eok en_M t q := by
  unfold en_chkE at h
  simp only [Bool.and_eq_true] at h
  obtain ⟨h1, h2, h3, h4, h5, h6, h7⟩ := h
  refine ⟨of_decide_eq_true h1, Nat.eq_of_beq_eq_true h2, h3, en_chkL_ok hy h4, en_chkC_ok hy h5, fun e9 => ?_, fun e9 hh hq => ?_⟩
  · rw [e9] at h6
    exact en_chkT_ok hy h6
  · rw [Nat.ble_eq_true_of_le e9, cond_true, hq] at h7
    exact h7
