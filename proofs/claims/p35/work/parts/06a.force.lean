/-! values in full, so that the kernel keeps its terms small: each of these is the identity -/
def en_fN {β : Type} (n : Nat) (k : Nat → β) : β := match n with
  | 0 => k 0
  | m + 1 => k (m + 1)
theorem en_fN_eq {β : Type} (n : Nat) (k : Nat → β) : en_fN n k = k n := by cases n <;> rfl
def en_fI {β : Type} (n : Int) (k : Int → β) : β := match n with
  | .ofNat m => en_fN m (fun m' => k (.ofNat m'))
  | .negSucc m => en_fN m (fun m' => k (.negSucc m'))
theorem en_fI_eq {β : Type} (n : Int) (k : Int → β) : en_fI n k = k n := by cases n <;> simp only [en_fI, en_fN_eq]
def en_fV {β : Type} (v : en_V) (k : en_V → β) : β := match v with
  | (t, n) => en_fN t (fun t' => en_fI n (fun n' => k (t', n')))
theorem en_fV_eq {β : Type} (v : en_V) (k : en_V → β) : en_fV v k = k v := by
  obtain ⟨t, n⟩ := v
  simp only [en_fV, en_fN_eq, en_fI_eq]
def en_fQ {β : Type} (v : Int × Int) (k : Int × Int → β) : β := match v with
  | (t, n) => en_fI t (fun t' => en_fI n (fun n' => k (t', n')))
theorem en_fQ_eq {β : Type} (v : Int × Int) (k : Int × Int → β) : en_fQ v k = k v := by
  obtain ⟨t, n⟩ := v
  simp only [en_fQ, en_fI_eq]
def en_fP {β : Type} (v : Nat × en_V) (k : Nat × en_V → β) : β := match v with
  | (t, n) => en_fN t (fun t' => en_fV n (fun n' => k (t', n')))
theorem en_fP_eq {β : Type} (v : Nat × en_V) (k : Nat × en_V → β) : en_fP v k = k v := by
  obtain ⟨t, n⟩ := v
  simp only [en_fP, en_fN_eq, en_fV_eq]
def en_fX {β : Type} (v : Nat × Int × Int) (k : Nat × Int × Int → β) : β := match v with
  | (t, n) => en_fN t (fun t' => en_fQ n (fun n' => k (t', n')))
theorem en_fX_eq {β : Type} (v : Nat × Int × Int) (k : Nat × Int × Int → β) : en_fX v k = k v := by
  obtain ⟨t, n⟩ := v
  simp only [en_fX, en_fN_eq, en_fQ_eq]
def en_fs {α β : Type} (f : α → (α → β) → β) : List α → (List α → β) → β
  | [], k => k []
  | a :: r, k => f a (fun a' => en_fs f r (fun r' => k (a' :: r')))
theorem en_fs_eq {α β : Type} {f : α → (α → β) → β} (hf : ∀ a k, f a k = k a) : ∀ (l : List α) (k : List α → β), en_fs f l k = k l
  | [], k => rfl
  | a :: r, k => by
    show f a _ = _
    rw [hf, en_fs_eq hf r]
def en_fC {β : Type} (v : en_C) (k : en_C → β) : β := match v with
  | (a, b, q, fs, ex) => en_fN a (fun a' => en_fN b (fun b' => en_fQ q (fun q' => en_fs en_fV fs (fun fs' => en_fs en_fX ex (fun ex' => k (a', b', q', fs', ex'))))))
theorem en_fC_eq {β : Type} (v : en_C) (k : en_C → β) : en_fC v k = k v := by
  obtain ⟨a, b, q, fs, ex⟩ := v
  simp only [en_fC, en_fN_eq, en_fQ_eq, en_fs_eq en_fV_eq, en_fs_eq en_fX_eq]
def en_setK {α β : Type} : List α → Nat → α → (List α → β) → β
  | [], _, _, k => k []
  | _ :: r, 0, v, k => k (v :: r)
  | a :: r, n + 1, v, k => en_setK r n v (fun r' => k (a :: r'))
theorem en_setK_eq {α β : Type} : ∀ (l : List α) (n : Nat) (v : α) (k : List α → β), en_setK l n v k = k (l.set n v)
  | [], n, v, k => by cases n <;> rfl
  | _ :: r, 0, v, k => rfl
  | a :: r, n + 1, v, k => by
    show en_setK r n v _ = _
    rw [en_setK_eq r n v]
    rfl
/-- a world with one cell set; with one cell more -/
def en_put {β : Type} (w : List en_C) (i : Nat) (c : en_C) (k : List en_C → β) : β := en_fC c (fun c' => en_setK w i c' k)
theorem en_put_eq {β : Type} (w : List en_C) (i : Nat) (c : en_C) (k : List en_C → β) : en_put w i c k = k (w.set i c) := by
  unfold en_put
  rw [en_fC_eq, en_setK_eq]
def en_appK {α β : Type} : List α → α → (List α → β) → β
  | [], v, k => k [v]
  | a :: r, v, k => en_appK r v (fun r' => k (a :: r'))
theorem en_appK_eq {α β : Type} : ∀ (l : List α) (v : α) (k : List α → β), en_appK l v k = k (l ++ [v])
  | [], v, k => rfl
  | a :: r, v, k => by
    show en_appK r v _ = _
    rw [en_appK_eq r v]
    rfl
def en_add {β : Type} (w : List en_C) (c : en_C) (k : List en_C → β) : β := en_fC c (fun c' => en_appK w c' k)
theorem en_add_eq {β : Type} (w : List en_C) (c : en_C) (k : List en_C → β) : en_add w c k = k (w ++ [c]) := by
  unfold en_add
  rw [en_fC_eq, en_appK_eq]
def en_fw {β : Type} (w : List en_C) (k : List en_C → β) : β := match w with
  | [] => k []
  | c :: r => k (c :: r)
theorem en_fw_eq {β : Type} (w : List en_C) (k : List en_C → β) : en_fw w k = k w := by cases w <;> rfl
def en_nf {β : Type} (S : en_S) (k : en_S → β) : β := match S with
  | (L, st, iv, w, n1, n2) => en_fs en_fP L (fun L' => en_fs en_fV st (fun st' => en_fs en_fQ iv (fun iv' => en_fw w (fun w' => en_fN n1 (fun a => en_fN n2 (fun b => k (L', st', iv', w', a, b)))))))
theorem en_nf_eq {β : Type} (S : en_S) (k : en_S → β) : en_nf S k = k S := by
  obtain ⟨L, st, iv, w, n1, n2⟩ := S
  simp only [en_nf, en_fs_eq en_fP_eq, en_fs_eq en_fV_eq, en_fs_eq en_fQ_eq, en_fw_eq, en_fN_eq]
