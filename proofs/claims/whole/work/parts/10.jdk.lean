def s_AbstractCollection_init (v0 : Nat) (σ : zS) : Option (zS) := some σ
set_option maxRecDepth 100000 in
theorem t_AbstractCollection_init {l : Launch} {D : zD} {v0 : Nat} {σ : zS} {q : zS} (h : s_AbstractCollection_init v0 σ = some q) : zMet l D Y_AbstractCollection_init K_AbstractCollection_init 1 12 [.ref (v0)] σ (.returned none, q) := by
  refine zMet.ofZ (by decide) rfl (fun q => rfl) (Nat.le_of_ble_eq_true rfl) ?_
  show Z _ _ _ _ _ _ 0 [(0, .ref (v0))] [] _
  unfold s_AbstractCollection_init at h
  refine z_aload_n 0 d_AbstractCollection_init_0 rfl rfl ?_
  refine z_objInit wO_java_util_AbstractCollection_1 wOi wOc (by decide) (by decide) d_AbstractCollection_init_1 ?_
  cases h
  exact z_vret rfl rfl d_AbstractCollection_init_4

def s_ArrayList_size (v0 : Nat) (σ : zS) : Option (Int32 × zS) := (zgI σ v0 3 1).bind fun x1 => some (x1, σ)
set_option maxRecDepth 100000 in
theorem t_ArrayList_size {l : Launch} {D : zD} {v0 : Nat} {σ : zS} {q : Int32 × zS} (h : s_ArrayList_size v0 σ = some q) : zMet l D Y_ArrayList_size K_ArrayList_size 0 0 [.ref (v0)] σ (.returned (some (.int q.1)), q.2) := by
  refine zMet.ofZ (by decide) rfl (fun q => by cases q) (Nat.le_of_ble_eq_true rfl) ?_
  show Z _ _ _ _ _ _ 0 [(0, .ref (v0))] [] _
  unfold s_ArrayList_size at h
  refine z_aload_n 0 d_ArrayList_size_0 rfl rfl ?_
  replace h := Option.bind_eq_some_iff.mp h; obtain ⟨x1, e2, h⟩ := h
  refine z_getI wF_java_util_ArrayList_48_3 d_ArrayList_size_1 e2 ?_
  cases h
  exact z_iret rfl rfl d_ArrayList_size_4

def s_ArrayList_elementData (v0 : Nat) (v1 : Int32) (σ : zS) : Option (Option Nat × zS) := (zgR σ v0 3 0).bind fun x1 => (x1).bind fun a3 => (zaR σ a3 10 (v1)).bind fun x4 => some (x4, σ)
set_option maxRecDepth 100000 in
theorem t_ArrayList_elementData {l : Launch} {D : zD} {v0 : Nat} {v1 : Int32} {σ : zS} {q : Option Nat × zS} (h : s_ArrayList_elementData v0 v1 σ = some q) : zMet l D Y_ArrayList_elementData K_ArrayList_elementData 0 0 [.ref (v0), .int (v1)] σ (.returned (some (va_rf q.1)), q.2) := by
  refine zMet.ofZ (by decide) rfl (fun q => by cases q) (Nat.le_of_ble_eq_true rfl) ?_
  show Z _ _ _ _ _ _ 0 [(0, .ref (v0)), (1, .int (v1))] [] _
  unfold s_ArrayList_elementData at h
  refine z_aload_n 0 d_ArrayList_elementData_0 rfl rfl ?_
  replace h := Option.bind_eq_some_iff.mp h; obtain ⟨x1, e2, h⟩ := h
  refine z_getR wF_java_util_ArrayList_9_3 d_ArrayList_elementData_1 e2 ?_
  refine z_iload_n 1 d_ArrayList_elementData_4 rfl rfl ?_
  replace h := Option.bind_eq_some_iff.mp h; obtain ⟨a3, rfl, h⟩ := h
  replace h := Option.bind_eq_some_iff.mp h; obtain ⟨x4, e5, h⟩ := h
  refine z_aaload rfl d_ArrayList_elementData_5 e5 ?_
  cases h
  exact z_aret (r := x4) rfl (Or.inl ⟨_, rfl⟩) rfl d_ArrayList_elementData_6

def s_StringLatin1_canEncode_12  (v0 : Int32) (w0 : Int32) (σ : zS) : Option (Int32 × zS) := if w0 = 0 ∨ w0 = 1 then some (w0, σ) else none
def s_StringLatin1_canEncode (v0 : Int32) (σ : zS) : Option (Int32 × zS) := if 255 < v0 then s_StringLatin1_canEncode_12  (v0) (0) σ else s_StringLatin1_canEncode_12  (v0) (1) σ
set_option maxRecDepth 100000 in
theorem t_StringLatin1_canEncode_12 {l : Launch} {D : zD} {q : Int32 × zS}   {v0 : Int32} {w0 : Int32} {σ : zS} (h : s_StringLatin1_canEncode_12  v0 w0 σ = some q) : Z l D K_StringLatin1_canEncode 0 0 (.returned (some (.int q.1)), q.2) 12 [(0, .int (v0))] [.int (w0)] σ := by
  unfold s_StringLatin1_canEncode_12 at h
  by_cases c1 : w0 = 0 ∨ w0 = 1
  rotate_left
  · rw [if_neg c1] at h; cases h
  rw [if_pos c1] at h
  cases h
  exact z_zret rfl (z_nb c1) rfl d_StringLatin1_canEncode_12
set_option maxRecDepth 100000 in
theorem t_StringLatin1_canEncode {l : Launch} {D : zD} {v0 : Int32} {σ : zS} {q : Int32 × zS} (h : s_StringLatin1_canEncode v0 σ = some q) : zMet l D Y_StringLatin1_canEncode K_StringLatin1_canEncode 0 0 [.int (v0)] σ (.returned (some (.int q.1)), q.2) := by
  refine zMet.ofZ (by decide) rfl (fun q => by cases q) (Nat.le_of_ble_eq_true rfl) ?_
  show Z _ _ _ _ _ _ 0 [(0, .int (v0))] [] _
  unfold s_StringLatin1_canEncode at h
  refine z_iload_n 0 d_StringLatin1_canEncode_0 rfl rfl ?_
  refine z_sipush (v := 255) d_StringLatin1_canEncode_1 rfl ?_
  refine z_icmp_gt (tgt := 11) d_StringLatin1_canEncode_4 rfl (fun c1 => ?_) (fun c1 => ?_)
  · rw [if_pos c1] at h
    refine z_iconst (v := 0) d_StringLatin1_canEncode_11 rfl ?_
    refine z_lv (lv' := [(0, .int (v0))]) [0] rfl ?_
    exact t_StringLatin1_canEncode_12   h
  · rw [if_neg c1] at h
    refine z_iconst (v := 1) d_StringLatin1_canEncode_7 rfl ?_
    refine z_goto (tgt := 12) d_StringLatin1_canEncode_8 rfl ?_
    refine z_lv (lv' := [(0, .int (v0))]) [0] rfl ?_
    exact t_StringLatin1_canEncode_12   h

def s_StringUTF16_length (v0 : Option Nat) (σ : zS) : Option (Int32 × zS) := (v0).bind fun a1 => (zal σ a1 2).bind fun x2 => some (x2 >>> (1 &&& 31), σ)
set_option maxRecDepth 100000 in
theorem t_StringUTF16_length {l : Launch} {D : zD} {v0 : Option Nat} {σ : zS} {q : Int32 × zS} (h : s_StringUTF16_length v0 σ = some q) : zMet l D Y_StringUTF16_length K_StringUTF16_length 0 0 [va_rf (v0)] σ (.returned (some (.int q.1)), q.2) := by
  refine zMet.ofZ (by decide) rfl (fun q => by cases q) (by simp [lg_sl, z_rfc, z_ci, z_cl, z_cr, z_cn]) ?_
  rw [show lv_args 0 ([va_rf (v0)] : List Value) = [(0, va_rf (v0))] from by simp [lv_args, z_rfc, z_ci, z_cl, z_cr, z_cn]]
  unfold s_StringUTF16_length at h
  refine z_aload_nR 0 d_StringUTF16_length_0 rfl rfl ?_
  replace h := Option.bind_eq_some_iff.mp h; obtain ⟨a1, rfl, h⟩ := h
  replace h := Option.bind_eq_some_iff.mp h; obtain ⟨x2, e3, h⟩ := h
  refine z_alen (t := 2) rfl d_StringUTF16_length_1 e3 ?_
  refine z_iconst (v := 1) d_StringUTF16_length_2 rfl ?_
  refine z_ishr d_StringUTF16_length_3 ?_
  cases h
  exact z_iret rfl rfl d_StringUTF16_length_4

def s_AbstractStringBuilder_getValue (v0 : Nat) (σ : zS) : Option (Option Nat × zS) := (zgR σ v0 12 0).bind fun x1 => some (x1, σ)
set_option maxRecDepth 100000 in
theorem t_AbstractStringBuilder_getValue {l : Launch} {D : zD} {v0 : Nat} {σ : zS} {q : Option Nat × zS} (h : s_AbstractStringBuilder_getValue v0 σ = some q) : zMet l D Y_AbstractStringBuilder_getValue K_AbstractStringBuilder_getValue 0 0 [.ref (v0)] σ (.returned (some (va_rf q.1)), q.2) := by
  refine zMet.ofZ (by decide) rfl (fun q => by cases q) (Nat.le_of_ble_eq_true rfl) ?_
  show Z _ _ _ _ _ _ 0 [(0, .ref (v0))] [] _
  unfold s_AbstractStringBuilder_getValue at h
  refine z_aload_n 0 d_AbstractStringBuilder_getValue_0 rfl rfl ?_
  replace h := Option.bind_eq_some_iff.mp h; obtain ⟨x1, e2, h⟩ := h
  refine z_getR wF_java_lang_AbstractStringBuilder_15_12 d_AbstractStringBuilder_getValue_1 e2 ?_
  cases h
  exact z_aret (r := x1) rfl (Or.inr ⟨_, rfl⟩) rfl d_AbstractStringBuilder_getValue_4

def s_AbstractStringBuilder_length (v0 : Nat) (σ : zS) : Option (Int32 × zS) := (zgI σ v0 12 3).bind fun x1 => some (x1, σ)
set_option maxRecDepth 100000 in
theorem t_AbstractStringBuilder_length {l : Launch} {D : zD} {v0 : Nat} {σ : zS} {q : Int32 × zS} (h : s_AbstractStringBuilder_length v0 σ = some q) : zMet l D Y_AbstractStringBuilder_length K_AbstractStringBuilder_length 0 0 [.ref (v0)] σ (.returned (some (.int q.1)), q.2) := by
  refine zMet.ofZ (by decide) rfl (fun q => by cases q) (Nat.le_of_ble_eq_true rfl) ?_
  show Z _ _ _ _ _ _ 0 [(0, .ref (v0))] [] _
  unfold s_AbstractStringBuilder_length at h
  refine z_aload_n 0 d_AbstractStringBuilder_length_0 rfl rfl ?_
  replace h := Option.bind_eq_some_iff.mp h; obtain ⟨x1, e2, h⟩ := h
  refine z_getI wF_java_lang_AbstractStringBuilder_79_12 d_AbstractStringBuilder_length_1 e2 ?_
  cases h
  exact z_iret rfl rfl d_AbstractStringBuilder_length_4

def s_AbstractList_init (v0 : Nat) (σ : zS) : Option (zS) := (s_AbstractCollection_init v0  σ).bind fun σ1 => (zpF σ1 v0 3 2 (.int (0))).bind fun σ4 => some σ4
set_option maxRecDepth 100000 in
theorem t_AbstractList_init {l : Launch} {D : zD} {v0 : Nat} {σ : zS} {q : zS} (h : s_AbstractList_init v0 σ = some q) : zMet l D Y_AbstractList_init K_AbstractList_init 2 32 [.ref (v0)] σ (.returned none, q) := by
  refine zMet.ofZ (by decide) rfl (fun q => rfl) (Nat.le_of_ble_eq_true rfl) ?_
  show Z _ _ _ _ _ _ 0 [(0, .ref (v0))] [] _
  unfold s_AbstractList_init at h
  refine z_aload_n 0 d_AbstractList_init_0 rfl rfl ?_
  replace h := Option.bind_eq_some_iff.mp h; obtain ⟨σ1, e2, h⟩ := h
  refine z_callI (av := []) (st := []) wI_java_util_AbstractList_1 (t_AbstractCollection_init e2) (by decide) (by decide) d_AbstractList_init_1 (by simp [z_rfc, z_ci, z_cl, z_cr, z_cn]) ?_
  show Z _ _ _ _ _ _ 4 [(0, .ref (v0))] [] _
  refine z_aload_n 0 d_AbstractList_init_4 rfl rfl ?_
  refine z_iconst (v := 0) d_AbstractList_init_5 rfl ?_
  replace h := Option.bind_eq_some_iff.mp h; obtain ⟨σ4, e5, h⟩ := h
  refine z_put wP_java_util_AbstractList_7_3 (fun _ => rfl) d_AbstractList_init_6 rfl rfl e5 ?_
  cases h
  exact z_vret rfl rfl d_AbstractList_init_9

