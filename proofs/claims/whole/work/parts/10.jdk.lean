def s_AbstractCollection_init (v0 : Nat) (σ : zS) : Option (zS) := some σ
set_option maxRecDepth 100000 in
theorem t_AbstractCollection_init {l : Launch} {D : zD} {v0 : Nat} {σ : zS} {q : zS} (h : s_AbstractCollection_init v0 σ = some q) : zMet l D Y_AbstractCollection_init K_AbstractCollection_init 1 12 [.ref (v0)] σ (.returned none, q) := by
  refine zMet.ofZ (by decide) rfl (fun q => rfl) (Nat.le_of_ble_eq_true rfl) ?_
  show Z _ _ _ _ _ _ 0 [(0, .ref (v0))] [] _
  unfold s_AbstractCollection_init at h
  refine z_aload_n 0 d_AbstractCollection_init_0 rfl rfl ?_
  refine z_objInit wO_java_util_AbstractCollection_1 wOi wOc (by decide) (by decide) d_AbstractCollection_init_1 ?_
  cases h
  exact z_vret rfl rfl d_AbstractCollection_init_4

def s_ArrayList_size (v0 : Nat) (σ : zS) : Option (Int32 × zS) := (zgI σ v0 3 1).bind fun x1 => some (x1, σ)
set_option maxRecDepth 100000 in
theorem t_ArrayList_size {l : Launch} {D : zD} {v0 : Nat} {σ : zS} {q : Int32 × zS} (h : s_ArrayList_size v0 σ = some q) : zMet l D Y_ArrayList_size K_ArrayList_size 0 0 [.ref (v0)] σ (.returned (some (.int q.1)), q.2) := by
  refine zMet.ofZ (by decide) rfl (fun q => by cases q) (Nat.le_of_ble_eq_true rfl) ?_
  show Z _ _ _ _ _ _ 0 [(0, .ref (v0))] [] _
  unfold s_ArrayList_size at h
  refine z_aload_n 0 d_ArrayList_size_0 rfl rfl ?_
  replace h := Option.bind_eq_some_iff.mp h; obtain ⟨x1, e2, h⟩ := h
  refine z_getI wF_java_util_ArrayList_48_3 d_ArrayList_size_1 e2 ?_
  cases h
  exact z_iret rfl rfl d_ArrayList_size_4

def s_Preconditions_checkIndex_9  (v0 : Int32) (v1 : Int32) (v2 : Option Nat) (σ : zS) : Option (Int32 × zS) := none
def s_Preconditions_checkIndex (v0 : Int32) (v1 : Int32) (v2 : Option Nat) (σ : zS) : Option (Int32 × zS) := if v0 < 0 then s_Preconditions_checkIndex_9  (v0) (v1) (v2) σ else if v0 < v1 then some (v0, σ) else s_Preconditions_checkIndex_9  (v0) (v1) (v2) σ
set_option maxRecDepth 100000 in
theorem t_Preconditions_checkIndex_9 {l : Launch} {D : zD} {q : Int32 × zS}   {v0 : Int32} {v1 : Int32} {v2 : Option Nat} {σ : zS} (h : s_Preconditions_checkIndex_9  v0 v1 v2 σ = some q) : Z l D K_Preconditions_checkIndex 0 0 (.returned (some (.int q.1)), q.2) 9 [(0, .int (v0)), (1, .int (v1)), (2, va_rf (v2))] [] σ := by
  unfold s_Preconditions_checkIndex_9 at h
  refine z_aload_nR 2 d_Preconditions_checkIndex_9 rfl rfl ?_
  refine z_iload_n 0 d_Preconditions_checkIndex_10 rfl rfl ?_
  refine z_iload_n 1 d_Preconditions_checkIndex_11 rfl rfl ?_
  cases h
set_option maxRecDepth 100000 in
theorem t_Preconditions_checkIndex {l : Launch} {D : zD} {v0 : Int32} {v1 : Int32} {v2 : Option Nat} {σ : zS} {q : Int32 × zS} (h : s_Preconditions_checkIndex v0 v1 v2 σ = some q) : zMet l D Y_Preconditions_checkIndex K_Preconditions_checkIndex 0 0 [.int (v0), .int (v1), va_rf (v2)] σ (.returned (some (.int q.1)), q.2) := by
  refine zMet.ofZ (by decide) rfl (fun q => by cases q) (by simp [lg_sl, z_rfc, z_ci, z_cl, z_cr, z_cn]) ?_
  rw [show lv_args 0 ([.int (v0), .int (v1), va_rf (v2)] : List Value) = [(0, .int (v0)), (1, .int (v1)), (2, va_rf (v2))] from by simp [lv_args, z_rfc, z_ci, z_cl, z_cr, z_cn]]
  unfold s_Preconditions_checkIndex at h
  refine z_iload_n 0 d_Preconditions_checkIndex_0 rfl rfl ?_
  refine z_if_lt (tgt := 9) d_Preconditions_checkIndex_1 rfl (fun c1 => ?_) (fun c1 => ?_)
  · rw [if_pos c1] at h
    refine z_lv (lv' := [(0, .int (v0)), (1, .int (v1)), (2, va_rf (v2))]) [0, 1, 2] rfl ?_
    exact t_Preconditions_checkIndex_9   h
  · rw [if_neg c1] at h
    refine z_iload_n 0 d_Preconditions_checkIndex_4 rfl rfl ?_
    refine z_iload_n 1 d_Preconditions_checkIndex_5 rfl rfl ?_
    refine z_icmp_lt (tgt := 16) d_Preconditions_checkIndex_6 rfl (fun c2 => ?_) (fun c2 => ?_)
    · rw [if_pos c2] at h
      refine z_iload_n 0 d_Preconditions_checkIndex_16 rfl rfl ?_
      cases h
      exact z_iret rfl rfl d_Preconditions_checkIndex_17
    · rw [if_neg c2] at h
      refine z_lv (lv' := [(0, .int (v0)), (1, .int (v1)), (2, va_rf (v2))]) [0, 1, 2] rfl ?_
      exact t_Preconditions_checkIndex_9   h

def s_ArrayList_elementData (v0 : Nat) (v1 : Int32) (σ : zS) : Option (Option Nat × zS) := (zgR σ v0 3 0).bind fun x1 => (x1).bind fun a3 => (zaR σ a3 10 (v1)).bind fun x4 => some (x4, σ)
set_option maxRecDepth 100000 in
theorem t_ArrayList_elementData {l : Launch} {D : zD} {v0 : Nat} {v1 : Int32} {σ : zS} {q : Option Nat × zS} (h : s_ArrayList_elementData v0 v1 σ = some q) : zMet l D Y_ArrayList_elementData K_ArrayList_elementData 0 0 [.ref (v0), .int (v1)] σ (.returned (some (va_rf q.1)), q.2) := by
  refine zMet.ofZ (by decide) rfl (fun q => by cases q) (Nat.le_of_ble_eq_true rfl) ?_
  show Z _ _ _ _ _ _ 0 [(0, .ref (v0)), (1, .int (v1))] [] _
  unfold s_ArrayList_elementData at h
  refine z_aload_n 0 d_ArrayList_elementData_0 rfl rfl ?_
  replace h := Option.bind_eq_some_iff.mp h; obtain ⟨x1, e2, h⟩ := h
  refine z_getR wF_java_util_ArrayList_9_3 d_ArrayList_elementData_1 e2 ?_
  refine z_iload_n 1 d_ArrayList_elementData_4 rfl rfl ?_
  replace h := Option.bind_eq_some_iff.mp h; obtain ⟨a3, rfl, h⟩ := h
  replace h := Option.bind_eq_some_iff.mp h; obtain ⟨x4, e5, h⟩ := h
  refine z_aaload rfl d_ArrayList_elementData_5 e5 ?_
  cases h
  exact z_aret (r := x4) rfl (Or.inl ⟨_, rfl⟩) rfl d_ArrayList_elementData_6

def s_StringLatin1_canEncode_12  (v0 : Int32) (w0 : Int32) (σ : zS) : Option (Int32 × zS) := if w0 = 0 ∨ w0 = 1 then some (w0, σ) else none
def s_StringLatin1_canEncode (v0 : Int32) (σ : zS) : Option (Int32 × zS) := if 255 < v0 then s_StringLatin1_canEncode_12  (v0) (0) σ else s_StringLatin1_canEncode_12  (v0) (1) σ
set_option maxRecDepth 100000 in
theorem t_StringLatin1_canEncode_12 {l : Launch} {D : zD} {q : Int32 × zS}   {v0 : Int32} {w0 : Int32} {σ : zS} (h : s_StringLatin1_canEncode_12  v0 w0 σ = some q) : Z l D K_StringLatin1_canEncode 0 0 (.returned (some (.int q.1)), q.2) 12 [(0, .int (v0))] [.int (w0)] σ := by
  unfold s_StringLatin1_canEncode_12 at h
  by_cases c1 : w0 = 0 ∨ w0 = 1
  rotate_left
  · rw [if_neg c1] at h; cases h
  rw [if_pos c1] at h
  cases h
  exact z_zret rfl (z_nb c1) rfl d_StringLatin1_canEncode_12
set_option maxRecDepth 100000 in
theorem t_StringLatin1_canEncode {l : Launch} {D : zD} {v0 : Int32} {σ : zS} {q : Int32 × zS} (h : s_StringLatin1_canEncode v0 σ = some q) : zMet l D Y_StringLatin1_canEncode K_StringLatin1_canEncode 0 0 [.int (v0)] σ (.returned (some (.int q.1)), q.2) := by
  refine zMet.ofZ (by decide) rfl (fun q => by cases q) (Nat.le_of_ble_eq_true rfl) ?_
  show Z _ _ _ _ _ _ 0 [(0, .int (v0))] [] _
  unfold s_StringLatin1_canEncode at h
  refine z_iload_n 0 d_StringLatin1_canEncode_0 rfl rfl ?_
  refine z_sipush (v := 255) d_StringLatin1_canEncode_1 rfl ?_
  refine z_icmp_gt (tgt := 11) d_StringLatin1_canEncode_4 rfl (fun c1 => ?_) (fun c1 => ?_)
  · rw [if_pos c1] at h
    refine z_iconst (v := 0) d_StringLatin1_canEncode_11 rfl ?_
    refine z_lv (lv' := [(0, .int (v0))]) [0] rfl ?_
    exact t_StringLatin1_canEncode_12   h
  · rw [if_neg c1] at h
    refine z_iconst (v := 1) d_StringLatin1_canEncode_7 rfl ?_
    refine z_goto (tgt := 12) d_StringLatin1_canEncode_8 rfl ?_
    refine z_lv (lv' := [(0, .int (v0))]) [0] rfl ?_
    exact t_StringLatin1_canEncode_12   h

def s_StringUTF16_length (v0 : Option Nat) (σ : zS) : Option (Int32 × zS) := (v0).bind fun a1 => (zal σ a1 2).bind fun x2 => some (x2 >>> (1 &&& 31), σ)
set_option maxRecDepth 100000 in
theorem t_StringUTF16_length {l : Launch} {D : zD} {v0 : Option Nat} {σ : zS} {q : Int32 × zS} (h : s_StringUTF16_length v0 σ = some q) : zMet l D Y_StringUTF16_length K_StringUTF16_length 0 0 [va_rf (v0)] σ (.returned (some (.int q.1)), q.2) := by
  refine zMet.ofZ (by decide) rfl (fun q => by cases q) (by simp [lg_sl, z_rfc, z_ci, z_cl, z_cr, z_cn]) ?_
  rw [show lv_args 0 ([va_rf (v0)] : List Value) = [(0, va_rf (v0))] from by simp [lv_args, z_rfc, z_ci, z_cl, z_cr, z_cn]]
  unfold s_StringUTF16_length at h
  refine z_aload_nR 0 d_StringUTF16_length_0 rfl rfl ?_
  replace h := Option.bind_eq_some_iff.mp h; obtain ⟨a1, rfl, h⟩ := h
  replace h := Option.bind_eq_some_iff.mp h; obtain ⟨x2, e3, h⟩ := h
  refine z_alen (t := 2) rfl d_StringUTF16_length_1 e3 ?_
  refine z_iconst (v := 1) d_StringUTF16_length_2 rfl ?_
  refine z_ishr d_StringUTF16_length_3 ?_
  cases h
  exact z_iret rfl rfl d_StringUTF16_length_4

def s_Preconditions_checkFromIndexSize_15  (v0 : Int32) (v1 : Int32) (v2 : Int32) (v3 : Option Nat) (σ : zS) : Option (Int32 × zS) := none
def s_Preconditions_checkFromIndexSize (v0 : Int32) (v1 : Int32) (v2 : Int32) (v3 : Option Nat) (σ : zS) : Option (Int32 × zS) := if ((v2 ||| v0) ||| v1) < 0 then s_Preconditions_checkFromIndexSize_15  (v0) (v1) (v2) (v3) σ else if v1 ≤ (v2 - v0) then some (v0, σ) else s_Preconditions_checkFromIndexSize_15  (v0) (v1) (v2) (v3) σ
set_option maxRecDepth 100000 in
theorem t_Preconditions_checkFromIndexSize_15 {l : Launch} {D : zD} {q : Int32 × zS}   {v0 : Int32} {v1 : Int32} {v2 : Int32} {v3 : Option Nat} {σ : zS} (h : s_Preconditions_checkFromIndexSize_15  v0 v1 v2 v3 σ = some q) : Z l D K_Preconditions_checkFromIndexSize 0 0 (.returned (some (.int q.1)), q.2) 15 [(0, .int (v0)), (1, .int (v1)), (2, .int (v2)), (3, va_rf (v3))] [] σ := by
  unfold s_Preconditions_checkFromIndexSize_15 at h
  refine z_aload_nR 3 d_Preconditions_checkFromIndexSize_15 rfl rfl ?_
  refine z_iload_n 0 d_Preconditions_checkFromIndexSize_16 rfl rfl ?_
  refine z_iload_n 1 d_Preconditions_checkFromIndexSize_17 rfl rfl ?_
  refine z_iload_n 2 d_Preconditions_checkFromIndexSize_18 rfl rfl ?_
  cases h
set_option maxRecDepth 100000 in
theorem t_Preconditions_checkFromIndexSize {l : Launch} {D : zD} {v0 : Int32} {v1 : Int32} {v2 : Int32} {v3 : Option Nat} {σ : zS} {q : Int32 × zS} (h : s_Preconditions_checkFromIndexSize v0 v1 v2 v3 σ = some q) : zMet l D Y_Preconditions_checkFromIndexSize K_Preconditions_checkFromIndexSize 0 0 [.int (v0), .int (v1), .int (v2), va_rf (v3)] σ (.returned (some (.int q.1)), q.2) := by
  refine zMet.ofZ (by decide) rfl (fun q => by cases q) (by simp [lg_sl, z_rfc, z_ci, z_cl, z_cr, z_cn]) ?_
  rw [show lv_args 0 ([.int (v0), .int (v1), .int (v2), va_rf (v3)] : List Value) = [(0, .int (v0)), (1, .int (v1)), (2, .int (v2)), (3, va_rf (v3))] from by simp [lv_args, z_rfc, z_ci, z_cl, z_cr, z_cn]]
  unfold s_Preconditions_checkFromIndexSize at h
  refine z_iload_n 2 d_Preconditions_checkFromIndexSize_0 rfl rfl ?_
  refine z_iload_n 0 d_Preconditions_checkFromIndexSize_1 rfl rfl ?_
  refine z_ior d_Preconditions_checkFromIndexSize_2 ?_
  refine z_iload_n 1 d_Preconditions_checkFromIndexSize_3 rfl rfl ?_
  refine z_ior d_Preconditions_checkFromIndexSize_4 ?_
  refine z_if_lt (tgt := 15) d_Preconditions_checkFromIndexSize_5 rfl (fun c1 => ?_) (fun c1 => ?_)
  · rw [if_pos c1] at h
    refine z_lv (lv' := [(0, .int (v0)), (1, .int (v1)), (2, .int (v2)), (3, va_rf (v3))]) [0, 1, 2, 3] rfl ?_
    exact t_Preconditions_checkFromIndexSize_15   h
  · rw [if_neg c1] at h
    refine z_iload_n 1 d_Preconditions_checkFromIndexSize_8 rfl rfl ?_
    refine z_iload_n 2 d_Preconditions_checkFromIndexSize_9 rfl rfl ?_
    refine z_iload_n 0 d_Preconditions_checkFromIndexSize_10 rfl rfl ?_
    refine z_isub d_Preconditions_checkFromIndexSize_11 ?_
    refine z_icmp_le (tgt := 23) d_Preconditions_checkFromIndexSize_12 rfl (fun c2 => ?_) (fun c2 => ?_)
    · rw [if_pos c2] at h
      refine z_iload_n 0 d_Preconditions_checkFromIndexSize_23 rfl rfl ?_
      cases h
      exact z_iret rfl rfl d_Preconditions_checkFromIndexSize_24
    · rw [if_neg c2] at h
      refine z_lv (lv' := [(0, .int (v0)), (1, .int (v1)), (2, .int (v2)), (3, va_rf (v3))]) [0, 1, 2, 3] rfl ?_
      exact t_Preconditions_checkFromIndexSize_15   h

def s_Preconditions_checkFromToIndex_14  (v0 : Int32) (v1 : Int32) (v2 : Int32) (v3 : Option Nat) (σ : zS) : Option (Int32 × zS) := none
def s_Preconditions_checkFromToIndex (v0 : Int32) (v1 : Int32) (v2 : Int32) (v3 : Option Nat) (σ : zS) : Option (Int32 × zS) := if v0 < 0 then s_Preconditions_checkFromToIndex_14  (v0) (v1) (v2) (v3) σ else if v1 < v0 then s_Preconditions_checkFromToIndex_14  (v0) (v1) (v2) (v3) σ else if v1 ≤ v2 then some (v0, σ) else s_Preconditions_checkFromToIndex_14  (v0) (v1) (v2) (v3) σ
set_option maxRecDepth 100000 in
theorem t_Preconditions_checkFromToIndex_14 {l : Launch} {D : zD} {q : Int32 × zS}   {v0 : Int32} {v1 : Int32} {v2 : Int32} {v3 : Option Nat} {σ : zS} (h : s_Preconditions_checkFromToIndex_14  v0 v1 v2 v3 σ = some q) : Z l D K_Preconditions_checkFromToIndex 0 0 (.returned (some (.int q.1)), q.2) 14 [(0, .int (v0)), (1, .int (v1)), (2, .int (v2)), (3, va_rf (v3))] [] σ := by
  unfold s_Preconditions_checkFromToIndex_14 at h
  refine z_aload_nR 3 d_Preconditions_checkFromToIndex_14 rfl rfl ?_
  refine z_iload_n 0 d_Preconditions_checkFromToIndex_15 rfl rfl ?_
  refine z_iload_n 1 d_Preconditions_checkFromToIndex_16 rfl rfl ?_
  refine z_iload_n 2 d_Preconditions_checkFromToIndex_17 rfl rfl ?_
  cases h
set_option maxRecDepth 100000 in
theorem t_Preconditions_checkFromToIndex {l : Launch} {D : zD} {v0 : Int32} {v1 : Int32} {v2 : Int32} {v3 : Option Nat} {σ : zS} {q : Int32 × zS} (h : s_Preconditions_checkFromToIndex v0 v1 v2 v3 σ = some q) : zMet l D Y_Preconditions_checkFromToIndex K_Preconditions_checkFromToIndex 0 0 [.int (v0), .int (v1), .int (v2), va_rf (v3)] σ (.returned (some (.int q.1)), q.2) := by
  refine zMet.ofZ (by decide) rfl (fun q => by cases q) (by simp [lg_sl, z_rfc, z_ci, z_cl, z_cr, z_cn]) ?_
  rw [show lv_args 0 ([.int (v0), .int (v1), .int (v2), va_rf (v3)] : List Value) = [(0, .int (v0)), (1, .int (v1)), (2, .int (v2)), (3, va_rf (v3))] from by simp [lv_args, z_rfc, z_ci, z_cl, z_cr, z_cn]]
  unfold s_Preconditions_checkFromToIndex at h
  refine z_iload_n 0 d_Preconditions_checkFromToIndex_0 rfl rfl ?_
  refine z_if_lt (tgt := 14) d_Preconditions_checkFromToIndex_1 rfl (fun c1 => ?_) (fun c1 => ?_)
  · rw [if_pos c1] at h
    refine z_lv (lv' := [(0, .int (v0)), (1, .int (v1)), (2, .int (v2)), (3, va_rf (v3))]) [0, 1, 2, 3] rfl ?_
    exact t_Preconditions_checkFromToIndex_14   h
  · rw [if_neg c1] at h
    refine z_iload_n 0 d_Preconditions_checkFromToIndex_4 rfl rfl ?_
    refine z_iload_n 1 d_Preconditions_checkFromToIndex_5 rfl rfl ?_
    refine z_icmp_gt (tgt := 14) d_Preconditions_checkFromToIndex_6 rfl (fun c2 => ?_) (fun c2 => ?_)
    · rw [if_pos c2] at h
      refine z_lv (lv' := [(0, .int (v0)), (1, .int (v1)), (2, .int (v2)), (3, va_rf (v3))]) [0, 1, 2, 3] rfl ?_
      exact t_Preconditions_checkFromToIndex_14   h
    · rw [if_neg c2] at h
      refine z_iload_n 1 d_Preconditions_checkFromToIndex_9 rfl rfl ?_
      refine z_iload_n 2 d_Preconditions_checkFromToIndex_10 rfl rfl ?_
      refine z_icmp_le (tgt := 22) d_Preconditions_checkFromToIndex_11 rfl (fun c3 => ?_) (fun c3 => ?_)
      · rw [if_pos c3] at h
        refine z_iload_n 0 d_Preconditions_checkFromToIndex_22 rfl rfl ?_
        cases h
        exact z_iret rfl rfl d_Preconditions_checkFromToIndex_23
      · rw [if_neg c3] at h
        refine z_lv (lv' := [(0, .int (v0)), (1, .int (v1)), (2, .int (v2)), (3, va_rf (v3))]) [0, 1, 2, 3] rfl ?_
        exact t_Preconditions_checkFromToIndex_14   h

def s_AbstractStringBuilder_getValue (v0 : Nat) (σ : zS) : Option (Option Nat × zS) := (zgR σ v0 12 0).bind fun x1 => some (x1, σ)
set_option maxRecDepth 100000 in
theorem t_AbstractStringBuilder_getValue {l : Launch} {D : zD} {v0 : Nat} {σ : zS} {q : Option Nat × zS} (h : s_AbstractStringBuilder_getValue v0 σ = some q) : zMet l D Y_AbstractStringBuilder_getValue K_AbstractStringBuilder_getValue 0 0 [.ref (v0)] σ (.returned (some (va_rf q.1)), q.2) := by
  refine zMet.ofZ (by decide) rfl (fun q => by cases q) (Nat.le_of_ble_eq_true rfl) ?_
  show Z _ _ _ _ _ _ 0 [(0, .ref (v0))] [] _
  unfold s_AbstractStringBuilder_getValue at h
  refine z_aload_n 0 d_AbstractStringBuilder_getValue_0 rfl rfl ?_
  replace h := Option.bind_eq_some_iff.mp h; obtain ⟨x1, e2, h⟩ := h
  refine z_getR wF_java_lang_AbstractStringBuilder_15_12 d_AbstractStringBuilder_getValue_1 e2 ?_
  cases h
  exact z_aret (r := x1) rfl (Or.inr ⟨_, rfl⟩) rfl d_AbstractStringBuilder_getValue_4

def s_AbstractStringBuilder_length (v0 : Nat) (σ : zS) : Option (Int32 × zS) := (zgI σ v0 12 3).bind fun x1 => some (x1, σ)
set_option maxRecDepth 100000 in
theorem t_AbstractStringBuilder_length {l : Launch} {D : zD} {v0 : Nat} {σ : zS} {q : Int32 × zS} (h : s_AbstractStringBuilder_length v0 σ = some q) : zMet l D Y_AbstractStringBuilder_length K_AbstractStringBuilder_length 0 0 [.ref (v0)] σ (.returned (some (.int q.1)), q.2) := by
  refine zMet.ofZ (by decide) rfl (fun q => by cases q) (Nat.le_of_ble_eq_true rfl) ?_
  show Z _ _ _ _ _ _ 0 [(0, .ref (v0))] [] _
  unfold s_AbstractStringBuilder_length at h
  refine z_aload_n 0 d_AbstractStringBuilder_length_0 rfl rfl ?_
  replace h := Option.bind_eq_some_iff.mp h; obtain ⟨x1, e2, h⟩ := h
  refine z_getI wF_java_lang_AbstractStringBuilder_79_12 d_AbstractStringBuilder_length_1 e2 ?_
  cases h
  exact z_iret rfl rfl d_AbstractStringBuilder_length_4

def s_AbstractList_init (v0 : Nat) (σ : zS) : Option (zS) := (s_AbstractCollection_init v0  σ).bind fun σ1 => (zpF σ1 v0 3 2 (.int (0))).bind fun σ4 => some σ4
set_option maxRecDepth 100000 in
theorem t_AbstractList_init {l : Launch} {D : zD} {v0 : Nat} {σ : zS} {q : zS} (h : s_AbstractList_init v0 σ = some q) : zMet l D Y_AbstractList_init K_AbstractList_init 2 32 [.ref (v0)] σ (.returned none, q) := by
  refine zMet.ofZ (by decide) rfl (fun q => rfl) (Nat.le_of_ble_eq_true rfl) ?_
  show Z _ _ _ _ _ _ 0 [(0, .ref (v0))] [] _
  unfold s_AbstractList_init at h
  refine z_aload_n 0 d_AbstractList_init_0 rfl rfl ?_
  replace h := Option.bind_eq_some_iff.mp h; obtain ⟨σ1, e2, h⟩ := h
  refine z_callI (av := []) (st := []) wI_java_util_AbstractList_1 (t_AbstractCollection_init e2) (by decide) (by decide) d_AbstractList_init_1 (by simp [z_rfc, z_ci, z_cl, z_cr, z_cn]) ?_
  show Z _ _ _ _ _ _ 4 [(0, .ref (v0))] [] _
  refine z_aload_n 0 d_AbstractList_init_4 rfl rfl ?_
  refine z_iconst (v := 0) d_AbstractList_init_5 rfl ?_
  replace h := Option.bind_eq_some_iff.mp h; obtain ⟨σ4, e5, h⟩ := h
  refine z_put wP_java_util_AbstractList_7_3 (fun _ => rfl) d_AbstractList_init_6 rfl rfl e5 ?_
  cases h
  exact z_vret rfl rfl d_AbstractList_init_9

def s_Objects_checkIndex (v0 : Int32) (v1 : Int32) (σ : zS) : Option (Int32 × zS) := (s_Preconditions_checkIndex v0 v1 none σ).bind fun (x3, σ1) => some (x3, σ1)
set_option maxRecDepth 100000 in
theorem t_Objects_checkIndex {l : Launch} {D : zD} {v0 : Int32} {v1 : Int32} {σ : zS} {q : Int32 × zS} (h : s_Objects_checkIndex v0 v1 σ = some q) : zMet l D Y_Objects_checkIndex K_Objects_checkIndex 1 22 [.int (v0), .int (v1)] σ (.returned (some (.int q.1)), q.2) := by
  refine zMet.ofZ (by decide) rfl (fun q => by cases q) (Nat.le_of_ble_eq_true rfl) ?_
  show Z _ _ _ _ _ _ 0 [(0, .int (v0)), (1, .int (v1))] [] _
  unfold s_Objects_checkIndex at h
  refine z_iload_n 0 d_Objects_checkIndex_0 rfl rfl ?_
  refine z_iload_n 1 d_Objects_checkIndex_1 rfl rfl ?_
  refine z_null d_Objects_checkIndex_2 ?_
  replace h := Option.bind_eq_some_iff.mp h; obtain ⟨⟨x3, σ1⟩, e2, h⟩ := h
  dsimp only at h
  refine z_callS (av := [.int (v0), .int (v1), va_rf (none)]) (st := []) wS_java_util_Objects_105 (t_Preconditions_checkIndex e2) (by decide) (by decide) d_Objects_checkIndex_3 (by simp [z_rfc, z_ci, z_cl, z_cr, z_cn]) ?_
  show Z _ _ _ _ _ _ 6 [(0, .int (v0)), (1, .int (v1))] [.int (x3)] _
  cases h
  exact z_iret rfl rfl d_Objects_checkIndex_6

def s_ArrayList_get (v0 : Nat) (v1 : Int32) (σ : zS) : Option (Option Nat × zS) := (zgI σ v0 3 1).bind fun x1 => (s_Objects_checkIndex v1 x1 σ).bind fun (x5, σ3) => (zis σ3 v0 3).bind fun _ => (s_ArrayList_elementData v0 v1 σ3).bind fun (x8, σ6) => some (x8, σ6)
set_option maxRecDepth 100000 in
theorem t_ArrayList_get {l : Launch} {D : zD} {v0 : Nat} {v1 : Int32} {σ : zS} {q : Option Nat × zS} (h : s_ArrayList_get v0 v1 σ = some q) : zMet l D Y_ArrayList_get K_ArrayList_get 2 43 [.ref (v0), .int (v1)] σ (.returned (some (va_rf q.1)), q.2) := by
  refine zMet.ofZ (by decide) rfl (fun q => by cases q) (Nat.le_of_ble_eq_true rfl) ?_
  show Z _ _ _ _ _ _ 0 [(0, .ref (v0)), (1, .int (v1))] [] _
  unfold s_ArrayList_get at h
  refine z_iload_n 1 d_ArrayList_get_0 rfl rfl ?_
  refine z_aload_n 0 d_ArrayList_get_1 rfl rfl ?_
  replace h := Option.bind_eq_some_iff.mp h; obtain ⟨x1, e2, h⟩ := h
  refine z_getI wF_java_util_ArrayList_48_3 d_ArrayList_get_2 e2 ?_
  replace h := Option.bind_eq_some_iff.mp h; obtain ⟨⟨x5, σ3⟩, e4, h⟩ := h
  dsimp only at h
  refine z_callS (av := [.int (v1), .int (x1)]) (st := []) wS_java_util_ArrayList_118 (t_Objects_checkIndex e4) (by decide) (by decide) d_ArrayList_get_5 (by simp [z_rfc, z_ci, z_cl, z_cr, z_cn]) ?_
  show Z _ _ _ _ _ _ 8 [(0, .ref (v0)), (1, .int (v1))] [.int (x5)] _
  refine z_pop d_ArrayList_get_8 rfl ?_
  refine z_aload_n 0 d_ArrayList_get_9 rfl rfl ?_
  refine z_iload_n 1 d_ArrayList_get_10 rfl rfl ?_
  replace h := Option.bind_eq_some_iff.mp h; obtain ⟨_, e9, h⟩ := h
  obtain ⟨b10, f11, e9⟩ := zcls_at (zis_at e9)
  replace h := Option.bind_eq_some_iff.mp h; obtain ⟨⟨x8, σ6⟩, e7, h⟩ := h
  dsimp only at h
  refine z_callV (av := [.int (v1)]) (st := []) wV_java_util_ArrayList_123 e9 (t_ArrayList_elementData e7) (by decide) (by decide) d_ArrayList_get_11 (by simp [z_rfc, z_ci, z_cl, z_cr, z_cn]) ?_
  show Z _ _ _ _ _ _ 14 [(0, .ref (v0)), (1, .int (v1))] [va_rf (x8)] _
  cases h
  exact z_aret (r := x8) rfl (Or.inl ⟨_, rfl⟩) rfl d_ArrayList_get_14

def s_StringBuilder_length (v0 : Nat) (σ : zS) : Option (Int32 × zS) := (zis σ v0 12).bind fun _ => (s_AbstractStringBuilder_length v0  σ).bind fun (x3, σ1) => some (x3, σ1)
set_option maxRecDepth 100000 in
theorem t_StringBuilder_length {l : Launch} {D : zD} {v0 : Nat} {σ : zS} {q : Int32 × zS} (h : s_StringBuilder_length v0 σ = some q) : zMet l D Y_StringBuilder_length K_StringBuilder_length 1 20 [.ref (v0)] σ (.returned (some (.int q.1)), q.2) := by
  refine zMet.ofZ (by decide) rfl (fun q => by cases q) (Nat.le_of_ble_eq_true rfl) ?_
  show Z _ _ _ _ _ _ 0 [(0, .ref (v0))] [] _
  unfold s_StringBuilder_length at h
  refine z_aload_n 0 d_StringBuilder_length_0 rfl rfl ?_
  replace h := Option.bind_eq_some_iff.mp h; obtain ⟨_, e4, h⟩ := h
  obtain ⟨b5, f6, e4⟩ := zcls_at (zis_at e4)
  replace h := Option.bind_eq_some_iff.mp h; obtain ⟨⟨x3, σ1⟩, e2, h⟩ := h
  dsimp only at h
  refine z_callP (av := []) (st := []) wX_java_lang_StringBuilder_343 (ci := 12) rfl e4 (t_AbstractStringBuilder_length e2) (by decide) (by decide) d_StringBuilder_length_1 (by simp [z_rfc, z_ci, z_cl, z_cr, z_cn]) ?_
  show Z _ _ _ _ _ _ 4 [(0, .ref (v0))] [.int (x3)] _
  cases h
  exact z_iret rfl rfl d_StringBuilder_length_4

