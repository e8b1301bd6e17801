def s_AbstractCollection_init (g : zG) (v0 : Nat) (σ : zS) : Option (zS) := some σ
set_option maxRecDepth 100000 in
theorem t_AbstractCollection_init {l : Launch} {D : zD} {g : zG} (hG : zGok g D) {v0 : Nat} {σ : zS} {q : zS} (h : s_AbstractCollection_init g v0 σ = some q) : zMet l D Y_AbstractCollection_init K_AbstractCollection_init 1 12 [.ref (v0)] σ (.returned none, q) := by
  refine zMet.ofZ (by decide) rfl (fun q => rfl) (Nat.le_of_ble_eq_true rfl) ?_
  show Z _ _ _ _ _ _ 0 [(0, .ref (v0))] [] _
  unfold s_AbstractCollection_init at h
  refine z_aload_n 0 d_AbstractCollection_init_0 rfl rfl ?_
  refine z_objInit wO_java_util_AbstractCollection_1 wOi wOc (by decide) (by decide) d_AbstractCollection_init_1 ?_
  cases h
  exact z_vret rfl rfl d_AbstractCollection_init_4

def s_ArrayList_size (g : zG) (v0 : Nat) (σ : zS) : Option (Int32 × zS) := (zgI σ v0 3 1).bind fun x1 => some (x1, σ)
set_option maxRecDepth 100000 in
theorem t_ArrayList_size {l : Launch} {D : zD} {g : zG} (hG : zGok g D) {v0 : Nat} {σ : zS} {q : Int32 × zS} (h : s_ArrayList_size g v0 σ = some q) : zMet l D Y_ArrayList_size K_ArrayList_size 0 0 [.ref (v0)] σ (.returned (some (.int q.1)), q.2) := by
  refine zMet.ofZ (by decide) rfl (fun q => by cases q) (Nat.le_of_ble_eq_true rfl) ?_
  show Z _ _ _ _ _ _ 0 [(0, .ref (v0))] [] _
  unfold s_ArrayList_size at h
  refine z_aload_n 0 d_ArrayList_size_0 rfl rfl ?_
  replace h := Option.bind_eq_some_iff.mp h; obtain ⟨x1, e2, h⟩ := h
  refine z_getI wF_java_util_ArrayList_48_3 d_ArrayList_size_1 e2 ?_
  cases h
  exact z_iret rfl rfl d_ArrayList_size_4

def s_ArraysSupport_hugeLength (g : zG) (v0 : Int32) (v1 : Int32) (σ : zS) : Option (Int32 × zS) := if 0 ≤ (v0 + v1) then if 2147483639 < (v0 + v1) then some (v0 + v1, σ) else some (2147483639, σ) else none
set_option maxRecDepth 100000 in
theorem t_ArraysSupport_hugeLength {l : Launch} {D : zD} {g : zG} (hG : zGok g D) {v0 : Int32} {v1 : Int32} {σ : zS} {q : Int32 × zS} (h : s_ArraysSupport_hugeLength g v0 v1 σ = some q) : zMet l D Y_ArraysSupport_hugeLength K_ArraysSupport_hugeLength 0 0 [.int (v0), .int (v1)] σ (.returned (some (.int q.1)), q.2) := by
  refine zMet.ofZ (by decide) rfl (fun q => by cases q) (Nat.le_of_ble_eq_true rfl) ?_
  show Z _ _ _ _ _ _ 0 [(0, .int (v0)), (1, .int (v1))] [] _
  unfold s_ArraysSupport_hugeLength at h
  refine z_iload_n 0 d_ArraysSupport_hugeLength_0 rfl rfl ?_
  refine z_iload_n 1 d_ArraysSupport_hugeLength_1 rfl rfl ?_
  refine z_iadd d_ArraysSupport_hugeLength_2 ?_
  refine z_istore_n (j := 2) (lv' := [(2, .int (v0 + v1)), (0, .int (v0)), (1, .int (v1))]) d_ArraysSupport_hugeLength_3 rfl (by decide) rfl ?_
  refine z_iload_n 0 d_ArraysSupport_hugeLength_4 rfl rfl ?_
  refine z_if_ge (tgt := 49) d_ArraysSupport_hugeLength_5 rfl (fun c1 => ?_) (fun c1 => ?_)
  · rw [if_pos c1] at h
    refine z_iload_n 0 d_ArraysSupport_hugeLength_49 rfl rfl ?_
    refine z_ldc (v := 2147483639) wC_jdk_internal_util_ArraysSupport_200 d_ArraysSupport_hugeLength_50 ?_
    refine z_icmp_gt (tgt := 58) d_ArraysSupport_hugeLength_52 rfl (fun c2 => ?_) (fun c2 => ?_)
    · rw [if_pos c2] at h
      refine z_iload_n 0 d_ArraysSupport_hugeLength_58 rfl rfl ?_
      cases h
      exact z_iret rfl rfl d_ArraysSupport_hugeLength_59
    · rw [if_neg c2] at h
      refine z_ldc (v := 2147483639) wC_jdk_internal_util_ArraysSupport_200 d_ArraysSupport_hugeLength_55 ?_
      cases h
      exact z_iret rfl rfl d_ArraysSupport_hugeLength_57
  · rw [if_neg c1] at h
    cases h

def s_Preconditions_checkIndex_9 (g : zG)  (v0 : Int32) (v1 : Int32) (v2 : Option Nat) (σ : zS) : Option (Int32 × zS) := none
def s_Preconditions_checkIndex (g : zG) (v0 : Int32) (v1 : Int32) (v2 : Option Nat) (σ : zS) : Option (Int32 × zS) := if v0 < 0 then s_Preconditions_checkIndex_9 g  (v0) (v1) (v2) σ else if v0 < v1 then some (v0, σ) else s_Preconditions_checkIndex_9 g  (v0) (v1) (v2) σ
set_option maxRecDepth 100000 in
theorem t_Preconditions_checkIndex_9 {l : Launch} {D : zD} {g : zG} (hG : zGok g D) {q : Int32 × zS}   {v0 : Int32} {v1 : Int32} {v2 : Option Nat} {σ : zS} (h : s_Preconditions_checkIndex_9 g  v0 v1 v2 σ = some q) : Z l D K_Preconditions_checkIndex 0 0 (.returned (some (.int q.1)), q.2) 9 [(0, .int (v0)), (1, .int (v1)), (2, va_rf (v2))] [] σ := by
  unfold s_Preconditions_checkIndex_9 at h
  refine z_aload_nR 2 d_Preconditions_checkIndex_9 rfl rfl ?_
  refine z_iload_n 0 d_Preconditions_checkIndex_10 rfl rfl ?_
  refine z_iload_n 1 d_Preconditions_checkIndex_11 rfl rfl ?_
  cases h
set_option maxRecDepth 100000 in
theorem t_Preconditions_checkIndex {l : Launch} {D : zD} {g : zG} (hG : zGok g D) {v0 : Int32} {v1 : Int32} {v2 : Option Nat} {σ : zS} {q : Int32 × zS} (h : s_Preconditions_checkIndex g v0 v1 v2 σ = some q) : zMet l D Y_Preconditions_checkIndex K_Preconditions_checkIndex 0 0 [.int (v0), .int (v1), va_rf (v2)] σ (.returned (some (.int q.1)), q.2) := by
  refine zMet.ofZ (by decide) rfl (fun q => by cases q) (by simp [lg_sl, z_rfc, z_ci, z_cl, z_cr, z_cn]) ?_
  rw [show lv_args 0 ([.int (v0), .int (v1), va_rf (v2)] : List Value) = [(0, .int (v0)), (1, .int (v1)), (2, va_rf (v2))] from by simp [lv_args, z_rfc, z_ci, z_cl, z_cr, z_cn]]
  unfold s_Preconditions_checkIndex at h
  refine z_iload_n 0 d_Preconditions_checkIndex_0 rfl rfl ?_
  refine z_if_lt (tgt := 9) d_Preconditions_checkIndex_1 rfl (fun c1 => ?_) (fun c1 => ?_)
  · rw [if_pos c1] at h
    refine z_lv (lv' := [(0, .int (v0)), (1, .int (v1)), (2, va_rf (v2))]) [0, 1, 2] rfl ?_
    exact t_Preconditions_checkIndex_9 hG   h
  · rw [if_neg c1] at h
    refine z_iload_n 0 d_Preconditions_checkIndex_4 rfl rfl ?_
    refine z_iload_n 1 d_Preconditions_checkIndex_5 rfl rfl ?_
    refine z_icmp_lt (tgt := 16) d_Preconditions_checkIndex_6 rfl (fun c2 => ?_) (fun c2 => ?_)
    · rw [if_pos c2] at h
      refine z_iload_n 0 d_Preconditions_checkIndex_16 rfl rfl ?_
      cases h
      exact z_iret rfl rfl d_Preconditions_checkIndex_17
    · rw [if_neg c2] at h
      refine z_lv (lv' := [(0, .int (v0)), (1, .int (v1)), (2, va_rf (v2))]) [0, 1, 2] rfl ?_
      exact t_Preconditions_checkIndex_9 hG   h

def s_ArrayList_elementData (g : zG) (v0 : Nat) (v1 : Int32) (σ : zS) : Option (Option Nat × zS) := (zgR σ v0 3 0).bind fun x1 => (x1).bind fun a3 => (zaR σ a3 10 (v1)).bind fun x4 => some (x4, σ)
set_option maxRecDepth 100000 in
theorem t_ArrayList_elementData {l : Launch} {D : zD} {g : zG} (hG : zGok g D) {v0 : Nat} {v1 : Int32} {σ : zS} {q : Option Nat × zS} (h : s_ArrayList_elementData g v0 v1 σ = some q) : zMet l D Y_ArrayList_elementData K_ArrayList_elementData 0 0 [.ref (v0), .int (v1)] σ (.returned (some (va_rf q.1)), q.2) := by
  refine zMet.ofZ (by decide) rfl (fun q => by cases q) (Nat.le_of_ble_eq_true rfl) ?_
  show Z _ _ _ _ _ _ 0 [(0, .ref (v0)), (1, .int (v1))] [] _
  unfold s_ArrayList_elementData at h
  refine z_aload_n 0 d_ArrayList_elementData_0 rfl rfl ?_
  replace h := Option.bind_eq_some_iff.mp h; obtain ⟨x1, e2, h⟩ := h
  refine z_getR wF_java_util_ArrayList_9_3 d_ArrayList_elementData_1 e2 ?_
  refine z_iload_n 1 d_ArrayList_elementData_4 rfl rfl ?_
  replace h := Option.bind_eq_some_iff.mp h; obtain ⟨a3, rfl, h⟩ := h
  replace h := Option.bind_eq_some_iff.mp h; obtain ⟨x4, e5, h⟩ := h
  refine z_aaload rfl d_ArrayList_elementData_5 e5 ?_
  cases h
  exact z_aret (r := x4) rfl (Or.inl ⟨_, rfl⟩) rfl d_ArrayList_elementData_6

def s_AbstractStringBuilder_init_38 (g : zG)  (v0 : Nat) (v1 : Int32) (σ : zS) : Option (zS) := some σ
def s_AbstractStringBuilder_init (g : zG) (v0 : Nat) (v1 : Int32) (σ : zS) : Option (zS) := (zlen (v1)).bind fun n2 => (some (znew σ n2 (.inl (2, (n2, .inl (fun _ => 0)))))).bind fun σ4 => (zpF σ4 v0 12 0 (.ref (σ.1))).bind fun σ6 => (zpF σ6 v0 12 1 (.int (0))).bind fun σ8 => s_AbstractStringBuilder_init_38 g  (v0) (v1) σ8
set_option maxRecDepth 100000 in
theorem t_AbstractStringBuilder_init_38 {l : Launch} {D : zD} {g : zG} (hG : zGok g D) {q : zS}   {v0 : Nat} {v1 : Int32} {σ : zS} (h : s_AbstractStringBuilder_init_38 g  v0 v1 σ = some q) : Z l D K_AbstractStringBuilder_init 1 12 (.returned none, q) 38 [(0, .ref (v0)), (1, .int (v1))] [] σ := by
  unfold s_AbstractStringBuilder_init_38 at h
  cases h
  exact z_vret rfl rfl d_AbstractStringBuilder_init_38
set_option maxRecDepth 100000 in
theorem t_AbstractStringBuilder_init {l : Launch} {D : zD} {g : zG} (hG : zGok g D) {v0 : Nat} {v1 : Int32} {σ : zS} {q : zS} (h : s_AbstractStringBuilder_init g v0 v1 σ = some q) : zMet l D Y_AbstractStringBuilder_init K_AbstractStringBuilder_init 1 12 [.ref (v0), .int (v1)] σ (.returned none, q) := by
  refine zMet.ofZ (by decide) rfl (fun q => rfl) (Nat.le_of_ble_eq_true rfl) ?_
  show Z _ _ _ _ _ _ 0 [(0, .ref (v0)), (1, .int (v1))] [] _
  unfold s_AbstractStringBuilder_init at h
  refine z_aload_n 0 d_AbstractStringBuilder_init_0 rfl rfl ?_
  refine z_objInit wO_java_lang_AbstractStringBuilder_3 wOi wOc (by decide) (by decide) d_AbstractStringBuilder_init_1 ?_
  refine z_gets (zG_0 hG) wG_java_lang_AbstractStringBuilder_18 (Or.inl rfl) d_AbstractStringBuilder_init_4 ?_
  refine z_if_eq (tgt := 25) d_AbstractStringBuilder_init_7 rfl (fun q => absurd q (by decide)) (fun _ => ?_)
  refine z_aload_n 0 d_AbstractStringBuilder_init_10 rfl rfl ?_
  refine z_iload_n 1 d_AbstractStringBuilder_init_11 rfl rfl ?_
  replace h := Option.bind_eq_some_iff.mp h; obtain ⟨n2, e3, h⟩ := h
  replace h := Option.bind_eq_some_iff.mp h; obtain ⟨σ4, e5, h⟩ := h
  refine z_newa (t := 2) (ty := .byte) (x := (n2, .inl (fun _ => 0))) rfl rfl wA_byte (fun _ => rfl) (by decide) d_AbstractStringBuilder_init_12 e3 ?_
  rw [Option.some.inj e5]
  replace h := Option.bind_eq_some_iff.mp h; obtain ⟨σ6, e7, h⟩ := h
  refine z_put wP_java_lang_AbstractStringBuilder_15_12 (fun _ => rfl) d_AbstractStringBuilder_init_14 rfl rfl e7 ?_
  refine z_aload_n 0 d_AbstractStringBuilder_init_17 rfl rfl ?_
  refine z_iconst (v := 0) d_AbstractStringBuilder_init_18 rfl ?_
  replace h := Option.bind_eq_some_iff.mp h; obtain ⟨σ8, e9, h⟩ := h
  refine z_put wP_java_lang_AbstractStringBuilder_22_12 (fun _ => rfl) d_AbstractStringBuilder_init_19 rfl rfl e9 ?_
  refine z_goto (tgt := 38) d_AbstractStringBuilder_init_22 rfl ?_
  refine z_lv (lv' := [(0, .ref (v0)), (1, .int (v1))]) [0, 1] rfl ?_
  exact t_AbstractStringBuilder_init_38 hG   h

def s_StringUTF16_newBytesLength (g : zG) (v0 : Int32) (σ : zS) : Option (Int32 × zS) := if 0 ≤ v0 then if v0 < 1073741823 then some (v0 <<< (1 &&& 31), σ) else none else none
set_option maxRecDepth 100000 in
theorem t_StringUTF16_newBytesLength {l : Launch} {D : zD} {g : zG} (hG : zGok g D) {v0 : Int32} {σ : zS} {q : Int32 × zS} (h : s_StringUTF16_newBytesLength g v0 σ = some q) : zMet l D Y_StringUTF16_newBytesLength K_StringUTF16_newBytesLength 0 0 [.int (v0)] σ (.returned (some (.int q.1)), q.2) := by
  refine zMet.ofZ (by decide) rfl (fun q => by cases q) (Nat.le_of_ble_eq_true rfl) ?_
  show Z _ _ _ _ _ _ 0 [(0, .int (v0))] [] _
  unfold s_StringUTF16_newBytesLength at h
  refine z_iload_n 0 d_StringUTF16_newBytesLength_0 rfl rfl ?_
  refine z_if_ge (tgt := 12) d_StringUTF16_newBytesLength_1 rfl (fun c1 => ?_) (fun c1 => ?_)
  · rw [if_pos c1] at h
    refine z_iload_n 0 d_StringUTF16_newBytesLength_12 rfl rfl ?_
    refine z_ldc (v := 1073741823) wC_java_lang_StringUTF16_20 d_StringUTF16_newBytesLength_13 ?_
    refine z_icmp_lt (tgt := 55) d_StringUTF16_newBytesLength_15 rfl (fun c2 => ?_) (fun c2 => ?_)
    · rw [if_pos c2] at h
      refine z_iload_n 0 d_StringUTF16_newBytesLength_55 rfl rfl ?_
      refine z_iconst (v := 1) d_StringUTF16_newBytesLength_56 rfl ?_
      refine z_ishl d_StringUTF16_newBytesLength_57 ?_
      cases h
      exact z_iret rfl rfl d_StringUTF16_newBytesLength_58
    · rw [if_neg c2] at h
      cases h
  · rw [if_neg c1] at h
    cases h

def s_AbstractStringBuilder_isLatin1_18 (g : zG)  (v0 : Nat) (w0 : Int32) (σ : zS) : Option (Int32 × zS) := if w0 = 0 ∨ w0 = 1 then some (w0, σ) else none
def s_AbstractStringBuilder_isLatin1_17 (g : zG)  (v0 : Nat) (σ : zS) : Option (Int32 × zS) := s_AbstractStringBuilder_isLatin1_18 g  (v0) (0) σ
def s_AbstractStringBuilder_isLatin1 (g : zG) (v0 : Nat) (σ : zS) : Option (Int32 × zS) := (zgI σ v0 12 1).bind fun x2 => if x2 = 0 then s_AbstractStringBuilder_isLatin1_18 g  (v0) (1) σ else s_AbstractStringBuilder_isLatin1_17 g  (v0) σ
set_option maxRecDepth 100000 in
theorem t_AbstractStringBuilder_isLatin1_18 {l : Launch} {D : zD} {g : zG} (hG : zGok g D) {q : Int32 × zS}   {v0 : Nat} {w0 : Int32} {σ : zS} (h : s_AbstractStringBuilder_isLatin1_18 g  v0 w0 σ = some q) : Z l D K_AbstractStringBuilder_isLatin1 0 0 (.returned (some (.int q.1)), q.2) 18 [(0, .ref (v0))] [.int (w0)] σ := by
  unfold s_AbstractStringBuilder_isLatin1_18 at h
  by_cases c1 : w0 = 0 ∨ w0 = 1
  rotate_left
  · rw [if_neg c1] at h; cases h
  rw [if_pos c1] at h
  cases h
  exact z_zret rfl (z_nb c1) rfl d_AbstractStringBuilder_isLatin1_18
set_option maxRecDepth 100000 in
theorem t_AbstractStringBuilder_isLatin1_17 {l : Launch} {D : zD} {g : zG} (hG : zGok g D) {q : Int32 × zS}   {v0 : Nat} {σ : zS} (h : s_AbstractStringBuilder_isLatin1_17 g  v0 σ = some q) : Z l D K_AbstractStringBuilder_isLatin1 0 0 (.returned (some (.int q.1)), q.2) 17 [(0, .ref (v0))] [] σ := by
  unfold s_AbstractStringBuilder_isLatin1_17 at h
  refine z_iconst (v := 0) d_AbstractStringBuilder_isLatin1_17 rfl ?_
  refine z_lv (lv' := [(0, .ref (v0))]) [0] rfl ?_
  exact t_AbstractStringBuilder_isLatin1_18 hG   h
set_option maxRecDepth 100000 in
theorem t_AbstractStringBuilder_isLatin1 {l : Launch} {D : zD} {g : zG} (hG : zGok g D) {v0 : Nat} {σ : zS} {q : Int32 × zS} (h : s_AbstractStringBuilder_isLatin1 g v0 σ = some q) : zMet l D Y_AbstractStringBuilder_isLatin1 K_AbstractStringBuilder_isLatin1 0 0 [.ref (v0)] σ (.returned (some (.int q.1)), q.2) := by
  refine zMet.ofZ (by decide) rfl (fun q => by cases q) (Nat.le_of_ble_eq_true rfl) ?_
  show Z _ _ _ _ _ _ 0 [(0, .ref (v0))] [] _
  unfold s_AbstractStringBuilder_isLatin1 at h
  refine z_gets (zG_0 hG) wG_java_lang_AbstractStringBuilder_18 (Or.inl rfl) d_AbstractStringBuilder_isLatin1_0 ?_
  refine z_if_eq (tgt := 17) d_AbstractStringBuilder_isLatin1_3 rfl (fun q => absurd q (by decide)) (fun _ => ?_)
  refine z_aload_n 0 d_AbstractStringBuilder_isLatin1_6 rfl rfl ?_
  replace h := Option.bind_eq_some_iff.mp h; obtain ⟨x2, e3, h⟩ := h
  refine z_getI wF_java_lang_AbstractStringBuilder_22_12 d_AbstractStringBuilder_isLatin1_7 e3 ?_
  refine z_if_ne (tgt := 17) d_AbstractStringBuilder_isLatin1_10 rfl (fun c4 => ?_) (fun c4 => ?_)
  · rw [if_neg c4] at h
    refine z_lv (lv' := [(0, .ref (v0))]) [0] rfl ?_
    exact t_AbstractStringBuilder_isLatin1_17 hG   h
  · rw [if_pos c4] at h
    refine z_iconst (v := 1) d_AbstractStringBuilder_isLatin1_13 rfl ?_
    refine z_goto (tgt := 18) d_AbstractStringBuilder_isLatin1_14 rfl ?_
    refine z_lv (lv' := [(0, .ref (v0))]) [0] rfl ?_
    exact t_AbstractStringBuilder_isLatin1_18 hG   h

def s_StringLatin1_canEncode_12 (g : zG)  (v0 : Int32) (w0 : Int32) (σ : zS) : Option (Int32 × zS) := if w0 = 0 ∨ w0 = 1 then some (w0, σ) else none
def s_StringLatin1_canEncode (g : zG) (v0 : Int32) (σ : zS) : Option (Int32 × zS) := if 255 < v0 then s_StringLatin1_canEncode_12 g  (v0) (0) σ else s_StringLatin1_canEncode_12 g  (v0) (1) σ
set_option maxRecDepth 100000 in
theorem t_StringLatin1_canEncode_12 {l : Launch} {D : zD} {g : zG} (hG : zGok g D) {q : Int32 × zS}   {v0 : Int32} {w0 : Int32} {σ : zS} (h : s_StringLatin1_canEncode_12 g  v0 w0 σ = some q) : Z l D K_StringLatin1_canEncode 0 0 (.returned (some (.int q.1)), q.2) 12 [(0, .int (v0))] [.int (w0)] σ := by
  unfold s_StringLatin1_canEncode_12 at h
  by_cases c1 : w0 = 0 ∨ w0 = 1
  rotate_left
  · rw [if_neg c1] at h; cases h
  rw [if_pos c1] at h
  cases h
  exact z_zret rfl (z_nb c1) rfl d_StringLatin1_canEncode_12
set_option maxRecDepth 100000 in
theorem t_StringLatin1_canEncode {l : Launch} {D : zD} {g : zG} (hG : zGok g D) {v0 : Int32} {σ : zS} {q : Int32 × zS} (h : s_StringLatin1_canEncode g v0 σ = some q) : zMet l D Y_StringLatin1_canEncode K_StringLatin1_canEncode 0 0 [.int (v0)] σ (.returned (some (.int q.1)), q.2) := by
  refine zMet.ofZ (by decide) rfl (fun q => by cases q) (Nat.le_of_ble_eq_true rfl) ?_
  show Z _ _ _ _ _ _ 0 [(0, .int (v0))] [] _
  unfold s_StringLatin1_canEncode at h
  refine z_iload_n 0 d_StringLatin1_canEncode_0 rfl rfl ?_
  refine z_sipush (v := 255) d_StringLatin1_canEncode_1 rfl ?_
  refine z_icmp_gt (tgt := 11) d_StringLatin1_canEncode_4 rfl (fun c1 => ?_) (fun c1 => ?_)
  · rw [if_pos c1] at h
    refine z_iconst (v := 0) d_StringLatin1_canEncode_11 rfl ?_
    refine z_lv (lv' := [(0, .int (v0))]) [0] rfl ?_
    exact t_StringLatin1_canEncode_12 hG   h
  · rw [if_neg c1] at h
    refine z_iconst (v := 1) d_StringLatin1_canEncode_7 rfl ?_
    refine z_goto (tgt := 12) d_StringLatin1_canEncode_8 rfl ?_
    refine z_lv (lv' := [(0, .int (v0))]) [0] rfl ?_
    exact t_StringLatin1_canEncode_12 hG   h

def s_StringUTF16_length (g : zG) (v0 : Option Nat) (σ : zS) : Option (Int32 × zS) := (v0).bind fun a1 => (zal σ a1 2).bind fun x2 => some (x2 >>> (1 &&& 31), σ)
set_option maxRecDepth 100000 in
theorem t_StringUTF16_length {l : Launch} {D : zD} {g : zG} (hG : zGok g D) {v0 : Option Nat} {σ : zS} {q : Int32 × zS} (h : s_StringUTF16_length g v0 σ = some q) : zMet l D Y_StringUTF16_length K_StringUTF16_length 0 0 [va_rf (v0)] σ (.returned (some (.int q.1)), q.2) := by
  refine zMet.ofZ (by decide) rfl (fun q => by cases q) (by simp [lg_sl, z_rfc, z_ci, z_cl, z_cr, z_cn]) ?_
  rw [show lv_args 0 ([va_rf (v0)] : List Value) = [(0, va_rf (v0))] from by simp [lv_args, z_rfc, z_ci, z_cl, z_cr, z_cn]]
  unfold s_StringUTF16_length at h
  refine z_aload_nR 0 d_StringUTF16_length_0 rfl rfl ?_
  replace h := Option.bind_eq_some_iff.mp h; obtain ⟨a1, rfl, h⟩ := h
  replace h := Option.bind_eq_some_iff.mp h; obtain ⟨x2, e3, h⟩ := h
  refine z_alen (t := 2) rfl d_StringUTF16_length_1 e3 ?_
  refine z_iconst (v := 1) d_StringUTF16_length_2 rfl ?_
  refine z_ishr d_StringUTF16_length_3 ?_
  cases h
  exact z_iret rfl rfl d_StringUTF16_length_4

def s_Preconditions_checkFromIndexSize_15 (g : zG)  (v0 : Int32) (v1 : Int32) (v2 : Int32) (v3 : Option Nat) (σ : zS) : Option (Int32 × zS) := none
def s_Preconditions_checkFromIndexSize (g : zG) (v0 : Int32) (v1 : Int32) (v2 : Int32) (v3 : Option Nat) (σ : zS) : Option (Int32 × zS) := if ((v2 ||| v0) ||| v1) < 0 then s_Preconditions_checkFromIndexSize_15 g  (v0) (v1) (v2) (v3) σ else if v1 ≤ (v2 - v0) then some (v0, σ) else s_Preconditions_checkFromIndexSize_15 g  (v0) (v1) (v2) (v3) σ
set_option maxRecDepth 100000 in
theorem t_Preconditions_checkFromIndexSize_15 {l : Launch} {D : zD} {g : zG} (hG : zGok g D) {q : Int32 × zS}   {v0 : Int32} {v1 : Int32} {v2 : Int32} {v3 : Option Nat} {σ : zS} (h : s_Preconditions_checkFromIndexSize_15 g  v0 v1 v2 v3 σ = some q) : Z l D K_Preconditions_checkFromIndexSize 0 0 (.returned (some (.int q.1)), q.2) 15 [(0, .int (v0)), (1, .int (v1)), (2, .int (v2)), (3, va_rf (v3))] [] σ := by
  unfold s_Preconditions_checkFromIndexSize_15 at h
  refine z_aload_nR 3 d_Preconditions_checkFromIndexSize_15 rfl rfl ?_
  refine z_iload_n 0 d_Preconditions_checkFromIndexSize_16 rfl rfl ?_
  refine z_iload_n 1 d_Preconditions_checkFromIndexSize_17 rfl rfl ?_
  refine z_iload_n 2 d_Preconditions_checkFromIndexSize_18 rfl rfl ?_
  cases h
set_option maxRecDepth 100000 in
theorem t_Preconditions_checkFromIndexSize {l : Launch} {D : zD} {g : zG} (hG : zGok g D) {v0 : Int32} {v1 : Int32} {v2 : Int32} {v3 : Option Nat} {σ : zS} {q : Int32 × zS} (h : s_Preconditions_checkFromIndexSize g v0 v1 v2 v3 σ = some q) : zMet l D Y_Preconditions_checkFromIndexSize K_Preconditions_checkFromIndexSize 0 0 [.int (v0), .int (v1), .int (v2), va_rf (v3)] σ (.returned (some (.int q.1)), q.2) := by
  refine zMet.ofZ (by decide) rfl (fun q => by cases q) (by simp [lg_sl, z_rfc, z_ci, z_cl, z_cr, z_cn]) ?_
  rw [show lv_args 0 ([.int (v0), .int (v1), .int (v2), va_rf (v3)] : List Value) = [(0, .int (v0)), (1, .int (v1)), (2, .int (v2)), (3, va_rf (v3))] from by simp [lv_args, z_rfc, z_ci, z_cl, z_cr, z_cn]]
  unfold s_Preconditions_checkFromIndexSize at h
  refine z_iload_n 2 d_Preconditions_checkFromIndexSize_0 rfl rfl ?_
  refine z_iload_n 0 d_Preconditions_checkFromIndexSize_1 rfl rfl ?_
  refine z_ior d_Preconditions_checkFromIndexSize_2 ?_
  refine z_iload_n 1 d_Preconditions_checkFromIndexSize_3 rfl rfl ?_
  refine z_ior d_Preconditions_checkFromIndexSize_4 ?_
  refine z_if_lt (tgt := 15) d_Preconditions_checkFromIndexSize_5 rfl (fun c1 => ?_) (fun c1 => ?_)
  · rw [if_pos c1] at h
    refine z_lv (lv' := [(0, .int (v0)), (1, .int (v1)), (2, .int (v2)), (3, va_rf (v3))]) [0, 1, 2, 3] rfl ?_
    exact t_Preconditions_checkFromIndexSize_15 hG   h
  · rw [if_neg c1] at h
    refine z_iload_n 1 d_Preconditions_checkFromIndexSize_8 rfl rfl ?_
    refine z_iload_n 2 d_Preconditions_checkFromIndexSize_9 rfl rfl ?_
    refine z_iload_n 0 d_Preconditions_checkFromIndexSize_10 rfl rfl ?_
    refine z_isub d_Preconditions_checkFromIndexSize_11 ?_
    refine z_icmp_le (tgt := 23) d_Preconditions_checkFromIndexSize_12 rfl (fun c2 => ?_) (fun c2 => ?_)
    · rw [if_pos c2] at h
      refine z_iload_n 0 d_Preconditions_checkFromIndexSize_23 rfl rfl ?_
      cases h
      exact z_iret rfl rfl d_Preconditions_checkFromIndexSize_24
    · rw [if_neg c2] at h
      refine z_lv (lv' := [(0, .int (v0)), (1, .int (v1)), (2, .int (v2)), (3, va_rf (v3))]) [0, 1, 2, 3] rfl ?_
      exact t_Preconditions_checkFromIndexSize_15 hG   h

def s_StringUTF16_putChar_28 (g : zG)  (v0 : Option Nat) (v1 : Int32) (v2 : Int32) (σ : zS) : Option (zS) := (v0).bind fun a1 => (zsI σ a1 2 (v1 <<< (1 &&& 31)) (vp_nar .byte ((v2 >>> (0 &&& 31) : Int32).toInt8.toInt32))).bind fun σ2 => (zsI σ2 a1 2 ((v1 <<< (1 &&& 31)) + 1) (vp_nar .byte ((v2 >>> (8 &&& 31) : Int32).toInt8.toInt32))).bind fun σ4 => some σ4
def s_StringUTF16_putChar (g : zG) (v0 : Option Nat) (v1 : Int32) (v2 : Int32) (σ : zS) : Option (zS) := s_StringUTF16_putChar_28 g  (v0) (v1) (v2) σ
set_option maxRecDepth 100000 in
theorem t_StringUTF16_putChar_28 {l : Launch} {D : zD} {g : zG} (hG : zGok g D) {q : zS}   {v0 : Option Nat} {v1 : Int32} {v2 : Int32} {σ : zS} (h : s_StringUTF16_putChar_28 g  v0 v1 v2 σ = some q) : Z l D K_StringUTF16_putChar 0 0 (.returned none, q) 28 [(0, va_rf (v0)), (1, .int (v1)), (2, .int (v2))] [] σ := by
  unfold s_StringUTF16_putChar_28 at h
  refine z_iload_n 1 d_StringUTF16_putChar_28 rfl rfl ?_
  refine z_iconst (v := 1) d_StringUTF16_putChar_29 rfl ?_
  refine z_ishl d_StringUTF16_putChar_30 ?_
  refine z_istore_n (j := 1) (lv' := [(1, .int (v1 <<< (1 &&& 31))), (0, va_rf (v0)), (2, .int (v2))]) d_StringUTF16_putChar_31 rfl (by decide) (by simp [z_rfc, z_ci, z_cl, z_cr, z_cn] <;> rfl) ?_
  refine z_aload_nR 1 d_StringUTF16_putChar_32 rfl rfl ?_
  refine z_iload_n 0 d_StringUTF16_putChar_33 rfl rfl ?_
  refine z_iinc (v := (v1 <<< (1 &&& 31)) + 1) (lv' := [(1, .int ((v1 <<< (1 &&& 31)) + 1)), (0, va_rf (v0)), (2, .int (v2))]) 0 d_StringUTF16_putChar_34 rfl rfl (by decide) (by simp [z_rfc, z_ci, z_cl, z_cr, z_cn] <;> rfl) ?_
  refine z_iload_n 2 d_StringUTF16_putChar_37 rfl rfl ?_
  refine z_gets (zG_2 hG) wG_java_lang_StringUTF16_59 (Or.inl rfl) d_StringUTF16_putChar_38 ?_
  refine z_ishr d_StringUTF16_putChar_41 ?_
  refine z_i2b d_StringUTF16_putChar_42 ?_
  replace h := Option.bind_eq_some_iff.mp h; obtain ⟨a1, rfl, h⟩ := h
  replace h := Option.bind_eq_some_iff.mp h; obtain ⟨σ2, e3, h⟩ := h
  refine z_bastore rfl d_StringUTF16_putChar_43 e3 ?_
  refine z_aload_n 1 d_StringUTF16_putChar_44 rfl rfl ?_
  refine z_iload_n 0 d_StringUTF16_putChar_45 rfl rfl ?_
  refine z_iload_n 2 d_StringUTF16_putChar_46 rfl rfl ?_
  refine z_gets (zG_3 hG) wG_java_lang_StringUTF16_63 (Or.inl rfl) d_StringUTF16_putChar_47 ?_
  refine z_ishr d_StringUTF16_putChar_50 ?_
  refine z_i2b d_StringUTF16_putChar_51 ?_
  replace h := Option.bind_eq_some_iff.mp h; obtain ⟨σ4, e5, h⟩ := h
  refine z_bastore rfl d_StringUTF16_putChar_52 e5 ?_
  cases h
  exact z_vret rfl rfl d_StringUTF16_putChar_53
set_option maxRecDepth 100000 in
theorem t_StringUTF16_putChar {l : Launch} {D : zD} {g : zG} (hG : zGok g D) {v0 : Option Nat} {v1 : Int32} {v2 : Int32} {σ : zS} {q : zS} (h : s_StringUTF16_putChar g v0 v1 v2 σ = some q) : zMet l D Y_StringUTF16_putChar K_StringUTF16_putChar 0 0 [va_rf (v0), .int (v1), .int (v2)] σ (.returned none, q) := by
  refine zMet.ofZ (by decide) rfl (fun q => by cases q) (by simp [lg_sl, z_rfc, z_ci, z_cl, z_cr, z_cn]) ?_
  rw [show lv_args 0 ([va_rf (v0), .int (v1), .int (v2)] : List Value) = [(0, va_rf (v0)), (1, .int (v1)), (2, .int (v2))] from by simp [lv_args, z_rfc, z_ci, z_cl, z_cr, z_cn]]
  unfold s_StringUTF16_putChar at h
  refine z_gets (zG_1 hG) wG_java_lang_StringUTF16_44 (Or.inl rfl) d_StringUTF16_putChar_0 ?_
  refine z_if_ne (tgt := 28) d_StringUTF16_putChar_3 rfl (fun _ => ?_) (fun q => absurd q (by decide))
  refine z_lv (lv' := [(0, va_rf (v0)), (1, .int (v1)), (2, .int (v2))]) [0, 1, 2] rfl ?_
  exact t_StringUTF16_putChar_28 hG   h

def s_String_checkIndex (g : zG) (v0 : Int32) (v1 : Int32) (σ : zS) : Option (zS) := (some (g 3)).bind fun x1 => (s_Preconditions_checkIndex g v0 v1 x1 σ).bind fun (x5, σ3) => some σ3
set_option maxRecDepth 100000 in
theorem t_String_checkIndex {l : Launch} {D : zD} {g : zG} (hG : zGok g D) {v0 : Int32} {v1 : Int32} {σ : zS} {q : zS} (h : s_String_checkIndex g v0 v1 σ = some q) : zMet l D Y_String_checkIndex K_String_checkIndex 1 22 [.int (v0), .int (v1)] σ (.returned none, q) := by
  refine zMet.ofZ (by decide) rfl (fun q => by cases q) (Nat.le_of_ble_eq_true rfl) ?_
  show Z _ _ _ _ _ _ 0 [(0, .int (v0)), (1, .int (v1))] [] _
  unfold s_String_checkIndex at h
  refine z_iload_n 0 d_String_checkIndex_0 rfl rfl ?_
  refine z_iload_n 1 d_String_checkIndex_1 rfl rfl ?_
  replace h := Option.bind_eq_some_iff.mp h; obtain ⟨x1, e2, h⟩ := h
  refine z_gets (zG_7 hG) wG_java_lang_String_1053 (Or.inl rfl) d_String_checkIndex_2 ?_
  rw [Option.some.inj e2]
  replace h := Option.bind_eq_some_iff.mp h; obtain ⟨⟨x5, σ3⟩, e4, h⟩ := h
  dsimp only at h
  refine z_callS (av := [.int (v0), .int (v1), va_rf (x1)]) (st := []) wS_java_lang_String_1059 (t_Preconditions_checkIndex hG e4) (by decide) (by decide) d_String_checkIndex_5 (by simp [z_rfc, z_ci, z_cl, z_cr, z_cn]) ?_
  show Z _ _ _ _ _ _ 8 [(0, .int (v0)), (1, .int (v1))] [.int (x5)] _
  refine z_pop d_String_checkIndex_8 rfl ?_
  cases h
  exact z_vret rfl rfl d_String_checkIndex_9

def s_Preconditions_checkFromToIndex_14 (g : zG)  (v0 : Int32) (v1 : Int32) (v2 : Int32) (v3 : Option Nat) (σ : zS) : Option (Int32 × zS) := none
def s_Preconditions_checkFromToIndex (g : zG) (v0 : Int32) (v1 : Int32) (v2 : Int32) (v3 : Option Nat) (σ : zS) : Option (Int32 × zS) := if v0 < 0 then s_Preconditions_checkFromToIndex_14 g  (v0) (v1) (v2) (v3) σ else if v1 < v0 then s_Preconditions_checkFromToIndex_14 g  (v0) (v1) (v2) (v3) σ else if v1 ≤ v2 then some (v0, σ) else s_Preconditions_checkFromToIndex_14 g  (v0) (v1) (v2) (v3) σ
set_option maxRecDepth 100000 in
theorem t_Preconditions_checkFromToIndex_14 {l : Launch} {D : zD} {g : zG} (hG : zGok g D) {q : Int32 × zS}   {v0 : Int32} {v1 : Int32} {v2 : Int32} {v3 : Option Nat} {σ : zS} (h : s_Preconditions_checkFromToIndex_14 g  v0 v1 v2 v3 σ = some q) : Z l D K_Preconditions_checkFromToIndex 0 0 (.returned (some (.int q.1)), q.2) 14 [(0, .int (v0)), (1, .int (v1)), (2, .int (v2)), (3, va_rf (v3))] [] σ := by
  unfold s_Preconditions_checkFromToIndex_14 at h
  refine z_aload_nR 3 d_Preconditions_checkFromToIndex_14 rfl rfl ?_
  refine z_iload_n 0 d_Preconditions_checkFromToIndex_15 rfl rfl ?_
  refine z_iload_n 1 d_Preconditions_checkFromToIndex_16 rfl rfl ?_
  refine z_iload_n 2 d_Preconditions_checkFromToIndex_17 rfl rfl ?_
  cases h
set_option maxRecDepth 100000 in
theorem t_Preconditions_checkFromToIndex {l : Launch} {D : zD} {g : zG} (hG : zGok g D) {v0 : Int32} {v1 : Int32} {v2 : Int32} {v3 : Option Nat} {σ : zS} {q : Int32 × zS} (h : s_Preconditions_checkFromToIndex g v0 v1 v2 v3 σ = some q) : zMet l D Y_Preconditions_checkFromToIndex K_Preconditions_checkFromToIndex 0 0 [.int (v0), .int (v1), .int (v2), va_rf (v3)] σ (.returned (some (.int q.1)), q.2) := by
  refine zMet.ofZ (by decide) rfl (fun q => by cases q) (by simp [lg_sl, z_rfc, z_ci, z_cl, z_cr, z_cn]) ?_
  rw [show lv_args 0 ([.int (v0), .int (v1), .int (v2), va_rf (v3)] : List Value) = [(0, .int (v0)), (1, .int (v1)), (2, .int (v2)), (3, va_rf (v3))] from by simp [lv_args, z_rfc, z_ci, z_cl, z_cr, z_cn]]
  unfold s_Preconditions_checkFromToIndex at h
  refine z_iload_n 0 d_Preconditions_checkFromToIndex_0 rfl rfl ?_
  refine z_if_lt (tgt := 14) d_Preconditions_checkFromToIndex_1 rfl (fun c1 => ?_) (fun c1 => ?_)
  · rw [if_pos c1] at h
    refine z_lv (lv' := [(0, .int (v0)), (1, .int (v1)), (2, .int (v2)), (3, va_rf (v3))]) [0, 1, 2, 3] rfl ?_
    exact t_Preconditions_checkFromToIndex_14 hG   h
  · rw [if_neg c1] at h
    refine z_iload_n 0 d_Preconditions_checkFromToIndex_4 rfl rfl ?_
    refine z_iload_n 1 d_Preconditions_checkFromToIndex_5 rfl rfl ?_
    refine z_icmp_gt (tgt := 14) d_Preconditions_checkFromToIndex_6 rfl (fun c2 => ?_) (fun c2 => ?_)
    · rw [if_pos c2] at h
      refine z_lv (lv' := [(0, .int (v0)), (1, .int (v1)), (2, .int (v2)), (3, va_rf (v3))]) [0, 1, 2, 3] rfl ?_
      exact t_Preconditions_checkFromToIndex_14 hG   h
    · rw [if_neg c2] at h
      refine z_iload_n 1 d_Preconditions_checkFromToIndex_9 rfl rfl ?_
      refine z_iload_n 2 d_Preconditions_checkFromToIndex_10 rfl rfl ?_
      refine z_icmp_le (tgt := 22) d_Preconditions_checkFromToIndex_11 rfl (fun c3 => ?_) (fun c3 => ?_)
      · rw [if_pos c3] at h
        refine z_iload_n 0 d_Preconditions_checkFromToIndex_22 rfl rfl ?_
        cases h
        exact z_iret rfl rfl d_Preconditions_checkFromToIndex_23
      · rw [if_neg c3] at h
        refine z_lv (lv' := [(0, .int (v0)), (1, .int (v1)), (2, .int (v2)), (3, va_rf (v3))]) [0, 1, 2, 3] rfl ?_
        exact t_Preconditions_checkFromToIndex_14 hG   h

def s_String_coder_14 (g : zG)  (v0 : Nat) (w0 : Int32) (σ : zS) : Option (Int32 × zS) := if vp_nar .byte w0 = w0 then some (w0, σ) else none
def s_String_coder (g : zG) (v0 : Nat) (σ : zS) : Option (Int32 × zS) := (zgI σ v0 13 1).bind fun x2 => s_String_coder_14 g  (v0) (x2) σ
set_option maxRecDepth 100000 in
theorem t_String_coder_14 {l : Launch} {D : zD} {g : zG} (hG : zGok g D) {q : Int32 × zS}   {v0 : Nat} {w0 : Int32} {σ : zS} (h : s_String_coder_14 g  v0 w0 σ = some q) : Z l D K_String_coder 0 0 (.returned (some (.int q.1)), q.2) 14 [(0, .ref (v0))] [.int (w0)] σ := by
  unfold s_String_coder_14 at h
  by_cases c1 : vp_nar .byte w0 = w0
  rotate_left
  · rw [if_neg c1] at h; cases h
  rw [if_pos c1] at h
  cases h
  exact z_zret rfl (z_nb' c1) rfl d_String_coder_14
set_option maxRecDepth 100000 in
theorem t_String_coder {l : Launch} {D : zD} {g : zG} (hG : zGok g D) {v0 : Nat} {σ : zS} {q : Int32 × zS} (h : s_String_coder g v0 σ = some q) : zMet l D Y_String_coder K_String_coder 0 0 [.ref (v0)] σ (.returned (some (.int q.1)), q.2) := by
  refine zMet.ofZ (by decide) rfl (fun q => by cases q) (Nat.le_of_ble_eq_true rfl) ?_
  show Z _ _ _ _ _ _ 0 [(0, .ref (v0))] [] _
  unfold s_String_coder at h
  refine z_gets (zG_0 hG) wG_java_lang_String_38 (Or.inl rfl) d_String_coder_0 ?_
  refine z_if_eq (tgt := 13) d_String_coder_3 rfl (fun q => absurd q (by decide)) (fun _ => ?_)
  refine z_aload_n 0 d_String_coder_6 rfl rfl ?_
  replace h := Option.bind_eq_some_iff.mp h; obtain ⟨x2, e3, h⟩ := h
  refine z_getI wF_java_lang_String_15_13 d_String_coder_7 e3 ?_
  refine z_goto (tgt := 14) d_String_coder_10 rfl ?_
  refine z_lv (lv' := [(0, .ref (v0))]) [0] rfl ?_
  exact t_String_coder_14 hG   h

def s_AbstractStringBuilder_getValue (g : zG) (v0 : Nat) (σ : zS) : Option (Option Nat × zS) := (zgR σ v0 12 0).bind fun x1 => some (x1, σ)
set_option maxRecDepth 100000 in
theorem t_AbstractStringBuilder_getValue {l : Launch} {D : zD} {g : zG} (hG : zGok g D) {v0 : Nat} {σ : zS} {q : Option Nat × zS} (h : s_AbstractStringBuilder_getValue g v0 σ = some q) : zMet l D Y_AbstractStringBuilder_getValue K_AbstractStringBuilder_getValue 0 0 [.ref (v0)] σ (.returned (some (va_rf q.1)), q.2) := by
  refine zMet.ofZ (by decide) rfl (fun q => by cases q) (Nat.le_of_ble_eq_true rfl) ?_
  show Z _ _ _ _ _ _ 0 [(0, .ref (v0))] [] _
  unfold s_AbstractStringBuilder_getValue at h
  refine z_aload_n 0 d_AbstractStringBuilder_getValue_0 rfl rfl ?_
  replace h := Option.bind_eq_some_iff.mp h; obtain ⟨x1, e2, h⟩ := h
  refine z_getR wF_java_lang_AbstractStringBuilder_15_12 d_AbstractStringBuilder_getValue_1 e2 ?_
  cases h
  exact z_aret (r := x1) rfl (Or.inr ⟨_, rfl⟩) rfl d_AbstractStringBuilder_getValue_4

def s_AbstractStringBuilder_length (g : zG) (v0 : Nat) (σ : zS) : Option (Int32 × zS) := (zgI σ v0 12 3).bind fun x1 => some (x1, σ)
set_option maxRecDepth 100000 in
theorem t_AbstractStringBuilder_length {l : Launch} {D : zD} {g : zG} (hG : zGok g D) {v0 : Nat} {σ : zS} {q : Int32 × zS} (h : s_AbstractStringBuilder_length g v0 σ = some q) : zMet l D Y_AbstractStringBuilder_length K_AbstractStringBuilder_length 0 0 [.ref (v0)] σ (.returned (some (.int q.1)), q.2) := by
  refine zMet.ofZ (by decide) rfl (fun q => by cases q) (Nat.le_of_ble_eq_true rfl) ?_
  show Z _ _ _ _ _ _ 0 [(0, .ref (v0))] [] _
  unfold s_AbstractStringBuilder_length at h
  refine z_aload_n 0 d_AbstractStringBuilder_length_0 rfl rfl ?_
  replace h := Option.bind_eq_some_iff.mp h; obtain ⟨x1, e2, h⟩ := h
  refine z_getI wF_java_lang_AbstractStringBuilder_79_12 d_AbstractStringBuilder_length_1 e2 ?_
  cases h
  exact z_iret rfl rfl d_AbstractStringBuilder_length_4

def s_Arrays_checkLength (g : zG) (v0 : Int32) (v1 : Int32) (σ : zS) : Option (zS) := if v0 ≤ v1 then some σ else none
set_option maxRecDepth 100000 in
theorem t_Arrays_checkLength {l : Launch} {D : zD} {g : zG} (hG : zGok g D) {v0 : Int32} {v1 : Int32} {σ : zS} {q : zS} (h : s_Arrays_checkLength g v0 v1 σ = some q) : zMet l D Y_Arrays_checkLength K_Arrays_checkLength 0 0 [.int (v0), .int (v1)] σ (.returned none, q) := by
  refine zMet.ofZ (by decide) rfl (fun q => by cases q) (Nat.le_of_ble_eq_true rfl) ?_
  show Z _ _ _ _ _ _ 0 [(0, .int (v0)), (1, .int (v1))] [] _
  unfold s_Arrays_checkLength at h
  refine z_iload_n 1 d_Arrays_checkLength_0 rfl rfl ?_
  refine z_iload_n 0 d_Arrays_checkLength_1 rfl rfl ?_
  refine z_icmp_ge (tgt := 37) d_Arrays_checkLength_2 rfl (fun c1 => ?_) (fun c1 => ?_)
  · rw [if_pos c1] at h
    cases h
    exact z_vret rfl rfl d_Arrays_checkLength_37
  · rw [if_neg c1] at h
    cases h

def s_StringUTF16_getChar_28 (g : zG)  (v0 : Option Nat) (v1 : Int32) (σ : zS) : Option (Int32 × zS) := (v0).bind fun a1 => (zaI σ a1 2 (v1 <<< (1 &&& 31))).bind fun x2 => (zaI σ a1 2 ((v1 <<< (1 &&& 31)) + 1)).bind fun x4 => if vp_nar .char (((((x2 &&& 255) <<< (0 &&& 31)) ||| ((x4 &&& 255) <<< (8 &&& 31)) : Int32).toUInt32 % 65536).toInt32) = (((((x2 &&& 255) <<< (0 &&& 31)) ||| ((x4 &&& 255) <<< (8 &&& 31)) : Int32).toUInt32 % 65536).toInt32) then some (((((x2 &&& 255) <<< (0 &&& 31)) ||| ((x4 &&& 255) <<< (8 &&& 31)) : Int32).toUInt32 % 65536).toInt32, σ) else none
def s_StringUTF16_getChar (g : zG) (v0 : Option Nat) (v1 : Int32) (σ : zS) : Option (Int32 × zS) := s_StringUTF16_getChar_28 g  (v0) (v1) σ
set_option maxRecDepth 100000 in
theorem t_StringUTF16_getChar_28 {l : Launch} {D : zD} {g : zG} (hG : zGok g D) {q : Int32 × zS}   {v0 : Option Nat} {v1 : Int32} {σ : zS} (h : s_StringUTF16_getChar_28 g  v0 v1 σ = some q) : Z l D K_StringUTF16_getChar 0 0 (.returned (some (.int q.1)), q.2) 28 [(0, va_rf (v0)), (1, .int (v1))] [] σ := by
  unfold s_StringUTF16_getChar_28 at h
  refine z_iload_n 1 d_StringUTF16_getChar_28 rfl rfl ?_
  refine z_iconst (v := 1) d_StringUTF16_getChar_29 rfl ?_
  refine z_ishl d_StringUTF16_getChar_30 ?_
  refine z_istore_n (j := 1) (lv' := [(1, .int (v1 <<< (1 &&& 31))), (0, va_rf (v0))]) d_StringUTF16_getChar_31 rfl (by decide) (by simp [z_rfc, z_ci, z_cl, z_cr, z_cn] <;> rfl) ?_
  refine z_aload_nR 1 d_StringUTF16_getChar_32 rfl rfl ?_
  refine z_iload_n 0 d_StringUTF16_getChar_33 rfl rfl ?_
  refine z_iinc (v := (v1 <<< (1 &&& 31)) + 1) (lv' := [(1, .int ((v1 <<< (1 &&& 31)) + 1)), (0, va_rf (v0))]) 0 d_StringUTF16_getChar_34 rfl rfl (by decide) (by simp [z_rfc, z_ci, z_cl, z_cr, z_cn] <;> rfl) ?_
  replace h := Option.bind_eq_some_iff.mp h; obtain ⟨a1, rfl, h⟩ := h
  replace h := Option.bind_eq_some_iff.mp h; obtain ⟨x2, e3, h⟩ := h
  refine z_baload rfl d_StringUTF16_getChar_37 e3 ?_
  refine z_sipush (v := 255) d_StringUTF16_getChar_38 rfl ?_
  refine z_iand d_StringUTF16_getChar_41 ?_
  refine z_gets (zG_2 hG) wG_java_lang_StringUTF16_59 (Or.inl rfl) d_StringUTF16_getChar_42 ?_
  refine z_ishl d_StringUTF16_getChar_45 ?_
  refine z_aload_n 1 d_StringUTF16_getChar_46 rfl rfl ?_
  refine z_iload_n 0 d_StringUTF16_getChar_47 rfl rfl ?_
  replace h := Option.bind_eq_some_iff.mp h; obtain ⟨x4, e5, h⟩ := h
  refine z_baload rfl d_StringUTF16_getChar_48 e5 ?_
  refine z_sipush (v := 255) d_StringUTF16_getChar_49 rfl ?_
  refine z_iand d_StringUTF16_getChar_52 ?_
  refine z_gets (zG_3 hG) wG_java_lang_StringUTF16_63 (Or.inl rfl) d_StringUTF16_getChar_53 ?_
  refine z_ishl d_StringUTF16_getChar_56 ?_
  refine z_ior d_StringUTF16_getChar_57 ?_
  refine z_i2c d_StringUTF16_getChar_58 ?_
  by_cases c6 : vp_nar .char (((((x2 &&& 255) <<< (0 &&& 31)) ||| ((x4 &&& 255) <<< (8 &&& 31)) : Int32).toUInt32 % 65536).toInt32) = (((((x2 &&& 255) <<< (0 &&& 31)) ||| ((x4 &&& 255) <<< (8 &&& 31)) : Int32).toUInt32 % 65536).toInt32)
  rotate_left
  · rw [if_neg c6] at h; cases h
  rw [if_pos c6] at h
  cases h
  exact z_zret rfl (z_nc c6) rfl d_StringUTF16_getChar_59
set_option maxRecDepth 100000 in
theorem t_StringUTF16_getChar {l : Launch} {D : zD} {g : zG} (hG : zGok g D) {v0 : Option Nat} {v1 : Int32} {σ : zS} {q : Int32 × zS} (h : s_StringUTF16_getChar g v0 v1 σ = some q) : zMet l D Y_StringUTF16_getChar K_StringUTF16_getChar 0 0 [va_rf (v0), .int (v1)] σ (.returned (some (.int q.1)), q.2) := by
  refine zMet.ofZ (by decide) rfl (fun q => by cases q) (by simp [lg_sl, z_rfc, z_ci, z_cl, z_cr, z_cn]) ?_
  rw [show lv_args 0 ([va_rf (v0), .int (v1)] : List Value) = [(0, va_rf (v0)), (1, .int (v1))] from by simp [lv_args, z_rfc, z_ci, z_cl, z_cr, z_cn]]
  unfold s_StringUTF16_getChar at h
  refine z_gets (zG_1 hG) wG_java_lang_StringUTF16_44 (Or.inl rfl) d_StringUTF16_getChar_0 ?_
  refine z_if_ne (tgt := 28) d_StringUTF16_getChar_3 rfl (fun _ => ?_) (fun q => absurd q (by decide))
  refine z_lv (lv' := [(0, va_rf (v0)), (1, .int (v1))]) [0, 1] rfl ?_
  exact t_StringUTF16_getChar_28 hG   h

def s_StringUTF16_coderFromArrayLen (g : zG) (v0 : Option Nat) (v1 : Int32) (σ : zS) : Option (Int32 × zS) := (v0).bind fun a1 => (zal σ a1 2).bind fun x2 => if vp_nar .byte ((((v1 - x2 : Int32).toUInt32 >>> ((31 : Int32).toUInt32 &&& Int32.toUInt32 31)).toInt32 : Int32).toInt8.toInt32) = ((((v1 - x2 : Int32).toUInt32 >>> ((31 : Int32).toUInt32 &&& Int32.toUInt32 31)).toInt32 : Int32).toInt8.toInt32) then some ((((v1 - x2 : Int32).toUInt32 >>> ((31 : Int32).toUInt32 &&& Int32.toUInt32 31)).toInt32 : Int32).toInt8.toInt32, σ) else none
set_option maxRecDepth 100000 in
theorem t_StringUTF16_coderFromArrayLen {l : Launch} {D : zD} {g : zG} (hG : zGok g D) {v0 : Option Nat} {v1 : Int32} {σ : zS} {q : Int32 × zS} (h : s_StringUTF16_coderFromArrayLen g v0 v1 σ = some q) : zMet l D Y_StringUTF16_coderFromArrayLen K_StringUTF16_coderFromArrayLen 0 0 [va_rf (v0), .int (v1)] σ (.returned (some (.int q.1)), q.2) := by
  refine zMet.ofZ (by decide) rfl (fun q => by cases q) (by simp [lg_sl, z_rfc, z_ci, z_cl, z_cr, z_cn]) ?_
  rw [show lv_args 0 ([va_rf (v0), .int (v1)] : List Value) = [(0, va_rf (v0)), (1, .int (v1))] from by simp [lv_args, z_rfc, z_ci, z_cl, z_cr, z_cn]]
  unfold s_StringUTF16_coderFromArrayLen at h
  refine z_iload_n 1 d_StringUTF16_coderFromArrayLen_0 rfl rfl ?_
  refine z_aload_nR 0 d_StringUTF16_coderFromArrayLen_1 rfl rfl ?_
  replace h := Option.bind_eq_some_iff.mp h; obtain ⟨a1, rfl, h⟩ := h
  replace h := Option.bind_eq_some_iff.mp h; obtain ⟨x2, e3, h⟩ := h
  refine z_alen (t := 2) rfl d_StringUTF16_coderFromArrayLen_2 e3 ?_
  refine z_isub d_StringUTF16_coderFromArrayLen_3 ?_
  refine z_bipush (v := 31) d_StringUTF16_coderFromArrayLen_4 rfl ?_
  refine z_iushr d_StringUTF16_coderFromArrayLen_6 ?_
  refine z_i2b d_StringUTF16_coderFromArrayLen_7 ?_
  by_cases c4 : vp_nar .byte ((((v1 - x2 : Int32).toUInt32 >>> ((31 : Int32).toUInt32 &&& Int32.toUInt32 31)).toInt32 : Int32).toInt8.toInt32) = ((((v1 - x2 : Int32).toUInt32 >>> ((31 : Int32).toUInt32 &&& Int32.toUInt32 31)).toInt32 : Int32).toInt8.toInt32)
  rotate_left
  · rw [if_neg c4] at h; cases h
  rw [if_pos c4] at h
  cases h
  exact z_zret rfl (z_nb' c4) rfl d_StringUTF16_coderFromArrayLen_8

def s_String_isLatin1_18 (g : zG)  (v0 : Nat) (w0 : Int32) (σ : zS) : Option (Int32 × zS) := if w0 = 0 ∨ w0 = 1 then some (w0, σ) else none
def s_String_isLatin1_17 (g : zG)  (v0 : Nat) (σ : zS) : Option (Int32 × zS) := s_String_isLatin1_18 g  (v0) (0) σ
def s_String_isLatin1 (g : zG) (v0 : Nat) (σ : zS) : Option (Int32 × zS) := (zgI σ v0 13 1).bind fun x2 => if x2 = 0 then s_String_isLatin1_18 g  (v0) (1) σ else s_String_isLatin1_17 g  (v0) σ
set_option maxRecDepth 100000 in
theorem t_String_isLatin1_18 {l : Launch} {D : zD} {g : zG} (hG : zGok g D) {q : Int32 × zS}   {v0 : Nat} {w0 : Int32} {σ : zS} (h : s_String_isLatin1_18 g  v0 w0 σ = some q) : Z l D K_String_isLatin1 0 0 (.returned (some (.int q.1)), q.2) 18 [(0, .ref (v0))] [.int (w0)] σ := by
  unfold s_String_isLatin1_18 at h
  by_cases c1 : w0 = 0 ∨ w0 = 1
  rotate_left
  · rw [if_neg c1] at h; cases h
  rw [if_pos c1] at h
  cases h
  exact z_zret rfl (z_nb c1) rfl d_String_isLatin1_18
set_option maxRecDepth 100000 in
theorem t_String_isLatin1_17 {l : Launch} {D : zD} {g : zG} (hG : zGok g D) {q : Int32 × zS}   {v0 : Nat} {σ : zS} (h : s_String_isLatin1_17 g  v0 σ = some q) : Z l D K_String_isLatin1 0 0 (.returned (some (.int q.1)), q.2) 17 [(0, .ref (v0))] [] σ := by
  unfold s_String_isLatin1_17 at h
  refine z_iconst (v := 0) d_String_isLatin1_17 rfl ?_
  refine z_lv (lv' := [(0, .ref (v0))]) [0] rfl ?_
  exact t_String_isLatin1_18 hG   h
set_option maxRecDepth 100000 in
theorem t_String_isLatin1 {l : Launch} {D : zD} {g : zG} (hG : zGok g D) {v0 : Nat} {σ : zS} {q : Int32 × zS} (h : s_String_isLatin1 g v0 σ = some q) : zMet l D Y_String_isLatin1 K_String_isLatin1 0 0 [.ref (v0)] σ (.returned (some (.int q.1)), q.2) := by
  refine zMet.ofZ (by decide) rfl (fun q => by cases q) (Nat.le_of_ble_eq_true rfl) ?_
  show Z _ _ _ _ _ _ 0 [(0, .ref (v0))] [] _
  unfold s_String_isLatin1 at h
  refine z_gets (zG_0 hG) wG_java_lang_String_38 (Or.inl rfl) d_String_isLatin1_0 ?_
  refine z_if_eq (tgt := 17) d_String_isLatin1_3 rfl (fun q => absurd q (by decide)) (fun _ => ?_)
  refine z_aload_n 0 d_String_isLatin1_6 rfl rfl ?_
  replace h := Option.bind_eq_some_iff.mp h; obtain ⟨x2, e3, h⟩ := h
  refine z_getI wF_java_lang_String_15_13 d_String_isLatin1_7 e3 ?_
  refine z_if_ne (tgt := 17) d_String_isLatin1_10 rfl (fun c4 => ?_) (fun c4 => ?_)
  · rw [if_neg c4] at h
    refine z_lv (lv' := [(0, .ref (v0))]) [0] rfl ?_
    exact t_String_isLatin1_17 hG   h
  · rw [if_pos c4] at h
    refine z_iconst (v := 1) d_String_isLatin1_13 rfl ?_
    refine z_goto (tgt := 18) d_String_isLatin1_14 rfl ?_
    refine z_lv (lv' := [(0, .ref (v0))]) [0] rfl ?_
    exact t_String_isLatin1_18 hG   h

def s_StringLatin1_charAt (g : zG) (v0 : Option Nat) (v1 : Int32) (σ : zS) : Option (Int32 × zS) := (v0).bind fun a1 => (zal σ a1 2).bind fun x2 => (s_String_checkIndex g v1 x2 σ).bind fun σ4 => (zaI σ4 a1 2 (v1)).bind fun x7 => if vp_nar .char (((x7 &&& 255 : Int32).toUInt32 % 65536).toInt32) = (((x7 &&& 255 : Int32).toUInt32 % 65536).toInt32) then some (((x7 &&& 255 : Int32).toUInt32 % 65536).toInt32, σ4) else none
set_option maxRecDepth 100000 in
theorem t_StringLatin1_charAt {l : Launch} {D : zD} {g : zG} (hG : zGok g D) {v0 : Option Nat} {v1 : Int32} {σ : zS} {q : Int32 × zS} (h : s_StringLatin1_charAt g v0 v1 σ = some q) : zMet l D Y_StringLatin1_charAt K_StringLatin1_charAt 2 43 [va_rf (v0), .int (v1)] σ (.returned (some (.int q.1)), q.2) := by
  refine zMet.ofZ (by decide) rfl (fun q => by cases q) (by simp [lg_sl, z_rfc, z_ci, z_cl, z_cr, z_cn]) ?_
  rw [show lv_args 0 ([va_rf (v0), .int (v1)] : List Value) = [(0, va_rf (v0)), (1, .int (v1))] from by simp [lv_args, z_rfc, z_ci, z_cl, z_cr, z_cn]]
  unfold s_StringLatin1_charAt at h
  refine z_iload_n 1 d_StringLatin1_charAt_0 rfl rfl ?_
  refine z_aload_nR 0 d_StringLatin1_charAt_1 rfl rfl ?_
  replace h := Option.bind_eq_some_iff.mp h; obtain ⟨a1, rfl, h⟩ := h
  replace h := Option.bind_eq_some_iff.mp h; obtain ⟨x2, e3, h⟩ := h
  refine z_alen (t := 2) rfl d_StringLatin1_charAt_2 e3 ?_
  replace h := Option.bind_eq_some_iff.mp h; obtain ⟨σ4, e5, h⟩ := h
  refine z_callS (av := [.int (v1), .int (x2)]) (st := []) wS_java_lang_StringLatin1_9 (t_String_checkIndex hG e5) (by decide) (by decide) d_StringLatin1_charAt_3 (by simp [z_rfc, z_ci, z_cl, z_cr, z_cn]) ?_
  show Z _ _ _ _ _ _ 6 [(0, .ref (a1)), (1, .int (v1))] [] _
  refine z_aload_n 0 d_StringLatin1_charAt_6 rfl rfl ?_
  refine z_iload_n 1 d_StringLatin1_charAt_7 rfl rfl ?_
  replace h := Option.bind_eq_some_iff.mp h; obtain ⟨x7, e8, h⟩ := h
  refine z_baload rfl d_StringLatin1_charAt_8 e8 ?_
  refine z_sipush (v := 255) d_StringLatin1_charAt_9 rfl ?_
  refine z_iand d_StringLatin1_charAt_12 ?_
  refine z_i2c d_StringLatin1_charAt_13 ?_
  by_cases c9 : vp_nar .char (((x7 &&& 255 : Int32).toUInt32 % 65536).toInt32) = (((x7 &&& 255 : Int32).toUInt32 % 65536).toInt32)
  rotate_left
  · rw [if_neg c9] at h; cases h
  rw [if_pos c9] at h
  cases h
  exact z_zret rfl (z_nc c9) rfl d_StringLatin1_charAt_14

def s_AbstractList_init (g : zG) (v0 : Nat) (σ : zS) : Option (zS) := (s_AbstractCollection_init g v0  σ).bind fun σ1 => (zpF σ1 v0 3 2 (.int (0))).bind fun σ4 => some σ4
set_option maxRecDepth 100000 in
theorem t_AbstractList_init {l : Launch} {D : zD} {g : zG} (hG : zGok g D) {v0 : Nat} {σ : zS} {q : zS} (h : s_AbstractList_init g v0 σ = some q) : zMet l D Y_AbstractList_init K_AbstractList_init 2 32 [.ref (v0)] σ (.returned none, q) := by
  refine zMet.ofZ (by decide) rfl (fun q => rfl) (Nat.le_of_ble_eq_true rfl) ?_
  show Z _ _ _ _ _ _ 0 [(0, .ref (v0))] [] _
  unfold s_AbstractList_init at h
  refine z_aload_n 0 d_AbstractList_init_0 rfl rfl ?_
  replace h := Option.bind_eq_some_iff.mp h; obtain ⟨σ1, e2, h⟩ := h
  refine z_callI (av := []) (st := []) wI_java_util_AbstractList_1 (t_AbstractCollection_init hG e2) (by decide) (by decide) d_AbstractList_init_1 (by simp [z_rfc, z_ci, z_cl, z_cr, z_cn]) ?_
  show Z _ _ _ _ _ _ 4 [(0, .ref (v0))] [] _
  refine z_aload_n 0 d_AbstractList_init_4 rfl rfl ?_
  refine z_iconst (v := 0) d_AbstractList_init_5 rfl ?_
  replace h := Option.bind_eq_some_iff.mp h; obtain ⟨σ4, e5, h⟩ := h
  refine z_put wP_java_util_AbstractList_7_3 (fun _ => rfl) d_AbstractList_init_6 rfl rfl e5 ?_
  cases h
  exact z_vret rfl rfl d_AbstractList_init_9

def s_ArraysSupport_newLength_21 (g : zG)  (v0 : Int32) (v1 : Int32) (v2 : Int32) (v3 : Int32) (σ : zS) : Option (Int32 × zS) := (s_ArraysSupport_hugeLength g v0 v1 σ).bind fun (x3, σ1) => some (x3, σ1)
def s_ArraysSupport_newLength (g : zG) (v0 : Int32) (v1 : Int32) (v2 : Int32) (σ : zS) : Option (Int32 × zS) := (some (if v1 < v2 then v2 else v1)).bind fun x1 => if (v0 + x1) ≤ 0 then s_ArraysSupport_newLength_21 g  (v0) (v1) (v2) (v0 + x1) σ else if 2147483639 < (v0 + x1) then s_ArraysSupport_newLength_21 g  (v0) (v1) (v2) (v0 + x1) σ else some (v0 + x1, σ)
set_option maxRecDepth 100000 in
theorem t_ArraysSupport_newLength_21 {l : Launch} {D : zD} {g : zG} (hG : zGok g D) {q : Int32 × zS}   {v0 : Int32} {v1 : Int32} {v2 : Int32} {v3 : Int32} {σ : zS} (h : s_ArraysSupport_newLength_21 g  v0 v1 v2 v3 σ = some q) : Z l D K_ArraysSupport_newLength 1 22 (.returned (some (.int q.1)), q.2) 21 [(0, .int (v0)), (1, .int (v1)), (2, .int (v2)), (3, .int (v3))] [] σ := by
  unfold s_ArraysSupport_newLength_21 at h
  refine z_iload_n 0 d_ArraysSupport_newLength_21 rfl rfl ?_
  refine z_iload_n 1 d_ArraysSupport_newLength_22 rfl rfl ?_
  replace h := Option.bind_eq_some_iff.mp h; obtain ⟨⟨x3, σ1⟩, e2, h⟩ := h
  dsimp only at h
  refine z_callS (av := [.int (v0), .int (v1)]) (st := []) wS_jdk_internal_util_ArraysSupport_201 (t_ArraysSupport_hugeLength hG e2) (by decide) (by decide) d_ArraysSupport_newLength_23 (by simp [z_rfc, z_ci, z_cl, z_cr, z_cn]) ?_
  show Z _ _ _ _ _ _ 26 [(0, .int (v0)), (1, .int (v1)), (2, .int (v2)), (3, .int (v3))] [.int (x3)] _
  cases h
  exact z_iret rfl rfl d_ArraysSupport_newLength_26
set_option maxRecDepth 100000 in
theorem t_ArraysSupport_newLength {l : Launch} {D : zD} {g : zG} (hG : zGok g D) {v0 : Int32} {v1 : Int32} {v2 : Int32} {σ : zS} {q : Int32 × zS} (h : s_ArraysSupport_newLength g v0 v1 v2 σ = some q) : zMet l D Y_ArraysSupport_newLength K_ArraysSupport_newLength 1 22 [.int (v0), .int (v1), .int (v2)] σ (.returned (some (.int q.1)), q.2) := by
  refine zMet.ofZ (by decide) rfl (fun q => by cases q) (Nat.le_of_ble_eq_true rfl) ?_
  show Z _ _ _ _ _ _ 0 [(0, .int (v0)), (1, .int (v1)), (2, .int (v2))] [] _
  unfold s_ArraysSupport_newLength at h
  refine z_iload_n 0 d_ArraysSupport_newLength_0 rfl rfl ?_
  refine z_iload_n 1 d_ArraysSupport_newLength_1 rfl rfl ?_
  refine z_iload_n 2 d_ArraysSupport_newLength_2 rfl rfl ?_
  replace h := Option.bind_eq_some_iff.mp h; obtain ⟨x1, e2, h⟩ := h
  refine z_mmax (x := v1) (y := v2) wM_jdk_internal_util_ArraysSupport_194 wMs_max wMi wMc_max (by decide) (by simp [z_rfc, z_ci, z_cl, z_cr, z_cn]) d_ArraysSupport_newLength_3 ?_
  rw [Option.some.inj e2]
  refine z_iadd d_ArraysSupport_newLength_6 ?_
  refine z_istore_n (j := 3) (lv' := [(3, .int (v0 + x1)), (0, .int (v0)), (1, .int (v1)), (2, .int (v2))]) d_ArraysSupport_newLength_7 rfl (by decide) rfl ?_
  refine z_iconst (v := 0) d_ArraysSupport_newLength_8 rfl ?_
  refine z_iload_n 0 d_ArraysSupport_newLength_9 rfl rfl ?_
  refine z_icmp_ge (tgt := 21) d_ArraysSupport_newLength_10 rfl (fun c3 => ?_) (fun c3 => ?_)
  · rw [if_pos c3] at h
    refine z_lv (lv' := [(0, .int (v0)), (1, .int (v1)), (2, .int (v2)), (3, .int (v0 + x1))]) [1, 2, 3, 0] rfl ?_
    exact t_ArraysSupport_newLength_21 hG   h
  · rw [if_neg c3] at h
    refine z_iload_n 0 d_ArraysSupport_newLength_13 rfl rfl ?_
    refine z_ldc (v := 2147483639) wC_jdk_internal_util_ArraysSupport_200 d_ArraysSupport_newLength_14 ?_
    refine z_icmp_gt (tgt := 21) d_ArraysSupport_newLength_16 rfl (fun c4 => ?_) (fun c4 => ?_)
    · rw [if_pos c4] at h
      refine z_lv (lv' := [(0, .int (v0)), (1, .int (v1)), (2, .int (v2)), (3, .int (v0 + x1))]) [1, 2, 3, 0] rfl ?_
      exact t_ArraysSupport_newLength_21 hG   h
    · rw [if_neg c4] at h
      refine z_iload_n 0 d_ArraysSupport_newLength_19 rfl rfl ?_
      cases h
      exact z_iret rfl rfl d_ArraysSupport_newLength_20

def s_Objects_checkIndex (g : zG) (v0 : Int32) (v1 : Int32) (σ : zS) : Option (Int32 × zS) := (s_Preconditions_checkIndex g v0 v1 none σ).bind fun (x3, σ1) => some (x3, σ1)
set_option maxRecDepth 100000 in
theorem t_Objects_checkIndex {l : Launch} {D : zD} {g : zG} (hG : zGok g D) {v0 : Int32} {v1 : Int32} {σ : zS} {q : Int32 × zS} (h : s_Objects_checkIndex g v0 v1 σ = some q) : zMet l D Y_Objects_checkIndex K_Objects_checkIndex 1 22 [.int (v0), .int (v1)] σ (.returned (some (.int q.1)), q.2) := by
  refine zMet.ofZ (by decide) rfl (fun q => by cases q) (Nat.le_of_ble_eq_true rfl) ?_
  show Z _ _ _ _ _ _ 0 [(0, .int (v0)), (1, .int (v1))] [] _
  unfold s_Objects_checkIndex at h
  refine z_iload_n 0 d_Objects_checkIndex_0 rfl rfl ?_
  refine z_iload_n 1 d_Objects_checkIndex_1 rfl rfl ?_
  refine z_null d_Objects_checkIndex_2 ?_
  replace h := Option.bind_eq_some_iff.mp h; obtain ⟨⟨x3, σ1⟩, e2, h⟩ := h
  dsimp only at h
  refine z_callS (av := [.int (v0), .int (v1), va_rf (none)]) (st := []) wS_java_util_Objects_105 (t_Preconditions_checkIndex hG e2) (by decide) (by decide) d_Objects_checkIndex_3 (by simp [z_rfc, z_ci, z_cl, z_cr, z_cn]) ?_
  show Z _ _ _ _ _ _ 6 [(0, .int (v0)), (1, .int (v1))] [.int (x3)] _
  cases h
  exact z_iret rfl rfl d_Objects_checkIndex_6

def s_ArrayList_get (g : zG) (v0 : Nat) (v1 : Int32) (σ : zS) : Option (Option Nat × zS) := (zgI σ v0 3 1).bind fun x1 => (s_Objects_checkIndex g v1 x1 σ).bind fun (x5, σ3) => (zis σ3 v0 3).bind fun _ => (s_ArrayList_elementData g v0 v1 σ3).bind fun (x8, σ6) => some (x8, σ6)
set_option maxRecDepth 100000 in
theorem t_ArrayList_get {l : Launch} {D : zD} {g : zG} (hG : zGok g D) {v0 : Nat} {v1 : Int32} {σ : zS} {q : Option Nat × zS} (h : s_ArrayList_get g v0 v1 σ = some q) : zMet l D Y_ArrayList_get K_ArrayList_get 2 43 [.ref (v0), .int (v1)] σ (.returned (some (va_rf q.1)), q.2) := by
  refine zMet.ofZ (by decide) rfl (fun q => by cases q) (Nat.le_of_ble_eq_true rfl) ?_
  show Z _ _ _ _ _ _ 0 [(0, .ref (v0)), (1, .int (v1))] [] _
  unfold s_ArrayList_get at h
  refine z_iload_n 1 d_ArrayList_get_0 rfl rfl ?_
  refine z_aload_n 0 d_ArrayList_get_1 rfl rfl ?_
  replace h := Option.bind_eq_some_iff.mp h; obtain ⟨x1, e2, h⟩ := h
  refine z_getI wF_java_util_ArrayList_48_3 d_ArrayList_get_2 e2 ?_
  replace h := Option.bind_eq_some_iff.mp h; obtain ⟨⟨x5, σ3⟩, e4, h⟩ := h
  dsimp only at h
  refine z_callS (av := [.int (v1), .int (x1)]) (st := []) wS_java_util_ArrayList_118 (t_Objects_checkIndex hG e4) (by decide) (by decide) d_ArrayList_get_5 (by simp [z_rfc, z_ci, z_cl, z_cr, z_cn]) ?_
  show Z _ _ _ _ _ _ 8 [(0, .ref (v0)), (1, .int (v1))] [.int (x5)] _
  refine z_pop d_ArrayList_get_8 rfl ?_
  refine z_aload_n 0 d_ArrayList_get_9 rfl rfl ?_
  refine z_iload_n 1 d_ArrayList_get_10 rfl rfl ?_
  replace h := Option.bind_eq_some_iff.mp h; obtain ⟨_, e9, h⟩ := h
  obtain ⟨b10, f11, e9⟩ := zcls_at (zis_at e9)
  replace h := Option.bind_eq_some_iff.mp h; obtain ⟨⟨x8, σ6⟩, e7, h⟩ := h
  dsimp only at h
  refine z_callV (av := [.int (v1)]) (st := []) wV_java_util_ArrayList_123 e9 (t_ArrayList_elementData hG e7) (by decide) (by decide) d_ArrayList_get_11 (by simp [z_rfc, z_ci, z_cl, z_cr, z_cn]) ?_
  show Z _ _ _ _ _ _ 14 [(0, .ref (v0)), (1, .int (v1))] [va_rf (x8)] _
  cases h
  exact z_aret (r := x8) rfl (Or.inl ⟨_, rfl⟩) rfl d_ArrayList_get_14

def s_StringBuilder_init (g : zG) (v0 : Nat) (σ : zS) : Option (zS) := (s_AbstractStringBuilder_init g v0 16 σ).bind fun σ1 => some σ1
set_option maxRecDepth 100000 in
theorem t_StringBuilder_init {l : Launch} {D : zD} {g : zG} (hG : zGok g D) {v0 : Nat} {σ : zS} {q : zS} (h : s_StringBuilder_init g v0 σ = some q) : zMet l D Y_StringBuilder_init K_StringBuilder_init 2 33 [.ref (v0)] σ (.returned none, q) := by
  refine zMet.ofZ (by decide) rfl (fun q => rfl) (Nat.le_of_ble_eq_true rfl) ?_
  show Z _ _ _ _ _ _ 0 [(0, .ref (v0))] [] _
  unfold s_StringBuilder_init at h
  refine z_aload_n 0 d_StringBuilder_init_0 rfl rfl ?_
  refine z_bipush (v := 16) d_StringBuilder_init_1 rfl ?_
  replace h := Option.bind_eq_some_iff.mp h; obtain ⟨σ1, e2, h⟩ := h
  refine z_callI (av := [.int (16)]) (st := []) wI_java_lang_StringBuilder_1 (t_AbstractStringBuilder_init hG e2) (by decide) (by decide) d_StringBuilder_init_3 (by simp [z_rfc, z_ci, z_cl, z_cr, z_cn]) ?_
  show Z _ _ _ _ _ _ 6 [(0, .ref (v0))] [] _
  cases h
  exact z_vret rfl rfl d_StringBuilder_init_6

def s_StringUTF16_newBytesFor (g : zG) (v0 : Int32) (σ : zS) : Option (Option Nat × zS) := (s_StringUTF16_newBytesLength g v0 σ).bind fun (x3, σ1) => (zlen (x3)).bind fun n4 => (some (znew σ1 n4 (.inl (2, (n4, .inl (fun _ => 0)))))).bind fun σ6 => some (some (σ1.1), σ6)
set_option maxRecDepth 100000 in
theorem t_StringUTF16_newBytesFor {l : Launch} {D : zD} {g : zG} (hG : zGok g D) {v0 : Int32} {σ : zS} {q : Option Nat × zS} (h : s_StringUTF16_newBytesFor g v0 σ = some q) : zMet l D Y_StringUTF16_newBytesFor K_StringUTF16_newBytesFor 1 20 [.int (v0)] σ (.returned (some (va_rf q.1)), q.2) := by
  refine zMet.ofZ (by decide) rfl (fun q => by cases q) (Nat.le_of_ble_eq_true rfl) ?_
  show Z _ _ _ _ _ _ 0 [(0, .int (v0))] [] _
  unfold s_StringUTF16_newBytesFor at h
  refine z_iload_n 0 d_StringUTF16_newBytesFor_0 rfl rfl ?_
  replace h := Option.bind_eq_some_iff.mp h; obtain ⟨⟨x3, σ1⟩, e2, h⟩ := h
  dsimp only at h
  refine z_callS (av := [.int (v0)]) (st := []) wS_java_lang_StringUTF16_11 (t_StringUTF16_newBytesLength hG e2) (by decide) (by decide) d_StringUTF16_newBytesFor_1 (by simp [z_rfc, z_ci, z_cl, z_cr, z_cn]) ?_
  show Z _ _ _ _ _ _ 4 [(0, .int (v0))] [.int (x3)] _
  replace h := Option.bind_eq_some_iff.mp h; obtain ⟨n4, e5, h⟩ := h
  replace h := Option.bind_eq_some_iff.mp h; obtain ⟨σ6, e7, h⟩ := h
  refine z_newa (t := 2) (ty := .byte) (x := (n4, .inl (fun _ => 0))) rfl rfl wA_byte (fun _ => rfl) (by decide) d_StringUTF16_newBytesFor_4 e5 ?_
  rw [Option.some.inj e7]
  cases h
  exact z_aret (r := some (σ1.1)) rfl (Or.inr ⟨_, rfl⟩) rfl d_StringUTF16_newBytesFor_6

def s_AbstractStringBuilder_newCapacity (g : zG) (v0 : Nat) (v1 : Int32) (σ : zS) : Option (Int32 × zS) := (zgR σ v0 12 0).bind fun x1 => (x1).bind fun a3 => (zal σ a3 2).bind fun x4 => (zgI σ v0 12 1).bind fun x6 => (zgI σ v0 12 1).bind fun x8 => (s_ArraysSupport_newLength g x4 ((v1 <<< (x6 &&& 31)) - x4) (x4 + (2 <<< (x8 &&& 31))) σ).bind fun (x12, σ10) => if x12 = 2147483647 then none else (zgI σ10 v0 12 1).bind fun x14 => some (x12 >>> (x14 &&& 31), σ10)
set_option maxRecDepth 100000 in
theorem t_AbstractStringBuilder_newCapacity {l : Launch} {D : zD} {g : zG} (hG : zGok g D) {v0 : Nat} {v1 : Int32} {σ : zS} {q : Int32 × zS} (h : s_AbstractStringBuilder_newCapacity g v0 v1 σ = some q) : zMet l D Y_AbstractStringBuilder_newCapacity K_AbstractStringBuilder_newCapacity 2 45 [.ref (v0), .int (v1)] σ (.returned (some (.int q.1)), q.2) := by
  refine zMet.ofZ (by decide) rfl (fun q => by cases q) (Nat.le_of_ble_eq_true rfl) ?_
  show Z _ _ _ _ _ _ 0 [(0, .ref (v0)), (1, .int (v1))] [] _
  unfold s_AbstractStringBuilder_newCapacity at h
  refine z_aload_n 0 d_AbstractStringBuilder_newCapacity_0 rfl rfl ?_
  replace h := Option.bind_eq_some_iff.mp h; obtain ⟨x1, e2, h⟩ := h
  refine z_getR wF_java_lang_AbstractStringBuilder_15_12 d_AbstractStringBuilder_newCapacity_1 e2 ?_
  replace h := Option.bind_eq_some_iff.mp h; obtain ⟨a3, rfl, h⟩ := h
  replace h := Option.bind_eq_some_iff.mp h; obtain ⟨x4, e5, h⟩ := h
  refine z_alen (t := 2) rfl d_AbstractStringBuilder_newCapacity_4 e5 ?_
  refine z_istore_n (j := 2) (lv' := [(2, .int (x4)), (0, .ref (v0)), (1, .int (v1))]) d_AbstractStringBuilder_newCapacity_5 rfl (by decide) rfl ?_
  refine z_iload_n 2 d_AbstractStringBuilder_newCapacity_6 rfl rfl ?_
  refine z_aload_n 1 d_AbstractStringBuilder_newCapacity_7 rfl rfl ?_
  replace h := Option.bind_eq_some_iff.mp h; obtain ⟨x6, e7, h⟩ := h
  refine z_getI wF_java_lang_AbstractStringBuilder_22_12 d_AbstractStringBuilder_newCapacity_8 e7 ?_
  refine z_ishl d_AbstractStringBuilder_newCapacity_11 ?_
  refine z_istore_n (j := 3) (lv' := [(3, .int (v1 <<< (x6 &&& 31))), (2, .int (x4)), (0, .ref (v0)), (1, .int (v1))]) d_AbstractStringBuilder_newCapacity_12 rfl (by decide) rfl ?_
  refine z_iload_n 0 d_AbstractStringBuilder_newCapacity_13 rfl rfl ?_
  refine z_iload_n 1 d_AbstractStringBuilder_newCapacity_14 rfl rfl ?_
  refine z_isub d_AbstractStringBuilder_newCapacity_15 ?_
  refine z_istore (j := 4) (lv' := [(4, .int ((v1 <<< (x6 &&& 31)) - x4)), (3, .int (v1 <<< (x6 &&& 31))), (2, .int (x4)), (0, .ref (v0)), (1, .int (v1))]) d_AbstractStringBuilder_newCapacity_16 (by decide) rfl ?_
  refine z_iload_n 2 d_AbstractStringBuilder_newCapacity_18 rfl rfl ?_
  refine z_iload 0 d_AbstractStringBuilder_newCapacity_19 rfl ?_
  refine z_iload_n 2 d_AbstractStringBuilder_newCapacity_21 rfl rfl ?_
  refine z_iconst (v := 2) d_AbstractStringBuilder_newCapacity_22 rfl ?_
  refine z_aload_n 3 d_AbstractStringBuilder_newCapacity_23 rfl rfl ?_
  replace h := Option.bind_eq_some_iff.mp h; obtain ⟨x8, e9, h⟩ := h
  refine z_getI wF_java_lang_AbstractStringBuilder_22_12 d_AbstractStringBuilder_newCapacity_24 e9 ?_
  refine z_ishl d_AbstractStringBuilder_newCapacity_27 ?_
  refine z_iadd d_AbstractStringBuilder_newCapacity_28 ?_
  replace h := Option.bind_eq_some_iff.mp h; obtain ⟨⟨x12, σ10⟩, e11, h⟩ := h
  dsimp only at h
  refine z_callS (av := [.int (x4), .int ((v1 <<< (x6 &&& 31)) - x4), .int (x4 + (2 <<< (x8 &&& 31)))]) (st := []) wS_java_lang_AbstractStringBuilder_114 (t_ArraysSupport_newLength hG e11) (by decide) (by decide) d_AbstractStringBuilder_newCapacity_29 (by simp [z_rfc, z_ci, z_cl, z_cr, z_cn]) ?_
  show Z _ _ _ _ _ _ 32 [(4, .int ((v1 <<< (x6 &&& 31)) - x4)), (3, .int (v1 <<< (x6 &&& 31))), (2, .int (x4)), (0, .ref (v0)), (1, .int (v1))] [.int (x12)] _
  refine z_istore (j := 5) (lv' := [(5, .int (x12)), (4, .int ((v1 <<< (x6 &&& 31)) - x4)), (3, .int (v1 <<< (x6 &&& 31))), (2, .int (x4)), (0, .ref (v0)), (1, .int (v1))]) d_AbstractStringBuilder_newCapacity_32 (by decide) rfl ?_
  refine z_iload 0 d_AbstractStringBuilder_newCapacity_34 rfl ?_
  refine z_ldc (v := 2147483647) wC_java_lang_AbstractStringBuilder_39 d_AbstractStringBuilder_newCapacity_36 ?_
  refine z_icmp_ne (tgt := 51) d_AbstractStringBuilder_newCapacity_38 rfl (fun c13 => ?_) (fun c13 => ?_)
  · rw [if_neg c13] at h
    refine z_iload 0 d_AbstractStringBuilder_newCapacity_51 rfl ?_
    refine z_aload_n 4 d_AbstractStringBuilder_newCapacity_53 rfl rfl ?_
    replace h := Option.bind_eq_some_iff.mp h; obtain ⟨x14, e15, h⟩ := h
    refine z_getI wF_java_lang_AbstractStringBuilder_22_12 d_AbstractStringBuilder_newCapacity_54 e15 ?_
    refine z_ishr d_AbstractStringBuilder_newCapacity_57 ?_
    cases h
    exact z_iret rfl rfl d_AbstractStringBuilder_newCapacity_58
  · rw [if_pos c13] at h
    cases h

def s_String_checkBoundsOffCount (g : zG) (v0 : Int32) (v1 : Int32) (v2 : Int32) (σ : zS) : Option (Int32 × zS) := (some (g 3)).bind fun x1 => (s_Preconditions_checkFromIndexSize g v0 v1 v2 x1 σ).bind fun (x5, σ3) => some (x5, σ3)
set_option maxRecDepth 100000 in
theorem t_String_checkBoundsOffCount {l : Launch} {D : zD} {g : zG} (hG : zGok g D) {v0 : Int32} {v1 : Int32} {v2 : Int32} {σ : zS} {q : Int32 × zS} (h : s_String_checkBoundsOffCount g v0 v1 v2 σ = some q) : zMet l D Y_String_checkBoundsOffCount K_String_checkBoundsOffCount 1 23 [.int (v0), .int (v1), .int (v2)] σ (.returned (some (.int q.1)), q.2) := by
  refine zMet.ofZ (by decide) rfl (fun q => by cases q) (Nat.le_of_ble_eq_true rfl) ?_
  show Z _ _ _ _ _ _ 0 [(0, .int (v0)), (1, .int (v1)), (2, .int (v2))] [] _
  unfold s_String_checkBoundsOffCount at h
  refine z_iload_n 0 d_String_checkBoundsOffCount_0 rfl rfl ?_
  refine z_iload_n 1 d_String_checkBoundsOffCount_1 rfl rfl ?_
  refine z_iload_n 2 d_String_checkBoundsOffCount_2 rfl rfl ?_
  replace h := Option.bind_eq_some_iff.mp h; obtain ⟨x1, e2, h⟩ := h
  refine z_gets (zG_7 hG) wG_java_lang_String_1053 (Or.inl rfl) d_String_checkBoundsOffCount_3 ?_
  rw [Option.some.inj e2]
  replace h := Option.bind_eq_some_iff.mp h; obtain ⟨⟨x5, σ3⟩, e4, h⟩ := h
  dsimp only at h
  refine z_callS (av := [.int (v0), .int (v1), .int (v2), va_rf (x1)]) (st := []) wS_java_lang_String_1065 (t_Preconditions_checkFromIndexSize hG e4) (by decide) (by decide) d_String_checkBoundsOffCount_6 (by simp [z_rfc, z_ci, z_cl, z_cr, z_cn]) ?_
  show Z _ _ _ _ _ _ 9 [(0, .int (v0)), (1, .int (v1)), (2, .int (v2))] [.int (x5)] _
  cases h
  exact z_iret rfl rfl d_String_checkBoundsOffCount_9

def s_StringUTF16_checkIndex (g : zG) (v0 : Int32) (v1 : Option Nat) (σ : zS) : Option (zS) := (s_StringUTF16_length g v1 σ).bind fun (x3, σ1) => (s_String_checkIndex g v0 x3 σ1).bind fun σ4 => some σ4
set_option maxRecDepth 100000 in
theorem t_StringUTF16_checkIndex {l : Launch} {D : zD} {g : zG} (hG : zGok g D) {v0 : Int32} {v1 : Option Nat} {σ : zS} {q : zS} (h : s_StringUTF16_checkIndex g v0 v1 σ = some q) : zMet l D Y_StringUTF16_checkIndex K_StringUTF16_checkIndex 2 43 [.int (v0), va_rf (v1)] σ (.returned none, q) := by
  refine zMet.ofZ (by decide) rfl (fun q => by cases q) (by simp [lg_sl, z_rfc, z_ci, z_cl, z_cr, z_cn]) ?_
  rw [show lv_args 0 ([.int (v0), va_rf (v1)] : List Value) = [(0, .int (v0)), (1, va_rf (v1))] from by simp [lv_args, z_rfc, z_ci, z_cl, z_cr, z_cn]]
  unfold s_StringUTF16_checkIndex at h
  refine z_iload_n 0 d_StringUTF16_checkIndex_0 rfl rfl ?_
  refine z_aload_nR 1 d_StringUTF16_checkIndex_1 rfl rfl ?_
  replace h := Option.bind_eq_some_iff.mp h; obtain ⟨⟨x3, σ1⟩, e2, h⟩ := h
  dsimp only at h
  refine z_callS (av := [va_rf (v1)]) (st := [.int (v0)]) wS_java_lang_StringUTF16_48 (t_StringUTF16_length hG e2) (by decide) (by decide) d_StringUTF16_checkIndex_2 (by simp [z_rfc, z_ci, z_cl, z_cr, z_cn]) ?_
  show Z _ _ _ _ _ _ 5 [(0, .int (v0)), (1, va_rf (v1))] [.int (x3), .int (v0)] _
  replace h := Option.bind_eq_some_iff.mp h; obtain ⟨σ4, e5, h⟩ := h
  refine z_callS (av := [.int (v0), .int (x3)]) (st := []) wS_java_lang_StringUTF16_414 (t_String_checkIndex hG e5) (by decide) (by decide) d_StringUTF16_checkIndex_5 (by simp [z_rfc, z_ci, z_cl, z_cr, z_cn]) ?_
  show Z _ _ _ _ _ _ 8 [(0, .int (v0)), (1, va_rf (v1))] [] _
  cases h
  exact z_vret rfl rfl d_StringUTF16_checkIndex_8

def s_String_checkBoundsBeginEnd (g : zG) (v0 : Int32) (v1 : Int32) (v2 : Int32) (σ : zS) : Option (zS) := (some (g 3)).bind fun x1 => (s_Preconditions_checkFromToIndex g v0 v1 v2 x1 σ).bind fun (x5, σ3) => some σ3
set_option maxRecDepth 100000 in
theorem t_String_checkBoundsBeginEnd {l : Launch} {D : zD} {g : zG} (hG : zGok g D) {v0 : Int32} {v1 : Int32} {v2 : Int32} {σ : zS} {q : zS} (h : s_String_checkBoundsBeginEnd g v0 v1 v2 σ = some q) : zMet l D Y_String_checkBoundsBeginEnd K_String_checkBoundsBeginEnd 1 23 [.int (v0), .int (v1), .int (v2)] σ (.returned none, q) := by
  refine zMet.ofZ (by decide) rfl (fun q => by cases q) (Nat.le_of_ble_eq_true rfl) ?_
  show Z _ _ _ _ _ _ 0 [(0, .int (v0)), (1, .int (v1)), (2, .int (v2))] [] _
  unfold s_String_checkBoundsBeginEnd at h
  refine z_iload_n 0 d_String_checkBoundsBeginEnd_0 rfl rfl ?_
  refine z_iload_n 1 d_String_checkBoundsBeginEnd_1 rfl rfl ?_
  refine z_iload_n 2 d_String_checkBoundsBeginEnd_2 rfl rfl ?_
  replace h := Option.bind_eq_some_iff.mp h; obtain ⟨x1, e2, h⟩ := h
  refine z_gets (zG_7 hG) wG_java_lang_String_1053 (Or.inl rfl) d_String_checkBoundsBeginEnd_3 ?_
  rw [Option.some.inj e2]
  replace h := Option.bind_eq_some_iff.mp h; obtain ⟨⟨x5, σ3⟩, e4, h⟩ := h
  dsimp only at h
  refine z_callS (av := [.int (v0), .int (v1), .int (v2), va_rf (x1)]) (st := []) wS_java_lang_String_1062 (t_Preconditions_checkFromToIndex hG e4) (by decide) (by decide) d_String_checkBoundsBeginEnd_6 (by simp [z_rfc, z_ci, z_cl, z_cr, z_cn]) ?_
  show Z _ _ _ _ _ _ 9 [(0, .int (v0)), (1, .int (v1)), (2, .int (v2))] [.int (x5)] _
  refine z_pop d_String_checkBoundsBeginEnd_9 rfl ?_
  cases h
  exact z_vret rfl rfl d_String_checkBoundsBeginEnd_10

def s_String_length (g : zG) (v0 : Nat) (σ : zS) : Option (Int32 × zS) := (zgR σ v0 13 0).bind fun x1 => (x1).bind fun a3 => (zal σ a3 2).bind fun x4 => (zis σ v0 13).bind fun _ => (s_String_coder g v0  σ).bind fun (x8, σ6) => some (x4 >>> (x8 &&& 31), σ6)
set_option maxRecDepth 100000 in
theorem t_String_length {l : Launch} {D : zD} {g : zG} (hG : zGok g D) {v0 : Nat} {σ : zS} {q : Int32 × zS} (h : s_String_length g v0 σ = some q) : zMet l D Y_String_length K_String_length 1 20 [.ref (v0)] σ (.returned (some (.int q.1)), q.2) := by
  refine zMet.ofZ (by decide) rfl (fun q => by cases q) (Nat.le_of_ble_eq_true rfl) ?_
  show Z _ _ _ _ _ _ 0 [(0, .ref (v0))] [] _
  unfold s_String_length at h
  refine z_aload_n 0 d_String_length_0 rfl rfl ?_
  replace h := Option.bind_eq_some_iff.mp h; obtain ⟨x1, e2, h⟩ := h
  refine z_getR wF_java_lang_String_9_13 d_String_length_1 e2 ?_
  replace h := Option.bind_eq_some_iff.mp h; obtain ⟨a3, rfl, h⟩ := h
  replace h := Option.bind_eq_some_iff.mp h; obtain ⟨x4, e5, h⟩ := h
  refine z_alen (t := 2) rfl d_String_length_4 e5 ?_
  refine z_aload_n 0 d_String_length_5 rfl rfl ?_
  replace h := Option.bind_eq_some_iff.mp h; obtain ⟨_, e9, h⟩ := h
  obtain ⟨b10, f11, e9⟩ := zcls_at (zis_at e9)
  replace h := Option.bind_eq_some_iff.mp h; obtain ⟨⟨x8, σ6⟩, e7, h⟩ := h
  dsimp only at h
  refine z_callV (av := []) (st := [.int (x4)]) wV_java_lang_String_335 e9 (t_String_coder hG e7) (by decide) (by decide) d_String_length_6 (by simp [z_rfc, z_ci, z_cl, z_cr, z_cn]) ?_
  show Z _ _ _ _ _ _ 9 [(0, .ref (v0))] [.int (x8), .int (x4)] _
  refine z_ishr d_String_length_9 ?_
  cases h
  exact z_iret rfl rfl d_String_length_10

def s_StringBuilder_length (g : zG) (v0 : Nat) (σ : zS) : Option (Int32 × zS) := (zis σ v0 12).bind fun _ => (s_AbstractStringBuilder_length g v0  σ).bind fun (x3, σ1) => some (x3, σ1)
set_option maxRecDepth 100000 in
theorem t_StringBuilder_length {l : Launch} {D : zD} {g : zG} (hG : zGok g D) {v0 : Nat} {σ : zS} {q : Int32 × zS} (h : s_StringBuilder_length g v0 σ = some q) : zMet l D Y_StringBuilder_length K_StringBuilder_length 1 20 [.ref (v0)] σ (.returned (some (.int q.1)), q.2) := by
  refine zMet.ofZ (by decide) rfl (fun q => by cases q) (Nat.le_of_ble_eq_true rfl) ?_
  show Z _ _ _ _ _ _ 0 [(0, .ref (v0))] [] _
  unfold s_StringBuilder_length at h
  refine z_aload_n 0 d_StringBuilder_length_0 rfl rfl ?_
  replace h := Option.bind_eq_some_iff.mp h; obtain ⟨_, e4, h⟩ := h
  obtain ⟨b5, f6, e4⟩ := zcls_at (zis_at e4)
  replace h := Option.bind_eq_some_iff.mp h; obtain ⟨⟨x3, σ1⟩, e2, h⟩ := h
  dsimp only at h
  refine z_callP (av := []) (st := []) wX_java_lang_StringBuilder_343 (ci := 12) rfl e4 (t_AbstractStringBuilder_length hG e2) (by decide) (by decide) d_StringBuilder_length_1 (by simp [z_rfc, z_ci, z_cl, z_cr, z_cn]) ?_
  show Z _ _ _ _ _ _ 4 [(0, .ref (v0))] [.int (x3)] _
  cases h
  exact z_iret rfl rfl d_StringBuilder_length_4

def s_StringUTF16_charAt (g : zG) (v0 : Option Nat) (v1 : Int32) (σ : zS) : Option (Int32 × zS) := (s_StringUTF16_checkIndex g v1 v0 σ).bind fun σ1 => (s_StringUTF16_getChar g v0 v1 σ1).bind fun (x6, σ4) => if vp_nar .char x6 = x6 then some (x6, σ4) else none
set_option maxRecDepth 100000 in
theorem t_StringUTF16_charAt {l : Launch} {D : zD} {g : zG} (hG : zGok g D) {v0 : Option Nat} {v1 : Int32} {σ : zS} {q : Int32 × zS} (h : s_StringUTF16_charAt g v0 v1 σ = some q) : zMet l D Y_StringUTF16_charAt K_StringUTF16_charAt 3 64 [va_rf (v0), .int (v1)] σ (.returned (some (.int q.1)), q.2) := by
  refine zMet.ofZ (by decide) rfl (fun q => by cases q) (by simp [lg_sl, z_rfc, z_ci, z_cl, z_cr, z_cn]) ?_
  rw [show lv_args 0 ([va_rf (v0), .int (v1)] : List Value) = [(0, va_rf (v0)), (1, .int (v1))] from by simp [lv_args, z_rfc, z_ci, z_cl, z_cr, z_cn]]
  unfold s_StringUTF16_charAt at h
  refine z_iload_n 1 d_StringUTF16_charAt_0 rfl rfl ?_
  refine z_aload_nR 0 d_StringUTF16_charAt_1 rfl rfl ?_
  replace h := Option.bind_eq_some_iff.mp h; obtain ⟨σ1, e2, h⟩ := h
  refine z_callS (av := [.int (v1), va_rf (v0)]) (st := []) wS_java_lang_StringUTF16_67 (t_StringUTF16_checkIndex hG e2) (by decide) (by decide) d_StringUTF16_charAt_2 (by simp [z_rfc, z_ci, z_cl, z_cr, z_cn]) ?_
  show Z _ _ _ _ _ _ 5 [(0, va_rf (v0)), (1, .int (v1))] [] _
  refine z_aload_nR 0 d_StringUTF16_charAt_5 rfl rfl ?_
  refine z_iload_n 1 d_StringUTF16_charAt_6 rfl rfl ?_
  replace h := Option.bind_eq_some_iff.mp h; obtain ⟨⟨x6, σ4⟩, e5, h⟩ := h
  dsimp only at h
  refine z_callS (av := [va_rf (v0), .int (v1)]) (st := []) wS_java_lang_StringUTF16_71 (t_StringUTF16_getChar hG e5) (by decide) (by decide) d_StringUTF16_charAt_7 (by simp [z_rfc, z_ci, z_cl, z_cr, z_cn]) ?_
  show Z _ _ _ _ _ _ 10 [(0, va_rf (v0)), (1, .int (v1))] [.int (x6)] _
  by_cases c7 : vp_nar .char x6 = x6
  rotate_left
  · rw [if_neg c7] at h; cases h
  rw [if_pos c7] at h
  cases h
  exact z_zret rfl (z_nc c7) rfl d_StringUTF16_charAt_10

def s_ArrayList_init (g : zG) (v0 : Nat) (σ : zS) : Option (zS) := (s_AbstractList_init g v0  σ).bind fun σ1 => (some (g 0)).bind fun x4 => (zpF σ1 v0 3 0 (va_rf (x4))).bind fun σ6 => some σ6
set_option maxRecDepth 100000 in
theorem t_ArrayList_init {l : Launch} {D : zD} {g : zG} (hG : zGok g D) {v0 : Nat} {σ : zS} {q : zS} (h : s_ArrayList_init g v0 σ = some q) : zMet l D Y_ArrayList_init K_ArrayList_init 3 52 [.ref (v0)] σ (.returned none, q) := by
  refine zMet.ofZ (by decide) rfl (fun q => rfl) (Nat.le_of_ble_eq_true rfl) ?_
  show Z _ _ _ _ _ _ 0 [(0, .ref (v0))] [] _
  unfold s_ArrayList_init at h
  refine z_aload_n 0 d_ArrayList_init_0 rfl rfl ?_
  replace h := Option.bind_eq_some_iff.mp h; obtain ⟨σ1, e2, h⟩ := h
  refine z_callI (av := []) (st := []) wI_java_util_ArrayList_1 (t_AbstractList_init hG e2) (by decide) (by decide) d_ArrayList_init_1 (by simp [z_rfc, z_ci, z_cl, z_cr, z_cn]) ?_
  show Z _ _ _ _ _ _ 4 [(0, .ref (v0))] [] _
  refine z_aload_n 0 d_ArrayList_init_4 rfl rfl ?_
  replace h := Option.bind_eq_some_iff.mp h; obtain ⟨x4, e5, h⟩ := h
  refine z_gets (zG_4 hG) wG_java_util_ArrayList_39 (Or.inl rfl) d_ArrayList_init_5 ?_
  rw [Option.some.inj e5]
  replace h := Option.bind_eq_some_iff.mp h; obtain ⟨σ6, e7, h⟩ := h
  refine z_put wP_java_util_ArrayList_9_3 (fun _ => rfl) d_ArrayList_init_8 (z_nra _ _) (z_fra _ _) e7 ?_
  cases h
  exact z_vret rfl rfl d_ArrayList_init_11

def s_StringUTF16_checkBoundsOffCount (g : zG) (v0 : Int32) (v1 : Int32) (v2 : Option Nat) (σ : zS) : Option (zS) := (s_StringUTF16_length g v2 σ).bind fun (x3, σ1) => (s_String_checkBoundsOffCount g v0 v1 x3 σ1).bind fun (x6, σ4) => some σ4
set_option maxRecDepth 100000 in
theorem t_StringUTF16_checkBoundsOffCount {l : Launch} {D : zD} {g : zG} (hG : zGok g D) {v0 : Int32} {v1 : Int32} {v2 : Option Nat} {σ : zS} {q : zS} (h : s_StringUTF16_checkBoundsOffCount g v0 v1 v2 σ = some q) : zMet l D Y_StringUTF16_checkBoundsOffCount K_StringUTF16_checkBoundsOffCount 2 45 [.int (v0), .int (v1), va_rf (v2)] σ (.returned none, q) := by
  refine zMet.ofZ (by decide) rfl (fun q => by cases q) (by simp [lg_sl, z_rfc, z_ci, z_cl, z_cr, z_cn]) ?_
  rw [show lv_args 0 ([.int (v0), .int (v1), va_rf (v2)] : List Value) = [(0, .int (v0)), (1, .int (v1)), (2, va_rf (v2))] from by simp [lv_args, z_rfc, z_ci, z_cl, z_cr, z_cn]]
  unfold s_StringUTF16_checkBoundsOffCount at h
  refine z_iload_n 0 d_StringUTF16_checkBoundsOffCount_0 rfl rfl ?_
  refine z_iload_n 1 d_StringUTF16_checkBoundsOffCount_1 rfl rfl ?_
  refine z_aload_nR 2 d_StringUTF16_checkBoundsOffCount_2 rfl rfl ?_
  replace h := Option.bind_eq_some_iff.mp h; obtain ⟨⟨x3, σ1⟩, e2, h⟩ := h
  dsimp only at h
  refine z_callS (av := [va_rf (v2)]) (st := [.int (v1), .int (v0)]) wS_java_lang_StringUTF16_48 (t_StringUTF16_length hG e2) (by decide) (by decide) d_StringUTF16_checkBoundsOffCount_3 (by simp [z_rfc, z_ci, z_cl, z_cr, z_cn]) ?_
  show Z _ _ _ _ _ _ 6 [(0, .int (v0)), (1, .int (v1)), (2, va_rf (v2))] [.int (x3), .int (v1), .int (v0)] _
  replace h := Option.bind_eq_some_iff.mp h; obtain ⟨⟨x6, σ4⟩, e5, h⟩ := h
  dsimp only at h
  refine z_callS (av := [.int (v0), .int (v1), .int (x3)]) (st := []) wS_java_lang_StringUTF16_419 (t_String_checkBoundsOffCount hG e5) (by decide) (by decide) d_StringUTF16_checkBoundsOffCount_6 (by simp [z_rfc, z_ci, z_cl, z_cr, z_cn]) ?_
  show Z _ _ _ _ _ _ 9 [(0, .int (v0)), (1, .int (v1)), (2, va_rf (v2))] [.int (x6)] _
  refine z_pop d_StringUTF16_checkBoundsOffCount_9 rfl ?_
  cases h
  exact z_vret rfl rfl d_StringUTF16_checkBoundsOffCount_10

def s_StringUTF16_putCharSB (g : zG) (v0 : Option Nat) (v1 : Int32) (v2 : Int32) (σ : zS) : Option (zS) := (s_StringUTF16_checkIndex g v1 v0 σ).bind fun σ1 => (s_StringUTF16_putChar g v0 v1 v2 σ1).bind fun σ4 => some σ4
set_option maxRecDepth 100000 in
theorem t_StringUTF16_putCharSB {l : Launch} {D : zD} {g : zG} (hG : zGok g D) {v0 : Option Nat} {v1 : Int32} {v2 : Int32} {σ : zS} {q : zS} (h : s_StringUTF16_putCharSB g v0 v1 v2 σ = some q) : zMet l D Y_StringUTF16_putCharSB K_StringUTF16_putCharSB 3 64 [va_rf (v0), .int (v1), .int (v2)] σ (.returned none, q) := by
  refine zMet.ofZ (by decide) rfl (fun q => by cases q) (by simp [lg_sl, z_rfc, z_ci, z_cl, z_cr, z_cn]) ?_
  rw [show lv_args 0 ([va_rf (v0), .int (v1), .int (v2)] : List Value) = [(0, va_rf (v0)), (1, .int (v1)), (2, .int (v2))] from by simp [lv_args, z_rfc, z_ci, z_cl, z_cr, z_cn]]
  unfold s_StringUTF16_putCharSB at h
  refine z_iload_n 1 d_StringUTF16_putCharSB_0 rfl rfl ?_
  refine z_aload_nR 0 d_StringUTF16_putCharSB_1 rfl rfl ?_
  replace h := Option.bind_eq_some_iff.mp h; obtain ⟨σ1, e2, h⟩ := h
  refine z_callS (av := [.int (v1), va_rf (v0)]) (st := []) wS_java_lang_StringUTF16_67 (t_StringUTF16_checkIndex hG e2) (by decide) (by decide) d_StringUTF16_putCharSB_2 (by simp [z_rfc, z_ci, z_cl, z_cr, z_cn]) ?_
  show Z _ _ _ _ _ _ 5 [(0, va_rf (v0)), (1, .int (v1)), (2, .int (v2))] [] _
  refine z_aload_nR 0 d_StringUTF16_putCharSB_5 rfl rfl ?_
  refine z_iload_n 1 d_StringUTF16_putCharSB_6 rfl rfl ?_
  refine z_iload_n 2 d_StringUTF16_putCharSB_7 rfl rfl ?_
  replace h := Option.bind_eq_some_iff.mp h; obtain ⟨σ4, e5, h⟩ := h
  refine z_callS (av := [va_rf (v0), .int (v1), .int (v2)]) (st := []) wS_java_lang_StringUTF16_111 (t_StringUTF16_putChar hG e5) (by decide) (by decide) d_StringUTF16_putCharSB_8 (by simp [z_rfc, z_ci, z_cl, z_cr, z_cn]) ?_
  show Z _ _ _ _ _ _ 11 [(0, va_rf (v0)), (1, .int (v1)), (2, .int (v2))] [] _
  cases h
  exact z_vret rfl rfl d_StringUTF16_putCharSB_11

def s_StringUTF16_checkBoundsBeginEnd (g : zG) (v0 : Int32) (v1 : Int32) (v2 : Option Nat) (σ : zS) : Option (zS) := (s_StringUTF16_length g v2 σ).bind fun (x3, σ1) => (s_String_checkBoundsBeginEnd g v0 v1 x3 σ1).bind fun σ4 => some σ4
set_option maxRecDepth 100000 in
theorem t_StringUTF16_checkBoundsBeginEnd {l : Launch} {D : zD} {g : zG} (hG : zGok g D) {v0 : Int32} {v1 : Int32} {v2 : Option Nat} {σ : zS} {q : zS} (h : s_StringUTF16_checkBoundsBeginEnd g v0 v1 v2 σ = some q) : zMet l D Y_StringUTF16_checkBoundsBeginEnd K_StringUTF16_checkBoundsBeginEnd 2 45 [.int (v0), .int (v1), va_rf (v2)] σ (.returned none, q) := by
  refine zMet.ofZ (by decide) rfl (fun q => by cases q) (by simp [lg_sl, z_rfc, z_ci, z_cl, z_cr, z_cn]) ?_
  rw [show lv_args 0 ([.int (v0), .int (v1), va_rf (v2)] : List Value) = [(0, .int (v0)), (1, .int (v1)), (2, va_rf (v2))] from by simp [lv_args, z_rfc, z_ci, z_cl, z_cr, z_cn]]
  unfold s_StringUTF16_checkBoundsBeginEnd at h
  refine z_iload_n 0 d_StringUTF16_checkBoundsBeginEnd_0 rfl rfl ?_
  refine z_iload_n 1 d_StringUTF16_checkBoundsBeginEnd_1 rfl rfl ?_
  refine z_aload_nR 2 d_StringUTF16_checkBoundsBeginEnd_2 rfl rfl ?_
  replace h := Option.bind_eq_some_iff.mp h; obtain ⟨⟨x3, σ1⟩, e2, h⟩ := h
  dsimp only at h
  refine z_callS (av := [va_rf (v2)]) (st := [.int (v1), .int (v0)]) wS_java_lang_StringUTF16_48 (t_StringUTF16_length hG e2) (by decide) (by decide) d_StringUTF16_checkBoundsBeginEnd_3 (by simp [z_rfc, z_ci, z_cl, z_cr, z_cn]) ?_
  show Z _ _ _ _ _ _ 6 [(0, .int (v0)), (1, .int (v1)), (2, va_rf (v2))] [.int (x3), .int (v1), .int (v0)] _
  replace h := Option.bind_eq_some_iff.mp h; obtain ⟨σ4, e5, h⟩ := h
  refine z_callS (av := [.int (v0), .int (v1), .int (x3)]) (st := []) wS_java_lang_StringUTF16_241 (t_String_checkBoundsBeginEnd hG e5) (by decide) (by decide) d_StringUTF16_checkBoundsBeginEnd_6 (by simp [z_rfc, z_ci, z_cl, z_cr, z_cn]) ?_
  show Z _ _ _ _ _ _ 9 [(0, .int (v0)), (1, .int (v1)), (2, va_rf (v2))] [] _
  cases h
  exact z_vret rfl rfl d_StringUTF16_checkBoundsBeginEnd_9

def s_StringUTF16_compress2_10 (g : zG)  : Nat → Option Nat → Int32 → Option Nat → Int32 → Int32 → Int32 → zS → Option (Int32 × zS)
  | 0, _, _, _, _, _, _, _ => none
  | n + 1, v0, v1, v2, v3, v4, v5, σ => if v4 ≤ v5 then some (v4, σ) else (s_StringUTF16_getChar g v0 v1 σ).bind fun (x4, σ2) => if x4 ≤ 255 then (v2).bind fun a6 => (zsI σ2 a6 2 (v3) (vp_nar .byte (x4.toInt8.toInt32))).bind fun σ7 => s_StringUTF16_compress2_10 g  n (v0) (v1 + 1) (some (a6)) (v3 + 1) (v4) (v5 + 1) σ7 else some (v5, σ2)
def s_StringUTF16_compress2 (g : zG) (v0 : Option Nat) (v1 : Int32) (v2 : Option Nat) (v3 : Int32) (v4 : Int32) (σ : zS) : Option (Int32 × zS) := (s_StringUTF16_checkBoundsOffCount g v1 v4 v0 σ).bind fun σ1 => s_StringUTF16_compress2_10 g  zfuel (v0) (v1) (v2) (v3) (v4) (0) σ1
set_option maxRecDepth 100000 in
theorem t_StringUTF16_compress2_10 {l : Launch} {D : zD} {g : zG} (hG : zGok g D) {q : Int32 × zS}   : ∀ (n : Nat) {v0 : Option Nat} {v1 : Int32} {v2 : Option Nat} {v3 : Int32} {v4 : Int32} {v5 : Int32} {σ : zS}, s_StringUTF16_compress2_10 g  n v0 v1 v2 v3 v4 v5 σ = some q → Z l D K_StringUTF16_compress2 3 67 (.returned (some (.int q.1)), q.2) 10 [(0, va_rf (v0)), (1, .int (v1)), (2, va_rf (v2)), (3, .int (v3)), (4, .int (v4)), (5, .int (v5))] [] σ := by
  intro n
  induction n with
  | zero =>
    intro v0 v1 v2 v3 v4 v5 σ h
    cases h
  | succ n ih =>
    intro v0 v1 v2 v3 v4 v5 σ h
    first | rw [s_StringUTF16_compress2_10] at h | (unfold s_StringUTF16_compress2_10 at h; dsimp only at h)
    refine z_iload 5 d_StringUTF16_compress2_10 rfl ?_
    refine z_iload 4 d_StringUTF16_compress2_12 rfl ?_
    refine z_icmp_ge (tgt := 53) d_StringUTF16_compress2_14 rfl (fun c1 => ?_) (fun c1 => ?_)
    · rw [if_pos c1] at h
      refine z_iload 4 d_StringUTF16_compress2_53 rfl ?_
      cases h
      exact z_iret rfl rfl d_StringUTF16_compress2_55
    · rw [if_neg c1] at h
      refine z_aload_nR 0 d_StringUTF16_compress2_17 rfl rfl ?_
      refine z_iload_n 1 d_StringUTF16_compress2_18 rfl rfl ?_
      replace h := Option.bind_eq_some_iff.mp h; obtain ⟨⟨x4, σ2⟩, e3, h⟩ := h
      dsimp only at h
      refine z_callS (av := [va_rf (v0), .int (v1)]) (st := []) wS_java_lang_StringUTF16_71 (t_StringUTF16_getChar hG e3) (by decide) (by decide) d_StringUTF16_compress2_19 (by simp [z_rfc, z_ci, z_cl, z_cr, z_cn]) ?_
      show Z _ _ _ _ _ _ 22 [(0, va_rf (v0)), (1, .int (v1)), (2, va_rf (v2)), (3, .int (v3)), (4, .int (v4)), (5, .int (v5))] [.int (x4)] _
      refine z_istore (j := 6) (lv' := [(6, .int (x4)), (0, va_rf (v0)), (1, .int (v1)), (2, va_rf (v2)), (3, .int (v3)), (4, .int (v4)), (5, .int (v5))]) d_StringUTF16_compress2_22 (by decide) rfl ?_
      refine z_iload 0 d_StringUTF16_compress2_24 rfl ?_
      refine z_sipush (v := 255) d_StringUTF16_compress2_26 rfl ?_
      refine z_icmp_le (tgt := 35) d_StringUTF16_compress2_29 rfl (fun c5 => ?_) (fun c5 => ?_)
      · rw [if_pos c5] at h
        refine z_aload_nR 3 d_StringUTF16_compress2_35 rfl rfl ?_
        refine z_iload_n 4 d_StringUTF16_compress2_36 rfl rfl ?_
        refine z_iload 0 d_StringUTF16_compress2_37 rfl ?_
        refine z_i2b d_StringUTF16_compress2_39 ?_
        replace h := Option.bind_eq_some_iff.mp h; obtain ⟨a6, rfl, h⟩ := h
        replace h := Option.bind_eq_some_iff.mp h; obtain ⟨σ7, e8, h⟩ := h
        refine z_bastore rfl d_StringUTF16_compress2_40 e8 ?_
        refine z_iinc (v := v1 + 1) (lv' := [(1, .int (v1 + 1)), (6, .int (x4)), (0, va_rf (v0)), (2, .ref (a6)), (3, .int (v3)), (4, .int (v4)), (5, .int (v5))]) 2 d_StringUTF16_compress2_41 rfl rfl (by decide) (by simp [z_rfc, z_ci, z_cl, z_cr, z_cn] <;> rfl) ?_
        refine z_iinc (v := v3 + 1) (lv' := [(3, .int (v3 + 1)), (1, .int (v1 + 1)), (6, .int (x4)), (0, va_rf (v0)), (2, .ref (a6)), (4, .int (v4)), (5, .int (v5))]) 4 d_StringUTF16_compress2_44 rfl rfl (by decide) rfl ?_
        refine z_iinc (v := v5 + 1) (lv' := [(5, .int (v5 + 1)), (3, .int (v3 + 1)), (1, .int (v1 + 1)), (6, .int (x4)), (0, va_rf (v0)), (2, .ref (a6)), (4, .int (v4))]) 6 d_StringUTF16_compress2_47 rfl rfl (by decide) rfl ?_
        refine z_goto (tgt := 10) d_StringUTF16_compress2_50 rfl ?_
        refine z_lv (lv' := [(0, va_rf (v0)), (1, .int (v1 + 1)), (2, va_rf (some (a6))), (3, .int (v3 + 1)), (4, .int (v4)), (5, .int (v5 + 1))]) [4, 2, 5, 1, 6, 0] rfl ?_
        exact ih h
      · rw [if_neg c5] at h
        refine z_iload 6 d_StringUTF16_compress2_32 rfl ?_
        cases h
        exact z_iret rfl rfl d_StringUTF16_compress2_34
set_option maxRecDepth 100000 in
theorem t_StringUTF16_compress2 {l : Launch} {D : zD} {g : zG} (hG : zGok g D) {v0 : Option Nat} {v1 : Int32} {v2 : Option Nat} {v3 : Int32} {v4 : Int32} {σ : zS} {q : Int32 × zS} (h : s_StringUTF16_compress2 g v0 v1 v2 v3 v4 σ = some q) : zMet l D Y_StringUTF16_compress2 K_StringUTF16_compress2 3 67 [va_rf (v0), .int (v1), va_rf (v2), .int (v3), .int (v4)] σ (.returned (some (.int q.1)), q.2) := by
  refine zMet.ofZ (by decide) rfl (fun q => by cases q) (by simp [lg_sl, z_rfc, z_ci, z_cl, z_cr, z_cn]) ?_
  rw [show lv_args 0 ([va_rf (v0), .int (v1), va_rf (v2), .int (v3), .int (v4)] : List Value) = [(0, va_rf (v0)), (1, .int (v1)), (2, va_rf (v2)), (3, .int (v3)), (4, .int (v4))] from by simp [lv_args, z_rfc, z_ci, z_cl, z_cr, z_cn]]
  unfold s_StringUTF16_compress2 at h
  refine z_iload_n 1 d_StringUTF16_compress2_0 rfl rfl ?_
  refine z_iload 4 d_StringUTF16_compress2_1 rfl ?_
  refine z_aload_nR 0 d_StringUTF16_compress2_3 rfl rfl ?_
  replace h := Option.bind_eq_some_iff.mp h; obtain ⟨σ1, e2, h⟩ := h
  refine z_callS (av := [.int (v1), .int (v4), va_rf (v0)]) (st := []) wS_java_lang_StringUTF16_173 (t_StringUTF16_checkBoundsOffCount hG e2) (by decide) (by decide) d_StringUTF16_compress2_4 (by simp [z_rfc, z_ci, z_cl, z_cr, z_cn]) ?_
  show Z _ _ _ _ _ _ 7 [(0, va_rf (v0)), (1, .int (v1)), (2, va_rf (v2)), (3, .int (v3)), (4, .int (v4))] [] _
  refine z_iconst (v := 0) d_StringUTF16_compress2_7 rfl ?_
  refine z_istore (j := 5) (lv' := [(5, .int (0)), (0, va_rf (v0)), (1, .int (v1)), (2, va_rf (v2)), (3, .int (v3)), (4, .int (v4))]) d_StringUTF16_compress2_8 (by decide) rfl ?_
  refine z_lv (lv' := [(0, va_rf (v0)), (1, .int (v1)), (2, va_rf (v2)), (3, .int (v3)), (4, .int (v4)), (5, .int (0))]) [1, 2, 3, 4, 5, 0] rfl ?_
  exact t_StringUTF16_compress2_10 hG   zfuel h

def s_String_charAt (g : zG) (v0 : Nat) (v1 : Int32) (σ : zS) : Option (Int32 × zS) := (zis σ v0 13).bind fun _ => (s_String_isLatin1 g v0  σ).bind fun (x3, σ1) => if x3 = 0 then (zgR σ1 v0 13 0).bind fun x5 => (s_StringUTF16_charAt g x5 v1 σ1).bind fun (x9, σ7) => if vp_nar .char x9 = x9 then some (x9, σ7) else none else (zgR σ1 v0 13 0).bind fun x11 => (s_StringLatin1_charAt g x11 v1 σ1).bind fun (x15, σ13) => if vp_nar .char x15 = x15 then some (x15, σ13) else none
set_option maxRecDepth 100000 in
theorem t_String_charAt {l : Launch} {D : zD} {g : zG} (hG : zGok g D) {v0 : Nat} {v1 : Int32} {σ : zS} {q : Int32 × zS} (h : s_String_charAt g v0 v1 σ = some q) : zMet l D Y_String_charAt K_String_charAt 4 85 [.ref (v0), .int (v1)] σ (.returned (some (.int q.1)), q.2) := by
  refine zMet.ofZ (by decide) rfl (fun q => by cases q) (Nat.le_of_ble_eq_true rfl) ?_
  show Z _ _ _ _ _ _ 0 [(0, .ref (v0)), (1, .int (v1))] [] _
  unfold s_String_charAt at h
  refine z_aload_n 0 d_String_charAt_0 rfl rfl ?_
  replace h := Option.bind_eq_some_iff.mp h; obtain ⟨_, e17, h⟩ := h
  obtain ⟨b18, f19, e17⟩ := zcls_at (zis_at e17)
  replace h := Option.bind_eq_some_iff.mp h; obtain ⟨⟨x3, σ1⟩, e2, h⟩ := h
  dsimp only at h
  refine z_callV (av := []) (st := []) wV_java_lang_String_492 e17 (t_String_isLatin1 hG e2) (by decide) (by decide) d_String_charAt_1 (by simp [z_rfc, z_ci, z_cl, z_cr, z_cn]) ?_
  show Z _ _ _ _ _ _ 4 [(0, .ref (v0)), (1, .int (v1))] [.int (x3)] _
  refine z_if_eq (tgt := 16) d_String_charAt_4 rfl (fun c4 => ?_) (fun c4 => ?_)
  · rw [if_pos c4] at h
    refine z_aload_n 0 d_String_charAt_16 rfl rfl ?_
    replace h := Option.bind_eq_some_iff.mp h; obtain ⟨x5, e6, h⟩ := h
    refine z_getR wF_java_lang_String_9_13 d_String_charAt_17 e6 ?_
    refine z_iload_n 1 d_String_charAt_20 rfl rfl ?_
    replace h := Option.bind_eq_some_iff.mp h; obtain ⟨⟨x9, σ7⟩, e8, h⟩ := h
    dsimp only at h
    refine z_callS (av := [va_rf (x5), .int (v1)]) (st := []) wS_java_lang_String_498 (t_StringUTF16_charAt hG e8) (by decide) (by decide) d_String_charAt_21 (by simp [z_rfc, z_ci, z_cl, z_cr, z_cn]) ?_
    show Z _ _ _ _ _ _ 24 [(0, .ref (v0)), (1, .int (v1))] [.int (x9)] _
    by_cases c10 : vp_nar .char x9 = x9
    rotate_left
    · rw [if_neg c10] at h; cases h
    rw [if_pos c10] at h
    cases h
    exact z_zret rfl (z_nc c10) rfl d_String_charAt_24
  · rw [if_neg c4] at h
    refine z_aload_n 0 d_String_charAt_7 rfl rfl ?_
    replace h := Option.bind_eq_some_iff.mp h; obtain ⟨x11, e12, h⟩ := h
    refine z_getR wF_java_lang_String_9_13 d_String_charAt_8 e12 ?_
    refine z_iload_n 1 d_String_charAt_11 rfl rfl ?_
    replace h := Option.bind_eq_some_iff.mp h; obtain ⟨⟨x15, σ13⟩, e14, h⟩ := h
    dsimp only at h
    refine z_callS (av := [va_rf (x11), .int (v1)]) (st := []) wS_java_lang_String_495 (t_StringLatin1_charAt hG e14) (by decide) (by decide) d_String_charAt_12 (by simp [z_rfc, z_ci, z_cl, z_cr, z_cn]) ?_
    show Z _ _ _ _ _ _ 15 [(0, .ref (v0)), (1, .int (v1))] [.int (x15)] _
    by_cases c16 : vp_nar .char x15 = x15
    rotate_left
    · rw [if_neg c16] at h; cases h
    rw [if_pos c16] at h
    cases h
    exact z_zret rfl (z_nc c16) rfl d_String_charAt_15

def s_StringUTF16_inflate_10 (g : zG)  : Nat → Option Nat → Int32 → Option Nat → Int32 → Int32 → Int32 → zS → Option (zS)
  | 0, _, _, _, _, _, _, _ => none
  | n + 1, v0, v1, v2, v3, v4, v5, σ => if v4 ≤ v5 then some σ else (v0).bind fun a2 => (zaI σ a2 2 (v1)).bind fun x3 => (s_StringUTF16_putChar g v2 v3 (x3 &&& 255) σ).bind fun σ5 => s_StringUTF16_inflate_10 g  n (some (a2)) (v1 + 1) (v2) (v3 + 1) (v4) (v5 + 1) σ5
def s_StringUTF16_inflate (g : zG) (v0 : Option Nat) (v1 : Int32) (v2 : Option Nat) (v3 : Int32) (v4 : Int32) (σ : zS) : Option (zS) := (s_StringUTF16_checkBoundsOffCount g v3 v4 v2 σ).bind fun σ1 => s_StringUTF16_inflate_10 g  zfuel (v0) (v1) (v2) (v3) (v4) (0) σ1
set_option maxRecDepth 100000 in
theorem t_StringUTF16_inflate_10 {l : Launch} {D : zD} {g : zG} (hG : zGok g D) {q : zS}   : ∀ (n : Nat) {v0 : Option Nat} {v1 : Int32} {v2 : Option Nat} {v3 : Int32} {v4 : Int32} {v5 : Int32} {σ : zS}, s_StringUTF16_inflate_10 g  n v0 v1 v2 v3 v4 v5 σ = some q → Z l D K_StringUTF16_inflate 3 67 (.returned none, q) 10 [(0, va_rf (v0)), (1, .int (v1)), (2, va_rf (v2)), (3, .int (v3)), (4, .int (v4)), (5, .int (v5))] [] σ := by
  intro n
  induction n with
  | zero =>
    intro v0 v1 v2 v3 v4 v5 σ h
    cases h
  | succ n ih =>
    intro v0 v1 v2 v3 v4 v5 σ h
    first | rw [s_StringUTF16_inflate_10] at h | (unfold s_StringUTF16_inflate_10 at h; dsimp only at h)
    refine z_iload 5 d_StringUTF16_inflate_10 rfl ?_
    refine z_iload 4 d_StringUTF16_inflate_12 rfl ?_
    refine z_icmp_ge (tgt := 41) d_StringUTF16_inflate_14 rfl (fun c1 => ?_) (fun c1 => ?_)
    · rw [if_pos c1] at h
      cases h
      exact z_vret rfl rfl d_StringUTF16_inflate_41
    · rw [if_neg c1] at h
      refine z_aload_nR 2 d_StringUTF16_inflate_17 rfl rfl ?_
      refine z_iload_n 3 d_StringUTF16_inflate_18 rfl rfl ?_
      refine z_iinc (v := v3 + 1) (lv' := [(3, .int (v3 + 1)), (0, va_rf (v0)), (1, .int (v1)), (2, va_rf (v2)), (4, .int (v4)), (5, .int (v5))]) 3 d_StringUTF16_inflate_19 rfl rfl (by decide) (by simp [z_rfc, z_ci, z_cl, z_cr, z_cn] <;> rfl) ?_
      refine z_aload_nR 1 d_StringUTF16_inflate_22 rfl rfl ?_
      refine z_iload_n 2 d_StringUTF16_inflate_23 rfl rfl ?_
      refine z_iinc (v := v1 + 1) (lv' := [(1, .int (v1 + 1)), (3, .int (v3 + 1)), (0, va_rf (v0)), (2, va_rf (v2)), (4, .int (v4)), (5, .int (v5))]) 2 d_StringUTF16_inflate_24 rfl rfl (by decide) (by simp [z_rfc, z_ci, z_cl, z_cr, z_cn] <;> rfl) ?_
      replace h := Option.bind_eq_some_iff.mp h; obtain ⟨a2, rfl, h⟩ := h
      replace h := Option.bind_eq_some_iff.mp h; obtain ⟨x3, e4, h⟩ := h
      refine z_baload rfl d_StringUTF16_inflate_27 e4 ?_
      refine z_sipush (v := 255) d_StringUTF16_inflate_28 rfl ?_
      refine z_iand d_StringUTF16_inflate_31 ?_
      replace h := Option.bind_eq_some_iff.mp h; obtain ⟨σ5, e6, h⟩ := h
      refine z_callS (av := [va_rf (v2), .int (v3), .int (x3 &&& 255)]) (st := []) wS_java_lang_StringUTF16_111 (t_StringUTF16_putChar hG e6) (by decide) (by decide) d_StringUTF16_inflate_32 (by simp [z_rfc, z_ci, z_cl, z_cr, z_cn]) ?_
      show Z _ _ _ _ _ _ 35 [(1, .int (v1 + 1)), (3, .int (v3 + 1)), (0, .ref (a2)), (2, va_rf (v2)), (4, .int (v4)), (5, .int (v5))] [] _
      refine z_iinc (v := v5 + 1) (lv' := [(5, .int (v5 + 1)), (1, .int (v1 + 1)), (3, .int (v3 + 1)), (0, .ref (a2)), (2, va_rf (v2)), (4, .int (v4))]) 5 d_StringUTF16_inflate_35 rfl rfl (by decide) rfl ?_
      refine z_goto (tgt := 10) d_StringUTF16_inflate_38 rfl ?_
      refine z_lv (lv' := [(0, va_rf (some (a2))), (1, .int (v1 + 1)), (2, va_rf (v2)), (3, .int (v3 + 1)), (4, .int (v4)), (5, .int (v5 + 1))]) [3, 1, 4, 2, 5, 0] rfl ?_
      exact ih h
set_option maxRecDepth 100000 in
theorem t_StringUTF16_inflate {l : Launch} {D : zD} {g : zG} (hG : zGok g D) {v0 : Option Nat} {v1 : Int32} {v2 : Option Nat} {v3 : Int32} {v4 : Int32} {σ : zS} {q : zS} (h : s_StringUTF16_inflate g v0 v1 v2 v3 v4 σ = some q) : zMet l D Y_StringUTF16_inflate K_StringUTF16_inflate 3 67 [va_rf (v0), .int (v1), va_rf (v2), .int (v3), .int (v4)] σ (.returned none, q) := by
  refine zMet.ofZ (by decide) rfl (fun q => by cases q) (by simp [lg_sl, z_rfc, z_ci, z_cl, z_cr, z_cn]) ?_
  rw [show lv_args 0 ([va_rf (v0), .int (v1), va_rf (v2), .int (v3), .int (v4)] : List Value) = [(0, va_rf (v0)), (1, .int (v1)), (2, va_rf (v2)), (3, .int (v3)), (4, .int (v4))] from by simp [lv_args, z_rfc, z_ci, z_cl, z_cr, z_cn]]
  unfold s_StringUTF16_inflate at h
  refine z_iload_n 3 d_StringUTF16_inflate_0 rfl rfl ?_
  refine z_iload 4 d_StringUTF16_inflate_1 rfl ?_
  refine z_aload_nR 2 d_StringUTF16_inflate_3 rfl rfl ?_
  replace h := Option.bind_eq_some_iff.mp h; obtain ⟨σ1, e2, h⟩ := h
  refine z_callS (av := [.int (v3), .int (v4), va_rf (v2)]) (st := []) wS_java_lang_StringUTF16_173 (t_StringUTF16_checkBoundsOffCount hG e2) (by decide) (by decide) d_StringUTF16_inflate_4 (by simp [z_rfc, z_ci, z_cl, z_cr, z_cn]) ?_
  show Z _ _ _ _ _ _ 7 [(0, va_rf (v0)), (1, .int (v1)), (2, va_rf (v2)), (3, .int (v3)), (4, .int (v4))] [] _
  refine z_iconst (v := 0) d_StringUTF16_inflate_7 rfl ?_
  refine z_istore (j := 5) (lv' := [(5, .int (0)), (0, va_rf (v0)), (1, .int (v1)), (2, va_rf (v2)), (3, .int (v3)), (4, .int (v4))]) d_StringUTF16_inflate_8 (by decide) rfl ?_
  refine z_lv (lv' := [(0, va_rf (v0)), (1, .int (v1)), (2, va_rf (v2)), (3, .int (v3)), (4, .int (v4)), (5, .int (0))]) [1, 2, 3, 4, 5, 0] rfl ?_
  exact t_StringUTF16_inflate_10 hG   zfuel h

def s_StringUTF16_putCharsAt_70 (g : zG)  (v0 : Option Nat) (v1 : Int32) (v2 : Int32) (v3 : Int32) (v4 : Int32) (v5 : Int32) (v6 : Int32) (σ : zS) : Option (Int32 × zS) := some (v6, σ)
def s_StringUTF16_putCharsAt (g : zG) (v0 : Option Nat) (v1 : Int32) (v2 : Int32) (v3 : Int32) (v4 : Int32) (v5 : Int32) (σ : zS) : Option (Int32 × zS) := (s_StringUTF16_checkBoundsBeginEnd g v1 (v1 + 4) v0 σ).bind fun σ1 => (s_StringUTF16_putChar g v0 v1 v2 σ1).bind fun σ4 => (s_StringUTF16_putChar g v0 (v1 + 1) v3 σ4).bind fun σ7 => (s_StringUTF16_putChar g v0 ((v1 + 1) + 1) v4 σ7).bind fun σ10 => (s_StringUTF16_putChar g v0 (((v1 + 1) + 1) + 1) v5 σ10).bind fun σ13 => s_StringUTF16_putCharsAt_70 g  (v0) ((((v1 + 1) + 1) + 1) + 1) (v2) (v3) (v4) (v5) (v1 + 4) σ13
set_option maxRecDepth 100000 in
theorem t_StringUTF16_putCharsAt_70 {l : Launch} {D : zD} {g : zG} (hG : zGok g D) {q : Int32 × zS}   {v0 : Option Nat} {v1 : Int32} {v2 : Int32} {v3 : Int32} {v4 : Int32} {v5 : Int32} {v6 : Int32} {σ : zS} (h : s_StringUTF16_putCharsAt_70 g  v0 v1 v2 v3 v4 v5 v6 σ = some q) : Z l D K_StringUTF16_putCharsAt 3 67 (.returned (some (.int q.1)), q.2) 70 [(0, va_rf (v0)), (1, .int (v1)), (2, .int (v2)), (3, .int (v3)), (4, .int (v4)), (5, .int (v5)), (6, .int (v6))] [] σ := by
  unfold s_StringUTF16_putCharsAt_70 at h
  refine z_iload 6 d_StringUTF16_putCharsAt_70 rfl ?_
  cases h
  exact z_iret rfl rfl d_StringUTF16_putCharsAt_72
set_option maxRecDepth 100000 in
theorem t_StringUTF16_putCharsAt {l : Launch} {D : zD} {g : zG} (hG : zGok g D) {v0 : Option Nat} {v1 : Int32} {v2 : Int32} {v3 : Int32} {v4 : Int32} {v5 : Int32} {σ : zS} {q : Int32 × zS} (h : s_StringUTF16_putCharsAt g v0 v1 v2 v3 v4 v5 σ = some q) : zMet l D Y_StringUTF16_putCharsAt K_StringUTF16_putCharsAt 3 67 [va_rf (v0), .int (v1), .int (v2), .int (v3), .int (v4), .int (v5)] σ (.returned (some (.int q.1)), q.2) := by
  refine zMet.ofZ (by decide) rfl (fun q => by cases q) (by simp [lg_sl, z_rfc, z_ci, z_cl, z_cr, z_cn]) ?_
  rw [show lv_args 0 ([va_rf (v0), .int (v1), .int (v2), .int (v3), .int (v4), .int (v5)] : List Value) = [(0, va_rf (v0)), (1, .int (v1)), (2, .int (v2)), (3, .int (v3)), (4, .int (v4)), (5, .int (v5))] from by simp [lv_args, z_rfc, z_ci, z_cl, z_cr, z_cn]]
  unfold s_StringUTF16_putCharsAt at h
  refine z_iload_n 1 d_StringUTF16_putCharsAt_0 rfl rfl ?_
  refine z_iconst (v := 4) d_StringUTF16_putCharsAt_1 rfl ?_
  refine z_iadd d_StringUTF16_putCharsAt_2 ?_
  refine z_istore (j := 6) (lv' := [(6, .int (v1 + 4)), (0, va_rf (v0)), (1, .int (v1)), (2, .int (v2)), (3, .int (v3)), (4, .int (v4)), (5, .int (v5))]) d_StringUTF16_putCharsAt_3 (by decide) rfl ?_
  refine z_iload_n 2 d_StringUTF16_putCharsAt_5 rfl rfl ?_
  refine z_iload 0 d_StringUTF16_putCharsAt_6 rfl ?_
  refine z_aload_nR 1 d_StringUTF16_putCharsAt_8 rfl rfl ?_
  replace h := Option.bind_eq_some_iff.mp h; obtain ⟨σ1, e2, h⟩ := h
  refine z_callS (av := [.int (v1), .int (v1 + 4), va_rf (v0)]) (st := []) wS_java_lang_StringUTF16_96 (t_StringUTF16_checkBoundsBeginEnd hG e2) (by decide) (by decide) d_StringUTF16_putCharsAt_9 (by simp [z_rfc, z_ci, z_cl, z_cr, z_cn]) ?_
  show Z _ _ _ _ _ _ 12 [(6, .int (v1 + 4)), (0, va_rf (v0)), (1, .int (v1)), (2, .int (v2)), (3, .int (v3)), (4, .int (v4)), (5, .int (v5))] [] _
  refine z_aload_nR 1 d_StringUTF16_putCharsAt_12 rfl rfl ?_
  refine z_iload_n 2 d_StringUTF16_putCharsAt_13 rfl rfl ?_
  refine z_iinc (v := v1 + 1) (lv' := [(1, .int (v1 + 1)), (6, .int (v1 + 4)), (0, va_rf (v0)), (2, .int (v2)), (3, .int (v3)), (4, .int (v4)), (5, .int (v5))]) 2 d_StringUTF16_putCharsAt_14 rfl rfl (by decide) (by simp [z_rfc, z_ci, z_cl, z_cr, z_cn] <;> rfl) ?_
  refine z_iload_n 3 d_StringUTF16_putCharsAt_17 rfl rfl ?_
  replace h := Option.bind_eq_some_iff.mp h; obtain ⟨σ4, e5, h⟩ := h
  refine z_callS (av := [va_rf (v0), .int (v1), .int (v2)]) (st := []) wS_java_lang_StringUTF16_111 (t_StringUTF16_putChar hG e5) (by decide) (by decide) d_StringUTF16_putCharsAt_18 (by simp [z_rfc, z_ci, z_cl, z_cr, z_cn]) ?_
  show Z _ _ _ _ _ _ 21 [(1, .int (v1 + 1)), (6, .int (v1 + 4)), (0, va_rf (v0)), (2, .int (v2)), (3, .int (v3)), (4, .int (v4)), (5, .int (v5))] [] _
  refine z_aload_nR 2 d_StringUTF16_putCharsAt_21 rfl rfl ?_
  refine z_iload_n 0 d_StringUTF16_putCharsAt_22 rfl rfl ?_
  refine z_iinc (v := (v1 + 1) + 1) (lv' := [(1, .int ((v1 + 1) + 1)), (6, .int (v1 + 4)), (0, va_rf (v0)), (2, .int (v2)), (3, .int (v3)), (4, .int (v4)), (5, .int (v5))]) 0 d_StringUTF16_putCharsAt_23 rfl rfl (by decide) (by simp [z_rfc, z_ci, z_cl, z_cr, z_cn] <;> rfl) ?_
  refine z_iload_n 4 d_StringUTF16_putCharsAt_26 rfl rfl ?_
  replace h := Option.bind_eq_some_iff.mp h; obtain ⟨σ7, e8, h⟩ := h
  refine z_callS (av := [va_rf (v0), .int (v1 + 1), .int (v3)]) (st := []) wS_java_lang_StringUTF16_111 (t_StringUTF16_putChar hG e8) (by decide) (by decide) d_StringUTF16_putCharsAt_27 (by simp [z_rfc, z_ci, z_cl, z_cr, z_cn]) ?_
  show Z _ _ _ _ _ _ 30 [(1, .int ((v1 + 1) + 1)), (6, .int (v1 + 4)), (0, va_rf (v0)), (2, .int (v2)), (3, .int (v3)), (4, .int (v4)), (5, .int (v5))] [] _
  refine z_aload_nR 2 d_StringUTF16_putCharsAt_30 rfl rfl ?_
  refine z_iload_n 0 d_StringUTF16_putCharsAt_31 rfl rfl ?_
  refine z_iinc (v := ((v1 + 1) + 1) + 1) (lv' := [(1, .int (((v1 + 1) + 1) + 1)), (6, .int (v1 + 4)), (0, va_rf (v0)), (2, .int (v2)), (3, .int (v3)), (4, .int (v4)), (5, .int (v5))]) 0 d_StringUTF16_putCharsAt_32 rfl rfl (by decide) (by simp [z_rfc, z_ci, z_cl, z_cr, z_cn] <;> rfl) ?_
  refine z_iload 5 d_StringUTF16_putCharsAt_35 rfl ?_
  replace h := Option.bind_eq_some_iff.mp h; obtain ⟨σ10, e11, h⟩ := h
  refine z_callS (av := [va_rf (v0), .int ((v1 + 1) + 1), .int (v4)]) (st := []) wS_java_lang_StringUTF16_111 (t_StringUTF16_putChar hG e11) (by decide) (by decide) d_StringUTF16_putCharsAt_37 (by simp [z_rfc, z_ci, z_cl, z_cr, z_cn]) ?_
  show Z _ _ _ _ _ _ 40 [(1, .int (((v1 + 1) + 1) + 1)), (6, .int (v1 + 4)), (0, va_rf (v0)), (2, .int (v2)), (3, .int (v3)), (4, .int (v4)), (5, .int (v5))] [] _
  refine z_aload_nR 2 d_StringUTF16_putCharsAt_40 rfl rfl ?_
  refine z_iload_n 0 d_StringUTF16_putCharsAt_41 rfl rfl ?_
  refine z_iinc (v := (((v1 + 1) + 1) + 1) + 1) (lv' := [(1, .int ((((v1 + 1) + 1) + 1) + 1)), (6, .int (v1 + 4)), (0, va_rf (v0)), (2, .int (v2)), (3, .int (v3)), (4, .int (v4)), (5, .int (v5))]) 0 d_StringUTF16_putCharsAt_42 rfl rfl (by decide) (by simp [z_rfc, z_ci, z_cl, z_cr, z_cn] <;> rfl) ?_
  refine z_iload 6 d_StringUTF16_putCharsAt_45 rfl ?_
  replace h := Option.bind_eq_some_iff.mp h; obtain ⟨σ13, e14, h⟩ := h
  refine z_callS (av := [va_rf (v0), .int (((v1 + 1) + 1) + 1), .int (v5)]) (st := []) wS_java_lang_StringUTF16_111 (t_StringUTF16_putChar hG e14) (by decide) (by decide) d_StringUTF16_putCharsAt_47 (by simp [z_rfc, z_ci, z_cl, z_cr, z_cn]) ?_
  show Z _ _ _ _ _ _ 50 [(1, .int ((((v1 + 1) + 1) + 1) + 1)), (6, .int (v1 + 4)), (0, va_rf (v0)), (2, .int (v2)), (3, .int (v3)), (4, .int (v4)), (5, .int (v5))] [] _
  refine z_gets (zG_1 hG) wG_java_lang_StringUTF16_44 (Or.inl rfl) d_StringUTF16_putCharsAt_50 ?_
  refine z_if_ne (tgt := 70) d_StringUTF16_putCharsAt_53 rfl (fun _ => ?_) (fun q => absurd q (by decide))
  refine z_lv (lv' := [(0, va_rf (v0)), (1, .int ((((v1 + 1) + 1) + 1) + 1)), (2, .int (v2)), (3, .int (v3)), (4, .int (v4)), (5, .int (v5)), (6, .int (v1 + 4))]) [2, 0, 3, 4, 5, 6, 1] rfl ?_
  exact t_StringUTF16_putCharsAt_70 hG   h

def s_StringLatin1_inflate (g : zG) (v0 : Option Nat) (v1 : Int32) (v2 : Option Nat) (v3 : Int32) (v4 : Int32) (σ : zS) : Option (zS) := (s_StringUTF16_inflate g v0 v1 v2 v3 v4 σ).bind fun σ1 => some σ1
set_option maxRecDepth 100000 in
theorem t_StringLatin1_inflate {l : Launch} {D : zD} {g : zG} (hG : zGok g D) {v0 : Option Nat} {v1 : Int32} {v2 : Option Nat} {v3 : Int32} {v4 : Int32} {σ : zS} {q : zS} (h : s_StringLatin1_inflate g v0 v1 v2 v3 v4 σ = some q) : zMet l D Y_StringLatin1_inflate K_StringLatin1_inflate 4 92 [va_rf (v0), .int (v1), va_rf (v2), .int (v3), .int (v4)] σ (.returned none, q) := by
  refine zMet.ofZ (by decide) rfl (fun q => by cases q) (by simp [lg_sl, z_rfc, z_ci, z_cl, z_cr, z_cn]) ?_
  rw [show lv_args 0 ([va_rf (v0), .int (v1), va_rf (v2), .int (v3), .int (v4)] : List Value) = [(0, va_rf (v0)), (1, .int (v1)), (2, va_rf (v2)), (3, .int (v3)), (4, .int (v4))] from by simp [lv_args, z_rfc, z_ci, z_cl, z_cr, z_cn]]
  unfold s_StringLatin1_inflate at h
  refine z_aload_nR 0 d_StringLatin1_inflate_0 rfl rfl ?_
  refine z_iload_n 1 d_StringLatin1_inflate_1 rfl rfl ?_
  refine z_aload_nR 2 d_StringLatin1_inflate_2 rfl rfl ?_
  refine z_iload_n 3 d_StringLatin1_inflate_3 rfl rfl ?_
  refine z_iload 4 d_StringLatin1_inflate_4 rfl ?_
  replace h := Option.bind_eq_some_iff.mp h; obtain ⟨σ1, e2, h⟩ := h
  refine z_callS (av := [va_rf (v0), .int (v1), va_rf (v2), .int (v3), .int (v4)]) (st := []) wS_java_lang_StringLatin1_240 (t_StringUTF16_inflate hG e2) (by decide) (by decide) d_StringLatin1_inflate_6 (by simp [z_rfc, z_ci, z_cl, z_cr, z_cn]) ?_
  show Z _ _ _ _ _ _ 9 [(0, va_rf (v0)), (1, .int (v1)), (2, va_rf (v2)), (3, .int (v3)), (4, .int (v4))] [] _
  cases h
  exact z_vret rfl rfl d_StringLatin1_inflate_9

def s_AbstractStringBuilder_inflate (g : zG) (v0 : Nat) (σ : zS) : Option (zS) := (zis σ v0 12).bind fun _ => (s_AbstractStringBuilder_isLatin1 g v0  σ).bind fun (x3, σ1) => if x3 = 0 then some σ1 else (zgR σ1 v0 12 0).bind fun x5 => (x5).bind fun a7 => (zal σ1 a7 2).bind fun x8 => (s_StringUTF16_newBytesFor g x8 σ1).bind fun (x12, σ10) => (zgR σ10 v0 12 0).bind fun x13 => (zgI σ10 v0 12 3).bind fun x15 => (s_StringLatin1_inflate g x13 0 x12 0 x15 σ10).bind fun σ17 => (zpF σ17 v0 12 0 (va_rf (x12))).bind fun σ20 => (zpF σ20 v0 12 1 (.int (1))).bind fun σ22 => some σ22
set_option maxRecDepth 100000 in
theorem t_AbstractStringBuilder_inflate {l : Launch} {D : zD} {g : zG} (hG : zGok g D) {v0 : Nat} {σ : zS} {q : zS} (h : s_AbstractStringBuilder_inflate g v0 σ = some q) : zMet l D Y_AbstractStringBuilder_inflate K_AbstractStringBuilder_inflate 5 116 [.ref (v0)] σ (.returned none, q) := by
  refine zMet.ofZ (by decide) rfl (fun q => by cases q) (Nat.le_of_ble_eq_true rfl) ?_
  show Z _ _ _ _ _ _ 0 [(0, .ref (v0))] [] _
  unfold s_AbstractStringBuilder_inflate at h
  refine z_aload_n 0 d_AbstractStringBuilder_inflate_0 rfl rfl ?_
  replace h := Option.bind_eq_some_iff.mp h; obtain ⟨_, e24, h⟩ := h
  obtain ⟨b25, f26, e24⟩ := zcls_at (zis_at e24)
  replace h := Option.bind_eq_some_iff.mp h; obtain ⟨⟨x3, σ1⟩, e2, h⟩ := h
  dsimp only at h
  refine z_callU (av := []) (st := []) wX_java_lang_AbstractStringBuilder_83_12 e24 (t_AbstractStringBuilder_isLatin1 hG e2) (by decide) (by decide) d_AbstractStringBuilder_inflate_1 (by simp [z_rfc, z_ci, z_cl, z_cr, z_cn]) ?_
  show Z _ _ _ _ _ _ 4 [(0, .ref (v0))] [.int (x3)] _
  refine z_if_ne (tgt := 8) d_AbstractStringBuilder_inflate_4 rfl (fun c4 => ?_) (fun c4 => ?_)
  · rw [if_neg c4] at h
    refine z_aload_n 0 d_AbstractStringBuilder_inflate_8 rfl rfl ?_
    replace h := Option.bind_eq_some_iff.mp h; obtain ⟨x5, e6, h⟩ := h
    refine z_getR wF_java_lang_AbstractStringBuilder_15_12 d_AbstractStringBuilder_inflate_9 e6 ?_
    replace h := Option.bind_eq_some_iff.mp h; obtain ⟨a7, rfl, h⟩ := h
    replace h := Option.bind_eq_some_iff.mp h; obtain ⟨x8, e9, h⟩ := h
    refine z_alen (t := 2) rfl d_AbstractStringBuilder_inflate_12 e9 ?_
    replace h := Option.bind_eq_some_iff.mp h; obtain ⟨⟨x12, σ10⟩, e11, h⟩ := h
    dsimp only at h
    refine z_callS (av := [.int (x8)]) (st := []) wS_java_lang_AbstractStringBuilder_26 (t_StringUTF16_newBytesFor hG e11) (by decide) (by decide) d_AbstractStringBuilder_inflate_13 (by simp [z_rfc, z_ci, z_cl, z_cr, z_cn]) ?_
    show Z _ _ _ _ _ _ 16 [(0, .ref (v0))] [va_rf (x12)] _
    refine z_astore_nR (j := 1) (lv' := [(1, va_rf (x12)), (0, .ref (v0))]) d_AbstractStringBuilder_inflate_16 rfl (by decide) rfl ?_
    refine z_aload_n 1 d_AbstractStringBuilder_inflate_17 rfl rfl ?_
    replace h := Option.bind_eq_some_iff.mp h; obtain ⟨x13, e14, h⟩ := h
    refine z_getR wF_java_lang_AbstractStringBuilder_15_12 d_AbstractStringBuilder_inflate_18 e14 ?_
    refine z_iconst (v := 0) d_AbstractStringBuilder_inflate_21 rfl ?_
    refine z_aload_nR 0 d_AbstractStringBuilder_inflate_22 rfl rfl ?_
    refine z_iconst (v := 0) d_AbstractStringBuilder_inflate_23 rfl ?_
    refine z_aload_n 1 d_AbstractStringBuilder_inflate_24 rfl rfl ?_
    replace h := Option.bind_eq_some_iff.mp h; obtain ⟨x15, e16, h⟩ := h
    refine z_getI wF_java_lang_AbstractStringBuilder_79_12 d_AbstractStringBuilder_inflate_25 e16 ?_
    replace h := Option.bind_eq_some_iff.mp h; obtain ⟨σ17, e18, h⟩ := h
    refine z_callS (av := [va_rf (x13), .int (0), va_rf (x12), .int (0), .int (x15)]) (st := []) wS_java_lang_AbstractStringBuilder_125 (t_StringLatin1_inflate hG e18) (by decide) (by decide) d_AbstractStringBuilder_inflate_28 (by simp [z_rfc, z_ci, z_cl, z_cr, z_cn]) ?_
    show Z _ _ _ _ _ _ 31 [(1, va_rf (x12)), (0, .ref (v0))] [] _
    refine z_aload_n 1 d_AbstractStringBuilder_inflate_31 rfl rfl ?_
    refine z_aload_nR 0 d_AbstractStringBuilder_inflate_32 rfl rfl ?_
    replace h := Option.bind_eq_some_iff.mp h; obtain ⟨σ20, e21, h⟩ := h
    refine z_put wP_java_lang_AbstractStringBuilder_15_12 (fun q => by cases q) d_AbstractStringBuilder_inflate_33 (z_nra _ _) (z_fra _ _) e21 ?_
    refine z_aload_n 1 d_AbstractStringBuilder_inflate_36 rfl rfl ?_
    refine z_iconst (v := 1) d_AbstractStringBuilder_inflate_37 rfl ?_
    replace h := Option.bind_eq_some_iff.mp h; obtain ⟨σ22, e23, h⟩ := h
    refine z_put wP_java_lang_AbstractStringBuilder_22_12 (fun q => by cases q) d_AbstractStringBuilder_inflate_38 rfl rfl e23 ?_
    cases h
    exact z_vret rfl rfl d_AbstractStringBuilder_inflate_41
  · rw [if_pos c4] at h
    cases h
    exact z_vret rfl rfl d_AbstractStringBuilder_inflate_7

