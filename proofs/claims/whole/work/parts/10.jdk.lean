def s_AbstractCollection_init (g : zG) (v0 : Nat) (σ : zS) : Option (zS) := some σ
set_option maxRecDepth 100000 in
theorem t_AbstractCollection_init {l : Launch} {D : zD} {g : zG} (hG : zGok g D) {v0 : Nat} {σ : zS} {q : zS} (h : s_AbstractCollection_init g v0 σ = some q) : zMet l D Y_AbstractCollection_init K_AbstractCollection_init 1 12 [.ref (v0)] σ (.returned none, q) := by
  refine zMet.ofZ (by decide) rfl (fun q => rfl) (Nat.le_of_ble_eq_true rfl) ?_
  show Z _ _ _ _ _ _ 0 [(0, .ref (v0))] [] _
  unfold s_AbstractCollection_init at h
  refine z_aload_n 0 d_AbstractCollection_init_0 rfl rfl ?_
  refine z_objInit wO_java_util_AbstractCollection_1 wOi wOc (by decide) (by decide) d_AbstractCollection_init_1 ?_
  cases h
  exact z_vret rfl rfl d_AbstractCollection_init_4

def s_ArrayList_size (g : zG) (v0 : Nat) (σ : zS) : Option (Int32 × zS) := (zgI σ v0 3 1).bind fun x1 => some (x1, σ)
set_option maxRecDepth 100000 in
theorem t_ArrayList_size {l : Launch} {D : zD} {g : zG} (hG : zGok g D) {v0 : Nat} {σ : zS} {q : Int32 × zS} (h : s_ArrayList_size g v0 σ = some q) : zMet l D Y_ArrayList_size K_ArrayList_size 0 0 [.ref (v0)] σ (.returned (some (.int q.1)), q.2) := by
  refine zMet.ofZ (by decide) rfl (fun q => by cases q) (Nat.le_of_ble_eq_true rfl) ?_
  show Z _ _ _ _ _ _ 0 [(0, .ref (v0))] [] _
  unfold s_ArrayList_size at h
  refine z_aload_n 0 d_ArrayList_size_0 rfl rfl ?_
  replace h := Option.bind_eq_some_iff.mp h; obtain ⟨x1, e2, h⟩ := h
  refine z_getI wF_java_util_ArrayList_48_3 d_ArrayList_size_1 e2 ?_
  cases h
  exact z_iret rfl rfl d_ArrayList_size_4

def s_ArraysSupport_hugeLength (g : zG) (v0 : Int32) (v1 : Int32) (σ : zS) : Option (Int32 × zS) := if 0 ≤ (v0 + v1) then if 2147483639 < (v0 + v1) then some (v0 + v1, σ) else some (2147483639, σ) else none
set_option maxRecDepth 100000 in
theorem t_ArraysSupport_hugeLength {l : Launch} {D : zD} {g : zG} (hG : zGok g D) {v0 : Int32} {v1 : Int32} {σ : zS} {q : Int32 × zS} (h : s_ArraysSupport_hugeLength g v0 v1 σ = some q) : zMet l D Y_ArraysSupport_hugeLength K_ArraysSupport_hugeLength 0 0 [.int (v0), .int (v1)] σ (.returned (some (.int q.1)), q.2) := by
  refine zMet.ofZ (by decide) rfl (fun q => by cases q) (Nat.le_of_ble_eq_true rfl) ?_
  show Z _ _ _ _ _ _ 0 [(0, .int (v0)), (1, .int (v1))] [] _
  unfold s_ArraysSupport_hugeLength at h
  refine z_iload_n 0 d_ArraysSupport_hugeLength_0 rfl rfl ?_
  refine z_iload_n 1 d_ArraysSupport_hugeLength_1 rfl rfl ?_
  refine z_iadd d_ArraysSupport_hugeLength_2 ?_
  refine z_istore_n (j := 2) (lv' := [(2, .int (v0 + v1)), (0, .int (v0)), (1, .int (v1))]) d_ArraysSupport_hugeLength_3 rfl (by decide) rfl ?_
  refine z_iload_n 0 d_ArraysSupport_hugeLength_4 rfl rfl ?_
  refine z_if_ge (tgt := 49) d_ArraysSupport_hugeLength_5 rfl (fun c1 => ?_) (fun c1 => ?_)
  · rw [if_pos c1] at h
    refine z_iload_n 0 d_ArraysSupport_hugeLength_49 rfl rfl ?_
    refine z_ldc (v := 2147483639) wC_jdk_internal_util_ArraysSupport_200 d_ArraysSupport_hugeLength_50 ?_
    refine z_icmp_gt (tgt := 58) d_ArraysSupport_hugeLength_52 rfl (fun c2 => ?_) (fun c2 => ?_)
    · rw [if_pos c2] at h
      refine z_iload_n 0 d_ArraysSupport_hugeLength_58 rfl rfl ?_
      cases h
      exact z_iret rfl rfl d_ArraysSupport_hugeLength_59
    · rw [if_neg c2] at h
      refine z_ldc (v := 2147483639) wC_jdk_internal_util_ArraysSupport_200 d_ArraysSupport_hugeLength_55 ?_
      cases h
      exact z_iret rfl rfl d_ArraysSupport_hugeLength_57
  · rw [if_neg c1] at h
    cases h

def s_Arrays_copyOf2_24 (g : zG)  (v0 : Option Nat) (v1 : Int32) (v2 : Option Nat) (w0 : Option Nat) (σ : zS) : Option (Option Nat × zS) := (v0).bind fun a1 => (zal σ a1 10).bind fun x2 => (some (if v1 < x2 then v1 else x2)).bind fun x4 => (w0).bind fun a6 => (zcpR σ a1 a6 10 (0) (0) (x4)).bind fun σ7 => some (some (a6), σ7)
def s_Arrays_copyOf2 (g : zG) (v0 : Option Nat) (v1 : Int32) (v2 : Option Nat) (σ : zS) : Option (Option Nat × zS) := (g 10).bind fun a1 => if v2 = (some (a1)) then (zlen (v1)).bind fun n4 => (some (znew σ n4 (.inl (10, (n4, .inr (.inr (.inr (.inr (fun _ => none))))))))).bind fun σ6 => s_Arrays_copyOf2_24 g  (v0) (v1) (v2) (some (σ.1)) σ6 else none
set_option maxRecDepth 100000 in
theorem t_Arrays_copyOf2_24 {l : Launch} {D : zD} {g : zG} (hG : zGok g D) {q : Option Nat × zS}   {v0 : Option Nat} {v1 : Int32} {v2 : Option Nat} {w0 : Option Nat} {σ : zS} (h : s_Arrays_copyOf2_24 g  v0 v1 v2 w0 σ = some q) : Z l D K_Arrays_copyOf2 1 24 (.returned (some (va_rf q.1)), q.2) 24 [(0, va_rf (v0)), (1, .int (v1)), (2, va_rf (v2))] [va_rf (w0)] σ := by
  unfold s_Arrays_copyOf2_24 at h
  refine z_astore_nR (j := 3) (lv' := [(3, va_rf (w0)), (0, va_rf (v0)), (1, .int (v1)), (2, va_rf (v2))]) d_Arrays_copyOf2_24 rfl (by decide) (by simp [z_rfc, z_ci, z_cl, z_cr, z_cn] <;> rfl) ?_
  refine z_aload_nR 1 d_Arrays_copyOf2_25 rfl rfl ?_
  refine z_iconst (v := 0) d_Arrays_copyOf2_26 rfl ?_
  refine z_aload_nR 0 d_Arrays_copyOf2_27 rfl rfl ?_
  refine z_iconst (v := 0) d_Arrays_copyOf2_28 rfl ?_
  refine z_aload_nR 1 d_Arrays_copyOf2_29 rfl rfl ?_
  replace h := Option.bind_eq_some_iff.mp h; obtain ⟨a1, rfl, h⟩ := h
  replace h := Option.bind_eq_some_iff.mp h; obtain ⟨x2, e3, h⟩ := h
  refine z_alen (t := 10) rfl d_Arrays_copyOf2_30 e3 ?_
  refine z_iload_n 2 d_Arrays_copyOf2_31 rfl rfl ?_
  replace h := Option.bind_eq_some_iff.mp h; obtain ⟨x4, e5, h⟩ := h
  refine z_mmin (x := x2) (y := v1) wM_java_util_Arrays_304 wMs_min wMi wMc_min (by decide) (by simp [z_rfc, z_ci, z_cl, z_cr, z_cn]) d_Arrays_copyOf2_32 ?_
  rw [Option.some.inj e5]
  replace h := Option.bind_eq_some_iff.mp h; obtain ⟨a6, rfl, h⟩ := h
  replace h := Option.bind_eq_some_iff.mp h; obtain ⟨σ7, e8, h⟩ := h
  refine z_copyR wCp_java_util_Arrays_150 rfl (by decide) (by decide) d_Arrays_copyOf2_35 e8 ?_
  refine z_aload_n 0 d_Arrays_copyOf2_38 rfl rfl ?_
  cases h
  exact z_aret (r := some (a6)) rfl (Or.inr ⟨_, rfl⟩) rfl d_Arrays_copyOf2_39
set_option maxRecDepth 100000 in
theorem t_Arrays_copyOf2 {l : Launch} {D : zD} {g : zG} (hG : zGok g D) {v0 : Option Nat} {v1 : Int32} {v2 : Option Nat} {σ : zS} {q : Option Nat × zS} (h : s_Arrays_copyOf2 g v0 v1 v2 σ = some q) : zMet l D Y_Arrays_copyOf2 K_Arrays_copyOf2 1 24 [va_rf (v0), .int (v1), va_rf (v2)] σ (.returned (some (va_rf q.1)), q.2) := by
  refine zMet.ofZ (by decide) rfl (fun q => by cases q) (by simp [lg_sl, z_rfc, z_ci, z_cl, z_cr, z_cn]) ?_
  rw [show lv_args 0 ([va_rf (v0), .int (v1), va_rf (v2)] : List Value) = [(0, va_rf (v0)), (1, .int (v1)), (2, va_rf (v2))] from by simp [lv_args, z_rfc, z_ci, z_cl, z_cr, z_cn]]
  unfold s_Arrays_copyOf2 at h
  refine z_aload_nR 2 d_Arrays_copyOf2_0 rfl rfl ?_
  replace h := Option.bind_eq_some_iff.mp h; obtain ⟨a1, e2, h⟩ := h
  refine z_ldcM wL_java_util_Arrays_110 (zG_16 hG _ e2) d_Arrays_copyOf2_1 ?_
  refine z_acmp_ne (rx := v2) (ry := (some (a1))) (tgt := 13) d_Arrays_copyOf2_3 rfl (fun c3 => ?_) (fun c3 => ?_)
  · rw [if_neg c3] at h
    refine z_aload_nR 2 d_Arrays_copyOf2_13 rfl rfl ?_
    cases h
  · rw [if_pos c3] at h
    refine z_iload_n 1 d_Arrays_copyOf2_6 rfl rfl ?_
    replace h := Option.bind_eq_some_iff.mp h; obtain ⟨n4, e5, h⟩ := h
    replace h := Option.bind_eq_some_iff.mp h; obtain ⟨σ6, e7, h⟩ := h
    refine z_anewa (t := 10) (E := "java/lang/Object") rfl wAo_java_lang_Object wL_java_util_Arrays_2 d_Arrays_copyOf2_7 e5 ?_
    rw [Option.some.inj e7]
    refine z_goto (tgt := 24) d_Arrays_copyOf2_10 rfl ?_
    refine z_lv (lv' := [(0, va_rf (v0)), (1, .int (v1)), (2, va_rf (v2))]) [0, 1, 2] rfl ?_
    exact t_Arrays_copyOf2_24 hG   h

def s_Preconditions_checkIndex_9 (g : zG)  (v0 : Int32) (v1 : Int32) (v2 : Option Nat) (σ : zS) : Option (Int32 × zS) := none
def s_Preconditions_checkIndex (g : zG) (v0 : Int32) (v1 : Int32) (v2 : Option Nat) (σ : zS) : Option (Int32 × zS) := if v0 < 0 then s_Preconditions_checkIndex_9 g  (v0) (v1) (v2) σ else if v0 < v1 then some (v0, σ) else s_Preconditions_checkIndex_9 g  (v0) (v1) (v2) σ
set_option maxRecDepth 100000 in
theorem t_Preconditions_checkIndex_9 {l : Launch} {D : zD} {g : zG} (hG : zGok g D) {q : Int32 × zS}   {v0 : Int32} {v1 : Int32} {v2 : Option Nat} {σ : zS} (h : s_Preconditions_checkIndex_9 g  v0 v1 v2 σ = some q) : Z l D K_Preconditions_checkIndex 0 0 (.returned (some (.int q.1)), q.2) 9 [(0, .int (v0)), (1, .int (v1)), (2, va_rf (v2))] [] σ := by
  unfold s_Preconditions_checkIndex_9 at h
  refine z_aload_nR 2 d_Preconditions_checkIndex_9 rfl rfl ?_
  refine z_iload_n 0 d_Preconditions_checkIndex_10 rfl rfl ?_
  refine z_iload_n 1 d_Preconditions_checkIndex_11 rfl rfl ?_
  cases h
set_option maxRecDepth 100000 in
theorem t_Preconditions_checkIndex {l : Launch} {D : zD} {g : zG} (hG : zGok g D) {v0 : Int32} {v1 : Int32} {v2 : Option Nat} {σ : zS} {q : Int32 × zS} (h : s_Preconditions_checkIndex g v0 v1 v2 σ = some q) : zMet l D Y_Preconditions_checkIndex K_Preconditions_checkIndex 0 0 [.int (v0), .int (v1), va_rf (v2)] σ (.returned (some (.int q.1)), q.2) := by
  refine zMet.ofZ (by decide) rfl (fun q => by cases q) (by simp [lg_sl, z_rfc, z_ci, z_cl, z_cr, z_cn]) ?_
  rw [show lv_args 0 ([.int (v0), .int (v1), va_rf (v2)] : List Value) = [(0, .int (v0)), (1, .int (v1)), (2, va_rf (v2))] from by simp [lv_args, z_rfc, z_ci, z_cl, z_cr, z_cn]]
  unfold s_Preconditions_checkIndex at h
  refine z_iload_n 0 d_Preconditions_checkIndex_0 rfl rfl ?_
  refine z_if_lt (tgt := 9) d_Preconditions_checkIndex_1 rfl (fun c1 => ?_) (fun c1 => ?_)
  · rw [if_pos c1] at h
    refine z_lv (lv' := [(0, .int (v0)), (1, .int (v1)), (2, va_rf (v2))]) [0, 1, 2] rfl ?_
    exact t_Preconditions_checkIndex_9 hG   h
  · rw [if_neg c1] at h
    refine z_iload_n 0 d_Preconditions_checkIndex_4 rfl rfl ?_
    refine z_iload_n 1 d_Preconditions_checkIndex_5 rfl rfl ?_
    refine z_icmp_lt (tgt := 16) d_Preconditions_checkIndex_6 rfl (fun c2 => ?_) (fun c2 => ?_)
    · rw [if_pos c2] at h
      refine z_iload_n 0 d_Preconditions_checkIndex_16 rfl rfl ?_
      cases h
      exact z_iret rfl rfl d_Preconditions_checkIndex_17
    · rw [if_neg c2] at h
      refine z_lv (lv' := [(0, .int (v0)), (1, .int (v1)), (2, va_rf (v2))]) [0, 1, 2] rfl ?_
      exact t_Preconditions_checkIndex_9 hG   h

def s_ArrayList_fastRemove_34 (g : zG)  (v0 : Nat) (v1 : Option Nat) (v2 : Int32) (v3 : Int32) (σ : zS) : Option (zS) := (zpF σ v0 3 1 (.int (v3))).bind fun σ1 => (v1).bind fun a3 => (zsR σ1 a3 10 (v3) (none)).bind fun σ4 => some σ4
def s_ArrayList_fastRemove (g : zG) (v0 : Nat) (v1 : Option Nat) (v2 : Int32) (σ : zS) : Option (zS) := (zgI σ v0 3 2).bind fun x1 => (zpF σ v0 3 2 (.int (x1 + 1))).bind fun σ3 => (zgI σ3 v0 3 1).bind fun x5 => if (x5 - 1) ≤ v2 then s_ArrayList_fastRemove_34 g  (v0) (v1) (v2) (x5 - 1) σ3 else (v1).bind fun a8 => (zcpR σ3 a8 a8 10 (v2 + 1) (v2) ((x5 - 1) - v2)).bind fun σ9 => s_ArrayList_fastRemove_34 g  (v0) (some (a8)) (v2) (x5 - 1) σ9
set_option maxRecDepth 100000 in
theorem t_ArrayList_fastRemove_34 {l : Launch} {D : zD} {g : zG} (hG : zGok g D) {q : zS}   {v0 : Nat} {v1 : Option Nat} {v2 : Int32} {v3 : Int32} {σ : zS} (h : s_ArrayList_fastRemove_34 g  v0 v1 v2 v3 σ = some q) : Z l D K_ArrayList_fastRemove 1 24 (.returned none, q) 34 [(0, .ref (v0)), (1, va_rf (v1)), (2, .int (v2)), (3, .int (v3))] [] σ := by
  unfold s_ArrayList_fastRemove_34 at h
  refine z_aload_nR 1 d_ArrayList_fastRemove_34 rfl rfl ?_
  refine z_aload_n 0 d_ArrayList_fastRemove_35 rfl rfl ?_
  refine z_iload_n 3 d_ArrayList_fastRemove_36 rfl rfl ?_
  refine z_dup_x1 d_ArrayList_fastRemove_37 rfl rfl ?_
  replace h := Option.bind_eq_some_iff.mp h; obtain ⟨σ1, e2, h⟩ := h
  refine z_put wP_java_util_ArrayList_48_3 (fun q => by cases q) d_ArrayList_fastRemove_38 rfl rfl e2 ?_
  refine z_null d_ArrayList_fastRemove_41 ?_
  replace h := Option.bind_eq_some_iff.mp h; obtain ⟨a3, rfl, h⟩ := h
  replace h := Option.bind_eq_some_iff.mp h; obtain ⟨σ4, e5, h⟩ := h
  refine z_aastore (r := none) rfl d_ArrayList_fastRemove_42 e5 ?_
  cases h
  exact z_vret rfl rfl d_ArrayList_fastRemove_43
set_option maxRecDepth 100000 in
theorem t_ArrayList_fastRemove {l : Launch} {D : zD} {g : zG} (hG : zGok g D) {v0 : Nat} {v1 : Option Nat} {v2 : Int32} {σ : zS} {q : zS} (h : s_ArrayList_fastRemove g v0 v1 v2 σ = some q) : zMet l D Y_ArrayList_fastRemove K_ArrayList_fastRemove 1 24 [.ref (v0), va_rf (v1), .int (v2)] σ (.returned none, q) := by
  refine zMet.ofZ (by decide) rfl (fun q => by cases q) (by simp [lg_sl, z_rfc, z_ci, z_cl, z_cr, z_cn]) ?_
  rw [show lv_args 0 ([.ref (v0), va_rf (v1), .int (v2)] : List Value) = [(0, .ref (v0)), (1, va_rf (v1)), (2, .int (v2))] from by simp [lv_args, z_rfc, z_ci, z_cl, z_cr, z_cn]]
  unfold s_ArrayList_fastRemove at h
  refine z_aload_n 0 d_ArrayList_fastRemove_0 rfl rfl ?_
  refine z_dup d_ArrayList_fastRemove_1 rfl ?_
  replace h := Option.bind_eq_some_iff.mp h; obtain ⟨x1, e2, h⟩ := h
  refine z_getI wF_java_util_ArrayList_63_3 d_ArrayList_fastRemove_2 e2 ?_
  refine z_iconst (v := 1) d_ArrayList_fastRemove_5 rfl ?_
  refine z_iadd d_ArrayList_fastRemove_6 ?_
  replace h := Option.bind_eq_some_iff.mp h; obtain ⟨σ3, e4, h⟩ := h
  refine z_put wP_java_util_ArrayList_63_3 (fun q => by cases q) d_ArrayList_fastRemove_7 rfl rfl e4 ?_
  refine z_aload_n 0 d_ArrayList_fastRemove_10 rfl rfl ?_
  replace h := Option.bind_eq_some_iff.mp h; obtain ⟨x5, e6, h⟩ := h
  refine z_getI wF_java_util_ArrayList_48_3 d_ArrayList_fastRemove_11 e6 ?_
  refine z_iconst (v := 1) d_ArrayList_fastRemove_14 rfl ?_
  refine z_isub d_ArrayList_fastRemove_15 ?_
  refine z_dup d_ArrayList_fastRemove_16 rfl ?_
  refine z_istore_n (j := 3) (lv' := [(3, .int (x5 - 1)), (0, .ref (v0)), (1, va_rf (v1)), (2, .int (v2))]) d_ArrayList_fastRemove_17 rfl (by decide) rfl ?_
  refine z_iload_n 3 d_ArrayList_fastRemove_18 rfl rfl ?_
  refine z_icmp_le (tgt := 34) d_ArrayList_fastRemove_19 rfl (fun c7 => ?_) (fun c7 => ?_)
  · rw [if_pos c7] at h
    refine z_lv (lv' := [(0, .ref (v0)), (1, va_rf (v1)), (2, .int (v2)), (3, .int (x5 - 1))]) [1, 2, 3, 0] rfl ?_
    exact t_ArrayList_fastRemove_34 hG   h
  · rw [if_neg c7] at h
    refine z_aload_nR 2 d_ArrayList_fastRemove_22 rfl rfl ?_
    refine z_iload_n 3 d_ArrayList_fastRemove_23 rfl rfl ?_
    refine z_iconst (v := 1) d_ArrayList_fastRemove_24 rfl ?_
    refine z_iadd d_ArrayList_fastRemove_25 ?_
    refine z_aload_nR 2 d_ArrayList_fastRemove_26 rfl rfl ?_
    refine z_iload_n 3 d_ArrayList_fastRemove_27 rfl rfl ?_
    refine z_iload_n 0 d_ArrayList_fastRemove_28 rfl rfl ?_
    refine z_iload_n 3 d_ArrayList_fastRemove_29 rfl rfl ?_
    refine z_isub d_ArrayList_fastRemove_30 ?_
    replace h := Option.bind_eq_some_iff.mp h; obtain ⟨a8, rfl, h⟩ := h
    replace h := Option.bind_eq_some_iff.mp h; obtain ⟨σ9, e10, h⟩ := h
    refine z_copyR wCp_java_util_ArrayList_112 rfl (by decide) (by decide) d_ArrayList_fastRemove_31 e10 ?_
    refine z_lv (lv' := [(0, .ref (v0)), (1, va_rf (some (a8))), (2, .int (v2)), (3, .int (x5 - 1))]) [1, 2, 3, 0] rfl ?_
    exact t_ArrayList_fastRemove_34 hG   h

def s_ArrayList_elementData (g : zG) (v0 : Nat) (v1 : Int32) (σ : zS) : Option (Option Nat × zS) := (zgR σ v0 3 0).bind fun x1 => (x1).bind fun a3 => (zaR σ a3 10 (v1)).bind fun x4 => some (x4, σ)
set_option maxRecDepth 100000 in
theorem t_ArrayList_elementData {l : Launch} {D : zD} {g : zG} (hG : zGok g D) {v0 : Nat} {v1 : Int32} {σ : zS} {q : Option Nat × zS} (h : s_ArrayList_elementData g v0 v1 σ = some q) : zMet l D Y_ArrayList_elementData K_ArrayList_elementData 0 0 [.ref (v0), .int (v1)] σ (.returned (some (va_rf q.1)), q.2) := by
  refine zMet.ofZ (by decide) rfl (fun q => by cases q) (Nat.le_of_ble_eq_true rfl) ?_
  show Z _ _ _ _ _ _ 0 [(0, .ref (v0)), (1, .int (v1))] [] _
  unfold s_ArrayList_elementData at h
  refine z_aload_n 0 d_ArrayList_elementData_0 rfl rfl ?_
  replace h := Option.bind_eq_some_iff.mp h; obtain ⟨x1, e2, h⟩ := h
  refine z_getR wF_java_util_ArrayList_9_3 d_ArrayList_elementData_1 e2 ?_
  refine z_iload_n 1 d_ArrayList_elementData_4 rfl rfl ?_
  replace h := Option.bind_eq_some_iff.mp h; obtain ⟨a3, rfl, h⟩ := h
  replace h := Option.bind_eq_some_iff.mp h; obtain ⟨x4, e5, h⟩ := h
  refine z_aaload rfl d_ArrayList_elementData_5 e5 ?_
  cases h
  exact z_aret (r := x4) rfl (Or.inl ⟨_, rfl⟩) rfl d_ArrayList_elementData_6

def s_AbstractStringBuilder_init_38 (g : zG)  (v0 : Nat) (v1 : Int32) (σ : zS) : Option (zS) := some σ
def s_AbstractStringBuilder_init (g : zG) (v0 : Nat) (v1 : Int32) (σ : zS) : Option (zS) := (zlen (v1)).bind fun n2 => (some (znew σ n2 (.inl (2, (n2, .inl (fun _ => 0)))))).bind fun σ4 => (zpF σ4 v0 12 0 (.ref (σ.1))).bind fun σ6 => (zpF σ6 v0 12 1 (.int (0))).bind fun σ8 => s_AbstractStringBuilder_init_38 g  (v0) (v1) σ8
set_option maxRecDepth 100000 in
theorem t_AbstractStringBuilder_init_38 {l : Launch} {D : zD} {g : zG} (hG : zGok g D) {q : zS}   {v0 : Nat} {v1 : Int32} {σ : zS} (h : s_AbstractStringBuilder_init_38 g  v0 v1 σ = some q) : Z l D K_AbstractStringBuilder_init 1 12 (.returned none, q) 38 [(0, .ref (v0)), (1, .int (v1))] [] σ := by
  unfold s_AbstractStringBuilder_init_38 at h
  cases h
  exact z_vret rfl rfl d_AbstractStringBuilder_init_38
set_option maxRecDepth 100000 in
theorem t_AbstractStringBuilder_init {l : Launch} {D : zD} {g : zG} (hG : zGok g D) {v0 : Nat} {v1 : Int32} {σ : zS} {q : zS} (h : s_AbstractStringBuilder_init g v0 v1 σ = some q) : zMet l D Y_AbstractStringBuilder_init K_AbstractStringBuilder_init 1 12 [.ref (v0), .int (v1)] σ (.returned none, q) := by
  refine zMet.ofZ (by decide) rfl (fun q => rfl) (Nat.le_of_ble_eq_true rfl) ?_
  show Z _ _ _ _ _ _ 0 [(0, .ref (v0)), (1, .int (v1))] [] _
  unfold s_AbstractStringBuilder_init at h
  refine z_aload_n 0 d_AbstractStringBuilder_init_0 rfl rfl ?_
  refine z_objInit wO_java_lang_AbstractStringBuilder_3 wOi wOc (by decide) (by decide) d_AbstractStringBuilder_init_1 ?_
  refine z_gets (zG_0 hG) wG_java_lang_AbstractStringBuilder_18 (Or.inl rfl) d_AbstractStringBuilder_init_4 ?_
  refine z_if_eq (tgt := 25) d_AbstractStringBuilder_init_7 rfl (fun q => absurd q (by decide)) (fun _ => ?_)
  refine z_aload_n 0 d_AbstractStringBuilder_init_10 rfl rfl ?_
  refine z_iload_n 1 d_AbstractStringBuilder_init_11 rfl rfl ?_
  replace h := Option.bind_eq_some_iff.mp h; obtain ⟨n2, e3, h⟩ := h
  replace h := Option.bind_eq_some_iff.mp h; obtain ⟨σ4, e5, h⟩ := h
  refine z_newa (t := 2) (ty := .byte) (x := (n2, .inl (fun _ => 0))) rfl rfl wA_byte (fun _ => rfl) (by decide) d_AbstractStringBuilder_init_12 e3 ?_
  rw [Option.some.inj e5]
  replace h := Option.bind_eq_some_iff.mp h; obtain ⟨σ6, e7, h⟩ := h
  refine z_put wP_java_lang_AbstractStringBuilder_15_12 (fun _ => rfl) d_AbstractStringBuilder_init_14 rfl rfl e7 ?_
  refine z_aload_n 0 d_AbstractStringBuilder_init_17 rfl rfl ?_
  refine z_iconst (v := 0) d_AbstractStringBuilder_init_18 rfl ?_
  replace h := Option.bind_eq_some_iff.mp h; obtain ⟨σ8, e9, h⟩ := h
  refine z_put wP_java_lang_AbstractStringBuilder_22_12 (fun _ => rfl) d_AbstractStringBuilder_init_19 rfl rfl e9 ?_
  refine z_goto (tgt := 38) d_AbstractStringBuilder_init_22 rfl ?_
  refine z_lv (lv' := [(0, .ref (v0)), (1, .int (v1))]) [0, 1] rfl ?_
  exact t_AbstractStringBuilder_init_38 hG   h

def s_StringUTF16_newBytesLength (g : zG) (v0 : Int32) (σ : zS) : Option (Int32 × zS) := if 0 ≤ v0 then if v0 < 1073741823 then some (v0 <<< (1 &&& 31), σ) else none else none
set_option maxRecDepth 100000 in
theorem t_StringUTF16_newBytesLength {l : Launch} {D : zD} {g : zG} (hG : zGok g D) {v0 : Int32} {σ : zS} {q : Int32 × zS} (h : s_StringUTF16_newBytesLength g v0 σ = some q) : zMet l D Y_StringUTF16_newBytesLength K_StringUTF16_newBytesLength 0 0 [.int (v0)] σ (.returned (some (.int q.1)), q.2) := by
  refine zMet.ofZ (by decide) rfl (fun q => by cases q) (Nat.le_of_ble_eq_true rfl) ?_
  show Z _ _ _ _ _ _ 0 [(0, .int (v0))] [] _
  unfold s_StringUTF16_newBytesLength at h
  refine z_iload_n 0 d_StringUTF16_newBytesLength_0 rfl rfl ?_
  refine z_if_ge (tgt := 12) d_StringUTF16_newBytesLength_1 rfl (fun c1 => ?_) (fun c1 => ?_)
  · rw [if_pos c1] at h
    refine z_iload_n 0 d_StringUTF16_newBytesLength_12 rfl rfl ?_
    refine z_ldc (v := 1073741823) wC_java_lang_StringUTF16_20 d_StringUTF16_newBytesLength_13 ?_
    refine z_icmp_lt (tgt := 55) d_StringUTF16_newBytesLength_15 rfl (fun c2 => ?_) (fun c2 => ?_)
    · rw [if_pos c2] at h
      refine z_iload_n 0 d_StringUTF16_newBytesLength_55 rfl rfl ?_
      refine z_iconst (v := 1) d_StringUTF16_newBytesLength_56 rfl ?_
      refine z_ishl d_StringUTF16_newBytesLength_57 ?_
      cases h
      exact z_iret rfl rfl d_StringUTF16_newBytesLength_58
    · rw [if_neg c2] at h
      cases h
  · rw [if_neg c1] at h
    cases h

def s_Arrays_copyOf3 (g : zG) (v0 : Option Nat) (v1 : Int32) (σ : zS) : Option (Option Nat × zS) := (v0).bind fun a1 => (zal σ a1 2).bind fun x2 => if v1 = x2 then (zcl1 σ a1).bind fun σ15 => (zoa σ15 (σ.1) 2).bind fun _ => some (some (σ.1), σ15) else (zlen (v1)).bind fun n5 => (some (znew σ n5 (.inl (2, (n5, .inl (fun _ => 0)))))).bind fun σ7 => (zal σ7 a1 2).bind fun x9 => (some (if v1 < x9 then v1 else x9)).bind fun x11 => (zcpI σ7 .byte a1 (σ.1) 2 (0) (0) (x11)).bind fun σ13 => some (some (σ.1), σ13)
set_option maxRecDepth 100000 in
theorem t_Arrays_copyOf3 {l : Launch} {D : zD} {g : zG} (hG : zGok g D) {v0 : Option Nat} {v1 : Int32} {σ : zS} {q : Option Nat × zS} (h : s_Arrays_copyOf3 g v0 v1 σ = some q) : zMet l D Y_Arrays_copyOf3 K_Arrays_copyOf3 1 24 [va_rf (v0), .int (v1)] σ (.returned (some (va_rf q.1)), q.2) := by
  refine zMet.ofZ (by decide) rfl (fun q => by cases q) (by simp [lg_sl, z_rfc, z_ci, z_cl, z_cr, z_cn]) ?_
  rw [show lv_args 0 ([va_rf (v0), .int (v1)] : List Value) = [(0, va_rf (v0)), (1, .int (v1))] from by simp [lv_args, z_rfc, z_ci, z_cl, z_cr, z_cn]]
  unfold s_Arrays_copyOf3 at h
  refine z_iload_n 1 d_Arrays_copyOf3_0 rfl rfl ?_
  refine z_aload_nR 0 d_Arrays_copyOf3_1 rfl rfl ?_
  replace h := Option.bind_eq_some_iff.mp h; obtain ⟨a1, rfl, h⟩ := h
  replace h := Option.bind_eq_some_iff.mp h; obtain ⟨x2, e3, h⟩ := h
  refine z_alen (t := 2) rfl d_Arrays_copyOf3_2 e3 ?_
  refine z_icmp_ne (tgt := 14) d_Arrays_copyOf3_3 rfl (fun c4 => ?_) (fun c4 => ?_)
  · rw [if_neg c4] at h
    refine z_iload_n 1 d_Arrays_copyOf3_14 rfl rfl ?_
    replace h := Option.bind_eq_some_iff.mp h; obtain ⟨n5, e6, h⟩ := h
    replace h := Option.bind_eq_some_iff.mp h; obtain ⟨σ7, e8, h⟩ := h
    refine z_newa (t := 2) (ty := .byte) (x := (n5, .inl (fun _ => 0))) rfl rfl wA_byte (fun _ => rfl) (by decide) d_Arrays_copyOf3_15 e6 ?_
    rw [Option.some.inj e8]
    refine z_astore_n (j := 2) (lv' := [(2, .ref (σ.1)), (0, .ref (a1)), (1, .int (v1))]) d_Arrays_copyOf3_17 rfl (by decide) rfl ?_
    refine z_aload_n 1 d_Arrays_copyOf3_18 rfl rfl ?_
    refine z_iconst (v := 0) d_Arrays_copyOf3_19 rfl ?_
    refine z_aload_n 0 d_Arrays_copyOf3_20 rfl rfl ?_
    refine z_iconst (v := 0) d_Arrays_copyOf3_21 rfl ?_
    refine z_aload_n 1 d_Arrays_copyOf3_22 rfl rfl ?_
    replace h := Option.bind_eq_some_iff.mp h; obtain ⟨x9, e10, h⟩ := h
    refine z_alen (t := 2) rfl d_Arrays_copyOf3_23 e10 ?_
    refine z_iload_n 2 d_Arrays_copyOf3_24 rfl rfl ?_
    replace h := Option.bind_eq_some_iff.mp h; obtain ⟨x11, e12, h⟩ := h
    refine z_mmin (x := x9) (y := v1) wM_java_util_Arrays_304 wMs_min wMi wMc_min (by decide) (by simp [z_rfc, z_ci, z_cl, z_cr, z_cn]) d_Arrays_copyOf3_25 ?_
    rw [Option.some.inj e12]
    replace h := Option.bind_eq_some_iff.mp h; obtain ⟨σ13, e14, h⟩ := h
    refine z_copyI wCp_java_util_Arrays_150 rfl rfl (by decide) (by decide) d_Arrays_copyOf3_28 e14 ?_
    refine z_aload_n 0 d_Arrays_copyOf3_31 rfl rfl ?_
    cases h
    exact z_aret (r := some (σ.1)) rfl (Or.inr ⟨_, rfl⟩) rfl d_Arrays_copyOf3_32
  · rw [if_pos c4] at h
    refine z_aload_n 0 d_Arrays_copyOf3_6 rfl rfl ?_
    replace h := Option.bind_eq_some_iff.mp h; obtain ⟨σ15, e16, h⟩ := h
    refine z_cloneB wQ_java_util_Arrays_310 (by decide) (by simp [z_rfc, z_ci, z_cl, z_cr, z_cn]) d_Arrays_copyOf3_7 e16 ?_
    replace h := Option.bind_eq_some_iff.mp h; obtain ⟨_, e17, h⟩ := h
    refine z_castB wQk_java_util_Arrays_311 d_Arrays_copyOf3_10 e17 ?_
    cases h
    exact z_aret (r := some (σ.1)) rfl (Or.inr ⟨_, rfl⟩) rfl d_Arrays_copyOf3_13

def s_AbstractStringBuilder_isLatin1_18 (g : zG)  (v0 : Nat) (w0 : Int32) (σ : zS) : Option (Int32 × zS) := if w0 = 0 ∨ w0 = 1 then some (w0, σ) else none
def s_AbstractStringBuilder_isLatin1_17 (g : zG)  (v0 : Nat) (σ : zS) : Option (Int32 × zS) := s_AbstractStringBuilder_isLatin1_18 g  (v0) (0) σ
def s_AbstractStringBuilder_isLatin1 (g : zG) (v0 : Nat) (σ : zS) : Option (Int32 × zS) := (zgI σ v0 12 1).bind fun x2 => if x2 = 0 then s_AbstractStringBuilder_isLatin1_18 g  (v0) (1) σ else s_AbstractStringBuilder_isLatin1_17 g  (v0) σ
set_option maxRecDepth 100000 in
theorem t_AbstractStringBuilder_isLatin1_18 {l : Launch} {D : zD} {g : zG} (hG : zGok g D) {q : Int32 × zS}   {v0 : Nat} {w0 : Int32} {σ : zS} (h : s_AbstractStringBuilder_isLatin1_18 g  v0 w0 σ = some q) : Z l D K_AbstractStringBuilder_isLatin1 0 0 (.returned (some (.int q.1)), q.2) 18 [(0, .ref (v0))] [.int (w0)] σ := by
  unfold s_AbstractStringBuilder_isLatin1_18 at h
  by_cases c1 : w0 = 0 ∨ w0 = 1
  rotate_left
  · rw [if_neg c1] at h; cases h
  rw [if_pos c1] at h
  cases h
  exact z_zret rfl (z_nb c1) rfl d_AbstractStringBuilder_isLatin1_18
set_option maxRecDepth 100000 in
theorem t_AbstractStringBuilder_isLatin1_17 {l : Launch} {D : zD} {g : zG} (hG : zGok g D) {q : Int32 × zS}   {v0 : Nat} {σ : zS} (h : s_AbstractStringBuilder_isLatin1_17 g  v0 σ = some q) : Z l D K_AbstractStringBuilder_isLatin1 0 0 (.returned (some (.int q.1)), q.2) 17 [(0, .ref (v0))] [] σ := by
  unfold s_AbstractStringBuilder_isLatin1_17 at h
  refine z_iconst (v := 0) d_AbstractStringBuilder_isLatin1_17 rfl ?_
  refine z_lv (lv' := [(0, .ref (v0))]) [0] rfl ?_
  exact t_AbstractStringBuilder_isLatin1_18 hG   h
set_option maxRecDepth 100000 in
theorem t_AbstractStringBuilder_isLatin1 {l : Launch} {D : zD} {g : zG} (hG : zGok g D) {v0 : Nat} {σ : zS} {q : Int32 × zS} (h : s_AbstractStringBuilder_isLatin1 g v0 σ = some q) : zMet l D Y_AbstractStringBuilder_isLatin1 K_AbstractStringBuilder_isLatin1 0 0 [.ref (v0)] σ (.returned (some (.int q.1)), q.2) := by
  refine zMet.ofZ (by decide) rfl (fun q => by cases q) (Nat.le_of_ble_eq_true rfl) ?_
  show Z _ _ _ _ _ _ 0 [(0, .ref (v0))] [] _
  unfold s_AbstractStringBuilder_isLatin1 at h
  refine z_gets (zG_0 hG) wG_java_lang_AbstractStringBuilder_18 (Or.inl rfl) d_AbstractStringBuilder_isLatin1_0 ?_
  refine z_if_eq (tgt := 17) d_AbstractStringBuilder_isLatin1_3 rfl (fun q => absurd q (by decide)) (fun _ => ?_)
  refine z_aload_n 0 d_AbstractStringBuilder_isLatin1_6 rfl rfl ?_
  replace h := Option.bind_eq_some_iff.mp h; obtain ⟨x2, e3, h⟩ := h
  refine z_getI wF_java_lang_AbstractStringBuilder_22_12 d_AbstractStringBuilder_isLatin1_7 e3 ?_
  refine z_if_ne (tgt := 17) d_AbstractStringBuilder_isLatin1_10 rfl (fun c4 => ?_) (fun c4 => ?_)
  · rw [if_neg c4] at h
    refine z_lv (lv' := [(0, .ref (v0))]) [0] rfl ?_
    exact t_AbstractStringBuilder_isLatin1_17 hG   h
  · rw [if_pos c4] at h
    refine z_iconst (v := 1) d_AbstractStringBuilder_isLatin1_13 rfl ?_
    refine z_goto (tgt := 18) d_AbstractStringBuilder_isLatin1_14 rfl ?_
    refine z_lv (lv' := [(0, .ref (v0))]) [0] rfl ?_
    exact t_AbstractStringBuilder_isLatin1_18 hG   h

def s_StringLatin1_canEncode_12 (g : zG)  (v0 : Int32) (w0 : Int32) (σ : zS) : Option (Int32 × zS) := if w0 = 0 ∨ w0 = 1 then some (w0, σ) else none
def s_StringLatin1_canEncode (g : zG) (v0 : Int32) (σ : zS) : Option (Int32 × zS) := if 255 < v0 then s_StringLatin1_canEncode_12 g  (v0) (0) σ else s_StringLatin1_canEncode_12 g  (v0) (1) σ
set_option maxRecDepth 100000 in
theorem t_StringLatin1_canEncode_12 {l : Launch} {D : zD} {g : zG} (hG : zGok g D) {q : Int32 × zS}   {v0 : Int32} {w0 : Int32} {σ : zS} (h : s_StringLatin1_canEncode_12 g  v0 w0 σ = some q) : Z l D K_StringLatin1_canEncode 0 0 (.returned (some (.int q.1)), q.2) 12 [(0, .int (v0))] [.int (w0)] σ := by
  unfold s_StringLatin1_canEncode_12 at h
  by_cases c1 : w0 = 0 ∨ w0 = 1
  rotate_left
  · rw [if_neg c1] at h; cases h
  rw [if_pos c1] at h
  cases h
  exact z_zret rfl (z_nb c1) rfl d_StringLatin1_canEncode_12
set_option maxRecDepth 100000 in
theorem t_StringLatin1_canEncode {l : Launch} {D : zD} {g : zG} (hG : zGok g D) {v0 : Int32} {σ : zS} {q : Int32 × zS} (h : s_StringLatin1_canEncode g v0 σ = some q) : zMet l D Y_StringLatin1_canEncode K_StringLatin1_canEncode 0 0 [.int (v0)] σ (.returned (some (.int q.1)), q.2) := by
  refine zMet.ofZ (by decide) rfl (fun q => by cases q) (Nat.le_of_ble_eq_true rfl) ?_
  show Z _ _ _ _ _ _ 0 [(0, .int (v0))] [] _
  unfold s_StringLatin1_canEncode at h
  refine z_iload_n 0 d_StringLatin1_canEncode_0 rfl rfl ?_
  refine z_sipush (v := 255) d_StringLatin1_canEncode_1 rfl ?_
  refine z_icmp_gt (tgt := 11) d_StringLatin1_canEncode_4 rfl (fun c1 => ?_) (fun c1 => ?_)
  · rw [if_pos c1] at h
    refine z_iconst (v := 0) d_StringLatin1_canEncode_11 rfl ?_
    refine z_lv (lv' := [(0, .int (v0))]) [0] rfl ?_
    exact t_StringLatin1_canEncode_12 hG   h
  · rw [if_neg c1] at h
    refine z_iconst (v := 1) d_StringLatin1_canEncode_7 rfl ?_
    refine z_goto (tgt := 12) d_StringLatin1_canEncode_8 rfl ?_
    refine z_lv (lv' := [(0, .int (v0))]) [0] rfl ?_
    exact t_StringLatin1_canEncode_12 hG   h

def s_StringUTF16_length (g : zG) (v0 : Option Nat) (σ : zS) : Option (Int32 × zS) := (v0).bind fun a1 => (zal σ a1 2).bind fun x2 => some (x2 >>> (1 &&& 31), σ)
set_option maxRecDepth 100000 in
theorem t_StringUTF16_length {l : Launch} {D : zD} {g : zG} (hG : zGok g D) {v0 : Option Nat} {σ : zS} {q : Int32 × zS} (h : s_StringUTF16_length g v0 σ = some q) : zMet l D Y_StringUTF16_length K_StringUTF16_length 0 0 [va_rf (v0)] σ (.returned (some (.int q.1)), q.2) := by
  refine zMet.ofZ (by decide) rfl (fun q => by cases q) (by simp [lg_sl, z_rfc, z_ci, z_cl, z_cr, z_cn]) ?_
  rw [show lv_args 0 ([va_rf (v0)] : List Value) = [(0, va_rf (v0))] from by simp [lv_args, z_rfc, z_ci, z_cl, z_cr, z_cn]]
  unfold s_StringUTF16_length at h
  refine z_aload_nR 0 d_StringUTF16_length_0 rfl rfl ?_
  replace h := Option.bind_eq_some_iff.mp h; obtain ⟨a1, rfl, h⟩ := h
  replace h := Option.bind_eq_some_iff.mp h; obtain ⟨x2, e3, h⟩ := h
  refine z_alen (t := 2) rfl d_StringUTF16_length_1 e3 ?_
  refine z_iconst (v := 1) d_StringUTF16_length_2 rfl ?_
  refine z_ishr d_StringUTF16_length_3 ?_
  cases h
  exact z_iret rfl rfl d_StringUTF16_length_4

def s_Preconditions_checkFromIndexSize_15 (g : zG)  (v0 : Int32) (v1 : Int32) (v2 : Int32) (v3 : Option Nat) (σ : zS) : Option (Int32 × zS) := none
def s_Preconditions_checkFromIndexSize (g : zG) (v0 : Int32) (v1 : Int32) (v2 : Int32) (v3 : Option Nat) (σ : zS) : Option (Int32 × zS) := if ((v2 ||| v0) ||| v1) < 0 then s_Preconditions_checkFromIndexSize_15 g  (v0) (v1) (v2) (v3) σ else if v1 ≤ (v2 - v0) then some (v0, σ) else s_Preconditions_checkFromIndexSize_15 g  (v0) (v1) (v2) (v3) σ
set_option maxRecDepth 100000 in
theorem t_Preconditions_checkFromIndexSize_15 {l : Launch} {D : zD} {g : zG} (hG : zGok g D) {q : Int32 × zS}   {v0 : Int32} {v1 : Int32} {v2 : Int32} {v3 : Option Nat} {σ : zS} (h : s_Preconditions_checkFromIndexSize_15 g  v0 v1 v2 v3 σ = some q) : Z l D K_Preconditions_checkFromIndexSize 0 0 (.returned (some (.int q.1)), q.2) 15 [(0, .int (v0)), (1, .int (v1)), (2, .int (v2)), (3, va_rf (v3))] [] σ := by
  unfold s_Preconditions_checkFromIndexSize_15 at h
  refine z_aload_nR 3 d_Preconditions_checkFromIndexSize_15 rfl rfl ?_
  refine z_iload_n 0 d_Preconditions_checkFromIndexSize_16 rfl rfl ?_
  refine z_iload_n 1 d_Preconditions_checkFromIndexSize_17 rfl rfl ?_
  refine z_iload_n 2 d_Preconditions_checkFromIndexSize_18 rfl rfl ?_
  cases h
set_option maxRecDepth 100000 in
theorem t_Preconditions_checkFromIndexSize {l : Launch} {D : zD} {g : zG} (hG : zGok g D) {v0 : Int32} {v1 : Int32} {v2 : Int32} {v3 : Option Nat} {σ : zS} {q : Int32 × zS} (h : s_Preconditions_checkFromIndexSize g v0 v1 v2 v3 σ = some q) : zMet l D Y_Preconditions_checkFromIndexSize K_Preconditions_checkFromIndexSize 0 0 [.int (v0), .int (v1), .int (v2), va_rf (v3)] σ (.returned (some (.int q.1)), q.2) := by
  refine zMet.ofZ (by decide) rfl (fun q => by cases q) (by simp [lg_sl, z_rfc, z_ci, z_cl, z_cr, z_cn]) ?_
  rw [show lv_args 0 ([.int (v0), .int (v1), .int (v2), va_rf (v3)] : List Value) = [(0, .int (v0)), (1, .int (v1)), (2, .int (v2)), (3, va_rf (v3))] from by simp [lv_args, z_rfc, z_ci, z_cl, z_cr, z_cn]]
  unfold s_Preconditions_checkFromIndexSize at h
  refine z_iload_n 2 d_Preconditions_checkFromIndexSize_0 rfl rfl ?_
  refine z_iload_n 0 d_Preconditions_checkFromIndexSize_1 rfl rfl ?_
  refine z_ior d_Preconditions_checkFromIndexSize_2 ?_
  refine z_iload_n 1 d_Preconditions_checkFromIndexSize_3 rfl rfl ?_
  refine z_ior d_Preconditions_checkFromIndexSize_4 ?_
  refine z_if_lt (tgt := 15) d_Preconditions_checkFromIndexSize_5 rfl (fun c1 => ?_) (fun c1 => ?_)
  · rw [if_pos c1] at h
    refine z_lv (lv' := [(0, .int (v0)), (1, .int (v1)), (2, .int (v2)), (3, va_rf (v3))]) [0, 1, 2, 3] rfl ?_
    exact t_Preconditions_checkFromIndexSize_15 hG   h
  · rw [if_neg c1] at h
    refine z_iload_n 1 d_Preconditions_checkFromIndexSize_8 rfl rfl ?_
    refine z_iload_n 2 d_Preconditions_checkFromIndexSize_9 rfl rfl ?_
    refine z_iload_n 0 d_Preconditions_checkFromIndexSize_10 rfl rfl ?_
    refine z_isub d_Preconditions_checkFromIndexSize_11 ?_
    refine z_icmp_le (tgt := 23) d_Preconditions_checkFromIndexSize_12 rfl (fun c2 => ?_) (fun c2 => ?_)
    · rw [if_pos c2] at h
      refine z_iload_n 0 d_Preconditions_checkFromIndexSize_23 rfl rfl ?_
      cases h
      exact z_iret rfl rfl d_Preconditions_checkFromIndexSize_24
    · rw [if_neg c2] at h
      refine z_lv (lv' := [(0, .int (v0)), (1, .int (v1)), (2, .int (v2)), (3, va_rf (v3))]) [0, 1, 2, 3] rfl ?_
      exact t_Preconditions_checkFromIndexSize_15 hG   h

def s_StringUTF16_putChar_28 (g : zG)  (v0 : Option Nat) (v1 : Int32) (v2 : Int32) (σ : zS) : Option (zS) := (v0).bind fun a1 => (zsI σ a1 2 (v1 <<< (1 &&& 31)) (vp_nar .byte ((v2 >>> (0 &&& 31) : Int32).toInt8.toInt32))).bind fun σ2 => (zsI σ2 a1 2 ((v1 <<< (1 &&& 31)) + 1) (vp_nar .byte ((v2 >>> (8 &&& 31) : Int32).toInt8.toInt32))).bind fun σ4 => some σ4
def s_StringUTF16_putChar (g : zG) (v0 : Option Nat) (v1 : Int32) (v2 : Int32) (σ : zS) : Option (zS) := s_StringUTF16_putChar_28 g  (v0) (v1) (v2) σ
set_option maxRecDepth 100000 in
theorem t_StringUTF16_putChar_28 {l : Launch} {D : zD} {g : zG} (hG : zGok g D) {q : zS}   {v0 : Option Nat} {v1 : Int32} {v2 : Int32} {σ : zS} (h : s_StringUTF16_putChar_28 g  v0 v1 v2 σ = some q) : Z l D K_StringUTF16_putChar 0 0 (.returned none, q) 28 [(0, va_rf (v0)), (1, .int (v1)), (2, .int (v2))] [] σ := by
  unfold s_StringUTF16_putChar_28 at h
  refine z_iload_n 1 d_StringUTF16_putChar_28 rfl rfl ?_
  refine z_iconst (v := 1) d_StringUTF16_putChar_29 rfl ?_
  refine z_ishl d_StringUTF16_putChar_30 ?_
  refine z_istore_n (j := 1) (lv' := [(1, .int (v1 <<< (1 &&& 31))), (0, va_rf (v0)), (2, .int (v2))]) d_StringUTF16_putChar_31 rfl (by decide) (by simp [z_rfc, z_ci, z_cl, z_cr, z_cn] <;> rfl) ?_
  refine z_aload_nR 1 d_StringUTF16_putChar_32 rfl rfl ?_
  refine z_iload_n 0 d_StringUTF16_putChar_33 rfl rfl ?_
  refine z_iinc (v := (v1 <<< (1 &&& 31)) + 1) (lv' := [(1, .int ((v1 <<< (1 &&& 31)) + 1)), (0, va_rf (v0)), (2, .int (v2))]) 0 d_StringUTF16_putChar_34 rfl rfl (by decide) (by simp [z_rfc, z_ci, z_cl, z_cr, z_cn] <;> rfl) ?_
  refine z_iload_n 2 d_StringUTF16_putChar_37 rfl rfl ?_
  refine z_gets (zG_2 hG) wG_java_lang_StringUTF16_59 (Or.inl rfl) d_StringUTF16_putChar_38 ?_
  refine z_ishr d_StringUTF16_putChar_41 ?_
  refine z_i2b d_StringUTF16_putChar_42 ?_
  replace h := Option.bind_eq_some_iff.mp h; obtain ⟨a1, rfl, h⟩ := h
  replace h := Option.bind_eq_some_iff.mp h; obtain ⟨σ2, e3, h⟩ := h
  refine z_bastore rfl d_StringUTF16_putChar_43 e3 ?_
  refine z_aload_n 1 d_StringUTF16_putChar_44 rfl rfl ?_
  refine z_iload_n 0 d_StringUTF16_putChar_45 rfl rfl ?_
  refine z_iload_n 2 d_StringUTF16_putChar_46 rfl rfl ?_
  refine z_gets (zG_3 hG) wG_java_lang_StringUTF16_63 (Or.inl rfl) d_StringUTF16_putChar_47 ?_
  refine z_ishr d_StringUTF16_putChar_50 ?_
  refine z_i2b d_StringUTF16_putChar_51 ?_
  replace h := Option.bind_eq_some_iff.mp h; obtain ⟨σ4, e5, h⟩ := h
  refine z_bastore rfl d_StringUTF16_putChar_52 e5 ?_
  cases h
  exact z_vret rfl rfl d_StringUTF16_putChar_53
set_option maxRecDepth 100000 in
theorem t_StringUTF16_putChar {l : Launch} {D : zD} {g : zG} (hG : zGok g D) {v0 : Option Nat} {v1 : Int32} {v2 : Int32} {σ : zS} {q : zS} (h : s_StringUTF16_putChar g v0 v1 v2 σ = some q) : zMet l D Y_StringUTF16_putChar K_StringUTF16_putChar 0 0 [va_rf (v0), .int (v1), .int (v2)] σ (.returned none, q) := by
  refine zMet.ofZ (by decide) rfl (fun q => by cases q) (by simp [lg_sl, z_rfc, z_ci, z_cl, z_cr, z_cn]) ?_
  rw [show lv_args 0 ([va_rf (v0), .int (v1), .int (v2)] : List Value) = [(0, va_rf (v0)), (1, .int (v1)), (2, .int (v2))] from by simp [lv_args, z_rfc, z_ci, z_cl, z_cr, z_cn]]
  unfold s_StringUTF16_putChar at h
  refine z_gets (zG_1 hG) wG_java_lang_StringUTF16_44 (Or.inl rfl) d_StringUTF16_putChar_0 ?_
  refine z_if_ne (tgt := 28) d_StringUTF16_putChar_3 rfl (fun _ => ?_) (fun q => absurd q (by decide))
  refine z_lv (lv' := [(0, va_rf (v0)), (1, .int (v1)), (2, .int (v2))]) [0, 1, 2] rfl ?_
  exact t_StringUTF16_putChar_28 hG   h

def s_String_checkIndex (g : zG) (v0 : Int32) (v1 : Int32) (σ : zS) : Option (zS) := (some (g 3)).bind fun x1 => (s_Preconditions_checkIndex g v0 v1 x1 σ).bind fun (x5, σ3) => some σ3
set_option maxRecDepth 100000 in
theorem t_String_checkIndex {l : Launch} {D : zD} {g : zG} (hG : zGok g D) {v0 : Int32} {v1 : Int32} {σ : zS} {q : zS} (h : s_String_checkIndex g v0 v1 σ = some q) : zMet l D Y_String_checkIndex K_String_checkIndex 1 22 [.int (v0), .int (v1)] σ (.returned none, q) := by
  refine zMet.ofZ (by decide) rfl (fun q => by cases q) (Nat.le_of_ble_eq_true rfl) ?_
  show Z _ _ _ _ _ _ 0 [(0, .int (v0)), (1, .int (v1))] [] _
  unfold s_String_checkIndex at h
  refine z_iload_n 0 d_String_checkIndex_0 rfl rfl ?_
  refine z_iload_n 1 d_String_checkIndex_1 rfl rfl ?_
  replace h := Option.bind_eq_some_iff.mp h; obtain ⟨x1, e2, h⟩ := h
  refine z_gets (zG_7 hG) wG_java_lang_String_1053 (Or.inl rfl) d_String_checkIndex_2 ?_
  rw [Option.some.inj e2]
  replace h := Option.bind_eq_some_iff.mp h; obtain ⟨⟨x5, σ3⟩, e4, h⟩ := h
  dsimp only at h
  refine z_callS (av := [.int (v0), .int (v1), va_rf (x1)]) (st := []) wS_java_lang_String_1059 (t_Preconditions_checkIndex hG e4) (by decide) (by decide) d_String_checkIndex_5 (by simp [z_rfc, z_ci, z_cl, z_cr, z_cn]) ?_
  show Z _ _ _ _ _ _ 8 [(0, .int (v0)), (1, .int (v1))] [.int (x5)] _
  refine z_pop d_String_checkIndex_8 rfl ?_
  cases h
  exact z_vret rfl rfl d_String_checkIndex_9

def s_Preconditions_checkFromToIndex_14 (g : zG)  (v0 : Int32) (v1 : Int32) (v2 : Int32) (v3 : Option Nat) (σ : zS) : Option (Int32 × zS) := none
def s_Preconditions_checkFromToIndex (g : zG) (v0 : Int32) (v1 : Int32) (v2 : Int32) (v3 : Option Nat) (σ : zS) : Option (Int32 × zS) := if v0 < 0 then s_Preconditions_checkFromToIndex_14 g  (v0) (v1) (v2) (v3) σ else if v1 < v0 then s_Preconditions_checkFromToIndex_14 g  (v0) (v1) (v2) (v3) σ else if v1 ≤ v2 then some (v0, σ) else s_Preconditions_checkFromToIndex_14 g  (v0) (v1) (v2) (v3) σ
set_option maxRecDepth 100000 in
theorem t_Preconditions_checkFromToIndex_14 {l : Launch} {D : zD} {g : zG} (hG : zGok g D) {q : Int32 × zS}   {v0 : Int32} {v1 : Int32} {v2 : Int32} {v3 : Option Nat} {σ : zS} (h : s_Preconditions_checkFromToIndex_14 g  v0 v1 v2 v3 σ = some q) : Z l D K_Preconditions_checkFromToIndex 0 0 (.returned (some (.int q.1)), q.2) 14 [(0, .int (v0)), (1, .int (v1)), (2, .int (v2)), (3, va_rf (v3))] [] σ := by
  unfold s_Preconditions_checkFromToIndex_14 at h
  refine z_aload_nR 3 d_Preconditions_checkFromToIndex_14 rfl rfl ?_
  refine z_iload_n 0 d_Preconditions_checkFromToIndex_15 rfl rfl ?_
  refine z_iload_n 1 d_Preconditions_checkFromToIndex_16 rfl rfl ?_
  refine z_iload_n 2 d_Preconditions_checkFromToIndex_17 rfl rfl ?_
  cases h
set_option maxRecDepth 100000 in
theorem t_Preconditions_checkFromToIndex {l : Launch} {D : zD} {g : zG} (hG : zGok g D) {v0 : Int32} {v1 : Int32} {v2 : Int32} {v3 : Option Nat} {σ : zS} {q : Int32 × zS} (h : s_Preconditions_checkFromToIndex g v0 v1 v2 v3 σ = some q) : zMet l D Y_Preconditions_checkFromToIndex K_Preconditions_checkFromToIndex 0 0 [.int (v0), .int (v1), .int (v2), va_rf (v3)] σ (.returned (some (.int q.1)), q.2) := by
  refine zMet.ofZ (by decide) rfl (fun q => by cases q) (by simp [lg_sl, z_rfc, z_ci, z_cl, z_cr, z_cn]) ?_
  rw [show lv_args 0 ([.int (v0), .int (v1), .int (v2), va_rf (v3)] : List Value) = [(0, .int (v0)), (1, .int (v1)), (2, .int (v2)), (3, va_rf (v3))] from by simp [lv_args, z_rfc, z_ci, z_cl, z_cr, z_cn]]
  unfold s_Preconditions_checkFromToIndex at h
  refine z_iload_n 0 d_Preconditions_checkFromToIndex_0 rfl rfl ?_
  refine z_if_lt (tgt := 14) d_Preconditions_checkFromToIndex_1 rfl (fun c1 => ?_) (fun c1 => ?_)
  · rw [if_pos c1] at h
    refine z_lv (lv' := [(0, .int (v0)), (1, .int (v1)), (2, .int (v2)), (3, va_rf (v3))]) [0, 1, 2, 3] rfl ?_
    exact t_Preconditions_checkFromToIndex_14 hG   h
  · rw [if_neg c1] at h
    refine z_iload_n 0 d_Preconditions_checkFromToIndex_4 rfl rfl ?_
    refine z_iload_n 1 d_Preconditions_checkFromToIndex_5 rfl rfl ?_
    refine z_icmp_gt (tgt := 14) d_Preconditions_checkFromToIndex_6 rfl (fun c2 => ?_) (fun c2 => ?_)
    · rw [if_pos c2] at h
      refine z_lv (lv' := [(0, .int (v0)), (1, .int (v1)), (2, .int (v2)), (3, va_rf (v3))]) [0, 1, 2, 3] rfl ?_
      exact t_Preconditions_checkFromToIndex_14 hG   h
    · rw [if_neg c2] at h
      refine z_iload_n 1 d_Preconditions_checkFromToIndex_9 rfl rfl ?_
      refine z_iload_n 2 d_Preconditions_checkFromToIndex_10 rfl rfl ?_
      refine z_icmp_le (tgt := 22) d_Preconditions_checkFromToIndex_11 rfl (fun c3 => ?_) (fun c3 => ?_)
      · rw [if_pos c3] at h
        refine z_iload_n 0 d_Preconditions_checkFromToIndex_22 rfl rfl ?_
        cases h
        exact z_iret rfl rfl d_Preconditions_checkFromToIndex_23
      · rw [if_neg c3] at h
        refine z_lv (lv' := [(0, .int (v0)), (1, .int (v1)), (2, .int (v2)), (3, va_rf (v3))]) [0, 1, 2, 3] rfl ?_
        exact t_Preconditions_checkFromToIndex_14 hG   h

def s_String_coder_14 (g : zG)  (v0 : Nat) (w0 : Int32) (σ : zS) : Option (Int32 × zS) := if vp_nar .byte w0 = w0 then some (w0, σ) else none
def s_String_coder (g : zG) (v0 : Nat) (σ : zS) : Option (Int32 × zS) := (zgI σ v0 13 1).bind fun x2 => s_String_coder_14 g  (v0) (x2) σ
set_option maxRecDepth 100000 in
theorem t_String_coder_14 {l : Launch} {D : zD} {g : zG} (hG : zGok g D) {q : Int32 × zS}   {v0 : Nat} {w0 : Int32} {σ : zS} (h : s_String_coder_14 g  v0 w0 σ = some q) : Z l D K_String_coder 0 0 (.returned (some (.int q.1)), q.2) 14 [(0, .ref (v0))] [.int (w0)] σ := by
  unfold s_String_coder_14 at h
  by_cases c1 : vp_nar .byte w0 = w0
  rotate_left
  · rw [if_neg c1] at h; cases h
  rw [if_pos c1] at h
  cases h
  exact z_zret rfl (z_nb' c1) rfl d_String_coder_14
set_option maxRecDepth 100000 in
theorem t_String_coder {l : Launch} {D : zD} {g : zG} (hG : zGok g D) {v0 : Nat} {σ : zS} {q : Int32 × zS} (h : s_String_coder g v0 σ = some q) : zMet l D Y_String_coder K_String_coder 0 0 [.ref (v0)] σ (.returned (some (.int q.1)), q.2) := by
  refine zMet.ofZ (by decide) rfl (fun q => by cases q) (Nat.le_of_ble_eq_true rfl) ?_
  show Z _ _ _ _ _ _ 0 [(0, .ref (v0))] [] _
  unfold s_String_coder at h
  refine z_gets (zG_0 hG) wG_java_lang_String_38 (Or.inl rfl) d_String_coder_0 ?_
  refine z_if_eq (tgt := 13) d_String_coder_3 rfl (fun q => absurd q (by decide)) (fun _ => ?_)
  refine z_aload_n 0 d_String_coder_6 rfl rfl ?_
  replace h := Option.bind_eq_some_iff.mp h; obtain ⟨x2, e3, h⟩ := h
  refine z_getI wF_java_lang_String_15_13 d_String_coder_7 e3 ?_
  refine z_goto (tgt := 14) d_String_coder_10 rfl ?_
  refine z_lv (lv' := [(0, .ref (v0))]) [0] rfl ?_
  exact t_String_coder_14 hG   h

def s_AbstractStringBuilder_getValue (g : zG) (v0 : Nat) (σ : zS) : Option (Option Nat × zS) := (zgR σ v0 12 0).bind fun x1 => some (x1, σ)
set_option maxRecDepth 100000 in
theorem t_AbstractStringBuilder_getValue {l : Launch} {D : zD} {g : zG} (hG : zGok g D) {v0 : Nat} {σ : zS} {q : Option Nat × zS} (h : s_AbstractStringBuilder_getValue g v0 σ = some q) : zMet l D Y_AbstractStringBuilder_getValue K_AbstractStringBuilder_getValue 0 0 [.ref (v0)] σ (.returned (some (va_rf q.1)), q.2) := by
  refine zMet.ofZ (by decide) rfl (fun q => by cases q) (Nat.le_of_ble_eq_true rfl) ?_
  show Z _ _ _ _ _ _ 0 [(0, .ref (v0))] [] _
  unfold s_AbstractStringBuilder_getValue at h
  refine z_aload_n 0 d_AbstractStringBuilder_getValue_0 rfl rfl ?_
  replace h := Option.bind_eq_some_iff.mp h; obtain ⟨x1, e2, h⟩ := h
  refine z_getR wF_java_lang_AbstractStringBuilder_15_12 d_AbstractStringBuilder_getValue_1 e2 ?_
  cases h
  exact z_aret (r := x1) rfl (Or.inr ⟨_, rfl⟩) rfl d_AbstractStringBuilder_getValue_4

def s_AbstractStringBuilder_length (g : zG) (v0 : Nat) (σ : zS) : Option (Int32 × zS) := (zgI σ v0 12 3).bind fun x1 => some (x1, σ)
set_option maxRecDepth 100000 in
theorem t_AbstractStringBuilder_length {l : Launch} {D : zD} {g : zG} (hG : zGok g D) {v0 : Nat} {σ : zS} {q : Int32 × zS} (h : s_AbstractStringBuilder_length g v0 σ = some q) : zMet l D Y_AbstractStringBuilder_length K_AbstractStringBuilder_length 0 0 [.ref (v0)] σ (.returned (some (.int q.1)), q.2) := by
  refine zMet.ofZ (by decide) rfl (fun q => by cases q) (Nat.le_of_ble_eq_true rfl) ?_
  show Z _ _ _ _ _ _ 0 [(0, .ref (v0))] [] _
  unfold s_AbstractStringBuilder_length at h
  refine z_aload_n 0 d_AbstractStringBuilder_length_0 rfl rfl ?_
  replace h := Option.bind_eq_some_iff.mp h; obtain ⟨x1, e2, h⟩ := h
  refine z_getI wF_java_lang_AbstractStringBuilder_79_12 d_AbstractStringBuilder_length_1 e2 ?_
  cases h
  exact z_iret rfl rfl d_AbstractStringBuilder_length_4

def s_Arrays_checkLength (g : zG) (v0 : Int32) (v1 : Int32) (σ : zS) : Option (zS) := if v0 ≤ v1 then some σ else none
set_option maxRecDepth 100000 in
theorem t_Arrays_checkLength {l : Launch} {D : zD} {g : zG} (hG : zGok g D) {v0 : Int32} {v1 : Int32} {σ : zS} {q : zS} (h : s_Arrays_checkLength g v0 v1 σ = some q) : zMet l D Y_Arrays_checkLength K_Arrays_checkLength 0 0 [.int (v0), .int (v1)] σ (.returned none, q) := by
  refine zMet.ofZ (by decide) rfl (fun q => by cases q) (Nat.le_of_ble_eq_true rfl) ?_
  show Z _ _ _ _ _ _ 0 [(0, .int (v0)), (1, .int (v1))] [] _
  unfold s_Arrays_checkLength at h
  refine z_iload_n 1 d_Arrays_checkLength_0 rfl rfl ?_
  refine z_iload_n 0 d_Arrays_checkLength_1 rfl rfl ?_
  refine z_icmp_ge (tgt := 37) d_Arrays_checkLength_2 rfl (fun c1 => ?_) (fun c1 => ?_)
  · rw [if_pos c1] at h
    cases h
    exact z_vret rfl rfl d_Arrays_checkLength_37
  · rw [if_neg c1] at h
    cases h

def s_StringUTF16_getChar_28 (g : zG)  (v0 : Option Nat) (v1 : Int32) (σ : zS) : Option (Int32 × zS) := (v0).bind fun a1 => (zaI σ a1 2 (v1 <<< (1 &&& 31))).bind fun x2 => (zaI σ a1 2 ((v1 <<< (1 &&& 31)) + 1)).bind fun x4 => if vp_nar .char (((((x2 &&& 255) <<< (0 &&& 31)) ||| ((x4 &&& 255) <<< (8 &&& 31)) : Int32).toUInt32 % 65536).toInt32) = (((((x2 &&& 255) <<< (0 &&& 31)) ||| ((x4 &&& 255) <<< (8 &&& 31)) : Int32).toUInt32 % 65536).toInt32) then some (((((x2 &&& 255) <<< (0 &&& 31)) ||| ((x4 &&& 255) <<< (8 &&& 31)) : Int32).toUInt32 % 65536).toInt32, σ) else none
def s_StringUTF16_getChar (g : zG) (v0 : Option Nat) (v1 : Int32) (σ : zS) : Option (Int32 × zS) := s_StringUTF16_getChar_28 g  (v0) (v1) σ
set_option maxRecDepth 100000 in
theorem t_StringUTF16_getChar_28 {l : Launch} {D : zD} {g : zG} (hG : zGok g D) {q : Int32 × zS}   {v0 : Option Nat} {v1 : Int32} {σ : zS} (h : s_StringUTF16_getChar_28 g  v0 v1 σ = some q) : Z l D K_StringUTF16_getChar 0 0 (.returned (some (.int q.1)), q.2) 28 [(0, va_rf (v0)), (1, .int (v1))] [] σ := by
  unfold s_StringUTF16_getChar_28 at h
  refine z_iload_n 1 d_StringUTF16_getChar_28 rfl rfl ?_
  refine z_iconst (v := 1) d_StringUTF16_getChar_29 rfl ?_
  refine z_ishl d_StringUTF16_getChar_30 ?_
  refine z_istore_n (j := 1) (lv' := [(1, .int (v1 <<< (1 &&& 31))), (0, va_rf (v0))]) d_StringUTF16_getChar_31 rfl (by decide) (by simp [z_rfc, z_ci, z_cl, z_cr, z_cn] <;> rfl) ?_
  refine z_aload_nR 1 d_StringUTF16_getChar_32 rfl rfl ?_
  refine z_iload_n 0 d_StringUTF16_getChar_33 rfl rfl ?_
  refine z_iinc (v := (v1 <<< (1 &&& 31)) + 1) (lv' := [(1, .int ((v1 <<< (1 &&& 31)) + 1)), (0, va_rf (v0))]) 0 d_StringUTF16_getChar_34 rfl rfl (by decide) (by simp [z_rfc, z_ci, z_cl, z_cr, z_cn] <;> rfl) ?_
  replace h := Option.bind_eq_some_iff.mp h; obtain ⟨a1, rfl, h⟩ := h
  replace h := Option.bind_eq_some_iff.mp h; obtain ⟨x2, e3, h⟩ := h
  refine z_baload rfl d_StringUTF16_getChar_37 e3 ?_
  refine z_sipush (v := 255) d_StringUTF16_getChar_38 rfl ?_
  refine z_iand d_StringUTF16_getChar_41 ?_
  refine z_gets (zG_2 hG) wG_java_lang_StringUTF16_59 (Or.inl rfl) d_StringUTF16_getChar_42 ?_
  refine z_ishl d_StringUTF16_getChar_45 ?_
  refine z_aload_n 1 d_StringUTF16_getChar_46 rfl rfl ?_
  refine z_iload_n 0 d_StringUTF16_getChar_47 rfl rfl ?_
  replace h := Option.bind_eq_some_iff.mp h; obtain ⟨x4, e5, h⟩ := h
  refine z_baload rfl d_StringUTF16_getChar_48 e5 ?_
  refine z_sipush (v := 255) d_StringUTF16_getChar_49 rfl ?_
  refine z_iand d_StringUTF16_getChar_52 ?_
  refine z_gets (zG_3 hG) wG_java_lang_StringUTF16_63 (Or.inl rfl) d_StringUTF16_getChar_53 ?_
  refine z_ishl d_StringUTF16_getChar_56 ?_
  refine z_ior d_StringUTF16_getChar_57 ?_
  refine z_i2c d_StringUTF16_getChar_58 ?_
  by_cases c6 : vp_nar .char (((((x2 &&& 255) <<< (0 &&& 31)) ||| ((x4 &&& 255) <<< (8 &&& 31)) : Int32).toUInt32 % 65536).toInt32) = (((((x2 &&& 255) <<< (0 &&& 31)) ||| ((x4 &&& 255) <<< (8 &&& 31)) : Int32).toUInt32 % 65536).toInt32)
  rotate_left
  · rw [if_neg c6] at h; cases h
  rw [if_pos c6] at h
  cases h
  exact z_zret rfl (z_nc c6) rfl d_StringUTF16_getChar_59
set_option maxRecDepth 100000 in
theorem t_StringUTF16_getChar {l : Launch} {D : zD} {g : zG} (hG : zGok g D) {v0 : Option Nat} {v1 : Int32} {σ : zS} {q : Int32 × zS} (h : s_StringUTF16_getChar g v0 v1 σ = some q) : zMet l D Y_StringUTF16_getChar K_StringUTF16_getChar 0 0 [va_rf (v0), .int (v1)] σ (.returned (some (.int q.1)), q.2) := by
  refine zMet.ofZ (by decide) rfl (fun q => by cases q) (by simp [lg_sl, z_rfc, z_ci, z_cl, z_cr, z_cn]) ?_
  rw [show lv_args 0 ([va_rf (v0), .int (v1)] : List Value) = [(0, va_rf (v0)), (1, .int (v1))] from by simp [lv_args, z_rfc, z_ci, z_cl, z_cr, z_cn]]
  unfold s_StringUTF16_getChar at h
  refine z_gets (zG_1 hG) wG_java_lang_StringUTF16_44 (Or.inl rfl) d_StringUTF16_getChar_0 ?_
  refine z_if_ne (tgt := 28) d_StringUTF16_getChar_3 rfl (fun _ => ?_) (fun q => absurd q (by decide))
  refine z_lv (lv' := [(0, va_rf (v0)), (1, .int (v1))]) [0, 1] rfl ?_
  exact t_StringUTF16_getChar_28 hG   h

def s_StringUTF16_coderFromArrayLen (g : zG) (v0 : Option Nat) (v1 : Int32) (σ : zS) : Option (Int32 × zS) := (v0).bind fun a1 => (zal σ a1 2).bind fun x2 => if vp_nar .byte ((((v1 - x2 : Int32).toUInt32 >>> ((31 : Int32).toUInt32 &&& Int32.toUInt32 31)).toInt32 : Int32).toInt8.toInt32) = ((((v1 - x2 : Int32).toUInt32 >>> ((31 : Int32).toUInt32 &&& Int32.toUInt32 31)).toInt32 : Int32).toInt8.toInt32) then some ((((v1 - x2 : Int32).toUInt32 >>> ((31 : Int32).toUInt32 &&& Int32.toUInt32 31)).toInt32 : Int32).toInt8.toInt32, σ) else none
set_option maxRecDepth 100000 in
theorem t_StringUTF16_coderFromArrayLen {l : Launch} {D : zD} {g : zG} (hG : zGok g D) {v0 : Option Nat} {v1 : Int32} {σ : zS} {q : Int32 × zS} (h : s_StringUTF16_coderFromArrayLen g v0 v1 σ = some q) : zMet l D Y_StringUTF16_coderFromArrayLen K_StringUTF16_coderFromArrayLen 0 0 [va_rf (v0), .int (v1)] σ (.returned (some (.int q.1)), q.2) := by
  refine zMet.ofZ (by decide) rfl (fun q => by cases q) (by simp [lg_sl, z_rfc, z_ci, z_cl, z_cr, z_cn]) ?_
  rw [show lv_args 0 ([va_rf (v0), .int (v1)] : List Value) = [(0, va_rf (v0)), (1, .int (v1))] from by simp [lv_args, z_rfc, z_ci, z_cl, z_cr, z_cn]]
  unfold s_StringUTF16_coderFromArrayLen at h
  refine z_iload_n 1 d_StringUTF16_coderFromArrayLen_0 rfl rfl ?_
  refine z_aload_nR 0 d_StringUTF16_coderFromArrayLen_1 rfl rfl ?_
  replace h := Option.bind_eq_some_iff.mp h; obtain ⟨a1, rfl, h⟩ := h
  replace h := Option.bind_eq_some_iff.mp h; obtain ⟨x2, e3, h⟩ := h
  refine z_alen (t := 2) rfl d_StringUTF16_coderFromArrayLen_2 e3 ?_
  refine z_isub d_StringUTF16_coderFromArrayLen_3 ?_
  refine z_bipush (v := 31) d_StringUTF16_coderFromArrayLen_4 rfl ?_
  refine z_iushr d_StringUTF16_coderFromArrayLen_6 ?_
  refine z_i2b d_StringUTF16_coderFromArrayLen_7 ?_
  by_cases c4 : vp_nar .byte ((((v1 - x2 : Int32).toUInt32 >>> ((31 : Int32).toUInt32 &&& Int32.toUInt32 31)).toInt32 : Int32).toInt8.toInt32) = ((((v1 - x2 : Int32).toUInt32 >>> ((31 : Int32).toUInt32 &&& Int32.toUInt32 31)).toInt32 : Int32).toInt8.toInt32)
  rotate_left
  · rw [if_neg c4] at h; cases h
  rw [if_pos c4] at h
  cases h
  exact z_zret rfl (z_nb' c4) rfl d_StringUTF16_coderFromArrayLen_8

def s_String_isLatin1_18 (g : zG)  (v0 : Nat) (w0 : Int32) (σ : zS) : Option (Int32 × zS) := if w0 = 0 ∨ w0 = 1 then some (w0, σ) else none
def s_String_isLatin1_17 (g : zG)  (v0 : Nat) (σ : zS) : Option (Int32 × zS) := s_String_isLatin1_18 g  (v0) (0) σ
def s_String_isLatin1 (g : zG) (v0 : Nat) (σ : zS) : Option (Int32 × zS) := (zgI σ v0 13 1).bind fun x2 => if x2 = 0 then s_String_isLatin1_18 g  (v0) (1) σ else s_String_isLatin1_17 g  (v0) σ
set_option maxRecDepth 100000 in
theorem t_String_isLatin1_18 {l : Launch} {D : zD} {g : zG} (hG : zGok g D) {q : Int32 × zS}   {v0 : Nat} {w0 : Int32} {σ : zS} (h : s_String_isLatin1_18 g  v0 w0 σ = some q) : Z l D K_String_isLatin1 0 0 (.returned (some (.int q.1)), q.2) 18 [(0, .ref (v0))] [.int (w0)] σ := by
  unfold s_String_isLatin1_18 at h
  by_cases c1 : w0 = 0 ∨ w0 = 1
  rotate_left
  · rw [if_neg c1] at h; cases h
  rw [if_pos c1] at h
  cases h
  exact z_zret rfl (z_nb c1) rfl d_String_isLatin1_18
set_option maxRecDepth 100000 in
theorem t_String_isLatin1_17 {l : Launch} {D : zD} {g : zG} (hG : zGok g D) {q : Int32 × zS}   {v0 : Nat} {σ : zS} (h : s_String_isLatin1_17 g  v0 σ = some q) : Z l D K_String_isLatin1 0 0 (.returned (some (.int q.1)), q.2) 17 [(0, .ref (v0))] [] σ := by
  unfold s_String_isLatin1_17 at h
  refine z_iconst (v := 0) d_String_isLatin1_17 rfl ?_
  refine z_lv (lv' := [(0, .ref (v0))]) [0] rfl ?_
  exact t_String_isLatin1_18 hG   h
set_option maxRecDepth 100000 in
theorem t_String_isLatin1 {l : Launch} {D : zD} {g : zG} (hG : zGok g D) {v0 : Nat} {σ : zS} {q : Int32 × zS} (h : s_String_isLatin1 g v0 σ = some q) : zMet l D Y_String_isLatin1 K_String_isLatin1 0 0 [.ref (v0)] σ (.returned (some (.int q.1)), q.2) := by
  refine zMet.ofZ (by decide) rfl (fun q => by cases q) (Nat.le_of_ble_eq_true rfl) ?_
  show Z _ _ _ _ _ _ 0 [(0, .ref (v0))] [] _
  unfold s_String_isLatin1 at h
  refine z_gets (zG_0 hG) wG_java_lang_String_38 (Or.inl rfl) d_String_isLatin1_0 ?_
  refine z_if_eq (tgt := 17) d_String_isLatin1_3 rfl (fun q => absurd q (by decide)) (fun _ => ?_)
  refine z_aload_n 0 d_String_isLatin1_6 rfl rfl ?_
  replace h := Option.bind_eq_some_iff.mp h; obtain ⟨x2, e3, h⟩ := h
  refine z_getI wF_java_lang_String_15_13 d_String_isLatin1_7 e3 ?_
  refine z_if_ne (tgt := 17) d_String_isLatin1_10 rfl (fun c4 => ?_) (fun c4 => ?_)
  · rw [if_neg c4] at h
    refine z_lv (lv' := [(0, .ref (v0))]) [0] rfl ?_
    exact t_String_isLatin1_17 hG   h
  · rw [if_pos c4] at h
    refine z_iconst (v := 1) d_String_isLatin1_13 rfl ?_
    refine z_goto (tgt := 18) d_String_isLatin1_14 rfl ?_
    refine z_lv (lv' := [(0, .ref (v0))]) [0] rfl ?_
    exact t_String_isLatin1_18 hG   h

def s_StringLatin1_charAt (g : zG) (v0 : Option Nat) (v1 : Int32) (σ : zS) : Option (Int32 × zS) := (v0).bind fun a1 => (zal σ a1 2).bind fun x2 => (s_String_checkIndex g v1 x2 σ).bind fun σ4 => (zaI σ4 a1 2 (v1)).bind fun x7 => if vp_nar .char (((x7 &&& 255 : Int32).toUInt32 % 65536).toInt32) = (((x7 &&& 255 : Int32).toUInt32 % 65536).toInt32) then some (((x7 &&& 255 : Int32).toUInt32 % 65536).toInt32, σ4) else none
set_option maxRecDepth 100000 in
theorem t_StringLatin1_charAt {l : Launch} {D : zD} {g : zG} (hG : zGok g D) {v0 : Option Nat} {v1 : Int32} {σ : zS} {q : Int32 × zS} (h : s_StringLatin1_charAt g v0 v1 σ = some q) : zMet l D Y_StringLatin1_charAt K_StringLatin1_charAt 2 43 [va_rf (v0), .int (v1)] σ (.returned (some (.int q.1)), q.2) := by
  refine zMet.ofZ (by decide) rfl (fun q => by cases q) (by simp [lg_sl, z_rfc, z_ci, z_cl, z_cr, z_cn]) ?_
  rw [show lv_args 0 ([va_rf (v0), .int (v1)] : List Value) = [(0, va_rf (v0)), (1, .int (v1))] from by simp [lv_args, z_rfc, z_ci, z_cl, z_cr, z_cn]]
  unfold s_StringLatin1_charAt at h
  refine z_iload_n 1 d_StringLatin1_charAt_0 rfl rfl ?_
  refine z_aload_nR 0 d_StringLatin1_charAt_1 rfl rfl ?_
  replace h := Option.bind_eq_some_iff.mp h; obtain ⟨a1, rfl, h⟩ := h
  replace h := Option.bind_eq_some_iff.mp h; obtain ⟨x2, e3, h⟩ := h
  refine z_alen (t := 2) rfl d_StringLatin1_charAt_2 e3 ?_
  replace h := Option.bind_eq_some_iff.mp h; obtain ⟨σ4, e5, h⟩ := h
  refine z_callS (av := [.int (v1), .int (x2)]) (st := []) wS_java_lang_StringLatin1_9 (t_String_checkIndex hG e5) (by decide) (by decide) d_StringLatin1_charAt_3 (by simp [z_rfc, z_ci, z_cl, z_cr, z_cn]) ?_
  show Z _ _ _ _ _ _ 6 [(0, .ref (a1)), (1, .int (v1))] [] _
  refine z_aload_n 0 d_StringLatin1_charAt_6 rfl rfl ?_
  refine z_iload_n 1 d_StringLatin1_charAt_7 rfl rfl ?_
  replace h := Option.bind_eq_some_iff.mp h; obtain ⟨x7, e8, h⟩ := h
  refine z_baload rfl d_StringLatin1_charAt_8 e8 ?_
  refine z_sipush (v := 255) d_StringLatin1_charAt_9 rfl ?_
  refine z_iand d_StringLatin1_charAt_12 ?_
  refine z_i2c d_StringLatin1_charAt_13 ?_
  by_cases c9 : vp_nar .char (((x7 &&& 255 : Int32).toUInt32 % 65536).toInt32) = (((x7 &&& 255 : Int32).toUInt32 % 65536).toInt32)
  rotate_left
  · rw [if_neg c9] at h; cases h
  rw [if_pos c9] at h
  cases h
  exact z_zret rfl (z_nc c9) rfl d_StringLatin1_charAt_14

def s_AbstractList_init (g : zG) (v0 : Nat) (σ : zS) : Option (zS) := (s_AbstractCollection_init g v0  σ).bind fun σ1 => (zpF σ1 v0 3 2 (.int (0))).bind fun σ4 => some σ4
set_option maxRecDepth 100000 in
theorem t_AbstractList_init {l : Launch} {D : zD} {g : zG} (hG : zGok g D) {v0 : Nat} {σ : zS} {q : zS} (h : s_AbstractList_init g v0 σ = some q) : zMet l D Y_AbstractList_init K_AbstractList_init 2 32 [.ref (v0)] σ (.returned none, q) := by
  refine zMet.ofZ (by decide) rfl (fun q => rfl) (Nat.le_of_ble_eq_true rfl) ?_
  show Z _ _ _ _ _ _ 0 [(0, .ref (v0))] [] _
  unfold s_AbstractList_init at h
  refine z_aload_n 0 d_AbstractList_init_0 rfl rfl ?_
  replace h := Option.bind_eq_some_iff.mp h; obtain ⟨σ1, e2, h⟩ := h
  refine z_callI (av := []) (st := []) wI_java_util_AbstractList_1 (t_AbstractCollection_init hG e2) (by decide) (by decide) d_AbstractList_init_1 (by simp [z_rfc, z_ci, z_cl, z_cr, z_cn]) ?_
  show Z _ _ _ _ _ _ 4 [(0, .ref (v0))] [] _
  refine z_aload_n 0 d_AbstractList_init_4 rfl rfl ?_
  refine z_iconst (v := 0) d_AbstractList_init_5 rfl ?_
  replace h := Option.bind_eq_some_iff.mp h; obtain ⟨σ4, e5, h⟩ := h
  refine z_put wP_java_util_AbstractList_7_3 (fun _ => rfl) d_AbstractList_init_6 rfl rfl e5 ?_
  cases h
  exact z_vret rfl rfl d_AbstractList_init_9

def s_ArraysSupport_newLength_21 (g : zG)  (v0 : Int32) (v1 : Int32) (v2 : Int32) (v3 : Int32) (σ : zS) : Option (Int32 × zS) := (s_ArraysSupport_hugeLength g v0 v1 σ).bind fun (x3, σ1) => some (x3, σ1)
def s_ArraysSupport_newLength (g : zG) (v0 : Int32) (v1 : Int32) (v2 : Int32) (σ : zS) : Option (Int32 × zS) := (some (if v1 < v2 then v2 else v1)).bind fun x1 => if (v0 + x1) ≤ 0 then s_ArraysSupport_newLength_21 g  (v0) (v1) (v2) (v0 + x1) σ else if 2147483639 < (v0 + x1) then s_ArraysSupport_newLength_21 g  (v0) (v1) (v2) (v0 + x1) σ else some (v0 + x1, σ)
set_option maxRecDepth 100000 in
theorem t_ArraysSupport_newLength_21 {l : Launch} {D : zD} {g : zG} (hG : zGok g D) {q : Int32 × zS}   {v0 : Int32} {v1 : Int32} {v2 : Int32} {v3 : Int32} {σ : zS} (h : s_ArraysSupport_newLength_21 g  v0 v1 v2 v3 σ = some q) : Z l D K_ArraysSupport_newLength 1 22 (.returned (some (.int q.1)), q.2) 21 [(0, .int (v0)), (1, .int (v1)), (2, .int (v2)), (3, .int (v3))] [] σ := by
  unfold s_ArraysSupport_newLength_21 at h
  refine z_iload_n 0 d_ArraysSupport_newLength_21 rfl rfl ?_
  refine z_iload_n 1 d_ArraysSupport_newLength_22 rfl rfl ?_
  replace h := Option.bind_eq_some_iff.mp h; obtain ⟨⟨x3, σ1⟩, e2, h⟩ := h
  dsimp only at h
  refine z_callS (av := [.int (v0), .int (v1)]) (st := []) wS_jdk_internal_util_ArraysSupport_201 (t_ArraysSupport_hugeLength hG e2) (by decide) (by decide) d_ArraysSupport_newLength_23 (by simp [z_rfc, z_ci, z_cl, z_cr, z_cn]) ?_
  show Z _ _ _ _ _ _ 26 [(0, .int (v0)), (1, .int (v1)), (2, .int (v2)), (3, .int (v3))] [.int (x3)] _
  cases h
  exact z_iret rfl rfl d_ArraysSupport_newLength_26
set_option maxRecDepth 100000 in
theorem t_ArraysSupport_newLength {l : Launch} {D : zD} {g : zG} (hG : zGok g D) {v0 : Int32} {v1 : Int32} {v2 : Int32} {σ : zS} {q : Int32 × zS} (h : s_ArraysSupport_newLength g v0 v1 v2 σ = some q) : zMet l D Y_ArraysSupport_newLength K_ArraysSupport_newLength 1 22 [.int (v0), .int (v1), .int (v2)] σ (.returned (some (.int q.1)), q.2) := by
  refine zMet.ofZ (by decide) rfl (fun q => by cases q) (Nat.le_of_ble_eq_true rfl) ?_
  show Z _ _ _ _ _ _ 0 [(0, .int (v0)), (1, .int (v1)), (2, .int (v2))] [] _
  unfold s_ArraysSupport_newLength at h
  refine z_iload_n 0 d_ArraysSupport_newLength_0 rfl rfl ?_
  refine z_iload_n 1 d_ArraysSupport_newLength_1 rfl rfl ?_
  refine z_iload_n 2 d_ArraysSupport_newLength_2 rfl rfl ?_
  replace h := Option.bind_eq_some_iff.mp h; obtain ⟨x1, e2, h⟩ := h
  refine z_mmax (x := v1) (y := v2) wM_jdk_internal_util_ArraysSupport_194 wMs_max wMi wMc_max (by decide) (by simp [z_rfc, z_ci, z_cl, z_cr, z_cn]) d_ArraysSupport_newLength_3 ?_
  rw [Option.some.inj e2]
  refine z_iadd d_ArraysSupport_newLength_6 ?_
  refine z_istore_n (j := 3) (lv' := [(3, .int (v0 + x1)), (0, .int (v0)), (1, .int (v1)), (2, .int (v2))]) d_ArraysSupport_newLength_7 rfl (by decide) rfl ?_
  refine z_iconst (v := 0) d_ArraysSupport_newLength_8 rfl ?_
  refine z_iload_n 0 d_ArraysSupport_newLength_9 rfl rfl ?_
  refine z_icmp_ge (tgt := 21) d_ArraysSupport_newLength_10 rfl (fun c3 => ?_) (fun c3 => ?_)
  · rw [if_pos c3] at h
    refine z_lv (lv' := [(0, .int (v0)), (1, .int (v1)), (2, .int (v2)), (3, .int (v0 + x1))]) [1, 2, 3, 0] rfl ?_
    exact t_ArraysSupport_newLength_21 hG   h
  · rw [if_neg c3] at h
    refine z_iload_n 0 d_ArraysSupport_newLength_13 rfl rfl ?_
    refine z_ldc (v := 2147483639) wC_jdk_internal_util_ArraysSupport_200 d_ArraysSupport_newLength_14 ?_
    refine z_icmp_gt (tgt := 21) d_ArraysSupport_newLength_16 rfl (fun c4 => ?_) (fun c4 => ?_)
    · rw [if_pos c4] at h
      refine z_lv (lv' := [(0, .int (v0)), (1, .int (v1)), (2, .int (v2)), (3, .int (v0 + x1))]) [1, 2, 3, 0] rfl ?_
      exact t_ArraysSupport_newLength_21 hG   h
    · rw [if_neg c4] at h
      refine z_iload_n 0 d_ArraysSupport_newLength_19 rfl rfl ?_
      cases h
      exact z_iret rfl rfl d_ArraysSupport_newLength_20

def s_Arrays_copyOf (g : zG) (v0 : Option Nat) (v1 : Int32) (σ : zS) : Option (Option Nat × zS) := (v0).bind fun a1 => (zoa σ a1 10).bind fun _ => (g 10).bind fun a2 => (s_Arrays_copyOf2 g (some (a1)) v1 (some (a2)) σ).bind fun (x7, σ5) => some (x7, σ5)
set_option maxRecDepth 100000 in
theorem t_Arrays_copyOf {l : Launch} {D : zD} {g : zG} (hG : zGok g D) {v0 : Option Nat} {v1 : Int32} {σ : zS} {q : Option Nat × zS} (h : s_Arrays_copyOf g v0 v1 σ = some q) : zMet l D Y_Arrays_copyOf K_Arrays_copyOf 2 47 [va_rf (v0), .int (v1)] σ (.returned (some (va_rf q.1)), q.2) := by
  refine zMet.ofZ (by decide) rfl (fun q => by cases q) (by simp [lg_sl, z_rfc, z_ci, z_cl, z_cr, z_cn]) ?_
  rw [show lv_args 0 ([va_rf (v0), .int (v1)] : List Value) = [(0, va_rf (v0)), (1, .int (v1))] from by simp [lv_args, z_rfc, z_ci, z_cl, z_cr, z_cn]]
  unfold s_Arrays_copyOf at h
  refine z_aload_nR 0 d_Arrays_copyOf_0 rfl rfl ?_
  refine z_iload_n 1 d_Arrays_copyOf_1 rfl rfl ?_
  refine z_aload_nR 0 d_Arrays_copyOf_2 rfl rfl ?_
  replace h := Option.bind_eq_some_iff.mp h; obtain ⟨a1, rfl, h⟩ := h
  replace h := Option.bind_eq_some_iff.mp h; obtain ⟨_, e3, h⟩ := h
  replace h := Option.bind_eq_some_iff.mp h; obtain ⟨a2, e4, h⟩ := h
  refine z_getC (E := "java/lang/Object") wX_java_util_Arrays_86 rfl (by decide +kernel) (zG_16 hG _ e4) e3 (by decide) (by simp [z_rfc, z_ci, z_cl, z_cr, z_cn]) d_Arrays_copyOf_3 ?_
  replace h := Option.bind_eq_some_iff.mp h; obtain ⟨⟨x7, σ5⟩, e6, h⟩ := h
  dsimp only at h
  refine z_callS (av := [va_rf (some (a1)), .int (v1), va_rf (some (a2))]) (st := []) wS_java_util_Arrays_300 (t_Arrays_copyOf2 hG e6) (by decide) (by decide) d_Arrays_copyOf_6 (by simp [z_rfc, z_ci, z_cl, z_cr, z_cn]) ?_
  show Z _ _ _ _ _ _ 9 [(0, .ref (a1)), (1, .int (v1))] [va_rf (x7)] _
  cases h
  exact z_aret (r := x7) rfl (Or.inr ⟨_, rfl⟩) rfl d_Arrays_copyOf_9

def s_Objects_checkIndex (g : zG) (v0 : Int32) (v1 : Int32) (σ : zS) : Option (Int32 × zS) := (s_Preconditions_checkIndex g v0 v1 none σ).bind fun (x3, σ1) => some (x3, σ1)
set_option maxRecDepth 100000 in
theorem t_Objects_checkIndex {l : Launch} {D : zD} {g : zG} (hG : zGok g D) {v0 : Int32} {v1 : Int32} {σ : zS} {q : Int32 × zS} (h : s_Objects_checkIndex g v0 v1 σ = some q) : zMet l D Y_Objects_checkIndex K_Objects_checkIndex 1 22 [.int (v0), .int (v1)] σ (.returned (some (.int q.1)), q.2) := by
  refine zMet.ofZ (by decide) rfl (fun q => by cases q) (Nat.le_of_ble_eq_true rfl) ?_
  show Z _ _ _ _ _ _ 0 [(0, .int (v0)), (1, .int (v1))] [] _
  unfold s_Objects_checkIndex at h
  refine z_iload_n 0 d_Objects_checkIndex_0 rfl rfl ?_
  refine z_iload_n 1 d_Objects_checkIndex_1 rfl rfl ?_
  refine z_null d_Objects_checkIndex_2 ?_
  replace h := Option.bind_eq_some_iff.mp h; obtain ⟨⟨x3, σ1⟩, e2, h⟩ := h
  dsimp only at h
  refine z_callS (av := [.int (v0), .int (v1), va_rf (none)]) (st := []) wS_java_util_Objects_105 (t_Preconditions_checkIndex hG e2) (by decide) (by decide) d_Objects_checkIndex_3 (by simp [z_rfc, z_ci, z_cl, z_cr, z_cn]) ?_
  show Z _ _ _ _ _ _ 6 [(0, .int (v0)), (1, .int (v1))] [.int (x3)] _
  cases h
  exact z_iret rfl rfl d_Objects_checkIndex_6

def s_ArrayList_get (g : zG) (v0 : Nat) (v1 : Int32) (σ : zS) : Option (Option Nat × zS) := (zgI σ v0 3 1).bind fun x1 => (s_Objects_checkIndex g v1 x1 σ).bind fun (x5, σ3) => (zis σ3 v0 3).bind fun _ => (s_ArrayList_elementData g v0 v1 σ3).bind fun (x8, σ6) => some (x8, σ6)
set_option maxRecDepth 100000 in
theorem t_ArrayList_get {l : Launch} {D : zD} {g : zG} (hG : zGok g D) {v0 : Nat} {v1 : Int32} {σ : zS} {q : Option Nat × zS} (h : s_ArrayList_get g v0 v1 σ = some q) : zMet l D Y_ArrayList_get K_ArrayList_get 2 43 [.ref (v0), .int (v1)] σ (.returned (some (va_rf q.1)), q.2) := by
  refine zMet.ofZ (by decide) rfl (fun q => by cases q) (Nat.le_of_ble_eq_true rfl) ?_
  show Z _ _ _ _ _ _ 0 [(0, .ref (v0)), (1, .int (v1))] [] _
  unfold s_ArrayList_get at h
  refine z_iload_n 1 d_ArrayList_get_0 rfl rfl ?_
  refine z_aload_n 0 d_ArrayList_get_1 rfl rfl ?_
  replace h := Option.bind_eq_some_iff.mp h; obtain ⟨x1, e2, h⟩ := h
  refine z_getI wF_java_util_ArrayList_48_3 d_ArrayList_get_2 e2 ?_
  replace h := Option.bind_eq_some_iff.mp h; obtain ⟨⟨x5, σ3⟩, e4, h⟩ := h
  dsimp only at h
  refine z_callS (av := [.int (v1), .int (x1)]) (st := []) wS_java_util_ArrayList_118 (t_Objects_checkIndex hG e4) (by decide) (by decide) d_ArrayList_get_5 (by simp [z_rfc, z_ci, z_cl, z_cr, z_cn]) ?_
  show Z _ _ _ _ _ _ 8 [(0, .ref (v0)), (1, .int (v1))] [.int (x5)] _
  refine z_pop d_ArrayList_get_8 rfl ?_
  refine z_aload_n 0 d_ArrayList_get_9 rfl rfl ?_
  refine z_iload_n 1 d_ArrayList_get_10 rfl rfl ?_
  replace h := Option.bind_eq_some_iff.mp h; obtain ⟨_, e9, h⟩ := h
  obtain ⟨b10, f11, e9⟩ := zcls_at (zis_at e9)
  replace h := Option.bind_eq_some_iff.mp h; obtain ⟨⟨x8, σ6⟩, e7, h⟩ := h
  dsimp only at h
  refine z_callV (av := [.int (v1)]) (st := []) wV_java_util_ArrayList_123 e9 (t_ArrayList_elementData hG e7) (by decide) (by decide) d_ArrayList_get_11 (by simp [z_rfc, z_ci, z_cl, z_cr, z_cn]) ?_
  show Z _ _ _ _ _ _ 14 [(0, .ref (v0)), (1, .int (v1))] [va_rf (x8)] _
  cases h
  exact z_aret (r := x8) rfl (Or.inl ⟨_, rfl⟩) rfl d_ArrayList_get_14

def s_StringBuilder_init (g : zG) (v0 : Nat) (σ : zS) : Option (zS) := (s_AbstractStringBuilder_init g v0 16 σ).bind fun σ1 => some σ1
set_option maxRecDepth 100000 in
theorem t_StringBuilder_init {l : Launch} {D : zD} {g : zG} (hG : zGok g D) {v0 : Nat} {σ : zS} {q : zS} (h : s_StringBuilder_init g v0 σ = some q) : zMet l D Y_StringBuilder_init K_StringBuilder_init 2 33 [.ref (v0)] σ (.returned none, q) := by
  refine zMet.ofZ (by decide) rfl (fun q => rfl) (Nat.le_of_ble_eq_true rfl) ?_
  show Z _ _ _ _ _ _ 0 [(0, .ref (v0))] [] _
  unfold s_StringBuilder_init at h
  refine z_aload_n 0 d_StringBuilder_init_0 rfl rfl ?_
  refine z_bipush (v := 16) d_StringBuilder_init_1 rfl ?_
  replace h := Option.bind_eq_some_iff.mp h; obtain ⟨σ1, e2, h⟩ := h
  refine z_callI (av := [.int (16)]) (st := []) wI_java_lang_StringBuilder_1 (t_AbstractStringBuilder_init hG e2) (by decide) (by decide) d_StringBuilder_init_3 (by simp [z_rfc, z_ci, z_cl, z_cr, z_cn]) ?_
  show Z _ _ _ _ _ _ 6 [(0, .ref (v0))] [] _
  cases h
  exact z_vret rfl rfl d_StringBuilder_init_6

def s_StringUTF16_newBytesFor (g : zG) (v0 : Int32) (σ : zS) : Option (Option Nat × zS) := (s_StringUTF16_newBytesLength g v0 σ).bind fun (x3, σ1) => (zlen (x3)).bind fun n4 => (some (znew σ1 n4 (.inl (2, (n4, .inl (fun _ => 0)))))).bind fun σ6 => some (some (σ1.1), σ6)
set_option maxRecDepth 100000 in
theorem t_StringUTF16_newBytesFor {l : Launch} {D : zD} {g : zG} (hG : zGok g D) {v0 : Int32} {σ : zS} {q : Option Nat × zS} (h : s_StringUTF16_newBytesFor g v0 σ = some q) : zMet l D Y_StringUTF16_newBytesFor K_StringUTF16_newBytesFor 1 20 [.int (v0)] σ (.returned (some (va_rf q.1)), q.2) := by
  refine zMet.ofZ (by decide) rfl (fun q => by cases q) (Nat.le_of_ble_eq_true rfl) ?_
  show Z _ _ _ _ _ _ 0 [(0, .int (v0))] [] _
  unfold s_StringUTF16_newBytesFor at h
  refine z_iload_n 0 d_StringUTF16_newBytesFor_0 rfl rfl ?_
  replace h := Option.bind_eq_some_iff.mp h; obtain ⟨⟨x3, σ1⟩, e2, h⟩ := h
  dsimp only at h
  refine z_callS (av := [.int (v0)]) (st := []) wS_java_lang_StringUTF16_11 (t_StringUTF16_newBytesLength hG e2) (by decide) (by decide) d_StringUTF16_newBytesFor_1 (by simp [z_rfc, z_ci, z_cl, z_cr, z_cn]) ?_
  show Z _ _ _ _ _ _ 4 [(0, .int (v0))] [.int (x3)] _
  replace h := Option.bind_eq_some_iff.mp h; obtain ⟨n4, e5, h⟩ := h
  replace h := Option.bind_eq_some_iff.mp h; obtain ⟨σ6, e7, h⟩ := h
  refine z_newa (t := 2) (ty := .byte) (x := (n4, .inl (fun _ => 0))) rfl rfl wA_byte (fun _ => rfl) (by decide) d_StringUTF16_newBytesFor_4 e5 ?_
  rw [Option.some.inj e7]
  cases h
  exact z_aret (r := some (σ1.1)) rfl (Or.inr ⟨_, rfl⟩) rfl d_StringUTF16_newBytesFor_6

def s_AbstractStringBuilder_newCapacity (g : zG) (v0 : Nat) (v1 : Int32) (σ : zS) : Option (Int32 × zS) := (zgR σ v0 12 0).bind fun x1 => (x1).bind fun a3 => (zal σ a3 2).bind fun x4 => (zgI σ v0 12 1).bind fun x6 => (zgI σ v0 12 1).bind fun x8 => (s_ArraysSupport_newLength g x4 ((v1 <<< (x6 &&& 31)) - x4) (x4 + (2 <<< (x8 &&& 31))) σ).bind fun (x12, σ10) => if x12 = 2147483647 then none else (zgI σ10 v0 12 1).bind fun x14 => some (x12 >>> (x14 &&& 31), σ10)
set_option maxRecDepth 100000 in
theorem t_AbstractStringBuilder_newCapacity {l : Launch} {D : zD} {g : zG} (hG : zGok g D) {v0 : Nat} {v1 : Int32} {σ : zS} {q : Int32 × zS} (h : s_AbstractStringBuilder_newCapacity g v0 v1 σ = some q) : zMet l D Y_AbstractStringBuilder_newCapacity K_AbstractStringBuilder_newCapacity 2 45 [.ref (v0), .int (v1)] σ (.returned (some (.int q.1)), q.2) := by
  refine zMet.ofZ (by decide) rfl (fun q => by cases q) (Nat.le_of_ble_eq_true rfl) ?_
  show Z _ _ _ _ _ _ 0 [(0, .ref (v0)), (1, .int (v1))] [] _
  unfold s_AbstractStringBuilder_newCapacity at h
  refine z_aload_n 0 d_AbstractStringBuilder_newCapacity_0 rfl rfl ?_
  replace h := Option.bind_eq_some_iff.mp h; obtain ⟨x1, e2, h⟩ := h
  refine z_getR wF_java_lang_AbstractStringBuilder_15_12 d_AbstractStringBuilder_newCapacity_1 e2 ?_
  replace h := Option.bind_eq_some_iff.mp h; obtain ⟨a3, rfl, h⟩ := h
  replace h := Option.bind_eq_some_iff.mp h; obtain ⟨x4, e5, h⟩ := h
  refine z_alen (t := 2) rfl d_AbstractStringBuilder_newCapacity_4 e5 ?_
  refine z_istore_n (j := 2) (lv' := [(2, .int (x4)), (0, .ref (v0)), (1, .int (v1))]) d_AbstractStringBuilder_newCapacity_5 rfl (by decide) rfl ?_
  refine z_iload_n 2 d_AbstractStringBuilder_newCapacity_6 rfl rfl ?_
  refine z_aload_n 1 d_AbstractStringBuilder_newCapacity_7 rfl rfl ?_
  replace h := Option.bind_eq_some_iff.mp h; obtain ⟨x6, e7, h⟩ := h
  refine z_getI wF_java_lang_AbstractStringBuilder_22_12 d_AbstractStringBuilder_newCapacity_8 e7 ?_
  refine z_ishl d_AbstractStringBuilder_newCapacity_11 ?_
  refine z_istore_n (j := 3) (lv' := [(3, .int (v1 <<< (x6 &&& 31))), (2, .int (x4)), (0, .ref (v0)), (1, .int (v1))]) d_AbstractStringBuilder_newCapacity_12 rfl (by decide) rfl ?_
  refine z_iload_n 0 d_AbstractStringBuilder_newCapacity_13 rfl rfl ?_
  refine z_iload_n 1 d_AbstractStringBuilder_newCapacity_14 rfl rfl ?_
  refine z_isub d_AbstractStringBuilder_newCapacity_15 ?_
  refine z_istore (j := 4) (lv' := [(4, .int ((v1 <<< (x6 &&& 31)) - x4)), (3, .int (v1 <<< (x6 &&& 31))), (2, .int (x4)), (0, .ref (v0)), (1, .int (v1))]) d_AbstractStringBuilder_newCapacity_16 (by decide) rfl ?_
  refine z_iload_n 2 d_AbstractStringBuilder_newCapacity_18 rfl rfl ?_
  refine z_iload 0 d_AbstractStringBuilder_newCapacity_19 rfl ?_
  refine z_iload_n 2 d_AbstractStringBuilder_newCapacity_21 rfl rfl ?_
  refine z_iconst (v := 2) d_AbstractStringBuilder_newCapacity_22 rfl ?_
  refine z_aload_n 3 d_AbstractStringBuilder_newCapacity_23 rfl rfl ?_
  replace h := Option.bind_eq_some_iff.mp h; obtain ⟨x8, e9, h⟩ := h
  refine z_getI wF_java_lang_AbstractStringBuilder_22_12 d_AbstractStringBuilder_newCapacity_24 e9 ?_
  refine z_ishl d_AbstractStringBuilder_newCapacity_27 ?_
  refine z_iadd d_AbstractStringBuilder_newCapacity_28 ?_
  replace h := Option.bind_eq_some_iff.mp h; obtain ⟨⟨x12, σ10⟩, e11, h⟩ := h
  dsimp only at h
  refine z_callS (av := [.int (x4), .int ((v1 <<< (x6 &&& 31)) - x4), .int (x4 + (2 <<< (x8 &&& 31)))]) (st := []) wS_java_lang_AbstractStringBuilder_114 (t_ArraysSupport_newLength hG e11) (by decide) (by decide) d_AbstractStringBuilder_newCapacity_29 (by simp [z_rfc, z_ci, z_cl, z_cr, z_cn]) ?_
  show Z _ _ _ _ _ _ 32 [(4, .int ((v1 <<< (x6 &&& 31)) - x4)), (3, .int (v1 <<< (x6 &&& 31))), (2, .int (x4)), (0, .ref (v0)), (1, .int (v1))] [.int (x12)] _
  refine z_istore (j := 5) (lv' := [(5, .int (x12)), (4, .int ((v1 <<< (x6 &&& 31)) - x4)), (3, .int (v1 <<< (x6 &&& 31))), (2, .int (x4)), (0, .ref (v0)), (1, .int (v1))]) d_AbstractStringBuilder_newCapacity_32 (by decide) rfl ?_
  refine z_iload 0 d_AbstractStringBuilder_newCapacity_34 rfl ?_
  refine z_ldc (v := 2147483647) wC_java_lang_AbstractStringBuilder_39 d_AbstractStringBuilder_newCapacity_36 ?_
  refine z_icmp_ne (tgt := 51) d_AbstractStringBuilder_newCapacity_38 rfl (fun c13 => ?_) (fun c13 => ?_)
  · rw [if_neg c13] at h
    refine z_iload 0 d_AbstractStringBuilder_newCapacity_51 rfl ?_
    refine z_aload_n 4 d_AbstractStringBuilder_newCapacity_53 rfl rfl ?_
    replace h := Option.bind_eq_some_iff.mp h; obtain ⟨x14, e15, h⟩ := h
    refine z_getI wF_java_lang_AbstractStringBuilder_22_12 d_AbstractStringBuilder_newCapacity_54 e15 ?_
    refine z_ishr d_AbstractStringBuilder_newCapacity_57 ?_
    cases h
    exact z_iret rfl rfl d_AbstractStringBuilder_newCapacity_58
  · rw [if_pos c13] at h
    cases h

def s_String_checkBoundsOffCount (g : zG) (v0 : Int32) (v1 : Int32) (v2 : Int32) (σ : zS) : Option (Int32 × zS) := (some (g 3)).bind fun x1 => (s_Preconditions_checkFromIndexSize g v0 v1 v2 x1 σ).bind fun (x5, σ3) => some (x5, σ3)
set_option maxRecDepth 100000 in
theorem t_String_checkBoundsOffCount {l : Launch} {D : zD} {g : zG} (hG : zGok g D) {v0 : Int32} {v1 : Int32} {v2 : Int32} {σ : zS} {q : Int32 × zS} (h : s_String_checkBoundsOffCount g v0 v1 v2 σ = some q) : zMet l D Y_String_checkBoundsOffCount K_String_checkBoundsOffCount 1 23 [.int (v0), .int (v1), .int (v2)] σ (.returned (some (.int q.1)), q.2) := by
  refine zMet.ofZ (by decide) rfl (fun q => by cases q) (Nat.le_of_ble_eq_true rfl) ?_
  show Z _ _ _ _ _ _ 0 [(0, .int (v0)), (1, .int (v1)), (2, .int (v2))] [] _
  unfold s_String_checkBoundsOffCount at h
  refine z_iload_n 0 d_String_checkBoundsOffCount_0 rfl rfl ?_
  refine z_iload_n 1 d_String_checkBoundsOffCount_1 rfl rfl ?_
  refine z_iload_n 2 d_String_checkBoundsOffCount_2 rfl rfl ?_
  replace h := Option.bind_eq_some_iff.mp h; obtain ⟨x1, e2, h⟩ := h
  refine z_gets (zG_7 hG) wG_java_lang_String_1053 (Or.inl rfl) d_String_checkBoundsOffCount_3 ?_
  rw [Option.some.inj e2]
  replace h := Option.bind_eq_some_iff.mp h; obtain ⟨⟨x5, σ3⟩, e4, h⟩ := h
  dsimp only at h
  refine z_callS (av := [.int (v0), .int (v1), .int (v2), va_rf (x1)]) (st := []) wS_java_lang_String_1065 (t_Preconditions_checkFromIndexSize hG e4) (by decide) (by decide) d_String_checkBoundsOffCount_6 (by simp [z_rfc, z_ci, z_cl, z_cr, z_cn]) ?_
  show Z _ _ _ _ _ _ 9 [(0, .int (v0)), (1, .int (v1)), (2, .int (v2))] [.int (x5)] _
  cases h
  exact z_iret rfl rfl d_String_checkBoundsOffCount_9

def s_StringUTF16_checkIndex (g : zG) (v0 : Int32) (v1 : Option Nat) (σ : zS) : Option (zS) := (s_StringUTF16_length g v1 σ).bind fun (x3, σ1) => (s_String_checkIndex g v0 x3 σ1).bind fun σ4 => some σ4
set_option maxRecDepth 100000 in
theorem t_StringUTF16_checkIndex {l : Launch} {D : zD} {g : zG} (hG : zGok g D) {v0 : Int32} {v1 : Option Nat} {σ : zS} {q : zS} (h : s_StringUTF16_checkIndex g v0 v1 σ = some q) : zMet l D Y_StringUTF16_checkIndex K_StringUTF16_checkIndex 2 43 [.int (v0), va_rf (v1)] σ (.returned none, q) := by
  refine zMet.ofZ (by decide) rfl (fun q => by cases q) (by simp [lg_sl, z_rfc, z_ci, z_cl, z_cr, z_cn]) ?_
  rw [show lv_args 0 ([.int (v0), va_rf (v1)] : List Value) = [(0, .int (v0)), (1, va_rf (v1))] from by simp [lv_args, z_rfc, z_ci, z_cl, z_cr, z_cn]]
  unfold s_StringUTF16_checkIndex at h
  refine z_iload_n 0 d_StringUTF16_checkIndex_0 rfl rfl ?_
  refine z_aload_nR 1 d_StringUTF16_checkIndex_1 rfl rfl ?_
  replace h := Option.bind_eq_some_iff.mp h; obtain ⟨⟨x3, σ1⟩, e2, h⟩ := h
  dsimp only at h
  refine z_callS (av := [va_rf (v1)]) (st := [.int (v0)]) wS_java_lang_StringUTF16_48 (t_StringUTF16_length hG e2) (by decide) (by decide) d_StringUTF16_checkIndex_2 (by simp [z_rfc, z_ci, z_cl, z_cr, z_cn]) ?_
  show Z _ _ _ _ _ _ 5 [(0, .int (v0)), (1, va_rf (v1))] [.int (x3), .int (v0)] _
  replace h := Option.bind_eq_some_iff.mp h; obtain ⟨σ4, e5, h⟩ := h
  refine z_callS (av := [.int (v0), .int (x3)]) (st := []) wS_java_lang_StringUTF16_414 (t_String_checkIndex hG e5) (by decide) (by decide) d_StringUTF16_checkIndex_5 (by simp [z_rfc, z_ci, z_cl, z_cr, z_cn]) ?_
  show Z _ _ _ _ _ _ 8 [(0, .int (v0)), (1, va_rf (v1))] [] _
  cases h
  exact z_vret rfl rfl d_StringUTF16_checkIndex_8

def s_String_checkBoundsBeginEnd (g : zG) (v0 : Int32) (v1 : Int32) (v2 : Int32) (σ : zS) : Option (zS) := (some (g 3)).bind fun x1 => (s_Preconditions_checkFromToIndex g v0 v1 v2 x1 σ).bind fun (x5, σ3) => some σ3
set_option maxRecDepth 100000 in
theorem t_String_checkBoundsBeginEnd {l : Launch} {D : zD} {g : zG} (hG : zGok g D) {v0 : Int32} {v1 : Int32} {v2 : Int32} {σ : zS} {q : zS} (h : s_String_checkBoundsBeginEnd g v0 v1 v2 σ = some q) : zMet l D Y_String_checkBoundsBeginEnd K_String_checkBoundsBeginEnd 1 23 [.int (v0), .int (v1), .int (v2)] σ (.returned none, q) := by
  refine zMet.ofZ (by decide) rfl (fun q => by cases q) (Nat.le_of_ble_eq_true rfl) ?_
  show Z _ _ _ _ _ _ 0 [(0, .int (v0)), (1, .int (v1)), (2, .int (v2))] [] _
  unfold s_String_checkBoundsBeginEnd at h
  refine z_iload_n 0 d_String_checkBoundsBeginEnd_0 rfl rfl ?_
  refine z_iload_n 1 d_String_checkBoundsBeginEnd_1 rfl rfl ?_
  refine z_iload_n 2 d_String_checkBoundsBeginEnd_2 rfl rfl ?_
  replace h := Option.bind_eq_some_iff.mp h; obtain ⟨x1, e2, h⟩ := h
  refine z_gets (zG_7 hG) wG_java_lang_String_1053 (Or.inl rfl) d_String_checkBoundsBeginEnd_3 ?_
  rw [Option.some.inj e2]
  replace h := Option.bind_eq_some_iff.mp h; obtain ⟨⟨x5, σ3⟩, e4, h⟩ := h
  dsimp only at h
  refine z_callS (av := [.int (v0), .int (v1), .int (v2), va_rf (x1)]) (st := []) wS_java_lang_String_1062 (t_Preconditions_checkFromToIndex hG e4) (by decide) (by decide) d_String_checkBoundsBeginEnd_6 (by simp [z_rfc, z_ci, z_cl, z_cr, z_cn]) ?_
  show Z _ _ _ _ _ _ 9 [(0, .int (v0)), (1, .int (v1)), (2, .int (v2))] [.int (x5)] _
  refine z_pop d_String_checkBoundsBeginEnd_9 rfl ?_
  cases h
  exact z_vret rfl rfl d_String_checkBoundsBeginEnd_10

def s_String_length (g : zG) (v0 : Nat) (σ : zS) : Option (Int32 × zS) := (zgR σ v0 13 0).bind fun x1 => (x1).bind fun a3 => (zal σ a3 2).bind fun x4 => (zis σ v0 13).bind fun _ => (s_String_coder g v0  σ).bind fun (x8, σ6) => some (x4 >>> (x8 &&& 31), σ6)
set_option maxRecDepth 100000 in
theorem t_String_length {l : Launch} {D : zD} {g : zG} (hG : zGok g D) {v0 : Nat} {σ : zS} {q : Int32 × zS} (h : s_String_length g v0 σ = some q) : zMet l D Y_String_length K_String_length 1 20 [.ref (v0)] σ (.returned (some (.int q.1)), q.2) := by
  refine zMet.ofZ (by decide) rfl (fun q => by cases q) (Nat.le_of_ble_eq_true rfl) ?_
  show Z _ _ _ _ _ _ 0 [(0, .ref (v0))] [] _
  unfold s_String_length at h
  refine z_aload_n 0 d_String_length_0 rfl rfl ?_
  replace h := Option.bind_eq_some_iff.mp h; obtain ⟨x1, e2, h⟩ := h
  refine z_getR wF_java_lang_String_9_13 d_String_length_1 e2 ?_
  replace h := Option.bind_eq_some_iff.mp h; obtain ⟨a3, rfl, h⟩ := h
  replace h := Option.bind_eq_some_iff.mp h; obtain ⟨x4, e5, h⟩ := h
  refine z_alen (t := 2) rfl d_String_length_4 e5 ?_
  refine z_aload_n 0 d_String_length_5 rfl rfl ?_
  replace h := Option.bind_eq_some_iff.mp h; obtain ⟨_, e9, h⟩ := h
  obtain ⟨b10, f11, e9⟩ := zcls_at (zis_at e9)
  replace h := Option.bind_eq_some_iff.mp h; obtain ⟨⟨x8, σ6⟩, e7, h⟩ := h
  dsimp only at h
  refine z_callV (av := []) (st := [.int (x4)]) wV_java_lang_String_335 e9 (t_String_coder hG e7) (by decide) (by decide) d_String_length_6 (by simp [z_rfc, z_ci, z_cl, z_cr, z_cn]) ?_
  show Z _ _ _ _ _ _ 9 [(0, .ref (v0))] [.int (x8), .int (x4)] _
  refine z_ishr d_String_length_9 ?_
  cases h
  exact z_iret rfl rfl d_String_length_10

def s_StringBuilder_length (g : zG) (v0 : Nat) (σ : zS) : Option (Int32 × zS) := (zis σ v0 12).bind fun _ => (s_AbstractStringBuilder_length g v0  σ).bind fun (x3, σ1) => some (x3, σ1)
set_option maxRecDepth 100000 in
theorem t_StringBuilder_length {l : Launch} {D : zD} {g : zG} (hG : zGok g D) {v0 : Nat} {σ : zS} {q : Int32 × zS} (h : s_StringBuilder_length g v0 σ = some q) : zMet l D Y_StringBuilder_length K_StringBuilder_length 1 20 [.ref (v0)] σ (.returned (some (.int q.1)), q.2) := by
  refine zMet.ofZ (by decide) rfl (fun q => by cases q) (Nat.le_of_ble_eq_true rfl) ?_
  show Z _ _ _ _ _ _ 0 [(0, .ref (v0))] [] _
  unfold s_StringBuilder_length at h
  refine z_aload_n 0 d_StringBuilder_length_0 rfl rfl ?_
  replace h := Option.bind_eq_some_iff.mp h; obtain ⟨_, e4, h⟩ := h
  obtain ⟨b5, f6, e4⟩ := zcls_at (zis_at e4)
  replace h := Option.bind_eq_some_iff.mp h; obtain ⟨⟨x3, σ1⟩, e2, h⟩ := h
  dsimp only at h
  refine z_callP (av := []) (st := []) wX_java_lang_StringBuilder_343 (ci := 12) rfl e4 (t_AbstractStringBuilder_length hG e2) (by decide) (by decide) d_StringBuilder_length_1 (by simp [z_rfc, z_ci, z_cl, z_cr, z_cn]) ?_
  show Z _ _ _ _ _ _ 4 [(0, .ref (v0))] [.int (x3)] _
  cases h
  exact z_iret rfl rfl d_StringBuilder_length_4

def s_Arrays_copyOfRangeByte (g : zG) (v0 : Option Nat) (v1 : Int32) (v2 : Int32) (σ : zS) : Option (Option Nat × zS) := (s_Arrays_checkLength g v1 v2 σ).bind fun σ1 => (zlen (v2 - v1)).bind fun n4 => (some (znew σ1 n4 (.inl (2, (n4, .inl (fun _ => 0)))))).bind fun σ6 => (v0).bind fun a8 => (zal σ6 a8 2).bind fun x9 => (some (if (v2 - v1) < (x9 - v1) then (v2 - v1) else (x9 - v1))).bind fun x11 => (zcpI σ6 .byte a8 (σ1.1) 2 (v1) (0) (x11)).bind fun σ13 => some (some (σ1.1), σ13)
set_option maxRecDepth 100000 in
theorem t_Arrays_copyOfRangeByte {l : Launch} {D : zD} {g : zG} (hG : zGok g D) {v0 : Option Nat} {v1 : Int32} {v2 : Int32} {σ : zS} {q : Option Nat × zS} (h : s_Arrays_copyOfRangeByte g v0 v1 v2 σ = some q) : zMet l D Y_Arrays_copyOfRangeByte K_Arrays_copyOfRangeByte 1 24 [va_rf (v0), .int (v1), .int (v2)] σ (.returned (some (va_rf q.1)), q.2) := by
  refine zMet.ofZ (by decide) rfl (fun q => by cases q) (by simp [lg_sl, z_rfc, z_ci, z_cl, z_cr, z_cn]) ?_
  rw [show lv_args 0 ([va_rf (v0), .int (v1), .int (v2)] : List Value) = [(0, va_rf (v0)), (1, .int (v1)), (2, .int (v2))] from by simp [lv_args, z_rfc, z_ci, z_cl, z_cr, z_cn]]
  unfold s_Arrays_copyOfRangeByte at h
  refine z_iload_n 1 d_Arrays_copyOfRangeByte_0 rfl rfl ?_
  refine z_iload_n 2 d_Arrays_copyOfRangeByte_1 rfl rfl ?_
  replace h := Option.bind_eq_some_iff.mp h; obtain ⟨σ1, e2, h⟩ := h
  refine z_callS (av := [.int (v1), .int (v2)]) (st := []) wS_java_util_Arrays_343 (t_Arrays_checkLength hG e2) (by decide) (by decide) d_Arrays_copyOfRangeByte_2 (by simp [z_rfc, z_ci, z_cl, z_cr, z_cn]) ?_
  show Z _ _ _ _ _ _ 5 [(0, va_rf (v0)), (1, .int (v1)), (2, .int (v2))] [] _
  refine z_iload_n 2 d_Arrays_copyOfRangeByte_5 rfl rfl ?_
  refine z_iload_n 1 d_Arrays_copyOfRangeByte_6 rfl rfl ?_
  refine z_isub d_Arrays_copyOfRangeByte_7 ?_
  refine z_istore_n (j := 3) (lv' := [(3, .int (v2 - v1)), (0, va_rf (v0)), (1, .int (v1)), (2, .int (v2))]) d_Arrays_copyOfRangeByte_8 rfl (by decide) rfl ?_
  refine z_iload_n 0 d_Arrays_copyOfRangeByte_9 rfl rfl ?_
  replace h := Option.bind_eq_some_iff.mp h; obtain ⟨n4, e5, h⟩ := h
  replace h := Option.bind_eq_some_iff.mp h; obtain ⟨σ6, e7, h⟩ := h
  refine z_newa (t := 2) (ty := .byte) (x := (n4, .inl (fun _ => 0))) rfl rfl wA_byte (fun _ => rfl) (by decide) d_Arrays_copyOfRangeByte_10 e5 ?_
  rw [Option.some.inj e7]
  refine z_astore (j := 4) (lv' := [(4, .ref (σ1.1)), (3, .int (v2 - v1)), (0, va_rf (v0)), (1, .int (v1)), (2, .int (v2))]) d_Arrays_copyOfRangeByte_12 (by decide) rfl ?_
  refine z_aload_nR 2 d_Arrays_copyOfRangeByte_14 rfl rfl ?_
  refine z_iload_n 3 d_Arrays_copyOfRangeByte_15 rfl rfl ?_
  refine z_aload 0 d_Arrays_copyOfRangeByte_16 rfl ?_
  refine z_iconst (v := 0) d_Arrays_copyOfRangeByte_18 rfl ?_
  refine z_aload_nR 2 d_Arrays_copyOfRangeByte_19 rfl rfl ?_
  replace h := Option.bind_eq_some_iff.mp h; obtain ⟨a8, rfl, h⟩ := h
  replace h := Option.bind_eq_some_iff.mp h; obtain ⟨x9, e10, h⟩ := h
  refine z_alen (t := 2) rfl d_Arrays_copyOfRangeByte_20 e10 ?_
  refine z_iload_n 3 d_Arrays_copyOfRangeByte_21 rfl rfl ?_
  refine z_isub d_Arrays_copyOfRangeByte_22 ?_
  refine z_iload_n 1 d_Arrays_copyOfRangeByte_23 rfl rfl ?_
  replace h := Option.bind_eq_some_iff.mp h; obtain ⟨x11, e12, h⟩ := h
  refine z_mmin (x := x9 - v1) (y := v2 - v1) wM_java_util_Arrays_304 wMs_min wMi wMc_min (by decide) (by simp [z_rfc, z_ci, z_cl, z_cr, z_cn]) d_Arrays_copyOfRangeByte_24 ?_
  rw [Option.some.inj e12]
  replace h := Option.bind_eq_some_iff.mp h; obtain ⟨σ13, e14, h⟩ := h
  refine z_copyI wCp_java_util_Arrays_150 rfl rfl (by decide) (by decide) d_Arrays_copyOfRangeByte_27 e14 ?_
  refine z_aload 0 d_Arrays_copyOfRangeByte_30 rfl ?_
  cases h
  exact z_aret (r := some (σ1.1)) rfl (Or.inr ⟨_, rfl⟩) rfl d_Arrays_copyOfRangeByte_32

def s_StringUTF16_charAt (g : zG) (v0 : Option Nat) (v1 : Int32) (σ : zS) : Option (Int32 × zS) := (s_StringUTF16_checkIndex g v1 v0 σ).bind fun σ1 => (s_StringUTF16_getChar g v0 v1 σ1).bind fun (x6, σ4) => if vp_nar .char x6 = x6 then some (x6, σ4) else none
set_option maxRecDepth 100000 in
theorem t_StringUTF16_charAt {l : Launch} {D : zD} {g : zG} (hG : zGok g D) {v0 : Option Nat} {v1 : Int32} {σ : zS} {q : Int32 × zS} (h : s_StringUTF16_charAt g v0 v1 σ = some q) : zMet l D Y_StringUTF16_charAt K_StringUTF16_charAt 3 64 [va_rf (v0), .int (v1)] σ (.returned (some (.int q.1)), q.2) := by
  refine zMet.ofZ (by decide) rfl (fun q => by cases q) (by simp [lg_sl, z_rfc, z_ci, z_cl, z_cr, z_cn]) ?_
  rw [show lv_args 0 ([va_rf (v0), .int (v1)] : List Value) = [(0, va_rf (v0)), (1, .int (v1))] from by simp [lv_args, z_rfc, z_ci, z_cl, z_cr, z_cn]]
  unfold s_StringUTF16_charAt at h
  refine z_iload_n 1 d_StringUTF16_charAt_0 rfl rfl ?_
  refine z_aload_nR 0 d_StringUTF16_charAt_1 rfl rfl ?_
  replace h := Option.bind_eq_some_iff.mp h; obtain ⟨σ1, e2, h⟩ := h
  refine z_callS (av := [.int (v1), va_rf (v0)]) (st := []) wS_java_lang_StringUTF16_67 (t_StringUTF16_checkIndex hG e2) (by decide) (by decide) d_StringUTF16_charAt_2 (by simp [z_rfc, z_ci, z_cl, z_cr, z_cn]) ?_
  show Z _ _ _ _ _ _ 5 [(0, va_rf (v0)), (1, .int (v1))] [] _
  refine z_aload_nR 0 d_StringUTF16_charAt_5 rfl rfl ?_
  refine z_iload_n 1 d_StringUTF16_charAt_6 rfl rfl ?_
  replace h := Option.bind_eq_some_iff.mp h; obtain ⟨⟨x6, σ4⟩, e5, h⟩ := h
  dsimp only at h
  refine z_callS (av := [va_rf (v0), .int (v1)]) (st := []) wS_java_lang_StringUTF16_71 (t_StringUTF16_getChar hG e5) (by decide) (by decide) d_StringUTF16_charAt_7 (by simp [z_rfc, z_ci, z_cl, z_cr, z_cn]) ?_
  show Z _ _ _ _ _ _ 10 [(0, va_rf (v0)), (1, .int (v1))] [.int (x6)] _
  by_cases c7 : vp_nar .char x6 = x6
  rotate_left
  · rw [if_neg c7] at h; cases h
  rw [if_pos c7] at h
  cases h
  exact z_zret rfl (z_nc c7) rfl d_StringUTF16_charAt_10

def s_ArrayList_init (g : zG) (v0 : Nat) (σ : zS) : Option (zS) := (s_AbstractList_init g v0  σ).bind fun σ1 => (some (g 0)).bind fun x4 => (zpF σ1 v0 3 0 (va_rf (x4))).bind fun σ6 => some σ6
set_option maxRecDepth 100000 in
theorem t_ArrayList_init {l : Launch} {D : zD} {g : zG} (hG : zGok g D) {v0 : Nat} {σ : zS} {q : zS} (h : s_ArrayList_init g v0 σ = some q) : zMet l D Y_ArrayList_init K_ArrayList_init 3 52 [.ref (v0)] σ (.returned none, q) := by
  refine zMet.ofZ (by decide) rfl (fun q => rfl) (Nat.le_of_ble_eq_true rfl) ?_
  show Z _ _ _ _ _ _ 0 [(0, .ref (v0))] [] _
  unfold s_ArrayList_init at h
  refine z_aload_n 0 d_ArrayList_init_0 rfl rfl ?_
  replace h := Option.bind_eq_some_iff.mp h; obtain ⟨σ1, e2, h⟩ := h
  refine z_callI (av := []) (st := []) wI_java_util_ArrayList_1 (t_AbstractList_init hG e2) (by decide) (by decide) d_ArrayList_init_1 (by simp [z_rfc, z_ci, z_cl, z_cr, z_cn]) ?_
  show Z _ _ _ _ _ _ 4 [(0, .ref (v0))] [] _
  refine z_aload_n 0 d_ArrayList_init_4 rfl rfl ?_
  replace h := Option.bind_eq_some_iff.mp h; obtain ⟨x4, e5, h⟩ := h
  refine z_gets (zG_4 hG) wG_java_util_ArrayList_39 (Or.inl rfl) d_ArrayList_init_5 ?_
  rw [Option.some.inj e5]
  replace h := Option.bind_eq_some_iff.mp h; obtain ⟨σ6, e7, h⟩ := h
  refine z_put wP_java_util_ArrayList_9_3 (fun _ => rfl) d_ArrayList_init_8 (z_nra _ _) (z_fra _ _) e7 ?_
  cases h
  exact z_vret rfl rfl d_ArrayList_init_11

def s_ArrayList_grow2_20 (g : zG)  (v0 : Nat) (v1 : Int32) (v2 : Int32) (σ : zS) : Option (Option Nat × zS) := (s_ArraysSupport_newLength g v2 (v1 - v2) (v2 >>> (1 &&& 31)) σ).bind fun (x3, σ1) => (zgR σ1 v0 3 0).bind fun x4 => (s_Arrays_copyOf g x4 x3 σ1).bind fun (x8, σ6) => (zpF σ6 v0 3 0 (va_rf (x8))).bind fun σ9 => some (x8, σ9)
def s_ArrayList_grow2 (g : zG) (v0 : Nat) (v1 : Int32) (σ : zS) : Option (Option Nat × zS) := (zgR σ v0 3 0).bind fun x1 => (x1).bind fun a3 => (zal σ a3 10).bind fun x4 => if 0 < x4 then s_ArrayList_grow2_20 g  (v0) (v1) (x4) σ else (zgR σ v0 3 0).bind fun x7 => (some (g 0)).bind fun x9 => if x7 = x9 then (some (if 10 < v1 then v1 else 10)).bind fun x12 => (zlen (x12)).bind fun n14 => (some (znew σ n14 (.inl (10, (n14, .inr (.inr (.inr (.inr (fun _ => none))))))))).bind fun σ16 => (zpF σ16 v0 3 0 (.ref (σ.1))).bind fun σ18 => some (some (σ.1), σ18) else s_ArrayList_grow2_20 g  (v0) (v1) (x4) σ
set_option maxRecDepth 100000 in
theorem t_ArrayList_grow2_20 {l : Launch} {D : zD} {g : zG} (hG : zGok g D) {q : Option Nat × zS}   {v0 : Nat} {v1 : Int32} {v2 : Int32} {σ : zS} (h : s_ArrayList_grow2_20 g  v0 v1 v2 σ = some q) : Z l D K_ArrayList_grow2 3 68 (.returned (some (va_rf q.1)), q.2) 20 [(0, .ref (v0)), (1, .int (v1)), (2, .int (v2))] [] σ := by
  unfold s_ArrayList_grow2_20 at h
  refine z_iload_n 2 d_ArrayList_grow2_20 rfl rfl ?_
  refine z_iload_n 1 d_ArrayList_grow2_21 rfl rfl ?_
  refine z_iload_n 2 d_ArrayList_grow2_22 rfl rfl ?_
  refine z_isub d_ArrayList_grow2_23 ?_
  refine z_iload_n 2 d_ArrayList_grow2_24 rfl rfl ?_
  refine z_iconst (v := 1) d_ArrayList_grow2_25 rfl ?_
  refine z_ishr d_ArrayList_grow2_26 ?_
  replace h := Option.bind_eq_some_iff.mp h; obtain ⟨⟨x3, σ1⟩, e2, h⟩ := h
  dsimp only at h
  refine z_callS (av := [.int (v2), .int (v1 - v2), .int (v2 >>> (1 &&& 31))]) (st := []) wS_java_util_ArrayList_73 (t_ArraysSupport_newLength hG e2) (by decide) (by decide) d_ArrayList_grow2_27 (by simp [z_rfc, z_ci, z_cl, z_cr, z_cn]) ?_
  show Z _ _ _ _ _ _ 30 [(0, .ref (v0)), (1, .int (v1)), (2, .int (v2))] [.int (x3)] _
  refine z_istore_n (j := 3) (lv' := [(3, .int (x3)), (0, .ref (v0)), (1, .int (v1)), (2, .int (v2))]) d_ArrayList_grow2_30 rfl (by decide) rfl ?_
  refine z_aload_n 1 d_ArrayList_grow2_31 rfl rfl ?_
  refine z_aload_n 1 d_ArrayList_grow2_32 rfl rfl ?_
  replace h := Option.bind_eq_some_iff.mp h; obtain ⟨x4, e5, h⟩ := h
  refine z_getR wF_java_util_ArrayList_9_3 d_ArrayList_grow2_33 e5 ?_
  refine z_iload_n 0 d_ArrayList_grow2_36 rfl rfl ?_
  replace h := Option.bind_eq_some_iff.mp h; obtain ⟨⟨x8, σ6⟩, e7, h⟩ := h
  dsimp only at h
  refine z_callS (av := [va_rf (x4), .int (x3)]) (st := [.ref (v0)]) wS_java_util_ArrayList_66 (t_Arrays_copyOf hG e7) (by decide) (by decide) d_ArrayList_grow2_37 (by simp [z_rfc, z_ci, z_cl, z_cr, z_cn]) ?_
  show Z _ _ _ _ _ _ 40 [(3, .int (x3)), (0, .ref (v0)), (1, .int (v1)), (2, .int (v2))] [va_rf (x8), .ref (v0)] _
  refine z_dup_x1 d_ArrayList_grow2_40 (z_rfc _) rfl ?_
  replace h := Option.bind_eq_some_iff.mp h; obtain ⟨σ9, e10, h⟩ := h
  refine z_put wP_java_util_ArrayList_9_3 (fun q => by cases q) d_ArrayList_grow2_41 (z_nra _ _) (z_fra _ _) e10 ?_
  cases h
  exact z_aret (r := x8) rfl (Or.inr ⟨_, rfl⟩) rfl d_ArrayList_grow2_44
set_option maxRecDepth 100000 in
theorem t_ArrayList_grow2 {l : Launch} {D : zD} {g : zG} (hG : zGok g D) {v0 : Nat} {v1 : Int32} {σ : zS} {q : Option Nat × zS} (h : s_ArrayList_grow2 g v0 v1 σ = some q) : zMet l D Y_ArrayList_grow2 K_ArrayList_grow2 3 68 [.ref (v0), .int (v1)] σ (.returned (some (va_rf q.1)), q.2) := by
  refine zMet.ofZ (by decide) rfl (fun q => by cases q) (Nat.le_of_ble_eq_true rfl) ?_
  show Z _ _ _ _ _ _ 0 [(0, .ref (v0)), (1, .int (v1))] [] _
  unfold s_ArrayList_grow2 at h
  refine z_aload_n 0 d_ArrayList_grow2_0 rfl rfl ?_
  replace h := Option.bind_eq_some_iff.mp h; obtain ⟨x1, e2, h⟩ := h
  refine z_getR wF_java_util_ArrayList_9_3 d_ArrayList_grow2_1 e2 ?_
  replace h := Option.bind_eq_some_iff.mp h; obtain ⟨a3, rfl, h⟩ := h
  replace h := Option.bind_eq_some_iff.mp h; obtain ⟨x4, e5, h⟩ := h
  refine z_alen (t := 10) rfl d_ArrayList_grow2_4 e5 ?_
  refine z_istore_n (j := 2) (lv' := [(2, .int (x4)), (0, .ref (v0)), (1, .int (v1))]) d_ArrayList_grow2_5 rfl (by decide) rfl ?_
  refine z_iload_n 0 d_ArrayList_grow2_6 rfl rfl ?_
  refine z_if_gt (tgt := 20) d_ArrayList_grow2_7 rfl (fun c6 => ?_) (fun c6 => ?_)
  · rw [if_pos c6] at h
    refine z_lv (lv' := [(0, .ref (v0)), (1, .int (v1)), (2, .int (x4))]) [1, 2, 0] rfl ?_
    exact t_ArrayList_grow2_20 hG   h
  · rw [if_neg c6] at h
    refine z_aload_n 1 d_ArrayList_grow2_10 rfl rfl ?_
    replace h := Option.bind_eq_some_iff.mp h; obtain ⟨x7, e8, h⟩ := h
    refine z_getR wF_java_util_ArrayList_9_3 d_ArrayList_grow2_11 e8 ?_
    replace h := Option.bind_eq_some_iff.mp h; obtain ⟨x9, e10, h⟩ := h
    refine z_gets (zG_4 hG) wG_java_util_ArrayList_39 (Or.inl rfl) d_ArrayList_grow2_14 ?_
    rw [Option.some.inj e10]
    refine z_acmp_eq (rx := x7) (ry := x9) (tgt := 45) d_ArrayList_grow2_17 rfl (fun c11 => ?_) (fun c11 => ?_)
    · rw [if_pos c11] at h
      refine z_aload_n 1 d_ArrayList_grow2_45 rfl rfl ?_
      refine z_bipush (v := 10) d_ArrayList_grow2_46 rfl ?_
      refine z_iload_n 2 d_ArrayList_grow2_48 rfl rfl ?_
      replace h := Option.bind_eq_some_iff.mp h; obtain ⟨x12, e13, h⟩ := h
      refine z_mmax (x := 10) (y := v1) wM_java_util_ArrayList_79 wMs_max wMi wMc_max (by decide) (by simp [z_rfc, z_ci, z_cl, z_cr, z_cn]) d_ArrayList_grow2_49 ?_
      rw [Option.some.inj e13]
      replace h := Option.bind_eq_some_iff.mp h; obtain ⟨n14, e15, h⟩ := h
      replace h := Option.bind_eq_some_iff.mp h; obtain ⟨σ16, e17, h⟩ := h
      refine z_anewa (t := 10) (E := "java/lang/Object") rfl wAo_java_lang_Object wL_java_util_ArrayList_7 d_ArrayList_grow2_52 e15 ?_
      rw [Option.some.inj e17]
      refine z_dup_x1 d_ArrayList_grow2_55 rfl rfl ?_
      replace h := Option.bind_eq_some_iff.mp h; obtain ⟨σ18, e19, h⟩ := h
      refine z_put wP_java_util_ArrayList_9_3 (fun q => by cases q) d_ArrayList_grow2_56 rfl rfl e19 ?_
      cases h
      exact z_aret (r := some (σ.1)) rfl (Or.inr ⟨_, rfl⟩) rfl d_ArrayList_grow2_59
    · rw [if_neg c11] at h
      refine z_lv (lv' := [(0, .ref (v0)), (1, .int (v1)), (2, .int (x4))]) [1, 2, 0] rfl ?_
      exact t_ArrayList_grow2_20 hG   h

def s_ArrayList_remove (g : zG) (v0 : Nat) (v1 : Int32) (σ : zS) : Option (Option Nat × zS) := (zgI σ v0 3 1).bind fun x1 => (s_Objects_checkIndex g v1 x1 σ).bind fun (x5, σ3) => (zgR σ3 v0 3 0).bind fun x6 => (x6).bind fun a8 => (zaR σ3 a8 10 (v1)).bind fun x9 => (zis σ3 v0 3).bind fun _ => (s_ArrayList_fastRemove g v0 (some (a8)) v1 σ3).bind fun σ11 => some (x9, σ11)
set_option maxRecDepth 100000 in
theorem t_ArrayList_remove {l : Launch} {D : zD} {g : zG} (hG : zGok g D) {v0 : Nat} {v1 : Int32} {σ : zS} {q : Option Nat × zS} (h : s_ArrayList_remove g v0 v1 σ = some q) : zMet l D Y_ArrayList_remove K_ArrayList_remove 2 47 [.ref (v0), .int (v1)] σ (.returned (some (va_rf q.1)), q.2) := by
  refine zMet.ofZ (by decide) rfl (fun q => by cases q) (Nat.le_of_ble_eq_true rfl) ?_
  show Z _ _ _ _ _ _ 0 [(0, .ref (v0)), (1, .int (v1))] [] _
  unfold s_ArrayList_remove at h
  refine z_iload_n 1 d_ArrayList_remove_0 rfl rfl ?_
  refine z_aload_n 0 d_ArrayList_remove_1 rfl rfl ?_
  replace h := Option.bind_eq_some_iff.mp h; obtain ⟨x1, e2, h⟩ := h
  refine z_getI wF_java_util_ArrayList_48_3 d_ArrayList_remove_2 e2 ?_
  replace h := Option.bind_eq_some_iff.mp h; obtain ⟨⟨x5, σ3⟩, e4, h⟩ := h
  dsimp only at h
  refine z_callS (av := [.int (v1), .int (x1)]) (st := []) wS_java_util_ArrayList_118 (t_Objects_checkIndex hG e4) (by decide) (by decide) d_ArrayList_remove_5 (by simp [z_rfc, z_ci, z_cl, z_cr, z_cn]) ?_
  show Z _ _ _ _ _ _ 8 [(0, .ref (v0)), (1, .int (v1))] [.int (x5)] _
  refine z_pop d_ArrayList_remove_8 rfl ?_
  refine z_aload_n 0 d_ArrayList_remove_9 rfl rfl ?_
  replace h := Option.bind_eq_some_iff.mp h; obtain ⟨x6, e7, h⟩ := h
  refine z_getR wF_java_util_ArrayList_9_3 d_ArrayList_remove_10 e7 ?_
  refine z_astore_nR (j := 2) (lv' := [(2, va_rf (x6)), (0, .ref (v0)), (1, .int (v1))]) d_ArrayList_remove_13 rfl (by decide) rfl ?_
  refine z_aload_nR 0 d_ArrayList_remove_14 rfl rfl ?_
  refine z_iload_n 2 d_ArrayList_remove_15 rfl rfl ?_
  replace h := Option.bind_eq_some_iff.mp h; obtain ⟨a8, rfl, h⟩ := h
  replace h := Option.bind_eq_some_iff.mp h; obtain ⟨x9, e10, h⟩ := h
  refine z_aaload rfl d_ArrayList_remove_16 e10 ?_
  refine z_astore_nR (j := 3) (lv' := [(3, va_rf (x9)), (2, .ref (a8)), (0, .ref (v0)), (1, .int (v1))]) d_ArrayList_remove_17 rfl (by decide) rfl ?_
  refine z_aload_n 2 d_ArrayList_remove_18 rfl rfl ?_
  refine z_aload_n 1 d_ArrayList_remove_19 rfl rfl ?_
  refine z_iload_n 3 d_ArrayList_remove_20 rfl rfl ?_
  replace h := Option.bind_eq_some_iff.mp h; obtain ⟨_, e14, h⟩ := h
  obtain ⟨b15, f16, e14⟩ := zcls_at (zis_at e14)
  replace h := Option.bind_eq_some_iff.mp h; obtain ⟨σ11, e12, h⟩ := h
  refine z_callV (av := [va_rf (some (a8)), .int (v1)]) (st := []) wV_java_util_ArrayList_144 e14 (t_ArrayList_fastRemove hG e12) (by decide) (by decide) d_ArrayList_remove_21 (by simp [z_rfc, z_ci, z_cl, z_cr, z_cn]) ?_
  show Z _ _ _ _ _ _ 24 [(3, va_rf (x9)), (2, .ref (a8)), (0, .ref (v0)), (1, .int (v1))] [] _
  refine z_aload_nR 0 d_ArrayList_remove_24 rfl rfl ?_
  cases h
  exact z_aret (r := x9) rfl (Or.inl ⟨_, rfl⟩) rfl d_ArrayList_remove_25

def s_AbstractStringBuilder_ensureCapacityInternal_38 (g : zG)  (v0 : Nat) (v1 : Int32) (v2 : Int32) (σ : zS) : Option (zS) := some σ
def s_AbstractStringBuilder_ensureCapacityInternal (g : zG) (v0 : Nat) (v1 : Int32) (σ : zS) : Option (zS) := (zgR σ v0 12 0).bind fun x1 => (x1).bind fun a3 => (zal σ a3 2).bind fun x4 => (zgI σ v0 12 1).bind fun x6 => if (v1 - (x4 >>> (x6 &&& 31))) ≤ 0 then s_AbstractStringBuilder_ensureCapacityInternal_38 g  (v0) (v1) (x4 >>> (x6 &&& 31)) σ else (zgR σ v0 12 0).bind fun x9 => (zis σ v0 12).bind fun _ => (s_AbstractStringBuilder_newCapacity g v0 v1 σ).bind fun (x13, σ11) => (zgI σ11 v0 12 1).bind fun x14 => (s_Arrays_copyOf3 g x9 (x13 <<< (x14 &&& 31)) σ11).bind fun (x18, σ16) => (zpF σ16 v0 12 0 (va_rf (x18))).bind fun σ19 => s_AbstractStringBuilder_ensureCapacityInternal_38 g  (v0) (v1) (x4 >>> (x6 &&& 31)) σ19
set_option maxRecDepth 100000 in
theorem t_AbstractStringBuilder_ensureCapacityInternal_38 {l : Launch} {D : zD} {g : zG} (hG : zGok g D) {q : zS}   {v0 : Nat} {v1 : Int32} {v2 : Int32} {σ : zS} (h : s_AbstractStringBuilder_ensureCapacityInternal_38 g  v0 v1 v2 σ = some q) : Z l D K_AbstractStringBuilder_ensureCapacityInternal 3 70 (.returned none, q) 38 [(0, .ref (v0)), (1, .int (v1)), (2, .int (v2))] [] σ := by
  unfold s_AbstractStringBuilder_ensureCapacityInternal_38 at h
  cases h
  exact z_vret rfl rfl d_AbstractStringBuilder_ensureCapacityInternal_38
set_option maxRecDepth 100000 in
theorem t_AbstractStringBuilder_ensureCapacityInternal {l : Launch} {D : zD} {g : zG} (hG : zGok g D) {v0 : Nat} {v1 : Int32} {σ : zS} {q : zS} (h : s_AbstractStringBuilder_ensureCapacityInternal g v0 v1 σ = some q) : zMet l D Y_AbstractStringBuilder_ensureCapacityInternal K_AbstractStringBuilder_ensureCapacityInternal 3 70 [.ref (v0), .int (v1)] σ (.returned none, q) := by
  refine zMet.ofZ (by decide) rfl (fun q => by cases q) (Nat.le_of_ble_eq_true rfl) ?_
  show Z _ _ _ _ _ _ 0 [(0, .ref (v0)), (1, .int (v1))] [] _
  unfold s_AbstractStringBuilder_ensureCapacityInternal at h
  refine z_aload_n 0 d_AbstractStringBuilder_ensureCapacityInternal_0 rfl rfl ?_
  replace h := Option.bind_eq_some_iff.mp h; obtain ⟨x1, e2, h⟩ := h
  refine z_getR wF_java_lang_AbstractStringBuilder_15_12 d_AbstractStringBuilder_ensureCapacityInternal_1 e2 ?_
  replace h := Option.bind_eq_some_iff.mp h; obtain ⟨a3, rfl, h⟩ := h
  replace h := Option.bind_eq_some_iff.mp h; obtain ⟨x4, e5, h⟩ := h
  refine z_alen (t := 2) rfl d_AbstractStringBuilder_ensureCapacityInternal_4 e5 ?_
  refine z_aload_n 0 d_AbstractStringBuilder_ensureCapacityInternal_5 rfl rfl ?_
  replace h := Option.bind_eq_some_iff.mp h; obtain ⟨x6, e7, h⟩ := h
  refine z_getI wF_java_lang_AbstractStringBuilder_22_12 d_AbstractStringBuilder_ensureCapacityInternal_6 e7 ?_
  refine z_ishr d_AbstractStringBuilder_ensureCapacityInternal_9 ?_
  refine z_istore_n (j := 2) (lv' := [(2, .int (x4 >>> (x6 &&& 31))), (0, .ref (v0)), (1, .int (v1))]) d_AbstractStringBuilder_ensureCapacityInternal_10 rfl (by decide) rfl ?_
  refine z_iload_n 2 d_AbstractStringBuilder_ensureCapacityInternal_11 rfl rfl ?_
  refine z_iload_n 0 d_AbstractStringBuilder_ensureCapacityInternal_12 rfl rfl ?_
  refine z_isub d_AbstractStringBuilder_ensureCapacityInternal_13 ?_
  refine z_if_le (tgt := 38) d_AbstractStringBuilder_ensureCapacityInternal_14 rfl (fun c8 => ?_) (fun c8 => ?_)
  · rw [if_pos c8] at h
    refine z_lv (lv' := [(0, .ref (v0)), (1, .int (v1)), (2, .int (x4 >>> (x6 &&& 31)))]) [1, 2, 0] rfl ?_
    exact t_AbstractStringBuilder_ensureCapacityInternal_38 hG   h
  · rw [if_neg c8] at h
    refine z_aload_n 1 d_AbstractStringBuilder_ensureCapacityInternal_17 rfl rfl ?_
    refine z_aload_n 1 d_AbstractStringBuilder_ensureCapacityInternal_18 rfl rfl ?_
    replace h := Option.bind_eq_some_iff.mp h; obtain ⟨x9, e10, h⟩ := h
    refine z_getR wF_java_lang_AbstractStringBuilder_15_12 d_AbstractStringBuilder_ensureCapacityInternal_19 e10 ?_
    refine z_aload_n 1 d_AbstractStringBuilder_ensureCapacityInternal_22 rfl rfl ?_
    refine z_iload_n 2 d_AbstractStringBuilder_ensureCapacityInternal_23 rfl rfl ?_
    replace h := Option.bind_eq_some_iff.mp h; obtain ⟨_, e21, h⟩ := h
    obtain ⟨b22, f23, e21⟩ := zcls_at (zis_at e21)
    replace h := Option.bind_eq_some_iff.mp h; obtain ⟨⟨x13, σ11⟩, e12, h⟩ := h
    dsimp only at h
    refine z_callW (av := [.int (v1)]) (st := [va_rf (x9), .ref (v0)]) wX_java_lang_AbstractStringBuilder_104_12 e21 (t_AbstractStringBuilder_newCapacity hG e12) (by decide) (by decide) d_AbstractStringBuilder_ensureCapacityInternal_24 (by simp [z_rfc, z_ci, z_cl, z_cr, z_cn]) ?_
    show Z _ _ _ _ _ _ 27 [(2, .int (x4 >>> (x6 &&& 31))), (0, .ref (v0)), (1, .int (v1))] [.int (x13), va_rf (x9), .ref (v0)] _
    refine z_aload_n 1 d_AbstractStringBuilder_ensureCapacityInternal_27 rfl rfl ?_
    replace h := Option.bind_eq_some_iff.mp h; obtain ⟨x14, e15, h⟩ := h
    refine z_getI wF_java_lang_AbstractStringBuilder_22_12 d_AbstractStringBuilder_ensureCapacityInternal_28 e15 ?_
    refine z_ishl d_AbstractStringBuilder_ensureCapacityInternal_31 ?_
    replace h := Option.bind_eq_some_iff.mp h; obtain ⟨⟨x18, σ16⟩, e17, h⟩ := h
    dsimp only at h
    refine z_callS (av := [va_rf (x9), .int (x13 <<< (x14 &&& 31))]) (st := [.ref (v0)]) wS_java_lang_AbstractStringBuilder_108 (t_Arrays_copyOf3 hG e17) (by decide) (by decide) d_AbstractStringBuilder_ensureCapacityInternal_32 (by simp [z_rfc, z_ci, z_cl, z_cr, z_cn]) ?_
    show Z _ _ _ _ _ _ 35 [(2, .int (x4 >>> (x6 &&& 31))), (0, .ref (v0)), (1, .int (v1))] [va_rf (x18), .ref (v0)] _
    replace h := Option.bind_eq_some_iff.mp h; obtain ⟨σ19, e20, h⟩ := h
    refine z_put wP_java_lang_AbstractStringBuilder_15_12 (fun q => by cases q) d_AbstractStringBuilder_ensureCapacityInternal_35 (z_nra _ _) (z_fra _ _) e20 ?_
    refine z_lv (lv' := [(0, .ref (v0)), (1, .int (v1)), (2, .int (x4 >>> (x6 &&& 31)))]) [1, 2, 0] rfl ?_
    exact t_AbstractStringBuilder_ensureCapacityInternal_38 hG   h

def s_StringUTF16_checkBoundsOffCount (g : zG) (v0 : Int32) (v1 : Int32) (v2 : Option Nat) (σ : zS) : Option (zS) := (s_StringUTF16_length g v2 σ).bind fun (x3, σ1) => (s_String_checkBoundsOffCount g v0 v1 x3 σ1).bind fun (x6, σ4) => some σ4
set_option maxRecDepth 100000 in
theorem t_StringUTF16_checkBoundsOffCount {l : Launch} {D : zD} {g : zG} (hG : zGok g D) {v0 : Int32} {v1 : Int32} {v2 : Option Nat} {σ : zS} {q : zS} (h : s_StringUTF16_checkBoundsOffCount g v0 v1 v2 σ = some q) : zMet l D Y_StringUTF16_checkBoundsOffCount K_StringUTF16_checkBoundsOffCount 2 45 [.int (v0), .int (v1), va_rf (v2)] σ (.returned none, q) := by
  refine zMet.ofZ (by decide) rfl (fun q => by cases q) (by simp [lg_sl, z_rfc, z_ci, z_cl, z_cr, z_cn]) ?_
  rw [show lv_args 0 ([.int (v0), .int (v1), va_rf (v2)] : List Value) = [(0, .int (v0)), (1, .int (v1)), (2, va_rf (v2))] from by simp [lv_args, z_rfc, z_ci, z_cl, z_cr, z_cn]]
  unfold s_StringUTF16_checkBoundsOffCount at h
  refine z_iload_n 0 d_StringUTF16_checkBoundsOffCount_0 rfl rfl ?_
  refine z_iload_n 1 d_StringUTF16_checkBoundsOffCount_1 rfl rfl ?_
  refine z_aload_nR 2 d_StringUTF16_checkBoundsOffCount_2 rfl rfl ?_
  replace h := Option.bind_eq_some_iff.mp h; obtain ⟨⟨x3, σ1⟩, e2, h⟩ := h
  dsimp only at h
  refine z_callS (av := [va_rf (v2)]) (st := [.int (v1), .int (v0)]) wS_java_lang_StringUTF16_48 (t_StringUTF16_length hG e2) (by decide) (by decide) d_StringUTF16_checkBoundsOffCount_3 (by simp [z_rfc, z_ci, z_cl, z_cr, z_cn]) ?_
  show Z _ _ _ _ _ _ 6 [(0, .int (v0)), (1, .int (v1)), (2, va_rf (v2))] [.int (x3), .int (v1), .int (v0)] _
  replace h := Option.bind_eq_some_iff.mp h; obtain ⟨⟨x6, σ4⟩, e5, h⟩ := h
  dsimp only at h
  refine z_callS (av := [.int (v0), .int (v1), .int (x3)]) (st := []) wS_java_lang_StringUTF16_419 (t_String_checkBoundsOffCount hG e5) (by decide) (by decide) d_StringUTF16_checkBoundsOffCount_6 (by simp [z_rfc, z_ci, z_cl, z_cr, z_cn]) ?_
  show Z _ _ _ _ _ _ 9 [(0, .int (v0)), (1, .int (v1)), (2, va_rf (v2))] [.int (x6)] _
  refine z_pop d_StringUTF16_checkBoundsOffCount_9 rfl ?_
  cases h
  exact z_vret rfl rfl d_StringUTF16_checkBoundsOffCount_10

def s_StringUTF16_putCharSB (g : zG) (v0 : Option Nat) (v1 : Int32) (v2 : Int32) (σ : zS) : Option (zS) := (s_StringUTF16_checkIndex g v1 v0 σ).bind fun σ1 => (s_StringUTF16_putChar g v0 v1 v2 σ1).bind fun σ4 => some σ4
set_option maxRecDepth 100000 in
theorem t_StringUTF16_putCharSB {l : Launch} {D : zD} {g : zG} (hG : zGok g D) {v0 : Option Nat} {v1 : Int32} {v2 : Int32} {σ : zS} {q : zS} (h : s_StringUTF16_putCharSB g v0 v1 v2 σ = some q) : zMet l D Y_StringUTF16_putCharSB K_StringUTF16_putCharSB 3 64 [va_rf (v0), .int (v1), .int (v2)] σ (.returned none, q) := by
  refine zMet.ofZ (by decide) rfl (fun q => by cases q) (by simp [lg_sl, z_rfc, z_ci, z_cl, z_cr, z_cn]) ?_
  rw [show lv_args 0 ([va_rf (v0), .int (v1), .int (v2)] : List Value) = [(0, va_rf (v0)), (1, .int (v1)), (2, .int (v2))] from by simp [lv_args, z_rfc, z_ci, z_cl, z_cr, z_cn]]
  unfold s_StringUTF16_putCharSB at h
  refine z_iload_n 1 d_StringUTF16_putCharSB_0 rfl rfl ?_
  refine z_aload_nR 0 d_StringUTF16_putCharSB_1 rfl rfl ?_
  replace h := Option.bind_eq_some_iff.mp h; obtain ⟨σ1, e2, h⟩ := h
  refine z_callS (av := [.int (v1), va_rf (v0)]) (st := []) wS_java_lang_StringUTF16_67 (t_StringUTF16_checkIndex hG e2) (by decide) (by decide) d_StringUTF16_putCharSB_2 (by simp [z_rfc, z_ci, z_cl, z_cr, z_cn]) ?_
  show Z _ _ _ _ _ _ 5 [(0, va_rf (v0)), (1, .int (v1)), (2, .int (v2))] [] _
  refine z_aload_nR 0 d_StringUTF16_putCharSB_5 rfl rfl ?_
  refine z_iload_n 1 d_StringUTF16_putCharSB_6 rfl rfl ?_
  refine z_iload_n 2 d_StringUTF16_putCharSB_7 rfl rfl ?_
  replace h := Option.bind_eq_some_iff.mp h; obtain ⟨σ4, e5, h⟩ := h
  refine z_callS (av := [va_rf (v0), .int (v1), .int (v2)]) (st := []) wS_java_lang_StringUTF16_111 (t_StringUTF16_putChar hG e5) (by decide) (by decide) d_StringUTF16_putCharSB_8 (by simp [z_rfc, z_ci, z_cl, z_cr, z_cn]) ?_
  show Z _ _ _ _ _ _ 11 [(0, va_rf (v0)), (1, .int (v1)), (2, .int (v2))] [] _
  cases h
  exact z_vret rfl rfl d_StringUTF16_putCharSB_11

def s_StringUTF16_checkBoundsBeginEnd (g : zG) (v0 : Int32) (v1 : Int32) (v2 : Option Nat) (σ : zS) : Option (zS) := (s_StringUTF16_length g v2 σ).bind fun (x3, σ1) => (s_String_checkBoundsBeginEnd g v0 v1 x3 σ1).bind fun σ4 => some σ4
set_option maxRecDepth 100000 in
theorem t_StringUTF16_checkBoundsBeginEnd {l : Launch} {D : zD} {g : zG} (hG : zGok g D) {v0 : Int32} {v1 : Int32} {v2 : Option Nat} {σ : zS} {q : zS} (h : s_StringUTF16_checkBoundsBeginEnd g v0 v1 v2 σ = some q) : zMet l D Y_StringUTF16_checkBoundsBeginEnd K_StringUTF16_checkBoundsBeginEnd 2 45 [.int (v0), .int (v1), va_rf (v2)] σ (.returned none, q) := by
  refine zMet.ofZ (by decide) rfl (fun q => by cases q) (by simp [lg_sl, z_rfc, z_ci, z_cl, z_cr, z_cn]) ?_
  rw [show lv_args 0 ([.int (v0), .int (v1), va_rf (v2)] : List Value) = [(0, .int (v0)), (1, .int (v1)), (2, va_rf (v2))] from by simp [lv_args, z_rfc, z_ci, z_cl, z_cr, z_cn]]
  unfold s_StringUTF16_checkBoundsBeginEnd at h
  refine z_iload_n 0 d_StringUTF16_checkBoundsBeginEnd_0 rfl rfl ?_
  refine z_iload_n 1 d_StringUTF16_checkBoundsBeginEnd_1 rfl rfl ?_
  refine z_aload_nR 2 d_StringUTF16_checkBoundsBeginEnd_2 rfl rfl ?_
  replace h := Option.bind_eq_some_iff.mp h; obtain ⟨⟨x3, σ1⟩, e2, h⟩ := h
  dsimp only at h
  refine z_callS (av := [va_rf (v2)]) (st := [.int (v1), .int (v0)]) wS_java_lang_StringUTF16_48 (t_StringUTF16_length hG e2) (by decide) (by decide) d_StringUTF16_checkBoundsBeginEnd_3 (by simp [z_rfc, z_ci, z_cl, z_cr, z_cn]) ?_
  show Z _ _ _ _ _ _ 6 [(0, .int (v0)), (1, .int (v1)), (2, va_rf (v2))] [.int (x3), .int (v1), .int (v0)] _
  replace h := Option.bind_eq_some_iff.mp h; obtain ⟨σ4, e5, h⟩ := h
  refine z_callS (av := [.int (v0), .int (v1), .int (x3)]) (st := []) wS_java_lang_StringUTF16_241 (t_String_checkBoundsBeginEnd hG e5) (by decide) (by decide) d_StringUTF16_checkBoundsBeginEnd_6 (by simp [z_rfc, z_ci, z_cl, z_cr, z_cn]) ?_
  show Z _ _ _ _ _ _ 9 [(0, .int (v0)), (1, .int (v1)), (2, va_rf (v2))] [] _
  cases h
  exact z_vret rfl rfl d_StringUTF16_checkBoundsBeginEnd_9

def s_Arrays_copyOfRange_10 (g : zG)  (v0 : Option Nat) (v1 : Int32) (v2 : Int32) (σ : zS) : Option (Option Nat × zS) := (s_Arrays_copyOfRangeByte g v0 v1 v2 σ).bind fun (x3, σ1) => some (x3, σ1)
def s_Arrays_copyOfRange (g : zG) (v0 : Option Nat) (v1 : Int32) (v2 : Int32) (σ : zS) : Option (Option Nat × zS) := if v1 = 0 then (v0).bind fun a2 => (zal σ a2 2).bind fun x3 => if v2 = x3 then (zcl1 σ a2).bind fun σ6 => (zoa σ6 (σ.1) 2).bind fun _ => some (some (σ.1), σ6) else s_Arrays_copyOfRange_10 g  (some (a2)) (v1) (v2) σ else s_Arrays_copyOfRange_10 g  (v0) (v1) (v2) σ
set_option maxRecDepth 100000 in
theorem t_Arrays_copyOfRange_10 {l : Launch} {D : zD} {g : zG} (hG : zGok g D) {q : Option Nat × zS}   {v0 : Option Nat} {v1 : Int32} {v2 : Int32} {σ : zS} (h : s_Arrays_copyOfRange_10 g  v0 v1 v2 σ = some q) : Z l D K_Arrays_copyOfRange 2 48 (.returned (some (va_rf q.1)), q.2) 10 [(0, va_rf (v0)), (1, .int (v1)), (2, .int (v2))] [] σ := by
  unfold s_Arrays_copyOfRange_10 at h
  refine z_aload_nR 0 d_Arrays_copyOfRange_10 rfl rfl ?_
  refine z_iload_n 1 d_Arrays_copyOfRange_11 rfl rfl ?_
  refine z_iload_n 2 d_Arrays_copyOfRange_12 rfl rfl ?_
  replace h := Option.bind_eq_some_iff.mp h; obtain ⟨⟨x3, σ1⟩, e2, h⟩ := h
  dsimp only at h
  refine z_callS (av := [va_rf (v0), .int (v1), .int (v2)]) (st := []) wS_java_util_Arrays_339 (t_Arrays_copyOfRangeByte hG e2) (by decide) (by decide) d_Arrays_copyOfRange_13 (by simp [z_rfc, z_ci, z_cl, z_cr, z_cn]) ?_
  show Z _ _ _ _ _ _ 16 [(0, va_rf (v0)), (1, .int (v1)), (2, .int (v2))] [va_rf (x3)] _
  cases h
  exact z_aret (r := x3) rfl (Or.inr ⟨_, rfl⟩) rfl d_Arrays_copyOfRange_16
set_option maxRecDepth 100000 in
theorem t_Arrays_copyOfRange {l : Launch} {D : zD} {g : zG} (hG : zGok g D) {v0 : Option Nat} {v1 : Int32} {v2 : Int32} {σ : zS} {q : Option Nat × zS} (h : s_Arrays_copyOfRange g v0 v1 v2 σ = some q) : zMet l D Y_Arrays_copyOfRange K_Arrays_copyOfRange 2 48 [va_rf (v0), .int (v1), .int (v2)] σ (.returned (some (va_rf q.1)), q.2) := by
  refine zMet.ofZ (by decide) rfl (fun q => by cases q) (by simp [lg_sl, z_rfc, z_ci, z_cl, z_cr, z_cn]) ?_
  rw [show lv_args 0 ([va_rf (v0), .int (v1), .int (v2)] : List Value) = [(0, va_rf (v0)), (1, .int (v1)), (2, .int (v2))] from by simp [lv_args, z_rfc, z_ci, z_cl, z_cr, z_cn]]
  unfold s_Arrays_copyOfRange at h
  refine z_iload_n 1 d_Arrays_copyOfRange_0 rfl rfl ?_
  refine z_if_ne (tgt := 10) d_Arrays_copyOfRange_1 rfl (fun c1 => ?_) (fun c1 => ?_)
  · rw [if_neg c1] at h
    refine z_lv (lv' := [(0, va_rf (v0)), (1, .int (v1)), (2, .int (v2))]) [0, 1, 2] rfl ?_
    exact t_Arrays_copyOfRange_10 hG   h
  · rw [if_pos c1] at h
    refine z_iload_n 2 d_Arrays_copyOfRange_4 rfl rfl ?_
    refine z_aload_nR 0 d_Arrays_copyOfRange_5 rfl rfl ?_
    replace h := Option.bind_eq_some_iff.mp h; obtain ⟨a2, rfl, h⟩ := h
    replace h := Option.bind_eq_some_iff.mp h; obtain ⟨x3, e4, h⟩ := h
    refine z_alen (t := 2) rfl d_Arrays_copyOfRange_6 e4 ?_
    refine z_icmp_eq (tgt := 17) d_Arrays_copyOfRange_7 rfl (fun c5 => ?_) (fun c5 => ?_)
    · rw [if_pos c5] at h
      refine z_aload_n 0 d_Arrays_copyOfRange_17 rfl rfl ?_
      replace h := Option.bind_eq_some_iff.mp h; obtain ⟨σ6, e7, h⟩ := h
      refine z_cloneB wQ_java_util_Arrays_310 (by decide) (by simp [z_rfc, z_ci, z_cl, z_cr, z_cn]) d_Arrays_copyOfRange_18 e7 ?_
      replace h := Option.bind_eq_some_iff.mp h; obtain ⟨_, e8, h⟩ := h
      refine z_castB wQk_java_util_Arrays_311 d_Arrays_copyOfRange_21 e8 ?_
      cases h
      exact z_aret (r := some (σ.1)) rfl (Or.inr ⟨_, rfl⟩) rfl d_Arrays_copyOfRange_24
    · rw [if_neg c5] at h
      refine z_lv (lv' := [(0, va_rf (some (a2))), (1, .int (v1)), (2, .int (v2))]) [0, 1, 2] rfl ?_
      exact t_Arrays_copyOfRange_10 hG   h

def s_StringUTF16_compress2_10 (g : zG)  : Nat → Option Nat → Int32 → Option Nat → Int32 → Int32 → Int32 → zS → Option (Int32 × zS)
  | 0, _, _, _, _, _, _, _ => none
  | n + 1, v0, v1, v2, v3, v4, v5, σ => if v4 ≤ v5 then some (v4, σ) else (s_StringUTF16_getChar g v0 v1 σ).bind fun (x4, σ2) => if x4 ≤ 255 then (v2).bind fun a6 => (zsI σ2 a6 2 (v3) (vp_nar .byte (x4.toInt8.toInt32))).bind fun σ7 => s_StringUTF16_compress2_10 g  n (v0) (v1 + 1) (some (a6)) (v3 + 1) (v4) (v5 + 1) σ7 else some (v5, σ2)
def s_StringUTF16_compress2 (g : zG) (v0 : Option Nat) (v1 : Int32) (v2 : Option Nat) (v3 : Int32) (v4 : Int32) (σ : zS) : Option (Int32 × zS) := (s_StringUTF16_checkBoundsOffCount g v1 v4 v0 σ).bind fun σ1 => s_StringUTF16_compress2_10 g  zfuel (v0) (v1) (v2) (v3) (v4) (0) σ1
set_option maxRecDepth 100000 in
theorem t_StringUTF16_compress2_10 {l : Launch} {D : zD} {g : zG} (hG : zGok g D) {q : Int32 × zS}   : ∀ (n : Nat) {v0 : Option Nat} {v1 : Int32} {v2 : Option Nat} {v3 : Int32} {v4 : Int32} {v5 : Int32} {σ : zS}, s_StringUTF16_compress2_10 g  n v0 v1 v2 v3 v4 v5 σ = some q → Z l D K_StringUTF16_compress2 3 67 (.returned (some (.int q.1)), q.2) 10 [(0, va_rf (v0)), (1, .int (v1)), (2, va_rf (v2)), (3, .int (v3)), (4, .int (v4)), (5, .int (v5))] [] σ := by
  intro n
  induction n with
  | zero =>
    intro v0 v1 v2 v3 v4 v5 σ h
    cases h
  | succ n ih =>
    intro v0 v1 v2 v3 v4 v5 σ h
    first | rw [s_StringUTF16_compress2_10] at h | (unfold s_StringUTF16_compress2_10 at h; dsimp only at h)
    refine z_iload 5 d_StringUTF16_compress2_10 rfl ?_
    refine z_iload 4 d_StringUTF16_compress2_12 rfl ?_
    refine z_icmp_ge (tgt := 53) d_StringUTF16_compress2_14 rfl (fun c1 => ?_) (fun c1 => ?_)
    · rw [if_pos c1] at h
      refine z_iload 4 d_StringUTF16_compress2_53 rfl ?_
      cases h
      exact z_iret rfl rfl d_StringUTF16_compress2_55
    · rw [if_neg c1] at h
      refine z_aload_nR 0 d_StringUTF16_compress2_17 rfl rfl ?_
      refine z_iload_n 1 d_StringUTF16_compress2_18 rfl rfl ?_
      replace h := Option.bind_eq_some_iff.mp h; obtain ⟨⟨x4, σ2⟩, e3, h⟩ := h
      dsimp only at h
      refine z_callS (av := [va_rf (v0), .int (v1)]) (st := []) wS_java_lang_StringUTF16_71 (t_StringUTF16_getChar hG e3) (by decide) (by decide) d_StringUTF16_compress2_19 (by simp [z_rfc, z_ci, z_cl, z_cr, z_cn]) ?_
      show Z _ _ _ _ _ _ 22 [(0, va_rf (v0)), (1, .int (v1)), (2, va_rf (v2)), (3, .int (v3)), (4, .int (v4)), (5, .int (v5))] [.int (x4)] _
      refine z_istore (j := 6) (lv' := [(6, .int (x4)), (0, va_rf (v0)), (1, .int (v1)), (2, va_rf (v2)), (3, .int (v3)), (4, .int (v4)), (5, .int (v5))]) d_StringUTF16_compress2_22 (by decide) rfl ?_
      refine z_iload 0 d_StringUTF16_compress2_24 rfl ?_
      refine z_sipush (v := 255) d_StringUTF16_compress2_26 rfl ?_
      refine z_icmp_le (tgt := 35) d_StringUTF16_compress2_29 rfl (fun c5 => ?_) (fun c5 => ?_)
      · rw [if_pos c5] at h
        refine z_aload_nR 3 d_StringUTF16_compress2_35 rfl rfl ?_
        refine z_iload_n 4 d_StringUTF16_compress2_36 rfl rfl ?_
        refine z_iload 0 d_StringUTF16_compress2_37 rfl ?_
        refine z_i2b d_StringUTF16_compress2_39 ?_
        replace h := Option.bind_eq_some_iff.mp h; obtain ⟨a6, rfl, h⟩ := h
        replace h := Option.bind_eq_some_iff.mp h; obtain ⟨σ7, e8, h⟩ := h
        refine z_bastore rfl d_StringUTF16_compress2_40 e8 ?_
        refine z_iinc (v := v1 + 1) (lv' := [(1, .int (v1 + 1)), (6, .int (x4)), (0, va_rf (v0)), (2, .ref (a6)), (3, .int (v3)), (4, .int (v4)), (5, .int (v5))]) 2 d_StringUTF16_compress2_41 rfl rfl (by decide) (by simp [z_rfc, z_ci, z_cl, z_cr, z_cn] <;> rfl) ?_
        refine z_iinc (v := v3 + 1) (lv' := [(3, .int (v3 + 1)), (1, .int (v1 + 1)), (6, .int (x4)), (0, va_rf (v0)), (2, .ref (a6)), (4, .int (v4)), (5, .int (v5))]) 4 d_StringUTF16_compress2_44 rfl rfl (by decide) rfl ?_
        refine z_iinc (v := v5 + 1) (lv' := [(5, .int (v5 + 1)), (3, .int (v3 + 1)), (1, .int (v1 + 1)), (6, .int (x4)), (0, va_rf (v0)), (2, .ref (a6)), (4, .int (v4))]) 6 d_StringUTF16_compress2_47 rfl rfl (by decide) rfl ?_
        refine z_goto (tgt := 10) d_StringUTF16_compress2_50 rfl ?_
        refine z_lv (lv' := [(0, va_rf (v0)), (1, .int (v1 + 1)), (2, va_rf (some (a6))), (3, .int (v3 + 1)), (4, .int (v4)), (5, .int (v5 + 1))]) [4, 2, 5, 1, 6, 0] rfl ?_
        exact ih h
      · rw [if_neg c5] at h
        refine z_iload 6 d_StringUTF16_compress2_32 rfl ?_
        cases h
        exact z_iret rfl rfl d_StringUTF16_compress2_34
set_option maxRecDepth 100000 in
theorem t_StringUTF16_compress2 {l : Launch} {D : zD} {g : zG} (hG : zGok g D) {v0 : Option Nat} {v1 : Int32} {v2 : Option Nat} {v3 : Int32} {v4 : Int32} {σ : zS} {q : Int32 × zS} (h : s_StringUTF16_compress2 g v0 v1 v2 v3 v4 σ = some q) : zMet l D Y_StringUTF16_compress2 K_StringUTF16_compress2 3 67 [va_rf (v0), .int (v1), va_rf (v2), .int (v3), .int (v4)] σ (.returned (some (.int q.1)), q.2) := by
  refine zMet.ofZ (by decide) rfl (fun q => by cases q) (by simp [lg_sl, z_rfc, z_ci, z_cl, z_cr, z_cn]) ?_
  rw [show lv_args 0 ([va_rf (v0), .int (v1), va_rf (v2), .int (v3), .int (v4)] : List Value) = [(0, va_rf (v0)), (1, .int (v1)), (2, va_rf (v2)), (3, .int (v3)), (4, .int (v4))] from by simp [lv_args, z_rfc, z_ci, z_cl, z_cr, z_cn]]
  unfold s_StringUTF16_compress2 at h
  refine z_iload_n 1 d_StringUTF16_compress2_0 rfl rfl ?_
  refine z_iload 4 d_StringUTF16_compress2_1 rfl ?_
  refine z_aload_nR 0 d_StringUTF16_compress2_3 rfl rfl ?_
  replace h := Option.bind_eq_some_iff.mp h; obtain ⟨σ1, e2, h⟩ := h
  refine z_callS (av := [.int (v1), .int (v4), va_rf (v0)]) (st := []) wS_java_lang_StringUTF16_173 (t_StringUTF16_checkBoundsOffCount hG e2) (by decide) (by decide) d_StringUTF16_compress2_4 (by simp [z_rfc, z_ci, z_cl, z_cr, z_cn]) ?_
  show Z _ _ _ _ _ _ 7 [(0, va_rf (v0)), (1, .int (v1)), (2, va_rf (v2)), (3, .int (v3)), (4, .int (v4))] [] _
  refine z_iconst (v := 0) d_StringUTF16_compress2_7 rfl ?_
  refine z_istore (j := 5) (lv' := [(5, .int (0)), (0, va_rf (v0)), (1, .int (v1)), (2, va_rf (v2)), (3, .int (v3)), (4, .int (v4))]) d_StringUTF16_compress2_8 (by decide) rfl ?_
  refine z_lv (lv' := [(0, va_rf (v0)), (1, .int (v1)), (2, va_rf (v2)), (3, .int (v3)), (4, .int (v4)), (5, .int (0))]) [1, 2, 3, 4, 5, 0] rfl ?_
  exact t_StringUTF16_compress2_10 hG   zfuel h

def s_String_charAt (g : zG) (v0 : Nat) (v1 : Int32) (σ : zS) : Option (Int32 × zS) := (zis σ v0 13).bind fun _ => (s_String_isLatin1 g v0  σ).bind fun (x3, σ1) => if x3 = 0 then (zgR σ1 v0 13 0).bind fun x5 => (s_StringUTF16_charAt g x5 v1 σ1).bind fun (x9, σ7) => if vp_nar .char x9 = x9 then some (x9, σ7) else none else (zgR σ1 v0 13 0).bind fun x11 => (s_StringLatin1_charAt g x11 v1 σ1).bind fun (x15, σ13) => if vp_nar .char x15 = x15 then some (x15, σ13) else none
set_option maxRecDepth 100000 in
theorem t_String_charAt {l : Launch} {D : zD} {g : zG} (hG : zGok g D) {v0 : Nat} {v1 : Int32} {σ : zS} {q : Int32 × zS} (h : s_String_charAt g v0 v1 σ = some q) : zMet l D Y_String_charAt K_String_charAt 4 85 [.ref (v0), .int (v1)] σ (.returned (some (.int q.1)), q.2) := by
  refine zMet.ofZ (by decide) rfl (fun q => by cases q) (Nat.le_of_ble_eq_true rfl) ?_
  show Z _ _ _ _ _ _ 0 [(0, .ref (v0)), (1, .int (v1))] [] _
  unfold s_String_charAt at h
  refine z_aload_n 0 d_String_charAt_0 rfl rfl ?_
  replace h := Option.bind_eq_some_iff.mp h; obtain ⟨_, e17, h⟩ := h
  obtain ⟨b18, f19, e17⟩ := zcls_at (zis_at e17)
  replace h := Option.bind_eq_some_iff.mp h; obtain ⟨⟨x3, σ1⟩, e2, h⟩ := h
  dsimp only at h
  refine z_callV (av := []) (st := []) wV_java_lang_String_492 e17 (t_String_isLatin1 hG e2) (by decide) (by decide) d_String_charAt_1 (by simp [z_rfc, z_ci, z_cl, z_cr, z_cn]) ?_
  show Z _ _ _ _ _ _ 4 [(0, .ref (v0)), (1, .int (v1))] [.int (x3)] _
  refine z_if_eq (tgt := 16) d_String_charAt_4 rfl (fun c4 => ?_) (fun c4 => ?_)
  · rw [if_pos c4] at h
    refine z_aload_n 0 d_String_charAt_16 rfl rfl ?_
    replace h := Option.bind_eq_some_iff.mp h; obtain ⟨x5, e6, h⟩ := h
    refine z_getR wF_java_lang_String_9_13 d_String_charAt_17 e6 ?_
    refine z_iload_n 1 d_String_charAt_20 rfl rfl ?_
    replace h := Option.bind_eq_some_iff.mp h; obtain ⟨⟨x9, σ7⟩, e8, h⟩ := h
    dsimp only at h
    refine z_callS (av := [va_rf (x5), .int (v1)]) (st := []) wS_java_lang_String_498 (t_StringUTF16_charAt hG e8) (by decide) (by decide) d_String_charAt_21 (by simp [z_rfc, z_ci, z_cl, z_cr, z_cn]) ?_
    show Z _ _ _ _ _ _ 24 [(0, .ref (v0)), (1, .int (v1))] [.int (x9)] _
    by_cases c10 : vp_nar .char x9 = x9
    rotate_left
    · rw [if_neg c10] at h; cases h
    rw [if_pos c10] at h
    cases h
    exact z_zret rfl (z_nc c10) rfl d_String_charAt_24
  · rw [if_neg c4] at h
    refine z_aload_n 0 d_String_charAt_7 rfl rfl ?_
    replace h := Option.bind_eq_some_iff.mp h; obtain ⟨x11, e12, h⟩ := h
    refine z_getR wF_java_lang_String_9_13 d_String_charAt_8 e12 ?_
    refine z_iload_n 1 d_String_charAt_11 rfl rfl ?_
    replace h := Option.bind_eq_some_iff.mp h; obtain ⟨⟨x15, σ13⟩, e14, h⟩ := h
    dsimp only at h
    refine z_callS (av := [va_rf (x11), .int (v1)]) (st := []) wS_java_lang_String_495 (t_StringLatin1_charAt hG e14) (by decide) (by decide) d_String_charAt_12 (by simp [z_rfc, z_ci, z_cl, z_cr, z_cn]) ?_
    show Z _ _ _ _ _ _ 15 [(0, .ref (v0)), (1, .int (v1))] [.int (x15)] _
    by_cases c16 : vp_nar .char x15 = x15
    rotate_left
    · rw [if_neg c16] at h; cases h
    rw [if_pos c16] at h
    cases h
    exact z_zret rfl (z_nc c16) rfl d_String_charAt_15

def s_ArrayList_grow (g : zG) (v0 : Nat) (σ : zS) : Option (Option Nat × zS) := (zgI σ v0 3 1).bind fun x1 => (zis σ v0 3).bind fun _ => (s_ArrayList_grow2 g v0 (x1 + 1) σ).bind fun (x5, σ3) => some (x5, σ3)
set_option maxRecDepth 100000 in
theorem t_ArrayList_grow {l : Launch} {D : zD} {g : zG} (hG : zGok g D) {v0 : Nat} {σ : zS} {q : Option Nat × zS} (h : s_ArrayList_grow g v0 σ = some q) : zMet l D Y_ArrayList_grow K_ArrayList_grow 4 91 [.ref (v0)] σ (.returned (some (va_rf q.1)), q.2) := by
  refine zMet.ofZ (by decide) rfl (fun q => by cases q) (Nat.le_of_ble_eq_true rfl) ?_
  show Z _ _ _ _ _ _ 0 [(0, .ref (v0))] [] _
  unfold s_ArrayList_grow at h
  refine z_aload_n 0 d_ArrayList_grow_0 rfl rfl ?_
  refine z_aload_n 0 d_ArrayList_grow_1 rfl rfl ?_
  replace h := Option.bind_eq_some_iff.mp h; obtain ⟨x1, e2, h⟩ := h
  refine z_getI wF_java_util_ArrayList_48_3 d_ArrayList_grow_2 e2 ?_
  refine z_iconst (v := 1) d_ArrayList_grow_5 rfl ?_
  refine z_iadd d_ArrayList_grow_6 ?_
  replace h := Option.bind_eq_some_iff.mp h; obtain ⟨_, e6, h⟩ := h
  obtain ⟨b7, f8, e6⟩ := zcls_at (zis_at e6)
  replace h := Option.bind_eq_some_iff.mp h; obtain ⟨⟨x5, σ3⟩, e4, h⟩ := h
  dsimp only at h
  refine z_callV (av := [.int (x1 + 1)]) (st := []) wV_java_util_ArrayList_69 e6 (t_ArrayList_grow2 hG e4) (by decide) (by decide) d_ArrayList_grow_7 (by simp [z_rfc, z_ci, z_cl, z_cr, z_cn]) ?_
  show Z _ _ _ _ _ _ 10 [(0, .ref (v0))] [va_rf (x5)] _
  cases h
  exact z_aret (r := x5) rfl (Or.inr ⟨_, rfl⟩) rfl d_ArrayList_grow_10

def s_StringUTF16_inflate_10 (g : zG)  : Nat → Option Nat → Int32 → Option Nat → Int32 → Int32 → Int32 → zS → Option (zS)
  | 0, _, _, _, _, _, _, _ => none
  | n + 1, v0, v1, v2, v3, v4, v5, σ => if v4 ≤ v5 then some σ else (v0).bind fun a2 => (zaI σ a2 2 (v1)).bind fun x3 => (s_StringUTF16_putChar g v2 v3 (x3 &&& 255) σ).bind fun σ5 => s_StringUTF16_inflate_10 g  n (some (a2)) (v1 + 1) (v2) (v3 + 1) (v4) (v5 + 1) σ5
def s_StringUTF16_inflate (g : zG) (v0 : Option Nat) (v1 : Int32) (v2 : Option Nat) (v3 : Int32) (v4 : Int32) (σ : zS) : Option (zS) := (s_StringUTF16_checkBoundsOffCount g v3 v4 v2 σ).bind fun σ1 => s_StringUTF16_inflate_10 g  zfuel (v0) (v1) (v2) (v3) (v4) (0) σ1
set_option maxRecDepth 100000 in
theorem t_StringUTF16_inflate_10 {l : Launch} {D : zD} {g : zG} (hG : zGok g D) {q : zS}   : ∀ (n : Nat) {v0 : Option Nat} {v1 : Int32} {v2 : Option Nat} {v3 : Int32} {v4 : Int32} {v5 : Int32} {σ : zS}, s_StringUTF16_inflate_10 g  n v0 v1 v2 v3 v4 v5 σ = some q → Z l D K_StringUTF16_inflate 3 67 (.returned none, q) 10 [(0, va_rf (v0)), (1, .int (v1)), (2, va_rf (v2)), (3, .int (v3)), (4, .int (v4)), (5, .int (v5))] [] σ := by
  intro n
  induction n with
  | zero =>
    intro v0 v1 v2 v3 v4 v5 σ h
    cases h
  | succ n ih =>
    intro v0 v1 v2 v3 v4 v5 σ h
    first | rw [s_StringUTF16_inflate_10] at h | (unfold s_StringUTF16_inflate_10 at h; dsimp only at h)
    refine z_iload 5 d_StringUTF16_inflate_10 rfl ?_
    refine z_iload 4 d_StringUTF16_inflate_12 rfl ?_
    refine z_icmp_ge (tgt := 41) d_StringUTF16_inflate_14 rfl (fun c1 => ?_) (fun c1 => ?_)
    · rw [if_pos c1] at h
      cases h
      exact z_vret rfl rfl d_StringUTF16_inflate_41
    · rw [if_neg c1] at h
      refine z_aload_nR 2 d_StringUTF16_inflate_17 rfl rfl ?_
      refine z_iload_n 3 d_StringUTF16_inflate_18 rfl rfl ?_
      refine z_iinc (v := v3 + 1) (lv' := [(3, .int (v3 + 1)), (0, va_rf (v0)), (1, .int (v1)), (2, va_rf (v2)), (4, .int (v4)), (5, .int (v5))]) 3 d_StringUTF16_inflate_19 rfl rfl (by decide) (by simp [z_rfc, z_ci, z_cl, z_cr, z_cn] <;> rfl) ?_
      refine z_aload_nR 1 d_StringUTF16_inflate_22 rfl rfl ?_
      refine z_iload_n 2 d_StringUTF16_inflate_23 rfl rfl ?_
      refine z_iinc (v := v1 + 1) (lv' := [(1, .int (v1 + 1)), (3, .int (v3 + 1)), (0, va_rf (v0)), (2, va_rf (v2)), (4, .int (v4)), (5, .int (v5))]) 2 d_StringUTF16_inflate_24 rfl rfl (by decide) (by simp [z_rfc, z_ci, z_cl, z_cr, z_cn] <;> rfl) ?_
      replace h := Option.bind_eq_some_iff.mp h; obtain ⟨a2, rfl, h⟩ := h
      replace h := Option.bind_eq_some_iff.mp h; obtain ⟨x3, e4, h⟩ := h
      refine z_baload rfl d_StringUTF16_inflate_27 e4 ?_
      refine z_sipush (v := 255) d_StringUTF16_inflate_28 rfl ?_
      refine z_iand d_StringUTF16_inflate_31 ?_
      replace h := Option.bind_eq_some_iff.mp h; obtain ⟨σ5, e6, h⟩ := h
      refine z_callS (av := [va_rf (v2), .int (v3), .int (x3 &&& 255)]) (st := []) wS_java_lang_StringUTF16_111 (t_StringUTF16_putChar hG e6) (by decide) (by decide) d_StringUTF16_inflate_32 (by simp [z_rfc, z_ci, z_cl, z_cr, z_cn]) ?_
      show Z _ _ _ _ _ _ 35 [(1, .int (v1 + 1)), (3, .int (v3 + 1)), (0, .ref (a2)), (2, va_rf (v2)), (4, .int (v4)), (5, .int (v5))] [] _
      refine z_iinc (v := v5 + 1) (lv' := [(5, .int (v5 + 1)), (1, .int (v1 + 1)), (3, .int (v3 + 1)), (0, .ref (a2)), (2, va_rf (v2)), (4, .int (v4))]) 5 d_StringUTF16_inflate_35 rfl rfl (by decide) rfl ?_
      refine z_goto (tgt := 10) d_StringUTF16_inflate_38 rfl ?_
      refine z_lv (lv' := [(0, va_rf (some (a2))), (1, .int (v1 + 1)), (2, va_rf (v2)), (3, .int (v3 + 1)), (4, .int (v4)), (5, .int (v5 + 1))]) [3, 1, 4, 2, 5, 0] rfl ?_
      exact ih h
set_option maxRecDepth 100000 in
theorem t_StringUTF16_inflate {l : Launch} {D : zD} {g : zG} (hG : zGok g D) {v0 : Option Nat} {v1 : Int32} {v2 : Option Nat} {v3 : Int32} {v4 : Int32} {σ : zS} {q : zS} (h : s_StringUTF16_inflate g v0 v1 v2 v3 v4 σ = some q) : zMet l D Y_StringUTF16_inflate K_StringUTF16_inflate 3 67 [va_rf (v0), .int (v1), va_rf (v2), .int (v3), .int (v4)] σ (.returned none, q) := by
  refine zMet.ofZ (by decide) rfl (fun q => by cases q) (by simp [lg_sl, z_rfc, z_ci, z_cl, z_cr, z_cn]) ?_
  rw [show lv_args 0 ([va_rf (v0), .int (v1), va_rf (v2), .int (v3), .int (v4)] : List Value) = [(0, va_rf (v0)), (1, .int (v1)), (2, va_rf (v2)), (3, .int (v3)), (4, .int (v4))] from by simp [lv_args, z_rfc, z_ci, z_cl, z_cr, z_cn]]
  unfold s_StringUTF16_inflate at h
  refine z_iload_n 3 d_StringUTF16_inflate_0 rfl rfl ?_
  refine z_iload 4 d_StringUTF16_inflate_1 rfl ?_
  refine z_aload_nR 2 d_StringUTF16_inflate_3 rfl rfl ?_
  replace h := Option.bind_eq_some_iff.mp h; obtain ⟨σ1, e2, h⟩ := h
  refine z_callS (av := [.int (v3), .int (v4), va_rf (v2)]) (st := []) wS_java_lang_StringUTF16_173 (t_StringUTF16_checkBoundsOffCount hG e2) (by decide) (by decide) d_StringUTF16_inflate_4 (by simp [z_rfc, z_ci, z_cl, z_cr, z_cn]) ?_
  show Z _ _ _ _ _ _ 7 [(0, va_rf (v0)), (1, .int (v1)), (2, va_rf (v2)), (3, .int (v3)), (4, .int (v4))] [] _
  refine z_iconst (v := 0) d_StringUTF16_inflate_7 rfl ?_
  refine z_istore (j := 5) (lv' := [(5, .int (0)), (0, va_rf (v0)), (1, .int (v1)), (2, va_rf (v2)), (3, .int (v3)), (4, .int (v4))]) d_StringUTF16_inflate_8 (by decide) rfl ?_
  refine z_lv (lv' := [(0, va_rf (v0)), (1, .int (v1)), (2, va_rf (v2)), (3, .int (v3)), (4, .int (v4)), (5, .int (0))]) [1, 2, 3, 4, 5, 0] rfl ?_
  exact t_StringUTF16_inflate_10 hG   zfuel h

def s_StringUTF16_putCharsAt_70 (g : zG)  (v0 : Option Nat) (v1 : Int32) (v2 : Int32) (v3 : Int32) (v4 : Int32) (v5 : Int32) (v6 : Int32) (σ : zS) : Option (Int32 × zS) := some (v6, σ)
def s_StringUTF16_putCharsAt (g : zG) (v0 : Option Nat) (v1 : Int32) (v2 : Int32) (v3 : Int32) (v4 : Int32) (v5 : Int32) (σ : zS) : Option (Int32 × zS) := (s_StringUTF16_checkBoundsBeginEnd g v1 (v1 + 4) v0 σ).bind fun σ1 => (s_StringUTF16_putChar g v0 v1 v2 σ1).bind fun σ4 => (s_StringUTF16_putChar g v0 (v1 + 1) v3 σ4).bind fun σ7 => (s_StringUTF16_putChar g v0 ((v1 + 1) + 1) v4 σ7).bind fun σ10 => (s_StringUTF16_putChar g v0 (((v1 + 1) + 1) + 1) v5 σ10).bind fun σ13 => s_StringUTF16_putCharsAt_70 g  (v0) ((((v1 + 1) + 1) + 1) + 1) (v2) (v3) (v4) (v5) (v1 + 4) σ13
set_option maxRecDepth 100000 in
theorem t_StringUTF16_putCharsAt_70 {l : Launch} {D : zD} {g : zG} (hG : zGok g D) {q : Int32 × zS}   {v0 : Option Nat} {v1 : Int32} {v2 : Int32} {v3 : Int32} {v4 : Int32} {v5 : Int32} {v6 : Int32} {σ : zS} (h : s_StringUTF16_putCharsAt_70 g  v0 v1 v2 v3 v4 v5 v6 σ = some q) : Z l D K_StringUTF16_putCharsAt 3 67 (.returned (some (.int q.1)), q.2) 70 [(0, va_rf (v0)), (1, .int (v1)), (2, .int (v2)), (3, .int (v3)), (4, .int (v4)), (5, .int (v5)), (6, .int (v6))] [] σ := by
  unfold s_StringUTF16_putCharsAt_70 at h
  refine z_iload 6 d_StringUTF16_putCharsAt_70 rfl ?_
  cases h
  exact z_iret rfl rfl d_StringUTF16_putCharsAt_72
set_option maxRecDepth 100000 in
theorem t_StringUTF16_putCharsAt {l : Launch} {D : zD} {g : zG} (hG : zGok g D) {v0 : Option Nat} {v1 : Int32} {v2 : Int32} {v3 : Int32} {v4 : Int32} {v5 : Int32} {σ : zS} {q : Int32 × zS} (h : s_StringUTF16_putCharsAt g v0 v1 v2 v3 v4 v5 σ = some q) : zMet l D Y_StringUTF16_putCharsAt K_StringUTF16_putCharsAt 3 67 [va_rf (v0), .int (v1), .int (v2), .int (v3), .int (v4), .int (v5)] σ (.returned (some (.int q.1)), q.2) := by
  refine zMet.ofZ (by decide) rfl (fun q => by cases q) (by simp [lg_sl, z_rfc, z_ci, z_cl, z_cr, z_cn]) ?_
  rw [show lv_args 0 ([va_rf (v0), .int (v1), .int (v2), .int (v3), .int (v4), .int (v5)] : List Value) = [(0, va_rf (v0)), (1, .int (v1)), (2, .int (v2)), (3, .int (v3)), (4, .int (v4)), (5, .int (v5))] from by simp [lv_args, z_rfc, z_ci, z_cl, z_cr, z_cn]]
  unfold s_StringUTF16_putCharsAt at h
  refine z_iload_n 1 d_StringUTF16_putCharsAt_0 rfl rfl ?_
  refine z_iconst (v := 4) d_StringUTF16_putCharsAt_1 rfl ?_
  refine z_iadd d_StringUTF16_putCharsAt_2 ?_
  refine z_istore (j := 6) (lv' := [(6, .int (v1 + 4)), (0, va_rf (v0)), (1, .int (v1)), (2, .int (v2)), (3, .int (v3)), (4, .int (v4)), (5, .int (v5))]) d_StringUTF16_putCharsAt_3 (by decide) rfl ?_
  refine z_iload_n 2 d_StringUTF16_putCharsAt_5 rfl rfl ?_
  refine z_iload 0 d_StringUTF16_putCharsAt_6 rfl ?_
  refine z_aload_nR 1 d_StringUTF16_putCharsAt_8 rfl rfl ?_
  replace h := Option.bind_eq_some_iff.mp h; obtain ⟨σ1, e2, h⟩ := h
  refine z_callS (av := [.int (v1), .int (v1 + 4), va_rf (v0)]) (st := []) wS_java_lang_StringUTF16_96 (t_StringUTF16_checkBoundsBeginEnd hG e2) (by decide) (by decide) d_StringUTF16_putCharsAt_9 (by simp [z_rfc, z_ci, z_cl, z_cr, z_cn]) ?_
  show Z _ _ _ _ _ _ 12 [(6, .int (v1 + 4)), (0, va_rf (v0)), (1, .int (v1)), (2, .int (v2)), (3, .int (v3)), (4, .int (v4)), (5, .int (v5))] [] _
  refine z_aload_nR 1 d_StringUTF16_putCharsAt_12 rfl rfl ?_
  refine z_iload_n 2 d_StringUTF16_putCharsAt_13 rfl rfl ?_
  refine z_iinc (v := v1 + 1) (lv' := [(1, .int (v1 + 1)), (6, .int (v1 + 4)), (0, va_rf (v0)), (2, .int (v2)), (3, .int (v3)), (4, .int (v4)), (5, .int (v5))]) 2 d_StringUTF16_putCharsAt_14 rfl rfl (by decide) (by simp [z_rfc, z_ci, z_cl, z_cr, z_cn] <;> rfl) ?_
  refine z_iload_n 3 d_StringUTF16_putCharsAt_17 rfl rfl ?_
  replace h := Option.bind_eq_some_iff.mp h; obtain ⟨σ4, e5, h⟩ := h
  refine z_callS (av := [va_rf (v0), .int (v1), .int (v2)]) (st := []) wS_java_lang_StringUTF16_111 (t_StringUTF16_putChar hG e5) (by decide) (by decide) d_StringUTF16_putCharsAt_18 (by simp [z_rfc, z_ci, z_cl, z_cr, z_cn]) ?_
  show Z _ _ _ _ _ _ 21 [(1, .int (v1 + 1)), (6, .int (v1 + 4)), (0, va_rf (v0)), (2, .int (v2)), (3, .int (v3)), (4, .int (v4)), (5, .int (v5))] [] _
  refine z_aload_nR 2 d_StringUTF16_putCharsAt_21 rfl rfl ?_
  refine z_iload_n 0 d_StringUTF16_putCharsAt_22 rfl rfl ?_
  refine z_iinc (v := (v1 + 1) + 1) (lv' := [(1, .int ((v1 + 1) + 1)), (6, .int (v1 + 4)), (0, va_rf (v0)), (2, .int (v2)), (3, .int (v3)), (4, .int (v4)), (5, .int (v5))]) 0 d_StringUTF16_putCharsAt_23 rfl rfl (by decide) (by simp [z_rfc, z_ci, z_cl, z_cr, z_cn] <;> rfl) ?_
  refine z_iload_n 4 d_StringUTF16_putCharsAt_26 rfl rfl ?_
  replace h := Option.bind_eq_some_iff.mp h; obtain ⟨σ7, e8, h⟩ := h
  refine z_callS (av := [va_rf (v0), .int (v1 + 1), .int (v3)]) (st := []) wS_java_lang_StringUTF16_111 (t_StringUTF16_putChar hG e8) (by decide) (by decide) d_StringUTF16_putCharsAt_27 (by simp [z_rfc, z_ci, z_cl, z_cr, z_cn]) ?_
  show Z _ _ _ _ _ _ 30 [(1, .int ((v1 + 1) + 1)), (6, .int (v1 + 4)), (0, va_rf (v0)), (2, .int (v2)), (3, .int (v3)), (4, .int (v4)), (5, .int (v5))] [] _
  refine z_aload_nR 2 d_StringUTF16_putCharsAt_30 rfl rfl ?_
  refine z_iload_n 0 d_StringUTF16_putCharsAt_31 rfl rfl ?_
  refine z_iinc (v := ((v1 + 1) + 1) + 1) (lv' := [(1, .int (((v1 + 1) + 1) + 1)), (6, .int (v1 + 4)), (0, va_rf (v0)), (2, .int (v2)), (3, .int (v3)), (4, .int (v4)), (5, .int (v5))]) 0 d_StringUTF16_putCharsAt_32 rfl rfl (by decide) (by simp [z_rfc, z_ci, z_cl, z_cr, z_cn] <;> rfl) ?_
  refine z_iload 5 d_StringUTF16_putCharsAt_35 rfl ?_
  replace h := Option.bind_eq_some_iff.mp h; obtain ⟨σ10, e11, h⟩ := h
  refine z_callS (av := [va_rf (v0), .int ((v1 + 1) + 1), .int (v4)]) (st := []) wS_java_lang_StringUTF16_111 (t_StringUTF16_putChar hG e11) (by decide) (by decide) d_StringUTF16_putCharsAt_37 (by simp [z_rfc, z_ci, z_cl, z_cr, z_cn]) ?_
  show Z _ _ _ _ _ _ 40 [(1, .int (((v1 + 1) + 1) + 1)), (6, .int (v1 + 4)), (0, va_rf (v0)), (2, .int (v2)), (3, .int (v3)), (4, .int (v4)), (5, .int (v5))] [] _
  refine z_aload_nR 2 d_StringUTF16_putCharsAt_40 rfl rfl ?_
  refine z_iload_n 0 d_StringUTF16_putCharsAt_41 rfl rfl ?_
  refine z_iinc (v := (((v1 + 1) + 1) + 1) + 1) (lv' := [(1, .int ((((v1 + 1) + 1) + 1) + 1)), (6, .int (v1 + 4)), (0, va_rf (v0)), (2, .int (v2)), (3, .int (v3)), (4, .int (v4)), (5, .int (v5))]) 0 d_StringUTF16_putCharsAt_42 rfl rfl (by decide) (by simp [z_rfc, z_ci, z_cl, z_cr, z_cn] <;> rfl) ?_
  refine z_iload 6 d_StringUTF16_putCharsAt_45 rfl ?_
  replace h := Option.bind_eq_some_iff.mp h; obtain ⟨σ13, e14, h⟩ := h
  refine z_callS (av := [va_rf (v0), .int (((v1 + 1) + 1) + 1), .int (v5)]) (st := []) wS_java_lang_StringUTF16_111 (t_StringUTF16_putChar hG e14) (by decide) (by decide) d_StringUTF16_putCharsAt_47 (by simp [z_rfc, z_ci, z_cl, z_cr, z_cn]) ?_
  show Z _ _ _ _ _ _ 50 [(1, .int ((((v1 + 1) + 1) + 1) + 1)), (6, .int (v1 + 4)), (0, va_rf (v0)), (2, .int (v2)), (3, .int (v3)), (4, .int (v4)), (5, .int (v5))] [] _
  refine z_gets (zG_1 hG) wG_java_lang_StringUTF16_44 (Or.inl rfl) d_StringUTF16_putCharsAt_50 ?_
  refine z_if_ne (tgt := 70) d_StringUTF16_putCharsAt_53 rfl (fun _ => ?_) (fun q => absurd q (by decide))
  refine z_lv (lv' := [(0, va_rf (v0)), (1, .int ((((v1 + 1) + 1) + 1) + 1)), (2, .int (v2)), (3, .int (v3)), (4, .int (v4)), (5, .int (v5)), (6, .int (v1 + 4))]) [2, 0, 3, 4, 5, 6, 1] rfl ?_
  exact t_StringUTF16_putCharsAt_70 hG   h

def s_StringUTF16_compress_61 (g : zG)  (v0 : Option Nat) (v1 : Int32) (v2 : Int32) (v3 : Option Nat) (v4 : Int32) (v5 : Option Nat) (σ : zS) : Option (Option Nat × zS) := some (v5, σ)
def s_StringUTF16_compress_64 (g : zG)  (v0 : Option Nat) (v1 : Int32) (v2 : Int32) (v3 : Option Nat) (v4 : Int32) (σ : zS) : Option (Option Nat × zS) := some (v3, σ)
def s_StringUTF16_compress (g : zG) (v0 : Option Nat) (v1 : Int32) (v2 : Int32) (σ : zS) : Option (Option Nat × zS) := (zlen (v2)).bind fun n1 => (some (znew σ n1 (.inl (2, (n1, .inl (fun _ => 0)))))).bind fun σ3 => (s_StringUTF16_compress2 g v0 v1 (some (σ.1)) 0 v2 σ3).bind fun (x7, σ5) => if x7 = v2 then s_StringUTF16_compress_64 g  (v0) (v1) (v2) (some (σ.1)) (x7) σ5 else (s_StringUTF16_newBytesLength g (v1 + v2) σ5).bind fun (x11, σ9) => (s_Arrays_copyOfRange g v0 (v1 <<< (1 &&& 31)) x11 σ9).bind fun (x14, σ12) => (s_StringUTF16_getChar g x14 x7 σ12).bind fun (x17, σ15) => if 255 < x17 then s_StringUTF16_compress_61 g  (v0) (v1) (v2) (some (σ.1)) (x7) (x14) σ15 else (s_StringUTF16_compress2 g x14 0 (some (σ.1)) 0 v2 σ15).bind fun (x21, σ19) => if x21 = v2 then s_StringUTF16_compress_64 g  (v0) (v1) (v2) (some (σ.1)) (x7) σ19 else s_StringUTF16_compress_61 g  (v0) (v1) (v2) (some (σ.1)) (x7) (x14) σ19
set_option maxRecDepth 100000 in
theorem t_StringUTF16_compress_61 {l : Launch} {D : zD} {g : zG} (hG : zGok g D) {q : Option Nat × zS}   {v0 : Option Nat} {v1 : Int32} {v2 : Int32} {v3 : Option Nat} {v4 : Int32} {v5 : Option Nat} {σ : zS} (h : s_StringUTF16_compress_61 g  v0 v1 v2 v3 v4 v5 σ = some q) : Z l D K_StringUTF16_compress 4 93 (.returned (some (va_rf q.1)), q.2) 61 [(0, va_rf (v0)), (1, .int (v1)), (2, .int (v2)), (3, va_rf (v3)), (4, .int (v4)), (5, va_rf (v5))] [] σ := by
  unfold s_StringUTF16_compress_61 at h
  refine z_aloadR 5 d_StringUTF16_compress_61 rfl ?_
  cases h
  exact z_aret (r := v5) rfl (Or.inr ⟨_, rfl⟩) rfl d_StringUTF16_compress_63
set_option maxRecDepth 100000 in
theorem t_StringUTF16_compress_64 {l : Launch} {D : zD} {g : zG} (hG : zGok g D) {q : Option Nat × zS}   {v0 : Option Nat} {v1 : Int32} {v2 : Int32} {v3 : Option Nat} {v4 : Int32} {σ : zS} (h : s_StringUTF16_compress_64 g  v0 v1 v2 v3 v4 σ = some q) : Z l D K_StringUTF16_compress 4 93 (.returned (some (va_rf q.1)), q.2) 64 [(0, va_rf (v0)), (1, .int (v1)), (2, .int (v2)), (3, va_rf (v3)), (4, .int (v4))] [] σ := by
  unfold s_StringUTF16_compress_64 at h
  refine z_aload_nR 3 d_StringUTF16_compress_64 rfl rfl ?_
  cases h
  exact z_aret (r := v3) rfl (Or.inr ⟨_, rfl⟩) rfl d_StringUTF16_compress_65
set_option maxRecDepth 100000 in
theorem t_StringUTF16_compress {l : Launch} {D : zD} {g : zG} (hG : zGok g D) {v0 : Option Nat} {v1 : Int32} {v2 : Int32} {σ : zS} {q : Option Nat × zS} (h : s_StringUTF16_compress g v0 v1 v2 σ = some q) : zMet l D Y_StringUTF16_compress K_StringUTF16_compress 4 93 [va_rf (v0), .int (v1), .int (v2)] σ (.returned (some (va_rf q.1)), q.2) := by
  refine zMet.ofZ (by decide) rfl (fun q => by cases q) (by simp [lg_sl, z_rfc, z_ci, z_cl, z_cr, z_cn]) ?_
  rw [show lv_args 0 ([va_rf (v0), .int (v1), .int (v2)] : List Value) = [(0, va_rf (v0)), (1, .int (v1)), (2, .int (v2))] from by simp [lv_args, z_rfc, z_ci, z_cl, z_cr, z_cn]]
  unfold s_StringUTF16_compress at h
  refine z_iload_n 2 d_StringUTF16_compress_0 rfl rfl ?_
  replace h := Option.bind_eq_some_iff.mp h; obtain ⟨n1, e2, h⟩ := h
  replace h := Option.bind_eq_some_iff.mp h; obtain ⟨σ3, e4, h⟩ := h
  refine z_newa (t := 2) (ty := .byte) (x := (n1, .inl (fun _ => 0))) rfl rfl wA_byte (fun _ => rfl) (by decide) d_StringUTF16_compress_1 e2 ?_
  rw [Option.some.inj e4]
  refine z_astore_n (j := 3) (lv' := [(3, .ref (σ.1)), (0, va_rf (v0)), (1, .int (v1)), (2, .int (v2))]) d_StringUTF16_compress_3 rfl (by decide) rfl ?_
  refine z_aload_nR 1 d_StringUTF16_compress_4 rfl rfl ?_
  refine z_iload_n 2 d_StringUTF16_compress_5 rfl rfl ?_
  refine z_aload_n 0 d_StringUTF16_compress_6 rfl rfl ?_
  refine z_iconst (v := 0) d_StringUTF16_compress_7 rfl ?_
  refine z_iload_n 3 d_StringUTF16_compress_8 rfl rfl ?_
  replace h := Option.bind_eq_some_iff.mp h; obtain ⟨⟨x7, σ5⟩, e6, h⟩ := h
  dsimp only at h
  refine z_callS (av := [va_rf (v0), .int (v1), va_rf (some (σ.1)), .int (0), .int (v2)]) (st := []) wS_java_lang_StringUTF16_123 (t_StringUTF16_compress2 hG e6) (by decide) (by decide) d_StringUTF16_compress_9 (by simp [z_rfc, z_ci, z_cl, z_cr, z_cn]) ?_
  show Z _ _ _ _ _ _ 12 [(3, .ref (σ.1)), (0, va_rf (v0)), (1, .int (v1)), (2, .int (v2))] [.int (x7)] _
  refine z_istore (j := 4) (lv' := [(4, .int (x7)), (3, .ref (σ.1)), (0, va_rf (v0)), (1, .int (v1)), (2, .int (v2))]) d_StringUTF16_compress_12 (by decide) rfl ?_
  refine z_iload 0 d_StringUTF16_compress_14 rfl ?_
  refine z_iload_n 4 d_StringUTF16_compress_16 rfl rfl ?_
  refine z_icmp_eq (tgt := 64) d_StringUTF16_compress_17 rfl (fun c8 => ?_) (fun c8 => ?_)
  · rw [if_pos c8] at h
    refine z_lv (lv' := [(0, va_rf (v0)), (1, .int (v1)), (2, .int (v2)), (3, va_rf (some (σ.1))), (4, .int (x7))]) [2, 3, 4, 1, 0] rfl ?_
    exact t_StringUTF16_compress_64 hG   h
  · rw [if_neg c8] at h
    refine z_aload_nR 2 d_StringUTF16_compress_20 rfl rfl ?_
    refine z_iload_n 3 d_StringUTF16_compress_21 rfl rfl ?_
    refine z_iconst (v := 1) d_StringUTF16_compress_22 rfl ?_
    refine z_ishl d_StringUTF16_compress_23 ?_
    refine z_iload_n 3 d_StringUTF16_compress_24 rfl rfl ?_
    refine z_iload_n 4 d_StringUTF16_compress_25 rfl rfl ?_
    refine z_iadd d_StringUTF16_compress_26 ?_
    replace h := Option.bind_eq_some_iff.mp h; obtain ⟨⟨x11, σ9⟩, e10, h⟩ := h
    dsimp only at h
    refine z_callS (av := [.int (v1 + v2)]) (st := [.int (v1 <<< (1 &&& 31)), va_rf (v0)]) wS_java_lang_StringUTF16_11 (t_StringUTF16_newBytesLength hG e10) (by decide) (by decide) d_StringUTF16_compress_27 (by simp [z_rfc, z_ci, z_cl, z_cr, z_cn]) ?_
    show Z _ _ _ _ _ _ 30 [(4, .int (x7)), (3, .ref (σ.1)), (0, va_rf (v0)), (1, .int (v1)), (2, .int (v2))] [.int (x11), .int (v1 <<< (1 &&& 31)), va_rf (v0)] _
    replace h := Option.bind_eq_some_iff.mp h; obtain ⟨⟨x14, σ12⟩, e13, h⟩ := h
    dsimp only at h
    refine z_callS (av := [va_rf (v0), .int (v1 <<< (1 &&& 31)), .int (x11)]) (st := []) wS_java_lang_StringUTF16_126 (t_Arrays_copyOfRange hG e13) (by decide) (by decide) d_StringUTF16_compress_30 (by simp [z_rfc, z_ci, z_cl, z_cr, z_cn]) ?_
    show Z _ _ _ _ _ _ 33 [(4, .int (x7)), (3, .ref (σ.1)), (0, va_rf (v0)), (1, .int (v1)), (2, .int (v2))] [va_rf (x14)] _
    refine z_astoreR (j := 5) (lv' := [(5, va_rf (x14)), (4, .int (x7)), (3, .ref (σ.1)), (0, va_rf (v0)), (1, .int (v1)), (2, .int (v2))]) d_StringUTF16_compress_33 (by decide) rfl ?_
    refine z_aloadR 0 d_StringUTF16_compress_35 rfl ?_
    refine z_iload 1 d_StringUTF16_compress_37 rfl ?_
    replace h := Option.bind_eq_some_iff.mp h; obtain ⟨⟨x17, σ15⟩, e16, h⟩ := h
    dsimp only at h
    refine z_callS (av := [va_rf (x14), .int (x7)]) (st := []) wS_java_lang_StringUTF16_71 (t_StringUTF16_getChar hG e16) (by decide) (by decide) d_StringUTF16_compress_39 (by simp [z_rfc, z_ci, z_cl, z_cr, z_cn]) ?_
    show Z _ _ _ _ _ _ 42 [(5, va_rf (x14)), (4, .int (x7)), (3, .ref (σ.1)), (0, va_rf (v0)), (1, .int (v1)), (2, .int (v2))] [.int (x17)] _
    refine z_sipush (v := 255) d_StringUTF16_compress_42 rfl ?_
    refine z_icmp_gt (tgt := 61) d_StringUTF16_compress_45 rfl (fun c18 => ?_) (fun c18 => ?_)
    · rw [if_pos c18] at h
      refine z_lv (lv' := [(0, va_rf (v0)), (1, .int (v1)), (2, .int (v2)), (3, va_rf (some (σ.1))), (4, .int (x7)), (5, va_rf (x14))]) [3, 4, 5, 2, 1, 0] rfl ?_
      exact t_StringUTF16_compress_61 hG   h
    · rw [if_neg c18] at h
      refine z_aloadR 0 d_StringUTF16_compress_48 rfl ?_
      refine z_iconst (v := 0) d_StringUTF16_compress_50 rfl ?_
      refine z_aload_n 2 d_StringUTF16_compress_51 rfl rfl ?_
      refine z_iconst (v := 0) d_StringUTF16_compress_52 rfl ?_
      refine z_iload_n 5 d_StringUTF16_compress_53 rfl rfl ?_
      replace h := Option.bind_eq_some_iff.mp h; obtain ⟨⟨x21, σ19⟩, e20, h⟩ := h
      dsimp only at h
      refine z_callS (av := [va_rf (x14), .int (0), va_rf (some (σ.1)), .int (0), .int (v2)]) (st := []) wS_java_lang_StringUTF16_123 (t_StringUTF16_compress2 hG e20) (by decide) (by decide) d_StringUTF16_compress_54 (by simp [z_rfc, z_ci, z_cl, z_cr, z_cn]) ?_
      show Z _ _ _ _ _ _ 57 [(5, va_rf (x14)), (4, .int (x7)), (3, .ref (σ.1)), (0, va_rf (v0)), (1, .int (v1)), (2, .int (v2))] [.int (x21)] _
      refine z_iload_n 5 d_StringUTF16_compress_57 rfl rfl ?_
      refine z_icmp_eq (tgt := 64) d_StringUTF16_compress_58 rfl (fun c22 => ?_) (fun c22 => ?_)
      · rw [if_pos c22] at h
        refine z_lv (lv' := [(0, va_rf (v0)), (1, .int (v1)), (2, .int (v2)), (3, va_rf (some (σ.1))), (4, .int (x7))]) [3, 4, 5, 2, 1] rfl ?_
        exact t_StringUTF16_compress_64 hG   h
      · rw [if_neg c22] at h
        refine z_lv (lv' := [(0, va_rf (v0)), (1, .int (v1)), (2, .int (v2)), (3, va_rf (some (σ.1))), (4, .int (x7)), (5, va_rf (x14))]) [3, 4, 5, 2, 1, 0] rfl ?_
        exact t_StringUTF16_compress_61 hG   h

def s_ArrayList_add2_11 (g : zG)  (v0 : Nat) (v1 : Option Nat) (v2 : Option Nat) (v3 : Int32) (σ : zS) : Option (zS) := (v2).bind fun a1 => (zsR σ a1 10 (v3) (v1)).bind fun σ2 => (zpF σ2 v0 3 1 (.int (v3 + 1))).bind fun σ4 => some σ4
def s_ArrayList_add2 (g : zG) (v0 : Nat) (v1 : Option Nat) (v2 : Option Nat) (v3 : Int32) (σ : zS) : Option (zS) := (v2).bind fun a1 => (zal σ a1 10).bind fun x2 => if v3 = x2 then (zis σ v0 3).bind fun _ => (s_ArrayList_grow g v0  σ).bind fun (x7, σ5) => s_ArrayList_add2_11 g  (v0) (v1) (x7) (v3) σ5 else s_ArrayList_add2_11 g  (v0) (v1) (some (a1)) (v3) σ
set_option maxRecDepth 100000 in
theorem t_ArrayList_add2_11 {l : Launch} {D : zD} {g : zG} (hG : zGok g D) {q : zS}   {v0 : Nat} {v1 : Option Nat} {v2 : Option Nat} {v3 : Int32} {σ : zS} (h : s_ArrayList_add2_11 g  v0 v1 v2 v3 σ = some q) : Z l D K_ArrayList_add2 5 111 (.returned none, q) 11 [(0, .ref (v0)), (1, va_rf (v1)), (2, va_rf (v2)), (3, .int (v3))] [] σ := by
  unfold s_ArrayList_add2_11 at h
  refine z_aload_nR 2 d_ArrayList_add2_11 rfl rfl ?_
  refine z_iload_n 3 d_ArrayList_add2_12 rfl rfl ?_
  refine z_aload_nR 1 d_ArrayList_add2_13 rfl rfl ?_
  replace h := Option.bind_eq_some_iff.mp h; obtain ⟨a1, rfl, h⟩ := h
  replace h := Option.bind_eq_some_iff.mp h; obtain ⟨σ2, e3, h⟩ := h
  refine z_aastore (r := v1) rfl d_ArrayList_add2_14 e3 ?_
  refine z_aload_n 0 d_ArrayList_add2_15 rfl rfl ?_
  refine z_iload_n 3 d_ArrayList_add2_16 rfl rfl ?_
  refine z_iconst (v := 1) d_ArrayList_add2_17 rfl ?_
  refine z_iadd d_ArrayList_add2_18 ?_
  replace h := Option.bind_eq_some_iff.mp h; obtain ⟨σ4, e5, h⟩ := h
  refine z_put wP_java_util_ArrayList_48_3 (fun q => by cases q) d_ArrayList_add2_19 rfl rfl e5 ?_
  cases h
  exact z_vret rfl rfl d_ArrayList_add2_22
set_option maxRecDepth 100000 in
theorem t_ArrayList_add2 {l : Launch} {D : zD} {g : zG} (hG : zGok g D) {v0 : Nat} {v1 : Option Nat} {v2 : Option Nat} {v3 : Int32} {σ : zS} {q : zS} (h : s_ArrayList_add2 g v0 v1 v2 v3 σ = some q) : zMet l D Y_ArrayList_add2 K_ArrayList_add2 5 111 [.ref (v0), va_rf (v1), va_rf (v2), .int (v3)] σ (.returned none, q) := by
  refine zMet.ofZ (by decide) rfl (fun q => by cases q) (by simp [lg_sl, z_rfc, z_ci, z_cl, z_cr, z_cn]) ?_
  rw [show lv_args 0 ([.ref (v0), va_rf (v1), va_rf (v2), .int (v3)] : List Value) = [(0, .ref (v0)), (1, va_rf (v1)), (2, va_rf (v2)), (3, .int (v3))] from by simp [lv_args, z_rfc, z_ci, z_cl, z_cr, z_cn]]
  unfold s_ArrayList_add2 at h
  refine z_iload_n 3 d_ArrayList_add2_0 rfl rfl ?_
  refine z_aload_nR 2 d_ArrayList_add2_1 rfl rfl ?_
  replace h := Option.bind_eq_some_iff.mp h; obtain ⟨a1, rfl, h⟩ := h
  replace h := Option.bind_eq_some_iff.mp h; obtain ⟨x2, e3, h⟩ := h
  refine z_alen (t := 10) rfl d_ArrayList_add2_2 e3 ?_
  refine z_icmp_ne (tgt := 11) d_ArrayList_add2_3 rfl (fun c4 => ?_) (fun c4 => ?_)
  · rw [if_neg c4] at h
    refine z_lv (lv' := [(0, .ref (v0)), (1, va_rf (v1)), (2, va_rf (some (a1))), (3, .int (v3))]) [0, 1, 2, 3] rfl ?_
    exact t_ArrayList_add2_11 hG   h
  · rw [if_pos c4] at h
    refine z_aload_n 0 d_ArrayList_add2_6 rfl rfl ?_
    replace h := Option.bind_eq_some_iff.mp h; obtain ⟨_, e8, h⟩ := h
    obtain ⟨b9, f10, e8⟩ := zcls_at (zis_at e8)
    replace h := Option.bind_eq_some_iff.mp h; obtain ⟨⟨x7, σ5⟩, e6, h⟩ := h
    dsimp only at h
    refine z_callV (av := []) (st := []) wV_java_util_ArrayList_129 e8 (t_ArrayList_grow hG e6) (by decide) (by decide) d_ArrayList_add2_7 (by simp [z_rfc, z_ci, z_cl, z_cr, z_cn]) ?_
    show Z _ _ _ _ _ _ 10 [(0, .ref (v0)), (1, va_rf (v1)), (2, .ref (a1)), (3, .int (v3))] [va_rf (x7)] _
    refine z_astore_nR (j := 2) (lv' := [(2, va_rf (x7)), (0, .ref (v0)), (1, va_rf (v1)), (3, .int (v3))]) d_ArrayList_add2_10 rfl (by decide) (by simp [z_rfc, z_ci, z_cl, z_cr, z_cn] <;> rfl) ?_
    refine z_lv (lv' := [(0, .ref (v0)), (1, va_rf (v1)), (2, va_rf (x7)), (3, .int (v3))]) [1, 2, 0, 3] rfl ?_
    exact t_ArrayList_add2_11 hG   h

def s_StringLatin1_inflate (g : zG) (v0 : Option Nat) (v1 : Int32) (v2 : Option Nat) (v3 : Int32) (v4 : Int32) (σ : zS) : Option (zS) := (s_StringUTF16_inflate g v0 v1 v2 v3 v4 σ).bind fun σ1 => some σ1
set_option maxRecDepth 100000 in
theorem t_StringLatin1_inflate {l : Launch} {D : zD} {g : zG} (hG : zGok g D) {v0 : Option Nat} {v1 : Int32} {v2 : Option Nat} {v3 : Int32} {v4 : Int32} {σ : zS} {q : zS} (h : s_StringLatin1_inflate g v0 v1 v2 v3 v4 σ = some q) : zMet l D Y_StringLatin1_inflate K_StringLatin1_inflate 4 92 [va_rf (v0), .int (v1), va_rf (v2), .int (v3), .int (v4)] σ (.returned none, q) := by
  refine zMet.ofZ (by decide) rfl (fun q => by cases q) (by simp [lg_sl, z_rfc, z_ci, z_cl, z_cr, z_cn]) ?_
  rw [show lv_args 0 ([va_rf (v0), .int (v1), va_rf (v2), .int (v3), .int (v4)] : List Value) = [(0, va_rf (v0)), (1, .int (v1)), (2, va_rf (v2)), (3, .int (v3)), (4, .int (v4))] from by simp [lv_args, z_rfc, z_ci, z_cl, z_cr, z_cn]]
  unfold s_StringLatin1_inflate at h
  refine z_aload_nR 0 d_StringLatin1_inflate_0 rfl rfl ?_
  refine z_iload_n 1 d_StringLatin1_inflate_1 rfl rfl ?_
  refine z_aload_nR 2 d_StringLatin1_inflate_2 rfl rfl ?_
  refine z_iload_n 3 d_StringLatin1_inflate_3 rfl rfl ?_
  refine z_iload 4 d_StringLatin1_inflate_4 rfl ?_
  replace h := Option.bind_eq_some_iff.mp h; obtain ⟨σ1, e2, h⟩ := h
  refine z_callS (av := [va_rf (v0), .int (v1), va_rf (v2), .int (v3), .int (v4)]) (st := []) wS_java_lang_StringLatin1_240 (t_StringUTF16_inflate hG e2) (by decide) (by decide) d_StringLatin1_inflate_6 (by simp [z_rfc, z_ci, z_cl, z_cr, z_cn]) ?_
  show Z _ _ _ _ _ _ 9 [(0, va_rf (v0)), (1, .int (v1)), (2, va_rf (v2)), (3, .int (v3)), (4, .int (v4))] [] _
  cases h
  exact z_vret rfl rfl d_StringLatin1_inflate_9

def s_AbstractStringBuilder_appendNull_76 (g : zG)  (v0 : Nat) (v1 : Int32) (v2 : Option Nat) (σ : zS) : Option (Option Nat × zS) := (zpF σ v0 12 3 (.int (v1))).bind fun σ1 => some (some (v0), σ1)
def s_AbstractStringBuilder_appendNull (g : zG) (v0 : Nat) (σ : zS) : Option (Option Nat × zS) := (zgI σ v0 12 3).bind fun x1 => (zis σ v0 12).bind fun _ => (s_AbstractStringBuilder_ensureCapacityInternal g v0 (x1 + 4) σ).bind fun σ3 => (zgI σ3 v0 12 3).bind fun x6 => (zgR σ3 v0 12 0).bind fun x8 => (zis σ3 v0 12).bind fun _ => (s_AbstractStringBuilder_isLatin1 g v0  σ3).bind fun (x12, σ10) => if x12 = 0 then (s_StringUTF16_putCharsAt g x8 x6 110 117 108 108 σ10).bind fun (x16, σ14) => s_AbstractStringBuilder_appendNull_76 g  (v0) (x16) (x8) σ14 else (x8).bind fun a17 => (zsI σ10 a17 2 (x6) (vp_nar .byte 110)).bind fun σ18 => (zsI σ18 a17 2 (x6 + 1) (vp_nar .byte 117)).bind fun σ20 => (zsI σ20 a17 2 ((x6 + 1) + 1) (vp_nar .byte 108)).bind fun σ22 => (zsI σ22 a17 2 (((x6 + 1) + 1) + 1) (vp_nar .byte 108)).bind fun σ24 => s_AbstractStringBuilder_appendNull_76 g  (v0) ((((x6 + 1) + 1) + 1) + 1) (some (a17)) σ24
set_option maxRecDepth 100000 in
theorem t_AbstractStringBuilder_appendNull_76 {l : Launch} {D : zD} {g : zG} (hG : zGok g D) {q : Option Nat × zS}   {v0 : Nat} {v1 : Int32} {v2 : Option Nat} {σ : zS} (h : s_AbstractStringBuilder_appendNull_76 g  v0 v1 v2 σ = some q) : Z l D K_AbstractStringBuilder_appendNull 4 93 (.returned (some (va_rf q.1)), q.2) 76 [(0, .ref (v0)), (1, .int (v1)), (2, va_rf (v2))] [] σ := by
  unfold s_AbstractStringBuilder_appendNull_76 at h
  refine z_aload_n 0 d_AbstractStringBuilder_appendNull_76 rfl rfl ?_
  refine z_iload_n 1 d_AbstractStringBuilder_appendNull_77 rfl rfl ?_
  replace h := Option.bind_eq_some_iff.mp h; obtain ⟨σ1, e2, h⟩ := h
  refine z_put wP_java_lang_AbstractStringBuilder_79_12 (fun q => by cases q) d_AbstractStringBuilder_appendNull_78 rfl rfl e2 ?_
  refine z_aload_n 0 d_AbstractStringBuilder_appendNull_81 rfl rfl ?_
  cases h
  exact z_aret (r := some (v0)) rfl (Or.inl ⟨_, rfl⟩) rfl d_AbstractStringBuilder_appendNull_82
set_option maxRecDepth 100000 in
theorem t_AbstractStringBuilder_appendNull {l : Launch} {D : zD} {g : zG} (hG : zGok g D) {v0 : Nat} {σ : zS} {q : Option Nat × zS} (h : s_AbstractStringBuilder_appendNull g v0 σ = some q) : zMet l D Y_AbstractStringBuilder_appendNull K_AbstractStringBuilder_appendNull 4 93 [.ref (v0)] σ (.returned (some (va_rf q.1)), q.2) := by
  refine zMet.ofZ (by decide) rfl (fun q => by cases q) (Nat.le_of_ble_eq_true rfl) ?_
  show Z _ _ _ _ _ _ 0 [(0, .ref (v0))] [] _
  unfold s_AbstractStringBuilder_appendNull at h
  refine z_aload_n 0 d_AbstractStringBuilder_appendNull_0 rfl rfl ?_
  refine z_aload_n 0 d_AbstractStringBuilder_appendNull_1 rfl rfl ?_
  replace h := Option.bind_eq_some_iff.mp h; obtain ⟨x1, e2, h⟩ := h
  refine z_getI wF_java_lang_AbstractStringBuilder_79_12 d_AbstractStringBuilder_appendNull_2 e2 ?_
  refine z_iconst (v := 4) d_AbstractStringBuilder_appendNull_5 rfl ?_
  refine z_iadd d_AbstractStringBuilder_appendNull_6 ?_
  replace h := Option.bind_eq_some_iff.mp h; obtain ⟨_, e29, h⟩ := h
  obtain ⟨b30, f31, e29⟩ := zcls_at (zis_at e29)
  replace h := Option.bind_eq_some_iff.mp h; obtain ⟨σ3, e4, h⟩ := h
  refine z_callW (av := [.int (x1 + 4)]) (st := []) wX_java_lang_AbstractStringBuilder_100_12 e29 (t_AbstractStringBuilder_ensureCapacityInternal hG e4) (by decide) (by decide) d_AbstractStringBuilder_appendNull_7 (by simp [z_rfc, z_ci, z_cl, z_cr, z_cn]) ?_
  show Z _ _ _ _ _ _ 10 [(0, .ref (v0))] [] _
  refine z_aload_n 0 d_AbstractStringBuilder_appendNull_10 rfl rfl ?_
  replace h := Option.bind_eq_some_iff.mp h; obtain ⟨x6, e7, h⟩ := h
  refine z_getI wF_java_lang_AbstractStringBuilder_79_12 d_AbstractStringBuilder_appendNull_11 e7 ?_
  refine z_istore_n (j := 1) (lv' := [(1, .int (x6)), (0, .ref (v0))]) d_AbstractStringBuilder_appendNull_14 rfl (by decide) rfl ?_
  refine z_aload_n 1 d_AbstractStringBuilder_appendNull_15 rfl rfl ?_
  replace h := Option.bind_eq_some_iff.mp h; obtain ⟨x8, e9, h⟩ := h
  refine z_getR wF_java_lang_AbstractStringBuilder_15_12 d_AbstractStringBuilder_appendNull_16 e9 ?_
  refine z_astore_nR (j := 2) (lv' := [(2, va_rf (x8)), (1, .int (x6)), (0, .ref (v0))]) d_AbstractStringBuilder_appendNull_19 rfl (by decide) rfl ?_
  refine z_aload_n 2 d_AbstractStringBuilder_appendNull_20 rfl rfl ?_
  replace h := Option.bind_eq_some_iff.mp h; obtain ⟨_, e26, h⟩ := h
  obtain ⟨b27, f28, e26⟩ := zcls_at (zis_at e26)
  replace h := Option.bind_eq_some_iff.mp h; obtain ⟨⟨x12, σ10⟩, e11, h⟩ := h
  dsimp only at h
  refine z_callU (av := []) (st := []) wX_java_lang_AbstractStringBuilder_83_12 e26 (t_AbstractStringBuilder_isLatin1 hG e11) (by decide) (by decide) d_AbstractStringBuilder_appendNull_21 (by simp [z_rfc, z_ci, z_cl, z_cr, z_cn]) ?_
  show Z _ _ _ _ _ _ 24 [(2, va_rf (x8)), (1, .int (x6)), (0, .ref (v0))] [.int (x12)] _
  refine z_if_eq (tgt := 62) d_AbstractStringBuilder_appendNull_24 rfl (fun c13 => ?_) (fun c13 => ?_)
  · rw [if_pos c13] at h
    refine z_aload_nR 0 d_AbstractStringBuilder_appendNull_62 rfl rfl ?_
    refine z_iload_n 1 d_AbstractStringBuilder_appendNull_63 rfl rfl ?_
    refine z_bipush (v := 110) d_AbstractStringBuilder_appendNull_64 rfl ?_
    refine z_bipush (v := 117) d_AbstractStringBuilder_appendNull_66 rfl ?_
    refine z_bipush (v := 108) d_AbstractStringBuilder_appendNull_68 rfl ?_
    refine z_bipush (v := 108) d_AbstractStringBuilder_appendNull_70 rfl ?_
    replace h := Option.bind_eq_some_iff.mp h; obtain ⟨⟨x16, σ14⟩, e15, h⟩ := h
    dsimp only at h
    refine z_callS (av := [va_rf (x8), .int (x6), .int (110), .int (117), .int (108), .int (108)]) (st := []) wS_java_lang_AbstractStringBuilder_226 (t_StringUTF16_putCharsAt hG e15) (by decide) (by decide) d_AbstractStringBuilder_appendNull_72 (by simp [z_rfc, z_ci, z_cl, z_cr, z_cn]) ?_
    show Z _ _ _ _ _ _ 75 [(2, va_rf (x8)), (1, .int (x6)), (0, .ref (v0))] [.int (x16)] _
    refine z_istore_n (j := 1) (lv' := [(1, .int (x16)), (2, va_rf (x8)), (0, .ref (v0))]) d_AbstractStringBuilder_appendNull_75 rfl (by decide) rfl ?_
    refine z_lv (lv' := [(0, .ref (v0)), (1, .int (x16)), (2, va_rf (x8))]) [2, 0, 1] rfl ?_
    exact t_AbstractStringBuilder_appendNull_76 hG   h
  · rw [if_neg c13] at h
    refine z_aload_nR 0 d_AbstractStringBuilder_appendNull_27 rfl rfl ?_
    refine z_iload_n 1 d_AbstractStringBuilder_appendNull_28 rfl rfl ?_
    refine z_iinc (v := x6 + 1) (lv' := [(1, .int (x6 + 1)), (2, va_rf (x8)), (0, .ref (v0))]) 1 d_AbstractStringBuilder_appendNull_29 rfl rfl (by decide) rfl ?_
    refine z_bipush (v := 110) d_AbstractStringBuilder_appendNull_32 rfl ?_
    replace h := Option.bind_eq_some_iff.mp h; obtain ⟨a17, rfl, h⟩ := h
    replace h := Option.bind_eq_some_iff.mp h; obtain ⟨σ18, e19, h⟩ := h
    refine z_bastore rfl d_AbstractStringBuilder_appendNull_34 e19 ?_
    refine z_aload_n 1 d_AbstractStringBuilder_appendNull_35 rfl rfl ?_
    refine z_iload_n 0 d_AbstractStringBuilder_appendNull_36 rfl rfl ?_
    refine z_iinc (v := (x6 + 1) + 1) (lv' := [(1, .int ((x6 + 1) + 1)), (2, .ref (a17)), (0, .ref (v0))]) 0 d_AbstractStringBuilder_appendNull_37 rfl rfl (by decide) rfl ?_
    refine z_bipush (v := 117) d_AbstractStringBuilder_appendNull_40 rfl ?_
    replace h := Option.bind_eq_some_iff.mp h; obtain ⟨σ20, e21, h⟩ := h
    refine z_bastore rfl d_AbstractStringBuilder_appendNull_42 e21 ?_
    refine z_aload_n 1 d_AbstractStringBuilder_appendNull_43 rfl rfl ?_
    refine z_iload_n 0 d_AbstractStringBuilder_appendNull_44 rfl rfl ?_
    refine z_iinc (v := ((x6 + 1) + 1) + 1) (lv' := [(1, .int (((x6 + 1) + 1) + 1)), (2, .ref (a17)), (0, .ref (v0))]) 0 d_AbstractStringBuilder_appendNull_45 rfl rfl (by decide) rfl ?_
    refine z_bipush (v := 108) d_AbstractStringBuilder_appendNull_48 rfl ?_
    replace h := Option.bind_eq_some_iff.mp h; obtain ⟨σ22, e23, h⟩ := h
    refine z_bastore rfl d_AbstractStringBuilder_appendNull_50 e23 ?_
    refine z_aload_n 1 d_AbstractStringBuilder_appendNull_51 rfl rfl ?_
    refine z_iload_n 0 d_AbstractStringBuilder_appendNull_52 rfl rfl ?_
    refine z_iinc (v := (((x6 + 1) + 1) + 1) + 1) (lv' := [(1, .int ((((x6 + 1) + 1) + 1) + 1)), (2, .ref (a17)), (0, .ref (v0))]) 0 d_AbstractStringBuilder_appendNull_53 rfl rfl (by decide) rfl ?_
    refine z_bipush (v := 108) d_AbstractStringBuilder_appendNull_56 rfl ?_
    replace h := Option.bind_eq_some_iff.mp h; obtain ⟨σ24, e25, h⟩ := h
    refine z_bastore rfl d_AbstractStringBuilder_appendNull_58 e25 ?_
    refine z_goto (tgt := 76) d_AbstractStringBuilder_appendNull_59 rfl ?_
    refine z_lv (lv' := [(0, .ref (v0)), (1, .int ((((x6 + 1) + 1) + 1) + 1)), (2, va_rf (some (a17)))]) [2, 0, 1] rfl ?_
    exact t_AbstractStringBuilder_appendNull_76 hG   h

def s_String_getBytes_43 (g : zG)  (v0 : Nat) (v1 : Option Nat) (v2 : Int32) (v3 : Int32) (σ : zS) : Option (zS) := some σ
def s_String_getBytes (g : zG) (v0 : Nat) (v1 : Option Nat) (v2 : Int32) (v3 : Int32) (σ : zS) : Option (zS) := (zis σ v0 13).bind fun _ => (s_String_coder g v0  σ).bind fun (x3, σ1) => if x3 = v3 then (zgR σ1 v0 13 0).bind fun x15 => (zgR σ1 v0 13 0).bind fun x17 => (x17).bind fun a19 => (zal σ1 a19 2).bind fun x20 => (x15).bind fun a22 => (v1).bind fun a23 => (zcpI σ1 .byte a22 a23 2 (0) (v2 <<< (v3 &&& 31)) (x20)).bind fun σ24 => s_String_getBytes_43 g  (v0) (some (a23)) (v2) (v3) σ24 else (zgR σ1 v0 13 0).bind fun x5 => (zgR σ1 v0 13 0).bind fun x7 => (x7).bind fun a9 => (zal σ1 a9 2).bind fun x10 => (s_StringLatin1_inflate g x5 0 v1 v2 x10 σ1).bind fun σ12 => s_String_getBytes_43 g  (v0) (v1) (v2) (v3) σ12
set_option maxRecDepth 100000 in
theorem t_String_getBytes_43 {l : Launch} {D : zD} {g : zG} (hG : zGok g D) {q : zS}   {v0 : Nat} {v1 : Option Nat} {v2 : Int32} {v3 : Int32} {σ : zS} (h : s_String_getBytes_43 g  v0 v1 v2 v3 σ = some q) : Z l D K_String_getBytes 5 116 (.returned none, q) 43 [(0, .ref (v0)), (1, va_rf (v1)), (2, .int (v2)), (3, .int (v3))] [] σ := by
  unfold s_String_getBytes_43 at h
  cases h
  exact z_vret rfl rfl d_String_getBytes_43
set_option maxRecDepth 100000 in
theorem t_String_getBytes {l : Launch} {D : zD} {g : zG} (hG : zGok g D) {v0 : Nat} {v1 : Option Nat} {v2 : Int32} {v3 : Int32} {σ : zS} {q : zS} (h : s_String_getBytes g v0 v1 v2 v3 σ = some q) : zMet l D Y_String_getBytes K_String_getBytes 5 116 [.ref (v0), va_rf (v1), .int (v2), .int (v3)] σ (.returned none, q) := by
  refine zMet.ofZ (by decide) rfl (fun q => by cases q) (by simp [lg_sl, z_rfc, z_ci, z_cl, z_cr, z_cn]) ?_
  rw [show lv_args 0 ([.ref (v0), va_rf (v1), .int (v2), .int (v3)] : List Value) = [(0, .ref (v0)), (1, va_rf (v1)), (2, .int (v2)), (3, .int (v3))] from by simp [lv_args, z_rfc, z_ci, z_cl, z_cr, z_cn]]
  unfold s_String_getBytes at h
  refine z_aload_n 0 d_String_getBytes_0 rfl rfl ?_
  replace h := Option.bind_eq_some_iff.mp h; obtain ⟨_, e26, h⟩ := h
  obtain ⟨b27, f28, e26⟩ := zcls_at (zis_at e26)
  replace h := Option.bind_eq_some_iff.mp h; obtain ⟨⟨x3, σ1⟩, e2, h⟩ := h
  dsimp only at h
  refine z_callV (av := []) (st := []) wV_java_lang_String_335 e26 (t_String_coder hG e2) (by decide) (by decide) d_String_getBytes_1 (by simp [z_rfc, z_ci, z_cl, z_cr, z_cn]) ?_
  show Z _ _ _ _ _ _ 4 [(0, .ref (v0)), (1, va_rf (v1)), (2, .int (v2)), (3, .int (v3))] [.int (x3)] _
  refine z_iload_n 3 d_String_getBytes_4 rfl rfl ?_
  refine z_icmp_ne (tgt := 28) d_String_getBytes_5 rfl (fun c4 => ?_) (fun c4 => ?_)
  · rw [if_neg c4] at h
    refine z_aload_n 0 d_String_getBytes_28 rfl rfl ?_
    replace h := Option.bind_eq_some_iff.mp h; obtain ⟨x5, e6, h⟩ := h
    refine z_getR wF_java_lang_String_9_13 d_String_getBytes_29 e6 ?_
    refine z_iconst (v := 0) d_String_getBytes_32 rfl ?_
    refine z_aload_nR 1 d_String_getBytes_33 rfl rfl ?_
    refine z_iload_n 2 d_String_getBytes_34 rfl rfl ?_
    refine z_aload_n 0 d_String_getBytes_35 rfl rfl ?_
    replace h := Option.bind_eq_some_iff.mp h; obtain ⟨x7, e8, h⟩ := h
    refine z_getR wF_java_lang_String_9_13 d_String_getBytes_36 e8 ?_
    replace h := Option.bind_eq_some_iff.mp h; obtain ⟨a9, rfl, h⟩ := h
    replace h := Option.bind_eq_some_iff.mp h; obtain ⟨x10, e11, h⟩ := h
    refine z_alen (t := 2) rfl d_String_getBytes_39 e11 ?_
    replace h := Option.bind_eq_some_iff.mp h; obtain ⟨σ12, e13, h⟩ := h
    refine z_callS (av := [va_rf (x5), .int (0), va_rf (v1), .int (v2), .int (x10)]) (st := []) wS_java_lang_String_106 (t_StringLatin1_inflate hG e13) (by decide) (by decide) d_String_getBytes_40 (by simp [z_rfc, z_ci, z_cl, z_cr, z_cn]) ?_
    show Z _ _ _ _ _ _ 43 [(0, .ref (v0)), (1, va_rf (v1)), (2, .int (v2)), (3, .int (v3))] [] _
    refine z_lv (lv' := [(0, .ref (v0)), (1, va_rf (v1)), (2, .int (v2)), (3, .int (v3))]) [0, 1, 2, 3] rfl ?_
    exact t_String_getBytes_43 hG   h
  · rw [if_pos c4] at h
    refine z_aload_n 0 d_String_getBytes_8 rfl rfl ?_
    replace h := Option.bind_eq_some_iff.mp h; obtain ⟨x15, e16, h⟩ := h
    refine z_getR wF_java_lang_String_9_13 d_String_getBytes_9 e16 ?_
    refine z_iconst (v := 0) d_String_getBytes_12 rfl ?_
    refine z_aload_nR 1 d_String_getBytes_13 rfl rfl ?_
    refine z_iload_n 2 d_String_getBytes_14 rfl rfl ?_
    refine z_iload_n 3 d_String_getBytes_15 rfl rfl ?_
    refine z_ishl d_String_getBytes_16 ?_
    refine z_aload_n 0 d_String_getBytes_17 rfl rfl ?_
    replace h := Option.bind_eq_some_iff.mp h; obtain ⟨x17, e18, h⟩ := h
    refine z_getR wF_java_lang_String_9_13 d_String_getBytes_18 e18 ?_
    replace h := Option.bind_eq_some_iff.mp h; obtain ⟨a19, rfl, h⟩ := h
    replace h := Option.bind_eq_some_iff.mp h; obtain ⟨x20, e21, h⟩ := h
    refine z_alen (t := 2) rfl d_String_getBytes_21 e21 ?_
    replace h := Option.bind_eq_some_iff.mp h; obtain ⟨a22, rfl, h⟩ := h
    replace h := Option.bind_eq_some_iff.mp h; obtain ⟨a23, rfl, h⟩ := h
    replace h := Option.bind_eq_some_iff.mp h; obtain ⟨σ24, e25, h⟩ := h
    refine z_copyI wCp_java_lang_String_212 rfl rfl (by decide) (by decide) d_String_getBytes_22 e25 ?_
    refine z_goto (tgt := 43) d_String_getBytes_25 rfl ?_
    refine z_lv (lv' := [(0, .ref (v0)), (1, va_rf (some (a23))), (2, .int (v2)), (3, .int (v3))]) [0, 1, 2, 3] rfl ?_
    exact t_String_getBytes_43 hG   h

def s_String_init2_97 (g : zG)  (v0 : Nat) (v1 : Option Nat) (v2 : Option Nat) (v3 : Option Nat) (v4 : Int32) (σ : zS) : Option (zS) := some σ
def s_String_init2_79 (g : zG)  (v0 : Nat) (v1 : Option Nat) (v2 : Option Nat) (v3 : Option Nat) (v4 : Int32) (σ : zS) : Option (zS) := (zpF σ v0 13 1 (.int (1))).bind fun σ1 => (s_Arrays_copyOfRange g v3 0 (v4 <<< (1 &&& 31)) σ1).bind fun (x5, σ3) => (zpF σ3 v0 13 0 (va_rf (x5))).bind fun σ6 => s_String_init2_97 g  (v0) (v1) (v2) (v3) (v4) σ6
def s_String_init2 (g : zG) (v0 : Nat) (v1 : Option Nat) (v2 : Option Nat) (σ : zS) : Option (zS) := (v1).bind fun a1 => (zis σ a1 12).bind fun _ => (s_AbstractStringBuilder_getValue g a1  σ).bind fun (x4, σ2) => (zis σ2 a1 12).bind fun _ => (s_StringBuilder_length g a1  σ2).bind fun (x7, σ5) => (zis σ5 a1 12).bind fun _ => (s_AbstractStringBuilder_isLatin1 g a1  σ5).bind fun (x10, σ8) => if x10 = 0 then (zgI σ8 a1 12 2).bind fun x13 => if x13 = 0 then s_String_init2_79 g  (v0) (some (a1)) (v2) (x4) (x7) σ8 else (s_StringUTF16_compress g x4 0 x7 σ8).bind fun (x18, σ16) => (zpF σ16 v0 13 0 (va_rf (x18))).bind fun σ19 => (zgR σ19 v0 13 0).bind fun x21 => (s_StringUTF16_coderFromArrayLen g x21 x7 σ19).bind fun (x25, σ23) => if x25 = 0 ∨ x25 = 1 then (zpF σ23 v0 13 1 (.int (x25))).bind fun σ26 => some σ26 else none else (zpF σ8 v0 13 1 (.int (0))).bind fun σ29 => (s_Arrays_copyOfRange g x4 0 x7 σ29).bind fun (x33, σ31) => (zpF σ31 v0 13 0 (va_rf (x33))).bind fun σ34 => s_String_init2_97 g  (v0) (some (a1)) (v2) (x4) (x7) σ34
set_option maxRecDepth 100000 in
theorem t_String_init2_97 {l : Launch} {D : zD} {g : zG} (hG : zGok g D) {q : zS}   {v0 : Nat} {v1 : Option Nat} {v2 : Option Nat} {v3 : Option Nat} {v4 : Int32} {σ : zS} (h : s_String_init2_97 g  v0 v1 v2 v3 v4 σ = some q) : Z l D K_String_init2 5 118 (.returned none, q) 97 [(0, .ref (v0)), (1, va_rf (v1)), (2, va_rf (v2)), (3, va_rf (v3)), (4, .int (v4))] [] σ := by
  unfold s_String_init2_97 at h
  cases h
  exact z_vret rfl rfl d_String_init2_97
set_option maxRecDepth 100000 in
theorem t_String_init2_79 {l : Launch} {D : zD} {g : zG} (hG : zGok g D) {q : zS}   {v0 : Nat} {v1 : Option Nat} {v2 : Option Nat} {v3 : Option Nat} {v4 : Int32} {σ : zS} (h : s_String_init2_79 g  v0 v1 v2 v3 v4 σ = some q) : Z l D K_String_init2 5 118 (.returned none, q) 79 [(0, .ref (v0)), (1, va_rf (v1)), (2, va_rf (v2)), (3, va_rf (v3)), (4, .int (v4))] [] σ := by
  unfold s_String_init2_79 at h
  refine z_aload_n 0 d_String_init2_79 rfl rfl ?_
  refine z_iconst (v := 1) d_String_init2_80 rfl ?_
  replace h := Option.bind_eq_some_iff.mp h; obtain ⟨σ1, e2, h⟩ := h
  refine z_put wP_java_lang_String_15_13 (fun _ => rfl) d_String_init2_81 rfl rfl e2 ?_
  refine z_aload_n 0 d_String_init2_84 rfl rfl ?_
  refine z_aload_nR 3 d_String_init2_85 rfl rfl ?_
  refine z_iconst (v := 0) d_String_init2_86 rfl ?_
  refine z_iload 4 d_String_init2_87 rfl ?_
  refine z_iconst (v := 1) d_String_init2_89 rfl ?_
  refine z_ishl d_String_init2_90 ?_
  replace h := Option.bind_eq_some_iff.mp h; obtain ⟨⟨x5, σ3⟩, e4, h⟩ := h
  dsimp only at h
  refine z_callS (av := [va_rf (v3), .int (0), .int (v4 <<< (1 &&& 31))]) (st := [.ref (v0)]) wS_java_lang_String_54 (t_Arrays_copyOfRange hG e4) (by decide) (by decide) d_String_init2_91 (by simp [z_rfc, z_ci, z_cl, z_cr, z_cn]) ?_
  show Z _ _ _ _ _ _ 94 [(0, .ref (v0)), (1, va_rf (v1)), (2, va_rf (v2)), (3, va_rf (v3)), (4, .int (v4))] [va_rf (x5), .ref (v0)] _
  replace h := Option.bind_eq_some_iff.mp h; obtain ⟨σ6, e7, h⟩ := h
  refine z_put wP_java_lang_String_9_13 (fun _ => rfl) d_String_init2_94 (z_nra _ _) (z_fra _ _) e7 ?_
  refine z_lv (lv' := [(0, .ref (v0)), (1, va_rf (v1)), (2, va_rf (v2)), (3, va_rf (v3)), (4, .int (v4))]) [0, 1, 2, 3, 4] rfl ?_
  exact t_String_init2_97 hG   h
set_option maxRecDepth 100000 in
theorem t_String_init2 {l : Launch} {D : zD} {g : zG} (hG : zGok g D) {v0 : Nat} {v1 : Option Nat} {v2 : Option Nat} {σ : zS} {q : zS} (h : s_String_init2 g v0 v1 v2 σ = some q) : zMet l D Y_String_init2 K_String_init2 5 118 [.ref (v0), va_rf (v1), va_rf (v2)] σ (.returned none, q) := by
  refine zMet.ofZ (by decide) rfl (fun q => rfl) (by simp [lg_sl, z_rfc, z_ci, z_cl, z_cr, z_cn]) ?_
  rw [show lv_args 0 ([.ref (v0), va_rf (v1), va_rf (v2)] : List Value) = [(0, .ref (v0)), (1, va_rf (v1)), (2, va_rf (v2))] from by simp [lv_args, z_rfc, z_ci, z_cl, z_cr, z_cn]]
  unfold s_String_init2 at h
  refine z_aload_n 0 d_String_init2_0 rfl rfl ?_
  refine z_objInit wO_java_lang_String_1 wOi wOc (by decide) (by decide) d_String_init2_1 ?_
  refine z_aload_nR 1 d_String_init2_4 rfl rfl ?_
  replace h := Option.bind_eq_some_iff.mp h; obtain ⟨a1, rfl, h⟩ := h
  replace h := Option.bind_eq_some_iff.mp h; obtain ⟨_, e42, h⟩ := h
  obtain ⟨b43, f44, e42⟩ := zcls_at (zis_at e42)
  replace h := Option.bind_eq_some_iff.mp h; obtain ⟨⟨x4, σ2⟩, e3, h⟩ := h
  dsimp only at h
  refine z_callU (av := []) (st := []) wX_java_lang_String_552_12 e42 (t_AbstractStringBuilder_getValue hG e3) (by decide) (by decide) d_String_init2_5 (by simp [z_rfc, z_ci, z_cl, z_cr, z_cn]) ?_
  show Z _ _ _ _ _ _ 8 [(0, .ref (v0)), (1, .ref (a1)), (2, va_rf (v2))] [va_rf (x4)] _
  refine z_astore_nR (j := 3) (lv' := [(3, va_rf (x4)), (0, .ref (v0)), (1, .ref (a1)), (2, va_rf (v2))]) d_String_init2_8 rfl (by decide) (by simp [z_rfc, z_ci, z_cl, z_cr, z_cn] <;> rfl) ?_
  refine z_aload_n 2 d_String_init2_9 rfl rfl ?_
  replace h := Option.bind_eq_some_iff.mp h; obtain ⟨_, e39, h⟩ := h
  obtain ⟨b40, f41, e39⟩ := zcls_at (zis_at e39)
  replace h := Option.bind_eq_some_iff.mp h; obtain ⟨⟨x7, σ5⟩, e6, h⟩ := h
  dsimp only at h
  refine z_callU (av := []) (st := []) wX_java_lang_String_549_12 e39 (t_StringBuilder_length hG e6) (by decide) (by decide) d_String_init2_10 (by simp [z_rfc, z_ci, z_cl, z_cr, z_cn]) ?_
  show Z _ _ _ _ _ _ 13 [(3, va_rf (x4)), (0, .ref (v0)), (1, .ref (a1)), (2, va_rf (v2))] [.int (x7)] _
  refine z_istore (j := 4) (lv' := [(4, .int (x7)), (3, va_rf (x4)), (0, .ref (v0)), (1, .ref (a1)), (2, va_rf (v2))]) d_String_init2_13 (by decide) (by simp [z_rfc, z_ci, z_cl, z_cr, z_cn] <;> rfl) ?_
  refine z_aload_n 3 d_String_init2_15 rfl rfl ?_
  replace h := Option.bind_eq_some_iff.mp h; obtain ⟨_, e36, h⟩ := h
  obtain ⟨b37, f38, e36⟩ := zcls_at (zis_at e36)
  replace h := Option.bind_eq_some_iff.mp h; obtain ⟨⟨x10, σ8⟩, e9, h⟩ := h
  dsimp only at h
  refine z_callU (av := []) (st := []) wX_java_lang_String_1047_12 e36 (t_AbstractStringBuilder_isLatin1 hG e9) (by decide) (by decide) d_String_init2_16 (by simp [z_rfc, z_ci, z_cl, z_cr, z_cn]) ?_
  show Z _ _ _ _ _ _ 19 [(4, .int (x7)), (3, va_rf (x4)), (0, .ref (v0)), (1, .ref (a1)), (2, va_rf (v2))] [.int (x10)] _
  refine z_if_eq (tgt := 41) d_String_init2_19 rfl (fun c11 => ?_) (fun c11 => ?_)
  · rw [if_pos c11] at h
    refine z_gets (zG_0 hG) wG_java_lang_String_38 (Or.inl rfl) d_String_init2_41 ?_
    refine z_if_eq (tgt := 79) d_String_init2_44 rfl (fun q => absurd q (by decide)) (fun _ => ?_)
    refine z_aload_n 3 d_String_init2_47 rfl rfl ?_
    replace h := Option.bind_eq_some_iff.mp h; obtain ⟨x13, e14, h⟩ := h
    refine z_getI wF_java_lang_String_1048_12 d_String_init2_48 e14 ?_
    refine z_if_eq (tgt := 79) d_String_init2_51 rfl (fun c15 => ?_) (fun c15 => ?_)
    · rw [if_pos c15] at h
      refine z_lv (lv' := [(0, .ref (v0)), (1, va_rf (some (a1))), (2, va_rf (v2)), (3, va_rf (x4)), (4, .int (x7))]) [2, 3, 4, 1, 0] rfl ?_
      exact t_String_init2_79 hG   h
    · rw [if_neg c15] at h
      refine z_aload_n 2 d_String_init2_54 rfl rfl ?_
      refine z_aload_nR 1 d_String_init2_55 rfl rfl ?_
      refine z_iconst (v := 0) d_String_init2_56 rfl ?_
      refine z_iload 0 d_String_init2_57 rfl ?_
      replace h := Option.bind_eq_some_iff.mp h; obtain ⟨⟨x18, σ16⟩, e17, h⟩ := h
      dsimp only at h
      refine z_callS (av := [va_rf (x4), .int (0), .int (x7)]) (st := [.ref (v0)]) wS_java_lang_String_1051 (t_StringUTF16_compress hG e17) (by decide) (by decide) d_String_init2_59 (by simp [z_rfc, z_ci, z_cl, z_cr, z_cn]) ?_
      show Z _ _ _ _ _ _ 62 [(4, .int (x7)), (3, va_rf (x4)), (0, .ref (v0)), (1, .ref (a1)), (2, va_rf (v2))] [va_rf (x18), .ref (v0)] _
      replace h := Option.bind_eq_some_iff.mp h; obtain ⟨σ19, e20, h⟩ := h
      refine z_put wP_java_lang_String_9_13 (fun _ => rfl) d_String_init2_62 (z_nra _ _) (z_fra _ _) e20 ?_
      refine z_aload_n 2 d_String_init2_65 rfl rfl ?_
      refine z_aload_n 2 d_String_init2_66 rfl rfl ?_
      replace h := Option.bind_eq_some_iff.mp h; obtain ⟨x21, e22, h⟩ := h
      refine z_getR wF_java_lang_String_9_13 d_String_init2_67 e22 ?_
      refine z_iload 0 d_String_init2_70 rfl ?_
      replace h := Option.bind_eq_some_iff.mp h; obtain ⟨⟨x25, σ23⟩, e24, h⟩ := h
      dsimp only at h
      refine z_callS (av := [va_rf (x21), .int (x7)]) (st := [.ref (v0)]) wS_java_lang_String_47 (t_StringUTF16_coderFromArrayLen hG e24) (by decide) (by decide) d_String_init2_72 (by simp [z_rfc, z_ci, z_cl, z_cr, z_cn]) ?_
      show Z _ _ _ _ _ _ 75 [(4, .int (x7)), (3, va_rf (x4)), (0, .ref (v0)), (1, .ref (a1)), (2, va_rf (v2))] [.int (x25), .ref (v0)] _
      by_cases c28 : x25 = 0 ∨ x25 = 1
      rotate_left
      · rw [if_neg c28] at h; cases h
      rw [if_pos c28] at h
      replace h := Option.bind_eq_some_iff.mp h; obtain ⟨σ26, e27, h⟩ := h
      refine z_put wP_java_lang_String_15_13 (fun _ => rfl) d_String_init2_75 (z_nB c28) (z_fB c28) e27 ?_
      cases h
      exact z_vret rfl rfl d_String_init2_78
  · rw [if_neg c11] at h
    refine z_aload_n 2 d_String_init2_22 rfl rfl ?_
    refine z_iconst (v := 0) d_String_init2_23 rfl ?_
    replace h := Option.bind_eq_some_iff.mp h; obtain ⟨σ29, e30, h⟩ := h
    refine z_put wP_java_lang_String_15_13 (fun _ => rfl) d_String_init2_24 rfl rfl e30 ?_
    refine z_aload_n 2 d_String_init2_27 rfl rfl ?_
    refine z_aload_nR 1 d_String_init2_28 rfl rfl ?_
    refine z_iconst (v := 0) d_String_init2_29 rfl ?_
    refine z_iload 0 d_String_init2_30 rfl ?_
    replace h := Option.bind_eq_some_iff.mp h; obtain ⟨⟨x33, σ31⟩, e32, h⟩ := h
    dsimp only at h
    refine z_callS (av := [va_rf (x4), .int (0), .int (x7)]) (st := [.ref (v0)]) wS_java_lang_String_54 (t_Arrays_copyOfRange hG e32) (by decide) (by decide) d_String_init2_32 (by simp [z_rfc, z_ci, z_cl, z_cr, z_cn]) ?_
    show Z _ _ _ _ _ _ 35 [(4, .int (x7)), (3, va_rf (x4)), (0, .ref (v0)), (1, .ref (a1)), (2, va_rf (v2))] [va_rf (x33), .ref (v0)] _
    replace h := Option.bind_eq_some_iff.mp h; obtain ⟨σ34, e35, h⟩ := h
    refine z_put wP_java_lang_String_9_13 (fun _ => rfl) d_String_init2_35 (z_nra _ _) (z_fra _ _) e35 ?_
    refine z_goto (tgt := 97) d_String_init2_38 rfl ?_
    refine z_lv (lv' := [(0, .ref (v0)), (1, va_rf (some (a1))), (2, va_rf (v2)), (3, va_rf (x4)), (4, .int (x7))]) [2, 3, 4, 1, 0] rfl ?_
    exact t_String_init2_97 hG   h

def s_ArrayList_add (g : zG) (v0 : Nat) (v1 : Option Nat) (σ : zS) : Option (Int32 × zS) := (zgI σ v0 3 2).bind fun x1 => (zpF σ v0 3 2 (.int (x1 + 1))).bind fun σ3 => (zgR σ3 v0 3 0).bind fun x5 => (zgI σ3 v0 3 1).bind fun x7 => (zis σ3 v0 3).bind fun _ => (s_ArrayList_add2 g v0 v1 x5 x7 σ3).bind fun σ9 => some (1, σ9)
set_option maxRecDepth 100000 in
theorem t_ArrayList_add {l : Launch} {D : zD} {g : zG} (hG : zGok g D) {v0 : Nat} {v1 : Option Nat} {σ : zS} {q : Int32 × zS} (h : s_ArrayList_add g v0 v1 σ = some q) : zMet l D Y_ArrayList_add K_ArrayList_add 6 134 [.ref (v0), va_rf (v1)] σ (.returned (some (.int q.1)), q.2) := by
  refine zMet.ofZ (by decide) rfl (fun q => by cases q) (by simp [lg_sl, z_rfc, z_ci, z_cl, z_cr, z_cn]) ?_
  rw [show lv_args 0 ([.ref (v0), va_rf (v1)] : List Value) = [(0, .ref (v0)), (1, va_rf (v1))] from by simp [lv_args, z_rfc, z_ci, z_cl, z_cr, z_cn]]
  unfold s_ArrayList_add at h
  refine z_aload_n 0 d_ArrayList_add_0 rfl rfl ?_
  refine z_dup d_ArrayList_add_1 rfl ?_
  replace h := Option.bind_eq_some_iff.mp h; obtain ⟨x1, e2, h⟩ := h
  refine z_getI wF_java_util_ArrayList_63_3 d_ArrayList_add_2 e2 ?_
  refine z_iconst (v := 1) d_ArrayList_add_5 rfl ?_
  refine z_iadd d_ArrayList_add_6 ?_
  replace h := Option.bind_eq_some_iff.mp h; obtain ⟨σ3, e4, h⟩ := h
  refine z_put wP_java_util_ArrayList_63_3 (fun q => by cases q) d_ArrayList_add_7 rfl rfl e4 ?_
  refine z_aload_n 0 d_ArrayList_add_10 rfl rfl ?_
  refine z_aload_nR 1 d_ArrayList_add_11 rfl rfl ?_
  refine z_aload_n 0 d_ArrayList_add_12 rfl rfl ?_
  replace h := Option.bind_eq_some_iff.mp h; obtain ⟨x5, e6, h⟩ := h
  refine z_getR wF_java_util_ArrayList_9_3 d_ArrayList_add_13 e6 ?_
  refine z_aload_n 0 d_ArrayList_add_16 rfl rfl ?_
  replace h := Option.bind_eq_some_iff.mp h; obtain ⟨x7, e8, h⟩ := h
  refine z_getI wF_java_util_ArrayList_48_3 d_ArrayList_add_17 e8 ?_
  replace h := Option.bind_eq_some_iff.mp h; obtain ⟨_, e12, h⟩ := h
  obtain ⟨b13, f14, e12⟩ := zcls_at (zis_at e12)
  replace h := Option.bind_eq_some_iff.mp h; obtain ⟨σ9, e10, h⟩ := h
  refine z_callV (av := [va_rf (v1), va_rf (x5), .int (x7)]) (st := []) wV_java_util_ArrayList_131 e12 (t_ArrayList_add2 hG e10) (by decide) (by decide) d_ArrayList_add_20 (by simp [z_rfc, z_ci, z_cl, z_cr, z_cn]) ?_
  show Z _ _ _ _ _ _ 23 [(0, .ref (v0)), (1, va_rf (v1))] [] _
  refine z_iconst (v := 1) d_ArrayList_add_23 rfl ?_
  cases h
  exact z_zret rfl rfl rfl d_ArrayList_add_24

def s_AbstractStringBuilder_inflate (g : zG) (v0 : Nat) (σ : zS) : Option (zS) := (zis σ v0 12).bind fun _ => (s_AbstractStringBuilder_isLatin1 g v0  σ).bind fun (x3, σ1) => if x3 = 0 then some σ1 else (zgR σ1 v0 12 0).bind fun x5 => (x5).bind fun a7 => (zal σ1 a7 2).bind fun x8 => (s_StringUTF16_newBytesFor g x8 σ1).bind fun (x12, σ10) => (zgR σ10 v0 12 0).bind fun x13 => (zgI σ10 v0 12 3).bind fun x15 => (s_StringLatin1_inflate g x13 0 x12 0 x15 σ10).bind fun σ17 => (zpF σ17 v0 12 0 (va_rf (x12))).bind fun σ20 => (zpF σ20 v0 12 1 (.int (1))).bind fun σ22 => some σ22
set_option maxRecDepth 100000 in
theorem t_AbstractStringBuilder_inflate {l : Launch} {D : zD} {g : zG} (hG : zGok g D) {v0 : Nat} {σ : zS} {q : zS} (h : s_AbstractStringBuilder_inflate g v0 σ = some q) : zMet l D Y_AbstractStringBuilder_inflate K_AbstractStringBuilder_inflate 5 116 [.ref (v0)] σ (.returned none, q) := by
  refine zMet.ofZ (by decide) rfl (fun q => by cases q) (Nat.le_of_ble_eq_true rfl) ?_
  show Z _ _ _ _ _ _ 0 [(0, .ref (v0))] [] _
  unfold s_AbstractStringBuilder_inflate at h
  refine z_aload_n 0 d_AbstractStringBuilder_inflate_0 rfl rfl ?_
  replace h := Option.bind_eq_some_iff.mp h; obtain ⟨_, e24, h⟩ := h
  obtain ⟨b25, f26, e24⟩ := zcls_at (zis_at e24)
  replace h := Option.bind_eq_some_iff.mp h; obtain ⟨⟨x3, σ1⟩, e2, h⟩ := h
  dsimp only at h
  refine z_callU (av := []) (st := []) wX_java_lang_AbstractStringBuilder_83_12 e24 (t_AbstractStringBuilder_isLatin1 hG e2) (by decide) (by decide) d_AbstractStringBuilder_inflate_1 (by simp [z_rfc, z_ci, z_cl, z_cr, z_cn]) ?_
  show Z _ _ _ _ _ _ 4 [(0, .ref (v0))] [.int (x3)] _
  refine z_if_ne (tgt := 8) d_AbstractStringBuilder_inflate_4 rfl (fun c4 => ?_) (fun c4 => ?_)
  · rw [if_neg c4] at h
    refine z_aload_n 0 d_AbstractStringBuilder_inflate_8 rfl rfl ?_
    replace h := Option.bind_eq_some_iff.mp h; obtain ⟨x5, e6, h⟩ := h
    refine z_getR wF_java_lang_AbstractStringBuilder_15_12 d_AbstractStringBuilder_inflate_9 e6 ?_
    replace h := Option.bind_eq_some_iff.mp h; obtain ⟨a7, rfl, h⟩ := h
    replace h := Option.bind_eq_some_iff.mp h; obtain ⟨x8, e9, h⟩ := h
    refine z_alen (t := 2) rfl d_AbstractStringBuilder_inflate_12 e9 ?_
    replace h := Option.bind_eq_some_iff.mp h; obtain ⟨⟨x12, σ10⟩, e11, h⟩ := h
    dsimp only at h
    refine z_callS (av := [.int (x8)]) (st := []) wS_java_lang_AbstractStringBuilder_26 (t_StringUTF16_newBytesFor hG e11) (by decide) (by decide) d_AbstractStringBuilder_inflate_13 (by simp [z_rfc, z_ci, z_cl, z_cr, z_cn]) ?_
    show Z _ _ _ _ _ _ 16 [(0, .ref (v0))] [va_rf (x12)] _
    refine z_astore_nR (j := 1) (lv' := [(1, va_rf (x12)), (0, .ref (v0))]) d_AbstractStringBuilder_inflate_16 rfl (by decide) rfl ?_
    refine z_aload_n 1 d_AbstractStringBuilder_inflate_17 rfl rfl ?_
    replace h := Option.bind_eq_some_iff.mp h; obtain ⟨x13, e14, h⟩ := h
    refine z_getR wF_java_lang_AbstractStringBuilder_15_12 d_AbstractStringBuilder_inflate_18 e14 ?_
    refine z_iconst (v := 0) d_AbstractStringBuilder_inflate_21 rfl ?_
    refine z_aload_nR 0 d_AbstractStringBuilder_inflate_22 rfl rfl ?_
    refine z_iconst (v := 0) d_AbstractStringBuilder_inflate_23 rfl ?_
    refine z_aload_n 1 d_AbstractStringBuilder_inflate_24 rfl rfl ?_
    replace h := Option.bind_eq_some_iff.mp h; obtain ⟨x15, e16, h⟩ := h
    refine z_getI wF_java_lang_AbstractStringBuilder_79_12 d_AbstractStringBuilder_inflate_25 e16 ?_
    replace h := Option.bind_eq_some_iff.mp h; obtain ⟨σ17, e18, h⟩ := h
    refine z_callS (av := [va_rf (x13), .int (0), va_rf (x12), .int (0), .int (x15)]) (st := []) wS_java_lang_AbstractStringBuilder_125 (t_StringLatin1_inflate hG e18) (by decide) (by decide) d_AbstractStringBuilder_inflate_28 (by simp [z_rfc, z_ci, z_cl, z_cr, z_cn]) ?_
    show Z _ _ _ _ _ _ 31 [(1, va_rf (x12)), (0, .ref (v0))] [] _
    refine z_aload_n 1 d_AbstractStringBuilder_inflate_31 rfl rfl ?_
    refine z_aload_nR 0 d_AbstractStringBuilder_inflate_32 rfl rfl ?_
    replace h := Option.bind_eq_some_iff.mp h; obtain ⟨σ20, e21, h⟩ := h
    refine z_put wP_java_lang_AbstractStringBuilder_15_12 (fun q => by cases q) d_AbstractStringBuilder_inflate_33 (z_nra _ _) (z_fra _ _) e21 ?_
    refine z_aload_n 1 d_AbstractStringBuilder_inflate_36 rfl rfl ?_
    refine z_iconst (v := 1) d_AbstractStringBuilder_inflate_37 rfl ?_
    replace h := Option.bind_eq_some_iff.mp h; obtain ⟨σ22, e23, h⟩ := h
    refine z_put wP_java_lang_AbstractStringBuilder_22_12 (fun q => by cases q) d_AbstractStringBuilder_inflate_38 rfl rfl e23 ?_
    cases h
    exact z_vret rfl rfl d_AbstractStringBuilder_inflate_41
  · rw [if_pos c4] at h
    cases h
    exact z_vret rfl rfl d_AbstractStringBuilder_inflate_7

def s_AbstractStringBuilder_inflateIfNeededFor_21 (g : zG)  (v0 : Nat) (v1 : Option Nat) (σ : zS) : Option (zS) := some σ
def s_AbstractStringBuilder_inflateIfNeededFor (g : zG) (v0 : Nat) (v1 : Option Nat) (σ : zS) : Option (zS) := (zgI σ v0 12 1).bind fun x2 => (v1).bind fun a4 => (zis σ a4 13).bind fun _ => (s_String_coder g a4  σ).bind fun (x7, σ5) => if x2 = x7 then s_AbstractStringBuilder_inflateIfNeededFor_21 g  (v0) (some (a4)) σ5 else (zis σ5 v0 12).bind fun _ => (s_AbstractStringBuilder_inflate g v0  σ5).bind fun σ9 => s_AbstractStringBuilder_inflateIfNeededFor_21 g  (v0) (some (a4)) σ9
set_option maxRecDepth 100000 in
theorem t_AbstractStringBuilder_inflateIfNeededFor_21 {l : Launch} {D : zD} {g : zG} (hG : zGok g D) {q : zS}   {v0 : Nat} {v1 : Option Nat} {σ : zS} (h : s_AbstractStringBuilder_inflateIfNeededFor_21 g  v0 v1 σ = some q) : Z l D K_AbstractStringBuilder_inflateIfNeededFor 6 137 (.returned none, q) 21 [(0, .ref (v0)), (1, va_rf (v1))] [] σ := by
  unfold s_AbstractStringBuilder_inflateIfNeededFor_21 at h
  cases h
  exact z_vret rfl rfl d_AbstractStringBuilder_inflateIfNeededFor_21
set_option maxRecDepth 100000 in
theorem t_AbstractStringBuilder_inflateIfNeededFor {l : Launch} {D : zD} {g : zG} (hG : zGok g D) {v0 : Nat} {v1 : Option Nat} {σ : zS} {q : zS} (h : s_AbstractStringBuilder_inflateIfNeededFor g v0 v1 σ = some q) : zMet l D Y_AbstractStringBuilder_inflateIfNeededFor K_AbstractStringBuilder_inflateIfNeededFor 6 137 [.ref (v0), va_rf (v1)] σ (.returned none, q) := by
  refine zMet.ofZ (by decide) rfl (fun q => by cases q) (by simp [lg_sl, z_rfc, z_ci, z_cl, z_cr, z_cn]) ?_
  rw [show lv_args 0 ([.ref (v0), va_rf (v1)] : List Value) = [(0, .ref (v0)), (1, va_rf (v1))] from by simp [lv_args, z_rfc, z_ci, z_cl, z_cr, z_cn]]
  unfold s_AbstractStringBuilder_inflateIfNeededFor at h
  refine z_gets (zG_0 hG) wG_java_lang_AbstractStringBuilder_18 (Or.inl rfl) d_AbstractStringBuilder_inflateIfNeededFor_0 ?_
  refine z_if_eq (tgt := 21) d_AbstractStringBuilder_inflateIfNeededFor_3 rfl (fun q => absurd q (by decide)) (fun _ => ?_)
  refine z_aload_n 0 d_AbstractStringBuilder_inflateIfNeededFor_6 rfl rfl ?_
  replace h := Option.bind_eq_some_iff.mp h; obtain ⟨x2, e3, h⟩ := h
  refine z_getI wF_java_lang_AbstractStringBuilder_22_12 d_AbstractStringBuilder_inflateIfNeededFor_7 e3 ?_
  refine z_aload_nR 1 d_AbstractStringBuilder_inflateIfNeededFor_10 rfl rfl ?_
  replace h := Option.bind_eq_some_iff.mp h; obtain ⟨a4, rfl, h⟩ := h
  replace h := Option.bind_eq_some_iff.mp h; obtain ⟨_, e15, h⟩ := h
  obtain ⟨b16, f17, e15⟩ := zcls_at (zis_at e15)
  replace h := Option.bind_eq_some_iff.mp h; obtain ⟨⟨x7, σ5⟩, e6, h⟩ := h
  dsimp only at h
  refine z_callV (av := []) (st := [.int (x2)]) wV_java_lang_AbstractStringBuilder_40 e15 (t_String_coder hG e6) (by decide) (by decide) d_AbstractStringBuilder_inflateIfNeededFor_11 (by simp [z_rfc, z_ci, z_cl, z_cr, z_cn]) ?_
  show Z _ _ _ _ _ _ 14 [(0, .ref (v0)), (1, .ref (a4))] [.int (x7), .int (x2)] _
  refine z_icmp_eq (tgt := 21) d_AbstractStringBuilder_inflateIfNeededFor_14 rfl (fun c8 => ?_) (fun c8 => ?_)
  · rw [if_pos c8] at h
    refine z_lv (lv' := [(0, .ref (v0)), (1, va_rf (some (a4)))]) [0, 1] rfl ?_
    exact t_AbstractStringBuilder_inflateIfNeededFor_21 hG   h
  · rw [if_neg c8] at h
    refine z_aload_n 0 d_AbstractStringBuilder_inflateIfNeededFor_17 rfl rfl ?_
    replace h := Option.bind_eq_some_iff.mp h; obtain ⟨_, e12, h⟩ := h
    obtain ⟨b13, f14, e12⟩ := zcls_at (zis_at e12)
    replace h := Option.bind_eq_some_iff.mp h; obtain ⟨σ9, e10, h⟩ := h
    refine z_callW (av := []) (st := []) wX_java_lang_AbstractStringBuilder_195_12 e12 (t_AbstractStringBuilder_inflate hG e10) (by decide) (by decide) d_AbstractStringBuilder_inflateIfNeededFor_18 (by simp [z_rfc, z_ci, z_cl, z_cr, z_cn]) ?_
    show Z _ _ _ _ _ _ 21 [(0, .ref (v0)), (1, .ref (a4))] [] _
    refine z_lv (lv' := [(0, .ref (v0)), (1, va_rf (some (a4)))]) [0, 1] rfl ?_
    exact t_AbstractStringBuilder_inflateIfNeededFor_21 hG   h

def s_String_init (g : zG) (v0 : Nat) (v1 : Option Nat) (σ : zS) : Option (zS) := (s_String_init2 g v0 v1 none σ).bind fun σ1 => some σ1
set_option maxRecDepth 100000 in
theorem t_String_init {l : Launch} {D : zD} {g : zG} (hG : zGok g D) {v0 : Nat} {v1 : Option Nat} {σ : zS} {q : zS} (h : s_String_init g v0 v1 σ = some q) : zMet l D Y_String_init K_String_init 6 142 [.ref (v0), va_rf (v1)] σ (.returned none, q) := by
  refine zMet.ofZ (by decide) rfl (fun q => rfl) (by simp [lg_sl, z_rfc, z_ci, z_cl, z_cr, z_cn]) ?_
  rw [show lv_args 0 ([.ref (v0), va_rf (v1)] : List Value) = [(0, .ref (v0)), (1, va_rf (v1))] from by simp [lv_args, z_rfc, z_ci, z_cl, z_cr, z_cn]]
  unfold s_String_init at h
  refine z_aload_n 0 d_String_init_0 rfl rfl ?_
  refine z_aload_nR 1 d_String_init_1 rfl rfl ?_
  refine z_null d_String_init_2 ?_
  replace h := Option.bind_eq_some_iff.mp h; obtain ⟨σ1, e2, h⟩ := h
  refine z_callI (av := [va_rf (v1), va_rf (none)]) (st := []) wI_java_lang_String_489 (t_String_init2 hG e2) (by decide) (by decide) d_String_init_3 (by simp [z_rfc, z_ci, z_cl, z_cr, z_cn]) ?_
  show Z _ _ _ _ _ _ 6 [(0, .ref (v0)), (1, va_rf (v1))] [] _
  cases h
  exact z_vret rfl rfl d_String_init_6

def s_AbstractStringBuilder_append_75 (g : zG)  (v0 : Nat) (v1 : Int32) (σ : zS) : Option (Option Nat × zS) := some (some (v0), σ)
def s_AbstractStringBuilder_append_56 (g : zG)  (v0 : Nat) (v1 : Int32) (σ : zS) : Option (Option Nat × zS) := (zgR σ v0 12 0).bind fun x1 => (zgI σ v0 12 3).bind fun x3 => (zpF σ v0 12 3 (.int (x3 + 1))).bind fun σ5 => (s_StringUTF16_putCharSB g x1 x3 v1 σ5).bind fun σ7 => s_AbstractStringBuilder_append_75 g  (v0) (v1) σ7
def s_AbstractStringBuilder_append_45 (g : zG)  (v0 : Nat) (v1 : Int32) (σ : zS) : Option (Option Nat × zS) := (zis σ v0 12).bind fun _ => (s_AbstractStringBuilder_isLatin1 g v0  σ).bind fun (x3, σ1) => if x3 = 0 then s_AbstractStringBuilder_append_56 g  (v0) (v1) σ1 else (zis σ1 v0 12).bind fun _ => (s_AbstractStringBuilder_inflate g v0  σ1).bind fun σ5 => s_AbstractStringBuilder_append_56 g  (v0) (v1) σ5
def s_AbstractStringBuilder_append (g : zG) (v0 : Nat) (v1 : Int32) (σ : zS) : Option (Option Nat × zS) := (zgI σ v0 12 3).bind fun x1 => (zis σ v0 12).bind fun _ => (s_AbstractStringBuilder_ensureCapacityInternal g v0 (x1 + 1) σ).bind fun σ3 => (zis σ3 v0 12).bind fun _ => (s_AbstractStringBuilder_isLatin1 g v0  σ3).bind fun (x8, σ6) => if x8 = 0 then s_AbstractStringBuilder_append_45 g  (v0) (v1) σ6 else (s_StringLatin1_canEncode g v1 σ6).bind fun (x12, σ10) => if x12 = 0 then s_AbstractStringBuilder_append_45 g  (v0) (v1) σ10 else (zgR σ10 v0 12 0).bind fun x14 => (zgI σ10 v0 12 3).bind fun x16 => (zpF σ10 v0 12 3 (.int (x16 + 1))).bind fun σ18 => (x14).bind fun a20 => (zsI σ18 a20 2 (x16) (vp_nar .byte (v1.toInt8.toInt32))).bind fun σ21 => s_AbstractStringBuilder_append_75 g  (v0) (v1) σ21
set_option maxRecDepth 100000 in
theorem t_AbstractStringBuilder_append_75 {l : Launch} {D : zD} {g : zG} (hG : zGok g D) {q : Option Nat × zS}   {v0 : Nat} {v1 : Int32} {σ : zS} (h : s_AbstractStringBuilder_append_75 g  v0 v1 σ = some q) : Z l D K_AbstractStringBuilder_append 6 137 (.returned (some (va_rf q.1)), q.2) 75 [(0, .ref (v0)), (1, .int (v1))] [] σ := by
  unfold s_AbstractStringBuilder_append_75 at h
  refine z_aload_n 0 d_AbstractStringBuilder_append_75 rfl rfl ?_
  cases h
  exact z_aret (r := some (v0)) rfl (Or.inl ⟨_, rfl⟩) rfl d_AbstractStringBuilder_append_76
set_option maxRecDepth 100000 in
theorem t_AbstractStringBuilder_append_56 {l : Launch} {D : zD} {g : zG} (hG : zGok g D) {q : Option Nat × zS}   {v0 : Nat} {v1 : Int32} {σ : zS} (h : s_AbstractStringBuilder_append_56 g  v0 v1 σ = some q) : Z l D K_AbstractStringBuilder_append 6 137 (.returned (some (va_rf q.1)), q.2) 56 [(0, .ref (v0)), (1, .int (v1))] [] σ := by
  unfold s_AbstractStringBuilder_append_56 at h
  refine z_aload_n 0 d_AbstractStringBuilder_append_56 rfl rfl ?_
  replace h := Option.bind_eq_some_iff.mp h; obtain ⟨x1, e2, h⟩ := h
  refine z_getR wF_java_lang_AbstractStringBuilder_15_12 d_AbstractStringBuilder_append_57 e2 ?_
  refine z_aload_n 0 d_AbstractStringBuilder_append_60 rfl rfl ?_
  refine z_dup d_AbstractStringBuilder_append_61 rfl ?_
  replace h := Option.bind_eq_some_iff.mp h; obtain ⟨x3, e4, h⟩ := h
  refine z_getI wF_java_lang_AbstractStringBuilder_79_12 d_AbstractStringBuilder_append_62 e4 ?_
  refine z_dup_x1 d_AbstractStringBuilder_append_65 rfl rfl ?_
  refine z_iconst (v := 1) d_AbstractStringBuilder_append_66 rfl ?_
  refine z_iadd d_AbstractStringBuilder_append_67 ?_
  replace h := Option.bind_eq_some_iff.mp h; obtain ⟨σ5, e6, h⟩ := h
  refine z_put wP_java_lang_AbstractStringBuilder_79_12 (fun q => by cases q) d_AbstractStringBuilder_append_68 rfl rfl e6 ?_
  refine z_iload_n 1 d_AbstractStringBuilder_append_71 rfl rfl ?_
  replace h := Option.bind_eq_some_iff.mp h; obtain ⟨σ7, e8, h⟩ := h
  refine z_callS (av := [va_rf (x1), .int (x3), .int (v1)]) (st := []) wS_java_lang_AbstractStringBuilder_197 (t_StringUTF16_putCharSB hG e8) (by decide) (by decide) d_AbstractStringBuilder_append_72 (by simp [z_rfc, z_ci, z_cl, z_cr, z_cn]) ?_
  show Z _ _ _ _ _ _ 75 [(0, .ref (v0)), (1, .int (v1))] [] _
  refine z_lv (lv' := [(0, .ref (v0)), (1, .int (v1))]) [0, 1] rfl ?_
  exact t_AbstractStringBuilder_append_75 hG   h
set_option maxRecDepth 100000 in
theorem t_AbstractStringBuilder_append_45 {l : Launch} {D : zD} {g : zG} (hG : zGok g D) {q : Option Nat × zS}   {v0 : Nat} {v1 : Int32} {σ : zS} (h : s_AbstractStringBuilder_append_45 g  v0 v1 σ = some q) : Z l D K_AbstractStringBuilder_append 6 137 (.returned (some (va_rf q.1)), q.2) 45 [(0, .ref (v0)), (1, .int (v1))] [] σ := by
  unfold s_AbstractStringBuilder_append_45 at h
  refine z_aload_n 0 d_AbstractStringBuilder_append_45 rfl rfl ?_
  replace h := Option.bind_eq_some_iff.mp h; obtain ⟨_, e11, h⟩ := h
  obtain ⟨b12, f13, e11⟩ := zcls_at (zis_at e11)
  replace h := Option.bind_eq_some_iff.mp h; obtain ⟨⟨x3, σ1⟩, e2, h⟩ := h
  dsimp only at h
  refine z_callU (av := []) (st := []) wX_java_lang_AbstractStringBuilder_83_12 e11 (t_AbstractStringBuilder_isLatin1 hG e2) (by decide) (by decide) d_AbstractStringBuilder_append_46 (by simp [z_rfc, z_ci, z_cl, z_cr, z_cn]) ?_
  show Z _ _ _ _ _ _ 49 [(0, .ref (v0)), (1, .int (v1))] [.int (x3)] _
  refine z_if_eq (tgt := 56) d_AbstractStringBuilder_append_49 rfl (fun c4 => ?_) (fun c4 => ?_)
  · rw [if_pos c4] at h
    refine z_lv (lv' := [(0, .ref (v0)), (1, .int (v1))]) [0, 1] rfl ?_
    exact t_AbstractStringBuilder_append_56 hG   h
  · rw [if_neg c4] at h
    refine z_aload_n 0 d_AbstractStringBuilder_append_52 rfl rfl ?_
    replace h := Option.bind_eq_some_iff.mp h; obtain ⟨_, e8, h⟩ := h
    obtain ⟨b9, f10, e8⟩ := zcls_at (zis_at e8)
    replace h := Option.bind_eq_some_iff.mp h; obtain ⟨σ5, e6, h⟩ := h
    refine z_callW (av := []) (st := []) wX_java_lang_AbstractStringBuilder_195_12 e8 (t_AbstractStringBuilder_inflate hG e6) (by decide) (by decide) d_AbstractStringBuilder_append_53 (by simp [z_rfc, z_ci, z_cl, z_cr, z_cn]) ?_
    show Z _ _ _ _ _ _ 56 [(0, .ref (v0)), (1, .int (v1))] [] _
    refine z_lv (lv' := [(0, .ref (v0)), (1, .int (v1))]) [0, 1] rfl ?_
    exact t_AbstractStringBuilder_append_56 hG   h
set_option maxRecDepth 100000 in
theorem t_AbstractStringBuilder_append {l : Launch} {D : zD} {g : zG} (hG : zGok g D) {v0 : Nat} {v1 : Int32} {σ : zS} {q : Option Nat × zS} (h : s_AbstractStringBuilder_append g v0 v1 σ = some q) : zMet l D Y_AbstractStringBuilder_append K_AbstractStringBuilder_append 6 137 [.ref (v0), .int (v1)] σ (.returned (some (va_rf q.1)), q.2) := by
  refine zMet.ofZ (by decide) rfl (fun q => by cases q) (Nat.le_of_ble_eq_true rfl) ?_
  show Z _ _ _ _ _ _ 0 [(0, .ref (v0)), (1, .int (v1))] [] _
  unfold s_AbstractStringBuilder_append at h
  refine z_aload_n 0 d_AbstractStringBuilder_append_0 rfl rfl ?_
  refine z_aload_n 0 d_AbstractStringBuilder_append_1 rfl rfl ?_
  replace h := Option.bind_eq_some_iff.mp h; obtain ⟨x1, e2, h⟩ := h
  refine z_getI wF_java_lang_AbstractStringBuilder_79_12 d_AbstractStringBuilder_append_2 e2 ?_
  refine z_iconst (v := 1) d_AbstractStringBuilder_append_5 rfl ?_
  refine z_iadd d_AbstractStringBuilder_append_6 ?_
  replace h := Option.bind_eq_some_iff.mp h; obtain ⟨_, e26, h⟩ := h
  obtain ⟨b27, f28, e26⟩ := zcls_at (zis_at e26)
  replace h := Option.bind_eq_some_iff.mp h; obtain ⟨σ3, e4, h⟩ := h
  refine z_callW (av := [.int (x1 + 1)]) (st := []) wX_java_lang_AbstractStringBuilder_100_12 e26 (t_AbstractStringBuilder_ensureCapacityInternal hG e4) (by decide) (by decide) d_AbstractStringBuilder_append_7 (by simp [z_rfc, z_ci, z_cl, z_cr, z_cn]) ?_
  show Z _ _ _ _ _ _ 10 [(0, .ref (v0)), (1, .int (v1))] [] _
  refine z_aload_n 0 d_AbstractStringBuilder_append_10 rfl rfl ?_
  replace h := Option.bind_eq_some_iff.mp h; obtain ⟨_, e23, h⟩ := h
  obtain ⟨b24, f25, e23⟩ := zcls_at (zis_at e23)
  replace h := Option.bind_eq_some_iff.mp h; obtain ⟨⟨x8, σ6⟩, e7, h⟩ := h
  dsimp only at h
  refine z_callU (av := []) (st := []) wX_java_lang_AbstractStringBuilder_83_12 e23 (t_AbstractStringBuilder_isLatin1 hG e7) (by decide) (by decide) d_AbstractStringBuilder_append_11 (by simp [z_rfc, z_ci, z_cl, z_cr, z_cn]) ?_
  show Z _ _ _ _ _ _ 14 [(0, .ref (v0)), (1, .int (v1))] [.int (x8)] _
  refine z_if_eq (tgt := 45) d_AbstractStringBuilder_append_14 rfl (fun c9 => ?_) (fun c9 => ?_)
  · rw [if_pos c9] at h
    refine z_lv (lv' := [(0, .ref (v0)), (1, .int (v1))]) [0, 1] rfl ?_
    exact t_AbstractStringBuilder_append_45 hG   h
  · rw [if_neg c9] at h
    refine z_iload_n 1 d_AbstractStringBuilder_append_17 rfl rfl ?_
    replace h := Option.bind_eq_some_iff.mp h; obtain ⟨⟨x12, σ10⟩, e11, h⟩ := h
    dsimp only at h
    refine z_callS (av := [.int (v1)]) (st := []) wS_java_lang_AbstractStringBuilder_191 (t_StringLatin1_canEncode hG e11) (by decide) (by decide) d_AbstractStringBuilder_append_18 (by simp [z_rfc, z_ci, z_cl, z_cr, z_cn]) ?_
    show Z _ _ _ _ _ _ 21 [(0, .ref (v0)), (1, .int (v1))] [.int (x12)] _
    refine z_if_eq (tgt := 45) d_AbstractStringBuilder_append_21 rfl (fun c13 => ?_) (fun c13 => ?_)
    · rw [if_pos c13] at h
      refine z_lv (lv' := [(0, .ref (v0)), (1, .int (v1))]) [0, 1] rfl ?_
      exact t_AbstractStringBuilder_append_45 hG   h
    · rw [if_neg c13] at h
      refine z_aload_n 0 d_AbstractStringBuilder_append_24 rfl rfl ?_
      replace h := Option.bind_eq_some_iff.mp h; obtain ⟨x14, e15, h⟩ := h
      refine z_getR wF_java_lang_AbstractStringBuilder_15_12 d_AbstractStringBuilder_append_25 e15 ?_
      refine z_aload_n 0 d_AbstractStringBuilder_append_28 rfl rfl ?_
      refine z_dup d_AbstractStringBuilder_append_29 rfl ?_
      replace h := Option.bind_eq_some_iff.mp h; obtain ⟨x16, e17, h⟩ := h
      refine z_getI wF_java_lang_AbstractStringBuilder_79_12 d_AbstractStringBuilder_append_30 e17 ?_
      refine z_dup_x1 d_AbstractStringBuilder_append_33 rfl rfl ?_
      refine z_iconst (v := 1) d_AbstractStringBuilder_append_34 rfl ?_
      refine z_iadd d_AbstractStringBuilder_append_35 ?_
      replace h := Option.bind_eq_some_iff.mp h; obtain ⟨σ18, e19, h⟩ := h
      refine z_put wP_java_lang_AbstractStringBuilder_79_12 (fun q => by cases q) d_AbstractStringBuilder_append_36 rfl rfl e19 ?_
      refine z_iload_n 1 d_AbstractStringBuilder_append_39 rfl rfl ?_
      refine z_i2b d_AbstractStringBuilder_append_40 ?_
      replace h := Option.bind_eq_some_iff.mp h; obtain ⟨a20, rfl, h⟩ := h
      replace h := Option.bind_eq_some_iff.mp h; obtain ⟨σ21, e22, h⟩ := h
      refine z_bastore rfl d_AbstractStringBuilder_append_41 e22 ?_
      refine z_goto (tgt := 75) d_AbstractStringBuilder_append_42 rfl ?_
      refine z_lv (lv' := [(0, .ref (v0)), (1, .int (v1))]) [0, 1] rfl ?_
      exact t_AbstractStringBuilder_append_75 hG   h

def s_AbstractStringBuilder_putStringAt (g : zG) (v0 : Nat) (v1 : Int32) (v2 : Option Nat) (σ : zS) : Option (zS) := (zis σ v0 12).bind fun _ => (s_AbstractStringBuilder_inflateIfNeededFor g v0 v2 σ).bind fun σ1 => (zgR σ1 v0 12 0).bind fun x4 => (zgI σ1 v0 12 1).bind fun x6 => (v2).bind fun a8 => (zis σ1 a8 13).bind fun _ => (s_String_getBytes g a8 x4 v1 x6 σ1).bind fun σ9 => some σ9
set_option maxRecDepth 100000 in
theorem t_AbstractStringBuilder_putStringAt {l : Launch} {D : zD} {g : zG} (hG : zGok g D) {v0 : Nat} {v1 : Int32} {v2 : Option Nat} {σ : zS} {q : zS} (h : s_AbstractStringBuilder_putStringAt g v0 v1 v2 σ = some q) : zMet l D Y_AbstractStringBuilder_putStringAt K_AbstractStringBuilder_putStringAt 7 158 [.ref (v0), .int (v1), va_rf (v2)] σ (.returned none, q) := by
  refine zMet.ofZ (by decide) rfl (fun q => by cases q) (by simp [lg_sl, z_rfc, z_ci, z_cl, z_cr, z_cn]) ?_
  rw [show lv_args 0 ([.ref (v0), .int (v1), va_rf (v2)] : List Value) = [(0, .ref (v0)), (1, .int (v1)), (2, va_rf (v2))] from by simp [lv_args, z_rfc, z_ci, z_cl, z_cr, z_cn]]
  unfold s_AbstractStringBuilder_putStringAt at h
  refine z_aload_n 0 d_AbstractStringBuilder_putStringAt_0 rfl rfl ?_
  refine z_aload_nR 2 d_AbstractStringBuilder_putStringAt_1 rfl rfl ?_
  replace h := Option.bind_eq_some_iff.mp h; obtain ⟨_, e15, h⟩ := h
  obtain ⟨b16, f17, e15⟩ := zcls_at (zis_at e15)
  replace h := Option.bind_eq_some_iff.mp h; obtain ⟨σ1, e2, h⟩ := h
  refine z_callW (av := [va_rf (v2)]) (st := []) wX_java_lang_AbstractStringBuilder_397_12 e15 (t_AbstractStringBuilder_inflateIfNeededFor hG e2) (by decide) (by decide) d_AbstractStringBuilder_putStringAt_2 (by simp [z_rfc, z_ci, z_cl, z_cr, z_cn]) ?_
  show Z _ _ _ _ _ _ 5 [(0, .ref (v0)), (1, .int (v1)), (2, va_rf (v2))] [] _
  refine z_aload_nR 2 d_AbstractStringBuilder_putStringAt_5 rfl rfl ?_
  refine z_aload_n 0 d_AbstractStringBuilder_putStringAt_6 rfl rfl ?_
  replace h := Option.bind_eq_some_iff.mp h; obtain ⟨x4, e5, h⟩ := h
  refine z_getR wF_java_lang_AbstractStringBuilder_15_12 d_AbstractStringBuilder_putStringAt_7 e5 ?_
  refine z_iload_n 1 d_AbstractStringBuilder_putStringAt_10 rfl rfl ?_
  refine z_aload_n 0 d_AbstractStringBuilder_putStringAt_11 rfl rfl ?_
  replace h := Option.bind_eq_some_iff.mp h; obtain ⟨x6, e7, h⟩ := h
  refine z_getI wF_java_lang_AbstractStringBuilder_22_12 d_AbstractStringBuilder_putStringAt_12 e7 ?_
  replace h := Option.bind_eq_some_iff.mp h; obtain ⟨a8, rfl, h⟩ := h
  replace h := Option.bind_eq_some_iff.mp h; obtain ⟨_, e12, h⟩ := h
  obtain ⟨b13, f14, e12⟩ := zcls_at (zis_at e12)
  replace h := Option.bind_eq_some_iff.mp h; obtain ⟨σ9, e10, h⟩ := h
  refine z_callV (av := [va_rf (x4), .int (v1), .int (x6)]) (st := []) wV_java_lang_AbstractStringBuilder_399 e12 (t_String_getBytes hG e10) (by decide) (by decide) d_AbstractStringBuilder_putStringAt_15 (by simp [z_rfc, z_ci, z_cl, z_cr, z_cn]) ?_
  show Z _ _ _ _ _ _ 18 [(0, .ref (v0)), (1, .int (v1)), (2, .ref (a8))] [] _
  cases h
  exact z_vret rfl rfl d_AbstractStringBuilder_putStringAt_18

def s_StringBuilder_toString (g : zG) (v0 : Nat) (σ : zS) : Option (Option Nat × zS) := (some (znew σ 4 (.inr (13, [.null, .int 0, .int 0, .int 0])))).bind fun σ1 => (s_String_init g (σ.1) (some (v0)) σ1).bind fun σ2 => some (some (σ.1), σ2)
set_option maxRecDepth 100000 in
theorem t_StringBuilder_toString {l : Launch} {D : zD} {g : zG} (hG : zGok g D) {v0 : Nat} {σ : zS} {q : Option Nat × zS} (h : s_StringBuilder_toString g v0 σ = some q) : zMet l D Y_StringBuilder_toString K_StringBuilder_toString 7 163 [.ref (v0)] σ (.returned (some (va_rf q.1)), q.2) := by
  refine zMet.ofZ (by decide) rfl (fun q => by cases q) (Nat.le_of_ble_eq_true rfl) ?_
  show Z _ _ _ _ _ _ 0 [(0, .ref (v0))] [] _
  unfold s_StringBuilder_toString at h
  replace h := Option.bind_eq_some_iff.mp h; obtain ⟨σ1, e1, h⟩ := h
  refine z_new wN_java_lang_StringBuilder_18 d_StringBuilder_toString_0 ?_
  rw [Option.some.inj e1]
  refine z_dup d_StringBuilder_toString_3 rfl ?_
  refine z_aload_n 0 d_StringBuilder_toString_4 rfl rfl ?_
  replace h := Option.bind_eq_some_iff.mp h; obtain ⟨σ2, e3, h⟩ := h
  refine z_callI (av := [va_rf (some (v0))]) (st := [.ref (σ.1)]) wI_java_lang_StringBuilder_137 (t_String_init hG e3) (by decide) (by decide) d_StringBuilder_toString_5 (by simp [z_rfc, z_ci, z_cl, z_cr, z_cn]) ?_
  show Z _ _ _ _ _ _ 8 [(0, .ref (v0))] [.ref (σ.1)] _
  cases h
  exact z_aret (r := some (σ.1)) rfl (Or.inl ⟨_, rfl⟩) rfl d_StringBuilder_toString_8

def s_StringBuilder_append (g : zG) (v0 : Nat) (v1 : Int32) (σ : zS) : Option (Option Nat × zS) := (zis σ v0 12).bind fun _ => (s_AbstractStringBuilder_append g v0 v1 σ).bind fun (x3, σ1) => some (some (v0), σ1)
set_option maxRecDepth 100000 in
theorem t_StringBuilder_append {l : Launch} {D : zD} {g : zG} (hG : zGok g D) {v0 : Nat} {v1 : Int32} {σ : zS} {q : Option Nat × zS} (h : s_StringBuilder_append g v0 v1 σ = some q) : zMet l D Y_StringBuilder_append K_StringBuilder_append 7 158 [.ref (v0), .int (v1)] σ (.returned (some (va_rf q.1)), q.2) := by
  refine zMet.ofZ (by decide) rfl (fun q => by cases q) (Nat.le_of_ble_eq_true rfl) ?_
  show Z _ _ _ _ _ _ 0 [(0, .ref (v0)), (1, .int (v1))] [] _
  unfold s_StringBuilder_append at h
  refine z_aload_n 0 d_StringBuilder_append_0 rfl rfl ?_
  refine z_iload_n 1 d_StringBuilder_append_1 rfl rfl ?_
  replace h := Option.bind_eq_some_iff.mp h; obtain ⟨_, e4, h⟩ := h
  obtain ⟨b5, f6, e4⟩ := zcls_at (zis_at e4)
  replace h := Option.bind_eq_some_iff.mp h; obtain ⟨⟨x3, σ1⟩, e2, h⟩ := h
  dsimp only at h
  refine z_callP (av := [.int (v1)]) (st := []) wX_java_lang_StringBuilder_50 (ci := 12) rfl e4 (t_AbstractStringBuilder_append hG e2) (by decide) (by decide) d_StringBuilder_append_2 (by simp [z_rfc, z_ci, z_cl, z_cr, z_cn]) ?_
  show Z _ _ _ _ _ _ 5 [(0, .ref (v0)), (1, .int (v1))] [va_rf (x3)] _
  refine z_pop d_StringBuilder_append_5 (z_rfc _) ?_
  refine z_aload_n 0 d_StringBuilder_append_6 rfl rfl ?_
  cases h
  exact z_aret (r := some (v0)) rfl (Or.inl ⟨_, rfl⟩) rfl d_StringBuilder_append_7

def s_AbstractStringBuilder_append2 (g : zG) (v0 : Nat) (v1 : Option Nat) (σ : zS) : Option (Option Nat × zS) := match v1 with | none => (zis σ v0 12).bind fun _ => (s_AbstractStringBuilder_appendNull g v0  σ).bind fun (x5, σ3) => some (x5, σ3) | some a2 => (zis σ a2 13).bind fun _ => (s_String_length g a2  σ).bind fun (x11, σ9) => (zgI σ9 v0 12 3).bind fun x12 => (zis σ9 v0 12).bind fun _ => (s_AbstractStringBuilder_ensureCapacityInternal g v0 (x12 + x11) σ9).bind fun σ14 => (zgI σ14 v0 12 3).bind fun x17 => (zis σ14 v0 12).bind fun _ => (s_AbstractStringBuilder_putStringAt g v0 x17 (some (a2)) σ14).bind fun σ19 => (zgI σ19 v0 12 3).bind fun x22 => (zpF σ19 v0 12 3 (.int (x22 + x11))).bind fun σ24 => some (some (v0), σ24)
set_option maxRecDepth 100000 in
theorem t_AbstractStringBuilder_append2 {l : Launch} {D : zD} {g : zG} (hG : zGok g D) {v0 : Nat} {v1 : Option Nat} {σ : zS} {q : Option Nat × zS} (h : s_AbstractStringBuilder_append2 g v0 v1 σ = some q) : zMet l D Y_AbstractStringBuilder_append2 K_AbstractStringBuilder_append2 8 180 [.ref (v0), va_rf (v1)] σ (.returned (some (va_rf q.1)), q.2) := by
  refine zMet.ofZ (by decide) rfl (fun q => by cases q) (by simp [lg_sl, z_rfc, z_ci, z_cl, z_cr, z_cn]) ?_
  rw [show lv_args 0 ([.ref (v0), va_rf (v1)] : List Value) = [(0, .ref (v0)), (1, va_rf (v1))] from by simp [lv_args, z_rfc, z_ci, z_cl, z_cr, z_cn]]
  unfold s_AbstractStringBuilder_append2 at h
  refine z_aload_nR 1 d_AbstractStringBuilder_append2_0 rfl rfl ?_
  refine z_ifnonnull (tgt := 9) d_AbstractStringBuilder_append2_1 rfl (fun a2 c1 => ?_) (fun c1 => ?_)
  · subst c1
    dsimp only at h
    refine z_aload_n 1 d_AbstractStringBuilder_append2_9 rfl rfl ?_
    replace h := Option.bind_eq_some_iff.mp h; obtain ⟨_, e32, h⟩ := h
    obtain ⟨b33, f34, e32⟩ := zcls_at (zis_at e32)
    replace h := Option.bind_eq_some_iff.mp h; obtain ⟨⟨x11, σ9⟩, e10, h⟩ := h
    dsimp only at h
    refine z_callV (av := []) (st := []) wV_java_lang_AbstractStringBuilder_32 e32 (t_String_length hG e10) (by decide) (by decide) d_AbstractStringBuilder_append2_10 (by simp [z_rfc, z_ci, z_cl, z_cr, z_cn]) ?_
    show Z _ _ _ _ _ _ 13 [(0, .ref (v0)), (1, .ref (a2))] [.int (x11)] _
    refine z_istore_n (j := 2) (lv' := [(2, .int (x11)), (0, .ref (v0)), (1, .ref (a2))]) d_AbstractStringBuilder_append2_13 rfl (by decide) rfl ?_
    refine z_aload_n 1 d_AbstractStringBuilder_append2_14 rfl rfl ?_
    refine z_aload_n 1 d_AbstractStringBuilder_append2_15 rfl rfl ?_
    replace h := Option.bind_eq_some_iff.mp h; obtain ⟨x12, e13, h⟩ := h
    refine z_getI wF_java_lang_AbstractStringBuilder_79_12 d_AbstractStringBuilder_append2_16 e13 ?_
    refine z_iload_n 0 d_AbstractStringBuilder_append2_19 rfl rfl ?_
    refine z_iadd d_AbstractStringBuilder_append2_20 ?_
    replace h := Option.bind_eq_some_iff.mp h; obtain ⟨_, e29, h⟩ := h
    obtain ⟨b30, f31, e29⟩ := zcls_at (zis_at e29)
    replace h := Option.bind_eq_some_iff.mp h; obtain ⟨σ14, e15, h⟩ := h
    refine z_callW (av := [.int (x12 + x11)]) (st := []) wX_java_lang_AbstractStringBuilder_100_12 e29 (t_AbstractStringBuilder_ensureCapacityInternal hG e15) (by decide) (by decide) d_AbstractStringBuilder_append2_21 (by simp [z_rfc, z_ci, z_cl, z_cr, z_cn]) ?_
    show Z _ _ _ _ _ _ 24 [(2, .int (x11)), (0, .ref (v0)), (1, .ref (a2))] [] _
    refine z_aload_n 1 d_AbstractStringBuilder_append2_24 rfl rfl ?_
    refine z_aload_n 1 d_AbstractStringBuilder_append2_25 rfl rfl ?_
    replace h := Option.bind_eq_some_iff.mp h; obtain ⟨x17, e18, h⟩ := h
    refine z_getI wF_java_lang_AbstractStringBuilder_79_12 d_AbstractStringBuilder_append2_26 e18 ?_
    refine z_aload_n 2 d_AbstractStringBuilder_append2_29 rfl rfl ?_
    replace h := Option.bind_eq_some_iff.mp h; obtain ⟨_, e26, h⟩ := h
    obtain ⟨b27, f28, e26⟩ := zcls_at (zis_at e26)
    replace h := Option.bind_eq_some_iff.mp h; obtain ⟨σ19, e20, h⟩ := h
    refine z_callW (av := [.int (x17), va_rf (some (a2))]) (st := []) wX_java_lang_AbstractStringBuilder_208_12 e26 (t_AbstractStringBuilder_putStringAt hG e20) (by decide) (by decide) d_AbstractStringBuilder_append2_30 (by simp [z_rfc, z_ci, z_cl, z_cr, z_cn]) ?_
    show Z _ _ _ _ _ _ 33 [(2, .int (x11)), (0, .ref (v0)), (1, .ref (a2))] [] _
    refine z_aload_n 1 d_AbstractStringBuilder_append2_33 rfl rfl ?_
    refine z_dup d_AbstractStringBuilder_append2_34 rfl ?_
    replace h := Option.bind_eq_some_iff.mp h; obtain ⟨x22, e23, h⟩ := h
    refine z_getI wF_java_lang_AbstractStringBuilder_79_12 d_AbstractStringBuilder_append2_35 e23 ?_
    refine z_iload_n 0 d_AbstractStringBuilder_append2_38 rfl rfl ?_
    refine z_iadd d_AbstractStringBuilder_append2_39 ?_
    replace h := Option.bind_eq_some_iff.mp h; obtain ⟨σ24, e25, h⟩ := h
    refine z_put wP_java_lang_AbstractStringBuilder_79_12 (fun q => by cases q) d_AbstractStringBuilder_append2_40 rfl rfl e25 ?_
    refine z_aload_n 1 d_AbstractStringBuilder_append2_43 rfl rfl ?_
    cases h
    exact z_aret (r := some (v0)) rfl (Or.inl ⟨_, rfl⟩) rfl d_AbstractStringBuilder_append2_44
  · subst c1
    dsimp only at h
    refine z_aload_n 0 d_AbstractStringBuilder_append2_4 rfl rfl ?_
    replace h := Option.bind_eq_some_iff.mp h; obtain ⟨_, e6, h⟩ := h
    obtain ⟨b7, f8, e6⟩ := zcls_at (zis_at e6)
    replace h := Option.bind_eq_some_iff.mp h; obtain ⟨⟨x5, σ3⟩, e4, h⟩ := h
    dsimp only at h
    refine z_callW (av := []) (st := []) wX_java_lang_AbstractStringBuilder_204_12 e6 (t_AbstractStringBuilder_appendNull hG e4) (by decide) (by decide) d_AbstractStringBuilder_append2_5 (by simp [z_rfc, z_ci, z_cl, z_cr, z_cn]) ?_
    show Z _ _ _ _ _ _ 8 [(0, .ref (v0)), (1, va_rf (none))] [va_rf (x5)] _
    cases h
    exact z_aret (r := x5) rfl (Or.inl ⟨_, rfl⟩) rfl d_AbstractStringBuilder_append2_8

def s_StringBuilder_append2 (g : zG) (v0 : Nat) (v1 : Option Nat) (σ : zS) : Option (Option Nat × zS) := (zis σ v0 12).bind fun _ => (s_AbstractStringBuilder_append2 g v0 v1 σ).bind fun (x3, σ1) => some (some (v0), σ1)
set_option maxRecDepth 100000 in
theorem t_StringBuilder_append2 {l : Launch} {D : zD} {g : zG} (hG : zGok g D) {v0 : Nat} {v1 : Option Nat} {σ : zS} {q : Option Nat × zS} (h : s_StringBuilder_append2 g v0 v1 σ = some q) : zMet l D Y_StringBuilder_append2 K_StringBuilder_append2 9 202 [.ref (v0), va_rf (v1)] σ (.returned (some (va_rf q.1)), q.2) := by
  refine zMet.ofZ (by decide) rfl (fun q => by cases q) (by simp [lg_sl, z_rfc, z_ci, z_cl, z_cr, z_cn]) ?_
  rw [show lv_args 0 ([.ref (v0), va_rf (v1)] : List Value) = [(0, .ref (v0)), (1, va_rf (v1))] from by simp [lv_args, z_rfc, z_ci, z_cl, z_cr, z_cn]]
  unfold s_StringBuilder_append2 at h
  refine z_aload_n 0 d_StringBuilder_append2_0 rfl rfl ?_
  refine z_aload_nR 1 d_StringBuilder_append2_1 rfl rfl ?_
  replace h := Option.bind_eq_some_iff.mp h; obtain ⟨_, e4, h⟩ := h
  obtain ⟨b5, f6, e4⟩ := zcls_at (zis_at e4)
  replace h := Option.bind_eq_some_iff.mp h; obtain ⟨⟨x3, σ1⟩, e2, h⟩ := h
  dsimp only at h
  refine z_callP (av := [va_rf (v1)]) (st := []) wX_java_lang_StringBuilder_29 (ci := 12) rfl e4 (t_AbstractStringBuilder_append2 hG e2) (by decide) (by decide) d_StringBuilder_append2_2 (by simp [z_rfc, z_ci, z_cl, z_cr, z_cn]) ?_
  show Z _ _ _ _ _ _ 5 [(0, .ref (v0)), (1, va_rf (v1))] [va_rf (x3)] _
  refine z_pop d_StringBuilder_append2_5 (z_rfc _) ?_
  refine z_aload_n 0 d_StringBuilder_append2_6 rfl rfl ?_
  cases h
  exact z_aret (r := some (v0)) rfl (Or.inl ⟨_, rfl⟩) rfl d_StringBuilder_append2_7

