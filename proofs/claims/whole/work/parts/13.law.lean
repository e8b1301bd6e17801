def s_Law_cell_13 (g : zG)  (v0 : Option Nat) (v1 : Int32) (w0 : Int32) (σ : zS) : Option (Int32 × zS) := some (w0, σ)
def s_Law_cell (g : zG) (v0 : Option Nat) (v1 : Int32) (σ : zS) : Option (Int32 × zS) := (v0).bind fun a1 => (zal σ a1 0).bind fun x2 => if x2 ≤ v1 then s_Law_cell_13 g  (some (a1)) (v1) (0) σ else (zaI σ a1 0 (v1)).bind fun x5 => s_Law_cell_13 g  (some (a1)) (v1) (x5) σ
set_option maxRecDepth 100000 in
theorem t_Law_cell_13 {l : Launch} {D : zD} {g : zG} (hG : zGok g D) {q : Int32 × zS}   {v0 : Option Nat} {v1 : Int32} {w0 : Int32} {σ : zS} (h : s_Law_cell_13 g  v0 v1 w0 σ = some q) : Z l D K_Law_cell 0 0 (.returned (some (.int q.1)), q.2) 13 [(0, va_rf (v0)), (1, .int (v1))] [.int (w0)] σ := by
  unfold s_Law_cell_13 at h
  cases h
  exact z_iret rfl rfl d_Law_cell_13
set_option maxRecDepth 100000 in
theorem t_Law_cell {l : Launch} {D : zD} {g : zG} (hG : zGok g D) {v0 : Option Nat} {v1 : Int32} {σ : zS} {q : Int32 × zS} (h : s_Law_cell g v0 v1 σ = some q) : zMet l D Y_Law_cell K_Law_cell 0 0 [va_rf (v0), .int (v1)] σ (.returned (some (.int q.1)), q.2) := by
  refine zMet.ofZ (by decide) rfl (fun q => by cases q) (by simp [lg_sl, z_rfc, z_ci, z_cl, z_cr, z_cn]) ?_
  rw [show lv_args 0 ([va_rf (v0), .int (v1)] : List Value) = [(0, va_rf (v0)), (1, .int (v1))] from by simp [lv_args, z_rfc, z_ci, z_cl, z_cr, z_cn]]
  unfold s_Law_cell at h
  refine z_iload_n 1 d_Law_cell_0 rfl rfl ?_
  refine z_aload_nR 0 d_Law_cell_1 rfl rfl ?_
  replace h := Option.bind_eq_some_iff.mp h; obtain ⟨a1, rfl, h⟩ := h
  replace h := Option.bind_eq_some_iff.mp h; obtain ⟨x2, e3, h⟩ := h
  refine z_alen (t := 0) rfl d_Law_cell_2 e3 ?_
  refine z_icmp_ge (tgt := 12) d_Law_cell_3 rfl (fun c4 => ?_) (fun c4 => ?_)
  · rw [if_pos c4] at h
    refine z_iconst (v := 0) d_Law_cell_12 rfl ?_
    refine z_lv (lv' := [(0, va_rf (some (a1))), (1, .int (v1))]) [0, 1] rfl ?_
    exact t_Law_cell_13 hG   h
  · rw [if_neg c4] at h
    refine z_aload_n 0 d_Law_cell_6 rfl rfl ?_
    refine z_iload_n 1 d_Law_cell_7 rfl rfl ?_
    replace h := Option.bind_eq_some_iff.mp h; obtain ⟨x5, e6, h⟩ := h
    refine z_iaload rfl d_Law_cell_8 e6 ?_
    refine z_goto (tgt := 13) d_Law_cell_9 rfl ?_
    refine z_lv (lv' := [(0, va_rf (some (a1))), (1, .int (v1))]) [0, 1] rfl ?_
    exact t_Law_cell_13 hG   h

def s_Law_series_16 (g : zG)  (v0 : Option Nat) (v1 : Int32) (v2 : Int32) (v3 : Option Nat) (w0 : Int64) (w1 : Int32) (w2 : Option Nat) (σ : zS) : Option (Int32 × zS) := (w2).bind fun a1 => (zsL σ a1 1 (w1) (w0)).bind fun σ2 => some (0, σ2)
def s_Law_series (g : zG) (v0 : Option Nat) (v1 : Int32) (v2 : Int32) (v3 : Option Nat) (σ : zS) : Option (Int32 × zS) := (v0).bind fun a1 => (zis σ a1 0).bind fun _ => (s_No_series g a1 v1 v2 σ).bind fun (x4, σ2) => match x4 with | .inl x8 => (if x8 = 0 then s_Law_series_16 g  (some (a1)) (v1) (v2) (v3) (0) (0) (v3) σ2 else s_Law_series_16 g  (some (a1)) (v1) (v2) (v3) (1) (0) (v3) σ2) | .inr a9 => ((zis σ2 a9 8).bind fun _ => some (1, σ2))
set_option maxRecDepth 100000 in
theorem t_Law_series_16 {l : Launch} {D : zD} {g : zG} (hG : zGok g D) (hl : zLo l) {q : Int32 × zS}   {v0 : Option Nat} {v1 : Int32} {v2 : Int32} {v3 : Option Nat} {w0 : Int64} {w1 : Int32} {w2 : Option Nat} {σ : zS} (h : s_Law_series_16 g  v0 v1 v2 v3 w0 w1 w2 σ = some q) : Z l D K_Law_series 8 163 (.returned (some (.int q.1)), q.2) 16 [(0, va_rf (v0)), (1, .int (v1)), (2, .int (v2)), (3, va_rf (v3))] [.long (w0), .int (w1), va_rf (w2)] σ := by
  unfold s_Law_series_16 at h
  replace h := Option.bind_eq_some_iff.mp h; obtain ⟨a1, rfl, h⟩ := h
  replace h := Option.bind_eq_some_iff.mp h; obtain ⟨σ2, e3, h⟩ := h
  refine z_lastore rfl d_Law_series_16 e3 ?_
  refine z_goto (tgt := 24) d_Law_series_17 rfl ?_
  refine z_iconst (v := 0) d_Law_series_24 rfl ?_
  cases h
  exact z_iret rfl rfl d_Law_series_25
set_option maxRecDepth 100000 in
theorem t_Law_series {l : Launch} {D : zD} {g : zG} (hG : zGok g D) (hl : zLo l) {v0 : Option Nat} {v1 : Int32} {v2 : Int32} {v3 : Option Nat} {σ : zS} {q : Int32 × zS} (h : s_Law_series g v0 v1 v2 v3 σ = some q) : zMet l D Y_Law_series K_Law_series 8 163 [va_rf (v0), .int (v1), .int (v2), va_rf (v3)] σ (.returned (some (.int q.1)), q.2) := by
  refine zMet.ofZ (by decide) rfl (fun q => by cases q) (by simp [lg_sl, z_rfc, z_ci, z_cl, z_cr, z_cn]) ?_
  rw [show lv_args 0 ([va_rf (v0), .int (v1), .int (v2), va_rf (v3)] : List Value) = [(0, va_rf (v0)), (1, .int (v1)), (2, .int (v2)), (3, va_rf (v3))] from by simp [lv_args, z_rfc, z_ci, z_cl, z_cr, z_cn]]
  unfold s_Law_series at h
  refine z_aload_nR 3 d_Law_series_0 rfl rfl ?_
  refine z_iconst (v := 0) d_Law_series_1 rfl ?_
  refine z_aload_nR 0 d_Law_series_2 rfl rfl ?_
  refine z_iload_n 1 d_Law_series_3 rfl rfl ?_
  refine z_iload_n 2 d_Law_series_4 rfl rfl ?_
  replace h := Option.bind_eq_some_iff.mp h; obtain ⟨a1, rfl, h⟩ := h
  replace h := Option.bind_eq_some_iff.mp h; obtain ⟨_, e5, h⟩ := h
  obtain ⟨b6, f7, e5⟩ := zcls_at (zis_at e5)
  replace h := Option.bind_eq_some_iff.mp h; obtain ⟨⟨x4, σ2⟩, e3, h⟩ := h
  dsimp only at h
  rcases x4 with x8 | a9
  · dsimp only at h
    refine z_callV (av := [.int (v1), .int (v2)]) (st := [.int (0), va_rf (v3)]) wV_NumberOfficeLaw_7 e5 (t_No_series hG hl e3) (by decide) (by decide) d_Law_series_5 (by simp [z_rfc, z_ci, z_cl, z_cr, z_cn]) ?_
    show Z _ _ _ _ _ _ 8 [(0, .ref (a1)), (1, .int (v1)), (2, .int (v2)), (3, va_rf (v3))] [.int (x8), .int (0), va_rf (v3)] _
    refine z_if_eq (tgt := 15) d_Law_series_8 rfl (fun c10 => ?_) (fun c10 => ?_)
    · rw [if_pos c10] at h
      refine z_lconst (v := 0) d_Law_series_15 rfl ?_
      refine z_lv (lv' := [(0, va_rf (some (a1))), (1, .int (v1)), (2, .int (v2)), (3, va_rf (v3))]) [0, 1, 2, 3] rfl ?_
      exact t_Law_series_16 hG hl   h
    · rw [if_neg c10] at h
      refine z_lconst (v := 1) d_Law_series_11 rfl ?_
      refine z_goto (tgt := 16) d_Law_series_12 rfl ?_
      refine z_lv (lv' := [(0, va_rf (some (a1))), (1, .int (v1)), (2, .int (v2)), (3, va_rf (v3))]) [0, 1, 2, 3] rfl ?_
      exact t_Law_series_16 hG hl   h
  · dsimp only at h
    replace h := Option.bind_eq_some_iff.mp h; obtain ⟨_, e11, h⟩ := h
    refine z_callV_t (a := a9) (av := [.int (v1), .int (v2)]) (st := [.int (0), va_rf (v3)]) wV_NumberOfficeLaw_7 e5 (t_No_series hG hl e3) (by decide) (by decide) d_Law_series_5 (by simp [z_rfc, z_ci, z_cl, z_cr, z_cn]) ?_
    refine zt_catch (s0 := 0) (e0 := 17) (tgt := 20) wK_NumberOfficeLaw_13_8 rfl rfl (by decide) (zis_at e11) ?_
    refine z_astore (j := 4) (lv' := [(4, .ref (a9)), (0, .ref (a1)), (1, .int (v1)), (2, .int (v2)), (3, va_rf (v3))]) d_Law_series_20 (by decide) (by simp [z_rfc, z_ci, z_cl, z_cr, z_cn] <;> rfl) ?_
    refine z_iconst (v := 1) d_Law_series_22 rfl ?_
    cases h
    exact z_iret rfl rfl d_Law_series_23

def s_Law_fate (g : zG) (v0 : Option Nat) (v1 : Int32) (v2 : Int32) (v3 : Option Nat) (σ : zS) : Option (Int32 × zS) := (v0).bind fun a1 => (zis σ a1 0).bind fun _ => (s_No_fate g a1 v1 v2 σ).bind fun (x4, σ2) => match x4 with | .inl x8 => ((v3).bind fun a10 => (zsL σ2 a10 1 (0) (x8.toInt64)).bind fun σ11 => some (0, σ11)) | .inr a9 => ((zis σ2 a9 8).bind fun _ => some (1, σ2))
set_option maxRecDepth 100000 in
theorem t_Law_fate {l : Launch} {D : zD} {g : zG} (hG : zGok g D) (hl : zLo l) {v0 : Option Nat} {v1 : Int32} {v2 : Int32} {v3 : Option Nat} {σ : zS} {q : Int32 × zS} (h : s_Law_fate g v0 v1 v2 v3 σ = some q) : zMet l D Y_Law_fate K_Law_fate 8 163 [va_rf (v0), .int (v1), .int (v2), va_rf (v3)] σ (.returned (some (.int q.1)), q.2) := by
  refine zMet.ofZ (by decide) rfl (fun q => by cases q) (by simp [lg_sl, z_rfc, z_ci, z_cl, z_cr, z_cn]) ?_
  rw [show lv_args 0 ([va_rf (v0), .int (v1), .int (v2), va_rf (v3)] : List Value) = [(0, va_rf (v0)), (1, .int (v1)), (2, .int (v2)), (3, va_rf (v3))] from by simp [lv_args, z_rfc, z_ci, z_cl, z_cr, z_cn]]
  unfold s_Law_fate at h
  refine z_aload_nR 3 d_Law_fate_0 rfl rfl ?_
  refine z_iconst (v := 0) d_Law_fate_1 rfl ?_
  refine z_aload_nR 0 d_Law_fate_2 rfl rfl ?_
  refine z_iload_n 1 d_Law_fate_3 rfl rfl ?_
  refine z_iload_n 2 d_Law_fate_4 rfl rfl ?_
  replace h := Option.bind_eq_some_iff.mp h; obtain ⟨a1, rfl, h⟩ := h
  replace h := Option.bind_eq_some_iff.mp h; obtain ⟨_, e5, h⟩ := h
  obtain ⟨b6, f7, e5⟩ := zcls_at (zis_at e5)
  replace h := Option.bind_eq_some_iff.mp h; obtain ⟨⟨x4, σ2⟩, e3, h⟩ := h
  dsimp only at h
  rcases x4 with x8 | a9
  · dsimp only at h
    refine z_callV (av := [.int (v1), .int (v2)]) (st := [.int (0), va_rf (v3)]) wV_NumberOfficeLaw_41 e5 (t_No_fate hG hl e3) (by decide) (by decide) d_Law_fate_5 (by simp [z_rfc, z_ci, z_cl, z_cr, z_cn]) ?_
    show Z _ _ _ _ _ _ 8 [(0, .ref (a1)), (1, .int (v1)), (2, .int (v2)), (3, va_rf (v3))] [.int (x8), .int (0), va_rf (v3)] _
    refine z_i2l d_Law_fate_8 ?_
    replace h := Option.bind_eq_some_iff.mp h; obtain ⟨a10, rfl, h⟩ := h
    replace h := Option.bind_eq_some_iff.mp h; obtain ⟨σ11, e12, h⟩ := h
    refine z_lastore rfl d_Law_fate_9 e12 ?_
    refine z_goto (tgt := 17) d_Law_fate_10 rfl ?_
    refine z_iconst (v := 0) d_Law_fate_17 rfl ?_
    cases h
    exact z_iret rfl rfl d_Law_fate_18
  · dsimp only at h
    replace h := Option.bind_eq_some_iff.mp h; obtain ⟨_, e13, h⟩ := h
    refine z_callV_t (a := a9) (av := [.int (v1), .int (v2)]) (st := [.int (0), va_rf (v3)]) wV_NumberOfficeLaw_41 e5 (t_No_fate hG hl e3) (by decide) (by decide) d_Law_fate_5 (by simp [z_rfc, z_ci, z_cl, z_cr, z_cn]) ?_
    refine zt_catch (s0 := 0) (e0 := 10) (tgt := 13) wK_NumberOfficeLaw_13_8 rfl rfl (by decide) (zis_at e13) ?_
    refine z_astore (j := 4) (lv' := [(4, .ref (a9)), (0, .ref (a1)), (1, .int (v1)), (2, .int (v2)), (3, va_rf (v3))]) d_Law_fate_13 (by decide) (by simp [z_rfc, z_ci, z_cl, z_cr, z_cn] <;> rfl) ?_
    refine z_iconst (v := 1) d_Law_fate_15 rfl ?_
    cases h
    exact z_iret rfl rfl d_Law_fate_16

def s_Law_invoiceOf (g : zG) (v0 : Option Nat) (v1 : Int32) (v2 : Int32) (v3 : Int32) (v4 : Option Nat) (σ : zS) : Option (Int32 × zS) := (v0).bind fun a1 => (zis σ a1 0).bind fun _ => (s_No_invoiceOf g a1 v1 v2 v3 σ).bind fun (x4, σ2) => match x4 with | .inl x8 => ((v4).bind fun a10 => (zsL σ2 a10 1 (0) (x8)).bind fun σ11 => some (0, σ11)) | .inr a9 => ((zis σ2 a9 8).bind fun _ => some (1, σ2))
set_option maxRecDepth 100000 in
theorem t_Law_invoiceOf {l : Launch} {D : zD} {g : zG} (hG : zGok g D) (hl : zLo l) {v0 : Option Nat} {v1 : Int32} {v2 : Int32} {v3 : Int32} {v4 : Option Nat} {σ : zS} {q : Int32 × zS} (h : s_Law_invoiceOf g v0 v1 v2 v3 v4 σ = some q) : zMet l D Y_Law_invoiceOf K_Law_invoiceOf 8 164 [va_rf (v0), .int (v1), .int (v2), .int (v3), va_rf (v4)] σ (.returned (some (.int q.1)), q.2) := by
  refine zMet.ofZ (by decide) rfl (fun q => by cases q) (by simp [lg_sl, z_rfc, z_ci, z_cl, z_cr, z_cn]) ?_
  rw [show lv_args 0 ([va_rf (v0), .int (v1), .int (v2), .int (v3), va_rf (v4)] : List Value) = [(0, va_rf (v0)), (1, .int (v1)), (2, .int (v2)), (3, .int (v3)), (4, va_rf (v4))] from by simp [lv_args, z_rfc, z_ci, z_cl, z_cr, z_cn]]
  unfold s_Law_invoiceOf at h
  refine z_aloadR 4 d_Law_invoiceOf_0 rfl ?_
  refine z_iconst (v := 0) d_Law_invoiceOf_2 rfl ?_
  refine z_aload_nR 0 d_Law_invoiceOf_3 rfl rfl ?_
  refine z_iload_n 1 d_Law_invoiceOf_4 rfl rfl ?_
  refine z_iload_n 2 d_Law_invoiceOf_5 rfl rfl ?_
  refine z_iload_n 3 d_Law_invoiceOf_6 rfl rfl ?_
  replace h := Option.bind_eq_some_iff.mp h; obtain ⟨a1, rfl, h⟩ := h
  replace h := Option.bind_eq_some_iff.mp h; obtain ⟨_, e5, h⟩ := h
  obtain ⟨b6, f7, e5⟩ := zcls_at (zis_at e5)
  replace h := Option.bind_eq_some_iff.mp h; obtain ⟨⟨x4, σ2⟩, e3, h⟩ := h
  dsimp only at h
  rcases x4 with x8 | a9
  · dsimp only at h
    refine z_callV (av := [.int (v1), .int (v2), .int (v3)]) (st := [.int (0), va_rf (v4)]) wV_NumberOfficeLaw_44 e5 (t_No_invoiceOf hG hl e3) (by decide) (by decide) d_Law_invoiceOf_7 (by simp [z_rfc, z_ci, z_cl, z_cr, z_cn]) ?_
    show Z _ _ _ _ _ _ 10 [(0, .ref (a1)), (1, .int (v1)), (2, .int (v2)), (3, .int (v3)), (4, va_rf (v4))] [.long (x8), .int (0), va_rf (v4)] _
    replace h := Option.bind_eq_some_iff.mp h; obtain ⟨a10, rfl, h⟩ := h
    replace h := Option.bind_eq_some_iff.mp h; obtain ⟨σ11, e12, h⟩ := h
    refine z_lastore rfl d_Law_invoiceOf_10 e12 ?_
    refine z_goto (tgt := 18) d_Law_invoiceOf_11 rfl ?_
    refine z_iconst (v := 0) d_Law_invoiceOf_18 rfl ?_
    cases h
    exact z_iret rfl rfl d_Law_invoiceOf_19
  · dsimp only at h
    replace h := Option.bind_eq_some_iff.mp h; obtain ⟨_, e13, h⟩ := h
    refine z_callV_t (a := a9) (av := [.int (v1), .int (v2), .int (v3)]) (st := [.int (0), va_rf (v4)]) wV_NumberOfficeLaw_44 e5 (t_No_invoiceOf hG hl e3) (by decide) (by decide) d_Law_invoiceOf_7 (by simp [z_rfc, z_ci, z_cl, z_cr, z_cn]) ?_
    refine zt_catch (s0 := 0) (e0 := 11) (tgt := 14) wK_NumberOfficeLaw_13_8 rfl rfl (by decide) (zis_at e13) ?_
    refine z_astore (j := 5) (lv' := [(5, .ref (a9)), (0, .ref (a1)), (1, .int (v1)), (2, .int (v2)), (3, .int (v3)), (4, va_rf (v4))]) d_Law_invoiceOf_14 (by decide) (by simp [z_rfc, z_ci, z_cl, z_cr, z_cn] <;> rfl) ?_
    refine z_iconst (v := 1) d_Law_invoiceOf_16 rfl ?_
    cases h
    exact z_iret rfl rfl d_Law_invoiceOf_17

def s_Law_total (g : zG) (v0 : Option Nat) (v1 : Int32) (v2 : Int32) (v3 : Option Nat) (σ : zS) : Option (Int32 × zS) := (v0).bind fun a1 => (zis σ a1 0).bind fun _ => (s_No_total g a1 v1 v2 σ).bind fun (x4, σ2) => match x4 with | .inl x8 => ((v3).bind fun a10 => (zsL σ2 a10 1 (0) (x8)).bind fun σ11 => some (0, σ11)) | .inr a9 => ((zis σ2 a9 8).bind fun _ => some (1, σ2))
set_option maxRecDepth 100000 in
theorem t_Law_total {l : Launch} {D : zD} {g : zG} (hG : zGok g D) (hl : zLo l) {v0 : Option Nat} {v1 : Int32} {v2 : Int32} {v3 : Option Nat} {σ : zS} {q : Int32 × zS} (h : s_Law_total g v0 v1 v2 v3 σ = some q) : zMet l D Y_Law_total K_Law_total 8 163 [va_rf (v0), .int (v1), .int (v2), va_rf (v3)] σ (.returned (some (.int q.1)), q.2) := by
  refine zMet.ofZ (by decide) rfl (fun q => by cases q) (by simp [lg_sl, z_rfc, z_ci, z_cl, z_cr, z_cn]) ?_
  rw [show lv_args 0 ([va_rf (v0), .int (v1), .int (v2), va_rf (v3)] : List Value) = [(0, va_rf (v0)), (1, .int (v1)), (2, .int (v2)), (3, va_rf (v3))] from by simp [lv_args, z_rfc, z_ci, z_cl, z_cr, z_cn]]
  unfold s_Law_total at h
  refine z_aload_nR 3 d_Law_total_0 rfl rfl ?_
  refine z_iconst (v := 0) d_Law_total_1 rfl ?_
  refine z_aload_nR 0 d_Law_total_2 rfl rfl ?_
  refine z_iload_n 1 d_Law_total_3 rfl rfl ?_
  refine z_iload_n 2 d_Law_total_4 rfl rfl ?_
  replace h := Option.bind_eq_some_iff.mp h; obtain ⟨a1, rfl, h⟩ := h
  replace h := Option.bind_eq_some_iff.mp h; obtain ⟨_, e5, h⟩ := h
  obtain ⟨b6, f7, e5⟩ := zcls_at (zis_at e5)
  replace h := Option.bind_eq_some_iff.mp h; obtain ⟨⟨x4, σ2⟩, e3, h⟩ := h
  dsimp only at h
  rcases x4 with x8 | a9
  · dsimp only at h
    refine z_callV (av := [.int (v1), .int (v2)]) (st := [.int (0), va_rf (v3)]) wV_NumberOfficeLaw_48 e5 (t_No_total hG hl e3) (by decide) (by decide) d_Law_total_5 (by simp [z_rfc, z_ci, z_cl, z_cr, z_cn]) ?_
    show Z _ _ _ _ _ _ 8 [(0, .ref (a1)), (1, .int (v1)), (2, .int (v2)), (3, va_rf (v3))] [.long (x8), .int (0), va_rf (v3)] _
    replace h := Option.bind_eq_some_iff.mp h; obtain ⟨a10, rfl, h⟩ := h
    replace h := Option.bind_eq_some_iff.mp h; obtain ⟨σ11, e12, h⟩ := h
    refine z_lastore rfl d_Law_total_8 e12 ?_
    refine z_goto (tgt := 16) d_Law_total_9 rfl ?_
    refine z_iconst (v := 0) d_Law_total_16 rfl ?_
    cases h
    exact z_iret rfl rfl d_Law_total_17
  · dsimp only at h
    replace h := Option.bind_eq_some_iff.mp h; obtain ⟨_, e13, h⟩ := h
    refine z_callV_t (a := a9) (av := [.int (v1), .int (v2)]) (st := [.int (0), va_rf (v3)]) wV_NumberOfficeLaw_48 e5 (t_No_total hG hl e3) (by decide) (by decide) d_Law_total_5 (by simp [z_rfc, z_ci, z_cl, z_cr, z_cn]) ?_
    refine zt_catch (s0 := 0) (e0 := 9) (tgt := 12) wK_NumberOfficeLaw_13_8 rfl rfl (by decide) (zis_at e13) ?_
    refine z_astore (j := 4) (lv' := [(4, .ref (a9)), (0, .ref (a1)), (1, .int (v1)), (2, .int (v2)), (3, va_rf (v3))]) d_Law_total_12 (by decide) (by simp [z_rfc, z_ci, z_cl, z_cr, z_cn] <;> rfl) ?_
    refine z_iconst (v := 1) d_Law_total_14 rfl ?_
    cases h
    exact z_iret rfl rfl d_Law_total_15

def s_Law_strike (g : zG) (v0 : Option Nat) (v1 : Int32) (v2 : Option Nat) (σ : zS) : Option (Int32 × zS) := (v0).bind fun a1 => (zis σ a1 0).bind fun _ => (s_No_strike g a1 v1 σ).bind fun (x4, σ2) => match x4 with | .inl x8 => ((v2).bind fun a10 => (zsL σ2 a10 1 (0) (x8.toInt64)).bind fun σ11 => some (0, σ11)) | .inr a9 => ((zis σ2 a9 8).bind fun _ => some (1, σ2))
set_option maxRecDepth 100000 in
theorem t_Law_strike {l : Launch} {D : zD} {g : zG} (hG : zGok g D) (hl : zLo l) {v0 : Option Nat} {v1 : Int32} {v2 : Option Nat} {σ : zS} {q : Int32 × zS} (h : s_Law_strike g v0 v1 v2 σ = some q) : zMet l D Y_Law_strike K_Law_strike 8 161 [va_rf (v0), .int (v1), va_rf (v2)] σ (.returned (some (.int q.1)), q.2) := by
  refine zMet.ofZ (by decide) rfl (fun q => by cases q) (by simp [lg_sl, z_rfc, z_ci, z_cl, z_cr, z_cn]) ?_
  rw [show lv_args 0 ([va_rf (v0), .int (v1), va_rf (v2)] : List Value) = [(0, va_rf (v0)), (1, .int (v1)), (2, va_rf (v2))] from by simp [lv_args, z_rfc, z_ci, z_cl, z_cr, z_cn]]
  unfold s_Law_strike at h
  refine z_aload_nR 2 d_Law_strike_0 rfl rfl ?_
  refine z_iconst (v := 0) d_Law_strike_1 rfl ?_
  refine z_aload_nR 0 d_Law_strike_2 rfl rfl ?_
  refine z_iload_n 1 d_Law_strike_3 rfl rfl ?_
  replace h := Option.bind_eq_some_iff.mp h; obtain ⟨a1, rfl, h⟩ := h
  replace h := Option.bind_eq_some_iff.mp h; obtain ⟨_, e5, h⟩ := h
  obtain ⟨b6, f7, e5⟩ := zcls_at (zis_at e5)
  replace h := Option.bind_eq_some_iff.mp h; obtain ⟨⟨x4, σ2⟩, e3, h⟩ := h
  dsimp only at h
  rcases x4 with x8 | a9
  · dsimp only at h
    refine z_callV (av := [.int (v1)]) (st := [.int (0), va_rf (v2)]) wV_NumberOfficeLaw_34 e5 (t_No_strike hG hl e3) (by decide) (by decide) d_Law_strike_4 (by simp [z_rfc, z_ci, z_cl, z_cr, z_cn]) ?_
    show Z _ _ _ _ _ _ 7 [(0, .ref (a1)), (1, .int (v1)), (2, va_rf (v2))] [.int (x8), .int (0), va_rf (v2)] _
    refine z_i2l d_Law_strike_7 ?_
    replace h := Option.bind_eq_some_iff.mp h; obtain ⟨a10, rfl, h⟩ := h
    replace h := Option.bind_eq_some_iff.mp h; obtain ⟨σ11, e12, h⟩ := h
    refine z_lastore rfl d_Law_strike_8 e12 ?_
    refine z_goto (tgt := 15) d_Law_strike_9 rfl ?_
    refine z_iconst (v := 0) d_Law_strike_15 rfl ?_
    cases h
    exact z_iret rfl rfl d_Law_strike_16
  · dsimp only at h
    replace h := Option.bind_eq_some_iff.mp h; obtain ⟨_, e13, h⟩ := h
    refine z_callV_t (a := a9) (av := [.int (v1)]) (st := [.int (0), va_rf (v2)]) wV_NumberOfficeLaw_34 e5 (t_No_strike hG hl e3) (by decide) (by decide) d_Law_strike_4 (by simp [z_rfc, z_ci, z_cl, z_cr, z_cn]) ?_
    refine zt_catch (s0 := 0) (e0 := 9) (tgt := 12) wK_NumberOfficeLaw_13_8 rfl rfl (by decide) (zis_at e13) ?_
    refine z_astore_n (j := 3) (lv' := [(3, .ref (a9)), (0, .ref (a1)), (1, .int (v1)), (2, va_rf (v2))]) d_Law_strike_12 rfl (by decide) (by simp [z_rfc, z_ci, z_cl, z_cr, z_cn] <;> rfl) ?_
    refine z_iconst (v := 1) d_Law_strike_13 rfl ?_
    cases h
    exact z_iret rfl rfl d_Law_strike_14

def s_Law_listByte (g : zG) (v0 : Option Nat) (v1 : Int32) (v2 : Int32) (v3 : Option Nat) (σ : zS) : Option (Int32 × zS) := (v0).bind fun a1 => (zis σ a1 0).bind fun _ => (s_No_listByte g a1 v1 v2 σ).bind fun (x4, σ2) => match x4 with | .inl x8 => ((v3).bind fun a10 => (zsL σ2 a10 1 (0) (x8.toInt64)).bind fun σ11 => some (0, σ11)) | .inr a9 => ((zis σ2 a9 8).bind fun _ => some (1, σ2))
set_option maxRecDepth 100000 in
theorem t_Law_listByte {l : Launch} {D : zD} {g : zG} (hG : zGok g D) (hl : zLo l) {v0 : Option Nat} {v1 : Int32} {v2 : Int32} {v3 : Option Nat} {σ : zS} {q : Int32 × zS} (h : s_Law_listByte g v0 v1 v2 v3 σ = some q) : zMet l D Y_Law_listByte K_Law_listByte 8 163 [va_rf (v0), .int (v1), .int (v2), va_rf (v3)] σ (.returned (some (.int q.1)), q.2) := by
  refine zMet.ofZ (by decide) rfl (fun q => by cases q) (by simp [lg_sl, z_rfc, z_ci, z_cl, z_cr, z_cn]) ?_
  rw [show lv_args 0 ([va_rf (v0), .int (v1), .int (v2), va_rf (v3)] : List Value) = [(0, va_rf (v0)), (1, .int (v1)), (2, .int (v2)), (3, va_rf (v3))] from by simp [lv_args, z_rfc, z_ci, z_cl, z_cr, z_cn]]
  unfold s_Law_listByte at h
  refine z_aload_nR 3 d_Law_listByte_0 rfl rfl ?_
  refine z_iconst (v := 0) d_Law_listByte_1 rfl ?_
  refine z_aload_nR 0 d_Law_listByte_2 rfl rfl ?_
  refine z_iload_n 1 d_Law_listByte_3 rfl rfl ?_
  refine z_iload_n 2 d_Law_listByte_4 rfl rfl ?_
  replace h := Option.bind_eq_some_iff.mp h; obtain ⟨a1, rfl, h⟩ := h
  replace h := Option.bind_eq_some_iff.mp h; obtain ⟨_, e5, h⟩ := h
  obtain ⟨b6, f7, e5⟩ := zcls_at (zis_at e5)
  replace h := Option.bind_eq_some_iff.mp h; obtain ⟨⟨x4, σ2⟩, e3, h⟩ := h
  dsimp only at h
  rcases x4 with x8 | a9
  · dsimp only at h
    refine z_callV (av := [.int (v1), .int (v2)]) (st := [.int (0), va_rf (v3)]) wV_NumberOfficeLaw_52 e5 (t_No_listByte hG hl e3) (by decide) (by decide) d_Law_listByte_5 (by simp [z_rfc, z_ci, z_cl, z_cr, z_cn]) ?_
    show Z _ _ _ _ _ _ 8 [(0, .ref (a1)), (1, .int (v1)), (2, .int (v2)), (3, va_rf (v3))] [.int (x8), .int (0), va_rf (v3)] _
    refine z_i2l d_Law_listByte_8 ?_
    replace h := Option.bind_eq_some_iff.mp h; obtain ⟨a10, rfl, h⟩ := h
    replace h := Option.bind_eq_some_iff.mp h; obtain ⟨σ11, e12, h⟩ := h
    refine z_lastore rfl d_Law_listByte_9 e12 ?_
    refine z_goto (tgt := 17) d_Law_listByte_10 rfl ?_
    refine z_iconst (v := 0) d_Law_listByte_17 rfl ?_
    cases h
    exact z_iret rfl rfl d_Law_listByte_18
  · dsimp only at h
    replace h := Option.bind_eq_some_iff.mp h; obtain ⟨_, e13, h⟩ := h
    refine z_callV_t (a := a9) (av := [.int (v1), .int (v2)]) (st := [.int (0), va_rf (v3)]) wV_NumberOfficeLaw_52 e5 (t_No_listByte hG hl e3) (by decide) (by decide) d_Law_listByte_5 (by simp [z_rfc, z_ci, z_cl, z_cr, z_cn]) ?_
    refine zt_catch (s0 := 0) (e0 := 10) (tgt := 13) wK_NumberOfficeLaw_13_8 rfl rfl (by decide) (zis_at e13) ?_
    refine z_astore (j := 4) (lv' := [(4, .ref (a9)), (0, .ref (a1)), (1, .int (v1)), (2, .int (v2)), (3, va_rf (v3))]) d_Law_listByte_13 (by decide) (by simp [z_rfc, z_ci, z_cl, z_cr, z_cn] <;> rfl) ?_
    refine z_iconst (v := 1) d_Law_listByte_15 rfl ?_
    cases h
    exact z_iret rfl rfl d_Law_listByte_16

def s_Law_voidUsed_20 (g : zG)  (v0 : Option Nat) (v1 : Int32) (v2 : Int32) (v3 : Int32) (v4 : Int32) (v5 : Option Nat) (w0 : Int64) (w1 : Int32) (w2 : Option Nat) (σ : zS) : Option (Int32 × zS) := (w2).bind fun a1 => (zsL σ a1 1 (w1) (w0)).bind fun σ2 => some (0, σ2)
def s_Law_voidUsed (g : zG) (v0 : Option Nat) (v1 : Int32) (v2 : Int32) (v3 : Int32) (v4 : Int32) (v5 : Option Nat) (σ : zS) : Option (Int32 × zS) := (v0).bind fun a1 => (zis σ a1 0).bind fun _ => (s_No_voidUsed g a1 v1 v2 v3 v4 σ).bind fun (x4, σ2) => match x4 with | .inl x8 => (if x8 = 0 then s_Law_voidUsed_20 g  (some (a1)) (v1) (v2) (v3) (v4) (v5) (0) (0) (v5) σ2 else s_Law_voidUsed_20 g  (some (a1)) (v1) (v2) (v3) (v4) (v5) (1) (0) (v5) σ2) | .inr a9 => ((zis σ2 a9 8).bind fun _ => some (1, σ2))
set_option maxRecDepth 100000 in
theorem t_Law_voidUsed_20 {l : Launch} {D : zD} {g : zG} (hG : zGok g D) (hl : zLo l) {q : Int32 × zS}   {v0 : Option Nat} {v1 : Int32} {v2 : Int32} {v3 : Int32} {v4 : Int32} {v5 : Option Nat} {w0 : Int64} {w1 : Int32} {w2 : Option Nat} {σ : zS} (h : s_Law_voidUsed_20 g  v0 v1 v2 v3 v4 v5 w0 w1 w2 σ = some q) : Z l D K_Law_voidUsed 9 206 (.returned (some (.int q.1)), q.2) 20 [(0, va_rf (v0)), (1, .int (v1)), (2, .int (v2)), (3, .int (v3)), (4, .int (v4)), (5, va_rf (v5))] [.long (w0), .int (w1), va_rf (w2)] σ := by
  unfold s_Law_voidUsed_20 at h
  replace h := Option.bind_eq_some_iff.mp h; obtain ⟨a1, rfl, h⟩ := h
  replace h := Option.bind_eq_some_iff.mp h; obtain ⟨σ2, e3, h⟩ := h
  refine z_lastore rfl d_Law_voidUsed_20 e3 ?_
  refine z_goto (tgt := 28) d_Law_voidUsed_21 rfl ?_
  refine z_iconst (v := 0) d_Law_voidUsed_28 rfl ?_
  cases h
  exact z_iret rfl rfl d_Law_voidUsed_29
set_option maxRecDepth 100000 in
theorem t_Law_voidUsed {l : Launch} {D : zD} {g : zG} (hG : zGok g D) (hl : zLo l) {v0 : Option Nat} {v1 : Int32} {v2 : Int32} {v3 : Int32} {v4 : Int32} {v5 : Option Nat} {σ : zS} {q : Int32 × zS} (h : s_Law_voidUsed g v0 v1 v2 v3 v4 v5 σ = some q) : zMet l D Y_Law_voidUsed K_Law_voidUsed 9 206 [va_rf (v0), .int (v1), .int (v2), .int (v3), .int (v4), va_rf (v5)] σ (.returned (some (.int q.1)), q.2) := by
  refine zMet.ofZ (by decide) rfl (fun q => by cases q) (by simp [lg_sl, z_rfc, z_ci, z_cl, z_cr, z_cn]) ?_
  rw [show lv_args 0 ([va_rf (v0), .int (v1), .int (v2), .int (v3), .int (v4), va_rf (v5)] : List Value) = [(0, va_rf (v0)), (1, .int (v1)), (2, .int (v2)), (3, .int (v3)), (4, .int (v4)), (5, va_rf (v5))] from by simp [lv_args, z_rfc, z_ci, z_cl, z_cr, z_cn]]
  unfold s_Law_voidUsed at h
  refine z_aloadR 5 d_Law_voidUsed_0 rfl ?_
  refine z_iconst (v := 0) d_Law_voidUsed_2 rfl ?_
  refine z_aload_nR 0 d_Law_voidUsed_3 rfl rfl ?_
  refine z_iload_n 1 d_Law_voidUsed_4 rfl rfl ?_
  refine z_iload_n 2 d_Law_voidUsed_5 rfl rfl ?_
  refine z_iload_n 3 d_Law_voidUsed_6 rfl rfl ?_
  refine z_iload 4 d_Law_voidUsed_7 rfl ?_
  replace h := Option.bind_eq_some_iff.mp h; obtain ⟨a1, rfl, h⟩ := h
  replace h := Option.bind_eq_some_iff.mp h; obtain ⟨_, e5, h⟩ := h
  obtain ⟨b6, f7, e5⟩ := zcls_at (zis_at e5)
  replace h := Option.bind_eq_some_iff.mp h; obtain ⟨⟨x4, σ2⟩, e3, h⟩ := h
  dsimp only at h
  rcases x4 with x8 | a9
  · dsimp only at h
    refine z_callV (av := [.int (v1), .int (v2), .int (v3), .int (v4)]) (st := [.int (0), va_rf (v5)]) wV_NumberOfficeLaw_30 e5 (t_No_voidUsed hG hl e3) (by decide) (by decide) d_Law_voidUsed_9 (by simp [z_rfc, z_ci, z_cl, z_cr, z_cn]) ?_
    show Z _ _ _ _ _ _ 12 [(0, .ref (a1)), (1, .int (v1)), (2, .int (v2)), (3, .int (v3)), (4, .int (v4)), (5, va_rf (v5))] [.int (x8), .int (0), va_rf (v5)] _
    refine z_if_eq (tgt := 19) d_Law_voidUsed_12 rfl (fun c10 => ?_) (fun c10 => ?_)
    · rw [if_pos c10] at h
      refine z_lconst (v := 0) d_Law_voidUsed_19 rfl ?_
      refine z_lv (lv' := [(0, va_rf (some (a1))), (1, .int (v1)), (2, .int (v2)), (3, .int (v3)), (4, .int (v4)), (5, va_rf (v5))]) [0, 1, 2, 3, 4, 5] rfl ?_
      exact t_Law_voidUsed_20 hG hl   h
    · rw [if_neg c10] at h
      refine z_lconst (v := 1) d_Law_voidUsed_15 rfl ?_
      refine z_goto (tgt := 20) d_Law_voidUsed_16 rfl ?_
      refine z_lv (lv' := [(0, va_rf (some (a1))), (1, .int (v1)), (2, .int (v2)), (3, .int (v3)), (4, .int (v4)), (5, va_rf (v5))]) [0, 1, 2, 3, 4, 5] rfl ?_
      exact t_Law_voidUsed_20 hG hl   h
  · dsimp only at h
    replace h := Option.bind_eq_some_iff.mp h; obtain ⟨_, e11, h⟩ := h
    refine z_callV_t (a := a9) (av := [.int (v1), .int (v2), .int (v3), .int (v4)]) (st := [.int (0), va_rf (v5)]) wV_NumberOfficeLaw_30 e5 (t_No_voidUsed hG hl e3) (by decide) (by decide) d_Law_voidUsed_9 (by simp [z_rfc, z_ci, z_cl, z_cr, z_cn]) ?_
    refine zt_catch (s0 := 0) (e0 := 21) (tgt := 24) wK_NumberOfficeLaw_13_8 rfl rfl (by decide) (zis_at e11) ?_
    refine z_astore (j := 6) (lv' := [(6, .ref (a9)), (0, .ref (a1)), (1, .int (v1)), (2, .int (v2)), (3, .int (v3)), (4, .int (v4)), (5, va_rf (v5))]) d_Law_voidUsed_24 (by decide) (by simp [z_rfc, z_ci, z_cl, z_cr, z_cn] <;> rfl) ?_
    refine z_iconst (v := 1) d_Law_voidUsed_26 rfl ?_
    cases h
    exact z_iret rfl rfl d_Law_voidUsed_27

def s_Law_report (g : zG) (v0 : Option Nat) (v1 : Int32) (v2 : Int32) (v3 : Option Nat) (σ : zS) : Option (Int32 × zS) := (v0).bind fun a1 => (zis σ a1 0).bind fun _ => (s_No_report g a1 v1 v2 σ).bind fun (x4, σ2) => match x4 with | .inl x8 => ((v3).bind fun a10 => (zsL σ2 a10 1 (0) (x8.toInt64)).bind fun σ11 => some (0, σ11)) | .inr a9 => ((zis σ2 a9 8).bind fun _ => some (1, σ2))
set_option maxRecDepth 100000 in
theorem t_Law_report {l : Launch} {D : zD} {g : zG} (hG : zGok g D) (hl : zLo l) {v0 : Option Nat} {v1 : Int32} {v2 : Int32} {v3 : Option Nat} {σ : zS} {q : Int32 × zS} (h : s_Law_report g v0 v1 v2 v3 σ = some q) : zMet l D Y_Law_report K_Law_report 10 222 [va_rf (v0), .int (v1), .int (v2), va_rf (v3)] σ (.returned (some (.int q.1)), q.2) := by
  refine zMet.ofZ (by decide) rfl (fun q => by cases q) (by simp [lg_sl, z_rfc, z_ci, z_cl, z_cr, z_cn]) ?_
  rw [show lv_args 0 ([va_rf (v0), .int (v1), .int (v2), va_rf (v3)] : List Value) = [(0, va_rf (v0)), (1, .int (v1)), (2, .int (v2)), (3, va_rf (v3))] from by simp [lv_args, z_rfc, z_ci, z_cl, z_cr, z_cn]]
  unfold s_Law_report at h
  refine z_aload_nR 3 d_Law_report_0 rfl rfl ?_
  refine z_iconst (v := 0) d_Law_report_1 rfl ?_
  refine z_aload_nR 0 d_Law_report_2 rfl rfl ?_
  refine z_iload_n 1 d_Law_report_3 rfl rfl ?_
  refine z_iload_n 2 d_Law_report_4 rfl rfl ?_
  replace h := Option.bind_eq_some_iff.mp h; obtain ⟨a1, rfl, h⟩ := h
  replace h := Option.bind_eq_some_iff.mp h; obtain ⟨_, e5, h⟩ := h
  obtain ⟨b6, f7, e5⟩ := zcls_at (zis_at e5)
  replace h := Option.bind_eq_some_iff.mp h; obtain ⟨⟨x4, σ2⟩, e3, h⟩ := h
  dsimp only at h
  rcases x4 with x8 | a9
  · dsimp only at h
    refine z_callV (av := [.int (v1), .int (v2)]) (st := [.int (0), va_rf (v3)]) wV_NumberOfficeLaw_19 e5 (t_No_report hG hl e3) (by decide) (by decide) d_Law_report_5 (by simp [z_rfc, z_ci, z_cl, z_cr, z_cn]) ?_
    show Z _ _ _ _ _ _ 8 [(0, .ref (a1)), (1, .int (v1)), (2, .int (v2)), (3, va_rf (v3))] [.int (x8), .int (0), va_rf (v3)] _
    refine z_i2l d_Law_report_8 ?_
    replace h := Option.bind_eq_some_iff.mp h; obtain ⟨a10, rfl, h⟩ := h
    replace h := Option.bind_eq_some_iff.mp h; obtain ⟨σ11, e12, h⟩ := h
    refine z_lastore rfl d_Law_report_9 e12 ?_
    refine z_goto (tgt := 17) d_Law_report_10 rfl ?_
    refine z_iconst (v := 0) d_Law_report_17 rfl ?_
    cases h
    exact z_iret rfl rfl d_Law_report_18
  · dsimp only at h
    replace h := Option.bind_eq_some_iff.mp h; obtain ⟨_, e13, h⟩ := h
    refine z_callV_t (a := a9) (av := [.int (v1), .int (v2)]) (st := [.int (0), va_rf (v3)]) wV_NumberOfficeLaw_19 e5 (t_No_report hG hl e3) (by decide) (by decide) d_Law_report_5 (by simp [z_rfc, z_ci, z_cl, z_cr, z_cn]) ?_
    refine zt_catch (s0 := 0) (e0 := 10) (tgt := 13) wK_NumberOfficeLaw_13_8 rfl rfl (by decide) (zis_at e13) ?_
    refine z_astore (j := 4) (lv' := [(4, .ref (a9)), (0, .ref (a1)), (1, .int (v1)), (2, .int (v2)), (3, va_rf (v3))]) d_Law_report_13 (by decide) (by simp [z_rfc, z_ci, z_cl, z_cr, z_cn] <;> rfl) ?_
    refine z_iconst (v := 1) d_Law_report_15 rfl ?_
    cases h
    exact z_iret rfl rfl d_Law_report_16

def s_Law_voidNext (g : zG) (v0 : Option Nat) (v1 : Int32) (v2 : Int32) (v3 : Int32) (v4 : Option Nat) (σ : zS) : Option (Int32 × zS) := (v0).bind fun a1 => (zis σ a1 0).bind fun _ => (s_No_voidNext g a1 v1 v2 v3 σ).bind fun (x4, σ2) => match x4 with | .inl x8 => ((v4).bind fun a10 => (zsL σ2 a10 1 (0) (x8.toInt64)).bind fun σ11 => some (0, σ11)) | .inr a9 => ((zis σ2 a9 8).bind fun _ => some (1, σ2))
set_option maxRecDepth 100000 in
theorem t_Law_voidNext {l : Launch} {D : zD} {g : zG} (hG : zGok g D) (hl : zLo l) {v0 : Option Nat} {v1 : Int32} {v2 : Int32} {v3 : Int32} {v4 : Option Nat} {σ : zS} {q : Int32 × zS} (h : s_Law_voidNext g v0 v1 v2 v3 v4 σ = some q) : zMet l D Y_Law_voidNext K_Law_voidNext 10 231 [va_rf (v0), .int (v1), .int (v2), .int (v3), va_rf (v4)] σ (.returned (some (.int q.1)), q.2) := by
  refine zMet.ofZ (by decide) rfl (fun q => by cases q) (by simp [lg_sl, z_rfc, z_ci, z_cl, z_cr, z_cn]) ?_
  rw [show lv_args 0 ([va_rf (v0), .int (v1), .int (v2), .int (v3), va_rf (v4)] : List Value) = [(0, va_rf (v0)), (1, .int (v1)), (2, .int (v2)), (3, .int (v3)), (4, va_rf (v4))] from by simp [lv_args, z_rfc, z_ci, z_cl, z_cr, z_cn]]
  unfold s_Law_voidNext at h
  refine z_aloadR 4 d_Law_voidNext_0 rfl ?_
  refine z_iconst (v := 0) d_Law_voidNext_2 rfl ?_
  refine z_aload_nR 0 d_Law_voidNext_3 rfl rfl ?_
  refine z_iload_n 1 d_Law_voidNext_4 rfl rfl ?_
  refine z_iload_n 2 d_Law_voidNext_5 rfl rfl ?_
  refine z_iload_n 3 d_Law_voidNext_6 rfl rfl ?_
  replace h := Option.bind_eq_some_iff.mp h; obtain ⟨a1, rfl, h⟩ := h
  replace h := Option.bind_eq_some_iff.mp h; obtain ⟨_, e5, h⟩ := h
  obtain ⟨b6, f7, e5⟩ := zcls_at (zis_at e5)
  replace h := Option.bind_eq_some_iff.mp h; obtain ⟨⟨x4, σ2⟩, e3, h⟩ := h
  dsimp only at h
  rcases x4 with x8 | a9
  · dsimp only at h
    refine z_callV (av := [.int (v1), .int (v2), .int (v3)]) (st := [.int (0), va_rf (v4)]) wV_NumberOfficeLaw_27 e5 (t_No_voidNext hG hl e3) (by decide) (by decide) d_Law_voidNext_7 (by simp [z_rfc, z_ci, z_cl, z_cr, z_cn]) ?_
    show Z _ _ _ _ _ _ 10 [(0, .ref (a1)), (1, .int (v1)), (2, .int (v2)), (3, .int (v3)), (4, va_rf (v4))] [.int (x8), .int (0), va_rf (v4)] _
    refine z_i2l d_Law_voidNext_10 ?_
    replace h := Option.bind_eq_some_iff.mp h; obtain ⟨a10, rfl, h⟩ := h
    replace h := Option.bind_eq_some_iff.mp h; obtain ⟨σ11, e12, h⟩ := h
    refine z_lastore rfl d_Law_voidNext_11 e12 ?_
    refine z_goto (tgt := 19) d_Law_voidNext_12 rfl ?_
    refine z_iconst (v := 0) d_Law_voidNext_19 rfl ?_
    cases h
    exact z_iret rfl rfl d_Law_voidNext_20
  · dsimp only at h
    replace h := Option.bind_eq_some_iff.mp h; obtain ⟨_, e13, h⟩ := h
    refine z_callV_t (a := a9) (av := [.int (v1), .int (v2), .int (v3)]) (st := [.int (0), va_rf (v4)]) wV_NumberOfficeLaw_27 e5 (t_No_voidNext hG hl e3) (by decide) (by decide) d_Law_voidNext_7 (by simp [z_rfc, z_ci, z_cl, z_cr, z_cn]) ?_
    refine zt_catch (s0 := 0) (e0 := 12) (tgt := 15) wK_NumberOfficeLaw_13_8 rfl rfl (by decide) (zis_at e13) ?_
    refine z_astore (j := 5) (lv' := [(5, .ref (a9)), (0, .ref (a1)), (1, .int (v1)), (2, .int (v2)), (3, .int (v3)), (4, va_rf (v4))]) d_Law_voidNext_15 (by decide) (by simp [z_rfc, z_ci, z_cl, z_cr, z_cn] <;> rfl) ?_
    refine z_iconst (v := 1) d_Law_voidNext_17 rfl ?_
    cases h
    exact z_iret rfl rfl d_Law_voidNext_18

def s_Law_request (g : zG) (v0 : Option Nat) (v1 : Int32) (v2 : Int32) (v3 : Int32) (v4 : Option Nat) (σ : zS) : Option (Int32 × zS) := (v0).bind fun a1 => (zis σ a1 0).bind fun _ => (s_No_request g a1 v1 v2 v3 σ).bind fun (x4, σ2) => match x4 with | .inl x8 => ((v4).bind fun a10 => (zsL σ2 a10 1 (0) (x8.toInt64)).bind fun σ11 => some (0, σ11)) | .inr a9 => ((zis σ2 a9 8).bind fun _ => some (1, σ2))
set_option maxRecDepth 100000 in
theorem t_Law_request {l : Launch} {D : zD} {g : zG} (hG : zGok g D) (hl : zLo l) {v0 : Option Nat} {v1 : Int32} {v2 : Int32} {v3 : Int32} {v4 : Option Nat} {σ : zS} {q : Int32 × zS} (h : s_Law_request g v0 v1 v2 v3 v4 σ = some q) : zMet l D Y_Law_request K_Law_request 10 223 [va_rf (v0), .int (v1), .int (v2), .int (v3), va_rf (v4)] σ (.returned (some (.int q.1)), q.2) := by
  refine zMet.ofZ (by decide) rfl (fun q => by cases q) (by simp [lg_sl, z_rfc, z_ci, z_cl, z_cr, z_cn]) ?_
  rw [show lv_args 0 ([va_rf (v0), .int (v1), .int (v2), .int (v3), va_rf (v4)] : List Value) = [(0, va_rf (v0)), (1, .int (v1)), (2, .int (v2)), (3, .int (v3)), (4, va_rf (v4))] from by simp [lv_args, z_rfc, z_ci, z_cl, z_cr, z_cn]]
  unfold s_Law_request at h
  refine z_aloadR 4 d_Law_request_0 rfl ?_
  refine z_iconst (v := 0) d_Law_request_2 rfl ?_
  refine z_aload_nR 0 d_Law_request_3 rfl rfl ?_
  refine z_iload_n 1 d_Law_request_4 rfl rfl ?_
  refine z_iload_n 2 d_Law_request_5 rfl rfl ?_
  refine z_iload_n 3 d_Law_request_6 rfl rfl ?_
  replace h := Option.bind_eq_some_iff.mp h; obtain ⟨a1, rfl, h⟩ := h
  replace h := Option.bind_eq_some_iff.mp h; obtain ⟨_, e5, h⟩ := h
  obtain ⟨b6, f7, e5⟩ := zcls_at (zis_at e5)
  replace h := Option.bind_eq_some_iff.mp h; obtain ⟨⟨x4, σ2⟩, e3, h⟩ := h
  dsimp only at h
  rcases x4 with x8 | a9
  · dsimp only at h
    refine z_callV (av := [.int (v1), .int (v2), .int (v3)]) (st := [.int (0), va_rf (v4)]) wV_NumberOfficeLaw_15 e5 (t_No_request hG hl e3) (by decide) (by decide) d_Law_request_7 (by simp [z_rfc, z_ci, z_cl, z_cr, z_cn]) ?_
    show Z _ _ _ _ _ _ 10 [(0, .ref (a1)), (1, .int (v1)), (2, .int (v2)), (3, .int (v3)), (4, va_rf (v4))] [.int (x8), .int (0), va_rf (v4)] _
    refine z_i2l d_Law_request_10 ?_
    replace h := Option.bind_eq_some_iff.mp h; obtain ⟨a10, rfl, h⟩ := h
    replace h := Option.bind_eq_some_iff.mp h; obtain ⟨σ11, e12, h⟩ := h
    refine z_lastore rfl d_Law_request_11 e12 ?_
    refine z_goto (tgt := 19) d_Law_request_12 rfl ?_
    refine z_iconst (v := 0) d_Law_request_19 rfl ?_
    cases h
    exact z_iret rfl rfl d_Law_request_20
  · dsimp only at h
    replace h := Option.bind_eq_some_iff.mp h; obtain ⟨_, e13, h⟩ := h
    refine z_callV_t (a := a9) (av := [.int (v1), .int (v2), .int (v3)]) (st := [.int (0), va_rf (v4)]) wV_NumberOfficeLaw_15 e5 (t_No_request hG hl e3) (by decide) (by decide) d_Law_request_7 (by simp [z_rfc, z_ci, z_cl, z_cr, z_cn]) ?_
    refine zt_catch (s0 := 0) (e0 := 12) (tgt := 15) wK_NumberOfficeLaw_13_8 rfl rfl (by decide) (zis_at e13) ?_
    refine z_astore (j := 5) (lv' := [(5, .ref (a9)), (0, .ref (a1)), (1, .int (v1)), (2, .int (v2)), (3, .int (v3)), (4, va_rf (v4))]) d_Law_request_15 (by decide) (by simp [z_rfc, z_ci, z_cl, z_cr, z_cn] <;> rfl) ?_
    refine z_iconst (v := 1) d_Law_request_17 rfl ?_
    cases h
    exact z_iret rfl rfl d_Law_request_18

def s_Law_invoice (g : zG) (v0 : Option Nat) (v1 : Int32) (v2 : Int32) (v3 : Int64) (v5 : Int32) (v6 : Option Nat) (σ : zS) : Option (Int32 × zS) := (v0).bind fun a1 => (zis σ a1 0).bind fun _ => (s_No_invoice g a1 v1 v2 v3 v5 σ).bind fun (x4, σ2) => match x4 with | .inl x8 => ((v6).bind fun a10 => (zsL σ2 a10 1 (0) (x8.toInt64)).bind fun σ11 => some (0, σ11)) | .inr a9 => ((zis σ2 a9 8).bind fun _ => some (1, σ2))
set_option maxRecDepth 100000 in
theorem t_Law_invoice {l : Launch} {D : zD} {g : zG} (hG : zGok g D) (hl : zLo l) {v0 : Option Nat} {v1 : Int32} {v2 : Int32} {v3 : Int64} {v5 : Int32} {v6 : Option Nat} {σ : zS} {q : Int32 × zS} (h : s_Law_invoice g v0 v1 v2 v3 v5 v6 σ = some q) : zMet l D Y_Law_invoice K_Law_invoice 10 234 [va_rf (v0), .int (v1), .int (v2), .long (v3), .int (v5), va_rf (v6)] σ (.returned (some (.int q.1)), q.2) := by
  refine zMet.ofZ (by decide) rfl (fun q => by cases q) (by simp [lg_sl, z_rfc, z_ci, z_cl, z_cr, z_cn]) ?_
  rw [show lv_args 0 ([va_rf (v0), .int (v1), .int (v2), .long (v3), .int (v5), va_rf (v6)] : List Value) = [(0, va_rf (v0)), (1, .int (v1)), (2, .int (v2)), (3, .long (v3)), (5, .int (v5)), (6, va_rf (v6))] from by simp [lv_args, z_rfc, z_ci, z_cl, z_cr, z_cn]]
  unfold s_Law_invoice at h
  refine z_aloadR 5 d_Law_invoice_0 rfl ?_
  refine z_iconst (v := 0) d_Law_invoice_2 rfl ?_
  refine z_aload_nR 0 d_Law_invoice_3 rfl rfl ?_
  refine z_iload_n 1 d_Law_invoice_4 rfl rfl ?_
  refine z_iload_n 2 d_Law_invoice_5 rfl rfl ?_
  refine z_lload_n 3 d_Law_invoice_6 rfl rfl ?_
  refine z_iload 4 d_Law_invoice_7 rfl ?_
  replace h := Option.bind_eq_some_iff.mp h; obtain ⟨a1, rfl, h⟩ := h
  replace h := Option.bind_eq_some_iff.mp h; obtain ⟨_, e5, h⟩ := h
  obtain ⟨b6, f7, e5⟩ := zcls_at (zis_at e5)
  replace h := Option.bind_eq_some_iff.mp h; obtain ⟨⟨x4, σ2⟩, e3, h⟩ := h
  dsimp only at h
  rcases x4 with x8 | a9
  · dsimp only at h
    refine z_callV (av := [.int (v1), .int (v2), .long (v3), .int (v5)]) (st := [.int (0), va_rf (v6)]) wV_NumberOfficeLaw_23 e5 (t_No_invoice hG hl e3) (by decide) (by decide) d_Law_invoice_9 (by simp [z_rfc, z_ci, z_cl, z_cr, z_cn]) ?_
    show Z _ _ _ _ _ _ 12 [(0, .ref (a1)), (1, .int (v1)), (2, .int (v2)), (3, .long (v3)), (5, .int (v5)), (6, va_rf (v6))] [.int (x8), .int (0), va_rf (v6)] _
    refine z_i2l d_Law_invoice_12 ?_
    replace h := Option.bind_eq_some_iff.mp h; obtain ⟨a10, rfl, h⟩ := h
    replace h := Option.bind_eq_some_iff.mp h; obtain ⟨σ11, e12, h⟩ := h
    refine z_lastore rfl d_Law_invoice_13 e12 ?_
    refine z_goto (tgt := 21) d_Law_invoice_14 rfl ?_
    refine z_iconst (v := 0) d_Law_invoice_21 rfl ?_
    cases h
    exact z_iret rfl rfl d_Law_invoice_22
  · dsimp only at h
    replace h := Option.bind_eq_some_iff.mp h; obtain ⟨_, e13, h⟩ := h
    refine z_callV_t (a := a9) (av := [.int (v1), .int (v2), .long (v3), .int (v5)]) (st := [.int (0), va_rf (v6)]) wV_NumberOfficeLaw_23 e5 (t_No_invoice hG hl e3) (by decide) (by decide) d_Law_invoice_9 (by simp [z_rfc, z_ci, z_cl, z_cr, z_cn]) ?_
    refine zt_catch (s0 := 0) (e0 := 14) (tgt := 17) wK_NumberOfficeLaw_13_8 rfl rfl (by decide) (zis_at e13) ?_
    refine z_astore (j := 7) (lv' := [(7, .ref (a9)), (0, .ref (a1)), (1, .int (v1)), (2, .int (v2)), (3, .long (v3)), (5, .int (v5)), (6, va_rf (v6))]) d_Law_invoice_17 (by decide) (by simp [z_rfc, z_ci, z_cl, z_cr, z_cn] <;> rfl) ?_
    refine z_iconst (v := 1) d_Law_invoice_19 rfl ?_
    cases h
    exact z_iret rfl rfl d_Law_invoice_20

def s_Law_close (g : zG) (v0 : Option Nat) (v1 : Int32) (v2 : Option Nat) (σ : zS) : Option (Int32 × zS) := (v0).bind fun a1 => (zis σ a1 0).bind fun _ => (s_No_close g a1 v1 σ).bind fun (x4, σ2) => match x4 with | .inl x8 => ((v2).bind fun a10 => (zsL σ2 a10 1 (0) (x8.toInt64)).bind fun σ11 => some (0, σ11)) | .inr a9 => ((zis σ2 a9 8).bind fun _ => some (1, σ2))
set_option maxRecDepth 100000 in
theorem t_Law_close {l : Launch} {D : zD} {g : zG} (hG : zGok g D) (hl : zLo l) {v0 : Option Nat} {v1 : Int32} {v2 : Option Nat} {σ : zS} {q : Int32 × zS} (h : s_Law_close g v0 v1 v2 σ = some q) : zMet l D Y_Law_close K_Law_close 14 316 [va_rf (v0), .int (v1), va_rf (v2)] σ (.returned (some (.int q.1)), q.2) := by
  refine zMet.ofZ (by decide) rfl (fun q => by cases q) (by simp [lg_sl, z_rfc, z_ci, z_cl, z_cr, z_cn]) ?_
  rw [show lv_args 0 ([va_rf (v0), .int (v1), va_rf (v2)] : List Value) = [(0, va_rf (v0)), (1, .int (v1)), (2, va_rf (v2))] from by simp [lv_args, z_rfc, z_ci, z_cl, z_cr, z_cn]]
  unfold s_Law_close at h
  refine z_aload_nR 2 d_Law_close_0 rfl rfl ?_
  refine z_iconst (v := 0) d_Law_close_1 rfl ?_
  refine z_aload_nR 0 d_Law_close_2 rfl rfl ?_
  refine z_iload_n 1 d_Law_close_3 rfl rfl ?_
  replace h := Option.bind_eq_some_iff.mp h; obtain ⟨a1, rfl, h⟩ := h
  replace h := Option.bind_eq_some_iff.mp h; obtain ⟨_, e5, h⟩ := h
  obtain ⟨b6, f7, e5⟩ := zcls_at (zis_at e5)
  replace h := Option.bind_eq_some_iff.mp h; obtain ⟨⟨x4, σ2⟩, e3, h⟩ := h
  dsimp only at h
  rcases x4 with x8 | a9
  · dsimp only at h
    refine z_callV (av := [.int (v1)]) (st := [.int (0), va_rf (v2)]) wV_NumberOfficeLaw_38 e5 (t_No_close hG hl e3) (by decide) (by decide) d_Law_close_4 (by simp [z_rfc, z_ci, z_cl, z_cr, z_cn]) ?_
    show Z _ _ _ _ _ _ 7 [(0, .ref (a1)), (1, .int (v1)), (2, va_rf (v2))] [.int (x8), .int (0), va_rf (v2)] _
    refine z_i2l d_Law_close_7 ?_
    replace h := Option.bind_eq_some_iff.mp h; obtain ⟨a10, rfl, h⟩ := h
    replace h := Option.bind_eq_some_iff.mp h; obtain ⟨σ11, e12, h⟩ := h
    refine z_lastore rfl d_Law_close_8 e12 ?_
    refine z_goto (tgt := 15) d_Law_close_9 rfl ?_
    refine z_iconst (v := 0) d_Law_close_15 rfl ?_
    cases h
    exact z_iret rfl rfl d_Law_close_16
  · dsimp only at h
    replace h := Option.bind_eq_some_iff.mp h; obtain ⟨_, e13, h⟩ := h
    refine z_callV_t (a := a9) (av := [.int (v1)]) (st := [.int (0), va_rf (v2)]) wV_NumberOfficeLaw_38 e5 (t_No_close hG hl e3) (by decide) (by decide) d_Law_close_4 (by simp [z_rfc, z_ci, z_cl, z_cr, z_cn]) ?_
    refine zt_catch (s0 := 0) (e0 := 9) (tgt := 12) wK_NumberOfficeLaw_13_8 rfl rfl (by decide) (zis_at e13) ?_
    refine z_astore_n (j := 3) (lv' := [(3, .ref (a9)), (0, .ref (a1)), (1, .int (v1)), (2, va_rf (v2))]) d_Law_close_12 rfl (by decide) (by simp [z_rfc, z_ci, z_cl, z_cr, z_cn] <;> rfl) ?_
    refine z_iconst (v := 1) d_Law_close_13 rfl ?_
    cases h
    exact z_iret rfl rfl d_Law_close_14

