def s_Law_cell_13 (g : zG)  (v0 : Option Nat) (v1 : Int32) (w0 : Int32) (σ : zS) : Option (Int32 × zS) := some (w0, σ)
def s_Law_cell (g : zG) (v0 : Option Nat) (v1 : Int32) (σ : zS) : Option (Int32 × zS) := (v0).bind fun a1 => (zal σ a1 0).bind fun x2 => if x2 ≤ v1 then s_Law_cell_13 g  (some (a1)) (v1) (0) σ else (zaI σ a1 0 (v1)).bind fun x5 => s_Law_cell_13 g  (some (a1)) (v1) (x5) σ
set_option maxRecDepth 100000 in
theorem t_Law_cell_13 {l : Launch} {D : zD} {g : zG} (hG : zGok g D) {q : Int32 × zS}   {v0 : Option Nat} {v1 : Int32} {w0 : Int32} {σ : zS} (h : s_Law_cell_13 g  v0 v1 w0 σ = some q) : Z l D K_Law_cell 0 0 (.returned (some (.int q.1)), q.2) 13 [(0, va_rf (v0)), (1, .int (v1))] [.int (w0)] σ := by
  unfold s_Law_cell_13 at h
  cases h
  exact z_iret rfl rfl d_Law_cell_13
set_option maxRecDepth 100000 in
theorem t_Law_cell {l : Launch} {D : zD} {g : zG} (hG : zGok g D) {v0 : Option Nat} {v1 : Int32} {σ : zS} {q : Int32 × zS} (h : s_Law_cell g v0 v1 σ = some q) : zMet l D Y_Law_cell K_Law_cell 0 0 [va_rf (v0), .int (v1)] σ (.returned (some (.int q.1)), q.2) := by
  refine zMet.ofZ (by decide) rfl (fun q => by cases q) (by simp [lg_sl, z_rfc, z_ci, z_cl, z_cr, z_cn]) ?_
  rw [show lv_args 0 ([va_rf (v0), .int (v1)] : List Value) = [(0, va_rf (v0)), (1, .int (v1))] from by simp [lv_args, z_rfc, z_ci, z_cl, z_cr, z_cn]]
  unfold s_Law_cell at h
  refine z_iload_n 1 d_Law_cell_0 rfl rfl ?_
  refine z_aload_nR 0 d_Law_cell_1 rfl rfl ?_
  replace h := Option.bind_eq_some_iff.mp h; obtain ⟨a1, rfl, h⟩ := h
  replace h := Option.bind_eq_some_iff.mp h; obtain ⟨x2, e3, h⟩ := h
  refine z_alen (t := 0) rfl d_Law_cell_2 e3 ?_
  refine z_icmp_ge (tgt := 12) d_Law_cell_3 rfl (fun c4 => ?_) (fun c4 => ?_)
  · rw [if_pos c4] at h
    refine z_iconst (v := 0) d_Law_cell_12 rfl ?_
    refine z_lv (lv' := [(0, va_rf (some (a1))), (1, .int (v1))]) [0, 1] rfl ?_
    exact t_Law_cell_13 hG   h
  · rw [if_neg c4] at h
    refine z_aload_n 0 d_Law_cell_6 rfl rfl ?_
    refine z_iload_n 1 d_Law_cell_7 rfl rfl ?_
    replace h := Option.bind_eq_some_iff.mp h; obtain ⟨x5, e6, h⟩ := h
    refine z_iaload rfl d_Law_cell_8 e6 ?_
    refine z_goto (tgt := 13) d_Law_cell_9 rfl ?_
    refine z_lv (lv' := [(0, va_rf (some (a1))), (1, .int (v1))]) [0, 1] rfl ?_
    exact t_Law_cell_13 hG   h

