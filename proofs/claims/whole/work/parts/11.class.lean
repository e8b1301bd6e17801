def s_Side_init (g : zG) (v0 : Nat) (σ : zS) : Option (zS) := (zpF2 σ v0 1 8 4 6 (.int (1))).bind fun σ1 => some σ1
set_option maxRecDepth 100000 in
theorem t_Side_init {l : Launch} {D : zD} {g : zG} (hG : zGok g D) {v0 : Nat} {σ : zS} {q : zS} (h : s_Side_init g v0 σ = some q) : zMet l D Y_Side_init K_Side_init 1 12 [.ref (v0)] σ (.returned none, q) := by
  refine zMet.ofZ (by decide) rfl (fun q => rfl) (Nat.le_of_ble_eq_true rfl) ?_
  show Z _ _ _ _ _ _ 0 [(0, .ref (v0))] [] _
  unfold s_Side_init at h
  refine z_aload_n 0 d_Side_init_0 rfl rfl ?_
  refine z_objInit wO_NumberOffice_Side_1 wOi wOc (by decide) (by decide) d_Side_init_1 ?_
  refine z_aload_n 0 d_Side_init_4 rfl rfl ?_
  refine z_iconst (v := 1) d_Side_init_5 rfl ?_
  replace h := Option.bind_eq_some_iff.mp h; obtain ⟨σ1, e2, h⟩ := h
  refine z_put2 wP_NumberOffice_Side_7_1 wP_NumberOffice_Side_7_4 (fun _ => rfl) d_Side_init_6 rfl rfl e2 ?_
  cases h
  exact z_vret rfl rfl d_Side_init_9

def s_SeriesBook_init (g : zG) (v0 : Nat) (σ : zS) : Option (zS) := (zpF σ v0 5 0 (.int (0))).bind fun σ1 => (zlen (300)).bind fun n3 => (some (znew σ1 n3 (.inl (0, (n3, .inl (fun _ => 0)))))).bind fun σ5 => (zpF σ5 v0 5 3 (.ref (σ1.1))).bind fun σ7 => (zlen (300)).bind fun n9 => (some (znew σ7 n9 (.inl (0, (n9, .inl (fun _ => 0)))))).bind fun σ11 => (zpF σ11 v0 5 4 (.ref (σ7.1))).bind fun σ13 => (zlen (300)).bind fun n15 => (some (znew σ13 n15 (.inl (1, (n15, .inr (.inl (fun _ => 0))))))).bind fun σ17 => (zpF σ17 v0 5 5 (.ref (σ13.1))).bind fun σ19 => (zlen (300)).bind fun n21 => (some (znew σ19 n21 (.inl (0, (n21, .inl (fun _ => 0)))))).bind fun σ23 => (zpF σ23 v0 5 6 (.ref (σ19.1))).bind fun σ25 => (g 20).bind fun a27 => (zpF σ25 v0 5 7 (.ref (a27))).bind fun σ29 => some σ29
set_option maxRecDepth 100000 in
theorem t_SeriesBook_init {l : Launch} {D : zD} {g : zG} (hG : zGok g D) {v0 : Nat} {σ : zS} {q : zS} (h : s_SeriesBook_init g v0 σ = some q) : zMet l D Y_SeriesBook_init K_SeriesBook_init 1 12 [.ref (v0)] σ (.returned none, q) := by
  refine zMet.ofZ (by decide) rfl (fun q => rfl) (Nat.le_of_ble_eq_true rfl) ?_
  show Z _ _ _ _ _ _ 0 [(0, .ref (v0))] [] _
  unfold s_SeriesBook_init at h
  refine z_aload_n 0 d_SeriesBook_init_0 rfl rfl ?_
  refine z_objInit wO_NumberOffice_SeriesBook_3 wOi wOc (by decide) (by decide) d_SeriesBook_init_1 ?_
  refine z_aload_n 0 d_SeriesBook_init_4 rfl rfl ?_
  refine z_iconst (v := 0) d_SeriesBook_init_5 rfl ?_
  replace h := Option.bind_eq_some_iff.mp h; obtain ⟨σ1, e2, h⟩ := h
  refine z_put wP_NumberOffice_SeriesBook_11_5 (fun _ => rfl) d_SeriesBook_init_6 rfl rfl e2 ?_
  refine z_aload_n 0 d_SeriesBook_init_9 rfl rfl ?_
  refine z_sipush (v := 300) d_SeriesBook_init_10 rfl ?_
  replace h := Option.bind_eq_some_iff.mp h; obtain ⟨n3, e4, h⟩ := h
  replace h := Option.bind_eq_some_iff.mp h; obtain ⟨σ5, e6, h⟩ := h
  refine z_newa (t := 0) (ty := .int) (x := (n3, .inl (fun _ => 0))) rfl rfl wA_int (fun _ => rfl) (by decide) d_SeriesBook_init_13 e4 ?_
  rw [Option.some.inj e6]
  replace h := Option.bind_eq_some_iff.mp h; obtain ⟨σ7, e8, h⟩ := h
  refine z_put wP_NumberOffice_SeriesBook_15_5 (fun _ => rfl) d_SeriesBook_init_15 rfl rfl e8 ?_
  refine z_aload_n 0 d_SeriesBook_init_18 rfl rfl ?_
  refine z_sipush (v := 300) d_SeriesBook_init_19 rfl ?_
  replace h := Option.bind_eq_some_iff.mp h; obtain ⟨n9, e10, h⟩ := h
  replace h := Option.bind_eq_some_iff.mp h; obtain ⟨σ11, e12, h⟩ := h
  refine z_newa (t := 0) (ty := .int) (x := (n9, .inl (fun _ => 0))) rfl rfl wA_int (fun _ => rfl) (by decide) d_SeriesBook_init_22 e10 ?_
  rw [Option.some.inj e12]
  replace h := Option.bind_eq_some_iff.mp h; obtain ⟨σ13, e14, h⟩ := h
  refine z_put wP_NumberOffice_SeriesBook_19_5 (fun _ => rfl) d_SeriesBook_init_24 rfl rfl e14 ?_
  refine z_aload_n 0 d_SeriesBook_init_27 rfl rfl ?_
  refine z_sipush (v := 300) d_SeriesBook_init_28 rfl ?_
  replace h := Option.bind_eq_some_iff.mp h; obtain ⟨n15, e16, h⟩ := h
  replace h := Option.bind_eq_some_iff.mp h; obtain ⟨σ17, e18, h⟩ := h
  refine z_newa (t := 1) (ty := .long) (x := (n15, .inr (.inl (fun _ => 0)))) rfl rfl wA_long (fun _ => rfl) (by decide) d_SeriesBook_init_31 e16 ?_
  rw [Option.some.inj e18]
  replace h := Option.bind_eq_some_iff.mp h; obtain ⟨σ19, e20, h⟩ := h
  refine z_put wP_NumberOffice_SeriesBook_22_5 (fun _ => rfl) d_SeriesBook_init_33 rfl rfl e20 ?_
  refine z_aload_n 0 d_SeriesBook_init_36 rfl rfl ?_
  refine z_sipush (v := 300) d_SeriesBook_init_37 rfl ?_
  replace h := Option.bind_eq_some_iff.mp h; obtain ⟨n21, e22, h⟩ := h
  replace h := Option.bind_eq_some_iff.mp h; obtain ⟨σ23, e24, h⟩ := h
  refine z_newa (t := 0) (ty := .int) (x := (n21, .inl (fun _ => 0))) rfl rfl wA_int (fun _ => rfl) (by decide) d_SeriesBook_init_40 e22 ?_
  rw [Option.some.inj e24]
  replace h := Option.bind_eq_some_iff.mp h; obtain ⟨σ25, e26, h⟩ := h
  refine z_put wP_NumberOffice_SeriesBook_26_5 (fun _ => rfl) d_SeriesBook_init_42 rfl rfl e26 ?_
  refine z_aload_n 0 d_SeriesBook_init_45 rfl rfl ?_
  replace h := Option.bind_eq_some_iff.mp h; obtain ⟨a27, e28, h⟩ := h
  refine z_ldcS (zG_8 hG _ e28) d_SeriesBook_init_46 ?_
  replace h := Option.bind_eq_some_iff.mp h; obtain ⟨σ29, e30, h⟩ := h
  refine z_put wP_NumberOffice_SeriesBook_31_5 (fun _ => rfl) d_SeriesBook_init_48 rfl rfl e30 ?_
  cases h
  exact z_vret rfl rfl d_SeriesBook_init_51

def s_No_branchAt_23 (g : zG)  (v0 : Nat) (v1 : Int32) (w0 : Option Nat) (σ : zS) : Option (Option Nat × zS) := some (w0, σ)
def s_No_branchAt_22 (g : zG)  (v0 : Nat) (v1 : Int32) (σ : zS) : Option (Option Nat × zS) := s_No_branchAt_23 g  (v0) (v1) (none) σ
def s_No_branchAt (g : zG) (v0 : Nat) (v1 : Int32) (σ : zS) : Option (Option Nat × zS) := if v1 < 0 then s_No_branchAt_22 g  (v0) (v1) σ else (zgR σ v0 0 0).bind fun x2 => (x2).bind fun a4 => (zal σ a4 6).bind fun x5 => if x5 ≤ v1 then s_No_branchAt_22 g  (v0) (v1) σ else (zgR σ v0 0 0).bind fun x8 => (x8).bind fun a10 => (zaR σ a10 6 (v1)).bind fun x11 => s_No_branchAt_23 g  (v0) (v1) (x11) σ
set_option maxRecDepth 100000 in
theorem t_No_branchAt_23 {l : Launch} {D : zD} {g : zG} (hG : zGok g D) {q : Option Nat × zS}   {v0 : Nat} {v1 : Int32} {w0 : Option Nat} {σ : zS} (h : s_No_branchAt_23 g  v0 v1 w0 σ = some q) : Z l D K_No_branchAt 0 0 (.returned (some (va_rf q.1)), q.2) 23 [(0, .ref (v0)), (1, .int (v1))] [va_rf (w0)] σ := by
  unfold s_No_branchAt_23 at h
  cases h
  exact z_aret (r := w0) rfl (Or.inl ⟨_, rfl⟩) rfl d_No_branchAt_23
set_option maxRecDepth 100000 in
theorem t_No_branchAt_22 {l : Launch} {D : zD} {g : zG} (hG : zGok g D) {q : Option Nat × zS}   {v0 : Nat} {v1 : Int32} {σ : zS} (h : s_No_branchAt_22 g  v0 v1 σ = some q) : Z l D K_No_branchAt 0 0 (.returned (some (va_rf q.1)), q.2) 22 [(0, .ref (v0)), (1, .int (v1))] [] σ := by
  unfold s_No_branchAt_22 at h
  refine z_null d_No_branchAt_22 ?_
  refine z_lv (lv' := [(0, .ref (v0)), (1, .int (v1))]) [0, 1] rfl ?_
  exact t_No_branchAt_23 hG   h
set_option maxRecDepth 100000 in
theorem t_No_branchAt {l : Launch} {D : zD} {g : zG} (hG : zGok g D) {v0 : Nat} {v1 : Int32} {σ : zS} {q : Option Nat × zS} (h : s_No_branchAt g v0 v1 σ = some q) : zMet l D Y_No_branchAt K_No_branchAt 0 0 [.ref (v0), .int (v1)] σ (.returned (some (va_rf q.1)), q.2) := by
  refine zMet.ofZ (by decide) rfl (fun q => by cases q) (Nat.le_of_ble_eq_true rfl) ?_
  show Z _ _ _ _ _ _ 0 [(0, .ref (v0)), (1, .int (v1))] [] _
  unfold s_No_branchAt at h
  refine z_iload_n 1 d_No_branchAt_0 rfl rfl ?_
  refine z_if_lt (tgt := 22) d_No_branchAt_1 rfl (fun c1 => ?_) (fun c1 => ?_)
  · rw [if_pos c1] at h
    refine z_lv (lv' := [(0, .ref (v0)), (1, .int (v1))]) [0, 1] rfl ?_
    exact t_No_branchAt_22 hG   h
  · rw [if_neg c1] at h
    refine z_iload_n 1 d_No_branchAt_4 rfl rfl ?_
    refine z_aload_n 0 d_No_branchAt_5 rfl rfl ?_
    replace h := Option.bind_eq_some_iff.mp h; obtain ⟨x2, e3, h⟩ := h
    refine z_getR wF_NumberOffice_20_0 d_No_branchAt_6 e3 ?_
    replace h := Option.bind_eq_some_iff.mp h; obtain ⟨a4, rfl, h⟩ := h
    replace h := Option.bind_eq_some_iff.mp h; obtain ⟨x5, e6, h⟩ := h
    refine z_alen (t := 6) rfl d_No_branchAt_9 e6 ?_
    refine z_icmp_ge (tgt := 22) d_No_branchAt_10 rfl (fun c7 => ?_) (fun c7 => ?_)
    · rw [if_pos c7] at h
      refine z_lv (lv' := [(0, .ref (v0)), (1, .int (v1))]) [0, 1] rfl ?_
      exact t_No_branchAt_22 hG   h
    · rw [if_neg c7] at h
      refine z_aload_n 0 d_No_branchAt_13 rfl rfl ?_
      replace h := Option.bind_eq_some_iff.mp h; obtain ⟨x8, e9, h⟩ := h
      refine z_getR wF_NumberOffice_20_0 d_No_branchAt_14 e9 ?_
      refine z_iload_n 1 d_No_branchAt_17 rfl rfl ?_
      replace h := Option.bind_eq_some_iff.mp h; obtain ⟨a10, rfl, h⟩ := h
      replace h := Option.bind_eq_some_iff.mp h; obtain ⟨x11, e12, h⟩ := h
      refine z_aaload rfl d_No_branchAt_18 e12 ?_
      refine z_goto (tgt := 23) d_No_branchAt_19 rfl ?_
      refine z_lv (lv' := [(0, .ref (v0)), (1, .int (v1))]) [0, 1] rfl ?_
      exact t_No_branchAt_23 hG   h

def s_Branch_unanswered_15 (g : zG)  (v0 : Nat) (w0 : Option Nat) (σ : zS) : Option (Option Nat × zS) := some (w0, σ)
def s_Branch_unanswered (g : zG) (v0 : Nat) (σ : zS) : Option (Option Nat × zS) := (zgI σ v0 1 3).bind fun x1 => if x1 = 0 then s_Branch_unanswered_15 g  (v0) (none) σ else (zgR σ v0 1 2).bind fun x4 => s_Branch_unanswered_15 g  (v0) (x4) σ
set_option maxRecDepth 100000 in
theorem t_Branch_unanswered_15 {l : Launch} {D : zD} {g : zG} (hG : zGok g D) {q : Option Nat × zS}   {v0 : Nat} {w0 : Option Nat} {σ : zS} (h : s_Branch_unanswered_15 g  v0 w0 σ = some q) : Z l D K_Branch_unanswered 0 0 (.returned (some (va_rf q.1)), q.2) 15 [(0, .ref (v0))] [va_rf (w0)] σ := by
  unfold s_Branch_unanswered_15 at h
  cases h
  exact z_aret (r := w0) rfl (Or.inl ⟨_, rfl⟩) rfl d_Branch_unanswered_15
set_option maxRecDepth 100000 in
theorem t_Branch_unanswered {l : Launch} {D : zD} {g : zG} (hG : zGok g D) {v0 : Nat} {σ : zS} {q : Option Nat × zS} (h : s_Branch_unanswered g v0 σ = some q) : zMet l D Y_Branch_unanswered K_Branch_unanswered 0 0 [.ref (v0)] σ (.returned (some (va_rf q.1)), q.2) := by
  refine zMet.ofZ (by decide) rfl (fun q => by cases q) (Nat.le_of_ble_eq_true rfl) ?_
  show Z _ _ _ _ _ _ 0 [(0, .ref (v0))] [] _
  unfold s_Branch_unanswered at h
  refine z_aload_n 0 d_Branch_unanswered_0 rfl rfl ?_
  replace h := Option.bind_eq_some_iff.mp h; obtain ⟨x1, e2, h⟩ := h
  refine z_getI wF_NumberOffice_Branch_32_1 d_Branch_unanswered_1 e2 ?_
  refine z_if_eq (tgt := 14) d_Branch_unanswered_4 rfl (fun c3 => ?_) (fun c3 => ?_)
  · rw [if_pos c3] at h
    refine z_null d_Branch_unanswered_14 ?_
    refine z_lv (lv' := [(0, .ref (v0))]) [0] rfl ?_
    exact t_Branch_unanswered_15 hG   h
  · rw [if_neg c3] at h
    refine z_aload_n 0 d_Branch_unanswered_7 rfl rfl ?_
    replace h := Option.bind_eq_some_iff.mp h; obtain ⟨x4, e5, h⟩ := h
    refine z_getR wF_NumberOffice_Branch_25_1 d_Branch_unanswered_8 e5 ?_
    refine z_goto (tgt := 15) d_Branch_unanswered_11 rfl ?_
    refine z_lv (lv' := [(0, .ref (v0))]) [0] rfl ?_
    exact t_Branch_unanswered_15 hG   h

def s_No_sideAt_21 (g : zG)  (v0 : Nat) (v1 : Int32) (w0 : Option Nat) (σ : zS) : Option (Option Nat × zS) := some (w0, σ)
def s_No_sideAt (g : zG) (v0 : Nat) (v1 : Int32) (σ : zS) : Option (Option Nat × zS) := (zgR σ v0 0 0).bind fun x1 => (x1).bind fun a3 => (zal σ a3 6).bind fun x4 => if v1 = x4 then (zgR σ v0 0 1).bind fun x13 => s_No_sideAt_21 g  (v0) (v1) (x13) σ else (zis σ v0 0).bind fun _ => (s_No_branchAt g v0 v1 σ).bind fun (x9, σ7) => s_No_sideAt_21 g  (v0) (v1) (x9) σ7
set_option maxRecDepth 100000 in
theorem t_No_sideAt_21 {l : Launch} {D : zD} {g : zG} (hG : zGok g D) {q : Option Nat × zS}   {v0 : Nat} {v1 : Int32} {w0 : Option Nat} {σ : zS} (h : s_No_sideAt_21 g  v0 v1 w0 σ = some q) : Z l D K_No_sideAt 1 21 (.returned (some (va_rf q.1)), q.2) 21 [(0, .ref (v0)), (1, .int (v1))] [va_rf (w0)] σ := by
  unfold s_No_sideAt_21 at h
  cases h
  exact z_aret (r := w0) rfl (Or.inl ⟨_, rfl⟩) rfl d_No_sideAt_21
set_option maxRecDepth 100000 in
theorem t_No_sideAt {l : Launch} {D : zD} {g : zG} (hG : zGok g D) {v0 : Nat} {v1 : Int32} {σ : zS} {q : Option Nat × zS} (h : s_No_sideAt g v0 v1 σ = some q) : zMet l D Y_No_sideAt K_No_sideAt 1 21 [.ref (v0), .int (v1)] σ (.returned (some (va_rf q.1)), q.2) := by
  refine zMet.ofZ (by decide) rfl (fun q => by cases q) (Nat.le_of_ble_eq_true rfl) ?_
  show Z _ _ _ _ _ _ 0 [(0, .ref (v0)), (1, .int (v1))] [] _
  unfold s_No_sideAt at h
  refine z_iload_n 1 d_No_sideAt_0 rfl rfl ?_
  refine z_aload_n 0 d_No_sideAt_1 rfl rfl ?_
  replace h := Option.bind_eq_some_iff.mp h; obtain ⟨x1, e2, h⟩ := h
  refine z_getR wF_NumberOffice_20_0 d_No_sideAt_2 e2 ?_
  replace h := Option.bind_eq_some_iff.mp h; obtain ⟨a3, rfl, h⟩ := h
  replace h := Option.bind_eq_some_iff.mp h; obtain ⟨x4, e5, h⟩ := h
  refine z_alen (t := 6) rfl d_No_sideAt_5 e5 ?_
  refine z_icmp_ne (tgt := 16) d_No_sideAt_6 rfl (fun c6 => ?_) (fun c6 => ?_)
  · rw [if_neg c6] at h
    refine z_aload_n 0 d_No_sideAt_16 rfl rfl ?_
    refine z_iload_n 1 d_No_sideAt_17 rfl rfl ?_
    replace h := Option.bind_eq_some_iff.mp h; obtain ⟨_, e10, h⟩ := h
    obtain ⟨b11, f12, e10⟩ := zcls_at (zis_at e10)
    replace h := Option.bind_eq_some_iff.mp h; obtain ⟨⟨x9, σ7⟩, e8, h⟩ := h
    dsimp only at h
    refine z_callV (av := [.int (v1)]) (st := []) wV_NumberOffice_55 e10 (t_No_branchAt hG e8) (by decide) (by decide) d_No_sideAt_18 (by simp [z_rfc, z_ci, z_cl, z_cr, z_cn]) ?_
    show Z _ _ _ _ _ _ 21 [(0, .ref (v0)), (1, .int (v1))] [va_rf (x9)] _
    refine z_lv (lv' := [(0, .ref (v0)), (1, .int (v1))]) [0, 1] rfl ?_
    exact t_No_sideAt_21 hG   h
  · rw [if_pos c6] at h
    refine z_aload_n 0 d_No_sideAt_9 rfl rfl ?_
    replace h := Option.bind_eq_some_iff.mp h; obtain ⟨x13, e14, h⟩ := h
    refine z_getR wF_NumberOffice_30_0 d_No_sideAt_10 e14 ?_
    refine z_goto (tgt := 21) d_No_sideAt_13 rfl ?_
    refine z_lv (lv' := [(0, .ref (v0)), (1, .int (v1))]) [0, 1] rfl ?_
    exact t_No_sideAt_21 hG   h

def s_SeriesBook_copyFrom (g : zG) (v0 : Nat) (v1 : Option Nat) (σ : zS) : Option (zS) := (v1).bind fun a1 => (zgI σ a1 5 0).bind fun x2 => (zpF σ v0 5 0 (.int (x2))).bind fun σ4 => (zgI σ4 a1 5 1).bind fun x6 => (zpF σ4 v0 5 1 (.int (x6))).bind fun σ8 => (zgI σ8 a1 5 2).bind fun x10 => (zpF σ8 v0 5 2 (.int (x10))).bind fun σ12 => (zgR σ12 a1 5 3).bind fun x14 => (zgR σ12 v0 5 3).bind fun x16 => (x14).bind fun a18 => (x16).bind fun a19 => (zcpI σ12 .int a18 a19 0 (0) (0) (300)).bind fun σ20 => (zgR σ20 a1 5 4).bind fun x22 => (zgR σ20 v0 5 4).bind fun x24 => (x22).bind fun a26 => (x24).bind fun a27 => (zcpI σ20 .int a26 a27 0 (0) (0) (300)).bind fun σ28 => (zgR σ28 a1 5 5).bind fun x30 => (zgR σ28 v0 5 5).bind fun x32 => (x30).bind fun a34 => (x32).bind fun a35 => (zcpL σ28 a34 a35 1 (0) (0) (300)).bind fun σ36 => (zgR σ36 a1 5 6).bind fun x38 => (zgR σ36 v0 5 6).bind fun x40 => (x38).bind fun a42 => (x40).bind fun a43 => (zcpI σ36 .int a42 a43 0 (0) (0) (300)).bind fun σ44 => (zgR σ44 a1 5 7).bind fun x46 => (zpF σ44 v0 5 7 (va_rf (x46))).bind fun σ48 => some σ48
set_option maxRecDepth 100000 in
theorem t_SeriesBook_copyFrom {l : Launch} {D : zD} {g : zG} (hG : zGok g D) {v0 : Nat} {v1 : Option Nat} {σ : zS} {q : zS} (h : s_SeriesBook_copyFrom g v0 v1 σ = some q) : zMet l D Y_SeriesBook_copyFrom K_SeriesBook_copyFrom 1 24 [.ref (v0), va_rf (v1)] σ (.returned none, q) := by
  refine zMet.ofZ (by decide) rfl (fun q => by cases q) (by simp [lg_sl, z_rfc, z_ci, z_cl, z_cr, z_cn]) ?_
  rw [show lv_args 0 ([.ref (v0), va_rf (v1)] : List Value) = [(0, .ref (v0)), (1, va_rf (v1))] from by simp [lv_args, z_rfc, z_ci, z_cl, z_cr, z_cn]]
  unfold s_SeriesBook_copyFrom at h
  refine z_aload_n 0 d_SeriesBook_copyFrom_0 rfl rfl ?_
  refine z_aload_nR 1 d_SeriesBook_copyFrom_1 rfl rfl ?_
  replace h := Option.bind_eq_some_iff.mp h; obtain ⟨a1, rfl, h⟩ := h
  replace h := Option.bind_eq_some_iff.mp h; obtain ⟨x2, e3, h⟩ := h
  refine z_getI wF_NumberOffice_SeriesBook_11_5 d_SeriesBook_copyFrom_2 e3 ?_
  replace h := Option.bind_eq_some_iff.mp h; obtain ⟨σ4, e5, h⟩ := h
  refine z_put wP_NumberOffice_SeriesBook_11_5 (fun q => by cases q) d_SeriesBook_copyFrom_5 rfl rfl e5 ?_
  refine z_aload_n 0 d_SeriesBook_copyFrom_8 rfl rfl ?_
  refine z_aload_n 1 d_SeriesBook_copyFrom_9 rfl rfl ?_
  replace h := Option.bind_eq_some_iff.mp h; obtain ⟨x6, e7, h⟩ := h
  refine z_getI wF_NumberOffice_SeriesBook_35_5 d_SeriesBook_copyFrom_10 e7 ?_
  replace h := Option.bind_eq_some_iff.mp h; obtain ⟨σ8, e9, h⟩ := h
  refine z_put wP_NumberOffice_SeriesBook_35_5 (fun q => by cases q) d_SeriesBook_copyFrom_13 rfl rfl e9 ?_
  refine z_aload_n 0 d_SeriesBook_copyFrom_16 rfl rfl ?_
  refine z_aload_n 1 d_SeriesBook_copyFrom_17 rfl rfl ?_
  replace h := Option.bind_eq_some_iff.mp h; obtain ⟨x10, e11, h⟩ := h
  refine z_getI wF_NumberOffice_SeriesBook_38_5 d_SeriesBook_copyFrom_18 e11 ?_
  replace h := Option.bind_eq_some_iff.mp h; obtain ⟨σ12, e13, h⟩ := h
  refine z_put wP_NumberOffice_SeriesBook_38_5 (fun q => by cases q) d_SeriesBook_copyFrom_21 rfl rfl e13 ?_
  refine z_aload_n 1 d_SeriesBook_copyFrom_24 rfl rfl ?_
  replace h := Option.bind_eq_some_iff.mp h; obtain ⟨x14, e15, h⟩ := h
  refine z_getR wF_NumberOffice_SeriesBook_15_5 d_SeriesBook_copyFrom_25 e15 ?_
  refine z_iconst (v := 0) d_SeriesBook_copyFrom_28 rfl ?_
  refine z_aload_n 0 d_SeriesBook_copyFrom_29 rfl rfl ?_
  replace h := Option.bind_eq_some_iff.mp h; obtain ⟨x16, e17, h⟩ := h
  refine z_getR wF_NumberOffice_SeriesBook_15_5 d_SeriesBook_copyFrom_30 e17 ?_
  refine z_iconst (v := 0) d_SeriesBook_copyFrom_33 rfl ?_
  refine z_sipush (v := 300) d_SeriesBook_copyFrom_34 rfl ?_
  replace h := Option.bind_eq_some_iff.mp h; obtain ⟨a18, rfl, h⟩ := h
  replace h := Option.bind_eq_some_iff.mp h; obtain ⟨a19, rfl, h⟩ := h
  replace h := Option.bind_eq_some_iff.mp h; obtain ⟨σ20, e21, h⟩ := h
  refine z_copyI wCp_NumberOffice_SeriesBook_41 rfl rfl (by decide) (by decide) d_SeriesBook_copyFrom_37 e21 ?_
  refine z_aload_n 1 d_SeriesBook_copyFrom_40 rfl rfl ?_
  replace h := Option.bind_eq_some_iff.mp h; obtain ⟨x22, e23, h⟩ := h
  refine z_getR wF_NumberOffice_SeriesBook_19_5 d_SeriesBook_copyFrom_41 e23 ?_
  refine z_iconst (v := 0) d_SeriesBook_copyFrom_44 rfl ?_
  refine z_aload_n 0 d_SeriesBook_copyFrom_45 rfl rfl ?_
  replace h := Option.bind_eq_some_iff.mp h; obtain ⟨x24, e25, h⟩ := h
  refine z_getR wF_NumberOffice_SeriesBook_19_5 d_SeriesBook_copyFrom_46 e25 ?_
  refine z_iconst (v := 0) d_SeriesBook_copyFrom_49 rfl ?_
  refine z_sipush (v := 300) d_SeriesBook_copyFrom_50 rfl ?_
  replace h := Option.bind_eq_some_iff.mp h; obtain ⟨a26, rfl, h⟩ := h
  replace h := Option.bind_eq_some_iff.mp h; obtain ⟨a27, rfl, h⟩ := h
  replace h := Option.bind_eq_some_iff.mp h; obtain ⟨σ28, e29, h⟩ := h
  refine z_copyI wCp_NumberOffice_SeriesBook_41 rfl rfl (by decide) (by decide) d_SeriesBook_copyFrom_53 e29 ?_
  refine z_aload_n 1 d_SeriesBook_copyFrom_56 rfl rfl ?_
  replace h := Option.bind_eq_some_iff.mp h; obtain ⟨x30, e31, h⟩ := h
  refine z_getR wF_NumberOffice_SeriesBook_22_5 d_SeriesBook_copyFrom_57 e31 ?_
  refine z_iconst (v := 0) d_SeriesBook_copyFrom_60 rfl ?_
  refine z_aload_n 0 d_SeriesBook_copyFrom_61 rfl rfl ?_
  replace h := Option.bind_eq_some_iff.mp h; obtain ⟨x32, e33, h⟩ := h
  refine z_getR wF_NumberOffice_SeriesBook_22_5 d_SeriesBook_copyFrom_62 e33 ?_
  refine z_iconst (v := 0) d_SeriesBook_copyFrom_65 rfl ?_
  refine z_sipush (v := 300) d_SeriesBook_copyFrom_66 rfl ?_
  replace h := Option.bind_eq_some_iff.mp h; obtain ⟨a34, rfl, h⟩ := h
  replace h := Option.bind_eq_some_iff.mp h; obtain ⟨a35, rfl, h⟩ := h
  replace h := Option.bind_eq_some_iff.mp h; obtain ⟨σ36, e37, h⟩ := h
  refine z_copyL wCp_NumberOffice_SeriesBook_41 rfl (by decide) (by decide) d_SeriesBook_copyFrom_69 e37 ?_
  refine z_aload_n 1 d_SeriesBook_copyFrom_72 rfl rfl ?_
  replace h := Option.bind_eq_some_iff.mp h; obtain ⟨x38, e39, h⟩ := h
  refine z_getR wF_NumberOffice_SeriesBook_26_5 d_SeriesBook_copyFrom_73 e39 ?_
  refine z_iconst (v := 0) d_SeriesBook_copyFrom_76 rfl ?_
  refine z_aload_n 0 d_SeriesBook_copyFrom_77 rfl rfl ?_
  replace h := Option.bind_eq_some_iff.mp h; obtain ⟨x40, e41, h⟩ := h
  refine z_getR wF_NumberOffice_SeriesBook_26_5 d_SeriesBook_copyFrom_78 e41 ?_
  refine z_iconst (v := 0) d_SeriesBook_copyFrom_81 rfl ?_
  refine z_sipush (v := 300) d_SeriesBook_copyFrom_82 rfl ?_
  replace h := Option.bind_eq_some_iff.mp h; obtain ⟨a42, rfl, h⟩ := h
  replace h := Option.bind_eq_some_iff.mp h; obtain ⟨a43, rfl, h⟩ := h
  replace h := Option.bind_eq_some_iff.mp h; obtain ⟨σ44, e45, h⟩ := h
  refine z_copyI wCp_NumberOffice_SeriesBook_41 rfl rfl (by decide) (by decide) d_SeriesBook_copyFrom_85 e45 ?_
  refine z_aload_n 0 d_SeriesBook_copyFrom_88 rfl rfl ?_
  refine z_aload_n 1 d_SeriesBook_copyFrom_89 rfl rfl ?_
  replace h := Option.bind_eq_some_iff.mp h; obtain ⟨x46, e47, h⟩ := h
  refine z_getR wF_NumberOffice_SeriesBook_31_5 d_SeriesBook_copyFrom_90 e47 ?_
  replace h := Option.bind_eq_some_iff.mp h; obtain ⟨σ48, e49, h⟩ := h
  refine z_put wP_NumberOffice_SeriesBook_31_5 (fun q => by cases q) d_SeriesBook_copyFrom_93 (z_nr _ _) (z_fr _ _) e49 ?_
  cases h
  exact z_vret rfl rfl d_SeriesBook_copyFrom_96

def s_No_mount_17 (g : zG)  (v0 : Nat) (v1 : Int32) (v2 : Option Nat) (σ : zS) : Option (Int32 × zS) := some (0, σ)
def s_No_mount (g : zG) (v0 : Nat) (v1 : Int32) (σ : zS) : Option (Int32 × zS) := (zis σ v0 0).bind fun _ => (s_No_sideAt g v0 v1 σ).bind fun (x3, σ1) => match x3 with | none => s_No_mount_17 g  (v0) (v1) (none) σ1 | some a5 => (zgI2 σ1 a5 1 8 4 6).bind fun x6 => if x6 = 0 then (zpF2 σ1 a5 1 8 4 6 (.int (1))).bind fun σ9 => some (1, σ9) else s_No_mount_17 g  (v0) (v1) (some (a5)) σ1
set_option maxRecDepth 100000 in
theorem t_No_mount_17 {l : Launch} {D : zD} {g : zG} (hG : zGok g D) {q : Int32 × zS}   {v0 : Nat} {v1 : Int32} {v2 : Option Nat} {σ : zS} (h : s_No_mount_17 g  v0 v1 v2 σ = some q) : Z l D K_No_mount 2 42 (.returned (some (.int q.1)), q.2) 17 [(0, .ref (v0)), (1, .int (v1)), (2, va_rf (v2))] [] σ := by
  unfold s_No_mount_17 at h
  refine z_iconst (v := 0) d_No_mount_17 rfl ?_
  cases h
  exact z_zret rfl rfl rfl d_No_mount_18
set_option maxRecDepth 100000 in
theorem t_No_mount {l : Launch} {D : zD} {g : zG} (hG : zGok g D) {v0 : Nat} {v1 : Int32} {σ : zS} {q : Int32 × zS} (h : s_No_mount g v0 v1 σ = some q) : zMet l D Y_No_mount K_No_mount 2 42 [.ref (v0), .int (v1)] σ (.returned (some (.int q.1)), q.2) := by
  refine zMet.ofZ (by decide) rfl (fun q => by cases q) (Nat.le_of_ble_eq_true rfl) ?_
  show Z _ _ _ _ _ _ 0 [(0, .ref (v0)), (1, .int (v1))] [] _
  unfold s_No_mount at h
  refine z_aload_n 0 d_No_mount_0 rfl rfl ?_
  refine z_iload_n 1 d_No_mount_1 rfl rfl ?_
  replace h := Option.bind_eq_some_iff.mp h; obtain ⟨_, e11, h⟩ := h
  obtain ⟨b12, f13, e11⟩ := zcls_at (zis_at e11)
  replace h := Option.bind_eq_some_iff.mp h; obtain ⟨⟨x3, σ1⟩, e2, h⟩ := h
  dsimp only at h
  refine z_callV (av := [.int (v1)]) (st := []) wV_NumberOffice_138 e11 (t_No_sideAt hG e2) (by decide) (by decide) d_No_mount_2 (by simp [z_rfc, z_ci, z_cl, z_cr, z_cn]) ?_
  show Z _ _ _ _ _ _ 5 [(0, .ref (v0)), (1, .int (v1))] [va_rf (x3)] _
  refine z_astore_nR (j := 2) (lv' := [(2, va_rf (x3)), (0, .ref (v0)), (1, .int (v1))]) d_No_mount_5 rfl (by decide) rfl ?_
  refine z_aload_nR 0 d_No_mount_6 rfl rfl ?_
  refine z_ifnull (tgt := 17) d_No_mount_7 rfl (fun c4 => ?_) (fun a5 c4 => ?_)
  · subst c4
    dsimp only at h
    refine z_lv (lv' := [(0, .ref (v0)), (1, .int (v1)), (2, va_rf (none))]) [1, 2, 0] rfl ?_
    exact t_No_mount_17 hG   h
  · subst c4
    dsimp only at h
    refine z_aload_n 0 d_No_mount_10 rfl rfl ?_
    replace h := Option.bind_eq_some_iff.mp h; obtain ⟨x6, e7, h⟩ := h
    refine z_getI2 wF_NumberOffice_142_1 wF_NumberOffice_142_4 d_No_mount_11 e7 ?_
    refine z_if_eq (tgt := 19) d_No_mount_14 rfl (fun c8 => ?_) (fun c8 => ?_)
    · rw [if_pos c8] at h
      refine z_aload_n 0 d_No_mount_19 rfl rfl ?_
      refine z_iconst (v := 1) d_No_mount_20 rfl ?_
      replace h := Option.bind_eq_some_iff.mp h; obtain ⟨σ9, e10, h⟩ := h
      refine z_put2 wP_NumberOffice_142_1 wP_NumberOffice_142_4 (fun q => by cases q) d_No_mount_21 rfl rfl e10 ?_
      refine z_iconst (v := 1) d_No_mount_24 rfl ?_
      cases h
      exact z_zret rfl rfl rfl d_No_mount_25
    · rw [if_neg c8] at h
      refine z_lv (lv' := [(0, .ref (v0)), (1, .int (v1)), (2, va_rf (some (a5)))]) [1, 2, 0] rfl ?_
      exact t_No_mount_17 hG   h

def s_Office_save_30 (g : zG)  : Nat → Nat → Int32 → zS → Option (zS)
  | 0, _, _, _ => none
  | n + 1, v0, v1, σ => (zgR σ v0 4 2).bind fun x1 => (x1).bind fun a3 => (zal σ a3 3).bind fun x4 => if x4 ≤ v1 then some σ else (zgR σ v0 4 3).bind fun x7 => (zgR σ v0 4 2).bind fun x9 => (x9).bind fun a11 => (zaI σ a11 3 (v1)).bind fun x12 => (x7).bind fun a14 => (zsI σ a14 3 (v1) (vp_nar .boolean x12)).bind fun σ15 => (zgR σ15 v0 4 5).bind fun x17 => (zgR σ15 v0 4 4).bind fun x19 => (x19).bind fun a21 => (zaR σ15 a21 9 (v1)).bind fun x22 => (x17).bind fun a24 => (zsR σ15 a24 9 (v1) (x22)).bind fun σ25 => s_Office_save_30 g  n (v0) (v1 + 1) σ25
def s_Office_save_2 (g : zG)  : Nat → Nat → Int32 → zS → Option (zS)
  | 0, _, _, _ => none
  | n + 1, v0, v1, σ => if 3 ≤ v1 then s_Office_save_30 g  zfuel (v0) (0) σ else (zgR σ v0 4 1).bind fun x2 => (x2).bind fun a4 => (zaR σ a4 8 (v1)).bind fun x5 => (zgR σ v0 4 0).bind fun x7 => (x7).bind fun a9 => (zaR σ a9 8 (v1)).bind fun x10 => (x5).bind fun a12 => (zis σ a12 5).bind fun _ => (s_SeriesBook_copyFrom g a12 x10 σ).bind fun σ13 => s_Office_save_2 g  n (v0) (v1 + 1) σ13
def s_Office_save (g : zG) (v0 : Nat) (σ : zS) : Option (zS) := s_Office_save_2 g  zfuel (v0) (0) σ
set_option maxRecDepth 100000 in
theorem t_Office_save_30 {l : Launch} {D : zD} {g : zG} (hG : zGok g D) {q : zS}   : ∀ (n : Nat) {v0 : Nat} {v1 : Int32} {σ : zS}, s_Office_save_30 g  n v0 v1 σ = some q → Z l D K_Office_save 2 45 (.returned none, q) 30 [(0, .ref (v0)), (1, .int (v1))] [] σ := by
  intro n
  induction n with
  | zero =>
    intro v0 v1 σ h
    cases h
  | succ n ih =>
    intro v0 v1 σ h
    first | rw [s_Office_save_30] at h | (unfold s_Office_save_30 at h; dsimp only at h)
    refine z_iload_n 1 d_Office_save_30 rfl rfl ?_
    refine z_aload_n 0 d_Office_save_31 rfl rfl ?_
    replace h := Option.bind_eq_some_iff.mp h; obtain ⟨x1, e2, h⟩ := h
    refine z_getR wF_NumberOffice_Office_21_4 d_Office_save_32 e2 ?_
    replace h := Option.bind_eq_some_iff.mp h; obtain ⟨a3, rfl, h⟩ := h
    replace h := Option.bind_eq_some_iff.mp h; obtain ⟨x4, e5, h⟩ := h
    refine z_alen (t := 3) rfl d_Office_save_35 e5 ?_
    refine z_icmp_ge (tgt := 69) d_Office_save_36 rfl (fun c6 => ?_) (fun c6 => ?_)
    · rw [if_pos c6] at h
      cases h
      exact z_vret rfl rfl d_Office_save_69
    · rw [if_neg c6] at h
      refine z_aload_n 0 d_Office_save_39 rfl rfl ?_
      replace h := Option.bind_eq_some_iff.mp h; obtain ⟨x7, e8, h⟩ := h
      refine z_getR wF_NumberOffice_Office_25_4 d_Office_save_40 e8 ?_
      refine z_iload_n 1 d_Office_save_43 rfl rfl ?_
      refine z_aload_n 0 d_Office_save_44 rfl rfl ?_
      replace h := Option.bind_eq_some_iff.mp h; obtain ⟨x9, e10, h⟩ := h
      refine z_getR wF_NumberOffice_Office_21_4 d_Office_save_45 e10 ?_
      refine z_iload_n 1 d_Office_save_48 rfl rfl ?_
      replace h := Option.bind_eq_some_iff.mp h; obtain ⟨a11, rfl, h⟩ := h
      replace h := Option.bind_eq_some_iff.mp h; obtain ⟨x12, e13, h⟩ := h
      refine z_zaload rfl d_Office_save_49 e13 ?_
      replace h := Option.bind_eq_some_iff.mp h; obtain ⟨a14, rfl, h⟩ := h
      replace h := Option.bind_eq_some_iff.mp h; obtain ⟨σ15, e16, h⟩ := h
      refine z_zastore rfl d_Office_save_50 e16 ?_
      refine z_aload_n 0 d_Office_save_51 rfl rfl ?_
      replace h := Option.bind_eq_some_iff.mp h; obtain ⟨x17, e18, h⟩ := h
      refine z_getR wF_NumberOffice_Office_34_4 d_Office_save_52 e18 ?_
      refine z_iload_n 1 d_Office_save_55 rfl rfl ?_
      refine z_aload_n 0 d_Office_save_56 rfl rfl ?_
      replace h := Option.bind_eq_some_iff.mp h; obtain ⟨x19, e20, h⟩ := h
      refine z_getR wF_NumberOffice_Office_30_4 d_Office_save_57 e20 ?_
      refine z_iload_n 1 d_Office_save_60 rfl rfl ?_
      replace h := Option.bind_eq_some_iff.mp h; obtain ⟨a21, rfl, h⟩ := h
      replace h := Option.bind_eq_some_iff.mp h; obtain ⟨x22, e23, h⟩ := h
      refine z_aaload rfl d_Office_save_61 e23 ?_
      replace h := Option.bind_eq_some_iff.mp h; obtain ⟨a24, rfl, h⟩ := h
      replace h := Option.bind_eq_some_iff.mp h; obtain ⟨σ25, e26, h⟩ := h
      refine z_aastore (r := x22) rfl d_Office_save_62 e26 ?_
      refine z_iinc (v := v1 + 1) (lv' := [(1, .int (v1 + 1)), (0, .ref (v0))]) 1 d_Office_save_63 rfl rfl (by decide) rfl ?_
      refine z_goto (tgt := 30) d_Office_save_66 rfl ?_
      refine z_lv (lv' := [(0, .ref (v0)), (1, .int (v1 + 1))]) [1, 0] rfl ?_
      exact ih h
set_option maxRecDepth 100000 in
theorem t_Office_save_2 {l : Launch} {D : zD} {g : zG} (hG : zGok g D) {q : zS}   : ∀ (n : Nat) {v0 : Nat} {v1 : Int32} {σ : zS}, s_Office_save_2 g  n v0 v1 σ = some q → Z l D K_Office_save 2 45 (.returned none, q) 2 [(0, .ref (v0)), (1, .int (v1))] [] σ := by
  intro n
  induction n with
  | zero =>
    intro v0 v1 σ h
    cases h
  | succ n ih =>
    intro v0 v1 σ h
    first | rw [s_Office_save_2] at h | (unfold s_Office_save_2 at h; dsimp only at h)
    refine z_iload_n 1 d_Office_save_2 rfl rfl ?_
    refine z_iconst (v := 3) d_Office_save_3 rfl ?_
    refine z_icmp_ge (tgt := 28) d_Office_save_4 rfl (fun c1 => ?_) (fun c1 => ?_)
    · rw [if_pos c1] at h
      refine z_iconst (v := 0) d_Office_save_28 rfl ?_
      refine z_istore_n (j := 1) (lv' := [(1, .int (0)), (0, .ref (v0))]) d_Office_save_29 rfl (by decide) rfl ?_
      refine z_lv (lv' := [(0, .ref (v0)), (1, .int (0))]) [1, 0] rfl ?_
      exact t_Office_save_30 hG   zfuel h
    · rw [if_neg c1] at h
      refine z_aload_n 0 d_Office_save_7 rfl rfl ?_
      replace h := Option.bind_eq_some_iff.mp h; obtain ⟨x2, e3, h⟩ := h
      refine z_getR wF_NumberOffice_Office_17_4 d_Office_save_8 e3 ?_
      refine z_iload_n 1 d_Office_save_11 rfl rfl ?_
      replace h := Option.bind_eq_some_iff.mp h; obtain ⟨a4, rfl, h⟩ := h
      replace h := Option.bind_eq_some_iff.mp h; obtain ⟨x5, e6, h⟩ := h
      refine z_aaload rfl d_Office_save_12 e6 ?_
      refine z_aload_n 0 d_Office_save_13 rfl rfl ?_
      replace h := Option.bind_eq_some_iff.mp h; obtain ⟨x7, e8, h⟩ := h
      refine z_getR wF_NumberOffice_Office_11_4 d_Office_save_14 e8 ?_
      refine z_iload_n 1 d_Office_save_17 rfl rfl ?_
      replace h := Option.bind_eq_some_iff.mp h; obtain ⟨a9, rfl, h⟩ := h
      replace h := Option.bind_eq_some_iff.mp h; obtain ⟨x10, e11, h⟩ := h
      refine z_aaload rfl d_Office_save_18 e11 ?_
      replace h := Option.bind_eq_some_iff.mp h; obtain ⟨a12, rfl, h⟩ := h
      replace h := Option.bind_eq_some_iff.mp h; obtain ⟨_, e16, h⟩ := h
      obtain ⟨b17, f18, e16⟩ := zcls_at (zis_at e16)
      replace h := Option.bind_eq_some_iff.mp h; obtain ⟨σ13, e14, h⟩ := h
      refine z_callV (av := [va_rf (x10)]) (st := []) wV_NumberOffice_Office_37 e16 (t_SeriesBook_copyFrom hG e14) (by decide) (by decide) d_Office_save_19 (by simp [z_rfc, z_ci, z_cl, z_cr, z_cn]) ?_
      show Z _ _ _ _ _ _ 22 [(0, .ref (v0)), (1, .int (v1))] [] _
      refine z_iinc (v := v1 + 1) (lv' := [(1, .int (v1 + 1)), (0, .ref (v0))]) 1 d_Office_save_22 rfl rfl (by decide) rfl ?_
      refine z_goto (tgt := 2) d_Office_save_25 rfl ?_
      refine z_lv (lv' := [(0, .ref (v0)), (1, .int (v1 + 1))]) [1, 0] rfl ?_
      exact ih h
set_option maxRecDepth 100000 in
theorem t_Office_save {l : Launch} {D : zD} {g : zG} (hG : zGok g D) {v0 : Nat} {σ : zS} {q : zS} (h : s_Office_save g v0 σ = some q) : zMet l D Y_Office_save K_Office_save 2 45 [.ref (v0)] σ (.returned none, q) := by
  refine zMet.ofZ (by decide) rfl (fun q => by cases q) (Nat.le_of_ble_eq_true rfl) ?_
  show Z _ _ _ _ _ _ 0 [(0, .ref (v0))] [] _
  unfold s_Office_save at h
  refine z_iconst (v := 0) d_Office_save_0 rfl ?_
  refine z_istore_n (j := 1) (lv' := [(1, .int (0)), (0, .ref (v0))]) d_Office_save_1 rfl (by decide) rfl ?_
  refine z_lv (lv' := [(0, .ref (v0)), (1, .int (0))]) [1, 0] rfl ?_
  exact t_Office_save_2 hG   zfuel h

def s_No_letters (g : zG) (v0 : Nat) (σ : zS) : Option (Int32 × zS) := (zgR σ v0 0 2).bind fun x1 => (x1).bind fun a3 => (zis σ a3 3).bind fun _ => (s_ArrayList_size g a3  σ).bind fun (x6, σ4) => some (x6, σ4)
set_option maxRecDepth 100000 in
theorem t_No_letters {l : Launch} {D : zD} {g : zG} (hG : zGok g D) {v0 : Nat} {σ : zS} {q : Int32 × zS} (h : s_No_letters g v0 σ = some q) : zMet l D Y_No_letters K_No_letters 1 20 [.ref (v0)] σ (.returned (some (.int q.1)), q.2) := by
  refine zMet.ofZ (by decide) rfl (fun q => by cases q) (Nat.le_of_ble_eq_true rfl) ?_
  show Z _ _ _ _ _ _ 0 [(0, .ref (v0))] [] _
  unfold s_No_letters at h
  refine z_aload_n 0 d_No_letters_0 rfl rfl ?_
  replace h := Option.bind_eq_some_iff.mp h; obtain ⟨x1, e2, h⟩ := h
  refine z_getR wF_NumberOffice_37_0 d_No_letters_1 e2 ?_
  replace h := Option.bind_eq_some_iff.mp h; obtain ⟨a3, rfl, h⟩ := h
  replace h := Option.bind_eq_some_iff.mp h; obtain ⟨_, e7, h⟩ := h
  obtain ⟨b8, f9, e7⟩ := zcls_at (zis_at e7)
  replace h := Option.bind_eq_some_iff.mp h; obtain ⟨⟨x6, σ4⟩, e5, h⟩ := h
  dsimp only at h
  refine z_callV (av := []) (st := []) wV_NumberOffice_149 e7 (t_ArrayList_size hG e5) (by decide) (by decide) d_No_letters_4 (by simp [z_rfc, z_ci, z_cl, z_cr, z_cn]) ?_
  show Z _ _ _ _ _ _ 7 [(0, .ref (v0))] [.int (x6)] _
  cases h
  exact z_iret rfl rfl d_No_letters_7

def s_Office_knows_18 (g : zG)  (v0 : Nat) (v1 : Int32) (w0 : Int32) (σ : zS) : Option (Int32 × zS) := if w0 = 0 ∨ w0 = 1 then some (w0, σ) else none
def s_Office_knows_17 (g : zG)  (v0 : Nat) (v1 : Int32) (σ : zS) : Option (Int32 × zS) := s_Office_knows_18 g  (v0) (v1) (0) σ
def s_Office_knows (g : zG) (v0 : Nat) (v1 : Int32) (σ : zS) : Option (Int32 × zS) := if v1 < 0 then s_Office_knows_17 g  (v0) (v1) σ else (zgR σ v0 4 2).bind fun x2 => (x2).bind fun a4 => (zal σ a4 3).bind fun x5 => if x5 ≤ v1 then s_Office_knows_17 g  (v0) (v1) σ else s_Office_knows_18 g  (v0) (v1) (1) σ
set_option maxRecDepth 100000 in
theorem t_Office_knows_18 {l : Launch} {D : zD} {g : zG} (hG : zGok g D) {q : Int32 × zS}   {v0 : Nat} {v1 : Int32} {w0 : Int32} {σ : zS} (h : s_Office_knows_18 g  v0 v1 w0 σ = some q) : Z l D K_Office_knows 0 0 (.returned (some (.int q.1)), q.2) 18 [(0, .ref (v0)), (1, .int (v1))] [.int (w0)] σ := by
  unfold s_Office_knows_18 at h
  by_cases c1 : w0 = 0 ∨ w0 = 1
  rotate_left
  · rw [if_neg c1] at h; cases h
  rw [if_pos c1] at h
  cases h
  exact z_zret rfl (z_nb c1) rfl d_Office_knows_18
set_option maxRecDepth 100000 in
theorem t_Office_knows_17 {l : Launch} {D : zD} {g : zG} (hG : zGok g D) {q : Int32 × zS}   {v0 : Nat} {v1 : Int32} {σ : zS} (h : s_Office_knows_17 g  v0 v1 σ = some q) : Z l D K_Office_knows 0 0 (.returned (some (.int q.1)), q.2) 17 [(0, .ref (v0)), (1, .int (v1))] [] σ := by
  unfold s_Office_knows_17 at h
  refine z_iconst (v := 0) d_Office_knows_17 rfl ?_
  refine z_lv (lv' := [(0, .ref (v0)), (1, .int (v1))]) [0, 1] rfl ?_
  exact t_Office_knows_18 hG   h
set_option maxRecDepth 100000 in
theorem t_Office_knows {l : Launch} {D : zD} {g : zG} (hG : zGok g D) {v0 : Nat} {v1 : Int32} {σ : zS} {q : Int32 × zS} (h : s_Office_knows g v0 v1 σ = some q) : zMet l D Y_Office_knows K_Office_knows 0 0 [.ref (v0), .int (v1)] σ (.returned (some (.int q.1)), q.2) := by
  refine zMet.ofZ (by decide) rfl (fun q => by cases q) (Nat.le_of_ble_eq_true rfl) ?_
  show Z _ _ _ _ _ _ 0 [(0, .ref (v0)), (1, .int (v1))] [] _
  unfold s_Office_knows at h
  refine z_iload_n 1 d_Office_knows_0 rfl rfl ?_
  refine z_if_lt (tgt := 17) d_Office_knows_1 rfl (fun c1 => ?_) (fun c1 => ?_)
  · rw [if_pos c1] at h
    refine z_lv (lv' := [(0, .ref (v0)), (1, .int (v1))]) [0, 1] rfl ?_
    exact t_Office_knows_17 hG   h
  · rw [if_neg c1] at h
    refine z_iload_n 1 d_Office_knows_4 rfl rfl ?_
    refine z_aload_n 0 d_Office_knows_5 rfl rfl ?_
    replace h := Option.bind_eq_some_iff.mp h; obtain ⟨x2, e3, h⟩ := h
    refine z_getR wF_NumberOffice_Office_21_4 d_Office_knows_6 e3 ?_
    replace h := Option.bind_eq_some_iff.mp h; obtain ⟨a4, rfl, h⟩ := h
    replace h := Option.bind_eq_some_iff.mp h; obtain ⟨x5, e6, h⟩ := h
    refine z_alen (t := 3) rfl d_Office_knows_9 e6 ?_
    refine z_icmp_ge (tgt := 17) d_Office_knows_10 rfl (fun c7 => ?_) (fun c7 => ?_)
    · rw [if_pos c7] at h
      refine z_lv (lv' := [(0, .ref (v0)), (1, .int (v1))]) [0, 1] rfl ?_
      exact t_Office_knows_17 hG   h
    · rw [if_neg c7] at h
      refine z_iconst (v := 1) d_Office_knows_13 rfl ?_
      refine z_goto (tgt := 18) d_Office_knows_14 rfl ?_
      refine z_lv (lv' := [(0, .ref (v0)), (1, .int (v1))]) [0, 1] rfl ?_
      exact t_Office_knows_18 hG   h

def s_Office_bookAt_19 (g : zG)  (v0 : Nat) (v1 : Int32) (w0 : Option Nat) (σ : zS) : Option (Option Nat × zS) := some (w0, σ)
def s_Office_bookAt_18 (g : zG)  (v0 : Nat) (v1 : Int32) (σ : zS) : Option (Option Nat × zS) := s_Office_bookAt_19 g  (v0) (v1) (none) σ
def s_Office_bookAt (g : zG) (v0 : Nat) (v1 : Int32) (σ : zS) : Option (Option Nat × zS) := if v1 < 0 then s_Office_bookAt_18 g  (v0) (v1) σ else if 3 ≤ v1 then s_Office_bookAt_18 g  (v0) (v1) σ else (zgR σ v0 4 0).bind fun x3 => (x3).bind fun a5 => (zaR σ a5 8 (v1)).bind fun x6 => s_Office_bookAt_19 g  (v0) (v1) (x6) σ
set_option maxRecDepth 100000 in
theorem t_Office_bookAt_19 {l : Launch} {D : zD} {g : zG} (hG : zGok g D) {q : Option Nat × zS}   {v0 : Nat} {v1 : Int32} {w0 : Option Nat} {σ : zS} (h : s_Office_bookAt_19 g  v0 v1 w0 σ = some q) : Z l D K_Office_bookAt 0 0 (.returned (some (va_rf q.1)), q.2) 19 [(0, .ref (v0)), (1, .int (v1))] [va_rf (w0)] σ := by
  unfold s_Office_bookAt_19 at h
  cases h
  exact z_aret (r := w0) rfl (Or.inl ⟨_, rfl⟩) rfl d_Office_bookAt_19
set_option maxRecDepth 100000 in
theorem t_Office_bookAt_18 {l : Launch} {D : zD} {g : zG} (hG : zGok g D) {q : Option Nat × zS}   {v0 : Nat} {v1 : Int32} {σ : zS} (h : s_Office_bookAt_18 g  v0 v1 σ = some q) : Z l D K_Office_bookAt 0 0 (.returned (some (va_rf q.1)), q.2) 18 [(0, .ref (v0)), (1, .int (v1))] [] σ := by
  unfold s_Office_bookAt_18 at h
  refine z_null d_Office_bookAt_18 ?_
  refine z_lv (lv' := [(0, .ref (v0)), (1, .int (v1))]) [0, 1] rfl ?_
  exact t_Office_bookAt_19 hG   h
set_option maxRecDepth 100000 in
theorem t_Office_bookAt {l : Launch} {D : zD} {g : zG} (hG : zGok g D) {v0 : Nat} {v1 : Int32} {σ : zS} {q : Option Nat × zS} (h : s_Office_bookAt g v0 v1 σ = some q) : zMet l D Y_Office_bookAt K_Office_bookAt 0 0 [.ref (v0), .int (v1)] σ (.returned (some (va_rf q.1)), q.2) := by
  refine zMet.ofZ (by decide) rfl (fun q => by cases q) (Nat.le_of_ble_eq_true rfl) ?_
  show Z _ _ _ _ _ _ 0 [(0, .ref (v0)), (1, .int (v1))] [] _
  unfold s_Office_bookAt at h
  refine z_iload_n 1 d_Office_bookAt_0 rfl rfl ?_
  refine z_if_lt (tgt := 18) d_Office_bookAt_1 rfl (fun c1 => ?_) (fun c1 => ?_)
  · rw [if_pos c1] at h
    refine z_lv (lv' := [(0, .ref (v0)), (1, .int (v1))]) [0, 1] rfl ?_
    exact t_Office_bookAt_18 hG   h
  · rw [if_neg c1] at h
    refine z_iload_n 1 d_Office_bookAt_4 rfl rfl ?_
    refine z_iconst (v := 3) d_Office_bookAt_5 rfl ?_
    refine z_icmp_ge (tgt := 18) d_Office_bookAt_6 rfl (fun c2 => ?_) (fun c2 => ?_)
    · rw [if_pos c2] at h
      refine z_lv (lv' := [(0, .ref (v0)), (1, .int (v1))]) [0, 1] rfl ?_
      exact t_Office_bookAt_18 hG   h
    · rw [if_neg c2] at h
      refine z_aload_n 0 d_Office_bookAt_9 rfl rfl ?_
      replace h := Option.bind_eq_some_iff.mp h; obtain ⟨x3, e4, h⟩ := h
      refine z_getR wF_NumberOffice_Office_11_4 d_Office_bookAt_10 e4 ?_
      refine z_iload_n 1 d_Office_bookAt_13 rfl rfl ?_
      replace h := Option.bind_eq_some_iff.mp h; obtain ⟨a5, rfl, h⟩ := h
      replace h := Option.bind_eq_some_iff.mp h; obtain ⟨x6, e7, h⟩ := h
      refine z_aaload rfl d_Office_bookAt_14 e7 ?_
      refine z_goto (tgt := 19) d_Office_bookAt_15 rfl ?_
      refine z_lv (lv' := [(0, .ref (v0)), (1, .int (v1))]) [0, 1] rfl ?_
      exact t_Office_bookAt_19 hG   h

def s_Mail_init (g : zG) (v0 : Nat) (v1 : Int32) (v2 : Int32) (v3 : Int32) (σ : zS) : Option (zS) := (zpF2 σ v0 9 3 6 2 (.int (v1))).bind fun σ1 => (zpF2 σ1 v0 9 4 6 3 (.int (v2))).bind fun σ3 => (zpF2 σ3 v0 9 5 6 4 (.int (v3))).bind fun σ5 => some σ5
set_option maxRecDepth 100000 in
theorem t_Mail_init {l : Launch} {D : zD} {g : zG} (hG : zGok g D) {v0 : Nat} {v1 : Int32} {v2 : Int32} {v3 : Int32} {σ : zS} {q : zS} (h : s_Mail_init g v0 v1 v2 v3 σ = some q) : zMet l D Y_Mail_init K_Mail_init 1 12 [.ref (v0), .int (v1), .int (v2), .int (v3)] σ (.returned none, q) := by
  refine zMet.ofZ (by decide) rfl (fun q => rfl) (Nat.le_of_ble_eq_true rfl) ?_
  show Z _ _ _ _ _ _ 0 [(0, .ref (v0)), (1, .int (v1)), (2, .int (v2)), (3, .int (v3))] [] _
  unfold s_Mail_init at h
  refine z_aload_n 0 d_Mail_init_0 rfl rfl ?_
  refine z_objInit wO_NumberOffice_Mail_1 wOi wOc (by decide) (by decide) d_Mail_init_1 ?_
  refine z_aload_n 0 d_Mail_init_4 rfl rfl ?_
  refine z_iload_n 1 d_Mail_init_5 rfl rfl ?_
  replace h := Option.bind_eq_some_iff.mp h; obtain ⟨σ1, e2, h⟩ := h
  refine z_put2 wP_NumberOffice_Mail_7_9 wP_NumberOffice_Mail_7_6 (fun _ => rfl) d_Mail_init_6 rfl rfl e2 ?_
  refine z_aload_n 0 d_Mail_init_9 rfl rfl ?_
  refine z_iload_n 2 d_Mail_init_10 rfl rfl ?_
  replace h := Option.bind_eq_some_iff.mp h; obtain ⟨σ3, e4, h⟩ := h
  refine z_put2 wP_NumberOffice_Mail_13_9 wP_NumberOffice_Mail_13_6 (fun _ => rfl) d_Mail_init_11 rfl rfl e4 ?_
  refine z_aload_n 0 d_Mail_init_14 rfl rfl ?_
  refine z_iload_n 3 d_Mail_init_15 rfl rfl ?_
  replace h := Option.bind_eq_some_iff.mp h; obtain ⟨σ5, e6, h⟩ := h
  refine z_put2 wP_NumberOffice_Mail_16_9 wP_NumberOffice_Mail_16_6 (fun _ => rfl) d_Mail_init_16 rfl rfl e6 ?_
  cases h
  exact z_vret rfl rfl d_Mail_init_19

def s_Block_init (g : zG) (v0 : Nat) (v1 : Int32) (v2 : Int32) (σ : zS) : Option (zS) := (zpF σ v0 7 0 (.int (v1))).bind fun σ1 => (zpF σ1 v0 7 1 (.int (v2))).bind fun σ3 => some σ3
set_option maxRecDepth 100000 in
theorem t_Block_init {l : Launch} {D : zD} {g : zG} (hG : zGok g D) {v0 : Nat} {v1 : Int32} {v2 : Int32} {σ : zS} {q : zS} (h : s_Block_init g v0 v1 v2 σ = some q) : zMet l D Y_Block_init K_Block_init 1 12 [.ref (v0), .int (v1), .int (v2)] σ (.returned none, q) := by
  refine zMet.ofZ (by decide) rfl (fun q => rfl) (Nat.le_of_ble_eq_true rfl) ?_
  show Z _ _ _ _ _ _ 0 [(0, .ref (v0)), (1, .int (v1)), (2, .int (v2))] [] _
  unfold s_Block_init at h
  refine z_aload_n 0 d_Block_init_0 rfl rfl ?_
  refine z_objInit wO_NumberOffice_Block_1 wOi wOc (by decide) (by decide) d_Block_init_1 ?_
  refine z_aload_n 0 d_Block_init_4 rfl rfl ?_
  refine z_iload_n 1 d_Block_init_5 rfl rfl ?_
  replace h := Option.bind_eq_some_iff.mp h; obtain ⟨σ1, e2, h⟩ := h
  refine z_put wP_NumberOffice_Block_7_7 (fun _ => rfl) d_Block_init_6 rfl rfl e2 ?_
  refine z_aload_n 0 d_Block_init_9 rfl rfl ?_
  refine z_iload_n 2 d_Block_init_10 rfl rfl ?_
  replace h := Option.bind_eq_some_iff.mp h; obtain ⟨σ3, e4, h⟩ := h
  refine z_put wP_NumberOffice_Block_13_7 (fun _ => rfl) d_Block_init_11 rfl rfl e4 ?_
  cases h
  exact z_vret rfl rfl d_Block_init_14

def s_SeriesBook_isGiven_25 (g : zG)  (v0 : Nat) (v1 : Int32) (w0 : Int32) (σ : zS) : Option (Int32 × zS) := if w0 = 0 ∨ w0 = 1 then some (w0, σ) else none
def s_SeriesBook_isGiven_24 (g : zG)  (v0 : Nat) (v1 : Int32) (σ : zS) : Option (Int32 × zS) := s_SeriesBook_isGiven_25 g  (v0) (v1) (0) σ
def s_SeriesBook_isGiven (g : zG) (v0 : Nat) (v1 : Int32) (σ : zS) : Option (Int32 × zS) := if v1 < 1 then s_SeriesBook_isGiven_24 g  (v0) (v1) σ else (zgI σ v0 5 2).bind fun x2 => if x2 < v1 then s_SeriesBook_isGiven_24 g  (v0) (v1) σ else if 300 < v1 then s_SeriesBook_isGiven_24 g  (v0) (v1) σ else s_SeriesBook_isGiven_25 g  (v0) (v1) (1) σ
set_option maxRecDepth 100000 in
theorem t_SeriesBook_isGiven_25 {l : Launch} {D : zD} {g : zG} (hG : zGok g D) {q : Int32 × zS}   {v0 : Nat} {v1 : Int32} {w0 : Int32} {σ : zS} (h : s_SeriesBook_isGiven_25 g  v0 v1 w0 σ = some q) : Z l D K_SeriesBook_isGiven 0 0 (.returned (some (.int q.1)), q.2) 25 [(0, .ref (v0)), (1, .int (v1))] [.int (w0)] σ := by
  unfold s_SeriesBook_isGiven_25 at h
  by_cases c1 : w0 = 0 ∨ w0 = 1
  rotate_left
  · rw [if_neg c1] at h; cases h
  rw [if_pos c1] at h
  cases h
  exact z_zret rfl (z_nb c1) rfl d_SeriesBook_isGiven_25
set_option maxRecDepth 100000 in
theorem t_SeriesBook_isGiven_24 {l : Launch} {D : zD} {g : zG} (hG : zGok g D) {q : Int32 × zS}   {v0 : Nat} {v1 : Int32} {σ : zS} (h : s_SeriesBook_isGiven_24 g  v0 v1 σ = some q) : Z l D K_SeriesBook_isGiven 0 0 (.returned (some (.int q.1)), q.2) 24 [(0, .ref (v0)), (1, .int (v1))] [] σ := by
  unfold s_SeriesBook_isGiven_24 at h
  refine z_iconst (v := 0) d_SeriesBook_isGiven_24 rfl ?_
  refine z_lv (lv' := [(0, .ref (v0)), (1, .int (v1))]) [0, 1] rfl ?_
  exact t_SeriesBook_isGiven_25 hG   h
set_option maxRecDepth 100000 in
theorem t_SeriesBook_isGiven {l : Launch} {D : zD} {g : zG} (hG : zGok g D) {v0 : Nat} {v1 : Int32} {σ : zS} {q : Int32 × zS} (h : s_SeriesBook_isGiven g v0 v1 σ = some q) : zMet l D Y_SeriesBook_isGiven K_SeriesBook_isGiven 0 0 [.ref (v0), .int (v1)] σ (.returned (some (.int q.1)), q.2) := by
  refine zMet.ofZ (by decide) rfl (fun q => by cases q) (Nat.le_of_ble_eq_true rfl) ?_
  show Z _ _ _ _ _ _ 0 [(0, .ref (v0)), (1, .int (v1))] [] _
  unfold s_SeriesBook_isGiven at h
  refine z_iload_n 1 d_SeriesBook_isGiven_0 rfl rfl ?_
  refine z_iconst (v := 1) d_SeriesBook_isGiven_1 rfl ?_
  refine z_icmp_lt (tgt := 24) d_SeriesBook_isGiven_2 rfl (fun c1 => ?_) (fun c1 => ?_)
  · rw [if_pos c1] at h
    refine z_lv (lv' := [(0, .ref (v0)), (1, .int (v1))]) [0, 1] rfl ?_
    exact t_SeriesBook_isGiven_24 hG   h
  · rw [if_neg c1] at h
    refine z_iload_n 1 d_SeriesBook_isGiven_5 rfl rfl ?_
    refine z_aload_n 0 d_SeriesBook_isGiven_6 rfl rfl ?_
    replace h := Option.bind_eq_some_iff.mp h; obtain ⟨x2, e3, h⟩ := h
    refine z_getI wF_NumberOffice_SeriesBook_38_5 d_SeriesBook_isGiven_7 e3 ?_
    refine z_icmp_gt (tgt := 24) d_SeriesBook_isGiven_10 rfl (fun c4 => ?_) (fun c4 => ?_)
    · rw [if_pos c4] at h
      refine z_lv (lv' := [(0, .ref (v0)), (1, .int (v1))]) [0, 1] rfl ?_
      exact t_SeriesBook_isGiven_24 hG   h
    · rw [if_neg c4] at h
      refine z_iload_n 1 d_SeriesBook_isGiven_13 rfl rfl ?_
      refine z_sipush (v := 300) d_SeriesBook_isGiven_14 rfl ?_
      refine z_icmp_gt (tgt := 24) d_SeriesBook_isGiven_17 rfl (fun c5 => ?_) (fun c5 => ?_)
      · rw [if_pos c5] at h
        refine z_lv (lv' := [(0, .ref (v0)), (1, .int (v1))]) [0, 1] rfl ?_
        exact t_SeriesBook_isGiven_24 hG   h
      · rw [if_neg c5] at h
        refine z_iconst (v := 1) d_SeriesBook_isGiven_20 rfl ?_
        refine z_goto (tgt := 25) d_SeriesBook_isGiven_21 rfl ?_
        refine z_lv (lv' := [(0, .ref (v0)), (1, .int (v1))]) [0, 1] rfl ?_
        exact t_SeriesBook_isGiven_25 hG   h

def s_Branch_bookAt_19 (g : zG)  (v0 : Nat) (v1 : Int32) (w0 : Option Nat) (σ : zS) : Option (Option Nat × zS) := some (w0, σ)
def s_Branch_bookAt_18 (g : zG)  (v0 : Nat) (v1 : Int32) (σ : zS) : Option (Option Nat × zS) := s_Branch_bookAt_19 g  (v0) (v1) (none) σ
def s_Branch_bookAt (g : zG) (v0 : Nat) (v1 : Int32) (σ : zS) : Option (Option Nat × zS) := if v1 < 0 then s_Branch_bookAt_18 g  (v0) (v1) σ else if 3 ≤ v1 then s_Branch_bookAt_18 g  (v0) (v1) σ else (zgR σ v0 1 1).bind fun x3 => (x3).bind fun a5 => (zaR σ a5 7 (v1)).bind fun x6 => s_Branch_bookAt_19 g  (v0) (v1) (x6) σ
set_option maxRecDepth 100000 in
theorem t_Branch_bookAt_19 {l : Launch} {D : zD} {g : zG} (hG : zGok g D) {q : Option Nat × zS}   {v0 : Nat} {v1 : Int32} {w0 : Option Nat} {σ : zS} (h : s_Branch_bookAt_19 g  v0 v1 w0 σ = some q) : Z l D K_Branch_bookAt 0 0 (.returned (some (va_rf q.1)), q.2) 19 [(0, .ref (v0)), (1, .int (v1))] [va_rf (w0)] σ := by
  unfold s_Branch_bookAt_19 at h
  cases h
  exact z_aret (r := w0) rfl (Or.inl ⟨_, rfl⟩) rfl d_Branch_bookAt_19
set_option maxRecDepth 100000 in
theorem t_Branch_bookAt_18 {l : Launch} {D : zD} {g : zG} (hG : zGok g D) {q : Option Nat × zS}   {v0 : Nat} {v1 : Int32} {σ : zS} (h : s_Branch_bookAt_18 g  v0 v1 σ = some q) : Z l D K_Branch_bookAt 0 0 (.returned (some (va_rf q.1)), q.2) 18 [(0, .ref (v0)), (1, .int (v1))] [] σ := by
  unfold s_Branch_bookAt_18 at h
  refine z_null d_Branch_bookAt_18 ?_
  refine z_lv (lv' := [(0, .ref (v0)), (1, .int (v1))]) [0, 1] rfl ?_
  exact t_Branch_bookAt_19 hG   h
set_option maxRecDepth 100000 in
theorem t_Branch_bookAt {l : Launch} {D : zD} {g : zG} (hG : zGok g D) {v0 : Nat} {v1 : Int32} {σ : zS} {q : Option Nat × zS} (h : s_Branch_bookAt g v0 v1 σ = some q) : zMet l D Y_Branch_bookAt K_Branch_bookAt 0 0 [.ref (v0), .int (v1)] σ (.returned (some (va_rf q.1)), q.2) := by
  refine zMet.ofZ (by decide) rfl (fun q => by cases q) (Nat.le_of_ble_eq_true rfl) ?_
  show Z _ _ _ _ _ _ 0 [(0, .ref (v0)), (1, .int (v1))] [] _
  unfold s_Branch_bookAt at h
  refine z_iload_n 1 d_Branch_bookAt_0 rfl rfl ?_
  refine z_if_lt (tgt := 18) d_Branch_bookAt_1 rfl (fun c1 => ?_) (fun c1 => ?_)
  · rw [if_pos c1] at h
    refine z_lv (lv' := [(0, .ref (v0)), (1, .int (v1))]) [0, 1] rfl ?_
    exact t_Branch_bookAt_18 hG   h
  · rw [if_neg c1] at h
    refine z_iload_n 1 d_Branch_bookAt_4 rfl rfl ?_
    refine z_iconst (v := 3) d_Branch_bookAt_5 rfl ?_
    refine z_icmp_ge (tgt := 18) d_Branch_bookAt_6 rfl (fun c2 => ?_) (fun c2 => ?_)
    · rw [if_pos c2] at h
      refine z_lv (lv' := [(0, .ref (v0)), (1, .int (v1))]) [0, 1] rfl ?_
      exact t_Branch_bookAt_18 hG   h
    · rw [if_neg c2] at h
      refine z_aload_n 0 d_Branch_bookAt_9 rfl rfl ?_
      replace h := Option.bind_eq_some_iff.mp h; obtain ⟨x3, e4, h⟩ := h
      refine z_getR wF_NumberOffice_Branch_11_1 d_Branch_bookAt_10 e4 ?_
      refine z_iload_n 1 d_Branch_bookAt_13 rfl rfl ?_
      replace h := Option.bind_eq_some_iff.mp h; obtain ⟨a5, rfl, h⟩ := h
      replace h := Option.bind_eq_some_iff.mp h; obtain ⟨x6, e7, h⟩ := h
      refine z_aaload rfl d_Branch_bookAt_14 e7 ?_
      refine z_goto (tgt := 19) d_Branch_bookAt_15 rfl ?_
      refine z_lv (lv' := [(0, .ref (v0)), (1, .int (v1))]) [0, 1] rfl ?_
      exact t_Branch_bookAt_19 hG   h

def s_Block_holds_26 (g : zG)  (v0 : Nat) (v1 : Int32) (w0 : Int32) (σ : zS) : Option (Int32 × zS) := if w0 = 0 ∨ w0 = 1 then some (w0, σ) else none
def s_Block_holds_25 (g : zG)  (v0 : Nat) (v1 : Int32) (σ : zS) : Option (Int32 × zS) := s_Block_holds_26 g  (v0) (v1) (0) σ
def s_Block_holds (g : zG) (v0 : Nat) (v1 : Int32) (σ : zS) : Option (Int32 × zS) := (zgI σ v0 7 0).bind fun x1 => if v1 < x1 then s_Block_holds_25 g  (v0) (v1) σ else (zgI σ v0 7 0).bind fun x4 => (zgI σ v0 7 1).bind fun x6 => if (x4 + x6) ≤ v1 then s_Block_holds_25 g  (v0) (v1) σ else s_Block_holds_26 g  (v0) (v1) (1) σ
set_option maxRecDepth 100000 in
theorem t_Block_holds_26 {l : Launch} {D : zD} {g : zG} (hG : zGok g D) {q : Int32 × zS}   {v0 : Nat} {v1 : Int32} {w0 : Int32} {σ : zS} (h : s_Block_holds_26 g  v0 v1 w0 σ = some q) : Z l D K_Block_holds 0 0 (.returned (some (.int q.1)), q.2) 26 [(0, .ref (v0)), (1, .int (v1))] [.int (w0)] σ := by
  unfold s_Block_holds_26 at h
  by_cases c1 : w0 = 0 ∨ w0 = 1
  rotate_left
  · rw [if_neg c1] at h; cases h
  rw [if_pos c1] at h
  cases h
  exact z_zret rfl (z_nb c1) rfl d_Block_holds_26
set_option maxRecDepth 100000 in
theorem t_Block_holds_25 {l : Launch} {D : zD} {g : zG} (hG : zGok g D) {q : Int32 × zS}   {v0 : Nat} {v1 : Int32} {σ : zS} (h : s_Block_holds_25 g  v0 v1 σ = some q) : Z l D K_Block_holds 0 0 (.returned (some (.int q.1)), q.2) 25 [(0, .ref (v0)), (1, .int (v1))] [] σ := by
  unfold s_Block_holds_25 at h
  refine z_iconst (v := 0) d_Block_holds_25 rfl ?_
  refine z_lv (lv' := [(0, .ref (v0)), (1, .int (v1))]) [0, 1] rfl ?_
  exact t_Block_holds_26 hG   h
set_option maxRecDepth 100000 in
theorem t_Block_holds {l : Launch} {D : zD} {g : zG} (hG : zGok g D) {v0 : Nat} {v1 : Int32} {σ : zS} {q : Int32 × zS} (h : s_Block_holds g v0 v1 σ = some q) : zMet l D Y_Block_holds K_Block_holds 0 0 [.ref (v0), .int (v1)] σ (.returned (some (.int q.1)), q.2) := by
  refine zMet.ofZ (by decide) rfl (fun q => by cases q) (Nat.le_of_ble_eq_true rfl) ?_
  show Z _ _ _ _ _ _ 0 [(0, .ref (v0)), (1, .int (v1))] [] _
  unfold s_Block_holds at h
  refine z_iload_n 1 d_Block_holds_0 rfl rfl ?_
  refine z_aload_n 0 d_Block_holds_1 rfl rfl ?_
  replace h := Option.bind_eq_some_iff.mp h; obtain ⟨x1, e2, h⟩ := h
  refine z_getI wF_NumberOffice_Block_7_7 d_Block_holds_2 e2 ?_
  refine z_icmp_lt (tgt := 25) d_Block_holds_5 rfl (fun c3 => ?_) (fun c3 => ?_)
  · rw [if_pos c3] at h
    refine z_lv (lv' := [(0, .ref (v0)), (1, .int (v1))]) [0, 1] rfl ?_
    exact t_Block_holds_25 hG   h
  · rw [if_neg c3] at h
    refine z_iload_n 1 d_Block_holds_8 rfl rfl ?_
    refine z_aload_n 0 d_Block_holds_9 rfl rfl ?_
    replace h := Option.bind_eq_some_iff.mp h; obtain ⟨x4, e5, h⟩ := h
    refine z_getI wF_NumberOffice_Block_7_7 d_Block_holds_10 e5 ?_
    refine z_aload_n 0 d_Block_holds_13 rfl rfl ?_
    replace h := Option.bind_eq_some_iff.mp h; obtain ⟨x6, e7, h⟩ := h
    refine z_getI wF_NumberOffice_Block_13_7 d_Block_holds_14 e7 ?_
    refine z_iadd d_Block_holds_17 ?_
    refine z_icmp_ge (tgt := 25) d_Block_holds_18 rfl (fun c8 => ?_) (fun c8 => ?_)
    · rw [if_pos c8] at h
      refine z_lv (lv' := [(0, .ref (v0)), (1, .int (v1))]) [0, 1] rfl ?_
      exact t_Block_holds_25 hG   h
    · rw [if_neg c8] at h
      refine z_iconst (v := 1) d_Block_holds_21 rfl ?_
      refine z_goto (tgt := 26) d_Block_holds_22 rfl ?_
      refine z_lv (lv' := [(0, .ref (v0)), (1, .int (v1))]) [0, 1] rfl ?_
      exact t_Block_holds_26 hG   h

def s_Branch_latestNumber_18 (g : zG)  (v0 : Nat) (w0 : Int32) (σ : zS) : Option (Int32 × zS) := some (w0, σ)
def s_Branch_latestNumber (g : zG) (v0 : Nat) (σ : zS) : Option (Int32 × zS) := (zgR σ v0 1 2).bind fun x1 => match x1 with | none => s_Branch_latestNumber_18 g  (v0) (0) σ | some a4 => (zgR σ v0 1 2).bind fun x5 => (x5).bind fun a7 => (zgI σ a7 9 5).bind fun x8 => s_Branch_latestNumber_18 g  (v0) (x8) σ
set_option maxRecDepth 100000 in
theorem t_Branch_latestNumber_18 {l : Launch} {D : zD} {g : zG} (hG : zGok g D) {q : Int32 × zS}   {v0 : Nat} {w0 : Int32} {σ : zS} (h : s_Branch_latestNumber_18 g  v0 w0 σ = some q) : Z l D K_Branch_latestNumber 0 0 (.returned (some (.int q.1)), q.2) 18 [(0, .ref (v0))] [.int (w0)] σ := by
  unfold s_Branch_latestNumber_18 at h
  cases h
  exact z_iret rfl rfl d_Branch_latestNumber_18
set_option maxRecDepth 100000 in
theorem t_Branch_latestNumber {l : Launch} {D : zD} {g : zG} (hG : zGok g D) {v0 : Nat} {σ : zS} {q : Int32 × zS} (h : s_Branch_latestNumber g v0 σ = some q) : zMet l D Y_Branch_latestNumber K_Branch_latestNumber 0 0 [.ref (v0)] σ (.returned (some (.int q.1)), q.2) := by
  refine zMet.ofZ (by decide) rfl (fun q => by cases q) (Nat.le_of_ble_eq_true rfl) ?_
  show Z _ _ _ _ _ _ 0 [(0, .ref (v0))] [] _
  unfold s_Branch_latestNumber at h
  refine z_aload_n 0 d_Branch_latestNumber_0 rfl rfl ?_
  replace h := Option.bind_eq_some_iff.mp h; obtain ⟨x1, e2, h⟩ := h
  refine z_getR wF_NumberOffice_Branch_25_1 d_Branch_latestNumber_1 e2 ?_
  refine z_ifnonnull (tgt := 11) d_Branch_latestNumber_4 rfl (fun a4 c3 => ?_) (fun c3 => ?_)
  · subst c3
    dsimp only at h
    refine z_aload_n 0 d_Branch_latestNumber_11 rfl rfl ?_
    replace h := Option.bind_eq_some_iff.mp h; obtain ⟨x5, e6, h⟩ := h
    refine z_getR wF_NumberOffice_Branch_25_1 d_Branch_latestNumber_12 e6 ?_
    replace h := Option.bind_eq_some_iff.mp h; obtain ⟨a7, rfl, h⟩ := h
    replace h := Option.bind_eq_some_iff.mp h; obtain ⟨x8, e9, h⟩ := h
    refine z_getI wF_NumberOffice_Branch_48_9 d_Branch_latestNumber_15 e9 ?_
    refine z_lv (lv' := [(0, .ref (v0))]) [0] rfl ?_
    exact t_Branch_latestNumber_18 hG   h
  · subst c3
    dsimp only at h
    refine z_iconst (v := 0) d_Branch_latestNumber_7 rfl ?_
    refine z_goto (tgt := 18) d_Branch_latestNumber_8 rfl ?_
    refine z_lv (lv' := [(0, .ref (v0))]) [0] rfl ?_
    exact t_Branch_latestNumber_18 hG   h

def s_BranchSeries_unreported (g : zG) (v0 : Nat) (σ : zS) : Option (Int32 × zS) := (zgR σ v0 2 1).bind fun x1 => (x1).bind fun a3 => (zis σ a3 3).bind fun _ => (s_ArrayList_size g a3  σ).bind fun (x6, σ4) => (zgI σ4 v0 2 4).bind fun x7 => some (x6 - x7, σ4)
set_option maxRecDepth 100000 in
theorem t_BranchSeries_unreported {l : Launch} {D : zD} {g : zG} (hG : zGok g D) {v0 : Nat} {σ : zS} {q : Int32 × zS} (h : s_BranchSeries_unreported g v0 σ = some q) : zMet l D Y_BranchSeries_unreported K_BranchSeries_unreported 1 20 [.ref (v0)] σ (.returned (some (.int q.1)), q.2) := by
  refine zMet.ofZ (by decide) rfl (fun q => by cases q) (Nat.le_of_ble_eq_true rfl) ?_
  show Z _ _ _ _ _ _ 0 [(0, .ref (v0))] [] _
  unfold s_BranchSeries_unreported at h
  refine z_aload_n 0 d_BranchSeries_unreported_0 rfl rfl ?_
  replace h := Option.bind_eq_some_iff.mp h; obtain ⟨x1, e2, h⟩ := h
  refine z_getR wF_NumberOffice_BranchSeries_18_2 d_BranchSeries_unreported_1 e2 ?_
  replace h := Option.bind_eq_some_iff.mp h; obtain ⟨a3, rfl, h⟩ := h
  replace h := Option.bind_eq_some_iff.mp h; obtain ⟨_, e9, h⟩ := h
  obtain ⟨b10, f11, e9⟩ := zcls_at (zis_at e9)
  replace h := Option.bind_eq_some_iff.mp h; obtain ⟨⟨x6, σ4⟩, e5, h⟩ := h
  dsimp only at h
  refine z_callV (av := []) (st := []) wV_NumberOffice_BranchSeries_21 e9 (t_ArrayList_size hG e5) (by decide) (by decide) d_BranchSeries_unreported_4 (by simp [z_rfc, z_ci, z_cl, z_cr, z_cn]) ?_
  show Z _ _ _ _ _ _ 7 [(0, .ref (v0))] [.int (x6)] _
  refine z_aload_n 0 d_BranchSeries_unreported_7 rfl rfl ?_
  replace h := Option.bind_eq_some_iff.mp h; obtain ⟨x7, e8, h⟩ := h
  refine z_getI wF_NumberOffice_BranchSeries_44_2 d_BranchSeries_unreported_8 e8 ?_
  refine z_isub d_BranchSeries_unreported_11 ?_
  cases h
  exact z_iret rfl rfl d_BranchSeries_unreported_12

def s_SeriesBook_openFor (g : zG) (v0 : Nat) (v1 : Int32) (σ : zS) : Option (Int32 × zS) := (zgI σ v0 5 0).bind fun x1 => if x1 = 0 then (zpF σ v0 5 0 (.int (1))).bind fun σ4 => (zpF σ4 v0 5 1 (.int (v1))).bind fun σ6 => some (1, σ6) else some (0, σ)
set_option maxRecDepth 100000 in
theorem t_SeriesBook_openFor {l : Launch} {D : zD} {g : zG} (hG : zGok g D) {v0 : Nat} {v1 : Int32} {σ : zS} {q : Int32 × zS} (h : s_SeriesBook_openFor g v0 v1 σ = some q) : zMet l D Y_SeriesBook_openFor K_SeriesBook_openFor 0 0 [.ref (v0), .int (v1)] σ (.returned (some (.int q.1)), q.2) := by
  refine zMet.ofZ (by decide) rfl (fun q => by cases q) (Nat.le_of_ble_eq_true rfl) ?_
  show Z _ _ _ _ _ _ 0 [(0, .ref (v0)), (1, .int (v1))] [] _
  unfold s_SeriesBook_openFor at h
  refine z_aload_n 0 d_SeriesBook_openFor_0 rfl rfl ?_
  replace h := Option.bind_eq_some_iff.mp h; obtain ⟨x1, e2, h⟩ := h
  refine z_getI wF_NumberOffice_SeriesBook_11_5 d_SeriesBook_openFor_1 e2 ?_
  refine z_if_eq (tgt := 9) d_SeriesBook_openFor_4 rfl (fun c3 => ?_) (fun c3 => ?_)
  · rw [if_pos c3] at h
    refine z_aload_n 0 d_SeriesBook_openFor_9 rfl rfl ?_
    refine z_iconst (v := 1) d_SeriesBook_openFor_10 rfl ?_
    replace h := Option.bind_eq_some_iff.mp h; obtain ⟨σ4, e5, h⟩ := h
    refine z_put wP_NumberOffice_SeriesBook_11_5 (fun q => by cases q) d_SeriesBook_openFor_11 rfl rfl e5 ?_
    refine z_aload_n 0 d_SeriesBook_openFor_14 rfl rfl ?_
    refine z_iload_n 1 d_SeriesBook_openFor_15 rfl rfl ?_
    replace h := Option.bind_eq_some_iff.mp h; obtain ⟨σ6, e7, h⟩ := h
    refine z_put wP_NumberOffice_SeriesBook_35_5 (fun q => by cases q) d_SeriesBook_openFor_16 rfl rfl e7 ?_
    refine z_iconst (v := 1) d_SeriesBook_openFor_19 rfl ?_
    cases h
    exact z_zret rfl rfl rfl d_SeriesBook_openFor_20
  · rw [if_neg c3] at h
    refine z_iconst (v := 0) d_SeriesBook_openFor_7 rfl ?_
    cases h
    exact z_zret rfl rfl rfl d_SeriesBook_openFor_8

def s_Branch_mayWrite_19 (g : zG)  (v0 : Nat) (w0 : Int32) (σ : zS) : Option (Int32 × zS) := if w0 = 0 ∨ w0 = 1 then some (w0, σ) else none
def s_Branch_mayWrite_18 (g : zG)  (v0 : Nat) (σ : zS) : Option (Int32 × zS) := s_Branch_mayWrite_19 g  (v0) (0) σ
def s_Branch_mayWrite (g : zG) (v0 : Nat) (σ : zS) : Option (Int32 × zS) := (zgI σ v0 1 3).bind fun x1 => if x1 = 0 then (zgI σ v0 1 4).bind fun x4 => if x4 = 0 then s_Branch_mayWrite_19 g  (v0) (1) σ else s_Branch_mayWrite_18 g  (v0) σ else s_Branch_mayWrite_18 g  (v0) σ
set_option maxRecDepth 100000 in
theorem t_Branch_mayWrite_19 {l : Launch} {D : zD} {g : zG} (hG : zGok g D) {q : Int32 × zS}   {v0 : Nat} {w0 : Int32} {σ : zS} (h : s_Branch_mayWrite_19 g  v0 w0 σ = some q) : Z l D K_Branch_mayWrite 0 0 (.returned (some (.int q.1)), q.2) 19 [(0, .ref (v0))] [.int (w0)] σ := by
  unfold s_Branch_mayWrite_19 at h
  by_cases c1 : w0 = 0 ∨ w0 = 1
  rotate_left
  · rw [if_neg c1] at h; cases h
  rw [if_pos c1] at h
  cases h
  exact z_zret rfl (z_nb c1) rfl d_Branch_mayWrite_19
set_option maxRecDepth 100000 in
theorem t_Branch_mayWrite_18 {l : Launch} {D : zD} {g : zG} (hG : zGok g D) {q : Int32 × zS}   {v0 : Nat} {σ : zS} (h : s_Branch_mayWrite_18 g  v0 σ = some q) : Z l D K_Branch_mayWrite 0 0 (.returned (some (.int q.1)), q.2) 18 [(0, .ref (v0))] [] σ := by
  unfold s_Branch_mayWrite_18 at h
  refine z_iconst (v := 0) d_Branch_mayWrite_18 rfl ?_
  refine z_lv (lv' := [(0, .ref (v0))]) [0] rfl ?_
  exact t_Branch_mayWrite_19 hG   h
set_option maxRecDepth 100000 in
theorem t_Branch_mayWrite {l : Launch} {D : zD} {g : zG} (hG : zGok g D) {v0 : Nat} {σ : zS} {q : Int32 × zS} (h : s_Branch_mayWrite g v0 σ = some q) : zMet l D Y_Branch_mayWrite K_Branch_mayWrite 0 0 [.ref (v0)] σ (.returned (some (.int q.1)), q.2) := by
  refine zMet.ofZ (by decide) rfl (fun q => by cases q) (Nat.le_of_ble_eq_true rfl) ?_
  show Z _ _ _ _ _ _ 0 [(0, .ref (v0))] [] _
  unfold s_Branch_mayWrite at h
  refine z_aload_n 0 d_Branch_mayWrite_0 rfl rfl ?_
  replace h := Option.bind_eq_some_iff.mp h; obtain ⟨x1, e2, h⟩ := h
  refine z_getI wF_NumberOffice_Branch_32_1 d_Branch_mayWrite_1 e2 ?_
  refine z_if_ne (tgt := 18) d_Branch_mayWrite_4 rfl (fun c3 => ?_) (fun c3 => ?_)
  · rw [if_neg c3] at h
    refine z_lv (lv' := [(0, .ref (v0))]) [0] rfl ?_
    exact t_Branch_mayWrite_18 hG   h
  · rw [if_pos c3] at h
    refine z_aload_n 0 d_Branch_mayWrite_7 rfl rfl ?_
    replace h := Option.bind_eq_some_iff.mp h; obtain ⟨x4, e5, h⟩ := h
    refine z_getI wF_NumberOffice_Branch_39_1 d_Branch_mayWrite_8 e5 ?_
    refine z_if_ne (tgt := 18) d_Branch_mayWrite_11 rfl (fun c6 => ?_) (fun c6 => ?_)
    · rw [if_neg c6] at h
      refine z_lv (lv' := [(0, .ref (v0))]) [0] rfl ?_
      exact t_Branch_mayWrite_18 hG   h
    · rw [if_pos c6] at h
      refine z_iconst (v := 1) d_Branch_mayWrite_14 rfl ?_
      refine z_goto (tgt := 19) d_Branch_mayWrite_15 rfl ?_
      refine z_lv (lv' := [(0, .ref (v0))]) [0] rfl ?_
      exact t_Branch_mayWrite_19 hG   h

def s_BranchSeries_openBlocks (g : zG) (v0 : Nat) (σ : zS) : Option (Int32 × zS) := (zgR σ v0 2 0).bind fun x1 => (x1).bind fun a3 => (zis σ a3 3).bind fun _ => (s_ArrayList_size g a3  σ).bind fun (x6, σ4) => (zgI σ4 v0 2 2).bind fun x7 => some (x6 - x7, σ4)
set_option maxRecDepth 100000 in
theorem t_BranchSeries_openBlocks {l : Launch} {D : zD} {g : zG} (hG : zGok g D) {v0 : Nat} {σ : zS} {q : Int32 × zS} (h : s_BranchSeries_openBlocks g v0 σ = some q) : zMet l D Y_BranchSeries_openBlocks K_BranchSeries_openBlocks 1 20 [.ref (v0)] σ (.returned (some (.int q.1)), q.2) := by
  refine zMet.ofZ (by decide) rfl (fun q => by cases q) (Nat.le_of_ble_eq_true rfl) ?_
  show Z _ _ _ _ _ _ 0 [(0, .ref (v0))] [] _
  unfold s_BranchSeries_openBlocks at h
  refine z_aload_n 0 d_BranchSeries_openBlocks_0 rfl rfl ?_
  replace h := Option.bind_eq_some_iff.mp h; obtain ⟨x1, e2, h⟩ := h
  refine z_getR wF_NumberOffice_BranchSeries_12_2 d_BranchSeries_openBlocks_1 e2 ?_
  replace h := Option.bind_eq_some_iff.mp h; obtain ⟨a3, rfl, h⟩ := h
  replace h := Option.bind_eq_some_iff.mp h; obtain ⟨_, e9, h⟩ := h
  obtain ⟨b10, f11, e9⟩ := zcls_at (zis_at e9)
  replace h := Option.bind_eq_some_iff.mp h; obtain ⟨⟨x6, σ4⟩, e5, h⟩ := h
  dsimp only at h
  refine z_callV (av := []) (st := []) wV_NumberOffice_BranchSeries_21 e9 (t_ArrayList_size hG e5) (by decide) (by decide) d_BranchSeries_openBlocks_4 (by simp [z_rfc, z_ci, z_cl, z_cr, z_cn]) ?_
  show Z _ _ _ _ _ _ 7 [(0, .ref (v0))] [.int (x6)] _
  refine z_aload_n 0 d_BranchSeries_openBlocks_7 rfl rfl ?_
  replace h := Option.bind_eq_some_iff.mp h; obtain ⟨x7, e8, h⟩ := h
  refine z_getI wF_NumberOffice_BranchSeries_32_2 d_BranchSeries_openBlocks_8 e8 ?_
  refine z_isub d_BranchSeries_openBlocks_11 ?_
  cases h
  exact z_iret rfl rfl d_BranchSeries_openBlocks_12

def s_Letter_init (g : zG) (v0 : Nat) (v1 : Option Nat) (v2 : Int32) (v3 : Int32) (v4 : Int32) (v5 : Option Nat) (σ : zS) : Option (zS) := (v1).bind fun a1 => (zgI σ a1 1 0).bind fun x2 => (zis σ a1 1).bind fun _ => (s_Branch_latestNumber g a1  σ).bind fun (x6, σ4) => (s_Mail_init g v0 v2 x2 (x6 + 1) σ4).bind fun σ7 => (zpF σ7 v0 9 0 (.int (v3))).bind fun σ10 => (zpF σ10 v0 9 1 (.int (v4))).bind fun σ12 => (zpF σ12 v0 9 2 (va_rf (v5))).bind fun σ14 => some σ14
set_option maxRecDepth 100000 in
theorem t_Letter_init {l : Launch} {D : zD} {g : zG} (hG : zGok g D) {v0 : Nat} {v1 : Option Nat} {v2 : Int32} {v3 : Int32} {v4 : Int32} {v5 : Option Nat} {σ : zS} {q : zS} (h : s_Letter_init g v0 v1 v2 v3 v4 v5 σ = some q) : zMet l D Y_Letter_init K_Letter_init 2 35 [.ref (v0), va_rf (v1), .int (v2), .int (v3), .int (v4), va_rf (v5)] σ (.returned none, q) := by
  refine zMet.ofZ (by decide) rfl (fun q => rfl) (by simp [lg_sl, z_rfc, z_ci, z_cl, z_cr, z_cn]) ?_
  rw [show lv_args 0 ([.ref (v0), va_rf (v1), .int (v2), .int (v3), .int (v4), va_rf (v5)] : List Value) = [(0, .ref (v0)), (1, va_rf (v1)), (2, .int (v2)), (3, .int (v3)), (4, .int (v4)), (5, va_rf (v5))] from by simp [lv_args, z_rfc, z_ci, z_cl, z_cr, z_cn]]
  unfold s_Letter_init at h
  refine z_aload_n 0 d_Letter_init_0 rfl rfl ?_
  refine z_iload_n 2 d_Letter_init_1 rfl rfl ?_
  refine z_aload_nR 1 d_Letter_init_2 rfl rfl ?_
  replace h := Option.bind_eq_some_iff.mp h; obtain ⟨a1, rfl, h⟩ := h
  replace h := Option.bind_eq_some_iff.mp h; obtain ⟨x2, e3, h⟩ := h
  refine z_getI wF_NumberOffice_Letter_1_1 d_Letter_init_3 e3 ?_
  refine z_aload_n 1 d_Letter_init_6 rfl rfl ?_
  replace h := Option.bind_eq_some_iff.mp h; obtain ⟨_, e16, h⟩ := h
  obtain ⟨b17, f18, e16⟩ := zcls_at (zis_at e16)
  replace h := Option.bind_eq_some_iff.mp h; obtain ⟨⟨x6, σ4⟩, e5, h⟩ := h
  dsimp only at h
  refine z_callV (av := []) (st := [.int (x2), .int (v2), .ref (v0)]) wV_NumberOffice_Letter_7 e16 (t_Branch_latestNumber hG e5) (by decide) (by decide) d_Letter_init_7 (by simp [z_rfc, z_ci, z_cl, z_cr, z_cn]) ?_
  show Z _ _ _ _ _ _ 10 [(0, .ref (v0)), (1, .ref (a1)), (2, .int (v2)), (3, .int (v3)), (4, .int (v4)), (5, va_rf (v5))] [.int (x6), .int (x2), .int (v2), .ref (v0)] _
  refine z_iconst (v := 1) d_Letter_init_10 rfl ?_
  refine z_iadd d_Letter_init_11 ?_
  replace h := Option.bind_eq_some_iff.mp h; obtain ⟨σ7, e8, h⟩ := h
  refine z_callI (av := [.int (v2), .int (x2), .int (x6 + 1)]) (st := []) wI_NumberOffice_Letter_11 (t_Mail_init hG e8) (by decide) (by decide) d_Letter_init_12 (by simp [z_rfc, z_ci, z_cl, z_cr, z_cn]) ?_
  show Z _ _ _ _ _ _ 15 [(0, .ref (v0)), (1, .ref (a1)), (2, .int (v2)), (3, .int (v3)), (4, .int (v4)), (5, va_rf (v5))] [] _
  refine z_aload_n 0 d_Letter_init_15 rfl rfl ?_
  refine z_iload_n 3 d_Letter_init_16 rfl rfl ?_
  replace h := Option.bind_eq_some_iff.mp h; obtain ⟨σ10, e11, h⟩ := h
  refine z_put wP_NumberOffice_Letter_17_9 (fun _ => rfl) d_Letter_init_17 rfl rfl e11 ?_
  refine z_aload_n 0 d_Letter_init_20 rfl rfl ?_
  refine z_iload 4 d_Letter_init_21 rfl ?_
  replace h := Option.bind_eq_some_iff.mp h; obtain ⟨σ12, e13, h⟩ := h
  refine z_put wP_NumberOffice_Letter_22_9 (fun _ => rfl) d_Letter_init_23 rfl rfl e13 ?_
  refine z_aload_n 0 d_Letter_init_26 rfl rfl ?_
  refine z_aloadR 5 d_Letter_init_27 rfl ?_
  replace h := Option.bind_eq_some_iff.mp h; obtain ⟨σ14, e15, h⟩ := h
  refine z_put wP_NumberOffice_Letter_25_9 (fun _ => rfl) d_Letter_init_29 (z_nra _ _) (z_fra _ _) e15 ?_
  cases h
  exact z_vret rfl rfl d_Letter_init_32

def s_Event_init (g : zG) (v0 : Nat) (v1 : Int32) (v2 : Int32) (v3 : Int64) (v5 : Int32) (σ : zS) : Option (zS) := (zpF σ v0 10 0 (.int (v1))).bind fun σ1 => if v2 = 0 ∨ v2 = 1 then (zpF σ1 v0 10 1 (.int (v2))).bind fun σ3 => (zpF σ3 v0 10 2 (.long (v3))).bind fun σ5 => (zpF σ5 v0 10 3 (.int (v5))).bind fun σ7 => some σ7 else none
set_option maxRecDepth 100000 in
theorem t_Event_init {l : Launch} {D : zD} {g : zG} (hG : zGok g D) {v0 : Nat} {v1 : Int32} {v2 : Int32} {v3 : Int64} {v5 : Int32} {σ : zS} {q : zS} (h : s_Event_init g v0 v1 v2 v3 v5 σ = some q) : zMet l D Y_Event_init K_Event_init 1 12 [.ref (v0), .int (v1), .int (v2), .long (v3), .int (v5)] σ (.returned none, q) := by
  refine zMet.ofZ (by decide) rfl (fun q => rfl) (Nat.le_of_ble_eq_true rfl) ?_
  show Z _ _ _ _ _ _ 0 [(0, .ref (v0)), (1, .int (v1)), (2, .int (v2)), (3, .long (v3)), (5, .int (v5))] [] _
  unfold s_Event_init at h
  refine z_aload_n 0 d_Event_init_0 rfl rfl ?_
  refine z_objInit wO_NumberOffice_Event_1 wOi wOc (by decide) (by decide) d_Event_init_1 ?_
  refine z_aload_n 0 d_Event_init_4 rfl rfl ?_
  refine z_iload_n 1 d_Event_init_5 rfl rfl ?_
  replace h := Option.bind_eq_some_iff.mp h; obtain ⟨σ1, e2, h⟩ := h
  refine z_put wP_NumberOffice_Event_7_10 (fun _ => rfl) d_Event_init_6 rfl rfl e2 ?_
  refine z_aload_n 0 d_Event_init_9 rfl rfl ?_
  refine z_iload_n 2 d_Event_init_10 rfl rfl ?_
  by_cases c9 : v2 = 0 ∨ v2 = 1
  rotate_left
  · rw [if_neg c9] at h; cases h
  rw [if_pos c9] at h
  replace h := Option.bind_eq_some_iff.mp h; obtain ⟨σ3, e4, h⟩ := h
  refine z_put wP_NumberOffice_Event_13_10 (fun _ => rfl) d_Event_init_11 (z_nb c9) (z_fb c9) e4 ?_
  refine z_aload_n 0 d_Event_init_14 rfl rfl ?_
  refine z_lload_n 3 d_Event_init_15 rfl rfl ?_
  replace h := Option.bind_eq_some_iff.mp h; obtain ⟨σ5, e6, h⟩ := h
  refine z_put wP_NumberOffice_Event_17_10 (fun _ => rfl) d_Event_init_16 rfl rfl e6 ?_
  refine z_aload_n 0 d_Event_init_19 rfl rfl ?_
  refine z_iload 4 d_Event_init_20 rfl ?_
  replace h := Option.bind_eq_some_iff.mp h; obtain ⟨σ7, e8, h⟩ := h
  refine z_put wP_NumberOffice_Event_21_10 (fun _ => rfl) d_Event_init_22 rfl rfl e8 ?_
  cases h
  exact z_vret rfl rfl d_Event_init_25

def s_No_isReason_16 (g : zG)  (v0 : Int32) (w0 : Int32) (σ : zS) : Option (Int32 × zS) := if w0 = 0 ∨ w0 = 1 then some (w0, σ) else none
def s_No_isReason_15 (g : zG)  (v0 : Int32) (σ : zS) : Option (Int32 × zS) := s_No_isReason_16 g  (v0) (0) σ
def s_No_isReason (g : zG) (v0 : Int32) (σ : zS) : Option (Int32 × zS) := if v0 < 1 then s_No_isReason_15 g  (v0) σ else if 99 < v0 then s_No_isReason_15 g  (v0) σ else s_No_isReason_16 g  (v0) (1) σ
set_option maxRecDepth 100000 in
theorem t_No_isReason_16 {l : Launch} {D : zD} {g : zG} (hG : zGok g D) {q : Int32 × zS}   {v0 : Int32} {w0 : Int32} {σ : zS} (h : s_No_isReason_16 g  v0 w0 σ = some q) : Z l D K_No_isReason 0 0 (.returned (some (.int q.1)), q.2) 16 [(0, .int (v0))] [.int (w0)] σ := by
  unfold s_No_isReason_16 at h
  by_cases c1 : w0 = 0 ∨ w0 = 1
  rotate_left
  · rw [if_neg c1] at h; cases h
  rw [if_pos c1] at h
  cases h
  exact z_zret rfl (z_nb c1) rfl d_No_isReason_16
set_option maxRecDepth 100000 in
theorem t_No_isReason_15 {l : Launch} {D : zD} {g : zG} (hG : zGok g D) {q : Int32 × zS}   {v0 : Int32} {σ : zS} (h : s_No_isReason_15 g  v0 σ = some q) : Z l D K_No_isReason 0 0 (.returned (some (.int q.1)), q.2) 15 [(0, .int (v0))] [] σ := by
  unfold s_No_isReason_15 at h
  refine z_iconst (v := 0) d_No_isReason_15 rfl ?_
  refine z_lv (lv' := [(0, .int (v0))]) [0] rfl ?_
  exact t_No_isReason_16 hG   h
set_option maxRecDepth 100000 in
theorem t_No_isReason {l : Launch} {D : zD} {g : zG} (hG : zGok g D) {v0 : Int32} {σ : zS} {q : Int32 × zS} (h : s_No_isReason g v0 σ = some q) : zMet l D Y_No_isReason K_No_isReason 0 0 [.int (v0)] σ (.returned (some (.int q.1)), q.2) := by
  refine zMet.ofZ (by decide) rfl (fun q => by cases q) (Nat.le_of_ble_eq_true rfl) ?_
  show Z _ _ _ _ _ _ 0 [(0, .int (v0))] [] _
  unfold s_No_isReason at h
  refine z_iload_n 0 d_No_isReason_0 rfl rfl ?_
  refine z_iconst (v := 1) d_No_isReason_1 rfl ?_
  refine z_icmp_lt (tgt := 15) d_No_isReason_2 rfl (fun c1 => ?_) (fun c1 => ?_)
  · rw [if_pos c1] at h
    refine z_lv (lv' := [(0, .int (v0))]) [0] rfl ?_
    exact t_No_isReason_15 hG   h
  · rw [if_neg c1] at h
    refine z_iload_n 0 d_No_isReason_5 rfl rfl ?_
    refine z_bipush (v := 99) d_No_isReason_6 rfl ?_
    refine z_icmp_gt (tgt := 15) d_No_isReason_8 rfl (fun c2 => ?_) (fun c2 => ?_)
    · rw [if_pos c2] at h
      refine z_lv (lv' := [(0, .int (v0))]) [0] rfl ?_
      exact t_No_isReason_15 hG   h
    · rw [if_neg c2] at h
      refine z_iconst (v := 1) d_No_isReason_11 rfl ?_
      refine z_goto (tgt := 16) d_No_isReason_12 rfl ?_
      refine z_lv (lv' := [(0, .int (v0))]) [0] rfl ?_
      exact t_No_isReason_16 hG   h

def s_SeriesBook_loseNumbersOf_42 (g : zG) (k4 : Nat → Int32 → Int32 → Int32 → zS → Option (Int32 × zS)) (v0 : Nat) (v1 : Int32) (v2 : Int32) (v3 : Int32) (σ : zS) : Option (Int32 × zS) := k4 (v0) (v1) (v2) (v3 + 1) σ
def s_SeriesBook_loseNumbersOf_4 (g : zG)  : Nat → Nat → Int32 → Int32 → Int32 → zS → Option (Int32 × zS)
  | 0, _, _, _, _, _ => none
  | n + 1, v0, v1, v2, v3, σ => (zgI σ v0 5 2).bind fun x1 => if x1 ≤ v3 then some (v2, σ) else (zgR σ v0 5 3).bind fun x4 => (x4).bind fun a6 => (zaI σ a6 0 (v3)).bind fun x7 => if x7 = v1 then (zgR σ v0 5 4).bind fun x10 => (x10).bind fun a12 => (zaI σ a12 0 (v3)).bind fun x13 => if x13 = 1 then (zgR σ v0 5 4).bind fun x16 => (x16).bind fun a18 => (zsI σ a18 0 (v3) (4)).bind fun σ19 => s_SeriesBook_loseNumbersOf_42 g (fun v0 v1 v2 v3 σ => s_SeriesBook_loseNumbersOf_4 g  n v0 v1 v2 v3 σ) (v0) (v1) (v2 + 1) (v3) σ19 else s_SeriesBook_loseNumbersOf_42 g (fun v0 v1 v2 v3 σ => s_SeriesBook_loseNumbersOf_4 g  n v0 v1 v2 v3 σ) (v0) (v1) (v2) (v3) σ else s_SeriesBook_loseNumbersOf_42 g (fun v0 v1 v2 v3 σ => s_SeriesBook_loseNumbersOf_4 g  n v0 v1 v2 v3 σ) (v0) (v1) (v2) (v3) σ
def s_SeriesBook_loseNumbersOf (g : zG) (v0 : Nat) (v1 : Int32) (σ : zS) : Option (Int32 × zS) := s_SeriesBook_loseNumbersOf_4 g  zfuel (v0) (v1) (0) (0) σ
set_option maxRecDepth 100000 in
theorem t_SeriesBook_loseNumbersOf_42 {l : Launch} {D : zD} {g : zG} (hG : zGok g D) {q : Int32 × zS} (k4 : Nat → Int32 → Int32 → Int32 → zS → Option (Int32 × zS)) (hk4 : ∀ {v0 : Nat} {v1 : Int32} {v2 : Int32} {v3 : Int32} {σ : zS}, k4 v0 v1 v2 v3 σ = some q → Z l D K_SeriesBook_loseNumbersOf 0 0 (.returned (some (.int q.1)), q.2) 4 [(0, .ref (v0)), (1, .int (v1)), (2, .int (v2)), (3, .int (v3))] [] σ) {v0 : Nat} {v1 : Int32} {v2 : Int32} {v3 : Int32} {σ : zS} (h : s_SeriesBook_loseNumbersOf_42 g k4 v0 v1 v2 v3 σ = some q) : Z l D K_SeriesBook_loseNumbersOf 0 0 (.returned (some (.int q.1)), q.2) 42 [(0, .ref (v0)), (1, .int (v1)), (2, .int (v2)), (3, .int (v3))] [] σ := by
  unfold s_SeriesBook_loseNumbersOf_42 at h
  refine z_iinc (v := v3 + 1) (lv' := [(3, .int (v3 + 1)), (0, .ref (v0)), (1, .int (v1)), (2, .int (v2))]) 3 d_SeriesBook_loseNumbersOf_42 rfl rfl (by decide) rfl ?_
  refine z_goto (tgt := 4) d_SeriesBook_loseNumbersOf_45 rfl ?_
  refine z_lv (lv' := [(0, .ref (v0)), (1, .int (v1)), (2, .int (v2)), (3, .int (v3 + 1))]) [1, 2, 3, 0] rfl ?_
  exact hk4 h
set_option maxRecDepth 100000 in
theorem t_SeriesBook_loseNumbersOf_4 {l : Launch} {D : zD} {g : zG} (hG : zGok g D) {q : Int32 × zS}   : ∀ (n : Nat) {v0 : Nat} {v1 : Int32} {v2 : Int32} {v3 : Int32} {σ : zS}, s_SeriesBook_loseNumbersOf_4 g  n v0 v1 v2 v3 σ = some q → Z l D K_SeriesBook_loseNumbersOf 0 0 (.returned (some (.int q.1)), q.2) 4 [(0, .ref (v0)), (1, .int (v1)), (2, .int (v2)), (3, .int (v3))] [] σ := by
  intro n
  induction n with
  | zero =>
    intro v0 v1 v2 v3 σ h
    cases h
  | succ n ih =>
    intro v0 v1 v2 v3 σ h
    first | rw [s_SeriesBook_loseNumbersOf_4] at h | (unfold s_SeriesBook_loseNumbersOf_4 at h; dsimp only at h)
    refine z_iload_n 3 d_SeriesBook_loseNumbersOf_4 rfl rfl ?_
    refine z_aload_n 0 d_SeriesBook_loseNumbersOf_5 rfl rfl ?_
    replace h := Option.bind_eq_some_iff.mp h; obtain ⟨x1, e2, h⟩ := h
    refine z_getI wF_NumberOffice_SeriesBook_38_5 d_SeriesBook_loseNumbersOf_6 e2 ?_
    refine z_icmp_ge (tgt := 48) d_SeriesBook_loseNumbersOf_9 rfl (fun c3 => ?_) (fun c3 => ?_)
    · rw [if_pos c3] at h
      refine z_iload_n 2 d_SeriesBook_loseNumbersOf_48 rfl rfl ?_
      cases h
      exact z_iret rfl rfl d_SeriesBook_loseNumbersOf_49
    · rw [if_neg c3] at h
      refine z_aload_n 0 d_SeriesBook_loseNumbersOf_12 rfl rfl ?_
      replace h := Option.bind_eq_some_iff.mp h; obtain ⟨x4, e5, h⟩ := h
      refine z_getR wF_NumberOffice_SeriesBook_15_5 d_SeriesBook_loseNumbersOf_13 e5 ?_
      refine z_iload_n 3 d_SeriesBook_loseNumbersOf_16 rfl rfl ?_
      replace h := Option.bind_eq_some_iff.mp h; obtain ⟨a6, rfl, h⟩ := h
      replace h := Option.bind_eq_some_iff.mp h; obtain ⟨x7, e8, h⟩ := h
      refine z_iaload rfl d_SeriesBook_loseNumbersOf_17 e8 ?_
      refine z_iload_n 1 d_SeriesBook_loseNumbersOf_18 rfl rfl ?_
      refine z_icmp_ne (tgt := 42) d_SeriesBook_loseNumbersOf_19 rfl (fun c9 => ?_) (fun c9 => ?_)
      · rw [if_neg c9] at h
        refine z_lv (lv' := [(0, .ref (v0)), (1, .int (v1)), (2, .int (v2)), (3, .int (v3))]) [0, 1, 2, 3] rfl ?_
        exact t_SeriesBook_loseNumbersOf_42 hG _ (fun h => ih h) h
      · rw [if_pos c9] at h
        refine z_aload_n 0 d_SeriesBook_loseNumbersOf_22 rfl rfl ?_
        replace h := Option.bind_eq_some_iff.mp h; obtain ⟨x10, e11, h⟩ := h
        refine z_getR wF_NumberOffice_SeriesBook_19_5 d_SeriesBook_loseNumbersOf_23 e11 ?_
        refine z_iload_n 3 d_SeriesBook_loseNumbersOf_26 rfl rfl ?_
        replace h := Option.bind_eq_some_iff.mp h; obtain ⟨a12, rfl, h⟩ := h
        replace h := Option.bind_eq_some_iff.mp h; obtain ⟨x13, e14, h⟩ := h
        refine z_iaload rfl d_SeriesBook_loseNumbersOf_27 e14 ?_
        refine z_iconst (v := 1) d_SeriesBook_loseNumbersOf_28 rfl ?_
        refine z_icmp_ne (tgt := 42) d_SeriesBook_loseNumbersOf_29 rfl (fun c15 => ?_) (fun c15 => ?_)
        · rw [if_neg c15] at h
          refine z_lv (lv' := [(0, .ref (v0)), (1, .int (v1)), (2, .int (v2)), (3, .int (v3))]) [0, 1, 2, 3] rfl ?_
          exact t_SeriesBook_loseNumbersOf_42 hG _ (fun h => ih h) h
        · rw [if_pos c15] at h
          refine z_aload_n 0 d_SeriesBook_loseNumbersOf_32 rfl rfl ?_
          replace h := Option.bind_eq_some_iff.mp h; obtain ⟨x16, e17, h⟩ := h
          refine z_getR wF_NumberOffice_SeriesBook_19_5 d_SeriesBook_loseNumbersOf_33 e17 ?_
          refine z_iload_n 3 d_SeriesBook_loseNumbersOf_36 rfl rfl ?_
          refine z_iconst (v := 4) d_SeriesBook_loseNumbersOf_37 rfl ?_
          replace h := Option.bind_eq_some_iff.mp h; obtain ⟨a18, rfl, h⟩ := h
          replace h := Option.bind_eq_some_iff.mp h; obtain ⟨σ19, e20, h⟩ := h
          refine z_iastore rfl d_SeriesBook_loseNumbersOf_38 e20 ?_
          refine z_iinc (v := v2 + 1) (lv' := [(2, .int (v2 + 1)), (0, .ref (v0)), (1, .int (v1)), (3, .int (v3))]) 2 d_SeriesBook_loseNumbersOf_39 rfl rfl (by decide) rfl ?_
          refine z_lv (lv' := [(0, .ref (v0)), (1, .int (v1)), (2, .int (v2 + 1)), (3, .int (v3))]) [1, 2, 0, 3] rfl ?_
          exact t_SeriesBook_loseNumbersOf_42 hG _ (fun h => ih h) h
set_option maxRecDepth 100000 in
theorem t_SeriesBook_loseNumbersOf {l : Launch} {D : zD} {g : zG} (hG : zGok g D) {v0 : Nat} {v1 : Int32} {σ : zS} {q : Int32 × zS} (h : s_SeriesBook_loseNumbersOf g v0 v1 σ = some q) : zMet l D Y_SeriesBook_loseNumbersOf K_SeriesBook_loseNumbersOf 0 0 [.ref (v0), .int (v1)] σ (.returned (some (.int q.1)), q.2) := by
  refine zMet.ofZ (by decide) rfl (fun q => by cases q) (Nat.le_of_ble_eq_true rfl) ?_
  show Z _ _ _ _ _ _ 0 [(0, .ref (v0)), (1, .int (v1))] [] _
  unfold s_SeriesBook_loseNumbersOf at h
  refine z_iconst (v := 0) d_SeriesBook_loseNumbersOf_0 rfl ?_
  refine z_istore_n (j := 2) (lv' := [(2, .int (0)), (0, .ref (v0)), (1, .int (v1))]) d_SeriesBook_loseNumbersOf_1 rfl (by decide) rfl ?_
  refine z_iconst (v := 0) d_SeriesBook_loseNumbersOf_2 rfl ?_
  refine z_istore_n (j := 3) (lv' := [(3, .int (0)), (2, .int (0)), (0, .ref (v0)), (1, .int (v1))]) d_SeriesBook_loseNumbersOf_3 rfl (by decide) rfl ?_
  refine z_lv (lv' := [(0, .ref (v0)), (1, .int (v1)), (2, .int (0)), (3, .int (0))]) [2, 3, 1, 0] rfl ?_
  exact t_SeriesBook_loseNumbersOf_4 hG   zfuel h

def s_SeriesBook_isOpen_13 (g : zG)  (v0 : Nat) (w0 : Int32) (σ : zS) : Option (Int32 × zS) := if w0 = 0 ∨ w0 = 1 then some (w0, σ) else none
def s_SeriesBook_isOpen (g : zG) (v0 : Nat) (σ : zS) : Option (Int32 × zS) := (zgI σ v0 5 0).bind fun x1 => if x1 = 1 then s_SeriesBook_isOpen_13 g  (v0) (1) σ else s_SeriesBook_isOpen_13 g  (v0) (0) σ
set_option maxRecDepth 100000 in
theorem t_SeriesBook_isOpen_13 {l : Launch} {D : zD} {g : zG} (hG : zGok g D) {q : Int32 × zS}   {v0 : Nat} {w0 : Int32} {σ : zS} (h : s_SeriesBook_isOpen_13 g  v0 w0 σ = some q) : Z l D K_SeriesBook_isOpen 0 0 (.returned (some (.int q.1)), q.2) 13 [(0, .ref (v0))] [.int (w0)] σ := by
  unfold s_SeriesBook_isOpen_13 at h
  by_cases c1 : w0 = 0 ∨ w0 = 1
  rotate_left
  · rw [if_neg c1] at h; cases h
  rw [if_pos c1] at h
  cases h
  exact z_zret rfl (z_nb c1) rfl d_SeriesBook_isOpen_13
set_option maxRecDepth 100000 in
theorem t_SeriesBook_isOpen {l : Launch} {D : zD} {g : zG} (hG : zGok g D) {v0 : Nat} {σ : zS} {q : Int32 × zS} (h : s_SeriesBook_isOpen g v0 σ = some q) : zMet l D Y_SeriesBook_isOpen K_SeriesBook_isOpen 0 0 [.ref (v0)] σ (.returned (some (.int q.1)), q.2) := by
  refine zMet.ofZ (by decide) rfl (fun q => by cases q) (Nat.le_of_ble_eq_true rfl) ?_
  show Z _ _ _ _ _ _ 0 [(0, .ref (v0))] [] _
  unfold s_SeriesBook_isOpen at h
  refine z_aload_n 0 d_SeriesBook_isOpen_0 rfl rfl ?_
  replace h := Option.bind_eq_some_iff.mp h; obtain ⟨x1, e2, h⟩ := h
  refine z_getI wF_NumberOffice_SeriesBook_11_5 d_SeriesBook_isOpen_1 e2 ?_
  refine z_iconst (v := 1) d_SeriesBook_isOpen_4 rfl ?_
  refine z_icmp_ne (tgt := 12) d_SeriesBook_isOpen_5 rfl (fun c3 => ?_) (fun c3 => ?_)
  · rw [if_neg c3] at h
    refine z_iconst (v := 0) d_SeriesBook_isOpen_12 rfl ?_
    refine z_lv (lv' := [(0, .ref (v0))]) [0] rfl ?_
    exact t_SeriesBook_isOpen_13 hG   h
  · rw [if_pos c3] at h
    refine z_iconst (v := 1) d_SeriesBook_isOpen_8 rfl ?_
    refine z_goto (tgt := 13) d_SeriesBook_isOpen_9 rfl ?_
    refine z_lv (lv' := [(0, .ref (v0))]) [0] rfl ?_
    exact t_SeriesBook_isOpen_13 hG   h

def s_SeriesBook_leastOut_2 (g : zG)  : Nat → Nat → Int32 → zS → Option (Int32 × zS)
  | 0, _, _, _ => none
  | n + 1, v0, v1, σ => (zgI σ v0 5 2).bind fun x1 => if x1 ≤ v1 then some (0, σ) else (zgR σ v0 5 4).bind fun x4 => (x4).bind fun a6 => (zaI σ a6 0 (v1)).bind fun x7 => if x7 = 1 then some (v1 + 1, σ) else s_SeriesBook_leastOut_2 g  n (v0) (v1 + 1) σ
def s_SeriesBook_leastOut (g : zG) (v0 : Nat) (σ : zS) : Option (Int32 × zS) := s_SeriesBook_leastOut_2 g  zfuel (v0) (0) σ
set_option maxRecDepth 100000 in
theorem t_SeriesBook_leastOut_2 {l : Launch} {D : zD} {g : zG} (hG : zGok g D) {q : Int32 × zS}   : ∀ (n : Nat) {v0 : Nat} {v1 : Int32} {σ : zS}, s_SeriesBook_leastOut_2 g  n v0 v1 σ = some q → Z l D K_SeriesBook_leastOut 0 0 (.returned (some (.int q.1)), q.2) 2 [(0, .ref (v0)), (1, .int (v1))] [] σ := by
  intro n
  induction n with
  | zero =>
    intro v0 v1 σ h
    cases h
  | succ n ih =>
    intro v0 v1 σ h
    first | rw [s_SeriesBook_leastOut_2] at h | (unfold s_SeriesBook_leastOut_2 at h; dsimp only at h)
    refine z_iload_n 1 d_SeriesBook_leastOut_2 rfl rfl ?_
    refine z_aload_n 0 d_SeriesBook_leastOut_3 rfl rfl ?_
    replace h := Option.bind_eq_some_iff.mp h; obtain ⟨x1, e2, h⟩ := h
    refine z_getI wF_NumberOffice_SeriesBook_38_5 d_SeriesBook_leastOut_4 e2 ?_
    refine z_icmp_ge (tgt := 30) d_SeriesBook_leastOut_7 rfl (fun c3 => ?_) (fun c3 => ?_)
    · rw [if_pos c3] at h
      refine z_iconst (v := 0) d_SeriesBook_leastOut_30 rfl ?_
      cases h
      exact z_iret rfl rfl d_SeriesBook_leastOut_31
    · rw [if_neg c3] at h
      refine z_aload_n 0 d_SeriesBook_leastOut_10 rfl rfl ?_
      replace h := Option.bind_eq_some_iff.mp h; obtain ⟨x4, e5, h⟩ := h
      refine z_getR wF_NumberOffice_SeriesBook_19_5 d_SeriesBook_leastOut_11 e5 ?_
      refine z_iload_n 1 d_SeriesBook_leastOut_14 rfl rfl ?_
      replace h := Option.bind_eq_some_iff.mp h; obtain ⟨a6, rfl, h⟩ := h
      replace h := Option.bind_eq_some_iff.mp h; obtain ⟨x7, e8, h⟩ := h
      refine z_iaload rfl d_SeriesBook_leastOut_15 e8 ?_
      refine z_iconst (v := 1) d_SeriesBook_leastOut_16 rfl ?_
      refine z_icmp_ne (tgt := 24) d_SeriesBook_leastOut_17 rfl (fun c9 => ?_) (fun c9 => ?_)
      · rw [if_neg c9] at h
        refine z_iinc (v := v1 + 1) (lv' := [(1, .int (v1 + 1)), (0, .ref (v0))]) 1 d_SeriesBook_leastOut_24 rfl rfl (by decide) rfl ?_
        refine z_goto (tgt := 2) d_SeriesBook_leastOut_27 rfl ?_
        refine z_lv (lv' := [(0, .ref (v0)), (1, .int (v1 + 1))]) [1, 0] rfl ?_
        exact ih h
      · rw [if_pos c9] at h
        refine z_iload_n 1 d_SeriesBook_leastOut_20 rfl rfl ?_
        refine z_iconst (v := 1) d_SeriesBook_leastOut_21 rfl ?_
        refine z_iadd d_SeriesBook_leastOut_22 ?_
        cases h
        exact z_iret rfl rfl d_SeriesBook_leastOut_23
set_option maxRecDepth 100000 in
theorem t_SeriesBook_leastOut {l : Launch} {D : zD} {g : zG} (hG : zGok g D) {v0 : Nat} {σ : zS} {q : Int32 × zS} (h : s_SeriesBook_leastOut g v0 σ = some q) : zMet l D Y_SeriesBook_leastOut K_SeriesBook_leastOut 0 0 [.ref (v0)] σ (.returned (some (.int q.1)), q.2) := by
  refine zMet.ofZ (by decide) rfl (fun q => by cases q) (Nat.le_of_ble_eq_true rfl) ?_
  show Z _ _ _ _ _ _ 0 [(0, .ref (v0))] [] _
  unfold s_SeriesBook_leastOut at h
  refine z_iconst (v := 0) d_SeriesBook_leastOut_0 rfl ?_
  refine z_istore_n (j := 1) (lv' := [(1, .int (0)), (0, .ref (v0))]) d_SeriesBook_leastOut_1 rfl (by decide) rfl ?_
  refine z_lv (lv' := [(0, .ref (v0)), (1, .int (0))]) [1, 0] rfl ?_
  exact t_SeriesBook_leastOut_2 hG   zfuel h

def s_ListText_digit (g : zG) (v0 : Int64) (σ : zS) : Option (Int32 × zS) := if vp_nar .char ((((48 + (v0 - v0 / 10 * 10) : Int64).toInt32 : Int32).toUInt32 % 65536).toInt32) = ((((48 + (v0 - v0 / 10 * 10) : Int64).toInt32 : Int32).toUInt32 % 65536).toInt32) then some ((((48 + (v0 - v0 / 10 * 10) : Int64).toInt32 : Int32).toUInt32 % 65536).toInt32, σ) else none
set_option maxRecDepth 100000 in
theorem t_ListText_digit {l : Launch} {D : zD} {g : zG} (hG : zGok g D) {v0 : Int64} {σ : zS} {q : Int32 × zS} (h : s_ListText_digit g v0 σ = some q) : zMet l D Y_ListText_digit K_ListText_digit 0 0 [.long (v0)] σ (.returned (some (.int q.1)), q.2) := by
  refine zMet.ofZ (by decide) rfl (fun q => by cases q) (Nat.le_of_ble_eq_true rfl) ?_
  show Z _ _ _ _ _ _ 0 [(0, .long (v0))] [] _
  unfold s_ListText_digit at h
  refine z_ldc2 (v := 48) wC_NumberOffice_ListText_83 d_ListText_digit_0 ?_
  refine z_lload_n 0 d_ListText_digit_3 rfl rfl ?_
  refine z_ldc2 (v := 10) wC_NumberOffice_ListText_71 d_ListText_digit_4 ?_
  refine z_lrem d_ListText_digit_7 (by decide) ?_
  refine z_ladd d_ListText_digit_8 ?_
  refine z_l2i d_ListText_digit_9 ?_
  refine z_i2c d_ListText_digit_10 ?_
  by_cases c2 : vp_nar .char ((((48 + (v0 - v0 / 10 * 10) : Int64).toInt32 : Int32).toUInt32 % 65536).toInt32) = ((((48 + (v0 - v0 / 10 * 10) : Int64).toInt32 : Int32).toUInt32 % 65536).toInt32)
  rotate_left
  · rw [if_neg c2] at h; cases h
  rw [if_pos c2] at h
  cases h
  exact z_zret rfl (z_nc c2) rfl d_ListText_digit_11

def s_SeriesBook_centsOf_46 (g : zG) (k5 : Nat → Int32 → Int64 → Int32 → zS → Option (Int64 × zS)) (v0 : Nat) (v1 : Int32) (v2 : Int64) (v4 : Int32) (σ : zS) : Option (Int64 × zS) := k5 (v0) (v1) (v2) (v4 + 1) σ
def s_SeriesBook_centsOf_5 (g : zG)  : Nat → Nat → Int32 → Int64 → Int32 → zS → Option (Int64 × zS)
  | 0, _, _, _, _, _ => none
  | n + 1, v0, v1, v2, v4, σ => (zgI σ v0 5 2).bind fun x1 => if x1 ≤ v4 then some (v2, σ) else (zgR σ v0 5 3).bind fun x4 => (x4).bind fun a6 => (zaI σ a6 0 (v4)).bind fun x7 => if x7 = v1 then (zgR σ v0 5 4).bind fun x10 => (x10).bind fun a12 => (zaI σ a12 0 (v4)).bind fun x13 => if x13 = 2 then (zgR σ v0 5 5).bind fun x16 => (x16).bind fun a18 => (zaL σ a18 1 (v4)).bind fun x19 => s_SeriesBook_centsOf_46 g (fun v0 v1 v2 v4 σ => s_SeriesBook_centsOf_5 g  n v0 v1 v2 v4 σ) (v0) (v1) (v2 + x19) (v4) σ else s_SeriesBook_centsOf_46 g (fun v0 v1 v2 v4 σ => s_SeriesBook_centsOf_5 g  n v0 v1 v2 v4 σ) (v0) (v1) (v2) (v4) σ else s_SeriesBook_centsOf_46 g (fun v0 v1 v2 v4 σ => s_SeriesBook_centsOf_5 g  n v0 v1 v2 v4 σ) (v0) (v1) (v2) (v4) σ
def s_SeriesBook_centsOf (g : zG) (v0 : Nat) (v1 : Int32) (σ : zS) : Option (Int64 × zS) := s_SeriesBook_centsOf_5 g  zfuel (v0) (v1) (0) (0) σ
set_option maxRecDepth 100000 in
theorem t_SeriesBook_centsOf_46 {l : Launch} {D : zD} {g : zG} (hG : zGok g D) {q : Int64 × zS} (k5 : Nat → Int32 → Int64 → Int32 → zS → Option (Int64 × zS)) (hk5 : ∀ {v0 : Nat} {v1 : Int32} {v2 : Int64} {v4 : Int32} {σ : zS}, k5 v0 v1 v2 v4 σ = some q → Z l D K_SeriesBook_centsOf 0 0 (.returned (some (.long q.1)), q.2) 5 [(0, .ref (v0)), (1, .int (v1)), (2, .long (v2)), (4, .int (v4))] [] σ) {v0 : Nat} {v1 : Int32} {v2 : Int64} {v4 : Int32} {σ : zS} (h : s_SeriesBook_centsOf_46 g k5 v0 v1 v2 v4 σ = some q) : Z l D K_SeriesBook_centsOf 0 0 (.returned (some (.long q.1)), q.2) 46 [(0, .ref (v0)), (1, .int (v1)), (2, .long (v2)), (4, .int (v4))] [] σ := by
  unfold s_SeriesBook_centsOf_46 at h
  refine z_iinc (v := v4 + 1) (lv' := [(4, .int (v4 + 1)), (0, .ref (v0)), (1, .int (v1)), (2, .long (v2))]) 3 d_SeriesBook_centsOf_46 rfl rfl (by decide) rfl ?_
  refine z_goto (tgt := 5) d_SeriesBook_centsOf_49 rfl ?_
  refine z_lv (lv' := [(0, .ref (v0)), (1, .int (v1)), (2, .long (v2)), (4, .int (v4 + 1))]) [1, 2, 3, 0] rfl ?_
  exact hk5 h
set_option maxRecDepth 100000 in
theorem t_SeriesBook_centsOf_5 {l : Launch} {D : zD} {g : zG} (hG : zGok g D) {q : Int64 × zS}   : ∀ (n : Nat) {v0 : Nat} {v1 : Int32} {v2 : Int64} {v4 : Int32} {σ : zS}, s_SeriesBook_centsOf_5 g  n v0 v1 v2 v4 σ = some q → Z l D K_SeriesBook_centsOf 0 0 (.returned (some (.long q.1)), q.2) 5 [(0, .ref (v0)), (1, .int (v1)), (2, .long (v2)), (4, .int (v4))] [] σ := by
  intro n
  induction n with
  | zero =>
    intro v0 v1 v2 v4 σ h
    cases h
  | succ n ih =>
    intro v0 v1 v2 v4 σ h
    first | rw [s_SeriesBook_centsOf_5] at h | (unfold s_SeriesBook_centsOf_5 at h; dsimp only at h)
    refine z_iload 3 d_SeriesBook_centsOf_5 rfl ?_
    refine z_aload_n 0 d_SeriesBook_centsOf_7 rfl rfl ?_
    replace h := Option.bind_eq_some_iff.mp h; obtain ⟨x1, e2, h⟩ := h
    refine z_getI wF_NumberOffice_SeriesBook_38_5 d_SeriesBook_centsOf_8 e2 ?_
    refine z_icmp_ge (tgt := 52) d_SeriesBook_centsOf_11 rfl (fun c3 => ?_) (fun c3 => ?_)
    · rw [if_pos c3] at h
      refine z_lload_n 2 d_SeriesBook_centsOf_52 rfl rfl ?_
      cases h
      exact z_lret rfl rfl d_SeriesBook_centsOf_53
    · rw [if_neg c3] at h
      refine z_aload_n 0 d_SeriesBook_centsOf_14 rfl rfl ?_
      replace h := Option.bind_eq_some_iff.mp h; obtain ⟨x4, e5, h⟩ := h
      refine z_getR wF_NumberOffice_SeriesBook_15_5 d_SeriesBook_centsOf_15 e5 ?_
      refine z_iload 3 d_SeriesBook_centsOf_18 rfl ?_
      replace h := Option.bind_eq_some_iff.mp h; obtain ⟨a6, rfl, h⟩ := h
      replace h := Option.bind_eq_some_iff.mp h; obtain ⟨x7, e8, h⟩ := h
      refine z_iaload rfl d_SeriesBook_centsOf_20 e8 ?_
      refine z_iload_n 1 d_SeriesBook_centsOf_21 rfl rfl ?_
      refine z_icmp_ne (tgt := 46) d_SeriesBook_centsOf_22 rfl (fun c9 => ?_) (fun c9 => ?_)
      · rw [if_neg c9] at h
        refine z_lv (lv' := [(0, .ref (v0)), (1, .int (v1)), (2, .long (v2)), (4, .int (v4))]) [0, 1, 2, 3] rfl ?_
        exact t_SeriesBook_centsOf_46 hG _ (fun h => ih h) h
      · rw [if_pos c9] at h
        refine z_aload_n 0 d_SeriesBook_centsOf_25 rfl rfl ?_
        replace h := Option.bind_eq_some_iff.mp h; obtain ⟨x10, e11, h⟩ := h
        refine z_getR wF_NumberOffice_SeriesBook_19_5 d_SeriesBook_centsOf_26 e11 ?_
        refine z_iload 3 d_SeriesBook_centsOf_29 rfl ?_
        replace h := Option.bind_eq_some_iff.mp h; obtain ⟨a12, rfl, h⟩ := h
        replace h := Option.bind_eq_some_iff.mp h; obtain ⟨x13, e14, h⟩ := h
        refine z_iaload rfl d_SeriesBook_centsOf_31 e14 ?_
        refine z_iconst (v := 2) d_SeriesBook_centsOf_32 rfl ?_
        refine z_icmp_ne (tgt := 46) d_SeriesBook_centsOf_33 rfl (fun c15 => ?_) (fun c15 => ?_)
        · rw [if_neg c15] at h
          refine z_lv (lv' := [(0, .ref (v0)), (1, .int (v1)), (2, .long (v2)), (4, .int (v4))]) [0, 1, 2, 3] rfl ?_
          exact t_SeriesBook_centsOf_46 hG _ (fun h => ih h) h
        · rw [if_pos c15] at h
          refine z_lload_n 2 d_SeriesBook_centsOf_36 rfl rfl ?_
          refine z_aload_n 0 d_SeriesBook_centsOf_37 rfl rfl ?_
          replace h := Option.bind_eq_some_iff.mp h; obtain ⟨x16, e17, h⟩ := h
          refine z_getR wF_NumberOffice_SeriesBook_22_5 d_SeriesBook_centsOf_38 e17 ?_
          refine z_iload 3 d_SeriesBook_centsOf_41 rfl ?_
          replace h := Option.bind_eq_some_iff.mp h; obtain ⟨a18, rfl, h⟩ := h
          replace h := Option.bind_eq_some_iff.mp h; obtain ⟨x19, e20, h⟩ := h
          refine z_laload rfl d_SeriesBook_centsOf_43 e20 ?_
          refine z_ladd d_SeriesBook_centsOf_44 ?_
          refine z_lstore_n (j := 2) (lv' := [(2, .long (v2 + x19)), (0, .ref (v0)), (1, .int (v1)), (4, .int (v4))]) d_SeriesBook_centsOf_45 rfl (by decide) rfl ?_
          refine z_lv (lv' := [(0, .ref (v0)), (1, .int (v1)), (2, .long (v2 + x19)), (4, .int (v4))]) [1, 2, 0, 3] rfl ?_
          exact t_SeriesBook_centsOf_46 hG _ (fun h => ih h) h
set_option maxRecDepth 100000 in
theorem t_SeriesBook_centsOf {l : Launch} {D : zD} {g : zG} (hG : zGok g D) {v0 : Nat} {v1 : Int32} {σ : zS} {q : Int64 × zS} (h : s_SeriesBook_centsOf g v0 v1 σ = some q) : zMet l D Y_SeriesBook_centsOf K_SeriesBook_centsOf 0 0 [.ref (v0), .int (v1)] σ (.returned (some (.long q.1)), q.2) := by
  refine zMet.ofZ (by decide) rfl (fun q => by cases q) (Nat.le_of_ble_eq_true rfl) ?_
  show Z _ _ _ _ _ _ 0 [(0, .ref (v0)), (1, .int (v1))] [] _
  unfold s_SeriesBook_centsOf at h
  refine z_lconst (v := 0) d_SeriesBook_centsOf_0 rfl ?_
  refine z_lstore_n (j := 2) (lv' := [(2, .long (0)), (0, .ref (v0)), (1, .int (v1))]) d_SeriesBook_centsOf_1 rfl (by decide) rfl ?_
  refine z_iconst (v := 0) d_SeriesBook_centsOf_2 rfl ?_
  refine z_istore (j := 4) (lv' := [(4, .int (0)), (2, .long (0)), (0, .ref (v0)), (1, .int (v1))]) d_SeriesBook_centsOf_3 (by decide) rfl ?_
  refine z_lv (lv' := [(0, .ref (v0)), (1, .int (v1)), (2, .long (0)), (4, .int (0))]) [2, 3, 1, 0] rfl ?_
  exact t_SeriesBook_centsOf_5 hG   zfuel h

def s_Office_init_22 (g : zG)  : Nat → Nat → Int32 → Int32 → zS → Option (zS)
  | 0, _, _, _, _ => none
  | n + 1, v0, v1, v2, σ => if 3 ≤ v2 then (zlen (v1)).bind fun n2 => (some (znew σ n2 (.inl (3, (n2, .inl (fun _ => 0)))))).bind fun σ4 => (zpF σ4 v0 4 2 (.ref (σ.1))).bind fun σ6 => (zlen (v1)).bind fun n8 => (some (znew σ6 n8 (.inl (3, (n8, .inl (fun _ => 0)))))).bind fun σ10 => (zpF σ10 v0 4 3 (.ref (σ6.1))).bind fun σ12 => (zlen (v1)).bind fun n14 => (some (znew σ12 n14 (.inl (9, (n14, .inr (.inr (.inr (.inr (fun _ => none))))))))).bind fun σ16 => (zpF σ16 v0 4 4 (.ref (σ12.1))).bind fun σ18 => (zlen (v1)).bind fun n20 => (some (znew σ18 n20 (.inl (9, (n20, .inr (.inr (.inr (.inr (fun _ => none))))))))).bind fun σ22 => (zpF σ22 v0 4 5 (.ref (σ18.1))).bind fun σ24 => some σ24 else (zgR σ v0 4 0).bind fun x26 => (some (znew σ 8 (.inr (5, [.int 0, .int 0, .int 0, .null, .null, .null, .null, .null])))).bind fun σ28 => (s_SeriesBook_init g (σ.1)  σ28).bind fun σ29 => (x26).bind fun a32 => (zsR σ29 a32 8 (v2) (some (σ.1))).bind fun σ33 => (zgR σ33 v0 4 1).bind fun x35 => (some (znew σ33 8 (.inr (5, [.int 0, .int 0, .int 0, .null, .null, .null, .null, .null])))).bind fun σ37 => (s_SeriesBook_init g (σ33.1)  σ37).bind fun σ38 => (x35).bind fun a41 => (zsR σ38 a41 8 (v2) (some (σ33.1))).bind fun σ42 => s_Office_init_22 g  n (v0) (v1) (v2 + 1) σ42
def s_Office_init (g : zG) (v0 : Nat) (v1 : Int32) (σ : zS) : Option (zS) := (s_Side_init g v0  σ).bind fun σ1 => (zlen (3)).bind fun n4 => (some (znew σ1 n4 (.inl (8, (n4, .inr (.inr (.inr (.inr (fun _ => none))))))))).bind fun σ6 => (zpF σ6 v0 4 0 (.ref (σ1.1))).bind fun σ8 => (zlen (3)).bind fun n10 => (some (znew σ8 n10 (.inl (8, (n10, .inr (.inr (.inr (.inr (fun _ => none))))))))).bind fun σ12 => (zpF σ12 v0 4 1 (.ref (σ8.1))).bind fun σ14 => s_Office_init_22 g  zfuel (v0) (v1) (0) σ14
set_option maxRecDepth 100000 in
theorem t_Office_init_22 {l : Launch} {D : zD} {g : zG} (hG : zGok g D) {q : zS}   : ∀ (n : Nat) {v0 : Nat} {v1 : Int32} {v2 : Int32} {σ : zS}, s_Office_init_22 g  n v0 v1 v2 σ = some q → Z l D K_Office_init 2 32 (.returned none, q) 22 [(0, .ref (v0)), (1, .int (v1)), (2, .int (v2))] [] σ := by
  intro n
  induction n with
  | zero =>
    intro v0 v1 v2 σ h
    cases h
  | succ n ih =>
    intro v0 v1 v2 σ h
    first | rw [s_Office_init_22] at h | (unfold s_Office_init_22 at h; dsimp only at h)
    refine z_iload_n 2 d_Office_init_22 rfl rfl ?_
    refine z_iconst (v := 3) d_Office_init_23 rfl ?_
    refine z_icmp_ge (tgt := 59) d_Office_init_24 rfl (fun c1 => ?_) (fun c1 => ?_)
    · rw [if_pos c1] at h
      refine z_aload_n 0 d_Office_init_59 rfl rfl ?_
      refine z_iload_n 1 d_Office_init_60 rfl rfl ?_
      replace h := Option.bind_eq_some_iff.mp h; obtain ⟨n2, e3, h⟩ := h
      replace h := Option.bind_eq_some_iff.mp h; obtain ⟨σ4, e5, h⟩ := h
      refine z_newa (t := 3) (ty := .boolean) (x := (n2, .inl (fun _ => 0))) rfl rfl wA_boolean (fun _ => rfl) (by decide) d_Office_init_61 e3 ?_
      rw [Option.some.inj e5]
      replace h := Option.bind_eq_some_iff.mp h; obtain ⟨σ6, e7, h⟩ := h
      refine z_put wP_NumberOffice_Office_21_4 (fun _ => rfl) d_Office_init_63 rfl rfl e7 ?_
      refine z_aload_n 0 d_Office_init_66 rfl rfl ?_
      refine z_iload_n 1 d_Office_init_67 rfl rfl ?_
      replace h := Option.bind_eq_some_iff.mp h; obtain ⟨n8, e9, h⟩ := h
      replace h := Option.bind_eq_some_iff.mp h; obtain ⟨σ10, e11, h⟩ := h
      refine z_newa (t := 3) (ty := .boolean) (x := (n8, .inl (fun _ => 0))) rfl rfl wA_boolean (fun _ => rfl) (by decide) d_Office_init_68 e9 ?_
      rw [Option.some.inj e11]
      replace h := Option.bind_eq_some_iff.mp h; obtain ⟨σ12, e13, h⟩ := h
      refine z_put wP_NumberOffice_Office_25_4 (fun _ => rfl) d_Office_init_70 rfl rfl e13 ?_
      refine z_aload_n 0 d_Office_init_73 rfl rfl ?_
      refine z_iload_n 1 d_Office_init_74 rfl rfl ?_
      replace h := Option.bind_eq_some_iff.mp h; obtain ⟨n14, e15, h⟩ := h
      replace h := Option.bind_eq_some_iff.mp h; obtain ⟨σ16, e17, h⟩ := h
      refine z_anewa (t := 9) (E := "NumberOffice$Answer") rfl wAo_NumberOffice_Answer wL_NumberOffice_Office_28 d_Office_init_75 e15 ?_
      rw [Option.some.inj e17]
      replace h := Option.bind_eq_some_iff.mp h; obtain ⟨σ18, e19, h⟩ := h
      refine z_put wP_NumberOffice_Office_30_4 (fun _ => rfl) d_Office_init_78 rfl rfl e19 ?_
      refine z_aload_n 0 d_Office_init_81 rfl rfl ?_
      refine z_iload_n 1 d_Office_init_82 rfl rfl ?_
      replace h := Option.bind_eq_some_iff.mp h; obtain ⟨n20, e21, h⟩ := h
      replace h := Option.bind_eq_some_iff.mp h; obtain ⟨σ22, e23, h⟩ := h
      refine z_anewa (t := 9) (E := "NumberOffice$Answer") rfl wAo_NumberOffice_Answer wL_NumberOffice_Office_28 d_Office_init_83 e21 ?_
      rw [Option.some.inj e23]
      replace h := Option.bind_eq_some_iff.mp h; obtain ⟨σ24, e25, h⟩ := h
      refine z_put wP_NumberOffice_Office_34_4 (fun _ => rfl) d_Office_init_86 rfl rfl e25 ?_
      cases h
      exact z_vret rfl rfl d_Office_init_89
    · rw [if_neg c1] at h
      refine z_aload_n 0 d_Office_init_27 rfl rfl ?_
      replace h := Option.bind_eq_some_iff.mp h; obtain ⟨x26, e27, h⟩ := h
      refine z_getR wF_NumberOffice_Office_11_4 d_Office_init_28 e27 ?_
      refine z_iload_n 2 d_Office_init_31 rfl rfl ?_
      replace h := Option.bind_eq_some_iff.mp h; obtain ⟨σ28, e28, h⟩ := h
      refine z_new wN_NumberOffice_Office_9 d_Office_init_32 ?_
      rw [Option.some.inj e28]
      refine z_dup d_Office_init_35 rfl ?_
      replace h := Option.bind_eq_some_iff.mp h; obtain ⟨σ29, e30, h⟩ := h
      refine z_callN (av := []) (st := [.ref (σ.1), .int (v2), va_rf (x26)]) wX_NumberOffice_Office_20 (t_SeriesBook_init hG e30) (by decide) (by decide) d_Office_init_36 (by simp [z_rfc, z_ci, z_cl, z_cr, z_cn]) ?_
      show Z _ _ _ _ _ _ 39 [(0, .ref (v0)), (1, .int (v1)), (2, .int (v2))] [.ref (σ.1), .int (v2), va_rf (x26)] _
      replace h := Option.bind_eq_some_iff.mp h; obtain ⟨a32, rfl, h⟩ := h
      replace h := Option.bind_eq_some_iff.mp h; obtain ⟨σ33, e34, h⟩ := h
      refine z_aastore (r := some (σ.1)) rfl d_Office_init_39 e34 ?_
      refine z_aload_n 0 d_Office_init_40 rfl rfl ?_
      replace h := Option.bind_eq_some_iff.mp h; obtain ⟨x35, e36, h⟩ := h
      refine z_getR wF_NumberOffice_Office_17_4 d_Office_init_41 e36 ?_
      refine z_iload_n 2 d_Office_init_44 rfl rfl ?_
      replace h := Option.bind_eq_some_iff.mp h; obtain ⟨σ37, e37, h⟩ := h
      refine z_new wN_NumberOffice_Office_9 d_Office_init_45 ?_
      rw [Option.some.inj e37]
      refine z_dup d_Office_init_48 rfl ?_
      replace h := Option.bind_eq_some_iff.mp h; obtain ⟨σ38, e39, h⟩ := h
      refine z_callN (av := []) (st := [.ref (σ33.1), .int (v2), va_rf (x35)]) wX_NumberOffice_Office_20 (t_SeriesBook_init hG e39) (by decide) (by decide) d_Office_init_49 (by simp [z_rfc, z_ci, z_cl, z_cr, z_cn]) ?_
      show Z _ _ _ _ _ _ 52 [(0, .ref (v0)), (1, .int (v1)), (2, .int (v2))] [.ref (σ33.1), .int (v2), va_rf (x35)] _
      replace h := Option.bind_eq_some_iff.mp h; obtain ⟨a41, rfl, h⟩ := h
      replace h := Option.bind_eq_some_iff.mp h; obtain ⟨σ42, e43, h⟩ := h
      refine z_aastore (r := some (σ33.1)) rfl d_Office_init_52 e43 ?_
      refine z_iinc (v := v2 + 1) (lv' := [(2, .int (v2 + 1)), (0, .ref (v0)), (1, .int (v1))]) 2 d_Office_init_53 rfl rfl (by decide) rfl ?_
      refine z_goto (tgt := 22) d_Office_init_56 rfl ?_
      refine z_lv (lv' := [(0, .ref (v0)), (1, .int (v1)), (2, .int (v2 + 1))]) [1, 2, 0] rfl ?_
      exact ih h
set_option maxRecDepth 100000 in
theorem t_Office_init {l : Launch} {D : zD} {g : zG} (hG : zGok g D) {v0 : Nat} {v1 : Int32} {σ : zS} {q : zS} (h : s_Office_init g v0 v1 σ = some q) : zMet l D Y_Office_init K_Office_init 2 32 [.ref (v0), .int (v1)] σ (.returned none, q) := by
  refine zMet.ofZ (by decide) rfl (fun q => rfl) (Nat.le_of_ble_eq_true rfl) ?_
  show Z _ _ _ _ _ _ 0 [(0, .ref (v0)), (1, .int (v1))] [] _
  unfold s_Office_init at h
  refine z_aload_n 0 d_Office_init_0 rfl rfl ?_
  replace h := Option.bind_eq_some_iff.mp h; obtain ⟨σ1, e2, h⟩ := h
  refine z_callN (av := []) (st := []) wX_NumberOffice_Office_3 (t_Side_init hG e2) (by decide) (by decide) d_Office_init_1 (by simp [z_rfc, z_ci, z_cl, z_cr, z_cn]) ?_
  show Z _ _ _ _ _ _ 4 [(0, .ref (v0)), (1, .int (v1))] [] _
  refine z_aload_n 0 d_Office_init_4 rfl rfl ?_
  refine z_iconst (v := 3) d_Office_init_5 rfl ?_
  replace h := Option.bind_eq_some_iff.mp h; obtain ⟨n4, e5, h⟩ := h
  replace h := Option.bind_eq_some_iff.mp h; obtain ⟨σ6, e7, h⟩ := h
  refine z_anewa (t := 8) (E := "NumberOffice$SeriesBook") rfl wAo_NumberOffice_SeriesBook wL_NumberOffice_Office_9 d_Office_init_6 e5 ?_
  rw [Option.some.inj e7]
  replace h := Option.bind_eq_some_iff.mp h; obtain ⟨σ8, e9, h⟩ := h
  refine z_put wP_NumberOffice_Office_11_4 (fun _ => rfl) d_Office_init_9 rfl rfl e9 ?_
  refine z_aload_n 0 d_Office_init_12 rfl rfl ?_
  refine z_iconst (v := 3) d_Office_init_13 rfl ?_
  replace h := Option.bind_eq_some_iff.mp h; obtain ⟨n10, e11, h⟩ := h
  replace h := Option.bind_eq_some_iff.mp h; obtain ⟨σ12, e13, h⟩ := h
  refine z_anewa (t := 8) (E := "NumberOffice$SeriesBook") rfl wAo_NumberOffice_SeriesBook wL_NumberOffice_Office_9 d_Office_init_14 e11 ?_
  rw [Option.some.inj e13]
  replace h := Option.bind_eq_some_iff.mp h; obtain ⟨σ14, e15, h⟩ := h
  refine z_put wP_NumberOffice_Office_17_4 (fun _ => rfl) d_Office_init_17 rfl rfl e15 ?_
  refine z_iconst (v := 0) d_Office_init_20 rfl ?_
  refine z_istore_n (j := 2) (lv' := [(2, .int (0)), (0, .ref (v0)), (1, .int (v1))]) d_Office_init_21 rfl (by decide) rfl ?_
  refine z_lv (lv' := [(0, .ref (v0)), (1, .int (v1)), (2, .int (0))]) [1, 2, 0] rfl ?_
  exact t_Office_init_22 hG   zfuel h

def s_BranchSeries_save (g : zG) (v0 : Nat) (σ : zS) : Option (zS) := (zgR σ v0 2 0).bind fun x1 => (x1).bind fun a3 => (zis σ a3 3).bind fun _ => (s_ArrayList_size g a3  σ).bind fun (x6, σ4) => (zpF σ4 v0 2 5 (.int (x6))).bind fun σ7 => (zgR σ7 v0 2 1).bind fun x9 => (x9).bind fun a11 => (zis σ7 a11 3).bind fun _ => (s_ArrayList_size g a11  σ7).bind fun (x14, σ12) => (zpF σ12 v0 2 6 (.int (x14))).bind fun σ15 => (zgI σ15 v0 2 2).bind fun x17 => (zpF σ15 v0 2 7 (.int (x17))).bind fun σ19 => (zgI σ19 v0 2 3).bind fun x21 => (zpF σ19 v0 2 8 (.int (x21))).bind fun σ23 => (zgI σ23 v0 2 4).bind fun x25 => (zpF σ23 v0 2 9 (.int (x25))).bind fun σ27 => some σ27
set_option maxRecDepth 100000 in
theorem t_BranchSeries_save {l : Launch} {D : zD} {g : zG} (hG : zGok g D) {v0 : Nat} {σ : zS} {q : zS} (h : s_BranchSeries_save g v0 σ = some q) : zMet l D Y_BranchSeries_save K_BranchSeries_save 1 20 [.ref (v0)] σ (.returned none, q) := by
  refine zMet.ofZ (by decide) rfl (fun q => by cases q) (Nat.le_of_ble_eq_true rfl) ?_
  show Z _ _ _ _ _ _ 0 [(0, .ref (v0))] [] _
  unfold s_BranchSeries_save at h
  refine z_aload_n 0 d_BranchSeries_save_0 rfl rfl ?_
  refine z_aload_n 0 d_BranchSeries_save_1 rfl rfl ?_
  replace h := Option.bind_eq_some_iff.mp h; obtain ⟨x1, e2, h⟩ := h
  refine z_getR wF_NumberOffice_BranchSeries_12_2 d_BranchSeries_save_2 e2 ?_
  replace h := Option.bind_eq_some_iff.mp h; obtain ⟨a3, rfl, h⟩ := h
  replace h := Option.bind_eq_some_iff.mp h; obtain ⟨_, e32, h⟩ := h
  obtain ⟨b33, f34, e32⟩ := zcls_at (zis_at e32)
  replace h := Option.bind_eq_some_iff.mp h; obtain ⟨⟨x6, σ4⟩, e5, h⟩ := h
  dsimp only at h
  refine z_callV (av := []) (st := [.ref (v0)]) wV_NumberOffice_BranchSeries_21 e32 (t_ArrayList_size hG e5) (by decide) (by decide) d_BranchSeries_save_5 (by simp [z_rfc, z_ci, z_cl, z_cr, z_cn]) ?_
  show Z _ _ _ _ _ _ 8 [(0, .ref (v0))] [.int (x6), .ref (v0)] _
  replace h := Option.bind_eq_some_iff.mp h; obtain ⟨σ7, e8, h⟩ := h
  refine z_put wP_NumberOffice_BranchSeries_25_2 (fun q => by cases q) d_BranchSeries_save_8 rfl rfl e8 ?_
  refine z_aload_n 0 d_BranchSeries_save_11 rfl rfl ?_
  refine z_aload_n 0 d_BranchSeries_save_12 rfl rfl ?_
  replace h := Option.bind_eq_some_iff.mp h; obtain ⟨x9, e10, h⟩ := h
  refine z_getR wF_NumberOffice_BranchSeries_18_2 d_BranchSeries_save_13 e10 ?_
  replace h := Option.bind_eq_some_iff.mp h; obtain ⟨a11, rfl, h⟩ := h
  replace h := Option.bind_eq_some_iff.mp h; obtain ⟨_, e29, h⟩ := h
  obtain ⟨b30, f31, e29⟩ := zcls_at (zis_at e29)
  replace h := Option.bind_eq_some_iff.mp h; obtain ⟨⟨x14, σ12⟩, e13, h⟩ := h
  dsimp only at h
  refine z_callV (av := []) (st := [.ref (v0)]) wV_NumberOffice_BranchSeries_21 e29 (t_ArrayList_size hG e13) (by decide) (by decide) d_BranchSeries_save_16 (by simp [z_rfc, z_ci, z_cl, z_cr, z_cn]) ?_
  show Z _ _ _ _ _ _ 19 [(0, .ref (v0))] [.int (x14), .ref (v0)] _
  replace h := Option.bind_eq_some_iff.mp h; obtain ⟨σ15, e16, h⟩ := h
  refine z_put wP_NumberOffice_BranchSeries_29_2 (fun q => by cases q) d_BranchSeries_save_19 rfl rfl e16 ?_
  refine z_aload_n 0 d_BranchSeries_save_22 rfl rfl ?_
  refine z_aload_n 0 d_BranchSeries_save_23 rfl rfl ?_
  replace h := Option.bind_eq_some_iff.mp h; obtain ⟨x17, e18, h⟩ := h
  refine z_getI wF_NumberOffice_BranchSeries_32_2 d_BranchSeries_save_24 e18 ?_
  replace h := Option.bind_eq_some_iff.mp h; obtain ⟨σ19, e20, h⟩ := h
  refine z_put wP_NumberOffice_BranchSeries_35_2 (fun q => by cases q) d_BranchSeries_save_27 rfl rfl e20 ?_
  refine z_aload_n 0 d_BranchSeries_save_30 rfl rfl ?_
  refine z_aload_n 0 d_BranchSeries_save_31 rfl rfl ?_
  replace h := Option.bind_eq_some_iff.mp h; obtain ⟨x21, e22, h⟩ := h
  refine z_getI wF_NumberOffice_BranchSeries_38_2 d_BranchSeries_save_32 e22 ?_
  replace h := Option.bind_eq_some_iff.mp h; obtain ⟨σ23, e24, h⟩ := h
  refine z_put wP_NumberOffice_BranchSeries_41_2 (fun q => by cases q) d_BranchSeries_save_35 rfl rfl e24 ?_
  refine z_aload_n 0 d_BranchSeries_save_38 rfl rfl ?_
  refine z_aload_n 0 d_BranchSeries_save_39 rfl rfl ?_
  replace h := Option.bind_eq_some_iff.mp h; obtain ⟨x25, e26, h⟩ := h
  refine z_getI wF_NumberOffice_BranchSeries_44_2 d_BranchSeries_save_40 e26 ?_
  replace h := Option.bind_eq_some_iff.mp h; obtain ⟨σ27, e28, h⟩ := h
  refine z_put wP_NumberOffice_BranchSeries_47_2 (fun q => by cases q) d_BranchSeries_save_43 rfl rfl e28 ?_
  cases h
  exact z_vret rfl rfl d_BranchSeries_save_46

def s_Office_forget_30 (g : zG)  : Nat → Nat → Int32 → zS → Option (zS)
  | 0, _, _, _ => none
  | n + 1, v0, v1, σ => (zgR σ v0 4 2).bind fun x1 => (x1).bind fun a3 => (zal σ a3 3).bind fun x4 => if x4 ≤ v1 then some σ else (zgR σ v0 4 2).bind fun x7 => (zgR σ v0 4 3).bind fun x9 => (x9).bind fun a11 => (zaI σ a11 3 (v1)).bind fun x12 => (x7).bind fun a14 => (zsI σ a14 3 (v1) (vp_nar .boolean x12)).bind fun σ15 => (zgR σ15 v0 4 4).bind fun x17 => (zgR σ15 v0 4 5).bind fun x19 => (x19).bind fun a21 => (zaR σ15 a21 9 (v1)).bind fun x22 => (x17).bind fun a24 => (zsR σ15 a24 9 (v1) (x22)).bind fun σ25 => s_Office_forget_30 g  n (v0) (v1 + 1) σ25
def s_Office_forget_2 (g : zG)  : Nat → Nat → Int32 → zS → Option (zS)
  | 0, _, _, _ => none
  | n + 1, v0, v1, σ => if 3 ≤ v1 then s_Office_forget_30 g  zfuel (v0) (0) σ else (zgR σ v0 4 0).bind fun x2 => (x2).bind fun a4 => (zaR σ a4 8 (v1)).bind fun x5 => (zgR σ v0 4 1).bind fun x7 => (x7).bind fun a9 => (zaR σ a9 8 (v1)).bind fun x10 => (x5).bind fun a12 => (zis σ a12 5).bind fun _ => (s_SeriesBook_copyFrom g a12 x10 σ).bind fun σ13 => s_Office_forget_2 g  n (v0) (v1 + 1) σ13
def s_Office_forget (g : zG) (v0 : Nat) (σ : zS) : Option (zS) := s_Office_forget_2 g  zfuel (v0) (0) σ
set_option maxRecDepth 100000 in
theorem t_Office_forget_30 {l : Launch} {D : zD} {g : zG} (hG : zGok g D) {q : zS}   : ∀ (n : Nat) {v0 : Nat} {v1 : Int32} {σ : zS}, s_Office_forget_30 g  n v0 v1 σ = some q → Z l D K_Office_forget 2 45 (.returned none, q) 30 [(0, .ref (v0)), (1, .int (v1))] [] σ := by
  intro n
  induction n with
  | zero =>
    intro v0 v1 σ h
    cases h
  | succ n ih =>
    intro v0 v1 σ h
    first | rw [s_Office_forget_30] at h | (unfold s_Office_forget_30 at h; dsimp only at h)
    refine z_iload_n 1 d_Office_forget_30 rfl rfl ?_
    refine z_aload_n 0 d_Office_forget_31 rfl rfl ?_
    replace h := Option.bind_eq_some_iff.mp h; obtain ⟨x1, e2, h⟩ := h
    refine z_getR wF_NumberOffice_Office_21_4 d_Office_forget_32 e2 ?_
    replace h := Option.bind_eq_some_iff.mp h; obtain ⟨a3, rfl, h⟩ := h
    replace h := Option.bind_eq_some_iff.mp h; obtain ⟨x4, e5, h⟩ := h
    refine z_alen (t := 3) rfl d_Office_forget_35 e5 ?_
    refine z_icmp_ge (tgt := 69) d_Office_forget_36 rfl (fun c6 => ?_) (fun c6 => ?_)
    · rw [if_pos c6] at h
      cases h
      exact z_vret rfl rfl d_Office_forget_69
    · rw [if_neg c6] at h
      refine z_aload_n 0 d_Office_forget_39 rfl rfl ?_
      replace h := Option.bind_eq_some_iff.mp h; obtain ⟨x7, e8, h⟩ := h
      refine z_getR wF_NumberOffice_Office_21_4 d_Office_forget_40 e8 ?_
      refine z_iload_n 1 d_Office_forget_43 rfl rfl ?_
      refine z_aload_n 0 d_Office_forget_44 rfl rfl ?_
      replace h := Option.bind_eq_some_iff.mp h; obtain ⟨x9, e10, h⟩ := h
      refine z_getR wF_NumberOffice_Office_25_4 d_Office_forget_45 e10 ?_
      refine z_iload_n 1 d_Office_forget_48 rfl rfl ?_
      replace h := Option.bind_eq_some_iff.mp h; obtain ⟨a11, rfl, h⟩ := h
      replace h := Option.bind_eq_some_iff.mp h; obtain ⟨x12, e13, h⟩ := h
      refine z_zaload rfl d_Office_forget_49 e13 ?_
      replace h := Option.bind_eq_some_iff.mp h; obtain ⟨a14, rfl, h⟩ := h
      replace h := Option.bind_eq_some_iff.mp h; obtain ⟨σ15, e16, h⟩ := h
      refine z_zastore rfl d_Office_forget_50 e16 ?_
      refine z_aload_n 0 d_Office_forget_51 rfl rfl ?_
      replace h := Option.bind_eq_some_iff.mp h; obtain ⟨x17, e18, h⟩ := h
      refine z_getR wF_NumberOffice_Office_30_4 d_Office_forget_52 e18 ?_
      refine z_iload_n 1 d_Office_forget_55 rfl rfl ?_
      refine z_aload_n 0 d_Office_forget_56 rfl rfl ?_
      replace h := Option.bind_eq_some_iff.mp h; obtain ⟨x19, e20, h⟩ := h
      refine z_getR wF_NumberOffice_Office_34_4 d_Office_forget_57 e20 ?_
      refine z_iload_n 1 d_Office_forget_60 rfl rfl ?_
      replace h := Option.bind_eq_some_iff.mp h; obtain ⟨a21, rfl, h⟩ := h
      replace h := Option.bind_eq_some_iff.mp h; obtain ⟨x22, e23, h⟩ := h
      refine z_aaload rfl d_Office_forget_61 e23 ?_
      replace h := Option.bind_eq_some_iff.mp h; obtain ⟨a24, rfl, h⟩ := h
      replace h := Option.bind_eq_some_iff.mp h; obtain ⟨σ25, e26, h⟩ := h
      refine z_aastore (r := x22) rfl d_Office_forget_62 e26 ?_
      refine z_iinc (v := v1 + 1) (lv' := [(1, .int (v1 + 1)), (0, .ref (v0))]) 1 d_Office_forget_63 rfl rfl (by decide) rfl ?_
      refine z_goto (tgt := 30) d_Office_forget_66 rfl ?_
      refine z_lv (lv' := [(0, .ref (v0)), (1, .int (v1 + 1))]) [1, 0] rfl ?_
      exact ih h
set_option maxRecDepth 100000 in
theorem t_Office_forget_2 {l : Launch} {D : zD} {g : zG} (hG : zGok g D) {q : zS}   : ∀ (n : Nat) {v0 : Nat} {v1 : Int32} {σ : zS}, s_Office_forget_2 g  n v0 v1 σ = some q → Z l D K_Office_forget 2 45 (.returned none, q) 2 [(0, .ref (v0)), (1, .int (v1))] [] σ := by
  intro n
  induction n with
  | zero =>
    intro v0 v1 σ h
    cases h
  | succ n ih =>
    intro v0 v1 σ h
    first | rw [s_Office_forget_2] at h | (unfold s_Office_forget_2 at h; dsimp only at h)
    refine z_iload_n 1 d_Office_forget_2 rfl rfl ?_
    refine z_iconst (v := 3) d_Office_forget_3 rfl ?_
    refine z_icmp_ge (tgt := 28) d_Office_forget_4 rfl (fun c1 => ?_) (fun c1 => ?_)
    · rw [if_pos c1] at h
      refine z_iconst (v := 0) d_Office_forget_28 rfl ?_
      refine z_istore_n (j := 1) (lv' := [(1, .int (0)), (0, .ref (v0))]) d_Office_forget_29 rfl (by decide) rfl ?_
      refine z_lv (lv' := [(0, .ref (v0)), (1, .int (0))]) [1, 0] rfl ?_
      exact t_Office_forget_30 hG   zfuel h
    · rw [if_neg c1] at h
      refine z_aload_n 0 d_Office_forget_7 rfl rfl ?_
      replace h := Option.bind_eq_some_iff.mp h; obtain ⟨x2, e3, h⟩ := h
      refine z_getR wF_NumberOffice_Office_11_4 d_Office_forget_8 e3 ?_
      refine z_iload_n 1 d_Office_forget_11 rfl rfl ?_
      replace h := Option.bind_eq_some_iff.mp h; obtain ⟨a4, rfl, h⟩ := h
      replace h := Option.bind_eq_some_iff.mp h; obtain ⟨x5, e6, h⟩ := h
      refine z_aaload rfl d_Office_forget_12 e6 ?_
      refine z_aload_n 0 d_Office_forget_13 rfl rfl ?_
      replace h := Option.bind_eq_some_iff.mp h; obtain ⟨x7, e8, h⟩ := h
      refine z_getR wF_NumberOffice_Office_17_4 d_Office_forget_14 e8 ?_
      refine z_iload_n 1 d_Office_forget_17 rfl rfl ?_
      replace h := Option.bind_eq_some_iff.mp h; obtain ⟨a9, rfl, h⟩ := h
      replace h := Option.bind_eq_some_iff.mp h; obtain ⟨x10, e11, h⟩ := h
      refine z_aaload rfl d_Office_forget_18 e11 ?_
      replace h := Option.bind_eq_some_iff.mp h; obtain ⟨a12, rfl, h⟩ := h
      replace h := Option.bind_eq_some_iff.mp h; obtain ⟨_, e16, h⟩ := h
      obtain ⟨b17, f18, e16⟩ := zcls_at (zis_at e16)
      replace h := Option.bind_eq_some_iff.mp h; obtain ⟨σ13, e14, h⟩ := h
      refine z_callV (av := [va_rf (x10)]) (st := []) wV_NumberOffice_Office_37 e16 (t_SeriesBook_copyFrom hG e14) (by decide) (by decide) d_Office_forget_19 (by simp [z_rfc, z_ci, z_cl, z_cr, z_cn]) ?_
      show Z _ _ _ _ _ _ 22 [(0, .ref (v0)), (1, .int (v1))] [] _
      refine z_iinc (v := v1 + 1) (lv' := [(1, .int (v1 + 1)), (0, .ref (v0))]) 1 d_Office_forget_22 rfl rfl (by decide) rfl ?_
      refine z_goto (tgt := 2) d_Office_forget_25 rfl ?_
      refine z_lv (lv' := [(0, .ref (v0)), (1, .int (v1 + 1))]) [1, 0] rfl ?_
      exact ih h
set_option maxRecDepth 100000 in
theorem t_Office_forget {l : Launch} {D : zD} {g : zG} (hG : zGok g D) {v0 : Nat} {σ : zS} {q : zS} (h : s_Office_forget g v0 σ = some q) : zMet l D Y_Office_forget K_Office_forget 2 45 [.ref (v0)] σ (.returned none, q) := by
  refine zMet.ofZ (by decide) rfl (fun q => by cases q) (Nat.le_of_ble_eq_true rfl) ?_
  show Z _ _ _ _ _ _ 0 [(0, .ref (v0))] [] _
  unfold s_Office_forget at h
  refine z_iconst (v := 0) d_Office_forget_0 rfl ?_
  refine z_istore_n (j := 1) (lv' := [(1, .int (0)), (0, .ref (v0))]) d_Office_forget_1 rfl (by decide) rfl ?_
  refine z_lv (lv' := [(0, .ref (v0)), (1, .int (0))]) [1, 0] rfl ?_
  exact t_Office_forget_2 hG   zfuel h

def s_Answer_init (g : zG) (v0 : Nat) (v1 : Option Nat) (v2 : Int32) (v3 : Option Nat) (σ : zS) : Option (zS) := (v1).bind fun a1 => (zgI σ a1 9 4).bind fun x2 => (zgI σ a1 9 5).bind fun x4 => (s_Mail_init g v0 3 x2 x4 σ).bind fun σ6 => if v2 = 0 ∨ v2 = 1 then (zpF σ6 v0 6 0 (.int (v2))).bind fun σ9 => (zpF σ9 v0 6 1 (va_rf (v3))).bind fun σ11 => some σ11 else none
set_option maxRecDepth 100000 in
theorem t_Answer_init {l : Launch} {D : zD} {g : zG} (hG : zGok g D) {v0 : Nat} {v1 : Option Nat} {v2 : Int32} {v3 : Option Nat} {σ : zS} {q : zS} (h : s_Answer_init g v0 v1 v2 v3 σ = some q) : zMet l D Y_Answer_init K_Answer_init 2 35 [.ref (v0), va_rf (v1), .int (v2), va_rf (v3)] σ (.returned none, q) := by
  refine zMet.ofZ (by decide) rfl (fun q => rfl) (by simp [lg_sl, z_rfc, z_ci, z_cl, z_cr, z_cn]) ?_
  rw [show lv_args 0 ([.ref (v0), va_rf (v1), .int (v2), va_rf (v3)] : List Value) = [(0, .ref (v0)), (1, va_rf (v1)), (2, .int (v2)), (3, va_rf (v3))] from by simp [lv_args, z_rfc, z_ci, z_cl, z_cr, z_cn]]
  unfold s_Answer_init at h
  refine z_aload_n 0 d_Answer_init_0 rfl rfl ?_
  refine z_iconst (v := 3) d_Answer_init_1 rfl ?_
  refine z_aload_nR 1 d_Answer_init_2 rfl rfl ?_
  replace h := Option.bind_eq_some_iff.mp h; obtain ⟨a1, rfl, h⟩ := h
  replace h := Option.bind_eq_some_iff.mp h; obtain ⟨x2, e3, h⟩ := h
  refine z_getI wF_NumberOffice_Answer_3_9 d_Answer_init_3 e3 ?_
  refine z_aload_n 1 d_Answer_init_6 rfl rfl ?_
  replace h := Option.bind_eq_some_iff.mp h; obtain ⟨x4, e5, h⟩ := h
  refine z_getI wF_NumberOffice_Answer_9_9 d_Answer_init_7 e5 ?_
  replace h := Option.bind_eq_some_iff.mp h; obtain ⟨σ6, e7, h⟩ := h
  refine z_callI (av := [.int (3), .int (x2), .int (x4)]) (st := []) wI_NumberOffice_Answer_12 (t_Mail_init hG e7) (by decide) (by decide) d_Answer_init_10 (by simp [z_rfc, z_ci, z_cl, z_cr, z_cn]) ?_
  show Z _ _ _ _ _ _ 13 [(0, .ref (v0)), (1, .ref (a1)), (2, .int (v2)), (3, va_rf (v3))] [] _
  refine z_aload_n 0 d_Answer_init_13 rfl rfl ?_
  refine z_iload_n 2 d_Answer_init_14 rfl rfl ?_
  by_cases c13 : v2 = 0 ∨ v2 = 1
  rotate_left
  · rw [if_neg c13] at h; cases h
  rw [if_pos c13] at h
  replace h := Option.bind_eq_some_iff.mp h; obtain ⟨σ9, e10, h⟩ := h
  refine z_put wP_NumberOffice_Answer_18_6 (fun _ => rfl) d_Answer_init_15 (z_nb c13) (z_fb c13) e10 ?_
  refine z_aload_n 0 d_Answer_init_18 rfl rfl ?_
  refine z_aload_nR 3 d_Answer_init_19 rfl rfl ?_
  replace h := Option.bind_eq_some_iff.mp h; obtain ⟨σ11, e12, h⟩ := h
  refine z_put wP_NumberOffice_Answer_24_6 (fun _ => rfl) d_Answer_init_20 (z_nr _ _) (z_fr _ _) e12 ?_
  cases h
  exact z_vret rfl rfl d_Answer_init_23

def s_SeriesBook_give_54 (g : zG)  : Nat → Nat → Int32 → Int32 → Int32 → Option Nat → Int32 → zS → Option (Option Nat × zS)
  | 0, _, _, _, _, _, _, _ => none
  | n + 1, v0, v1, v2, v3, v4, v5, σ => (zgI σ v0 5 2).bind fun x1 => if (x1 + v3) ≤ v5 then (zgI σ v0 5 2).bind fun x4 => (zpF σ v0 5 2 (.int (x4 + v3))).bind fun σ6 => some (v4, σ6) else (zgR σ v0 5 3).bind fun x8 => (x8).bind fun a10 => (zsI σ a10 0 (v5) (v1)).bind fun σ11 => (zgR σ11 v0 5 4).bind fun x13 => (x13).bind fun a15 => (zsI σ11 a15 0 (v5) (1)).bind fun σ16 => s_SeriesBook_give_54 g  n (v0) (v1) (v2) (v3) (v4) (v5 + 1) σ16
def s_SeriesBook_give_24 (g : zG)  (v0 : Nat) (v1 : Int32) (v2 : Int32) (w0 : Int32) (σ : zS) : Option (Option Nat × zS) := if 1 ≤ w0 then (some (znew σ 2 (.inr (7, [.int 0, .int 0])))).bind fun σ2 => (zgI σ2 v0 5 2).bind fun x3 => (s_Block_init g (σ.1) (x3 + 1) w0 σ2).bind fun σ5 => (zgI σ5 v0 5 2).bind fun x8 => s_SeriesBook_give_54 g  zfuel (v0) (v1) (v2) (w0) (some (σ.1)) (x8) σ5 else some (none, σ)
def s_SeriesBook_give (g : zG) (v0 : Nat) (v1 : Int32) (v2 : Int32) (σ : zS) : Option (Option Nat × zS) := (zgI σ v0 5 0).bind fun x1 => if x1 = 1 then (zgI σ v0 5 2).bind fun x4 => (some (if (300 - x4) < v2 then (300 - x4) else v2)).bind fun x6 => s_SeriesBook_give_24 g  (v0) (v1) (v2) (x6) σ else s_SeriesBook_give_24 g  (v0) (v1) (v2) (0) σ
set_option maxRecDepth 100000 in
theorem t_SeriesBook_give_54 {l : Launch} {D : zD} {g : zG} (hG : zGok g D) {q : Option Nat × zS}   : ∀ (n : Nat) {v0 : Nat} {v1 : Int32} {v2 : Int32} {v3 : Int32} {v4 : Option Nat} {v5 : Int32} {σ : zS}, s_SeriesBook_give_54 g  n v0 v1 v2 v3 v4 v5 σ = some q → Z l D K_SeriesBook_give 2 34 (.returned (some (va_rf q.1)), q.2) 54 [(0, .ref (v0)), (1, .int (v1)), (2, .int (v2)), (3, .int (v3)), (4, va_rf (v4)), (5, .int (v5))] [] σ := by
  intro n
  induction n with
  | zero =>
    intro v0 v1 v2 v3 v4 v5 σ h
    cases h
  | succ n ih =>
    intro v0 v1 v2 v3 v4 v5 σ h
    first | rw [s_SeriesBook_give_54] at h | (unfold s_SeriesBook_give_54 at h; dsimp only at h)
    refine z_iload 5 d_SeriesBook_give_54 rfl ?_
    refine z_aload_n 0 d_SeriesBook_give_56 rfl rfl ?_
    replace h := Option.bind_eq_some_iff.mp h; obtain ⟨x1, e2, h⟩ := h
    refine z_getI wF_NumberOffice_SeriesBook_38_5 d_SeriesBook_give_57 e2 ?_
    refine z_iload_n 3 d_SeriesBook_give_60 rfl rfl ?_
    refine z_iadd d_SeriesBook_give_61 ?_
    refine z_icmp_ge (tgt := 87) d_SeriesBook_give_62 rfl (fun c3 => ?_) (fun c3 => ?_)
    · rw [if_pos c3] at h
      refine z_aload_n 0 d_SeriesBook_give_87 rfl rfl ?_
      refine z_dup d_SeriesBook_give_88 rfl ?_
      replace h := Option.bind_eq_some_iff.mp h; obtain ⟨x4, e5, h⟩ := h
      refine z_getI wF_NumberOffice_SeriesBook_38_5 d_SeriesBook_give_89 e5 ?_
      refine z_iload_n 3 d_SeriesBook_give_92 rfl rfl ?_
      refine z_iadd d_SeriesBook_give_93 ?_
      replace h := Option.bind_eq_some_iff.mp h; obtain ⟨σ6, e7, h⟩ := h
      refine z_put wP_NumberOffice_SeriesBook_38_5 (fun q => by cases q) d_SeriesBook_give_94 rfl rfl e7 ?_
      refine z_aloadR 4 d_SeriesBook_give_97 rfl ?_
      cases h
      exact z_aret (r := v4) rfl (Or.inl ⟨_, rfl⟩) rfl d_SeriesBook_give_99
    · rw [if_neg c3] at h
      refine z_aload_n 0 d_SeriesBook_give_65 rfl rfl ?_
      replace h := Option.bind_eq_some_iff.mp h; obtain ⟨x8, e9, h⟩ := h
      refine z_getR wF_NumberOffice_SeriesBook_15_5 d_SeriesBook_give_66 e9 ?_
      refine z_iload 5 d_SeriesBook_give_69 rfl ?_
      refine z_iload_n 1 d_SeriesBook_give_71 rfl rfl ?_
      replace h := Option.bind_eq_some_iff.mp h; obtain ⟨a10, rfl, h⟩ := h
      replace h := Option.bind_eq_some_iff.mp h; obtain ⟨σ11, e12, h⟩ := h
      refine z_iastore rfl d_SeriesBook_give_72 e12 ?_
      refine z_aload_n 0 d_SeriesBook_give_73 rfl rfl ?_
      replace h := Option.bind_eq_some_iff.mp h; obtain ⟨x13, e14, h⟩ := h
      refine z_getR wF_NumberOffice_SeriesBook_19_5 d_SeriesBook_give_74 e14 ?_
      refine z_iload 5 d_SeriesBook_give_77 rfl ?_
      refine z_iconst (v := 1) d_SeriesBook_give_79 rfl ?_
      replace h := Option.bind_eq_some_iff.mp h; obtain ⟨a15, rfl, h⟩ := h
      replace h := Option.bind_eq_some_iff.mp h; obtain ⟨σ16, e17, h⟩ := h
      refine z_iastore rfl d_SeriesBook_give_80 e17 ?_
      refine z_iinc (v := v5 + 1) (lv' := [(5, .int (v5 + 1)), (0, .ref (v0)), (1, .int (v1)), (2, .int (v2)), (3, .int (v3)), (4, va_rf (v4))]) 5 d_SeriesBook_give_81 rfl rfl (by decide) (by simp [z_rfc, z_ci, z_cl, z_cr, z_cn] <;> rfl) ?_
      refine z_goto (tgt := 54) d_SeriesBook_give_84 rfl ?_
      refine z_lv (lv' := [(0, .ref (v0)), (1, .int (v1)), (2, .int (v2)), (3, .int (v3)), (4, va_rf (v4)), (5, .int (v5 + 1))]) [1, 2, 3, 4, 5, 0] rfl ?_
      exact ih h
set_option maxRecDepth 100000 in
theorem t_SeriesBook_give_24 {l : Launch} {D : zD} {g : zG} (hG : zGok g D) {q : Option Nat × zS}   {v0 : Nat} {v1 : Int32} {v2 : Int32} {w0 : Int32} {σ : zS} (h : s_SeriesBook_give_24 g  v0 v1 v2 w0 σ = some q) : Z l D K_SeriesBook_give 2 34 (.returned (some (va_rf q.1)), q.2) 24 [(0, .ref (v0)), (1, .int (v1)), (2, .int (v2))] [.int (w0)] σ := by
  unfold s_SeriesBook_give_24 at h
  refine z_istore_n (j := 3) (lv' := [(3, .int (w0)), (0, .ref (v0)), (1, .int (v1)), (2, .int (v2))]) d_SeriesBook_give_24 rfl (by decide) rfl ?_
  refine z_iload_n 0 d_SeriesBook_give_25 rfl rfl ?_
  refine z_iconst (v := 1) d_SeriesBook_give_26 rfl ?_
  refine z_icmp_ge (tgt := 32) d_SeriesBook_give_27 rfl (fun c1 => ?_) (fun c1 => ?_)
  · rw [if_pos c1] at h
    replace h := Option.bind_eq_some_iff.mp h; obtain ⟨σ2, e2, h⟩ := h
    refine z_new wN_NumberOffice_SeriesBook_64 d_SeriesBook_give_32 ?_
    rw [Option.some.inj e2]
    refine z_dup d_SeriesBook_give_35 rfl ?_
    refine z_aload_n 1 d_SeriesBook_give_36 rfl rfl ?_
    replace h := Option.bind_eq_some_iff.mp h; obtain ⟨x3, e4, h⟩ := h
    refine z_getI wF_NumberOffice_SeriesBook_38_5 d_SeriesBook_give_37 e4 ?_
    refine z_iconst (v := 1) d_SeriesBook_give_40 rfl ?_
    refine z_iadd d_SeriesBook_give_41 ?_
    refine z_iload_n 0 d_SeriesBook_give_42 rfl rfl ?_
    replace h := Option.bind_eq_some_iff.mp h; obtain ⟨σ5, e6, h⟩ := h
    refine z_callI (av := [.int (x3 + 1), .int (w0)]) (st := [.ref (σ.1)]) wI_NumberOffice_SeriesBook_66 (t_Block_init hG e6) (by decide) (by decide) d_SeriesBook_give_43 (by simp [z_rfc, z_ci, z_cl, z_cr, z_cn]) ?_
    show Z _ _ _ _ _ _ 46 [(3, .int (w0)), (0, .ref (v0)), (1, .int (v1)), (2, .int (v2))] [.ref (σ.1)] _
    refine z_astore (j := 4) (lv' := [(4, .ref (σ.1)), (3, .int (w0)), (0, .ref (v0)), (1, .int (v1)), (2, .int (v2))]) d_SeriesBook_give_46 (by decide) rfl ?_
    refine z_aload_n 2 d_SeriesBook_give_48 rfl rfl ?_
    replace h := Option.bind_eq_some_iff.mp h; obtain ⟨x8, e9, h⟩ := h
    refine z_getI wF_NumberOffice_SeriesBook_38_5 d_SeriesBook_give_49 e9 ?_
    refine z_istore (j := 5) (lv' := [(5, .int (x8)), (4, .ref (σ.1)), (3, .int (w0)), (0, .ref (v0)), (1, .int (v1)), (2, .int (v2))]) d_SeriesBook_give_52 (by decide) rfl ?_
    refine z_lv (lv' := [(0, .ref (v0)), (1, .int (v1)), (2, .int (v2)), (3, .int (w0)), (4, va_rf (some (σ.1))), (5, .int (x8))]) [3, 4, 5, 2, 1, 0] rfl ?_
    exact t_SeriesBook_give_54 hG   zfuel h
  · rw [if_neg c1] at h
    refine z_null d_SeriesBook_give_30 ?_
    cases h
    exact z_aret (r := none) rfl (Or.inl ⟨_, rfl⟩) rfl d_SeriesBook_give_31
set_option maxRecDepth 100000 in
theorem t_SeriesBook_give {l : Launch} {D : zD} {g : zG} (hG : zGok g D) {v0 : Nat} {v1 : Int32} {v2 : Int32} {σ : zS} {q : Option Nat × zS} (h : s_SeriesBook_give g v0 v1 v2 σ = some q) : zMet l D Y_SeriesBook_give K_SeriesBook_give 2 34 [.ref (v0), .int (v1), .int (v2)] σ (.returned (some (va_rf q.1)), q.2) := by
  refine zMet.ofZ (by decide) rfl (fun q => by cases q) (Nat.le_of_ble_eq_true rfl) ?_
  show Z _ _ _ _ _ _ 0 [(0, .ref (v0)), (1, .int (v1)), (2, .int (v2))] [] _
  unfold s_SeriesBook_give at h
  refine z_aload_n 0 d_SeriesBook_give_0 rfl rfl ?_
  replace h := Option.bind_eq_some_iff.mp h; obtain ⟨x1, e2, h⟩ := h
  refine z_getI wF_NumberOffice_SeriesBook_11_5 d_SeriesBook_give_1 e2 ?_
  refine z_iconst (v := 1) d_SeriesBook_give_4 rfl ?_
  refine z_icmp_ne (tgt := 23) d_SeriesBook_give_5 rfl (fun c3 => ?_) (fun c3 => ?_)
  · rw [if_neg c3] at h
    refine z_iconst (v := 0) d_SeriesBook_give_23 rfl ?_
    refine z_lv (lv' := [(0, .ref (v0)), (1, .int (v1)), (2, .int (v2))]) [0, 1, 2] rfl ?_
    exact t_SeriesBook_give_24 hG   h
  · rw [if_pos c3] at h
    refine z_iload_n 2 d_SeriesBook_give_8 rfl rfl ?_
    refine z_sipush (v := 300) d_SeriesBook_give_9 rfl ?_
    refine z_aload_n 0 d_SeriesBook_give_12 rfl rfl ?_
    replace h := Option.bind_eq_some_iff.mp h; obtain ⟨x4, e5, h⟩ := h
    refine z_getI wF_NumberOffice_SeriesBook_38_5 d_SeriesBook_give_13 e5 ?_
    refine z_isub d_SeriesBook_give_16 ?_
    replace h := Option.bind_eq_some_iff.mp h; obtain ⟨x6, e7, h⟩ := h
    refine z_mmin (x := v2) (y := 300 - x4) wM_NumberOffice_SeriesBook_58 wMs_min wMi wMc_min (by decide) (by simp [z_rfc, z_ci, z_cl, z_cr, z_cn]) d_SeriesBook_give_17 ?_
    rw [Option.some.inj e7]
    refine z_goto (tgt := 24) d_SeriesBook_give_20 rfl ?_
    refine z_lv (lv' := [(0, .ref (v0)), (1, .int (v1)), (2, .int (v2))]) [0, 1, 2] rfl ?_
    exact t_SeriesBook_give_24 hG   h

def s_SeriesBook_fateOf_20 (g : zG)  (v0 : Nat) (v1 : Int32) (w0 : Int32) (σ : zS) : Option (Int32 × zS) := some (w0, σ)
def s_SeriesBook_fateOf (g : zG) (v0 : Nat) (v1 : Int32) (σ : zS) : Option (Int32 × zS) := (zis σ v0 5).bind fun _ => (s_SeriesBook_isGiven g v0 v1 σ).bind fun (x3, σ1) => if x3 = 0 then s_SeriesBook_fateOf_20 g  (v0) (v1) (0) σ1 else (zgR σ1 v0 5 4).bind fun x5 => (x5).bind fun a7 => (zaI σ1 a7 0 (v1 - 1)).bind fun x8 => s_SeriesBook_fateOf_20 g  (v0) (v1) (x8) σ1
set_option maxRecDepth 100000 in
theorem t_SeriesBook_fateOf_20 {l : Launch} {D : zD} {g : zG} (hG : zGok g D) {q : Int32 × zS}   {v0 : Nat} {v1 : Int32} {w0 : Int32} {σ : zS} (h : s_SeriesBook_fateOf_20 g  v0 v1 w0 σ = some q) : Z l D K_SeriesBook_fateOf 1 21 (.returned (some (.int q.1)), q.2) 20 [(0, .ref (v0)), (1, .int (v1))] [.int (w0)] σ := by
  unfold s_SeriesBook_fateOf_20 at h
  cases h
  exact z_iret rfl rfl d_SeriesBook_fateOf_20
set_option maxRecDepth 100000 in
theorem t_SeriesBook_fateOf {l : Launch} {D : zD} {g : zG} (hG : zGok g D) {v0 : Nat} {v1 : Int32} {σ : zS} {q : Int32 × zS} (h : s_SeriesBook_fateOf g v0 v1 σ = some q) : zMet l D Y_SeriesBook_fateOf K_SeriesBook_fateOf 1 21 [.ref (v0), .int (v1)] σ (.returned (some (.int q.1)), q.2) := by
  refine zMet.ofZ (by decide) rfl (fun q => by cases q) (Nat.le_of_ble_eq_true rfl) ?_
  show Z _ _ _ _ _ _ 0 [(0, .ref (v0)), (1, .int (v1))] [] _
  unfold s_SeriesBook_fateOf at h
  refine z_aload_n 0 d_SeriesBook_fateOf_0 rfl rfl ?_
  refine z_iload_n 1 d_SeriesBook_fateOf_1 rfl rfl ?_
  replace h := Option.bind_eq_some_iff.mp h; obtain ⟨_, e10, h⟩ := h
  obtain ⟨b11, f12, e10⟩ := zcls_at (zis_at e10)
  replace h := Option.bind_eq_some_iff.mp h; obtain ⟨⟨x3, σ1⟩, e2, h⟩ := h
  dsimp only at h
  refine z_callV (av := [.int (v1)]) (st := []) wV_NumberOffice_SeriesBook_54 e10 (t_SeriesBook_isGiven hG e2) (by decide) (by decide) d_SeriesBook_fateOf_2 (by simp [z_rfc, z_ci, z_cl, z_cr, z_cn]) ?_
  show Z _ _ _ _ _ _ 5 [(0, .ref (v0)), (1, .int (v1))] [.int (x3)] _
  refine z_if_eq (tgt := 19) d_SeriesBook_fateOf_5 rfl (fun c4 => ?_) (fun c4 => ?_)
  · rw [if_pos c4] at h
    refine z_iconst (v := 0) d_SeriesBook_fateOf_19 rfl ?_
    refine z_lv (lv' := [(0, .ref (v0)), (1, .int (v1))]) [0, 1] rfl ?_
    exact t_SeriesBook_fateOf_20 hG   h
  · rw [if_neg c4] at h
    refine z_aload_n 0 d_SeriesBook_fateOf_8 rfl rfl ?_
    replace h := Option.bind_eq_some_iff.mp h; obtain ⟨x5, e6, h⟩ := h
    refine z_getR wF_NumberOffice_SeriesBook_19_5 d_SeriesBook_fateOf_9 e6 ?_
    refine z_iload_n 1 d_SeriesBook_fateOf_12 rfl rfl ?_
    refine z_iconst (v := 1) d_SeriesBook_fateOf_13 rfl ?_
    refine z_isub d_SeriesBook_fateOf_14 ?_
    replace h := Option.bind_eq_some_iff.mp h; obtain ⟨a7, rfl, h⟩ := h
    replace h := Option.bind_eq_some_iff.mp h; obtain ⟨x8, e9, h⟩ := h
    refine z_iaload rfl d_SeriesBook_fateOf_15 e9 ?_
    refine z_goto (tgt := 20) d_SeriesBook_fateOf_16 rfl ?_
    refine z_lv (lv' := [(0, .ref (v0)), (1, .int (v1))]) [0, 1] rfl ?_
    exact t_SeriesBook_fateOf_20 hG   h

def s_BranchSeries_fateOf_46 (g : zG)  (v0 : Nat) (v1 : Int32) (v2 : Int32) (v3 : Option Nat) (w0 : Int32) (σ : zS) : Option (Int32 × zS) := some (w0, σ)
def s_BranchSeries_fateOf_55 (g : zG)  : Nat → Nat → Int32 → Int32 → zS → Option (Int32 × zS)
  | 0, _, _, _, _ => none
  | n + 1, v0, v1, v2, σ => (zgR σ v0 2 0).bind fun x1 => (x1).bind fun a3 => (zis σ a3 3).bind fun _ => (s_ArrayList_size g a3  σ).bind fun (x6, σ4) => if x6 ≤ v2 then some (0, σ4) else (zgR σ4 v0 2 0).bind fun x8 => (x8).bind fun a10 => (zis σ4 a10 3).bind fun _ => (s_ArrayList_get g a10 v2 σ4).bind fun (x13, σ11) => (x13).bind fun a14 => (zis σ11 a14 7).bind fun _ => (zis σ11 a14 7).bind fun _ => (s_Block_holds g a14 v1 σ11).bind fun (x18, σ16) => if x18 = 0 then s_BranchSeries_fateOf_55 g  n (v0) (v1) (v2 + 1) σ16 else some (1, σ16)
def s_BranchSeries_fateOf_10 (g : zG)  : Nat → Nat → Int32 → Int32 → zS → Option (Int32 × zS)
  | 0, _, _, _, _ => none
  | n + 1, v0, v1, v2, σ => if v2 < 0 then s_BranchSeries_fateOf_55 g  zfuel (v0) (v1) (0) σ else (zgR σ v0 2 1).bind fun x2 => (x2).bind fun a4 => (zis σ a4 3).bind fun _ => (s_ArrayList_get g a4 v2 σ).bind fun (x7, σ5) => (x7).bind fun a8 => (zis σ5 a8 10).bind fun _ => (zgI σ5 a8 10 0).bind fun x10 => if x10 = v1 then (zgI σ5 a8 10 1).bind fun x13 => if x13 = 0 then s_BranchSeries_fateOf_46 g  (v0) (v1) (v2) (some (a8)) (3) σ5 else s_BranchSeries_fateOf_46 g  (v0) (v1) (v2) (some (a8)) (2) σ5 else s_BranchSeries_fateOf_10 g  n (v0) (v1) (v2 + (-1)) σ5
def s_BranchSeries_fateOf (g : zG) (v0 : Nat) (v1 : Int32) (σ : zS) : Option (Int32 × zS) := (zgR σ v0 2 1).bind fun x1 => (x1).bind fun a3 => (zis σ a3 3).bind fun _ => (s_ArrayList_size g a3  σ).bind fun (x6, σ4) => s_BranchSeries_fateOf_10 g  zfuel (v0) (v1) (x6 - 1) σ4
set_option maxRecDepth 100000 in
theorem t_BranchSeries_fateOf_46 {l : Launch} {D : zD} {g : zG} (hG : zGok g D) {q : Int32 × zS}   {v0 : Nat} {v1 : Int32} {v2 : Int32} {v3 : Option Nat} {w0 : Int32} {σ : zS} (h : s_BranchSeries_fateOf_46 g  v0 v1 v2 v3 w0 σ = some q) : Z l D K_BranchSeries_fateOf 3 64 (.returned (some (.int q.1)), q.2) 46 [(0, .ref (v0)), (1, .int (v1)), (2, .int (v2)), (3, va_rf (v3))] [.int (w0)] σ := by
  unfold s_BranchSeries_fateOf_46 at h
  cases h
  exact z_iret rfl rfl d_BranchSeries_fateOf_46
set_option maxRecDepth 100000 in
theorem t_BranchSeries_fateOf_55 {l : Launch} {D : zD} {g : zG} (hG : zGok g D) {q : Int32 × zS}   : ∀ (n : Nat) {v0 : Nat} {v1 : Int32} {v2 : Int32} {σ : zS}, s_BranchSeries_fateOf_55 g  n v0 v1 v2 σ = some q → Z l D K_BranchSeries_fateOf 3 64 (.returned (some (.int q.1)), q.2) 55 [(0, .ref (v0)), (1, .int (v1)), (2, .int (v2))] [] σ := by
  intro n
  induction n with
  | zero =>
    intro v0 v1 v2 σ h
    cases h
  | succ n ih =>
    intro v0 v1 v2 σ h
    first | rw [s_BranchSeries_fateOf_55] at h | (unfold s_BranchSeries_fateOf_55 at h; dsimp only at h)
    refine z_iload_n 2 d_BranchSeries_fateOf_55 rfl rfl ?_
    refine z_aload_n 0 d_BranchSeries_fateOf_56 rfl rfl ?_
    replace h := Option.bind_eq_some_iff.mp h; obtain ⟨x1, e2, h⟩ := h
    refine z_getR wF_NumberOffice_BranchSeries_12_2 d_BranchSeries_fateOf_57 e2 ?_
    replace h := Option.bind_eq_some_iff.mp h; obtain ⟨a3, rfl, h⟩ := h
    replace h := Option.bind_eq_some_iff.mp h; obtain ⟨_, e26, h⟩ := h
    obtain ⟨b27, f28, e26⟩ := zcls_at (zis_at e26)
    replace h := Option.bind_eq_some_iff.mp h; obtain ⟨⟨x6, σ4⟩, e5, h⟩ := h
    dsimp only at h
    refine z_callV (av := []) (st := [.int (v2)]) wV_NumberOffice_BranchSeries_21 e26 (t_ArrayList_size hG e5) (by decide) (by decide) d_BranchSeries_fateOf_60 (by simp [z_rfc, z_ci, z_cl, z_cr, z_cn]) ?_
    show Z _ _ _ _ _ _ 63 [(0, .ref (v0)), (1, .int (v1)), (2, .int (v2))] [.int (x6), .int (v2)] _
    refine z_icmp_ge (tgt := 92) d_BranchSeries_fateOf_63 rfl (fun c7 => ?_) (fun c7 => ?_)
    · rw [if_pos c7] at h
      refine z_iconst (v := 0) d_BranchSeries_fateOf_92 rfl ?_
      cases h
      exact z_iret rfl rfl d_BranchSeries_fateOf_93
    · rw [if_neg c7] at h
      refine z_aload_n 0 d_BranchSeries_fateOf_66 rfl rfl ?_
      replace h := Option.bind_eq_some_iff.mp h; obtain ⟨x8, e9, h⟩ := h
      refine z_getR wF_NumberOffice_BranchSeries_12_2 d_BranchSeries_fateOf_67 e9 ?_
      refine z_iload_n 2 d_BranchSeries_fateOf_70 rfl rfl ?_
      replace h := Option.bind_eq_some_iff.mp h; obtain ⟨a10, rfl, h⟩ := h
      replace h := Option.bind_eq_some_iff.mp h; obtain ⟨_, e23, h⟩ := h
      obtain ⟨b24, f25, e23⟩ := zcls_at (zis_at e23)
      replace h := Option.bind_eq_some_iff.mp h; obtain ⟨⟨x13, σ11⟩, e12, h⟩ := h
      dsimp only at h
      refine z_callV (av := [.int (v2)]) (st := []) wV_NumberOffice_BranchSeries_63 e23 (t_ArrayList_get hG e12) (by decide) (by decide) d_BranchSeries_fateOf_71 (by simp [z_rfc, z_ci, z_cl, z_cr, z_cn]) ?_
      show Z _ _ _ _ _ _ 74 [(0, .ref (v0)), (1, .int (v1)), (2, .int (v2))] [va_rf (x13)] _
      replace h := Option.bind_eq_some_iff.mp h; obtain ⟨a14, rfl, h⟩ := h
      replace h := Option.bind_eq_some_iff.mp h; obtain ⟨_, e15, h⟩ := h
      refine z_cast wK_NumberOffice_BranchSeries_66_7 d_BranchSeries_fateOf_74 (zis_at e15) ?_
      refine z_iload_n 1 d_BranchSeries_fateOf_77 rfl rfl ?_
      replace h := Option.bind_eq_some_iff.mp h; obtain ⟨_, e20, h⟩ := h
      obtain ⟨b21, f22, e20⟩ := zcls_at (zis_at e20)
      replace h := Option.bind_eq_some_iff.mp h; obtain ⟨⟨x18, σ16⟩, e17, h⟩ := h
      dsimp only at h
      refine z_callV (av := [.int (v1)]) (st := []) wV_NumberOffice_BranchSeries_88 e20 (t_Block_holds hG e17) (by decide) (by decide) d_BranchSeries_fateOf_78 (by simp [z_rfc, z_ci, z_cl, z_cr, z_cn]) ?_
      show Z _ _ _ _ _ _ 81 [(0, .ref (v0)), (1, .int (v1)), (2, .int (v2))] [.int (x18)] _
      refine z_if_eq (tgt := 86) d_BranchSeries_fateOf_81 rfl (fun c19 => ?_) (fun c19 => ?_)
      · rw [if_pos c19] at h
        refine z_iinc (v := v2 + 1) (lv' := [(2, .int (v2 + 1)), (0, .ref (v0)), (1, .int (v1))]) 2 d_BranchSeries_fateOf_86 rfl rfl (by decide) rfl ?_
        refine z_goto (tgt := 55) d_BranchSeries_fateOf_89 rfl ?_
        refine z_lv (lv' := [(0, .ref (v0)), (1, .int (v1)), (2, .int (v2 + 1))]) [1, 2, 0] rfl ?_
        exact ih h
      · rw [if_neg c19] at h
        refine z_iconst (v := 1) d_BranchSeries_fateOf_84 rfl ?_
        cases h
        exact z_iret rfl rfl d_BranchSeries_fateOf_85
set_option maxRecDepth 100000 in
theorem t_BranchSeries_fateOf_10 {l : Launch} {D : zD} {g : zG} (hG : zGok g D) {q : Int32 × zS}   : ∀ (n : Nat) {v0 : Nat} {v1 : Int32} {v2 : Int32} {σ : zS}, s_BranchSeries_fateOf_10 g  n v0 v1 v2 σ = some q → Z l D K_BranchSeries_fateOf 3 64 (.returned (some (.int q.1)), q.2) 10 [(0, .ref (v0)), (1, .int (v1)), (2, .int (v2))] [] σ := by
  intro n
  induction n with
  | zero =>
    intro v0 v1 v2 σ h
    cases h
  | succ n ih =>
    intro v0 v1 v2 σ h
    first | rw [s_BranchSeries_fateOf_10] at h | (unfold s_BranchSeries_fateOf_10 at h; dsimp only at h)
    refine z_iload_n 2 d_BranchSeries_fateOf_10 rfl rfl ?_
    refine z_if_lt (tgt := 53) d_BranchSeries_fateOf_11 rfl (fun c1 => ?_) (fun c1 => ?_)
    · rw [if_pos c1] at h
      refine z_iconst (v := 0) d_BranchSeries_fateOf_53 rfl ?_
      refine z_istore_n (j := 2) (lv' := [(2, .int (0)), (0, .ref (v0)), (1, .int (v1))]) d_BranchSeries_fateOf_54 rfl (by decide) rfl ?_
      refine z_lv (lv' := [(0, .ref (v0)), (1, .int (v1)), (2, .int (0))]) [1, 2, 0] rfl ?_
      exact t_BranchSeries_fateOf_55 hG   zfuel h
    · rw [if_neg c1] at h
      refine z_aload_n 0 d_BranchSeries_fateOf_14 rfl rfl ?_
      replace h := Option.bind_eq_some_iff.mp h; obtain ⟨x2, e3, h⟩ := h
      refine z_getR wF_NumberOffice_BranchSeries_18_2 d_BranchSeries_fateOf_15 e3 ?_
      refine z_iload_n 2 d_BranchSeries_fateOf_18 rfl rfl ?_
      replace h := Option.bind_eq_some_iff.mp h; obtain ⟨a4, rfl, h⟩ := h
      replace h := Option.bind_eq_some_iff.mp h; obtain ⟨_, e16, h⟩ := h
      obtain ⟨b17, f18, e16⟩ := zcls_at (zis_at e16)
      replace h := Option.bind_eq_some_iff.mp h; obtain ⟨⟨x7, σ5⟩, e6, h⟩ := h
      dsimp only at h
      refine z_callV (av := [.int (v2)]) (st := []) wV_NumberOffice_BranchSeries_63 e16 (t_ArrayList_get hG e6) (by decide) (by decide) d_BranchSeries_fateOf_19 (by simp [z_rfc, z_ci, z_cl, z_cr, z_cn]) ?_
      show Z _ _ _ _ _ _ 22 [(0, .ref (v0)), (1, .int (v1)), (2, .int (v2))] [va_rf (x7)] _
      replace h := Option.bind_eq_some_iff.mp h; obtain ⟨a8, rfl, h⟩ := h
      replace h := Option.bind_eq_some_iff.mp h; obtain ⟨_, e9, h⟩ := h
      refine z_cast wK_NumberOffice_BranchSeries_54_10 d_BranchSeries_fateOf_22 (zis_at e9) ?_
      refine z_astore_n (j := 3) (lv' := [(3, .ref (a8)), (0, .ref (v0)), (1, .int (v1)), (2, .int (v2))]) d_BranchSeries_fateOf_25 rfl (by decide) rfl ?_
      refine z_aload_n 0 d_BranchSeries_fateOf_26 rfl rfl ?_
      replace h := Option.bind_eq_some_iff.mp h; obtain ⟨x10, e11, h⟩ := h
      refine z_getI wF_NumberOffice_BranchSeries_85_10 d_BranchSeries_fateOf_27 e11 ?_
      refine z_iload_n 2 d_BranchSeries_fateOf_30 rfl rfl ?_
      refine z_icmp_ne (tgt := 47) d_BranchSeries_fateOf_31 rfl (fun c12 => ?_) (fun c12 => ?_)
      · rw [if_neg c12] at h
        refine z_iinc (v := v2 + (-1)) (lv' := [(2, .int (v2 + (-1))), (3, .ref (a8)), (0, .ref (v0)), (1, .int (v1))]) 3 d_BranchSeries_fateOf_47 rfl rfl (by decide) rfl ?_
        refine z_goto (tgt := 10) d_BranchSeries_fateOf_50 rfl ?_
        refine z_lv (lv' := [(0, .ref (v0)), (1, .int (v1)), (2, .int (v2 + (-1)))]) [2, 3, 0] rfl ?_
        exact ih h
      · rw [if_pos c12] at h
        refine z_aload_n 0 d_BranchSeries_fateOf_34 rfl rfl ?_
        replace h := Option.bind_eq_some_iff.mp h; obtain ⟨x13, e14, h⟩ := h
        refine z_getI wF_NumberOffice_BranchSeries_81_10 d_BranchSeries_fateOf_35 e14 ?_
        refine z_if_eq (tgt := 45) d_BranchSeries_fateOf_38 rfl (fun c15 => ?_) (fun c15 => ?_)
        · rw [if_pos c15] at h
          refine z_iconst (v := 3) d_BranchSeries_fateOf_45 rfl ?_
          refine z_lv (lv' := [(0, .ref (v0)), (1, .int (v1)), (2, .int (v2)), (3, va_rf (some (a8)))]) [1, 2, 3, 0] rfl ?_
          exact t_BranchSeries_fateOf_46 hG   h
        · rw [if_neg c15] at h
          refine z_iconst (v := 2) d_BranchSeries_fateOf_41 rfl ?_
          refine z_goto (tgt := 46) d_BranchSeries_fateOf_42 rfl ?_
          refine z_lv (lv' := [(0, .ref (v0)), (1, .int (v1)), (2, .int (v2)), (3, va_rf (some (a8)))]) [1, 2, 3, 0] rfl ?_
          exact t_BranchSeries_fateOf_46 hG   h
set_option maxRecDepth 100000 in
theorem t_BranchSeries_fateOf {l : Launch} {D : zD} {g : zG} (hG : zGok g D) {v0 : Nat} {v1 : Int32} {σ : zS} {q : Int32 × zS} (h : s_BranchSeries_fateOf g v0 v1 σ = some q) : zMet l D Y_BranchSeries_fateOf K_BranchSeries_fateOf 3 64 [.ref (v0), .int (v1)] σ (.returned (some (.int q.1)), q.2) := by
  refine zMet.ofZ (by decide) rfl (fun q => by cases q) (Nat.le_of_ble_eq_true rfl) ?_
  show Z _ _ _ _ _ _ 0 [(0, .ref (v0)), (1, .int (v1))] [] _
  unfold s_BranchSeries_fateOf at h
  refine z_aload_n 0 d_BranchSeries_fateOf_0 rfl rfl ?_
  replace h := Option.bind_eq_some_iff.mp h; obtain ⟨x1, e2, h⟩ := h
  refine z_getR wF_NumberOffice_BranchSeries_18_2 d_BranchSeries_fateOf_1 e2 ?_
  replace h := Option.bind_eq_some_iff.mp h; obtain ⟨a3, rfl, h⟩ := h
  replace h := Option.bind_eq_some_iff.mp h; obtain ⟨_, e7, h⟩ := h
  obtain ⟨b8, f9, e7⟩ := zcls_at (zis_at e7)
  replace h := Option.bind_eq_some_iff.mp h; obtain ⟨⟨x6, σ4⟩, e5, h⟩ := h
  dsimp only at h
  refine z_callV (av := []) (st := []) wV_NumberOffice_BranchSeries_21 e7 (t_ArrayList_size hG e5) (by decide) (by decide) d_BranchSeries_fateOf_4 (by simp [z_rfc, z_ci, z_cl, z_cr, z_cn]) ?_
  show Z _ _ _ _ _ _ 7 [(0, .ref (v0)), (1, .int (v1))] [.int (x6)] _
  refine z_iconst (v := 1) d_BranchSeries_fateOf_7 rfl ?_
  refine z_isub d_BranchSeries_fateOf_8 ?_
  refine z_istore_n (j := 2) (lv' := [(2, .int (x6 - 1)), (0, .ref (v0)), (1, .int (v1))]) d_BranchSeries_fateOf_9 rfl (by decide) rfl ?_
  refine z_lv (lv' := [(0, .ref (v0)), (1, .int (v1)), (2, .int (x6 - 1))]) [1, 2, 0] rfl ?_
  exact t_BranchSeries_fateOf_10 hG   zfuel h

def s_No_branch_17 (g : zG)  (v0 : Nat) (v1 : Int32) (v2 : Int32) (v3 : Option Nat) (σ : zS) : Option (Int32 × zS) := some ((-1), σ)
def s_No_branch_72 (g : zG)  (v0 : Nat) (v1 : Int32) (v2 : Int32) (v3 : Option Nat) (w0 : Int32) (σ : zS) : Option (Int32 × zS) := some (w0, σ)
def s_No_branch_90 (g : zG)  (v0 : Nat) (v1 : Int32) (v2 : Int32) (v3 : Option Nat) (w0 : Int32) (σ : zS) : Option (Int32 × zS) := some (w0, σ)
def s_No_branch_114 (g : zG)  (v0 : Nat) (v1 : Int32) (v2 : Int32) (v3 : Option Nat) (v4 : Option Nat) (w0 : Int32) (σ : zS) : Option (Int32 × zS) := some (w0, σ)
def s_No_branch_91 (g : zG)  (v0 : Nat) (v1 : Int32) (v2 : Int32) (v3 : Option Nat) (σ : zS) : Option (Int32 × zS) := (v3).bind fun a1 => (zis σ a1 1).bind fun _ => (s_Branch_bookAt g a1 (v2 - 3) σ).bind fun (x4, σ2) => match x4 with | none => s_No_branch_114 g  (v0) (v1) (v2) (some (a1)) (none) ((-1)) σ2 | some a6 => (zis σ2 a6 2).bind fun _ => (s_BranchSeries_unreported g a6  σ2).bind fun (x9, σ7) => s_No_branch_114 g  (v0) (v1) (v2) (some (a1)) (some (a6)) (x9) σ7
def s_No_branch (g : zG) (v0 : Nat) (v1 : Int32) (v2 : Int32) (σ : zS) : Option (Int32 × zS) := (zis σ v0 0).bind fun _ => (s_No_branchAt g v0 v1 σ).bind fun (x3, σ1) => match x3 with | none => s_No_branch_17 g  (v0) (v1) (v2) (none) σ1 | some a5 => (zgI σ1 a5 1 8).bind fun x6 => if x6 = 0 then s_No_branch_17 g  (v0) (v1) (v2) (some (a5)) σ1 else if (v2 : Int32).toInt < 0 ∨ 5 < (v2 : Int32).toInt then some ((-1), σ1) else if (v2 : Int32) = 0 then (zgI σ1 a5 1 3).bind fun x25 => if x25 = 0 then s_No_branch_72 g  (v0) (v1) (v2) (some (a5)) (0) σ1 else s_No_branch_72 g  (v0) (v1) (v2) (some (a5)) (1) σ1 else if (v2 : Int32) = 1 then (zis σ1 a5 1).bind fun _ => (s_Branch_latestNumber g a5  σ1).bind fun (x20, σ18) => some (x20, σ18) else if (v2 : Int32) = 2 then (zgI σ1 a5 1 4).bind fun x14 => if x14 = 0 then s_No_branch_90 g  (v0) (v1) (v2) (some (a5)) (0) σ1 else s_No_branch_90 g  (v0) (v1) (v2) (some (a5)) (1) σ1 else if (v2 : Int32) = 3 then s_No_branch_91 g  (v0) (v1) (v2) (some (a5)) σ1 else if (v2 : Int32) = 4 then s_No_branch_91 g  (v0) (v1) (v2) (some (a5)) σ1 else if (v2 : Int32) = 5 then s_No_branch_91 g  (v0) (v1) (v2) (some (a5)) σ1 else none
set_option maxRecDepth 100000 in
theorem t_No_branch_17 {l : Launch} {D : zD} {g : zG} (hG : zGok g D) {q : Int32 × zS}   {v0 : Nat} {v1 : Int32} {v2 : Int32} {v3 : Option Nat} {σ : zS} (h : s_No_branch_17 g  v0 v1 v2 v3 σ = some q) : Z l D K_No_branch 2 40 (.returned (some (.int q.1)), q.2) 17 [(0, .ref (v0)), (1, .int (v1)), (2, .int (v2)), (3, va_rf (v3))] [] σ := by
  unfold s_No_branch_17 at h
  refine z_iconst (v := (-1)) d_No_branch_17 rfl ?_
  cases h
  exact z_iret rfl rfl d_No_branch_18
set_option maxRecDepth 100000 in
theorem t_No_branch_72 {l : Launch} {D : zD} {g : zG} (hG : zGok g D) {q : Int32 × zS}   {v0 : Nat} {v1 : Int32} {v2 : Int32} {v3 : Option Nat} {w0 : Int32} {σ : zS} (h : s_No_branch_72 g  v0 v1 v2 v3 w0 σ = some q) : Z l D K_No_branch 2 40 (.returned (some (.int q.1)), q.2) 72 [(0, .ref (v0)), (1, .int (v1)), (2, .int (v2)), (3, va_rf (v3))] [.int (w0)] σ := by
  unfold s_No_branch_72 at h
  cases h
  exact z_iret rfl rfl d_No_branch_72
set_option maxRecDepth 100000 in
theorem t_No_branch_90 {l : Launch} {D : zD} {g : zG} (hG : zGok g D) {q : Int32 × zS}   {v0 : Nat} {v1 : Int32} {v2 : Int32} {v3 : Option Nat} {w0 : Int32} {σ : zS} (h : s_No_branch_90 g  v0 v1 v2 v3 w0 σ = some q) : Z l D K_No_branch 2 40 (.returned (some (.int q.1)), q.2) 90 [(0, .ref (v0)), (1, .int (v1)), (2, .int (v2)), (3, va_rf (v3))] [.int (w0)] σ := by
  unfold s_No_branch_90 at h
  cases h
  exact z_iret rfl rfl d_No_branch_90
set_option maxRecDepth 100000 in
theorem t_No_branch_114 {l : Launch} {D : zD} {g : zG} (hG : zGok g D) {q : Int32 × zS}   {v0 : Nat} {v1 : Int32} {v2 : Int32} {v3 : Option Nat} {v4 : Option Nat} {w0 : Int32} {σ : zS} (h : s_No_branch_114 g  v0 v1 v2 v3 v4 w0 σ = some q) : Z l D K_No_branch 2 40 (.returned (some (.int q.1)), q.2) 114 [(0, .ref (v0)), (1, .int (v1)), (2, .int (v2)), (3, va_rf (v3)), (4, va_rf (v4))] [.int (w0)] σ := by
  unfold s_No_branch_114 at h
  cases h
  exact z_iret rfl rfl d_No_branch_114
set_option maxRecDepth 100000 in
theorem t_No_branch_91 {l : Launch} {D : zD} {g : zG} (hG : zGok g D) {q : Int32 × zS}   {v0 : Nat} {v1 : Int32} {v2 : Int32} {v3 : Option Nat} {σ : zS} (h : s_No_branch_91 g  v0 v1 v2 v3 σ = some q) : Z l D K_No_branch 2 40 (.returned (some (.int q.1)), q.2) 91 [(0, .ref (v0)), (1, .int (v1)), (2, .int (v2)), (3, va_rf (v3))] [] σ := by
  unfold s_No_branch_91 at h
  refine z_aload_nR 3 d_No_branch_91 rfl rfl ?_
  refine z_iload_n 2 d_No_branch_92 rfl rfl ?_
  refine z_iconst (v := 3) d_No_branch_93 rfl ?_
  refine z_isub d_No_branch_94 ?_
  replace h := Option.bind_eq_some_iff.mp h; obtain ⟨a1, rfl, h⟩ := h
  replace h := Option.bind_eq_some_iff.mp h; obtain ⟨_, e13, h⟩ := h
  obtain ⟨b14, f15, e13⟩ := zcls_at (zis_at e13)
  replace h := Option.bind_eq_some_iff.mp h; obtain ⟨⟨x4, σ2⟩, e3, h⟩ := h
  dsimp only at h
  refine z_callV (av := [.int (v2 - 3)]) (st := []) wV_NumberOffice_59 e13 (t_Branch_bookAt hG e3) (by decide) (by decide) d_No_branch_95 (by simp [z_rfc, z_ci, z_cl, z_cr, z_cn]) ?_
  show Z _ _ _ _ _ _ 98 [(0, .ref (v0)), (1, .int (v1)), (2, .int (v2)), (3, .ref (a1))] [va_rf (x4)] _
  refine z_astoreR (j := 4) (lv' := [(4, va_rf (x4)), (0, .ref (v0)), (1, .int (v1)), (2, .int (v2)), (3, .ref (a1))]) d_No_branch_98 (by decide) rfl ?_
  refine z_aloadR 0 d_No_branch_100 rfl ?_
  refine z_ifnonnull (tgt := 109) d_No_branch_102 rfl (fun a6 c5 => ?_) (fun c5 => ?_)
  · subst c5
    dsimp only at h
    refine z_aload 0 d_No_branch_109 rfl ?_
    replace h := Option.bind_eq_some_iff.mp h; obtain ⟨_, e10, h⟩ := h
    obtain ⟨b11, f12, e10⟩ := zcls_at (zis_at e10)
    replace h := Option.bind_eq_some_iff.mp h; obtain ⟨⟨x9, σ7⟩, e8, h⟩ := h
    dsimp only at h
    refine z_callV (av := []) (st := []) wV_NumberOffice_83 e10 (t_BranchSeries_unreported hG e8) (by decide) (by decide) d_No_branch_111 (by simp [z_rfc, z_ci, z_cl, z_cr, z_cn]) ?_
    show Z _ _ _ _ _ _ 114 [(4, .ref (a6)), (0, .ref (v0)), (1, .int (v1)), (2, .int (v2)), (3, .ref (a1))] [.int (x9)] _
    refine z_lv (lv' := [(0, .ref (v0)), (1, .int (v1)), (2, .int (v2)), (3, va_rf (some (a1))), (4, va_rf (some (a6)))]) [1, 2, 3, 4, 0] rfl ?_
    exact t_No_branch_114 hG   h
  · subst c5
    dsimp only at h
    refine z_iconst (v := (-1)) d_No_branch_105 rfl ?_
    refine z_goto (tgt := 114) d_No_branch_106 rfl ?_
    refine z_lv (lv' := [(0, .ref (v0)), (1, .int (v1)), (2, .int (v2)), (3, va_rf (some (a1))), (4, va_rf (none))]) [1, 2, 3, 4, 0] rfl ?_
    exact t_No_branch_114 hG   h
set_option maxRecDepth 100000 in
theorem t_No_branch {l : Launch} {D : zD} {g : zG} (hG : zGok g D) {v0 : Nat} {v1 : Int32} {v2 : Int32} {σ : zS} {q : Int32 × zS} (h : s_No_branch g v0 v1 v2 σ = some q) : zMet l D Y_No_branch K_No_branch 2 40 [.ref (v0), .int (v1), .int (v2)] σ (.returned (some (.int q.1)), q.2) := by
  refine zMet.ofZ (by decide) rfl (fun q => by cases q) (Nat.le_of_ble_eq_true rfl) ?_
  show Z _ _ _ _ _ _ 0 [(0, .ref (v0)), (1, .int (v1)), (2, .int (v2))] [] _
  unfold s_No_branch at h
  refine z_aload_n 0 d_No_branch_0 rfl rfl ?_
  refine z_iload_n 1 d_No_branch_1 rfl rfl ?_
  replace h := Option.bind_eq_some_iff.mp h; obtain ⟨_, e28, h⟩ := h
  obtain ⟨b29, f30, e28⟩ := zcls_at (zis_at e28)
  replace h := Option.bind_eq_some_iff.mp h; obtain ⟨⟨x3, σ1⟩, e2, h⟩ := h
  dsimp only at h
  refine z_callV (av := [.int (v1)]) (st := []) wV_NumberOffice_55 e28 (t_No_branchAt hG e2) (by decide) (by decide) d_No_branch_2 (by simp [z_rfc, z_ci, z_cl, z_cr, z_cn]) ?_
  show Z _ _ _ _ _ _ 5 [(0, .ref (v0)), (1, .int (v1)), (2, .int (v2))] [va_rf (x3)] _
  refine z_astore_nR (j := 3) (lv' := [(3, va_rf (x3)), (0, .ref (v0)), (1, .int (v1)), (2, .int (v2))]) d_No_branch_5 rfl (by decide) rfl ?_
  refine z_aload_nR 0 d_No_branch_6 rfl rfl ?_
  refine z_ifnull (tgt := 17) d_No_branch_7 rfl (fun c4 => ?_) (fun a5 c4 => ?_)
  · subst c4
    dsimp only at h
    refine z_lv (lv' := [(0, .ref (v0)), (1, .int (v1)), (2, .int (v2)), (3, va_rf (none))]) [1, 2, 3, 0] rfl ?_
    exact t_No_branch_17 hG   h
  · subst c4
    dsimp only at h
    refine z_aload_n 0 d_No_branch_10 rfl rfl ?_
    replace h := Option.bind_eq_some_iff.mp h; obtain ⟨x6, e7, h⟩ := h
    refine z_getI wF_NumberOffice_90_1 d_No_branch_11 e7 ?_
    refine z_if_ne (tgt := 19) d_No_branch_14 rfl (fun c8 => ?_) (fun c8 => ?_)
    · rw [if_neg c8] at h
      refine z_iload_n 3 d_No_branch_19 rfl rfl ?_
      by_cases c9 : (v2 : Int32).toInt < 0 ∨ 5 < (v2 : Int32).toInt
      · rw [if_pos c9] at h
        refine z_tableOut (tgt := 115) d_No_branch_20 c9 rfl ?_
        refine z_iconst (v := (-1)) d_No_branch_115 rfl ?_
        cases h
        exact z_iret rfl rfl d_No_branch_116
      · rw [if_neg c9] at h
        by_cases c24 : (v2 : Int32) = 0
        · rw [if_pos c24] at h
          refine z_tableIn (off := 40) (tgt := 60) d_No_branch_20 (by rw [c24]; decide) (by rw [c24]; decide) (by rw [c24]; rfl) rfl ?_
          refine z_aload_n 0 d_No_branch_60 rfl rfl ?_
          replace h := Option.bind_eq_some_iff.mp h; obtain ⟨x25, e26, h⟩ := h
          refine z_getI wF_NumberOffice_193_1 d_No_branch_61 e26 ?_
          refine z_if_eq (tgt := 71) d_No_branch_64 rfl (fun c27 => ?_) (fun c27 => ?_)
          · rw [if_pos c27] at h
            refine z_iconst (v := 0) d_No_branch_71 rfl ?_
            refine z_lv (lv' := [(0, .ref (v0)), (1, .int (v1)), (2, .int (v2)), (3, va_rf (some (a5)))]) [1, 2, 3, 0] rfl ?_
            exact t_No_branch_72 hG   h
          · rw [if_neg c27] at h
            refine z_iconst (v := 1) d_No_branch_67 rfl ?_
            refine z_goto (tgt := 72) d_No_branch_68 rfl ?_
            refine z_lv (lv' := [(0, .ref (v0)), (1, .int (v1)), (2, .int (v2)), (3, va_rf (some (a5)))]) [1, 2, 3, 0] rfl ?_
            exact t_No_branch_72 hG   h
        · rw [if_neg c24] at h
          by_cases c17 : (v2 : Int32) = 1
          · rw [if_pos c17] at h
            refine z_tableIn (off := 53) (tgt := 73) d_No_branch_20 (by rw [c17]; decide) (by rw [c17]; decide) (by rw [c17]; rfl) rfl ?_
            refine z_aload_n 0 d_No_branch_73 rfl rfl ?_
            replace h := Option.bind_eq_some_iff.mp h; obtain ⟨_, e21, h⟩ := h
            obtain ⟨b22, f23, e21⟩ := zcls_at (zis_at e21)
            replace h := Option.bind_eq_some_iff.mp h; obtain ⟨⟨x20, σ18⟩, e19, h⟩ := h
            dsimp only at h
            refine z_callV (av := []) (st := []) wV_NumberOffice_196 e21 (t_Branch_latestNumber hG e19) (by decide) (by decide) d_No_branch_74 (by simp [z_rfc, z_ci, z_cl, z_cr, z_cn]) ?_
            show Z _ _ _ _ _ _ 77 [(3, .ref (a5)), (0, .ref (v0)), (1, .int (v1)), (2, .int (v2))] [.int (x20)] _
            cases h
            exact z_iret rfl rfl d_No_branch_77
          · rw [if_neg c17] at h
            by_cases c13 : (v2 : Int32) = 2
            · rw [if_pos c13] at h
              refine z_tableIn (off := 58) (tgt := 78) d_No_branch_20 (by rw [c13]; decide) (by rw [c13]; decide) (by rw [c13]; rfl) rfl ?_
              refine z_aload_n 0 d_No_branch_78 rfl rfl ?_
              replace h := Option.bind_eq_some_iff.mp h; obtain ⟨x14, e15, h⟩ := h
              refine z_getI wF_NumberOffice_199_1 d_No_branch_79 e15 ?_
              refine z_if_eq (tgt := 89) d_No_branch_82 rfl (fun c16 => ?_) (fun c16 => ?_)
              · rw [if_pos c16] at h
                refine z_iconst (v := 0) d_No_branch_89 rfl ?_
                refine z_lv (lv' := [(0, .ref (v0)), (1, .int (v1)), (2, .int (v2)), (3, va_rf (some (a5)))]) [1, 2, 3, 0] rfl ?_
                exact t_No_branch_90 hG   h
              · rw [if_neg c16] at h
                refine z_iconst (v := 1) d_No_branch_85 rfl ?_
                refine z_goto (tgt := 90) d_No_branch_86 rfl ?_
                refine z_lv (lv' := [(0, .ref (v0)), (1, .int (v1)), (2, .int (v2)), (3, va_rf (some (a5)))]) [1, 2, 3, 0] rfl ?_
                exact t_No_branch_90 hG   h
            · rw [if_neg c13] at h
              by_cases c12 : (v2 : Int32) = 3
              · rw [if_pos c12] at h
                refine z_tableIn (off := 71) (tgt := 91) d_No_branch_20 (by rw [c12]; decide) (by rw [c12]; decide) (by rw [c12]; rfl) rfl ?_
                refine z_lv (lv' := [(0, .ref (v0)), (1, .int (v1)), (2, .int (v2)), (3, va_rf (some (a5)))]) [1, 2, 3, 0] rfl ?_
                exact t_No_branch_91 hG   h
              · rw [if_neg c12] at h
                by_cases c11 : (v2 : Int32) = 4
                · rw [if_pos c11] at h
                  refine z_tableIn (off := 71) (tgt := 91) d_No_branch_20 (by rw [c11]; decide) (by rw [c11]; decide) (by rw [c11]; rfl) rfl ?_
                  refine z_lv (lv' := [(0, .ref (v0)), (1, .int (v1)), (2, .int (v2)), (3, va_rf (some (a5)))]) [1, 2, 3, 0] rfl ?_
                  exact t_No_branch_91 hG   h
                · rw [if_neg c11] at h
                  by_cases c10 : (v2 : Int32) = 5
                  · rw [if_pos c10] at h
                    refine z_tableIn (off := 71) (tgt := 91) d_No_branch_20 (by rw [c10]; decide) (by rw [c10]; decide) (by rw [c10]; rfl) rfl ?_
                    refine z_lv (lv' := [(0, .ref (v0)), (1, .int (v1)), (2, .int (v2)), (3, va_rf (some (a5)))]) [1, 2, 3, 0] rfl ?_
                    exact t_No_branch_91 hG   h
                  · rw [if_neg c10] at h
                    cases h
    · rw [if_pos c8] at h
      refine z_lv (lv' := [(0, .ref (v0)), (1, .int (v1)), (2, .int (v2)), (3, va_rf (some (a5)))]) [1, 2, 3, 0] rfl ?_
      exact t_No_branch_17 hG   h

def s_No_series_32 (g : zG)  (v0 : Nat) (v1 : Int32) (v2 : Int32) (v3 : Option Nat) (σ : zS) : Option ((Int32 ⊕ Nat) × zS) := some (.inl 0, σ)
def s_No_series (g : zG) (v0 : Nat) (v1 : Int32) (v2 : Int32) (σ : zS) : Option ((Int32 ⊕ Nat) × zS) := (zgR σ v0 0 1).bind fun x1 => (s_No_requireUp g x1 σ).bind fun (x5, σ3) => match x5 with | .inl _ => ((zgR σ3 v0 0 1).bind fun x8 => (x8).bind fun a10 => (zis σ3 a10 4).bind fun _ => (s_Office_bookAt g a10 v1 σ3).bind fun (x13, σ11) => match x13 with | none => s_No_series_32 g  (v0) (v1) (v2) (none) σ11 | some a15 => if v2 < 1 then s_No_series_32 g  (v0) (v1) (v2) (some (a15)) σ11 else if v2 ≤ 9999 then (zis σ11 a15 5).bind fun _ => (s_SeriesBook_openFor g a15 v2 σ11).bind fun (x20, σ18) => if x20 = 0 ∨ x20 = 1 then some (.inl x20, σ18) else none else s_No_series_32 g  (v0) (v1) (v2) (some (a15)) σ11) | .inr a7 => (some (.inr a7, σ3))
set_option maxRecDepth 100000 in
theorem t_No_series_32 {l : Launch} {D : zD} {g : zG} (hG : zGok g D) (hl : zLo l) {q : (Int32 ⊕ Nat) × zS}   {v0 : Nat} {v1 : Int32} {v2 : Int32} {v3 : Option Nat} {σ : zS} (h : s_No_series_32 g  v0 v1 v2 v3 σ = some q) : Z l D K_No_series 7 140 (zoI q.1, q.2) 32 [(0, .ref (v0)), (1, .int (v1)), (2, .int (v2)), (3, va_rf (v3))] [] σ := by
  unfold s_No_series_32 at h
  refine z_iconst (v := 0) d_No_series_32 rfl ?_
  cases h
  exact z_zret rfl rfl rfl d_No_series_33
set_option maxRecDepth 100000 in
theorem t_No_series {l : Launch} {D : zD} {g : zG} (hG : zGok g D) (hl : zLo l) {v0 : Nat} {v1 : Int32} {v2 : Int32} {σ : zS} {q : (Int32 ⊕ Nat) × zS} (h : s_No_series g v0 v1 v2 σ = some q) : zMet l D Y_No_series K_No_series 7 140 [.ref (v0), .int (v1), .int (v2)] σ (zoI q.1, q.2) := by
  refine zMet.ofZ (by decide) rfl (fun q => by cases q) (Nat.le_of_ble_eq_true rfl) ?_
  show Z _ _ _ _ _ _ 0 [(0, .ref (v0)), (1, .int (v1)), (2, .int (v2))] [] _
  unfold s_No_series at h
  refine z_aload_n 0 d_No_series_0 rfl rfl ?_
  replace h := Option.bind_eq_some_iff.mp h; obtain ⟨x1, e2, h⟩ := h
  refine z_getR wF_NumberOffice_30_0 d_No_series_1 e2 ?_
  replace h := Option.bind_eq_some_iff.mp h; obtain ⟨⟨x5, σ3⟩, e4, h⟩ := h
  dsimp only at h
  rcases x5 with _ | a7
  · dsimp only at h
    refine z_callS (av := [va_rf (x1)]) (st := []) wS_NumberOffice_41 (t_No_requireUp hG hl e4) (by decide) (by decide) d_No_series_4 (by simp [z_rfc, z_ci, z_cl, z_cr, z_cn]) ?_
    show Z _ _ _ _ _ _ 7 [(0, .ref (v0)), (1, .int (v1)), (2, .int (v2))] [] _
    refine z_aload_n 0 d_No_series_7 rfl rfl ?_
    replace h := Option.bind_eq_some_iff.mp h; obtain ⟨x8, e9, h⟩ := h
    refine z_getR wF_NumberOffice_30_0 d_No_series_8 e9 ?_
    refine z_iload_n 1 d_No_series_11 rfl rfl ?_
    replace h := Option.bind_eq_some_iff.mp h; obtain ⟨a10, rfl, h⟩ := h
    replace h := Option.bind_eq_some_iff.mp h; obtain ⟨_, e25, h⟩ := h
    obtain ⟨b26, f27, e25⟩ := zcls_at (zis_at e25)
    replace h := Option.bind_eq_some_iff.mp h; obtain ⟨⟨x13, σ11⟩, e12, h⟩ := h
    dsimp only at h
    refine z_callV (av := [.int (v1)]) (st := []) wV_NumberOffice_45 e25 (t_Office_bookAt hG e12) (by decide) (by decide) d_No_series_12 (by simp [z_rfc, z_ci, z_cl, z_cr, z_cn]) ?_
    show Z _ _ _ _ _ _ 15 [(0, .ref (v0)), (1, .int (v1)), (2, .int (v2))] [va_rf (x13)] _
    refine z_astore_nR (j := 3) (lv' := [(3, va_rf (x13)), (0, .ref (v0)), (1, .int (v1)), (2, .int (v2))]) d_No_series_15 rfl (by decide) rfl ?_
    refine z_aload_nR 0 d_No_series_16 rfl rfl ?_
    refine z_ifnull (tgt := 32) d_No_series_17 rfl (fun c14 => ?_) (fun a15 c14 => ?_)
    · subst c14
      dsimp only at h
      refine z_lv (lv' := [(0, .ref (v0)), (1, .int (v1)), (2, .int (v2)), (3, va_rf (none))]) [1, 2, 3, 0] rfl ?_
      exact t_No_series_32 hG hl   h
    · subst c14
      dsimp only at h
      refine z_iload_n 3 d_No_series_20 rfl rfl ?_
      refine z_iconst (v := 1) d_No_series_21 rfl ?_
      refine z_icmp_lt (tgt := 32) d_No_series_22 rfl (fun c16 => ?_) (fun c16 => ?_)
      · rw [if_pos c16] at h
        refine z_lv (lv' := [(0, .ref (v0)), (1, .int (v1)), (2, .int (v2)), (3, va_rf (some (a15)))]) [1, 2, 3, 0] rfl ?_
        exact t_No_series_32 hG hl   h
      · rw [if_neg c16] at h
        refine z_iload_n 3 d_No_series_25 rfl rfl ?_
        refine z_sipush (v := 9999) d_No_series_26 rfl ?_
        refine z_icmp_le (tgt := 34) d_No_series_29 rfl (fun c17 => ?_) (fun c17 => ?_)
        · rw [if_pos c17] at h
          refine z_aload_n 0 d_No_series_34 rfl rfl ?_
          refine z_iload_n 3 d_No_series_35 rfl rfl ?_
          replace h := Option.bind_eq_some_iff.mp h; obtain ⟨_, e22, h⟩ := h
          obtain ⟨b23, f24, e22⟩ := zcls_at (zis_at e22)
          replace h := Option.bind_eq_some_iff.mp h; obtain ⟨⟨x20, σ18⟩, e19, h⟩ := h
          dsimp only at h
          refine z_callV (av := [.int (v2)]) (st := []) wV_NumberOffice_49 e22 (t_SeriesBook_openFor hG e19) (by decide) (by decide) d_No_series_36 (by simp [z_rfc, z_ci, z_cl, z_cr, z_cn]) ?_
          show Z _ _ _ _ _ _ 39 [(3, .ref (a15)), (0, .ref (v0)), (1, .int (v1)), (2, .int (v2))] [.int (x20)] _
          by_cases c21 : x20 = 0 ∨ x20 = 1
          rotate_left
          · rw [if_neg c21] at h; cases h
          rw [if_pos c21] at h
          cases h
          exact z_zret rfl (z_nb c21) rfl d_No_series_39
        · rw [if_neg c17] at h
          refine z_lv (lv' := [(0, .ref (v0)), (1, .int (v1)), (2, .int (v2)), (3, va_rf (some (a15)))]) [1, 2, 3, 0] rfl ?_
          exact t_No_series_32 hG hl   h
  · dsimp only at h
    cases h
    refine z_callS_t (a := a7) (av := [va_rf (x1)]) (st := []) wS_NumberOffice_41 (t_No_requireUp hG hl e4) (by decide) (by decide) d_No_series_4 (by simp [z_rfc, z_ci, z_cl, z_cr, z_cn]) ?_
    exact zt_out rfl rfl

def s_BranchSeries_eventsForLetter_21 (g : zG)  : Nat → Nat → Int32 → Option Nat → Int32 → zS → Option (Option Nat × zS)
  | 0, _, _, _, _, _ => none
  | n + 1, v0, v1, v2, v3, σ => if v1 ≤ v3 then some (v2, σ) else (zgR σ v0 2 1).bind fun x2 => (zgI σ v0 2 4).bind fun x4 => (x2).bind fun a6 => (zis σ a6 3).bind fun _ => (s_ArrayList_get g a6 (x4 + v3) σ).bind fun (x9, σ7) => (x9).bind fun a10 => (zis σ7 a10 10).bind fun _ => (v2).bind fun a12 => (zsR σ7 a12 11 (v3) (some (a10))).bind fun σ13 => s_BranchSeries_eventsForLetter_21 g  n (v0) (v1) (some (a12)) (v3 + 1) σ13
def s_BranchSeries_eventsForLetter (g : zG) (v0 : Nat) (σ : zS) : Option (Option Nat × zS) := (zis σ v0 2).bind fun _ => (s_BranchSeries_unreported g v0  σ).bind fun (x3, σ1) => (some (if x3 < 30 then x3 else 30)).bind fun x4 => (some (if 0 < x4 then x4 else 0)).bind fun x6 => (zlen (x6)).bind fun n8 => (some (znew σ1 n8 (.inl (11, (n8, .inr (.inr (.inr (.inr (fun _ => none))))))))).bind fun σ10 => s_BranchSeries_eventsForLetter_21 g  zfuel (v0) (x6) (some (σ1.1)) (0) σ10
set_option maxRecDepth 100000 in
theorem t_BranchSeries_eventsForLetter_21 {l : Launch} {D : zD} {g : zG} (hG : zGok g D) {q : Option Nat × zS}   : ∀ (n : Nat) {v0 : Nat} {v1 : Int32} {v2 : Option Nat} {v3 : Int32} {σ : zS}, s_BranchSeries_eventsForLetter_21 g  n v0 v1 v2 v3 σ = some q → Z l D K_BranchSeries_eventsForLetter 3 64 (.returned (some (va_rf q.1)), q.2) 21 [(0, .ref (v0)), (1, .int (v1)), (2, va_rf (v2)), (3, .int (v3))] [] σ := by
  intro n
  induction n with
  | zero =>
    intro v0 v1 v2 v3 σ h
    cases h
  | succ n ih =>
    intro v0 v1 v2 v3 σ h
    first | rw [s_BranchSeries_eventsForLetter_21] at h | (unfold s_BranchSeries_eventsForLetter_21 at h; dsimp only at h)
    refine z_iload_n 3 d_BranchSeries_eventsForLetter_21 rfl rfl ?_
    refine z_iload_n 1 d_BranchSeries_eventsForLetter_22 rfl rfl ?_
    refine z_icmp_ge (tgt := 51) d_BranchSeries_eventsForLetter_23 rfl (fun c1 => ?_) (fun c1 => ?_)
    · rw [if_pos c1] at h
      refine z_aload_nR 2 d_BranchSeries_eventsForLetter_51 rfl rfl ?_
      cases h
      exact z_aret (r := v2) rfl (Or.inr ⟨_, rfl⟩) rfl d_BranchSeries_eventsForLetter_52
    · rw [if_neg c1] at h
      refine z_aload_nR 2 d_BranchSeries_eventsForLetter_26 rfl rfl ?_
      refine z_iload_n 3 d_BranchSeries_eventsForLetter_27 rfl rfl ?_
      refine z_aload_n 0 d_BranchSeries_eventsForLetter_28 rfl rfl ?_
      replace h := Option.bind_eq_some_iff.mp h; obtain ⟨x2, e3, h⟩ := h
      refine z_getR wF_NumberOffice_BranchSeries_18_2 d_BranchSeries_eventsForLetter_29 e3 ?_
      refine z_aload_n 0 d_BranchSeries_eventsForLetter_32 rfl rfl ?_
      replace h := Option.bind_eq_some_iff.mp h; obtain ⟨x4, e5, h⟩ := h
      refine z_getI wF_NumberOffice_BranchSeries_44_2 d_BranchSeries_eventsForLetter_33 e5 ?_
      refine z_iload_n 3 d_BranchSeries_eventsForLetter_36 rfl rfl ?_
      refine z_iadd d_BranchSeries_eventsForLetter_37 ?_
      replace h := Option.bind_eq_some_iff.mp h; obtain ⟨a6, rfl, h⟩ := h
      replace h := Option.bind_eq_some_iff.mp h; obtain ⟨_, e15, h⟩ := h
      obtain ⟨b16, f17, e15⟩ := zcls_at (zis_at e15)
      replace h := Option.bind_eq_some_iff.mp h; obtain ⟨⟨x9, σ7⟩, e8, h⟩ := h
      dsimp only at h
      refine z_callV (av := [.int (x4 + v3)]) (st := [.int (v3), va_rf (v2)]) wV_NumberOffice_BranchSeries_63 e15 (t_ArrayList_get hG e8) (by decide) (by decide) d_BranchSeries_eventsForLetter_38 (by simp [z_rfc, z_ci, z_cl, z_cr, z_cn]) ?_
      show Z _ _ _ _ _ _ 41 [(0, .ref (v0)), (1, .int (v1)), (2, va_rf (v2)), (3, .int (v3))] [va_rf (x9), .int (v3), va_rf (v2)] _
      replace h := Option.bind_eq_some_iff.mp h; obtain ⟨a10, rfl, h⟩ := h
      replace h := Option.bind_eq_some_iff.mp h; obtain ⟨_, e11, h⟩ := h
      refine z_cast wK_NumberOffice_BranchSeries_54_10 d_BranchSeries_eventsForLetter_41 (zis_at e11) ?_
      replace h := Option.bind_eq_some_iff.mp h; obtain ⟨a12, rfl, h⟩ := h
      replace h := Option.bind_eq_some_iff.mp h; obtain ⟨σ13, e14, h⟩ := h
      refine z_aastore (r := some (a10)) rfl d_BranchSeries_eventsForLetter_44 e14 ?_
      refine z_iinc (v := v3 + 1) (lv' := [(3, .int (v3 + 1)), (0, .ref (v0)), (1, .int (v1)), (2, .ref (a12))]) 3 d_BranchSeries_eventsForLetter_45 rfl rfl (by decide) rfl ?_
      refine z_goto (tgt := 21) d_BranchSeries_eventsForLetter_48 rfl ?_
      refine z_lv (lv' := [(0, .ref (v0)), (1, .int (v1)), (2, va_rf (some (a12))), (3, .int (v3 + 1))]) [1, 2, 3, 0] rfl ?_
      exact ih h
set_option maxRecDepth 100000 in
theorem t_BranchSeries_eventsForLetter {l : Launch} {D : zD} {g : zG} (hG : zGok g D) {v0 : Nat} {σ : zS} {q : Option Nat × zS} (h : s_BranchSeries_eventsForLetter g v0 σ = some q) : zMet l D Y_BranchSeries_eventsForLetter K_BranchSeries_eventsForLetter 3 64 [.ref (v0)] σ (.returned (some (va_rf q.1)), q.2) := by
  refine zMet.ofZ (by decide) rfl (fun q => by cases q) (Nat.le_of_ble_eq_true rfl) ?_
  show Z _ _ _ _ _ _ 0 [(0, .ref (v0))] [] _
  unfold s_BranchSeries_eventsForLetter at h
  refine z_iconst (v := 0) d_BranchSeries_eventsForLetter_0 rfl ?_
  refine z_bipush (v := 30) d_BranchSeries_eventsForLetter_1 rfl ?_
  refine z_aload_n 0 d_BranchSeries_eventsForLetter_3 rfl rfl ?_
  replace h := Option.bind_eq_some_iff.mp h; obtain ⟨_, e12, h⟩ := h
  obtain ⟨b13, f14, e12⟩ := zcls_at (zis_at e12)
  replace h := Option.bind_eq_some_iff.mp h; obtain ⟨⟨x3, σ1⟩, e2, h⟩ := h
  dsimp only at h
  refine z_callV (av := []) (st := [.int (30), .int (0)]) wV_NumberOffice_BranchSeries_95 e12 (t_BranchSeries_unreported hG e2) (by decide) (by decide) d_BranchSeries_eventsForLetter_4 (by simp [z_rfc, z_ci, z_cl, z_cr, z_cn]) ?_
  show Z _ _ _ _ _ _ 7 [(0, .ref (v0))] [.int (x3), .int (30), .int (0)] _
  replace h := Option.bind_eq_some_iff.mp h; obtain ⟨x4, e5, h⟩ := h
  refine z_mmin (x := 30) (y := x3) wM_NumberOffice_BranchSeries_98 wMs_min wMi wMc_min (by decide) (by simp [z_rfc, z_ci, z_cl, z_cr, z_cn]) d_BranchSeries_eventsForLetter_7 ?_
  rw [Option.some.inj e5]
  replace h := Option.bind_eq_some_iff.mp h; obtain ⟨x6, e7, h⟩ := h
  refine z_mmax (x := 0) (y := x4) wM_NumberOffice_BranchSeries_104 wMs_max wMi wMc_max (by decide) (by simp [z_rfc, z_ci, z_cl, z_cr, z_cn]) d_BranchSeries_eventsForLetter_10 ?_
  rw [Option.some.inj e7]
  refine z_istore_n (j := 1) (lv' := [(1, .int (x6)), (0, .ref (v0))]) d_BranchSeries_eventsForLetter_13 rfl (by decide) rfl ?_
  refine z_iload_n 0 d_BranchSeries_eventsForLetter_14 rfl rfl ?_
  replace h := Option.bind_eq_some_iff.mp h; obtain ⟨n8, e9, h⟩ := h
  replace h := Option.bind_eq_some_iff.mp h; obtain ⟨σ10, e11, h⟩ := h
  refine z_anewa (t := 11) (E := "NumberOffice$Event") rfl wAo_NumberOffice_Event wL_NumberOffice_BranchSeries_54 d_BranchSeries_eventsForLetter_15 e9 ?_
  rw [Option.some.inj e11]
  refine z_astore_n (j := 2) (lv' := [(2, .ref (σ1.1)), (1, .int (x6)), (0, .ref (v0))]) d_BranchSeries_eventsForLetter_18 rfl (by decide) rfl ?_
  refine z_iconst (v := 0) d_BranchSeries_eventsForLetter_19 rfl ?_
  refine z_istore_n (j := 3) (lv' := [(3, .int (0)), (2, .ref (σ1.1)), (1, .int (x6)), (0, .ref (v0))]) d_BranchSeries_eventsForLetter_20 rfl (by decide) rfl ?_
  refine z_lv (lv' := [(0, .ref (v0)), (1, .int (x6)), (2, va_rf (some (σ1.1))), (3, .int (0))]) [3, 2, 1, 0] rfl ?_
  exact t_BranchSeries_eventsForLetter_21 hG   zfuel h

def s_BranchSeries_nextBlock_32 (g : zG)  (v0 : Nat) (w0 : Option Nat) (σ : zS) : Option (Option Nat × zS) := some (w0, σ)
def s_BranchSeries_nextBlock (g : zG) (v0 : Nat) (σ : zS) : Option (Option Nat × zS) := (zgI σ v0 2 2).bind fun x1 => (zgR σ v0 2 0).bind fun x3 => (x3).bind fun a5 => (zis σ a5 3).bind fun _ => (s_ArrayList_size g a5  σ).bind fun (x8, σ6) => if x8 ≤ x1 then s_BranchSeries_nextBlock_32 g  (v0) (none) σ6 else (zgR σ6 v0 2 0).bind fun x10 => (zgI σ6 v0 2 2).bind fun x12 => (x10).bind fun a14 => (zis σ6 a14 3).bind fun _ => (s_ArrayList_get g a14 x12 σ6).bind fun (x17, σ15) => (x17).bind fun a18 => (zis σ15 a18 7).bind fun _ => s_BranchSeries_nextBlock_32 g  (v0) (some (a18)) σ15
set_option maxRecDepth 100000 in
theorem t_BranchSeries_nextBlock_32 {l : Launch} {D : zD} {g : zG} (hG : zGok g D) {q : Option Nat × zS}   {v0 : Nat} {w0 : Option Nat} {σ : zS} (h : s_BranchSeries_nextBlock_32 g  v0 w0 σ = some q) : Z l D K_BranchSeries_nextBlock 3 64 (.returned (some (va_rf q.1)), q.2) 32 [(0, .ref (v0))] [va_rf (w0)] σ := by
  unfold s_BranchSeries_nextBlock_32 at h
  cases h
  exact z_aret (r := w0) rfl (Or.inl ⟨_, rfl⟩) rfl d_BranchSeries_nextBlock_32
set_option maxRecDepth 100000 in
theorem t_BranchSeries_nextBlock {l : Launch} {D : zD} {g : zG} (hG : zGok g D) {v0 : Nat} {σ : zS} {q : Option Nat × zS} (h : s_BranchSeries_nextBlock g v0 σ = some q) : zMet l D Y_BranchSeries_nextBlock K_BranchSeries_nextBlock 3 64 [.ref (v0)] σ (.returned (some (va_rf q.1)), q.2) := by
  refine zMet.ofZ (by decide) rfl (fun q => by cases q) (Nat.le_of_ble_eq_true rfl) ?_
  show Z _ _ _ _ _ _ 0 [(0, .ref (v0))] [] _
  unfold s_BranchSeries_nextBlock at h
  refine z_aload_n 0 d_BranchSeries_nextBlock_0 rfl rfl ?_
  replace h := Option.bind_eq_some_iff.mp h; obtain ⟨x1, e2, h⟩ := h
  refine z_getI wF_NumberOffice_BranchSeries_32_2 d_BranchSeries_nextBlock_1 e2 ?_
  refine z_aload_n 0 d_BranchSeries_nextBlock_4 rfl rfl ?_
  replace h := Option.bind_eq_some_iff.mp h; obtain ⟨x3, e4, h⟩ := h
  refine z_getR wF_NumberOffice_BranchSeries_12_2 d_BranchSeries_nextBlock_5 e4 ?_
  replace h := Option.bind_eq_some_iff.mp h; obtain ⟨a5, rfl, h⟩ := h
  replace h := Option.bind_eq_some_iff.mp h; obtain ⟨_, e23, h⟩ := h
  obtain ⟨b24, f25, e23⟩ := zcls_at (zis_at e23)
  replace h := Option.bind_eq_some_iff.mp h; obtain ⟨⟨x8, σ6⟩, e7, h⟩ := h
  dsimp only at h
  refine z_callV (av := []) (st := [.int (x1)]) wV_NumberOffice_BranchSeries_21 e23 (t_ArrayList_size hG e7) (by decide) (by decide) d_BranchSeries_nextBlock_8 (by simp [z_rfc, z_ci, z_cl, z_cr, z_cn]) ?_
  show Z _ _ _ _ _ _ 11 [(0, .ref (v0))] [.int (x8), .int (x1)] _
  refine z_icmp_ge (tgt := 31) d_BranchSeries_nextBlock_11 rfl (fun c9 => ?_) (fun c9 => ?_)
  · rw [if_pos c9] at h
    refine z_null d_BranchSeries_nextBlock_31 ?_
    refine z_lv (lv' := [(0, .ref (v0))]) [0] rfl ?_
    exact t_BranchSeries_nextBlock_32 hG   h
  · rw [if_neg c9] at h
    refine z_aload_n 0 d_BranchSeries_nextBlock_14 rfl rfl ?_
    replace h := Option.bind_eq_some_iff.mp h; obtain ⟨x10, e11, h⟩ := h
    refine z_getR wF_NumberOffice_BranchSeries_12_2 d_BranchSeries_nextBlock_15 e11 ?_
    refine z_aload_n 0 d_BranchSeries_nextBlock_18 rfl rfl ?_
    replace h := Option.bind_eq_some_iff.mp h; obtain ⟨x12, e13, h⟩ := h
    refine z_getI wF_NumberOffice_BranchSeries_32_2 d_BranchSeries_nextBlock_19 e13 ?_
    replace h := Option.bind_eq_some_iff.mp h; obtain ⟨a14, rfl, h⟩ := h
    replace h := Option.bind_eq_some_iff.mp h; obtain ⟨_, e20, h⟩ := h
    obtain ⟨b21, f22, e20⟩ := zcls_at (zis_at e20)
    replace h := Option.bind_eq_some_iff.mp h; obtain ⟨⟨x17, σ15⟩, e16, h⟩ := h
    dsimp only at h
    refine z_callV (av := [.int (x12)]) (st := []) wV_NumberOffice_BranchSeries_63 e20 (t_ArrayList_get hG e16) (by decide) (by decide) d_BranchSeries_nextBlock_22 (by simp [z_rfc, z_ci, z_cl, z_cr, z_cn]) ?_
    show Z _ _ _ _ _ _ 25 [(0, .ref (v0))] [va_rf (x17)] _
    replace h := Option.bind_eq_some_iff.mp h; obtain ⟨a18, rfl, h⟩ := h
    replace h := Option.bind_eq_some_iff.mp h; obtain ⟨_, e19, h⟩ := h
    refine z_cast wK_NumberOffice_BranchSeries_66_7 d_BranchSeries_nextBlock_25 (zis_at e19) ?_
    refine z_goto (tgt := 32) d_BranchSeries_nextBlock_28 rfl ?_
    refine z_lv (lv' := [(0, .ref (v0))]) [0] rfl ?_
    exact t_BranchSeries_nextBlock_32 hG   h

def s_Office_strikeOut_17 (g : zG)  (v0 : Nat) (v1 : Int32) (σ : zS) : Option (Int32 × zS) := some ((-1), σ)
def s_Office_strikeOut_30 (g : zG)  : Nat → Nat → Int32 → Int32 → Int32 → zS → Option (Int32 × zS)
  | 0, _, _, _, _, _ => none
  | n + 1, v0, v1, v2, v3, σ => if 3 ≤ v3 then some (v2, σ) else (zgR σ v0 4 0).bind fun x2 => (x2).bind fun a4 => (zaR σ a4 8 (v3)).bind fun x5 => (x5).bind fun a7 => (zis σ a7 5).bind fun _ => (s_SeriesBook_loseNumbersOf g a7 v1 σ).bind fun (x10, σ8) => s_Office_strikeOut_30 g  n (v0) (v1) (v2 + x10) (v3 + 1) σ8
def s_Office_strikeOut (g : zG) (v0 : Nat) (v1 : Int32) (σ : zS) : Option (Int32 × zS) := (zis σ v0 4).bind fun _ => (s_Office_knows g v0 v1 σ).bind fun (x3, σ1) => if x3 = 0 then s_Office_strikeOut_17 g  (v0) (v1) σ1 else (zgR σ1 v0 4 2).bind fun x5 => (x5).bind fun a7 => (zaI σ1 a7 3 (v1)).bind fun x8 => if x8 = 0 then (zgR σ1 v0 4 2).bind fun x11 => (x11).bind fun a13 => (zsI σ1 a13 3 (v1) (vp_nar .boolean 1)).bind fun σ14 => s_Office_strikeOut_30 g  zfuel (v0) (v1) (0) (0) σ14 else s_Office_strikeOut_17 g  (v0) (v1) σ1
set_option maxRecDepth 100000 in
theorem t_Office_strikeOut_17 {l : Launch} {D : zD} {g : zG} (hG : zGok g D) {q : Int32 × zS}   {v0 : Nat} {v1 : Int32} {σ : zS} (h : s_Office_strikeOut_17 g  v0 v1 σ = some q) : Z l D K_Office_strikeOut 1 23 (.returned (some (.int q.1)), q.2) 17 [(0, .ref (v0)), (1, .int (v1))] [] σ := by
  unfold s_Office_strikeOut_17 at h
  refine z_iconst (v := (-1)) d_Office_strikeOut_17 rfl ?_
  cases h
  exact z_iret rfl rfl d_Office_strikeOut_18
set_option maxRecDepth 100000 in
theorem t_Office_strikeOut_30 {l : Launch} {D : zD} {g : zG} (hG : zGok g D) {q : Int32 × zS}   : ∀ (n : Nat) {v0 : Nat} {v1 : Int32} {v2 : Int32} {v3 : Int32} {σ : zS}, s_Office_strikeOut_30 g  n v0 v1 v2 v3 σ = some q → Z l D K_Office_strikeOut 1 23 (.returned (some (.int q.1)), q.2) 30 [(0, .ref (v0)), (1, .int (v1)), (2, .int (v2)), (3, .int (v3))] [] σ := by
  intro n
  induction n with
  | zero =>
    intro v0 v1 v2 v3 σ h
    cases h
  | succ n ih =>
    intro v0 v1 v2 v3 σ h
    first | rw [s_Office_strikeOut_30] at h | (unfold s_Office_strikeOut_30 at h; dsimp only at h)
    refine z_iload_n 3 d_Office_strikeOut_30 rfl rfl ?_
    refine z_iconst (v := 3) d_Office_strikeOut_31 rfl ?_
    refine z_icmp_ge (tgt := 54) d_Office_strikeOut_32 rfl (fun c1 => ?_) (fun c1 => ?_)
    · rw [if_pos c1] at h
      refine z_iload_n 2 d_Office_strikeOut_54 rfl rfl ?_
      cases h
      exact z_iret rfl rfl d_Office_strikeOut_55
    · rw [if_neg c1] at h
      refine z_iload_n 2 d_Office_strikeOut_35 rfl rfl ?_
      refine z_aload_n 0 d_Office_strikeOut_36 rfl rfl ?_
      replace h := Option.bind_eq_some_iff.mp h; obtain ⟨x2, e3, h⟩ := h
      refine z_getR wF_NumberOffice_Office_11_4 d_Office_strikeOut_37 e3 ?_
      refine z_iload_n 3 d_Office_strikeOut_40 rfl rfl ?_
      replace h := Option.bind_eq_some_iff.mp h; obtain ⟨a4, rfl, h⟩ := h
      replace h := Option.bind_eq_some_iff.mp h; obtain ⟨x5, e6, h⟩ := h
      refine z_aaload rfl d_Office_strikeOut_41 e6 ?_
      refine z_iload_n 1 d_Office_strikeOut_42 rfl rfl ?_
      replace h := Option.bind_eq_some_iff.mp h; obtain ⟨a7, rfl, h⟩ := h
      replace h := Option.bind_eq_some_iff.mp h; obtain ⟨_, e11, h⟩ := h
      obtain ⟨b12, f13, e11⟩ := zcls_at (zis_at e11)
      replace h := Option.bind_eq_some_iff.mp h; obtain ⟨⟨x10, σ8⟩, e9, h⟩ := h
      dsimp only at h
      refine z_callV (av := [.int (v1)]) (st := [.int (v2)]) wV_NumberOffice_Office_45 e11 (t_SeriesBook_loseNumbersOf hG e9) (by decide) (by decide) d_Office_strikeOut_43 (by simp [z_rfc, z_ci, z_cl, z_cr, z_cn]) ?_
      show Z _ _ _ _ _ _ 46 [(0, .ref (v0)), (1, .int (v1)), (2, .int (v2)), (3, .int (v3))] [.int (x10), .int (v2)] _
      refine z_iadd d_Office_strikeOut_46 ?_
      refine z_istore_n (j := 2) (lv' := [(2, .int (v2 + x10)), (0, .ref (v0)), (1, .int (v1)), (3, .int (v3))]) d_Office_strikeOut_47 rfl (by decide) rfl ?_
      refine z_iinc (v := v3 + 1) (lv' := [(3, .int (v3 + 1)), (2, .int (v2 + x10)), (0, .ref (v0)), (1, .int (v1))]) 3 d_Office_strikeOut_48 rfl rfl (by decide) rfl ?_
      refine z_goto (tgt := 30) d_Office_strikeOut_51 rfl ?_
      refine z_lv (lv' := [(0, .ref (v0)), (1, .int (v1)), (2, .int (v2 + x10)), (3, .int (v3 + 1))]) [2, 3, 1, 0] rfl ?_
      exact ih h
set_option maxRecDepth 100000 in
theorem t_Office_strikeOut {l : Launch} {D : zD} {g : zG} (hG : zGok g D) {v0 : Nat} {v1 : Int32} {σ : zS} {q : Int32 × zS} (h : s_Office_strikeOut g v0 v1 σ = some q) : zMet l D Y_Office_strikeOut K_Office_strikeOut 1 23 [.ref (v0), .int (v1)] σ (.returned (some (.int q.1)), q.2) := by
  refine zMet.ofZ (by decide) rfl (fun q => by cases q) (Nat.le_of_ble_eq_true rfl) ?_
  show Z _ _ _ _ _ _ 0 [(0, .ref (v0)), (1, .int (v1))] [] _
  unfold s_Office_strikeOut at h
  refine z_aload_n 0 d_Office_strikeOut_0 rfl rfl ?_
  refine z_iload_n 1 d_Office_strikeOut_1 rfl rfl ?_
  replace h := Option.bind_eq_some_iff.mp h; obtain ⟨_, e16, h⟩ := h
  obtain ⟨b17, f18, e16⟩ := zcls_at (zis_at e16)
  replace h := Option.bind_eq_some_iff.mp h; obtain ⟨⟨x3, σ1⟩, e2, h⟩ := h
  dsimp only at h
  refine z_callV (av := [.int (v1)]) (st := []) wV_NumberOffice_Office_41 e16 (t_Office_knows hG e2) (by decide) (by decide) d_Office_strikeOut_2 (by simp [z_rfc, z_ci, z_cl, z_cr, z_cn]) ?_
  show Z _ _ _ _ _ _ 5 [(0, .ref (v0)), (1, .int (v1))] [.int (x3)] _
  refine z_if_eq (tgt := 17) d_Office_strikeOut_5 rfl (fun c4 => ?_) (fun c4 => ?_)
  · rw [if_pos c4] at h
    refine z_lv (lv' := [(0, .ref (v0)), (1, .int (v1))]) [0, 1] rfl ?_
    exact t_Office_strikeOut_17 hG   h
  · rw [if_neg c4] at h
    refine z_aload_n 0 d_Office_strikeOut_8 rfl rfl ?_
    replace h := Option.bind_eq_some_iff.mp h; obtain ⟨x5, e6, h⟩ := h
    refine z_getR wF_NumberOffice_Office_21_4 d_Office_strikeOut_9 e6 ?_
    refine z_iload_n 1 d_Office_strikeOut_12 rfl rfl ?_
    replace h := Option.bind_eq_some_iff.mp h; obtain ⟨a7, rfl, h⟩ := h
    replace h := Option.bind_eq_some_iff.mp h; obtain ⟨x8, e9, h⟩ := h
    refine z_zaload rfl d_Office_strikeOut_13 e9 ?_
    refine z_if_eq (tgt := 19) d_Office_strikeOut_14 rfl (fun c10 => ?_) (fun c10 => ?_)
    · rw [if_pos c10] at h
      refine z_aload_n 0 d_Office_strikeOut_19 rfl rfl ?_
      replace h := Option.bind_eq_some_iff.mp h; obtain ⟨x11, e12, h⟩ := h
      refine z_getR wF_NumberOffice_Office_21_4 d_Office_strikeOut_20 e12 ?_
      refine z_iload_n 1 d_Office_strikeOut_23 rfl rfl ?_
      refine z_iconst (v := 1) d_Office_strikeOut_24 rfl ?_
      replace h := Option.bind_eq_some_iff.mp h; obtain ⟨a13, rfl, h⟩ := h
      replace h := Option.bind_eq_some_iff.mp h; obtain ⟨σ14, e15, h⟩ := h
      refine z_zastore rfl d_Office_strikeOut_25 e15 ?_
      refine z_iconst (v := 0) d_Office_strikeOut_26 rfl ?_
      refine z_istore_n (j := 2) (lv' := [(2, .int (0)), (0, .ref (v0)), (1, .int (v1))]) d_Office_strikeOut_27 rfl (by decide) rfl ?_
      refine z_iconst (v := 0) d_Office_strikeOut_28 rfl ?_
      refine z_istore_n (j := 3) (lv' := [(3, .int (0)), (2, .int (0)), (0, .ref (v0)), (1, .int (v1))]) d_Office_strikeOut_29 rfl (by decide) rfl ?_
      refine z_lv (lv' := [(0, .ref (v0)), (1, .int (v1)), (2, .int (0)), (3, .int (0))]) [2, 3, 1, 0] rfl ?_
      exact t_Office_strikeOut_30 hG   zfuel h
    · rw [if_neg c10] at h
      refine z_lv (lv' := [(0, .ref (v0)), (1, .int (v1))]) [0, 1] rfl ?_
      exact t_Office_strikeOut_17 hG   h

def s_SeriesBook_fieldOf_70 (g : zG)  (v0 : Nat) (v1 : Int32) (v2 : Int32) (v3 : Int32) (v4 : Int32) (w0 : Int64) (σ : zS) : Option (Int64 × zS) := some (w0, σ)
def s_SeriesBook_fieldOf_90 (g : zG)  (v0 : Nat) (v1 : Int32) (v2 : Int32) (v3 : Int32) (v4 : Int32) (w0 : Int64) (σ : zS) : Option (Int64 × zS) := some (w0, σ)
def s_SeriesBook_fieldOf_119 (g : zG)  (v0 : Nat) (v1 : Int32) (v2 : Int32) (v3 : Int32) (v4 : Int32) (w0 : Int64) (σ : zS) : Option (Int64 × zS) := some (w0, σ)
def s_SeriesBook_fieldOf (g : zG) (v0 : Nat) (v1 : Int32) (v2 : Int32) (σ : zS) : Option (Int64 × zS) := (zis σ v0 5).bind fun _ => (s_SeriesBook_fateOf g v0 v1 σ).bind fun (x3, σ1) => if x3 = 0 then some ((-1), σ1) else if (v2 : Int32).toInt < 0 ∨ 3 < (v2 : Int32).toInt then some ((-1), σ1) else if (v2 : Int32) = 0 then if x3 = 2 then (zgR σ1 v0 5 5).bind fun x28 => (x28).bind fun a30 => (zaL σ1 a30 1 (v1 - 1)).bind fun x31 => s_SeriesBook_fieldOf_70 g  (v0) (v1) (v2) (x3) (v1 - 1) (x31) σ1 else s_SeriesBook_fieldOf_70 g  (v0) (v1) (v2) (x3) (v1 - 1) ((-1)) σ1 else if (v2 : Int32) = 1 then if x3 = 2 then (zgR σ1 v0 5 6).bind fun x21 => (x21).bind fun a23 => (zaI σ1 a23 0 (v1 - 1)).bind fun x24 => s_SeriesBook_fieldOf_90 g  (v0) (v1) (v2) (x3) (v1 - 1) (x24.toInt64) σ1 else s_SeriesBook_fieldOf_90 g  (v0) (v1) (v2) (x3) (v1 - 1) ((-1)) σ1 else if (v2 : Int32) = 2 then (zgR σ1 v0 5 3).bind fun x14 => (x14).bind fun a16 => (zaI σ1 a16 0 (v1 - 1)).bind fun x17 => some (x17.toInt64, σ1) else if (v2 : Int32) = 3 then if x3 = 3 then (zgR σ1 v0 5 6).bind fun x8 => (x8).bind fun a10 => (zaI σ1 a10 0 (v1 - 1)).bind fun x11 => s_SeriesBook_fieldOf_119 g  (v0) (v1) (v2) (x3) (v1 - 1) (x11.toInt64) σ1 else s_SeriesBook_fieldOf_119 g  (v0) (v1) (v2) (x3) (v1 - 1) ((-1)) σ1 else none
set_option maxRecDepth 100000 in
theorem t_SeriesBook_fieldOf_70 {l : Launch} {D : zD} {g : zG} (hG : zGok g D) {q : Int64 × zS}   {v0 : Nat} {v1 : Int32} {v2 : Int32} {v3 : Int32} {v4 : Int32} {w0 : Int64} {σ : zS} (h : s_SeriesBook_fieldOf_70 g  v0 v1 v2 v3 v4 w0 σ = some q) : Z l D K_SeriesBook_fieldOf 2 42 (.returned (some (.long q.1)), q.2) 70 [(0, .ref (v0)), (1, .int (v1)), (2, .int (v2)), (3, .int (v3)), (4, .int (v4))] [.long (w0)] σ := by
  unfold s_SeriesBook_fieldOf_70 at h
  cases h
  exact z_lret rfl rfl d_SeriesBook_fieldOf_70
set_option maxRecDepth 100000 in
theorem t_SeriesBook_fieldOf_90 {l : Launch} {D : zD} {g : zG} (hG : zGok g D) {q : Int64 × zS}   {v0 : Nat} {v1 : Int32} {v2 : Int32} {v3 : Int32} {v4 : Int32} {w0 : Int64} {σ : zS} (h : s_SeriesBook_fieldOf_90 g  v0 v1 v2 v3 v4 w0 σ = some q) : Z l D K_SeriesBook_fieldOf 2 42 (.returned (some (.long q.1)), q.2) 90 [(0, .ref (v0)), (1, .int (v1)), (2, .int (v2)), (3, .int (v3)), (4, .int (v4))] [.long (w0)] σ := by
  unfold s_SeriesBook_fieldOf_90 at h
  cases h
  exact z_lret rfl rfl d_SeriesBook_fieldOf_90
set_option maxRecDepth 100000 in
theorem t_SeriesBook_fieldOf_119 {l : Launch} {D : zD} {g : zG} (hG : zGok g D) {q : Int64 × zS}   {v0 : Nat} {v1 : Int32} {v2 : Int32} {v3 : Int32} {v4 : Int32} {w0 : Int64} {σ : zS} (h : s_SeriesBook_fieldOf_119 g  v0 v1 v2 v3 v4 w0 σ = some q) : Z l D K_SeriesBook_fieldOf 2 42 (.returned (some (.long q.1)), q.2) 119 [(0, .ref (v0)), (1, .int (v1)), (2, .int (v2)), (3, .int (v3)), (4, .int (v4))] [.long (w0)] σ := by
  unfold s_SeriesBook_fieldOf_119 at h
  cases h
  exact z_lret rfl rfl d_SeriesBook_fieldOf_119
set_option maxRecDepth 100000 in
theorem t_SeriesBook_fieldOf {l : Launch} {D : zD} {g : zG} (hG : zGok g D) {v0 : Nat} {v1 : Int32} {v2 : Int32} {σ : zS} {q : Int64 × zS} (h : s_SeriesBook_fieldOf g v0 v1 v2 σ = some q) : zMet l D Y_SeriesBook_fieldOf K_SeriesBook_fieldOf 2 42 [.ref (v0), .int (v1), .int (v2)] σ (.returned (some (.long q.1)), q.2) := by
  refine zMet.ofZ (by decide) rfl (fun q => by cases q) (Nat.le_of_ble_eq_true rfl) ?_
  show Z _ _ _ _ _ _ 0 [(0, .ref (v0)), (1, .int (v1)), (2, .int (v2))] [] _
  unfold s_SeriesBook_fieldOf at h
  refine z_aload_n 0 d_SeriesBook_fieldOf_0 rfl rfl ?_
  refine z_iload_n 1 d_SeriesBook_fieldOf_1 rfl rfl ?_
  replace h := Option.bind_eq_some_iff.mp h; obtain ⟨_, e33, h⟩ := h
  obtain ⟨b34, f35, e33⟩ := zcls_at (zis_at e33)
  replace h := Option.bind_eq_some_iff.mp h; obtain ⟨⟨x3, σ1⟩, e2, h⟩ := h
  dsimp only at h
  refine z_callV (av := [.int (v1)]) (st := []) wV_NumberOffice_SeriesBook_74 e33 (t_SeriesBook_fateOf hG e2) (by decide) (by decide) d_SeriesBook_fieldOf_2 (by simp [z_rfc, z_ci, z_cl, z_cr, z_cn]) ?_
  show Z _ _ _ _ _ _ 5 [(0, .ref (v0)), (1, .int (v1)), (2, .int (v2))] [.int (x3)] _
  refine z_istore_n (j := 3) (lv' := [(3, .int (x3)), (0, .ref (v0)), (1, .int (v1)), (2, .int (v2))]) d_SeriesBook_fieldOf_5 rfl (by decide) rfl ?_
  refine z_iload_n 0 d_SeriesBook_fieldOf_6 rfl rfl ?_
  refine z_if_ne (tgt := 14) d_SeriesBook_fieldOf_7 rfl (fun c4 => ?_) (fun c4 => ?_)
  · rw [if_neg c4] at h
    refine z_iload_n 2 d_SeriesBook_fieldOf_14 rfl rfl ?_
    refine z_iconst (v := 1) d_SeriesBook_fieldOf_15 rfl ?_
    refine z_isub d_SeriesBook_fieldOf_16 ?_
    refine z_istore (j := 4) (lv' := [(4, .int (v1 - 1)), (3, .int (x3)), (0, .ref (v0)), (1, .int (v1)), (2, .int (v2))]) d_SeriesBook_fieldOf_17 (by decide) rfl ?_
    refine z_iload_n 4 d_SeriesBook_fieldOf_19 rfl rfl ?_
    by_cases c5 : (v2 : Int32).toInt < 0 ∨ 3 < (v2 : Int32).toInt
    · rw [if_pos c5] at h
      refine z_tableOut (tgt := 120) d_SeriesBook_fieldOf_20 c5 rfl ?_
      refine z_ldc2 (v := (-1)) wC_NumberOffice_SeriesBook_88 d_SeriesBook_fieldOf_120 ?_
      cases h
      exact z_lret rfl rfl d_SeriesBook_fieldOf_123
    · rw [if_neg c5] at h
      by_cases c26 : (v2 : Int32) = 0
      · rw [if_pos c26] at h
        refine z_tableIn (off := 32) (tgt := 52) d_SeriesBook_fieldOf_20 (by rw [c26]; decide) (by rw [c26]; decide) (by rw [c26]; rfl) rfl ?_
        refine z_iload_n 1 d_SeriesBook_fieldOf_52 rfl rfl ?_
        refine z_iconst (v := 2) d_SeriesBook_fieldOf_53 rfl ?_
        refine z_icmp_ne (tgt := 67) d_SeriesBook_fieldOf_54 rfl (fun c27 => ?_) (fun c27 => ?_)
        · rw [if_neg c27] at h
          refine z_ldc2 (v := (-1)) wC_NumberOffice_SeriesBook_88 d_SeriesBook_fieldOf_67 ?_
          refine z_lv (lv' := [(0, .ref (v0)), (1, .int (v1)), (2, .int (v2)), (3, .int (x3)), (4, .int (v1 - 1))]) [2, 3, 4, 1, 0] rfl ?_
          exact t_SeriesBook_fieldOf_70 hG   h
        · rw [if_pos c27] at h
          refine z_aload_n 2 d_SeriesBook_fieldOf_57 rfl rfl ?_
          replace h := Option.bind_eq_some_iff.mp h; obtain ⟨x28, e29, h⟩ := h
          refine z_getR wF_NumberOffice_SeriesBook_22_5 d_SeriesBook_fieldOf_58 e29 ?_
          refine z_iload 0 d_SeriesBook_fieldOf_61 rfl ?_
          replace h := Option.bind_eq_some_iff.mp h; obtain ⟨a30, rfl, h⟩ := h
          replace h := Option.bind_eq_some_iff.mp h; obtain ⟨x31, e32, h⟩ := h
          refine z_laload rfl d_SeriesBook_fieldOf_63 e32 ?_
          refine z_goto (tgt := 70) d_SeriesBook_fieldOf_64 rfl ?_
          refine z_lv (lv' := [(0, .ref (v0)), (1, .int (v1)), (2, .int (v2)), (3, .int (x3)), (4, .int (v1 - 1))]) [2, 3, 4, 1, 0] rfl ?_
          exact t_SeriesBook_fieldOf_70 hG   h
      · rw [if_neg c26] at h
        by_cases c19 : (v2 : Int32) = 1
        · rw [if_pos c19] at h
          refine z_tableIn (off := 51) (tgt := 71) d_SeriesBook_fieldOf_20 (by rw [c19]; decide) (by rw [c19]; decide) (by rw [c19]; rfl) rfl ?_
          refine z_iload_n 1 d_SeriesBook_fieldOf_71 rfl rfl ?_
          refine z_iconst (v := 2) d_SeriesBook_fieldOf_72 rfl ?_
          refine z_icmp_ne (tgt := 87) d_SeriesBook_fieldOf_73 rfl (fun c20 => ?_) (fun c20 => ?_)
          · rw [if_neg c20] at h
            refine z_ldc2 (v := (-1)) wC_NumberOffice_SeriesBook_88 d_SeriesBook_fieldOf_87 ?_
            refine z_lv (lv' := [(0, .ref (v0)), (1, .int (v1)), (2, .int (v2)), (3, .int (x3)), (4, .int (v1 - 1))]) [2, 3, 4, 1, 0] rfl ?_
            exact t_SeriesBook_fieldOf_90 hG   h
          · rw [if_pos c20] at h
            refine z_aload_n 2 d_SeriesBook_fieldOf_76 rfl rfl ?_
            replace h := Option.bind_eq_some_iff.mp h; obtain ⟨x21, e22, h⟩ := h
            refine z_getR wF_NumberOffice_SeriesBook_26_5 d_SeriesBook_fieldOf_77 e22 ?_
            refine z_iload 0 d_SeriesBook_fieldOf_80 rfl ?_
            replace h := Option.bind_eq_some_iff.mp h; obtain ⟨a23, rfl, h⟩ := h
            replace h := Option.bind_eq_some_iff.mp h; obtain ⟨x24, e25, h⟩ := h
            refine z_iaload rfl d_SeriesBook_fieldOf_82 e25 ?_
            refine z_i2l d_SeriesBook_fieldOf_83 ?_
            refine z_goto (tgt := 90) d_SeriesBook_fieldOf_84 rfl ?_
            refine z_lv (lv' := [(0, .ref (v0)), (1, .int (v1)), (2, .int (v2)), (3, .int (x3)), (4, .int (v1 - 1))]) [2, 3, 4, 1, 0] rfl ?_
            exact t_SeriesBook_fieldOf_90 hG   h
        · rw [if_neg c19] at h
          by_cases c13 : (v2 : Int32) = 2
          · rw [if_pos c13] at h
            refine z_tableIn (off := 71) (tgt := 91) d_SeriesBook_fieldOf_20 (by rw [c13]; decide) (by rw [c13]; decide) (by rw [c13]; rfl) rfl ?_
            refine z_aload_n 2 d_SeriesBook_fieldOf_91 rfl rfl ?_
            replace h := Option.bind_eq_some_iff.mp h; obtain ⟨x14, e15, h⟩ := h
            refine z_getR wF_NumberOffice_SeriesBook_15_5 d_SeriesBook_fieldOf_92 e15 ?_
            refine z_iload 0 d_SeriesBook_fieldOf_95 rfl ?_
            replace h := Option.bind_eq_some_iff.mp h; obtain ⟨a16, rfl, h⟩ := h
            replace h := Option.bind_eq_some_iff.mp h; obtain ⟨x17, e18, h⟩ := h
            refine z_iaload rfl d_SeriesBook_fieldOf_97 e18 ?_
            refine z_i2l d_SeriesBook_fieldOf_98 ?_
            cases h
            exact z_lret rfl rfl d_SeriesBook_fieldOf_99
          · rw [if_neg c13] at h
            by_cases c6 : (v2 : Int32) = 3
            · rw [if_pos c6] at h
              refine z_tableIn (off := 80) (tgt := 100) d_SeriesBook_fieldOf_20 (by rw [c6]; decide) (by rw [c6]; decide) (by rw [c6]; rfl) rfl ?_
              refine z_iload_n 1 d_SeriesBook_fieldOf_100 rfl rfl ?_
              refine z_iconst (v := 3) d_SeriesBook_fieldOf_101 rfl ?_
              refine z_icmp_ne (tgt := 116) d_SeriesBook_fieldOf_102 rfl (fun c7 => ?_) (fun c7 => ?_)
              · rw [if_neg c7] at h
                refine z_ldc2 (v := (-1)) wC_NumberOffice_SeriesBook_88 d_SeriesBook_fieldOf_116 ?_
                refine z_lv (lv' := [(0, .ref (v0)), (1, .int (v1)), (2, .int (v2)), (3, .int (x3)), (4, .int (v1 - 1))]) [2, 3, 4, 1, 0] rfl ?_
                exact t_SeriesBook_fieldOf_119 hG   h
              · rw [if_pos c7] at h
                refine z_aload_n 2 d_SeriesBook_fieldOf_105 rfl rfl ?_
                replace h := Option.bind_eq_some_iff.mp h; obtain ⟨x8, e9, h⟩ := h
                refine z_getR wF_NumberOffice_SeriesBook_26_5 d_SeriesBook_fieldOf_106 e9 ?_
                refine z_iload 0 d_SeriesBook_fieldOf_109 rfl ?_
                replace h := Option.bind_eq_some_iff.mp h; obtain ⟨a10, rfl, h⟩ := h
                replace h := Option.bind_eq_some_iff.mp h; obtain ⟨x11, e12, h⟩ := h
                refine z_iaload rfl d_SeriesBook_fieldOf_111 e12 ?_
                refine z_i2l d_SeriesBook_fieldOf_112 ?_
                refine z_goto (tgt := 119) d_SeriesBook_fieldOf_113 rfl ?_
                refine z_lv (lv' := [(0, .ref (v0)), (1, .int (v1)), (2, .int (v2)), (3, .int (x3)), (4, .int (v1 - 1))]) [2, 3, 4, 1, 0] rfl ?_
                exact t_SeriesBook_fieldOf_119 hG   h
            · rw [if_neg c6] at h
              cases h
  · rw [if_pos c4] at h
    refine z_ldc2 (v := (-1)) wC_NumberOffice_SeriesBook_88 d_SeriesBook_fieldOf_10 ?_
    cases h
    exact z_lret rfl rfl d_SeriesBook_fieldOf_13

def s_No_fate_29 (g : zG)  (v0 : Nat) (v1 : Int32) (v2 : Int32) (v3 : Option Nat) (w0 : Int32) (σ : zS) : Option ((Int32 ⊕ Nat) × zS) := some (.inl w0, σ)
def s_No_fate (g : zG) (v0 : Nat) (v1 : Int32) (v2 : Int32) (σ : zS) : Option ((Int32 ⊕ Nat) × zS) := (zgR σ v0 0 1).bind fun x1 => (s_No_requireUp g x1 σ).bind fun (x5, σ3) => match x5 with | .inl _ => ((zgR σ3 v0 0 1).bind fun x8 => (x8).bind fun a10 => (zis σ3 a10 4).bind fun _ => (s_Office_bookAt g a10 v1 σ3).bind fun (x13, σ11) => match x13 with | none => s_No_fate_29 g  (v0) (v1) (v2) (none) (0) σ11 | some a15 => (zis σ11 a15 5).bind fun _ => (s_SeriesBook_fateOf g a15 v2 σ11).bind fun (x18, σ16) => s_No_fate_29 g  (v0) (v1) (v2) (some (a15)) (x18) σ16) | .inr a7 => (some (.inr a7, σ3))
set_option maxRecDepth 100000 in
theorem t_No_fate_29 {l : Launch} {D : zD} {g : zG} (hG : zGok g D) (hl : zLo l) {q : (Int32 ⊕ Nat) × zS}   {v0 : Nat} {v1 : Int32} {v2 : Int32} {v3 : Option Nat} {w0 : Int32} {σ : zS} (h : s_No_fate_29 g  v0 v1 v2 v3 w0 σ = some q) : Z l D K_No_fate 7 140 (zoI q.1, q.2) 29 [(0, .ref (v0)), (1, .int (v1)), (2, .int (v2)), (3, va_rf (v3))] [.int (w0)] σ := by
  unfold s_No_fate_29 at h
  cases h
  exact z_iret rfl rfl d_No_fate_29
set_option maxRecDepth 100000 in
theorem t_No_fate {l : Launch} {D : zD} {g : zG} (hG : zGok g D) (hl : zLo l) {v0 : Nat} {v1 : Int32} {v2 : Int32} {σ : zS} {q : (Int32 ⊕ Nat) × zS} (h : s_No_fate g v0 v1 v2 σ = some q) : zMet l D Y_No_fate K_No_fate 7 140 [.ref (v0), .int (v1), .int (v2)] σ (zoI q.1, q.2) := by
  refine zMet.ofZ (by decide) rfl (fun q => by cases q) (Nat.le_of_ble_eq_true rfl) ?_
  show Z _ _ _ _ _ _ 0 [(0, .ref (v0)), (1, .int (v1)), (2, .int (v2))] [] _
  unfold s_No_fate at h
  refine z_aload_n 0 d_No_fate_0 rfl rfl ?_
  replace h := Option.bind_eq_some_iff.mp h; obtain ⟨x1, e2, h⟩ := h
  refine z_getR wF_NumberOffice_30_0 d_No_fate_1 e2 ?_
  replace h := Option.bind_eq_some_iff.mp h; obtain ⟨⟨x5, σ3⟩, e4, h⟩ := h
  dsimp only at h
  rcases x5 with _ | a7
  · dsimp only at h
    refine z_callS (av := [va_rf (x1)]) (st := []) wS_NumberOffice_41 (t_No_requireUp hG hl e4) (by decide) (by decide) d_No_fate_4 (by simp [z_rfc, z_ci, z_cl, z_cr, z_cn]) ?_
    show Z _ _ _ _ _ _ 7 [(0, .ref (v0)), (1, .int (v1)), (2, .int (v2))] [] _
    refine z_aload_n 0 d_No_fate_7 rfl rfl ?_
    replace h := Option.bind_eq_some_iff.mp h; obtain ⟨x8, e9, h⟩ := h
    refine z_getR wF_NumberOffice_30_0 d_No_fate_8 e9 ?_
    refine z_iload_n 1 d_No_fate_11 rfl rfl ?_
    replace h := Option.bind_eq_some_iff.mp h; obtain ⟨a10, rfl, h⟩ := h
    replace h := Option.bind_eq_some_iff.mp h; obtain ⟨_, e22, h⟩ := h
    obtain ⟨b23, f24, e22⟩ := zcls_at (zis_at e22)
    replace h := Option.bind_eq_some_iff.mp h; obtain ⟨⟨x13, σ11⟩, e12, h⟩ := h
    dsimp only at h
    refine z_callV (av := [.int (v1)]) (st := []) wV_NumberOffice_45 e22 (t_Office_bookAt hG e12) (by decide) (by decide) d_No_fate_12 (by simp [z_rfc, z_ci, z_cl, z_cr, z_cn]) ?_
    show Z _ _ _ _ _ _ 15 [(0, .ref (v0)), (1, .int (v1)), (2, .int (v2))] [va_rf (x13)] _
    refine z_astore_nR (j := 3) (lv' := [(3, va_rf (x13)), (0, .ref (v0)), (1, .int (v1)), (2, .int (v2))]) d_No_fate_15 rfl (by decide) rfl ?_
    refine z_aload_nR 0 d_No_fate_16 rfl rfl ?_
    refine z_ifnonnull (tgt := 24) d_No_fate_17 rfl (fun a15 c14 => ?_) (fun c14 => ?_)
    · subst c14
      dsimp only at h
      refine z_aload_n 0 d_No_fate_24 rfl rfl ?_
      refine z_iload_n 3 d_No_fate_25 rfl rfl ?_
      replace h := Option.bind_eq_some_iff.mp h; obtain ⟨_, e19, h⟩ := h
      obtain ⟨b20, f21, e19⟩ := zcls_at (zis_at e19)
      replace h := Option.bind_eq_some_iff.mp h; obtain ⟨⟨x18, σ16⟩, e17, h⟩ := h
      dsimp only at h
      refine z_callV (av := [.int (v2)]) (st := []) wV_NumberOffice_182 e19 (t_SeriesBook_fateOf hG e17) (by decide) (by decide) d_No_fate_26 (by simp [z_rfc, z_ci, z_cl, z_cr, z_cn]) ?_
      show Z _ _ _ _ _ _ 29 [(3, .ref (a15)), (0, .ref (v0)), (1, .int (v1)), (2, .int (v2))] [.int (x18)] _
      refine z_lv (lv' := [(0, .ref (v0)), (1, .int (v1)), (2, .int (v2)), (3, va_rf (some (a15)))]) [1, 2, 3, 0] rfl ?_
      exact t_No_fate_29 hG hl   h
    · subst c14
      dsimp only at h
      refine z_iconst (v := 0) d_No_fate_20 rfl ?_
      refine z_goto (tgt := 29) d_No_fate_21 rfl ?_
      refine z_lv (lv' := [(0, .ref (v0)), (1, .int (v1)), (2, .int (v2)), (3, va_rf (none))]) [1, 2, 3, 0] rfl ?_
      exact t_No_fate_29 hG hl   h
  · dsimp only at h
    cases h
    refine z_callS_t (a := a7) (av := [va_rf (x1)]) (st := []) wS_NumberOffice_41 (t_No_requireUp hG hl e4) (by decide) (by decide) d_No_fate_4 (by simp [z_rfc, z_ci, z_cl, z_cr, z_cn]) ?_
    exact zt_out rfl rfl

def s_No_invoiceOf_35 (g : zG)  (v0 : Nat) (v1 : Int32) (v2 : Int32) (v3 : Int32) (v4 : Option Nat) (w0 : Int64) (σ : zS) : Option ((Int64 ⊕ Nat) × zS) := some (.inl w0, σ)
def s_No_invoiceOf (g : zG) (v0 : Nat) (v1 : Int32) (v2 : Int32) (v3 : Int32) (σ : zS) : Option ((Int64 ⊕ Nat) × zS) := (zgR σ v0 0 1).bind fun x1 => (s_No_requireUp g x1 σ).bind fun (x5, σ3) => match x5 with | .inl _ => ((zgR σ3 v0 0 1).bind fun x8 => (x8).bind fun a10 => (zis σ3 a10 4).bind fun _ => (s_Office_bookAt g a10 v1 σ3).bind fun (x13, σ11) => match x13 with | none => s_No_invoiceOf_35 g  (v0) (v1) (v2) (v3) (none) ((-1)) σ11 | some a15 => (zis σ11 a15 5).bind fun _ => (s_SeriesBook_fieldOf g a15 v2 v3 σ11).bind fun (x18, σ16) => s_No_invoiceOf_35 g  (v0) (v1) (v2) (v3) (some (a15)) (x18) σ16) | .inr a7 => (some (.inr a7, σ3))
set_option maxRecDepth 100000 in
theorem t_No_invoiceOf_35 {l : Launch} {D : zD} {g : zG} (hG : zGok g D) (hl : zLo l) {q : (Int64 ⊕ Nat) × zS}   {v0 : Nat} {v1 : Int32} {v2 : Int32} {v3 : Int32} {v4 : Option Nat} {w0 : Int64} {σ : zS} (h : s_No_invoiceOf_35 g  v0 v1 v2 v3 v4 w0 σ = some q) : Z l D K_No_invoiceOf 7 140 (zoJ q.1, q.2) 35 [(0, .ref (v0)), (1, .int (v1)), (2, .int (v2)), (3, .int (v3)), (4, va_rf (v4))] [.long (w0)] σ := by
  unfold s_No_invoiceOf_35 at h
  cases h
  exact z_lret rfl rfl d_No_invoiceOf_35
set_option maxRecDepth 100000 in
theorem t_No_invoiceOf {l : Launch} {D : zD} {g : zG} (hG : zGok g D) (hl : zLo l) {v0 : Nat} {v1 : Int32} {v2 : Int32} {v3 : Int32} {σ : zS} {q : (Int64 ⊕ Nat) × zS} (h : s_No_invoiceOf g v0 v1 v2 v3 σ = some q) : zMet l D Y_No_invoiceOf K_No_invoiceOf 7 140 [.ref (v0), .int (v1), .int (v2), .int (v3)] σ (zoJ q.1, q.2) := by
  refine zMet.ofZ (by decide) rfl (fun q => by cases q) (Nat.le_of_ble_eq_true rfl) ?_
  show Z _ _ _ _ _ _ 0 [(0, .ref (v0)), (1, .int (v1)), (2, .int (v2)), (3, .int (v3))] [] _
  unfold s_No_invoiceOf at h
  refine z_aload_n 0 d_No_invoiceOf_0 rfl rfl ?_
  replace h := Option.bind_eq_some_iff.mp h; obtain ⟨x1, e2, h⟩ := h
  refine z_getR wF_NumberOffice_30_0 d_No_invoiceOf_1 e2 ?_
  replace h := Option.bind_eq_some_iff.mp h; obtain ⟨⟨x5, σ3⟩, e4, h⟩ := h
  dsimp only at h
  rcases x5 with _ | a7
  · dsimp only at h
    refine z_callS (av := [va_rf (x1)]) (st := []) wS_NumberOffice_41 (t_No_requireUp hG hl e4) (by decide) (by decide) d_No_invoiceOf_4 (by simp [z_rfc, z_ci, z_cl, z_cr, z_cn]) ?_
    show Z _ _ _ _ _ _ 7 [(0, .ref (v0)), (1, .int (v1)), (2, .int (v2)), (3, .int (v3))] [] _
    refine z_aload_n 0 d_No_invoiceOf_7 rfl rfl ?_
    replace h := Option.bind_eq_some_iff.mp h; obtain ⟨x8, e9, h⟩ := h
    refine z_getR wF_NumberOffice_30_0 d_No_invoiceOf_8 e9 ?_
    refine z_iload_n 1 d_No_invoiceOf_11 rfl rfl ?_
    replace h := Option.bind_eq_some_iff.mp h; obtain ⟨a10, rfl, h⟩ := h
    replace h := Option.bind_eq_some_iff.mp h; obtain ⟨_, e22, h⟩ := h
    obtain ⟨b23, f24, e22⟩ := zcls_at (zis_at e22)
    replace h := Option.bind_eq_some_iff.mp h; obtain ⟨⟨x13, σ11⟩, e12, h⟩ := h
    dsimp only at h
    refine z_callV (av := [.int (v1)]) (st := []) wV_NumberOffice_45 e22 (t_Office_bookAt hG e12) (by decide) (by decide) d_No_invoiceOf_12 (by simp [z_rfc, z_ci, z_cl, z_cr, z_cn]) ?_
    show Z _ _ _ _ _ _ 15 [(0, .ref (v0)), (1, .int (v1)), (2, .int (v2)), (3, .int (v3))] [va_rf (x13)] _
    refine z_astoreR (j := 4) (lv' := [(4, va_rf (x13)), (0, .ref (v0)), (1, .int (v1)), (2, .int (v2)), (3, .int (v3))]) d_No_invoiceOf_15 (by decide) rfl ?_
    refine z_aloadR 0 d_No_invoiceOf_17 rfl ?_
    refine z_ifnonnull (tgt := 28) d_No_invoiceOf_19 rfl (fun a15 c14 => ?_) (fun c14 => ?_)
    · subst c14
      dsimp only at h
      refine z_aload 0 d_No_invoiceOf_28 rfl ?_
      refine z_iload_n 3 d_No_invoiceOf_30 rfl rfl ?_
      refine z_iload_n 4 d_No_invoiceOf_31 rfl rfl ?_
      replace h := Option.bind_eq_some_iff.mp h; obtain ⟨_, e19, h⟩ := h
      obtain ⟨b20, f21, e19⟩ := zcls_at (zis_at e19)
      replace h := Option.bind_eq_some_iff.mp h; obtain ⟨⟨x18, σ16⟩, e17, h⟩ := h
      dsimp only at h
      refine z_callV (av := [.int (v2), .int (v3)]) (st := []) wV_NumberOffice_185 e19 (t_SeriesBook_fieldOf hG e17) (by decide) (by decide) d_No_invoiceOf_32 (by simp [z_rfc, z_ci, z_cl, z_cr, z_cn]) ?_
      show Z _ _ _ _ _ _ 35 [(4, .ref (a15)), (0, .ref (v0)), (1, .int (v1)), (2, .int (v2)), (3, .int (v3))] [.long (x18)] _
      refine z_lv (lv' := [(0, .ref (v0)), (1, .int (v1)), (2, .int (v2)), (3, .int (v3)), (4, va_rf (some (a15)))]) [1, 2, 3, 4, 0] rfl ?_
      exact t_No_invoiceOf_35 hG hl   h
    · subst c14
      dsimp only at h
      refine z_ldc2 (v := (-1)) wC_NumberOffice_183 d_No_invoiceOf_22 ?_
      refine z_goto (tgt := 35) d_No_invoiceOf_25 rfl ?_
      refine z_lv (lv' := [(0, .ref (v0)), (1, .int (v1)), (2, .int (v2)), (3, .int (v3)), (4, va_rf (none))]) [1, 2, 3, 4, 0] rfl ?_
      exact t_No_invoiceOf_35 hG hl   h
  · dsimp only at h
    cases h
    refine z_callS_t (a := a7) (av := [va_rf (x1)]) (st := []) wS_NumberOffice_41 (t_No_requireUp hG hl e4) (by decide) (by decide) d_No_invoiceOf_4 (by simp [z_rfc, z_ci, z_cl, z_cr, z_cn]) ?_
    exact zt_out rfl rfl

def s_No_total_29 (g : zG)  (v0 : Nat) (v1 : Int32) (v2 : Int32) (v3 : Option Nat) (w0 : Int64) (σ : zS) : Option ((Int64 ⊕ Nat) × zS) := some (.inl w0, σ)
def s_No_total (g : zG) (v0 : Nat) (v1 : Int32) (v2 : Int32) (σ : zS) : Option ((Int64 ⊕ Nat) × zS) := (zgR σ v0 0 1).bind fun x1 => (s_No_requireUp g x1 σ).bind fun (x5, σ3) => match x5 with | .inl _ => ((zgR σ3 v0 0 1).bind fun x8 => (x8).bind fun a10 => (zis σ3 a10 4).bind fun _ => (s_Office_bookAt g a10 v1 σ3).bind fun (x13, σ11) => match x13 with | none => s_No_total_29 g  (v0) (v1) (v2) (none) (0) σ11 | some a15 => (zis σ11 a15 5).bind fun _ => (s_SeriesBook_centsOf g a15 v2 σ11).bind fun (x18, σ16) => s_No_total_29 g  (v0) (v1) (v2) (some (a15)) (x18) σ16) | .inr a7 => (some (.inr a7, σ3))
set_option maxRecDepth 100000 in
theorem t_No_total_29 {l : Launch} {D : zD} {g : zG} (hG : zGok g D) (hl : zLo l) {q : (Int64 ⊕ Nat) × zS}   {v0 : Nat} {v1 : Int32} {v2 : Int32} {v3 : Option Nat} {w0 : Int64} {σ : zS} (h : s_No_total_29 g  v0 v1 v2 v3 w0 σ = some q) : Z l D K_No_total 7 140 (zoJ q.1, q.2) 29 [(0, .ref (v0)), (1, .int (v1)), (2, .int (v2)), (3, va_rf (v3))] [.long (w0)] σ := by
  unfold s_No_total_29 at h
  cases h
  exact z_lret rfl rfl d_No_total_29
set_option maxRecDepth 100000 in
theorem t_No_total {l : Launch} {D : zD} {g : zG} (hG : zGok g D) (hl : zLo l) {v0 : Nat} {v1 : Int32} {v2 : Int32} {σ : zS} {q : (Int64 ⊕ Nat) × zS} (h : s_No_total g v0 v1 v2 σ = some q) : zMet l D Y_No_total K_No_total 7 140 [.ref (v0), .int (v1), .int (v2)] σ (zoJ q.1, q.2) := by
  refine zMet.ofZ (by decide) rfl (fun q => by cases q) (Nat.le_of_ble_eq_true rfl) ?_
  show Z _ _ _ _ _ _ 0 [(0, .ref (v0)), (1, .int (v1)), (2, .int (v2))] [] _
  unfold s_No_total at h
  refine z_aload_n 0 d_No_total_0 rfl rfl ?_
  replace h := Option.bind_eq_some_iff.mp h; obtain ⟨x1, e2, h⟩ := h
  refine z_getR wF_NumberOffice_30_0 d_No_total_1 e2 ?_
  replace h := Option.bind_eq_some_iff.mp h; obtain ⟨⟨x5, σ3⟩, e4, h⟩ := h
  dsimp only at h
  rcases x5 with _ | a7
  · dsimp only at h
    refine z_callS (av := [va_rf (x1)]) (st := []) wS_NumberOffice_41 (t_No_requireUp hG hl e4) (by decide) (by decide) d_No_total_4 (by simp [z_rfc, z_ci, z_cl, z_cr, z_cn]) ?_
    show Z _ _ _ _ _ _ 7 [(0, .ref (v0)), (1, .int (v1)), (2, .int (v2))] [] _
    refine z_aload_n 0 d_No_total_7 rfl rfl ?_
    replace h := Option.bind_eq_some_iff.mp h; obtain ⟨x8, e9, h⟩ := h
    refine z_getR wF_NumberOffice_30_0 d_No_total_8 e9 ?_
    refine z_iload_n 1 d_No_total_11 rfl rfl ?_
    replace h := Option.bind_eq_some_iff.mp h; obtain ⟨a10, rfl, h⟩ := h
    replace h := Option.bind_eq_some_iff.mp h; obtain ⟨_, e22, h⟩ := h
    obtain ⟨b23, f24, e22⟩ := zcls_at (zis_at e22)
    replace h := Option.bind_eq_some_iff.mp h; obtain ⟨⟨x13, σ11⟩, e12, h⟩ := h
    dsimp only at h
    refine z_callV (av := [.int (v1)]) (st := []) wV_NumberOffice_45 e22 (t_Office_bookAt hG e12) (by decide) (by decide) d_No_total_12 (by simp [z_rfc, z_ci, z_cl, z_cr, z_cn]) ?_
    show Z _ _ _ _ _ _ 15 [(0, .ref (v0)), (1, .int (v1)), (2, .int (v2))] [va_rf (x13)] _
    refine z_astore_nR (j := 3) (lv' := [(3, va_rf (x13)), (0, .ref (v0)), (1, .int (v1)), (2, .int (v2))]) d_No_total_15 rfl (by decide) rfl ?_
    refine z_aload_nR 0 d_No_total_16 rfl rfl ?_
    refine z_ifnonnull (tgt := 24) d_No_total_17 rfl (fun a15 c14 => ?_) (fun c14 => ?_)
    · subst c14
      dsimp only at h
      refine z_aload_n 0 d_No_total_24 rfl rfl ?_
      refine z_iload_n 3 d_No_total_25 rfl rfl ?_
      replace h := Option.bind_eq_some_iff.mp h; obtain ⟨_, e19, h⟩ := h
      obtain ⟨b20, f21, e19⟩ := zcls_at (zis_at e19)
      replace h := Option.bind_eq_some_iff.mp h; obtain ⟨⟨x18, σ16⟩, e17, h⟩ := h
      dsimp only at h
      refine z_callV (av := [.int (v2)]) (st := []) wV_NumberOffice_189 e19 (t_SeriesBook_centsOf hG e17) (by decide) (by decide) d_No_total_26 (by simp [z_rfc, z_ci, z_cl, z_cr, z_cn]) ?_
      show Z _ _ _ _ _ _ 29 [(3, .ref (a15)), (0, .ref (v0)), (1, .int (v1)), (2, .int (v2))] [.long (x18)] _
      refine z_lv (lv' := [(0, .ref (v0)), (1, .int (v1)), (2, .int (v2)), (3, va_rf (some (a15)))]) [1, 2, 3, 0] rfl ?_
      exact t_No_total_29 hG hl   h
    · subst c14
      dsimp only at h
      refine z_lconst (v := 0) d_No_total_20 rfl ?_
      refine z_goto (tgt := 29) d_No_total_21 rfl ?_
      refine z_lv (lv' := [(0, .ref (v0)), (1, .int (v1)), (2, .int (v2)), (3, va_rf (none))]) [1, 2, 3, 0] rfl ?_
      exact t_No_total_29 hG hl   h
  · dsimp only at h
    cases h
    refine z_callS_t (a := a7) (av := [va_rf (x1)]) (st := []) wS_NumberOffice_41 (t_No_requireUp hG hl e4) (by decide) (by decide) d_No_total_4 (by simp [z_rfc, z_ci, z_cl, z_cr, z_cn]) ?_
    exact zt_out rfl rfl

def s_Branch_save_2 (g : zG)  : Nat → Nat → Int32 → zS → Option (zS)
  | 0, _, _, _ => none
  | n + 1, v0, v1, σ => if 3 ≤ v1 then (zgR σ v0 1 2).bind fun x2 => (zpF σ v0 1 5 (va_rf (x2))).bind fun σ4 => (zgI σ4 v0 1 3).bind fun x6 => if x6 = 0 ∨ x6 = 1 then (zpF σ4 v0 1 6 (.int (x6))).bind fun σ8 => (zgI σ8 v0 1 4).bind fun x10 => if x10 = 0 ∨ x10 = 1 then (zpF σ8 v0 1 7 (.int (x10))).bind fun σ12 => some σ12 else none else none else (zgR σ v0 1 1).bind fun x16 => (x16).bind fun a18 => (zaR σ a18 7 (v1)).bind fun x19 => (x19).bind fun a21 => (zis σ a21 2).bind fun _ => (s_BranchSeries_save g a21  σ).bind fun σ22 => s_Branch_save_2 g  n (v0) (v1 + 1) σ22
def s_Branch_save (g : zG) (v0 : Nat) (σ : zS) : Option (zS) := s_Branch_save_2 g  zfuel (v0) (0) σ
set_option maxRecDepth 100000 in
theorem t_Branch_save_2 {l : Launch} {D : zD} {g : zG} (hG : zGok g D) {q : zS}   : ∀ (n : Nat) {v0 : Nat} {v1 : Int32} {σ : zS}, s_Branch_save_2 g  n v0 v1 σ = some q → Z l D K_Branch_save 2 40 (.returned none, q) 2 [(0, .ref (v0)), (1, .int (v1))] [] σ := by
  intro n
  induction n with
  | zero =>
    intro v0 v1 σ h
    cases h
  | succ n ih =>
    intro v0 v1 σ h
    first | rw [s_Branch_save_2] at h | (unfold s_Branch_save_2 at h; dsimp only at h)
    refine z_iload_n 1 d_Branch_save_2 rfl rfl ?_
    refine z_iconst (v := 3) d_Branch_save_3 rfl ?_
    refine z_icmp_ge (tgt := 22) d_Branch_save_4 rfl (fun c1 => ?_) (fun c1 => ?_)
    · rw [if_pos c1] at h
      refine z_aload_n 0 d_Branch_save_22 rfl rfl ?_
      refine z_aload_n 0 d_Branch_save_23 rfl rfl ?_
      replace h := Option.bind_eq_some_iff.mp h; obtain ⟨x2, e3, h⟩ := h
      refine z_getR wF_NumberOffice_Branch_25_1 d_Branch_save_24 e3 ?_
      replace h := Option.bind_eq_some_iff.mp h; obtain ⟨σ4, e5, h⟩ := h
      refine z_put wP_NumberOffice_Branch_29_1 (fun q => by cases q) d_Branch_save_27 (z_nr _ _) (z_fr _ _) e5 ?_
      refine z_aload_n 0 d_Branch_save_30 rfl rfl ?_
      refine z_aload_n 0 d_Branch_save_31 rfl rfl ?_
      replace h := Option.bind_eq_some_iff.mp h; obtain ⟨x6, e7, h⟩ := h
      refine z_getI wF_NumberOffice_Branch_32_1 d_Branch_save_32 e7 ?_
      by_cases c15 : x6 = 0 ∨ x6 = 1
      rotate_left
      · rw [if_neg c15] at h; cases h
      rw [if_pos c15] at h
      replace h := Option.bind_eq_some_iff.mp h; obtain ⟨σ8, e9, h⟩ := h
      refine z_put wP_NumberOffice_Branch_36_1 (fun q => by cases q) d_Branch_save_35 (z_nb c15) (z_fb c15) e9 ?_
      refine z_aload_n 0 d_Branch_save_38 rfl rfl ?_
      refine z_aload_n 0 d_Branch_save_39 rfl rfl ?_
      replace h := Option.bind_eq_some_iff.mp h; obtain ⟨x10, e11, h⟩ := h
      refine z_getI wF_NumberOffice_Branch_39_1 d_Branch_save_40 e11 ?_
      by_cases c14 : x10 = 0 ∨ x10 = 1
      rotate_left
      · rw [if_neg c14] at h; cases h
      rw [if_pos c14] at h
      replace h := Option.bind_eq_some_iff.mp h; obtain ⟨σ12, e13, h⟩ := h
      refine z_put wP_NumberOffice_Branch_42_1 (fun q => by cases q) d_Branch_save_43 (z_nb c14) (z_fb c14) e13 ?_
      cases h
      exact z_vret rfl rfl d_Branch_save_46
    · rw [if_neg c1] at h
      refine z_aload_n 0 d_Branch_save_7 rfl rfl ?_
      replace h := Option.bind_eq_some_iff.mp h; obtain ⟨x16, e17, h⟩ := h
      refine z_getR wF_NumberOffice_Branch_11_1 d_Branch_save_8 e17 ?_
      refine z_iload_n 1 d_Branch_save_11 rfl rfl ?_
      replace h := Option.bind_eq_some_iff.mp h; obtain ⟨a18, rfl, h⟩ := h
      replace h := Option.bind_eq_some_iff.mp h; obtain ⟨x19, e20, h⟩ := h
      refine z_aaload rfl d_Branch_save_12 e20 ?_
      replace h := Option.bind_eq_some_iff.mp h; obtain ⟨a21, rfl, h⟩ := h
      replace h := Option.bind_eq_some_iff.mp h; obtain ⟨_, e25, h⟩ := h
      obtain ⟨b26, f27, e25⟩ := zcls_at (zis_at e25)
      replace h := Option.bind_eq_some_iff.mp h; obtain ⟨σ22, e23, h⟩ := h
      refine z_callV (av := []) (st := []) wV_NumberOffice_Branch_22 e25 (t_BranchSeries_save hG e23) (by decide) (by decide) d_Branch_save_13 (by simp [z_rfc, z_ci, z_cl, z_cr, z_cn]) ?_
      show Z _ _ _ _ _ _ 16 [(0, .ref (v0)), (1, .int (v1))] [] _
      refine z_iinc (v := v1 + 1) (lv' := [(1, .int (v1 + 1)), (0, .ref (v0))]) 1 d_Branch_save_16 rfl rfl (by decide) rfl ?_
      refine z_goto (tgt := 2) d_Branch_save_19 rfl ?_
      refine z_lv (lv' := [(0, .ref (v0)), (1, .int (v1 + 1))]) [1, 0] rfl ?_
      exact ih h
set_option maxRecDepth 100000 in
theorem t_Branch_save {l : Launch} {D : zD} {g : zG} (hG : zGok g D) {v0 : Nat} {σ : zS} {q : zS} (h : s_Branch_save g v0 σ = some q) : zMet l D Y_Branch_save K_Branch_save 2 40 [.ref (v0)] σ (.returned none, q) := by
  refine zMet.ofZ (by decide) rfl (fun q => by cases q) (Nat.le_of_ble_eq_true rfl) ?_
  show Z _ _ _ _ _ _ 0 [(0, .ref (v0))] [] _
  unfold s_Branch_save at h
  refine z_iconst (v := 0) d_Branch_save_0 rfl ?_
  refine z_istore_n (j := 1) (lv' := [(1, .int (0)), (0, .ref (v0))]) d_Branch_save_1 rfl (by decide) rfl ?_
  refine z_lv (lv' := [(0, .ref (v0)), (1, .int (0))]) [1, 0] rfl ?_
  exact t_Branch_save_2 hG   zfuel h

def s_No_flush_17 (g : zG)  (v0 : Nat) (v1 : Int32) (v2 : Option Nat) (σ : zS) : Option (Int32 × zS) := some (0, σ)
def s_No_flush (g : zG) (v0 : Nat) (v1 : Int32) (σ : zS) : Option (Int32 × zS) := (zis σ v0 0).bind fun _ => (s_No_sideAt g v0 v1 σ).bind fun (x3, σ1) => match x3 with | none => s_No_flush_17 g  (v0) (v1) (none) σ1 | some a5 => (zgI2 σ1 a5 1 8 4 6).bind fun x6 => if x6 = 0 then s_No_flush_17 g  (v0) (v1) (some (a5)) σ1 else if zcls σ1 a5 = some 1 then (zis σ1 a5 1).bind fun _ => (s_Branch_save g a5  σ1).bind fun σ10 => some (1, σ10) else (zis σ1 a5 4).bind fun _ => (s_Office_save g a5  σ1).bind fun σ16 => some (1, σ16)
set_option maxRecDepth 100000 in
theorem t_No_flush_17 {l : Launch} {D : zD} {g : zG} (hG : zGok g D) {q : Int32 × zS}   {v0 : Nat} {v1 : Int32} {v2 : Option Nat} {σ : zS} (h : s_No_flush_17 g  v0 v1 v2 σ = some q) : Z l D K_No_flush 3 66 (.returned (some (.int q.1)), q.2) 17 [(0, .ref (v0)), (1, .int (v1)), (2, va_rf (v2))] [] σ := by
  unfold s_No_flush_17 at h
  refine z_iconst (v := 0) d_No_flush_17 rfl ?_
  cases h
  exact z_zret rfl rfl rfl d_No_flush_18
set_option maxRecDepth 100000 in
theorem t_No_flush {l : Launch} {D : zD} {g : zG} (hG : zGok g D) {v0 : Nat} {v1 : Int32} {σ : zS} {q : Int32 × zS} (h : s_No_flush g v0 v1 σ = some q) : zMet l D Y_No_flush K_No_flush 3 66 [.ref (v0), .int (v1)] σ (.returned (some (.int q.1)), q.2) := by
  refine zMet.ofZ (by decide) rfl (fun q => by cases q) (Nat.le_of_ble_eq_true rfl) ?_
  show Z _ _ _ _ _ _ 0 [(0, .ref (v0)), (1, .int (v1))] [] _
  unfold s_No_flush at h
  refine z_aload_n 0 d_No_flush_0 rfl rfl ?_
  refine z_iload_n 1 d_No_flush_1 rfl rfl ?_
  replace h := Option.bind_eq_some_iff.mp h; obtain ⟨_, e22, h⟩ := h
  obtain ⟨b23, f24, e22⟩ := zcls_at (zis_at e22)
  replace h := Option.bind_eq_some_iff.mp h; obtain ⟨⟨x3, σ1⟩, e2, h⟩ := h
  dsimp only at h
  refine z_callV (av := [.int (v1)]) (st := []) wV_NumberOffice_138 e22 (t_No_sideAt hG e2) (by decide) (by decide) d_No_flush_2 (by simp [z_rfc, z_ci, z_cl, z_cr, z_cn]) ?_
  show Z _ _ _ _ _ _ 5 [(0, .ref (v0)), (1, .int (v1))] [va_rf (x3)] _
  refine z_astore_nR (j := 2) (lv' := [(2, va_rf (x3)), (0, .ref (v0)), (1, .int (v1))]) d_No_flush_5 rfl (by decide) rfl ?_
  refine z_aload_nR 0 d_No_flush_6 rfl rfl ?_
  refine z_ifnull (tgt := 17) d_No_flush_7 rfl (fun c4 => ?_) (fun a5 c4 => ?_)
  · subst c4
    dsimp only at h
    refine z_lv (lv' := [(0, .ref (v0)), (1, .int (v1)), (2, va_rf (none))]) [1, 2, 0] rfl ?_
    exact t_No_flush_17 hG   h
  · subst c4
    dsimp only at h
    refine z_aload_n 0 d_No_flush_10 rfl rfl ?_
    replace h := Option.bind_eq_some_iff.mp h; obtain ⟨x6, e7, h⟩ := h
    refine z_getI2 wF_NumberOffice_142_1 wF_NumberOffice_142_4 d_No_flush_11 e7 ?_
    refine z_if_ne (tgt := 19) d_No_flush_14 rfl (fun c8 => ?_) (fun c8 => ?_)
    · rw [if_neg c8] at h
      refine z_aload_n 0 d_No_flush_19 rfl rfl ?_
      by_cases c9 : zcls σ1 a5 = some 1
      · rw [if_pos c9] at h
        replace h := Option.bind_eq_some_iff.mp h; obtain ⟨_, e13, h⟩ := h
        obtain ⟨b14, f15, e13⟩ := zcls_at (zis_at e13)
        replace h := Option.bind_eq_some_iff.mp h; obtain ⟨σ10, e11, h⟩ := h
        refine z_callU (av := []) (st := []) wX_NumberOffice_148_1 e13 (t_Branch_save hG e11) (by decide) (by decide) d_No_flush_20 (by simp [z_rfc, z_ci, z_cl, z_cr, z_cn]) ?_
        show Z _ _ _ _ _ _ 23 [(2, .ref (a5)), (0, .ref (v0)), (1, .int (v1))] [] _
        refine z_iconst (v := 1) d_No_flush_23 rfl ?_
        cases h
        exact z_zret rfl rfl rfl d_No_flush_24
      · rw [if_neg c9] at h
        replace h := Option.bind_eq_some_iff.mp h; obtain ⟨_, e19, h⟩ := h
        obtain ⟨b20, f21, e19⟩ := zcls_at (zis_at e19)
        replace h := Option.bind_eq_some_iff.mp h; obtain ⟨σ16, e17, h⟩ := h
        refine z_callU (av := []) (st := []) wX_NumberOffice_148_4 e19 (t_Office_save hG e17) (by decide) (by decide) d_No_flush_20 (by simp [z_rfc, z_ci, z_cl, z_cr, z_cn]) ?_
        show Z _ _ _ _ _ _ 23 [(2, .ref (a5)), (0, .ref (v0)), (1, .int (v1))] [] _
        refine z_iconst (v := 1) d_No_flush_23 rfl ?_
        cases h
        exact z_zret rfl rfl rfl d_No_flush_24
    · rw [if_pos c8] at h
      refine z_lv (lv' := [(0, .ref (v0)), (1, .int (v1)), (2, va_rf (some (a5)))]) [1, 2, 0] rfl ?_
      exact t_No_flush_17 hG   h

def s_No_mailAt_30 (g : zG)  (v0 : Nat) (v1 : Int32) (w0 : Option Nat) (σ : zS) : Option (Option Nat × zS) := some (w0, σ)
def s_No_mailAt_29 (g : zG)  (v0 : Nat) (v1 : Int32) (σ : zS) : Option (Option Nat × zS) := s_No_mailAt_30 g  (v0) (v1) (none) σ
def s_No_mailAt (g : zG) (v0 : Nat) (v1 : Int32) (σ : zS) : Option (Option Nat × zS) := if v1 < 0 then s_No_mailAt_29 g  (v0) (v1) σ else (zgR σ v0 0 2).bind fun x2 => (x2).bind fun a4 => (zis σ a4 3).bind fun _ => (s_ArrayList_size g a4  σ).bind fun (x7, σ5) => if x7 ≤ v1 then s_No_mailAt_29 g  (v0) (v1) σ5 else (zgR σ5 v0 0 2).bind fun x9 => (x9).bind fun a11 => (zis σ5 a11 3).bind fun _ => (s_ArrayList_get g a11 v1 σ5).bind fun (x14, σ12) => (x14).bind fun a15 => (zis2 σ12 a15 9 6).bind fun _ => s_No_mailAt_30 g  (v0) (v1) (some (a15)) σ12
set_option maxRecDepth 100000 in
theorem t_No_mailAt_30 {l : Launch} {D : zD} {g : zG} (hG : zGok g D) {q : Option Nat × zS}   {v0 : Nat} {v1 : Int32} {w0 : Option Nat} {σ : zS} (h : s_No_mailAt_30 g  v0 v1 w0 σ = some q) : Z l D K_No_mailAt 3 64 (.returned (some (va_rf q.1)), q.2) 30 [(0, .ref (v0)), (1, .int (v1))] [va_rf (w0)] σ := by
  unfold s_No_mailAt_30 at h
  cases h
  exact z_aret (r := w0) rfl (Or.inl ⟨_, rfl⟩) rfl d_No_mailAt_30
set_option maxRecDepth 100000 in
theorem t_No_mailAt_29 {l : Launch} {D : zD} {g : zG} (hG : zGok g D) {q : Option Nat × zS}   {v0 : Nat} {v1 : Int32} {σ : zS} (h : s_No_mailAt_29 g  v0 v1 σ = some q) : Z l D K_No_mailAt 3 64 (.returned (some (va_rf q.1)), q.2) 29 [(0, .ref (v0)), (1, .int (v1))] [] σ := by
  unfold s_No_mailAt_29 at h
  refine z_null d_No_mailAt_29 ?_
  refine z_lv (lv' := [(0, .ref (v0)), (1, .int (v1))]) [0, 1] rfl ?_
  exact t_No_mailAt_30 hG   h
set_option maxRecDepth 100000 in
theorem t_No_mailAt {l : Launch} {D : zD} {g : zG} (hG : zGok g D) {v0 : Nat} {v1 : Int32} {σ : zS} {q : Option Nat × zS} (h : s_No_mailAt g v0 v1 σ = some q) : zMet l D Y_No_mailAt K_No_mailAt 3 64 [.ref (v0), .int (v1)] σ (.returned (some (va_rf q.1)), q.2) := by
  refine zMet.ofZ (by decide) rfl (fun q => by cases q) (Nat.le_of_ble_eq_true rfl) ?_
  show Z _ _ _ _ _ _ 0 [(0, .ref (v0)), (1, .int (v1))] [] _
  unfold s_No_mailAt at h
  refine z_iload_n 1 d_No_mailAt_0 rfl rfl ?_
  refine z_if_lt (tgt := 29) d_No_mailAt_1 rfl (fun c1 => ?_) (fun c1 => ?_)
  · rw [if_pos c1] at h
    refine z_lv (lv' := [(0, .ref (v0)), (1, .int (v1))]) [0, 1] rfl ?_
    exact t_No_mailAt_29 hG   h
  · rw [if_neg c1] at h
    refine z_iload_n 1 d_No_mailAt_4 rfl rfl ?_
    refine z_aload_n 0 d_No_mailAt_5 rfl rfl ?_
    replace h := Option.bind_eq_some_iff.mp h; obtain ⟨x2, e3, h⟩ := h
    refine z_getR wF_NumberOffice_37_0 d_No_mailAt_6 e3 ?_
    replace h := Option.bind_eq_some_iff.mp h; obtain ⟨a4, rfl, h⟩ := h
    replace h := Option.bind_eq_some_iff.mp h; obtain ⟨_, e20, h⟩ := h
    obtain ⟨b21, f22, e20⟩ := zcls_at (zis_at e20)
    replace h := Option.bind_eq_some_iff.mp h; obtain ⟨⟨x7, σ5⟩, e6, h⟩ := h
    dsimp only at h
    refine z_callV (av := []) (st := [.int (v1)]) wV_NumberOffice_149 e20 (t_ArrayList_size hG e6) (by decide) (by decide) d_No_mailAt_9 (by simp [z_rfc, z_ci, z_cl, z_cr, z_cn]) ?_
    show Z _ _ _ _ _ _ 12 [(0, .ref (v0)), (1, .int (v1))] [.int (x7), .int (v1)] _
    refine z_icmp_ge (tgt := 29) d_No_mailAt_12 rfl (fun c8 => ?_) (fun c8 => ?_)
    · rw [if_pos c8] at h
      refine z_lv (lv' := [(0, .ref (v0)), (1, .int (v1))]) [0, 1] rfl ?_
      exact t_No_mailAt_29 hG   h
    · rw [if_neg c8] at h
      refine z_aload_n 0 d_No_mailAt_15 rfl rfl ?_
      replace h := Option.bind_eq_some_iff.mp h; obtain ⟨x9, e10, h⟩ := h
      refine z_getR wF_NumberOffice_37_0 d_No_mailAt_16 e10 ?_
      refine z_iload_n 1 d_No_mailAt_19 rfl rfl ?_
      replace h := Option.bind_eq_some_iff.mp h; obtain ⟨a11, rfl, h⟩ := h
      replace h := Option.bind_eq_some_iff.mp h; obtain ⟨_, e17, h⟩ := h
      obtain ⟨b18, f19, e17⟩ := zcls_at (zis_at e17)
      replace h := Option.bind_eq_some_iff.mp h; obtain ⟨⟨x14, σ12⟩, e13, h⟩ := h
      dsimp only at h
      refine z_callV (av := [.int (v1)]) (st := []) wV_NumberOffice_212 e17 (t_ArrayList_get hG e13) (by decide) (by decide) d_No_mailAt_20 (by simp [z_rfc, z_ci, z_cl, z_cr, z_cn]) ?_
      show Z _ _ _ _ _ _ 23 [(0, .ref (v0)), (1, .int (v1))] [va_rf (x14)] _
      replace h := Option.bind_eq_some_iff.mp h; obtain ⟨a15, rfl, h⟩ := h
      replace h := Option.bind_eq_some_iff.mp h; obtain ⟨_, e16, h⟩ := h
      refine z_cast2 wK_NumberOffice_157_9 wK_NumberOffice_157_6 d_No_mailAt_23 e16 ?_
      refine z_goto (tgt := 30) d_No_mailAt_26 rfl ?_
      refine z_lv (lv' := [(0, .ref (v0)), (1, .int (v1))]) [0, 1] rfl ?_
      exact t_No_mailAt_30 hG   h

def s_SeriesBook_enter_84 (g : zG)  (v0 : Nat) (v1 : Option Nat) (v2 : Int32) (v3 : Int32) (v4 : Int32) (w0 : Int32) (w1 : Int32) (w2 : Option Nat) (σ : zS) : Option (zS) := (w2).bind fun a1 => (zsI σ a1 0 (w1) (w0)).bind fun σ2 => (zgR σ2 v0 5 5).bind fun x4 => (v1).bind fun a6 => (zgL σ2 a6 10 2).bind fun x7 => (x4).bind fun a9 => (zsL σ2 a9 1 (v4) (x7)).bind fun σ10 => (zgR σ10 v0 5 6).bind fun x12 => (zgI σ10 a6 10 3).bind fun x14 => (x12).bind fun a16 => (zsI σ10 a16 0 (v4) (x14)).bind fun σ17 => some σ17
def s_SeriesBook_enter_52 (g : zG)  (v0 : Nat) (v1 : Option Nat) (v2 : Int32) (w0 : Int32) (σ : zS) : Option (zS) := if w0 = 0 then some σ else (v1).bind fun a2 => (zgI σ a2 10 0).bind fun x3 => (zgR σ v0 5 4).bind fun x5 => (zgI σ a2 10 1).bind fun x7 => if x7 = 0 then s_SeriesBook_enter_84 g  (v0) (some (a2)) (v2) (w0) (x3 - 1) (3) (x3 - 1) (x5) σ else s_SeriesBook_enter_84 g  (v0) (some (a2)) (v2) (w0) (x3 - 1) (2) (x3 - 1) (x5) σ
def s_SeriesBook_enter_51 (g : zG)  (v0 : Nat) (v1 : Option Nat) (v2 : Int32) (σ : zS) : Option (zS) := s_SeriesBook_enter_52 g  (v0) (v1) (v2) (0) σ
def s_SeriesBook_enter_39 (g : zG)  (v0 : Nat) (v1 : Option Nat) (v2 : Int32) (σ : zS) : Option (zS) := (zgI σ v0 5 0).bind fun x1 => if x1 = 2 then s_SeriesBook_enter_51 g  (v0) (v1) (v2) σ else s_SeriesBook_enter_52 g  (v0) (v1) (v2) (1) σ
def s_SeriesBook_enter (g : zG) (v0 : Nat) (v1 : Option Nat) (σ : zS) : Option (zS) := (v1).bind fun a1 => (zgI σ a1 10 0).bind fun x2 => (zis σ v0 5).bind fun _ => (s_SeriesBook_fateOf g v0 x2 σ).bind fun (x6, σ4) => (zgI σ4 a1 10 1).bind fun x7 => if x7 = 0 then if x6 = 1 then s_SeriesBook_enter_39 g  (v0) (some (a1)) (x6) σ4 else if x6 = 2 then s_SeriesBook_enter_39 g  (v0) (some (a1)) (x6) σ4 else s_SeriesBook_enter_51 g  (v0) (some (a1)) (x6) σ4 else if x6 = 1 then s_SeriesBook_enter_52 g  (v0) (some (a1)) (x6) (1) σ4 else s_SeriesBook_enter_52 g  (v0) (some (a1)) (x6) (0) σ4
set_option maxRecDepth 100000 in
theorem t_SeriesBook_enter_84 {l : Launch} {D : zD} {g : zG} (hG : zGok g D) {q : zS}   {v0 : Nat} {v1 : Option Nat} {v2 : Int32} {v3 : Int32} {v4 : Int32} {w0 : Int32} {w1 : Int32} {w2 : Option Nat} {σ : zS} (h : s_SeriesBook_enter_84 g  v0 v1 v2 v3 v4 w0 w1 w2 σ = some q) : Z l D K_SeriesBook_enter 2 42 (.returned none, q) 84 [(0, .ref (v0)), (1, va_rf (v1)), (2, .int (v2)), (3, .int (v3)), (4, .int (v4))] [.int (w0), .int (w1), va_rf (w2)] σ := by
  unfold s_SeriesBook_enter_84 at h
  replace h := Option.bind_eq_some_iff.mp h; obtain ⟨a1, rfl, h⟩ := h
  replace h := Option.bind_eq_some_iff.mp h; obtain ⟨σ2, e3, h⟩ := h
  refine z_iastore rfl d_SeriesBook_enter_84 e3 ?_
  refine z_aload_n 0 d_SeriesBook_enter_85 rfl rfl ?_
  replace h := Option.bind_eq_some_iff.mp h; obtain ⟨x4, e5, h⟩ := h
  refine z_getR wF_NumberOffice_SeriesBook_22_5 d_SeriesBook_enter_86 e5 ?_
  refine z_iload 4 d_SeriesBook_enter_89 rfl ?_
  refine z_aload_nR 1 d_SeriesBook_enter_91 rfl rfl ?_
  replace h := Option.bind_eq_some_iff.mp h; obtain ⟨a6, rfl, h⟩ := h
  replace h := Option.bind_eq_some_iff.mp h; obtain ⟨x7, e8, h⟩ := h
  refine z_getL wF_NumberOffice_SeriesBook_82_10 d_SeriesBook_enter_92 e8 ?_
  replace h := Option.bind_eq_some_iff.mp h; obtain ⟨a9, rfl, h⟩ := h
  replace h := Option.bind_eq_some_iff.mp h; obtain ⟨σ10, e11, h⟩ := h
  refine z_lastore rfl d_SeriesBook_enter_95 e11 ?_
  refine z_aload_n 0 d_SeriesBook_enter_96 rfl rfl ?_
  replace h := Option.bind_eq_some_iff.mp h; obtain ⟨x12, e13, h⟩ := h
  refine z_getR wF_NumberOffice_SeriesBook_26_5 d_SeriesBook_enter_97 e13 ?_
  refine z_iload 4 d_SeriesBook_enter_100 rfl ?_
  refine z_aload_n 1 d_SeriesBook_enter_102 rfl rfl ?_
  replace h := Option.bind_eq_some_iff.mp h; obtain ⟨x14, e15, h⟩ := h
  refine z_getI wF_NumberOffice_SeriesBook_85_10 d_SeriesBook_enter_103 e15 ?_
  replace h := Option.bind_eq_some_iff.mp h; obtain ⟨a16, rfl, h⟩ := h
  replace h := Option.bind_eq_some_iff.mp h; obtain ⟨σ17, e18, h⟩ := h
  refine z_iastore rfl d_SeriesBook_enter_106 e18 ?_
  cases h
  exact z_vret rfl rfl d_SeriesBook_enter_107
set_option maxRecDepth 100000 in
theorem t_SeriesBook_enter_52 {l : Launch} {D : zD} {g : zG} (hG : zGok g D) {q : zS}   {v0 : Nat} {v1 : Option Nat} {v2 : Int32} {w0 : Int32} {σ : zS} (h : s_SeriesBook_enter_52 g  v0 v1 v2 w0 σ = some q) : Z l D K_SeriesBook_enter 2 42 (.returned none, q) 52 [(0, .ref (v0)), (1, va_rf (v1)), (2, .int (v2))] [.int (w0)] σ := by
  unfold s_SeriesBook_enter_52 at h
  refine z_istore_n (j := 3) (lv' := [(3, .int (w0)), (0, .ref (v0)), (1, va_rf (v1)), (2, .int (v2))]) d_SeriesBook_enter_52 rfl (by decide) rfl ?_
  refine z_iload_n 0 d_SeriesBook_enter_53 rfl rfl ?_
  refine z_if_ne (tgt := 58) d_SeriesBook_enter_54 rfl (fun c1 => ?_) (fun c1 => ?_)
  · rw [if_neg c1] at h
    refine z_aload_nR 2 d_SeriesBook_enter_58 rfl rfl ?_
    replace h := Option.bind_eq_some_iff.mp h; obtain ⟨a2, rfl, h⟩ := h
    replace h := Option.bind_eq_some_iff.mp h; obtain ⟨x3, e4, h⟩ := h
    refine z_getI wF_NumberOffice_SeriesBook_69_10 d_SeriesBook_enter_59 e4 ?_
    refine z_iconst (v := 1) d_SeriesBook_enter_62 rfl ?_
    refine z_isub d_SeriesBook_enter_63 ?_
    refine z_istore (j := 4) (lv' := [(4, .int (x3 - 1)), (3, .int (w0)), (0, .ref (v0)), (1, .ref (a2)), (2, .int (v2))]) d_SeriesBook_enter_64 (by decide) rfl ?_
    refine z_aload_n 2 d_SeriesBook_enter_66 rfl rfl ?_
    replace h := Option.bind_eq_some_iff.mp h; obtain ⟨x5, e6, h⟩ := h
    refine z_getR wF_NumberOffice_SeriesBook_19_5 d_SeriesBook_enter_67 e6 ?_
    refine z_iload 0 d_SeriesBook_enter_70 rfl ?_
    refine z_aload_n 3 d_SeriesBook_enter_72 rfl rfl ?_
    replace h := Option.bind_eq_some_iff.mp h; obtain ⟨x7, e8, h⟩ := h
    refine z_getI wF_NumberOffice_SeriesBook_78_10 d_SeriesBook_enter_73 e8 ?_
    refine z_if_eq (tgt := 83) d_SeriesBook_enter_76 rfl (fun c9 => ?_) (fun c9 => ?_)
    · rw [if_pos c9] at h
      refine z_iconst (v := 3) d_SeriesBook_enter_83 rfl ?_
      refine z_lv (lv' := [(0, .ref (v0)), (1, va_rf (some (a2))), (2, .int (v2)), (3, .int (w0)), (4, .int (x3 - 1))]) [2, 3, 4, 1, 0] rfl ?_
      exact t_SeriesBook_enter_84 hG   h
    · rw [if_neg c9] at h
      refine z_iconst (v := 2) d_SeriesBook_enter_79 rfl ?_
      refine z_goto (tgt := 84) d_SeriesBook_enter_80 rfl ?_
      refine z_lv (lv' := [(0, .ref (v0)), (1, va_rf (some (a2))), (2, .int (v2)), (3, .int (w0)), (4, .int (x3 - 1))]) [2, 3, 4, 1, 0] rfl ?_
      exact t_SeriesBook_enter_84 hG   h
  · rw [if_pos c1] at h
    cases h
    exact z_vret rfl rfl d_SeriesBook_enter_57
set_option maxRecDepth 100000 in
theorem t_SeriesBook_enter_51 {l : Launch} {D : zD} {g : zG} (hG : zGok g D) {q : zS}   {v0 : Nat} {v1 : Option Nat} {v2 : Int32} {σ : zS} (h : s_SeriesBook_enter_51 g  v0 v1 v2 σ = some q) : Z l D K_SeriesBook_enter 2 42 (.returned none, q) 51 [(0, .ref (v0)), (1, va_rf (v1)), (2, .int (v2))] [] σ := by
  unfold s_SeriesBook_enter_51 at h
  refine z_iconst (v := 0) d_SeriesBook_enter_51 rfl ?_
  refine z_lv (lv' := [(0, .ref (v0)), (1, va_rf (v1)), (2, .int (v2))]) [0, 1, 2] rfl ?_
  exact t_SeriesBook_enter_52 hG   h
set_option maxRecDepth 100000 in
theorem t_SeriesBook_enter_39 {l : Launch} {D : zD} {g : zG} (hG : zGok g D) {q : zS}   {v0 : Nat} {v1 : Option Nat} {v2 : Int32} {σ : zS} (h : s_SeriesBook_enter_39 g  v0 v1 v2 σ = some q) : Z l D K_SeriesBook_enter 2 42 (.returned none, q) 39 [(0, .ref (v0)), (1, va_rf (v1)), (2, .int (v2))] [] σ := by
  unfold s_SeriesBook_enter_39 at h
  refine z_aload_n 0 d_SeriesBook_enter_39 rfl rfl ?_
  replace h := Option.bind_eq_some_iff.mp h; obtain ⟨x1, e2, h⟩ := h
  refine z_getI wF_NumberOffice_SeriesBook_11_5 d_SeriesBook_enter_40 e2 ?_
  refine z_iconst (v := 2) d_SeriesBook_enter_43 rfl ?_
  refine z_icmp_eq (tgt := 51) d_SeriesBook_enter_44 rfl (fun c3 => ?_) (fun c3 => ?_)
  · rw [if_pos c3] at h
    refine z_lv (lv' := [(0, .ref (v0)), (1, va_rf (v1)), (2, .int (v2))]) [0, 1, 2] rfl ?_
    exact t_SeriesBook_enter_51 hG   h
  · rw [if_neg c3] at h
    refine z_iconst (v := 1) d_SeriesBook_enter_47 rfl ?_
    refine z_goto (tgt := 52) d_SeriesBook_enter_48 rfl ?_
    refine z_lv (lv' := [(0, .ref (v0)), (1, va_rf (v1)), (2, .int (v2))]) [0, 1, 2] rfl ?_
    exact t_SeriesBook_enter_52 hG   h
set_option maxRecDepth 100000 in
theorem t_SeriesBook_enter {l : Launch} {D : zD} {g : zG} (hG : zGok g D) {v0 : Nat} {v1 : Option Nat} {σ : zS} {q : zS} (h : s_SeriesBook_enter g v0 v1 σ = some q) : zMet l D Y_SeriesBook_enter K_SeriesBook_enter 2 42 [.ref (v0), va_rf (v1)] σ (.returned none, q) := by
  refine zMet.ofZ (by decide) rfl (fun q => by cases q) (by simp [lg_sl, z_rfc, z_ci, z_cl, z_cr, z_cn]) ?_
  rw [show lv_args 0 ([.ref (v0), va_rf (v1)] : List Value) = [(0, .ref (v0)), (1, va_rf (v1))] from by simp [lv_args, z_rfc, z_ci, z_cl, z_cr, z_cn]]
  unfold s_SeriesBook_enter at h
  refine z_aload_n 0 d_SeriesBook_enter_0 rfl rfl ?_
  refine z_aload_nR 1 d_SeriesBook_enter_1 rfl rfl ?_
  replace h := Option.bind_eq_some_iff.mp h; obtain ⟨a1, rfl, h⟩ := h
  replace h := Option.bind_eq_some_iff.mp h; obtain ⟨x2, e3, h⟩ := h
  refine z_getI wF_NumberOffice_SeriesBook_69_10 d_SeriesBook_enter_2 e3 ?_
  replace h := Option.bind_eq_some_iff.mp h; obtain ⟨_, e13, h⟩ := h
  obtain ⟨b14, f15, e13⟩ := zcls_at (zis_at e13)
  replace h := Option.bind_eq_some_iff.mp h; obtain ⟨⟨x6, σ4⟩, e5, h⟩ := h
  dsimp only at h
  refine z_callV (av := [.int (x2)]) (st := []) wV_NumberOffice_SeriesBook_74 e13 (t_SeriesBook_fateOf hG e5) (by decide) (by decide) d_SeriesBook_enter_5 (by simp [z_rfc, z_ci, z_cl, z_cr, z_cn]) ?_
  show Z _ _ _ _ _ _ 8 [(0, .ref (v0)), (1, .ref (a1))] [.int (x6)] _
  refine z_istore_n (j := 2) (lv' := [(2, .int (x6)), (0, .ref (v0)), (1, .ref (a1))]) d_SeriesBook_enter_8 rfl (by decide) rfl ?_
  refine z_aload_n 2 d_SeriesBook_enter_9 rfl rfl ?_
  replace h := Option.bind_eq_some_iff.mp h; obtain ⟨x7, e8, h⟩ := h
  refine z_getI wF_NumberOffice_SeriesBook_78_10 d_SeriesBook_enter_10 e8 ?_
  refine z_if_eq (tgt := 29) d_SeriesBook_enter_13 rfl (fun c9 => ?_) (fun c9 => ?_)
  · rw [if_pos c9] at h
    refine z_iload_n 0 d_SeriesBook_enter_29 rfl rfl ?_
    refine z_iconst (v := 1) d_SeriesBook_enter_30 rfl ?_
    refine z_icmp_eq (tgt := 39) d_SeriesBook_enter_31 rfl (fun c10 => ?_) (fun c10 => ?_)
    · rw [if_pos c10] at h
      refine z_lv (lv' := [(0, .ref (v0)), (1, va_rf (some (a1))), (2, .int (x6))]) [1, 2, 0] rfl ?_
      exact t_SeriesBook_enter_39 hG   h
    · rw [if_neg c10] at h
      refine z_iload_n 0 d_SeriesBook_enter_34 rfl rfl ?_
      refine z_iconst (v := 2) d_SeriesBook_enter_35 rfl ?_
      refine z_icmp_ne (tgt := 51) d_SeriesBook_enter_36 rfl (fun c11 => ?_) (fun c11 => ?_)
      · rw [if_neg c11] at h
        refine z_lv (lv' := [(0, .ref (v0)), (1, va_rf (some (a1))), (2, .int (x6))]) [1, 2, 0] rfl ?_
        exact t_SeriesBook_enter_51 hG   h
      · rw [if_pos c11] at h
        refine z_lv (lv' := [(0, .ref (v0)), (1, va_rf (some (a1))), (2, .int (x6))]) [1, 2, 0] rfl ?_
        exact t_SeriesBook_enter_39 hG   h
  · rw [if_neg c9] at h
    refine z_iload_n 0 d_SeriesBook_enter_16 rfl rfl ?_
    refine z_iconst (v := 1) d_SeriesBook_enter_17 rfl ?_
    refine z_icmp_ne (tgt := 25) d_SeriesBook_enter_18 rfl (fun c12 => ?_) (fun c12 => ?_)
    · rw [if_neg c12] at h
      refine z_iconst (v := 0) d_SeriesBook_enter_25 rfl ?_
      refine z_goto (tgt := 52) d_SeriesBook_enter_26 rfl ?_
      refine z_lv (lv' := [(0, .ref (v0)), (1, va_rf (some (a1))), (2, .int (x6))]) [1, 2, 0] rfl ?_
      exact t_SeriesBook_enter_52 hG   h
    · rw [if_pos c12] at h
      refine z_iconst (v := 1) d_SeriesBook_enter_21 rfl ?_
      refine z_goto (tgt := 52) d_SeriesBook_enter_22 rfl ?_
      refine z_lv (lv' := [(0, .ref (v0)), (1, va_rf (some (a1))), (2, .int (x6))]) [1, 2, 0] rfl ?_
      exact t_SeriesBook_enter_52 hG   h

def s_No_drop (g : zG) (v0 : Nat) (v1 : Int32) (σ : zS) : Option (Int32 × zS) := (zis σ v0 0).bind fun _ => (s_No_mailAt g v0 v1 σ).bind fun (x3, σ1) => match x3 with | none => some (0, σ1) | some a5 => (zgR σ1 v0 0 2).bind fun x6 => (x6).bind fun a8 => (zis σ1 a8 3).bind fun _ => (s_ArrayList_remove g a8 v1 σ1).bind fun (x11, σ9) => some (1, σ9)
set_option maxRecDepth 100000 in
theorem t_No_drop {l : Launch} {D : zD} {g : zG} (hG : zGok g D) {v0 : Nat} {v1 : Int32} {σ : zS} {q : Int32 × zS} (h : s_No_drop g v0 v1 σ = some q) : zMet l D Y_No_drop K_No_drop 4 85 [.ref (v0), .int (v1)] σ (.returned (some (.int q.1)), q.2) := by
  refine zMet.ofZ (by decide) rfl (fun q => by cases q) (Nat.le_of_ble_eq_true rfl) ?_
  show Z _ _ _ _ _ _ 0 [(0, .ref (v0)), (1, .int (v1))] [] _
  unfold s_No_drop at h
  refine z_aload_n 0 d_No_drop_0 rfl rfl ?_
  refine z_iload_n 1 d_No_drop_1 rfl rfl ?_
  replace h := Option.bind_eq_some_iff.mp h; obtain ⟨_, e15, h⟩ := h
  obtain ⟨b16, f17, e15⟩ := zcls_at (zis_at e15)
  replace h := Option.bind_eq_some_iff.mp h; obtain ⟨⟨x3, σ1⟩, e2, h⟩ := h
  dsimp only at h
  refine z_callV (av := [.int (v1)]) (st := []) wV_NumberOffice_152 e15 (t_No_mailAt hG e2) (by decide) (by decide) d_No_drop_2 (by simp [z_rfc, z_ci, z_cl, z_cr, z_cn]) ?_
  show Z _ _ _ _ _ _ 5 [(0, .ref (v0)), (1, .int (v1))] [va_rf (x3)] _
  refine z_ifnonnull (tgt := 10) d_No_drop_5 rfl (fun a5 c4 => ?_) (fun c4 => ?_)
  · subst c4
    dsimp only at h
    refine z_aload_n 0 d_No_drop_10 rfl rfl ?_
    replace h := Option.bind_eq_some_iff.mp h; obtain ⟨x6, e7, h⟩ := h
    refine z_getR wF_NumberOffice_37_0 d_No_drop_11 e7 ?_
    refine z_iload_n 1 d_No_drop_14 rfl rfl ?_
    replace h := Option.bind_eq_some_iff.mp h; obtain ⟨a8, rfl, h⟩ := h
    replace h := Option.bind_eq_some_iff.mp h; obtain ⟨_, e12, h⟩ := h
    obtain ⟨b13, f14, e12⟩ := zcls_at (zis_at e12)
    replace h := Option.bind_eq_some_iff.mp h; obtain ⟨⟨x11, σ9⟩, e10, h⟩ := h
    dsimp only at h
    refine z_callV (av := [.int (v1)]) (st := []) wV_NumberOffice_168 e12 (t_ArrayList_remove hG e10) (by decide) (by decide) d_No_drop_15 (by simp [z_rfc, z_ci, z_cl, z_cr, z_cn]) ?_
    show Z _ _ _ _ _ _ 18 [(0, .ref (v0)), (1, .int (v1))] [va_rf (x11)] _
    refine z_pop d_No_drop_18 (z_rfc _) ?_
    refine z_iconst (v := 1) d_No_drop_19 rfl ?_
    cases h
    exact z_zret rfl rfl rfl d_No_drop_20
  · subst c4
    dsimp only at h
    refine z_iconst (v := 0) d_No_drop_8 rfl ?_
    cases h
    exact z_zret rfl rfl rfl d_No_drop_9

def s_No_branchFate_20 (g : zG)  (v0 : Nat) (v1 : Int32) (v2 : Int32) (v3 : Int32) (v4 : Option Nat) (σ : zS) : Option (Int32 × zS) := some ((-1), σ)
def s_No_branchFate_45 (g : zG)  (v0 : Nat) (v1 : Int32) (v2 : Int32) (v3 : Int32) (v4 : Option Nat) (v5 : Option Nat) (w0 : Int32) (σ : zS) : Option (Int32 × zS) := some (w0, σ)
def s_No_branchFate (g : zG) (v0 : Nat) (v1 : Int32) (v2 : Int32) (v3 : Int32) (σ : zS) : Option (Int32 × zS) := (zis σ v0 0).bind fun _ => (s_No_branchAt g v0 v1 σ).bind fun (x3, σ1) => match x3 with | none => s_No_branchFate_20 g  (v0) (v1) (v2) (v3) (none) σ1 | some a5 => (zgI σ1 a5 1 8).bind fun x6 => if x6 = 0 then s_No_branchFate_20 g  (v0) (v1) (v2) (v3) (some (a5)) σ1 else (zis σ1 a5 1).bind fun _ => (s_Branch_bookAt g a5 v2 σ1).bind fun (x11, σ9) => match x11 with | none => s_No_branchFate_45 g  (v0) (v1) (v2) (v3) (some (a5)) (none) ((-1)) σ9 | some a13 => (zis σ9 a13 2).bind fun _ => (s_BranchSeries_fateOf g a13 v3 σ9).bind fun (x16, σ14) => s_No_branchFate_45 g  (v0) (v1) (v2) (v3) (some (a5)) (some (a13)) (x16) σ14
set_option maxRecDepth 100000 in
theorem t_No_branchFate_20 {l : Launch} {D : zD} {g : zG} (hG : zGok g D) {q : Int32 × zS}   {v0 : Nat} {v1 : Int32} {v2 : Int32} {v3 : Int32} {v4 : Option Nat} {σ : zS} (h : s_No_branchFate_20 g  v0 v1 v2 v3 v4 σ = some q) : Z l D K_No_branchFate 4 87 (.returned (some (.int q.1)), q.2) 20 [(0, .ref (v0)), (1, .int (v1)), (2, .int (v2)), (3, .int (v3)), (4, va_rf (v4))] [] σ := by
  unfold s_No_branchFate_20 at h
  refine z_iconst (v := (-1)) d_No_branchFate_20 rfl ?_
  cases h
  exact z_iret rfl rfl d_No_branchFate_21
set_option maxRecDepth 100000 in
theorem t_No_branchFate_45 {l : Launch} {D : zD} {g : zG} (hG : zGok g D) {q : Int32 × zS}   {v0 : Nat} {v1 : Int32} {v2 : Int32} {v3 : Int32} {v4 : Option Nat} {v5 : Option Nat} {w0 : Int32} {σ : zS} (h : s_No_branchFate_45 g  v0 v1 v2 v3 v4 v5 w0 σ = some q) : Z l D K_No_branchFate 4 87 (.returned (some (.int q.1)), q.2) 45 [(0, .ref (v0)), (1, .int (v1)), (2, .int (v2)), (3, .int (v3)), (4, va_rf (v4)), (5, va_rf (v5))] [.int (w0)] σ := by
  unfold s_No_branchFate_45 at h
  cases h
  exact z_iret rfl rfl d_No_branchFate_45
set_option maxRecDepth 100000 in
theorem t_No_branchFate {l : Launch} {D : zD} {g : zG} (hG : zGok g D) {v0 : Nat} {v1 : Int32} {v2 : Int32} {v3 : Int32} {σ : zS} {q : Int32 × zS} (h : s_No_branchFate g v0 v1 v2 v3 σ = some q) : zMet l D Y_No_branchFate K_No_branchFate 4 87 [.ref (v0), .int (v1), .int (v2), .int (v3)] σ (.returned (some (.int q.1)), q.2) := by
  refine zMet.ofZ (by decide) rfl (fun q => by cases q) (Nat.le_of_ble_eq_true rfl) ?_
  show Z _ _ _ _ _ _ 0 [(0, .ref (v0)), (1, .int (v1)), (2, .int (v2)), (3, .int (v3))] [] _
  unfold s_No_branchFate at h
  refine z_aload_n 0 d_No_branchFate_0 rfl rfl ?_
  refine z_iload_n 1 d_No_branchFate_1 rfl rfl ?_
  replace h := Option.bind_eq_some_iff.mp h; obtain ⟨_, e23, h⟩ := h
  obtain ⟨b24, f25, e23⟩ := zcls_at (zis_at e23)
  replace h := Option.bind_eq_some_iff.mp h; obtain ⟨⟨x3, σ1⟩, e2, h⟩ := h
  dsimp only at h
  refine z_callV (av := [.int (v1)]) (st := []) wV_NumberOffice_55 e23 (t_No_branchAt hG e2) (by decide) (by decide) d_No_branchFate_2 (by simp [z_rfc, z_ci, z_cl, z_cr, z_cn]) ?_
  show Z _ _ _ _ _ _ 5 [(0, .ref (v0)), (1, .int (v1)), (2, .int (v2)), (3, .int (v3))] [va_rf (x3)] _
  refine z_astoreR (j := 4) (lv' := [(4, va_rf (x3)), (0, .ref (v0)), (1, .int (v1)), (2, .int (v2)), (3, .int (v3))]) d_No_branchFate_5 (by decide) rfl ?_
  refine z_aloadR 0 d_No_branchFate_7 rfl ?_
  refine z_ifnull (tgt := 20) d_No_branchFate_9 rfl (fun c4 => ?_) (fun a5 c4 => ?_)
  · subst c4
    dsimp only at h
    refine z_lv (lv' := [(0, .ref (v0)), (1, .int (v1)), (2, .int (v2)), (3, .int (v3)), (4, va_rf (none))]) [1, 2, 3, 4, 0] rfl ?_
    exact t_No_branchFate_20 hG   h
  · subst c4
    dsimp only at h
    refine z_aload 0 d_No_branchFate_12 rfl ?_
    replace h := Option.bind_eq_some_iff.mp h; obtain ⟨x6, e7, h⟩ := h
    refine z_getI wF_NumberOffice_90_1 d_No_branchFate_14 e7 ?_
    refine z_if_ne (tgt := 22) d_No_branchFate_17 rfl (fun c8 => ?_) (fun c8 => ?_)
    · rw [if_neg c8] at h
      refine z_aload 0 d_No_branchFate_22 rfl ?_
      refine z_iload_n 3 d_No_branchFate_24 rfl rfl ?_
      replace h := Option.bind_eq_some_iff.mp h; obtain ⟨_, e20, h⟩ := h
      obtain ⟨b21, f22, e20⟩ := zcls_at (zis_at e20)
      replace h := Option.bind_eq_some_iff.mp h; obtain ⟨⟨x11, σ9⟩, e10, h⟩ := h
      dsimp only at h
      refine z_callV (av := [.int (v2)]) (st := []) wV_NumberOffice_59 e20 (t_Branch_bookAt hG e10) (by decide) (by decide) d_No_branchFate_25 (by simp [z_rfc, z_ci, z_cl, z_cr, z_cn]) ?_
      show Z _ _ _ _ _ _ 28 [(4, .ref (a5)), (0, .ref (v0)), (1, .int (v1)), (2, .int (v2)), (3, .int (v3))] [va_rf (x11)] _
      refine z_astoreR (j := 5) (lv' := [(5, va_rf (x11)), (4, .ref (a5)), (0, .ref (v0)), (1, .int (v1)), (2, .int (v2)), (3, .int (v3))]) d_No_branchFate_28 (by decide) rfl ?_
      refine z_aloadR 0 d_No_branchFate_30 rfl ?_
      refine z_ifnonnull (tgt := 39) d_No_branchFate_32 rfl (fun a13 c12 => ?_) (fun c12 => ?_)
      · subst c12
        dsimp only at h
        refine z_aload 0 d_No_branchFate_39 rfl ?_
        refine z_iload_n 5 d_No_branchFate_41 rfl rfl ?_
        replace h := Option.bind_eq_some_iff.mp h; obtain ⟨_, e17, h⟩ := h
        obtain ⟨b18, f19, e17⟩ := zcls_at (zis_at e17)
        replace h := Option.bind_eq_some_iff.mp h; obtain ⟨⟨x16, σ14⟩, e15, h⟩ := h
        dsimp only at h
        refine z_callV (av := [.int (v3)]) (st := []) wV_NumberOffice_117 e17 (t_BranchSeries_fateOf hG e15) (by decide) (by decide) d_No_branchFate_42 (by simp [z_rfc, z_ci, z_cl, z_cr, z_cn]) ?_
        show Z _ _ _ _ _ _ 45 [(5, .ref (a13)), (4, .ref (a5)), (0, .ref (v0)), (1, .int (v1)), (2, .int (v2)), (3, .int (v3))] [.int (x16)] _
        refine z_lv (lv' := [(0, .ref (v0)), (1, .int (v1)), (2, .int (v2)), (3, .int (v3)), (4, va_rf (some (a5))), (5, va_rf (some (a13)))]) [2, 3, 4, 5, 1, 0] rfl ?_
        exact t_No_branchFate_45 hG   h
      · subst c12
        dsimp only at h
        refine z_iconst (v := (-1)) d_No_branchFate_35 rfl ?_
        refine z_goto (tgt := 45) d_No_branchFate_36 rfl ?_
        refine z_lv (lv' := [(0, .ref (v0)), (1, .int (v1)), (2, .int (v2)), (3, .int (v3)), (4, va_rf (some (a5))), (5, va_rf (none))]) [2, 3, 4, 5, 1, 0] rfl ?_
        exact t_No_branchFate_45 hG   h
    · rw [if_pos c8] at h
      refine z_lv (lv' := [(0, .ref (v0)), (1, .int (v1)), (2, .int (v2)), (3, .int (v3)), (4, va_rf (some (a5)))]) [1, 2, 3, 4, 0] rfl ?_
      exact t_No_branchFate_20 hG   h

def s_BranchSeries_dateFits_70 (g : zG)  (v0 : Nat) (v1 : Int32) (v2 : Option Nat) (v3 : Int32) (v4 : Option Nat) (w0 : Int32) (σ : zS) : Option (Int32 × zS) := if w0 = 0 ∨ w0 = 1 then some (w0, σ) else none
def s_BranchSeries_dateFits_71 (g : zG) (k15 : Nat → Int32 → Option Nat → Int32 → zS → Option (Int32 × zS)) (v0 : Nat) (v1 : Int32) (v2 : Option Nat) (v3 : Int32) (v4 : Option Nat) (σ : zS) : Option (Int32 × zS) := k15 (v0) (v1) (v2) (v3 + (-1)) σ
def s_BranchSeries_dateFits_77 (g : zG)  (v0 : Nat) (v1 : Int32) (v2 : Option Nat) (v3 : Int32) (σ : zS) : Option (Int32 × zS) := some (1, σ)
def s_BranchSeries_dateFits_15 (g : zG)  : Nat → Nat → Int32 → Option Nat → Int32 → zS → Option (Int32 × zS)
  | 0, _, _, _, _, _ => none
  | n + 1, v0, v1, v2, v3, σ => if v3 < 0 then s_BranchSeries_dateFits_77 g  (v0) (v1) (v2) (v3) σ else match v2 with | none => s_BranchSeries_dateFits_77 g  (v0) (v1) (none) (v3) σ | some a3 => (zgR σ v0 2 1).bind fun x4 => (x4).bind fun a6 => (zis σ a6 3).bind fun _ => (s_ArrayList_get g a6 v3 σ).bind fun (x9, σ7) => (x9).bind fun a10 => (zis σ7 a10 10).bind fun _ => (zgI σ7 a10 10 1).bind fun x12 => if x12 = 0 then s_BranchSeries_dateFits_71 g (fun v0 v1 v2 v3 σ => s_BranchSeries_dateFits_15 g  n v0 v1 v2 v3 σ) (v0) (v1) (some (a3)) (v3) (some (a10)) σ7 else (zgI σ7 a10 10 0).bind fun x15 => (zis σ7 a3 7).bind fun _ => (s_Block_holds g a3 x15 σ7).bind fun (x19, σ17) => if x19 = 0 then s_BranchSeries_dateFits_71 g (fun v0 v1 v2 v3 σ => s_BranchSeries_dateFits_15 g  n v0 v1 v2 v3 σ) (v0) (v1) (some (a3)) (v3) (some (a10)) σ17 else (zgI σ17 a10 10 3).bind fun x21 => if v1 < x21 then s_BranchSeries_dateFits_70 g  (v0) (v1) (some (a3)) (v3) (some (a10)) (0) σ17 else s_BranchSeries_dateFits_70 g  (v0) (v1) (some (a3)) (v3) (some (a10)) (1) σ17
def s_BranchSeries_dateFits (g : zG) (v0 : Nat) (v1 : Int32) (σ : zS) : Option (Int32 × zS) := (zis σ v0 2).bind fun _ => (s_BranchSeries_nextBlock g v0  σ).bind fun (x3, σ1) => (zgR σ1 v0 2 1).bind fun x4 => (x4).bind fun a6 => (zis σ1 a6 3).bind fun _ => (s_ArrayList_size g a6  σ1).bind fun (x9, σ7) => s_BranchSeries_dateFits_15 g  zfuel (v0) (v1) (x3) (x9 - 1) σ7
set_option maxRecDepth 100000 in
theorem t_BranchSeries_dateFits_70 {l : Launch} {D : zD} {g : zG} (hG : zGok g D) {q : Int32 × zS}   {v0 : Nat} {v1 : Int32} {v2 : Option Nat} {v3 : Int32} {v4 : Option Nat} {w0 : Int32} {σ : zS} (h : s_BranchSeries_dateFits_70 g  v0 v1 v2 v3 v4 w0 σ = some q) : Z l D K_BranchSeries_dateFits 4 84 (.returned (some (.int q.1)), q.2) 70 [(0, .ref (v0)), (1, .int (v1)), (2, va_rf (v2)), (3, .int (v3)), (4, va_rf (v4))] [.int (w0)] σ := by
  unfold s_BranchSeries_dateFits_70 at h
  by_cases c1 : w0 = 0 ∨ w0 = 1
  rotate_left
  · rw [if_neg c1] at h; cases h
  rw [if_pos c1] at h
  cases h
  exact z_zret rfl (z_nb c1) rfl d_BranchSeries_dateFits_70
set_option maxRecDepth 100000 in
theorem t_BranchSeries_dateFits_71 {l : Launch} {D : zD} {g : zG} (hG : zGok g D) {q : Int32 × zS} (k15 : Nat → Int32 → Option Nat → Int32 → zS → Option (Int32 × zS)) (hk15 : ∀ {v0 : Nat} {v1 : Int32} {v2 : Option Nat} {v3 : Int32} {σ : zS}, k15 v0 v1 v2 v3 σ = some q → Z l D K_BranchSeries_dateFits 4 84 (.returned (some (.int q.1)), q.2) 15 [(0, .ref (v0)), (1, .int (v1)), (2, va_rf (v2)), (3, .int (v3))] [] σ) {v0 : Nat} {v1 : Int32} {v2 : Option Nat} {v3 : Int32} {v4 : Option Nat} {σ : zS} (h : s_BranchSeries_dateFits_71 g k15 v0 v1 v2 v3 v4 σ = some q) : Z l D K_BranchSeries_dateFits 4 84 (.returned (some (.int q.1)), q.2) 71 [(0, .ref (v0)), (1, .int (v1)), (2, va_rf (v2)), (3, .int (v3)), (4, va_rf (v4))] [] σ := by
  unfold s_BranchSeries_dateFits_71 at h
  refine z_iinc (v := v3 + (-1)) (lv' := [(3, .int (v3 + (-1))), (0, .ref (v0)), (1, .int (v1)), (2, va_rf (v2)), (4, va_rf (v4))]) 3 d_BranchSeries_dateFits_71 rfl rfl (by decide) (by simp [z_rfc, z_ci, z_cl, z_cr, z_cn] <;> rfl) ?_
  refine z_goto (tgt := 15) d_BranchSeries_dateFits_74 rfl ?_
  refine z_lv (lv' := [(0, .ref (v0)), (1, .int (v1)), (2, va_rf (v2)), (3, .int (v3 + (-1)))]) [1, 2, 3, 0] rfl ?_
  exact hk15 h
set_option maxRecDepth 100000 in
theorem t_BranchSeries_dateFits_77 {l : Launch} {D : zD} {g : zG} (hG : zGok g D) {q : Int32 × zS}   {v0 : Nat} {v1 : Int32} {v2 : Option Nat} {v3 : Int32} {σ : zS} (h : s_BranchSeries_dateFits_77 g  v0 v1 v2 v3 σ = some q) : Z l D K_BranchSeries_dateFits 4 84 (.returned (some (.int q.1)), q.2) 77 [(0, .ref (v0)), (1, .int (v1)), (2, va_rf (v2)), (3, .int (v3))] [] σ := by
  unfold s_BranchSeries_dateFits_77 at h
  refine z_iconst (v := 1) d_BranchSeries_dateFits_77 rfl ?_
  cases h
  exact z_zret rfl rfl rfl d_BranchSeries_dateFits_78
set_option maxRecDepth 100000 in
theorem t_BranchSeries_dateFits_15 {l : Launch} {D : zD} {g : zG} (hG : zGok g D) {q : Int32 × zS}   : ∀ (n : Nat) {v0 : Nat} {v1 : Int32} {v2 : Option Nat} {v3 : Int32} {σ : zS}, s_BranchSeries_dateFits_15 g  n v0 v1 v2 v3 σ = some q → Z l D K_BranchSeries_dateFits 4 84 (.returned (some (.int q.1)), q.2) 15 [(0, .ref (v0)), (1, .int (v1)), (2, va_rf (v2)), (3, .int (v3))] [] σ := by
  intro n
  induction n with
  | zero =>
    intro v0 v1 v2 v3 σ h
    cases h
  | succ n ih =>
    intro v0 v1 v2 v3 σ h
    first | rw [s_BranchSeries_dateFits_15] at h | (unfold s_BranchSeries_dateFits_15 at h; dsimp only at h)
    refine z_iload_n 3 d_BranchSeries_dateFits_15 rfl rfl ?_
    refine z_if_lt (tgt := 77) d_BranchSeries_dateFits_16 rfl (fun c1 => ?_) (fun c1 => ?_)
    · rw [if_pos c1] at h
      refine z_lv (lv' := [(0, .ref (v0)), (1, .int (v1)), (2, va_rf (v2)), (3, .int (v3))]) [0, 1, 2, 3] rfl ?_
      exact t_BranchSeries_dateFits_77 hG   h
    · rw [if_neg c1] at h
      refine z_aload_nR 2 d_BranchSeries_dateFits_19 rfl rfl ?_
      refine z_ifnull (tgt := 77) d_BranchSeries_dateFits_20 rfl (fun c2 => ?_) (fun a3 c2 => ?_)
      · subst c2
        dsimp only at h
        refine z_lv (lv' := [(0, .ref (v0)), (1, .int (v1)), (2, va_rf (none)), (3, .int (v3))]) [0, 1, 2, 3] rfl ?_
        exact t_BranchSeries_dateFits_77 hG   h
      · subst c2
        dsimp only at h
        refine z_aload_n 0 d_BranchSeries_dateFits_23 rfl rfl ?_
        replace h := Option.bind_eq_some_iff.mp h; obtain ⟨x4, e5, h⟩ := h
        refine z_getR wF_NumberOffice_BranchSeries_18_2 d_BranchSeries_dateFits_24 e5 ?_
        refine z_iload_n 3 d_BranchSeries_dateFits_27 rfl rfl ?_
        replace h := Option.bind_eq_some_iff.mp h; obtain ⟨a6, rfl, h⟩ := h
        replace h := Option.bind_eq_some_iff.mp h; obtain ⟨_, e27, h⟩ := h
        obtain ⟨b28, f29, e27⟩ := zcls_at (zis_at e27)
        replace h := Option.bind_eq_some_iff.mp h; obtain ⟨⟨x9, σ7⟩, e8, h⟩ := h
        dsimp only at h
        refine z_callV (av := [.int (v3)]) (st := []) wV_NumberOffice_BranchSeries_63 e27 (t_ArrayList_get hG e8) (by decide) (by decide) d_BranchSeries_dateFits_28 (by simp [z_rfc, z_ci, z_cl, z_cr, z_cn]) ?_
        show Z _ _ _ _ _ _ 31 [(0, .ref (v0)), (1, .int (v1)), (2, .ref (a3)), (3, .int (v3))] [va_rf (x9)] _
        replace h := Option.bind_eq_some_iff.mp h; obtain ⟨a10, rfl, h⟩ := h
        replace h := Option.bind_eq_some_iff.mp h; obtain ⟨_, e11, h⟩ := h
        refine z_cast wK_NumberOffice_BranchSeries_54_10 d_BranchSeries_dateFits_31 (zis_at e11) ?_
        refine z_astore (j := 4) (lv' := [(4, .ref (a10)), (0, .ref (v0)), (1, .int (v1)), (2, .ref (a3)), (3, .int (v3))]) d_BranchSeries_dateFits_34 (by decide) rfl ?_
        refine z_aload 0 d_BranchSeries_dateFits_36 rfl ?_
        replace h := Option.bind_eq_some_iff.mp h; obtain ⟨x12, e13, h⟩ := h
        refine z_getI wF_NumberOffice_BranchSeries_81_10 d_BranchSeries_dateFits_38 e13 ?_
        refine z_if_eq (tgt := 71) d_BranchSeries_dateFits_41 rfl (fun c14 => ?_) (fun c14 => ?_)
        · rw [if_pos c14] at h
          refine z_lv (lv' := [(0, .ref (v0)), (1, .int (v1)), (2, va_rf (some (a3))), (3, .int (v3)), (4, va_rf (some (a10)))]) [1, 2, 3, 4, 0] rfl ?_
          exact t_BranchSeries_dateFits_71 hG _ (fun h => ih h) h
        · rw [if_neg c14] at h
          refine z_aload_n 3 d_BranchSeries_dateFits_44 rfl rfl ?_
          refine z_aload 0 d_BranchSeries_dateFits_45 rfl ?_
          replace h := Option.bind_eq_some_iff.mp h; obtain ⟨x15, e16, h⟩ := h
          refine z_getI wF_NumberOffice_BranchSeries_85_10 d_BranchSeries_dateFits_47 e16 ?_
          replace h := Option.bind_eq_some_iff.mp h; obtain ⟨_, e24, h⟩ := h
          obtain ⟨b25, f26, e24⟩ := zcls_at (zis_at e24)
          replace h := Option.bind_eq_some_iff.mp h; obtain ⟨⟨x19, σ17⟩, e18, h⟩ := h
          dsimp only at h
          refine z_callV (av := [.int (x15)]) (st := []) wV_NumberOffice_BranchSeries_88 e24 (t_Block_holds hG e18) (by decide) (by decide) d_BranchSeries_dateFits_50 (by simp [z_rfc, z_ci, z_cl, z_cr, z_cn]) ?_
          show Z _ _ _ _ _ _ 53 [(4, .ref (a10)), (0, .ref (v0)), (1, .int (v1)), (2, .ref (a3)), (3, .int (v3))] [.int (x19)] _
          refine z_if_eq (tgt := 71) d_BranchSeries_dateFits_53 rfl (fun c20 => ?_) (fun c20 => ?_)
          · rw [if_pos c20] at h
            refine z_lv (lv' := [(0, .ref (v0)), (1, .int (v1)), (2, va_rf (some (a3))), (3, .int (v3)), (4, va_rf (some (a10)))]) [1, 2, 3, 4, 0] rfl ?_
            exact t_BranchSeries_dateFits_71 hG _ (fun h => ih h) h
          · rw [if_neg c20] at h
            refine z_iload_n 2 d_BranchSeries_dateFits_56 rfl rfl ?_
            refine z_aload 0 d_BranchSeries_dateFits_57 rfl ?_
            replace h := Option.bind_eq_some_iff.mp h; obtain ⟨x21, e22, h⟩ := h
            refine z_getI wF_NumberOffice_BranchSeries_92_10 d_BranchSeries_dateFits_59 e22 ?_
            refine z_icmp_lt (tgt := 69) d_BranchSeries_dateFits_62 rfl (fun c23 => ?_) (fun c23 => ?_)
            · rw [if_pos c23] at h
              refine z_iconst (v := 0) d_BranchSeries_dateFits_69 rfl ?_
              refine z_lv (lv' := [(0, .ref (v0)), (1, .int (v1)), (2, va_rf (some (a3))), (3, .int (v3)), (4, va_rf (some (a10)))]) [1, 2, 3, 4, 0] rfl ?_
              exact t_BranchSeries_dateFits_70 hG   h
            · rw [if_neg c23] at h
              refine z_iconst (v := 1) d_BranchSeries_dateFits_65 rfl ?_
              refine z_goto (tgt := 70) d_BranchSeries_dateFits_66 rfl ?_
              refine z_lv (lv' := [(0, .ref (v0)), (1, .int (v1)), (2, va_rf (some (a3))), (3, .int (v3)), (4, va_rf (some (a10)))]) [1, 2, 3, 4, 0] rfl ?_
              exact t_BranchSeries_dateFits_70 hG   h
set_option maxRecDepth 100000 in
theorem t_BranchSeries_dateFits {l : Launch} {D : zD} {g : zG} (hG : zGok g D) {v0 : Nat} {v1 : Int32} {σ : zS} {q : Int32 × zS} (h : s_BranchSeries_dateFits g v0 v1 σ = some q) : zMet l D Y_BranchSeries_dateFits K_BranchSeries_dateFits 4 84 [.ref (v0), .int (v1)] σ (.returned (some (.int q.1)), q.2) := by
  refine zMet.ofZ (by decide) rfl (fun q => by cases q) (Nat.le_of_ble_eq_true rfl) ?_
  show Z _ _ _ _ _ _ 0 [(0, .ref (v0)), (1, .int (v1))] [] _
  unfold s_BranchSeries_dateFits at h
  refine z_aload_n 0 d_BranchSeries_dateFits_0 rfl rfl ?_
  replace h := Option.bind_eq_some_iff.mp h; obtain ⟨_, e13, h⟩ := h
  obtain ⟨b14, f15, e13⟩ := zcls_at (zis_at e13)
  replace h := Option.bind_eq_some_iff.mp h; obtain ⟨⟨x3, σ1⟩, e2, h⟩ := h
  dsimp only at h
  refine z_callV (av := []) (st := []) wV_NumberOffice_BranchSeries_68 e13 (t_BranchSeries_nextBlock hG e2) (by decide) (by decide) d_BranchSeries_dateFits_1 (by simp [z_rfc, z_ci, z_cl, z_cr, z_cn]) ?_
  show Z _ _ _ _ _ _ 4 [(0, .ref (v0)), (1, .int (v1))] [va_rf (x3)] _
  refine z_astore_nR (j := 2) (lv' := [(2, va_rf (x3)), (0, .ref (v0)), (1, .int (v1))]) d_BranchSeries_dateFits_4 rfl (by decide) rfl ?_
  refine z_aload_n 1 d_BranchSeries_dateFits_5 rfl rfl ?_
  replace h := Option.bind_eq_some_iff.mp h; obtain ⟨x4, e5, h⟩ := h
  refine z_getR wF_NumberOffice_BranchSeries_18_2 d_BranchSeries_dateFits_6 e5 ?_
  replace h := Option.bind_eq_some_iff.mp h; obtain ⟨a6, rfl, h⟩ := h
  replace h := Option.bind_eq_some_iff.mp h; obtain ⟨_, e10, h⟩ := h
  obtain ⟨b11, f12, e10⟩ := zcls_at (zis_at e10)
  replace h := Option.bind_eq_some_iff.mp h; obtain ⟨⟨x9, σ7⟩, e8, h⟩ := h
  dsimp only at h
  refine z_callV (av := []) (st := []) wV_NumberOffice_BranchSeries_21 e10 (t_ArrayList_size hG e8) (by decide) (by decide) d_BranchSeries_dateFits_9 (by simp [z_rfc, z_ci, z_cl, z_cr, z_cn]) ?_
  show Z _ _ _ _ _ _ 12 [(2, va_rf (x3)), (0, .ref (v0)), (1, .int (v1))] [.int (x9)] _
  refine z_iconst (v := 1) d_BranchSeries_dateFits_12 rfl ?_
  refine z_isub d_BranchSeries_dateFits_13 ?_
  refine z_istore_n (j := 3) (lv' := [(3, .int (x9 - 1)), (2, va_rf (x3)), (0, .ref (v0)), (1, .int (v1))]) d_BranchSeries_dateFits_14 rfl (by decide) (by simp [z_rfc, z_ci, z_cl, z_cr, z_cn] <;> rfl) ?_
  refine z_lv (lv' := [(0, .ref (v0)), (1, .int (v1)), (2, va_rf (x3)), (3, .int (x9 - 1))]) [2, 3, 1, 0] rfl ?_
  exact t_BranchSeries_dateFits_15 hG   zfuel h

def s_No_strike (g : zG) (v0 : Nat) (v1 : Int32) (σ : zS) : Option ((Int32 ⊕ Nat) × zS) := (zgR σ v0 0 1).bind fun x1 => (s_No_requireUp g x1 σ).bind fun (x5, σ3) => match x5 with | .inl _ => ((zis σ3 v0 0).bind fun _ => (s_No_branchAt g v0 v1 σ3).bind fun (x10, σ8) => match x10 with | none => some (.inl ((-1)), σ8) | some a12 => (zgR σ8 v0 0 1).bind fun x13 => (x13).bind fun a15 => (zis σ8 a15 4).bind fun _ => (s_Office_strikeOut g a15 v1 σ8).bind fun (x18, σ16) => some (.inl x18, σ16)) | .inr a7 => (some (.inr a7, σ3))
set_option maxRecDepth 100000 in
theorem t_No_strike {l : Launch} {D : zD} {g : zG} (hG : zGok g D) (hl : zLo l) {v0 : Nat} {v1 : Int32} {σ : zS} {q : (Int32 ⊕ Nat) × zS} (h : s_No_strike g v0 v1 σ = some q) : zMet l D Y_No_strike K_No_strike 7 140 [.ref (v0), .int (v1)] σ (zoI q.1, q.2) := by
  refine zMet.ofZ (by decide) rfl (fun q => by cases q) (Nat.le_of_ble_eq_true rfl) ?_
  show Z _ _ _ _ _ _ 0 [(0, .ref (v0)), (1, .int (v1))] [] _
  unfold s_No_strike at h
  refine z_aload_n 0 d_No_strike_0 rfl rfl ?_
  replace h := Option.bind_eq_some_iff.mp h; obtain ⟨x1, e2, h⟩ := h
  refine z_getR wF_NumberOffice_30_0 d_No_strike_1 e2 ?_
  replace h := Option.bind_eq_some_iff.mp h; obtain ⟨⟨x5, σ3⟩, e4, h⟩ := h
  dsimp only at h
  rcases x5 with _ | a7
  · dsimp only at h
    refine z_callS (av := [va_rf (x1)]) (st := []) wS_NumberOffice_41 (t_No_requireUp hG hl e4) (by decide) (by decide) d_No_strike_4 (by simp [z_rfc, z_ci, z_cl, z_cr, z_cn]) ?_
    show Z _ _ _ _ _ _ 7 [(0, .ref (v0)), (1, .int (v1))] [] _
    refine z_aload_n 0 d_No_strike_7 rfl rfl ?_
    refine z_iload_n 1 d_No_strike_8 rfl rfl ?_
    replace h := Option.bind_eq_some_iff.mp h; obtain ⟨_, e22, h⟩ := h
    obtain ⟨b23, f24, e22⟩ := zcls_at (zis_at e22)
    replace h := Option.bind_eq_some_iff.mp h; obtain ⟨⟨x10, σ8⟩, e9, h⟩ := h
    dsimp only at h
    refine z_callV (av := [.int (v1)]) (st := []) wV_NumberOffice_55 e22 (t_No_branchAt hG e9) (by decide) (by decide) d_No_strike_9 (by simp [z_rfc, z_ci, z_cl, z_cr, z_cn]) ?_
    show Z _ _ _ _ _ _ 12 [(0, .ref (v0)), (1, .int (v1))] [va_rf (x10)] _
    refine z_ifnonnull (tgt := 17) d_No_strike_12 rfl (fun a12 c11 => ?_) (fun c11 => ?_)
    · subst c11
      dsimp only at h
      refine z_aload_n 0 d_No_strike_17 rfl rfl ?_
      replace h := Option.bind_eq_some_iff.mp h; obtain ⟨x13, e14, h⟩ := h
      refine z_getR wF_NumberOffice_30_0 d_No_strike_18 e14 ?_
      refine z_iload_n 1 d_No_strike_21 rfl rfl ?_
      replace h := Option.bind_eq_some_iff.mp h; obtain ⟨a15, rfl, h⟩ := h
      replace h := Option.bind_eq_some_iff.mp h; obtain ⟨_, e19, h⟩ := h
      obtain ⟨b20, f21, e19⟩ := zcls_at (zis_at e19)
      replace h := Option.bind_eq_some_iff.mp h; obtain ⟨⟨x18, σ16⟩, e17, h⟩ := h
      dsimp only at h
      refine z_callV (av := [.int (v1)]) (st := []) wV_NumberOffice_125 e19 (t_Office_strikeOut hG e17) (by decide) (by decide) d_No_strike_22 (by simp [z_rfc, z_ci, z_cl, z_cr, z_cn]) ?_
      show Z _ _ _ _ _ _ 25 [(0, .ref (v0)), (1, .int (v1))] [.int (x18)] _
      cases h
      exact z_iret rfl rfl d_No_strike_25
    · subst c11
      dsimp only at h
      refine z_iconst (v := (-1)) d_No_strike_15 rfl ?_
      cases h
      exact z_iret rfl rfl d_No_strike_16
  · dsimp only at h
    cases h
    refine z_callS_t (a := a7) (av := [va_rf (x1)]) (st := []) wS_NumberOffice_41 (t_No_requireUp hG hl e4) (by decide) (by decide) d_No_strike_4 (by simp [z_rfc, z_ci, z_cl, z_cr, z_cn]) ?_
    exact zt_out rfl rfl

def s_ListText_init (g : zG) (v0 : Nat) (σ : zS) : Option (zS) := (some (znew σ 4 (.inr (12, [.null, .int 0, .int 0, .int 0])))).bind fun σ1 => (s_StringBuilder_init g (σ.1)  σ1).bind fun σ2 => (zpF σ2 v0 11 0 (.ref (σ.1))).bind fun σ5 => (zlen (20)).bind fun n7 => (some (znew σ5 n7 (.inl (4, (n7, .inl (fun _ => 0)))))).bind fun σ9 => (zpF σ9 v0 11 1 (.ref (σ5.1))).bind fun σ11 => some σ11
set_option maxRecDepth 100000 in
theorem t_ListText_init {l : Launch} {D : zD} {g : zG} (hG : zGok g D) {v0 : Nat} {σ : zS} {q : zS} (h : s_ListText_init g v0 σ = some q) : zMet l D Y_ListText_init K_ListText_init 3 53 [.ref (v0)] σ (.returned none, q) := by
  refine zMet.ofZ (by decide) rfl (fun q => rfl) (Nat.le_of_ble_eq_true rfl) ?_
  show Z _ _ _ _ _ _ 0 [(0, .ref (v0))] [] _
  unfold s_ListText_init at h
  refine z_aload_n 0 d_ListText_init_0 rfl rfl ?_
  refine z_objInit wO_NumberOffice_ListText_3 wOi wOc (by decide) (by decide) d_ListText_init_1 ?_
  refine z_aload_n 0 d_ListText_init_4 rfl rfl ?_
  replace h := Option.bind_eq_some_iff.mp h; obtain ⟨σ1, e1, h⟩ := h
  refine z_new wN_NumberOffice_ListText_9 d_ListText_init_5 ?_
  rw [Option.some.inj e1]
  refine z_dup d_ListText_init_8 rfl ?_
  replace h := Option.bind_eq_some_iff.mp h; obtain ⟨σ2, e3, h⟩ := h
  refine z_callI (av := []) (st := [.ref (σ.1), .ref (v0)]) wI_NumberOffice_ListText_11 (t_StringBuilder_init hG e3) (by decide) (by decide) d_ListText_init_9 (by simp [z_rfc, z_ci, z_cl, z_cr, z_cn]) ?_
  show Z _ _ _ _ _ _ 12 [(0, .ref (v0))] [.ref (σ.1), .ref (v0)] _
  replace h := Option.bind_eq_some_iff.mp h; obtain ⟨σ5, e6, h⟩ := h
  refine z_put wP_NumberOffice_ListText_12_11 (fun _ => rfl) d_ListText_init_12 rfl rfl e6 ?_
  refine z_aload_n 0 d_ListText_init_15 rfl rfl ?_
  refine z_bipush (v := 20) d_ListText_init_16 rfl ?_
  replace h := Option.bind_eq_some_iff.mp h; obtain ⟨n7, e8, h⟩ := h
  replace h := Option.bind_eq_some_iff.mp h; obtain ⟨σ9, e10, h⟩ := h
  refine z_newa (t := 4) (ty := .char) (x := (n7, .inl (fun _ => 0))) rfl rfl wA_char (fun _ => rfl) (by decide) d_ListText_init_18 e8 ?_
  rw [Option.some.inj e10]
  replace h := Option.bind_eq_some_iff.mp h; obtain ⟨σ11, e12, h⟩ := h
  refine z_put wP_NumberOffice_ListText_18_11 (fun _ => rfl) d_ListText_init_20 rfl rfl e12 ?_
  cases h
  exact z_vret rfl rfl d_ListText_init_23

def s_BranchSeries_init (g : zG) (v0 : Nat) (σ : zS) : Option (zS) := (some (znew σ 3 (.inr (3, [.null, .int 0, .int 0])))).bind fun σ1 => (s_ArrayList_init g (σ.1)  σ1).bind fun σ2 => (zpF σ2 v0 2 0 (.ref (σ.1))).bind fun σ5 => (some (znew σ5 3 (.inr (3, [.null, .int 0, .int 0])))).bind fun σ7 => (s_ArrayList_init g (σ5.1)  σ7).bind fun σ8 => (zpF σ8 v0 2 1 (.ref (σ5.1))).bind fun σ11 => some σ11
set_option maxRecDepth 100000 in
theorem t_BranchSeries_init {l : Launch} {D : zD} {g : zG} (hG : zGok g D) {v0 : Nat} {σ : zS} {q : zS} (h : s_BranchSeries_init g v0 σ = some q) : zMet l D Y_BranchSeries_init K_BranchSeries_init 4 72 [.ref (v0)] σ (.returned none, q) := by
  refine zMet.ofZ (by decide) rfl (fun q => rfl) (Nat.le_of_ble_eq_true rfl) ?_
  show Z _ _ _ _ _ _ 0 [(0, .ref (v0))] [] _
  unfold s_BranchSeries_init at h
  refine z_aload_n 0 d_BranchSeries_init_0 rfl rfl ?_
  refine z_objInit wO_NumberOffice_BranchSeries_3 wOi wOc (by decide) (by decide) d_BranchSeries_init_1 ?_
  refine z_aload_n 0 d_BranchSeries_init_4 rfl rfl ?_
  replace h := Option.bind_eq_some_iff.mp h; obtain ⟨σ1, e1, h⟩ := h
  refine z_new wN_NumberOffice_BranchSeries_9 d_BranchSeries_init_5 ?_
  rw [Option.some.inj e1]
  refine z_dup d_BranchSeries_init_8 rfl ?_
  replace h := Option.bind_eq_some_iff.mp h; obtain ⟨σ2, e3, h⟩ := h
  refine z_callI (av := []) (st := [.ref (σ.1), .ref (v0)]) wI_NumberOffice_BranchSeries_11 (t_ArrayList_init hG e3) (by decide) (by decide) d_BranchSeries_init_9 (by simp [z_rfc, z_ci, z_cl, z_cr, z_cn]) ?_
  show Z _ _ _ _ _ _ 12 [(0, .ref (v0))] [.ref (σ.1), .ref (v0)] _
  replace h := Option.bind_eq_some_iff.mp h; obtain ⟨σ5, e6, h⟩ := h
  refine z_put wP_NumberOffice_BranchSeries_12_2 (fun _ => rfl) d_BranchSeries_init_12 rfl rfl e6 ?_
  refine z_aload_n 0 d_BranchSeries_init_15 rfl rfl ?_
  replace h := Option.bind_eq_some_iff.mp h; obtain ⟨σ7, e7, h⟩ := h
  refine z_new wN_NumberOffice_BranchSeries_9 d_BranchSeries_init_16 ?_
  rw [Option.some.inj e7]
  refine z_dup d_BranchSeries_init_19 rfl ?_
  replace h := Option.bind_eq_some_iff.mp h; obtain ⟨σ8, e9, h⟩ := h
  refine z_callI (av := []) (st := [.ref (σ5.1), .ref (v0)]) wI_NumberOffice_BranchSeries_11 (t_ArrayList_init hG e9) (by decide) (by decide) d_BranchSeries_init_20 (by simp [z_rfc, z_ci, z_cl, z_cr, z_cn]) ?_
  show Z _ _ _ _ _ _ 23 [(0, .ref (v0))] [.ref (σ5.1), .ref (v0)] _
  replace h := Option.bind_eq_some_iff.mp h; obtain ⟨σ11, e12, h⟩ := h
  refine z_put wP_NumberOffice_BranchSeries_18_2 (fun _ => rfl) d_BranchSeries_init_23 rfl rfl e12 ?_
  cases h
  exact z_vret rfl rfl d_BranchSeries_init_26

def s_BranchSeries_forget_43 (g : zG)  : Nat → Nat → Int32 → zS → Option (zS)
  | 0, _, _, _ => none
  | n + 1, v0, v1, σ => (zgI σ v0 2 6).bind fun x1 => if v1 < x1 then (zgI σ v0 2 7).bind fun x4 => (zpF σ v0 2 2 (.int (x4))).bind fun σ6 => (zgI σ6 v0 2 8).bind fun x8 => (zpF σ6 v0 2 3 (.int (x8))).bind fun σ10 => (zgI σ10 v0 2 9).bind fun x12 => (zpF σ10 v0 2 4 (.int (x12))).bind fun σ14 => some σ14 else (zgR σ v0 2 1).bind fun x16 => (x16).bind fun a18 => (zis σ a18 3).bind fun _ => (s_ArrayList_remove g a18 v1 σ).bind fun (x21, σ19) => s_BranchSeries_forget_43 g  n (v0) (v1 + (-1)) σ19
def s_BranchSeries_forget_10 (g : zG)  : Nat → Nat → Int32 → zS → Option (zS)
  | 0, _, _, _ => none
  | n + 1, v0, v1, σ => (zgI σ v0 2 5).bind fun x1 => if v1 < x1 then (zgR σ v0 2 1).bind fun x4 => (x4).bind fun a6 => (zis σ a6 3).bind fun _ => (s_ArrayList_size g a6  σ).bind fun (x9, σ7) => s_BranchSeries_forget_43 g  zfuel (v0) (x9 - 1) σ7 else (zgR σ v0 2 0).bind fun x13 => (x13).bind fun a15 => (zis σ a15 3).bind fun _ => (s_ArrayList_remove g a15 v1 σ).bind fun (x18, σ16) => s_BranchSeries_forget_10 g  n (v0) (v1 + (-1)) σ16
def s_BranchSeries_forget (g : zG) (v0 : Nat) (σ : zS) : Option (zS) := (zgR σ v0 2 0).bind fun x1 => (x1).bind fun a3 => (zis σ a3 3).bind fun _ => (s_ArrayList_size g a3  σ).bind fun (x6, σ4) => s_BranchSeries_forget_10 g  zfuel (v0) (x6 - 1) σ4
set_option maxRecDepth 100000 in
theorem t_BranchSeries_forget_43 {l : Launch} {D : zD} {g : zG} (hG : zGok g D) {q : zS}   : ∀ (n : Nat) {v0 : Nat} {v1 : Int32} {σ : zS}, s_BranchSeries_forget_43 g  n v0 v1 σ = some q → Z l D K_BranchSeries_forget 3 70 (.returned none, q) 43 [(0, .ref (v0)), (1, .int (v1))] [] σ := by
  intro n
  induction n with
  | zero =>
    intro v0 v1 σ h
    cases h
  | succ n ih =>
    intro v0 v1 σ h
    first | rw [s_BranchSeries_forget_43] at h | (unfold s_BranchSeries_forget_43 at h; dsimp only at h)
    refine z_iload_n 1 d_BranchSeries_forget_43 rfl rfl ?_
    refine z_aload_n 0 d_BranchSeries_forget_44 rfl rfl ?_
    replace h := Option.bind_eq_some_iff.mp h; obtain ⟨x1, e2, h⟩ := h
    refine z_getI wF_NumberOffice_BranchSeries_29_2 d_BranchSeries_forget_45 e2 ?_
    refine z_icmp_lt (tgt := 66) d_BranchSeries_forget_48 rfl (fun c3 => ?_) (fun c3 => ?_)
    · rw [if_pos c3] at h
      refine z_aload_n 0 d_BranchSeries_forget_66 rfl rfl ?_
      refine z_aload_n 0 d_BranchSeries_forget_67 rfl rfl ?_
      replace h := Option.bind_eq_some_iff.mp h; obtain ⟨x4, e5, h⟩ := h
      refine z_getI wF_NumberOffice_BranchSeries_35_2 d_BranchSeries_forget_68 e5 ?_
      replace h := Option.bind_eq_some_iff.mp h; obtain ⟨σ6, e7, h⟩ := h
      refine z_put wP_NumberOffice_BranchSeries_32_2 (fun q => by cases q) d_BranchSeries_forget_71 rfl rfl e7 ?_
      refine z_aload_n 0 d_BranchSeries_forget_74 rfl rfl ?_
      refine z_aload_n 0 d_BranchSeries_forget_75 rfl rfl ?_
      replace h := Option.bind_eq_some_iff.mp h; obtain ⟨x8, e9, h⟩ := h
      refine z_getI wF_NumberOffice_BranchSeries_41_2 d_BranchSeries_forget_76 e9 ?_
      replace h := Option.bind_eq_some_iff.mp h; obtain ⟨σ10, e11, h⟩ := h
      refine z_put wP_NumberOffice_BranchSeries_38_2 (fun q => by cases q) d_BranchSeries_forget_79 rfl rfl e11 ?_
      refine z_aload_n 0 d_BranchSeries_forget_82 rfl rfl ?_
      refine z_aload_n 0 d_BranchSeries_forget_83 rfl rfl ?_
      replace h := Option.bind_eq_some_iff.mp h; obtain ⟨x12, e13, h⟩ := h
      refine z_getI wF_NumberOffice_BranchSeries_47_2 d_BranchSeries_forget_84 e13 ?_
      replace h := Option.bind_eq_some_iff.mp h; obtain ⟨σ14, e15, h⟩ := h
      refine z_put wP_NumberOffice_BranchSeries_44_2 (fun q => by cases q) d_BranchSeries_forget_87 rfl rfl e15 ?_
      cases h
      exact z_vret rfl rfl d_BranchSeries_forget_90
    · rw [if_neg c3] at h
      refine z_aload_n 0 d_BranchSeries_forget_51 rfl rfl ?_
      replace h := Option.bind_eq_some_iff.mp h; obtain ⟨x16, e17, h⟩ := h
      refine z_getR wF_NumberOffice_BranchSeries_18_2 d_BranchSeries_forget_52 e17 ?_
      refine z_iload_n 1 d_BranchSeries_forget_55 rfl rfl ?_
      replace h := Option.bind_eq_some_iff.mp h; obtain ⟨a18, rfl, h⟩ := h
      replace h := Option.bind_eq_some_iff.mp h; obtain ⟨_, e22, h⟩ := h
      obtain ⟨b23, f24, e22⟩ := zcls_at (zis_at e22)
      replace h := Option.bind_eq_some_iff.mp h; obtain ⟨⟨x21, σ19⟩, e20, h⟩ := h
      dsimp only at h
      refine z_callV (av := [.int (v1)]) (st := []) wV_NumberOffice_BranchSeries_50 e22 (t_ArrayList_remove hG e20) (by decide) (by decide) d_BranchSeries_forget_56 (by simp [z_rfc, z_ci, z_cl, z_cr, z_cn]) ?_
      show Z _ _ _ _ _ _ 59 [(0, .ref (v0)), (1, .int (v1))] [va_rf (x21)] _
      refine z_pop d_BranchSeries_forget_59 (z_rfc _) ?_
      refine z_iinc (v := v1 + (-1)) (lv' := [(1, .int (v1 + (-1))), (0, .ref (v0))]) 1 d_BranchSeries_forget_60 rfl rfl (by decide) rfl ?_
      refine z_goto (tgt := 43) d_BranchSeries_forget_63 rfl ?_
      refine z_lv (lv' := [(0, .ref (v0)), (1, .int (v1 + (-1)))]) [1, 0] rfl ?_
      exact ih h
set_option maxRecDepth 100000 in
theorem t_BranchSeries_forget_10 {l : Launch} {D : zD} {g : zG} (hG : zGok g D) {q : zS}   : ∀ (n : Nat) {v0 : Nat} {v1 : Int32} {σ : zS}, s_BranchSeries_forget_10 g  n v0 v1 σ = some q → Z l D K_BranchSeries_forget 3 70 (.returned none, q) 10 [(0, .ref (v0)), (1, .int (v1))] [] σ := by
  intro n
  induction n with
  | zero =>
    intro v0 v1 σ h
    cases h
  | succ n ih =>
    intro v0 v1 σ h
    first | rw [s_BranchSeries_forget_10] at h | (unfold s_BranchSeries_forget_10 at h; dsimp only at h)
    refine z_iload_n 1 d_BranchSeries_forget_10 rfl rfl ?_
    refine z_aload_n 0 d_BranchSeries_forget_11 rfl rfl ?_
    replace h := Option.bind_eq_some_iff.mp h; obtain ⟨x1, e2, h⟩ := h
    refine z_getI wF_NumberOffice_BranchSeries_25_2 d_BranchSeries_forget_12 e2 ?_
    refine z_icmp_lt (tgt := 33) d_BranchSeries_forget_15 rfl (fun c3 => ?_) (fun c3 => ?_)
    · rw [if_pos c3] at h
      refine z_aload_n 0 d_BranchSeries_forget_33 rfl rfl ?_
      replace h := Option.bind_eq_some_iff.mp h; obtain ⟨x4, e5, h⟩ := h
      refine z_getR wF_NumberOffice_BranchSeries_18_2 d_BranchSeries_forget_34 e5 ?_
      replace h := Option.bind_eq_some_iff.mp h; obtain ⟨a6, rfl, h⟩ := h
      replace h := Option.bind_eq_some_iff.mp h; obtain ⟨_, e10, h⟩ := h
      obtain ⟨b11, f12, e10⟩ := zcls_at (zis_at e10)
      replace h := Option.bind_eq_some_iff.mp h; obtain ⟨⟨x9, σ7⟩, e8, h⟩ := h
      dsimp only at h
      refine z_callV (av := []) (st := []) wV_NumberOffice_BranchSeries_21 e10 (t_ArrayList_size hG e8) (by decide) (by decide) d_BranchSeries_forget_37 (by simp [z_rfc, z_ci, z_cl, z_cr, z_cn]) ?_
      show Z _ _ _ _ _ _ 40 [(0, .ref (v0)), (1, .int (v1))] [.int (x9)] _
      refine z_iconst (v := 1) d_BranchSeries_forget_40 rfl ?_
      refine z_isub d_BranchSeries_forget_41 ?_
      refine z_istore_n (j := 1) (lv' := [(1, .int (x9 - 1)), (0, .ref (v0))]) d_BranchSeries_forget_42 rfl (by decide) rfl ?_
      refine z_lv (lv' := [(0, .ref (v0)), (1, .int (x9 - 1))]) [1, 0] rfl ?_
      exact t_BranchSeries_forget_43 hG   zfuel h
    · rw [if_neg c3] at h
      refine z_aload_n 0 d_BranchSeries_forget_18 rfl rfl ?_
      replace h := Option.bind_eq_some_iff.mp h; obtain ⟨x13, e14, h⟩ := h
      refine z_getR wF_NumberOffice_BranchSeries_12_2 d_BranchSeries_forget_19 e14 ?_
      refine z_iload_n 1 d_BranchSeries_forget_22 rfl rfl ?_
      replace h := Option.bind_eq_some_iff.mp h; obtain ⟨a15, rfl, h⟩ := h
      replace h := Option.bind_eq_some_iff.mp h; obtain ⟨_, e19, h⟩ := h
      obtain ⟨b20, f21, e19⟩ := zcls_at (zis_at e19)
      replace h := Option.bind_eq_some_iff.mp h; obtain ⟨⟨x18, σ16⟩, e17, h⟩ := h
      dsimp only at h
      refine z_callV (av := [.int (v1)]) (st := []) wV_NumberOffice_BranchSeries_50 e19 (t_ArrayList_remove hG e17) (by decide) (by decide) d_BranchSeries_forget_23 (by simp [z_rfc, z_ci, z_cl, z_cr, z_cn]) ?_
      show Z _ _ _ _ _ _ 26 [(0, .ref (v0)), (1, .int (v1))] [va_rf (x18)] _
      refine z_pop d_BranchSeries_forget_26 (z_rfc _) ?_
      refine z_iinc (v := v1 + (-1)) (lv' := [(1, .int (v1 + (-1))), (0, .ref (v0))]) 1 d_BranchSeries_forget_27 rfl rfl (by decide) rfl ?_
      refine z_goto (tgt := 10) d_BranchSeries_forget_30 rfl ?_
      refine z_lv (lv' := [(0, .ref (v0)), (1, .int (v1 + (-1)))]) [1, 0] rfl ?_
      exact ih h
set_option maxRecDepth 100000 in
theorem t_BranchSeries_forget {l : Launch} {D : zD} {g : zG} (hG : zGok g D) {v0 : Nat} {σ : zS} {q : zS} (h : s_BranchSeries_forget g v0 σ = some q) : zMet l D Y_BranchSeries_forget K_BranchSeries_forget 3 70 [.ref (v0)] σ (.returned none, q) := by
  refine zMet.ofZ (by decide) rfl (fun q => by cases q) (Nat.le_of_ble_eq_true rfl) ?_
  show Z _ _ _ _ _ _ 0 [(0, .ref (v0))] [] _
  unfold s_BranchSeries_forget at h
  refine z_aload_n 0 d_BranchSeries_forget_0 rfl rfl ?_
  replace h := Option.bind_eq_some_iff.mp h; obtain ⟨x1, e2, h⟩ := h
  refine z_getR wF_NumberOffice_BranchSeries_12_2 d_BranchSeries_forget_1 e2 ?_
  replace h := Option.bind_eq_some_iff.mp h; obtain ⟨a3, rfl, h⟩ := h
  replace h := Option.bind_eq_some_iff.mp h; obtain ⟨_, e7, h⟩ := h
  obtain ⟨b8, f9, e7⟩ := zcls_at (zis_at e7)
  replace h := Option.bind_eq_some_iff.mp h; obtain ⟨⟨x6, σ4⟩, e5, h⟩ := h
  dsimp only at h
  refine z_callV (av := []) (st := []) wV_NumberOffice_BranchSeries_21 e7 (t_ArrayList_size hG e5) (by decide) (by decide) d_BranchSeries_forget_4 (by simp [z_rfc, z_ci, z_cl, z_cr, z_cn]) ?_
  show Z _ _ _ _ _ _ 7 [(0, .ref (v0))] [.int (x6)] _
  refine z_iconst (v := 1) d_BranchSeries_forget_7 rfl ?_
  refine z_isub d_BranchSeries_forget_8 ?_
  refine z_istore_n (j := 1) (lv' := [(1, .int (x6 - 1)), (0, .ref (v0))]) d_BranchSeries_forget_9 rfl (by decide) rfl ?_
  refine z_lv (lv' := [(0, .ref (v0)), (1, .int (x6 - 1))]) [1, 0] rfl ?_
  exact t_BranchSeries_forget_10 hG   zfuel h

def s_No_letter (g : zG) (v0 : Nat) (v1 : Int32) (v2 : Int32) (σ : zS) : Option (Int32 × zS) := (zis σ v0 0).bind fun _ => (s_No_mailAt g v0 v1 σ).bind fun (x3, σ1) => match x3 with | none => some ((-1), σ1) | some a5 => if (v2 : Int32).toInt < 0 ∨ 2 < (v2 : Int32).toInt then some ((-1), σ1) else if (v2 : Int32) = 0 then (zgI2 σ1 a5 9 3 6 2).bind fun x14 => some (x14, σ1) else if (v2 : Int32) = 1 then (zgI2 σ1 a5 9 4 6 3).bind fun x11 => some (x11, σ1) else if (v2 : Int32) = 2 then (zgI2 σ1 a5 9 5 6 4).bind fun x8 => some (x8, σ1) else none
set_option maxRecDepth 100000 in
theorem t_No_letter {l : Launch} {D : zD} {g : zG} (hG : zGok g D) {v0 : Nat} {v1 : Int32} {v2 : Int32} {σ : zS} {q : Int32 × zS} (h : s_No_letter g v0 v1 v2 σ = some q) : zMet l D Y_No_letter K_No_letter 4 85 [.ref (v0), .int (v1), .int (v2)] σ (.returned (some (.int q.1)), q.2) := by
  refine zMet.ofZ (by decide) rfl (fun q => by cases q) (Nat.le_of_ble_eq_true rfl) ?_
  show Z _ _ _ _ _ _ 0 [(0, .ref (v0)), (1, .int (v1)), (2, .int (v2))] [] _
  unfold s_No_letter at h
  refine z_aload_n 0 d_No_letter_0 rfl rfl ?_
  refine z_iload_n 1 d_No_letter_1 rfl rfl ?_
  replace h := Option.bind_eq_some_iff.mp h; obtain ⟨_, e16, h⟩ := h
  obtain ⟨b17, f18, e16⟩ := zcls_at (zis_at e16)
  replace h := Option.bind_eq_some_iff.mp h; obtain ⟨⟨x3, σ1⟩, e2, h⟩ := h
  dsimp only at h
  refine z_callV (av := [.int (v1)]) (st := []) wV_NumberOffice_152 e16 (t_No_mailAt hG e2) (by decide) (by decide) d_No_letter_2 (by simp [z_rfc, z_ci, z_cl, z_cr, z_cn]) ?_
  show Z _ _ _ _ _ _ 5 [(0, .ref (v0)), (1, .int (v1)), (2, .int (v2))] [va_rf (x3)] _
  refine z_astore_nR (j := 3) (lv' := [(3, va_rf (x3)), (0, .ref (v0)), (1, .int (v1)), (2, .int (v2))]) d_No_letter_5 rfl (by decide) rfl ?_
  refine z_aload_nR 0 d_No_letter_6 rfl rfl ?_
  refine z_ifnonnull (tgt := 12) d_No_letter_7 rfl (fun a5 c4 => ?_) (fun c4 => ?_)
  · subst c4
    dsimp only at h
    refine z_iload_n 3 d_No_letter_12 rfl rfl ?_
    by_cases c6 : (v2 : Int32).toInt < 0 ∨ 2 < (v2 : Int32).toInt
    · rw [if_pos c6] at h
      refine z_tableOut (tgt := 55) d_No_letter_13 c6 rfl ?_
      refine z_iconst (v := (-1)) d_No_letter_55 rfl ?_
      cases h
      exact z_iret rfl rfl d_No_letter_56
    · rw [if_neg c6] at h
      by_cases c13 : (v2 : Int32) = 0
      · rw [if_pos c13] at h
        refine z_tableIn (off := 27) (tgt := 40) d_No_letter_13 (by rw [c13]; decide) (by rw [c13]; decide) (by rw [c13]; rfl) rfl ?_
        refine z_aload_n 0 d_No_letter_40 rfl rfl ?_
        replace h := Option.bind_eq_some_iff.mp h; obtain ⟨x14, e15, h⟩ := h
        refine z_getI2 wF_NumberOffice_156_9 wF_NumberOffice_156_6 d_No_letter_41 e15 ?_
        cases h
        exact z_iret rfl rfl d_No_letter_44
      · rw [if_neg c13] at h
        by_cases c10 : (v2 : Int32) = 1
        · rw [if_pos c10] at h
          refine z_tableIn (off := 32) (tgt := 45) d_No_letter_13 (by rw [c10]; decide) (by rw [c10]; decide) (by rw [c10]; rfl) rfl ?_
          refine z_aload_n 0 d_No_letter_45 rfl rfl ?_
          replace h := Option.bind_eq_some_iff.mp h; obtain ⟨x11, e12, h⟩ := h
          refine z_getI2 wF_NumberOffice_162_9 wF_NumberOffice_162_6 d_No_letter_46 e12 ?_
          cases h
          exact z_iret rfl rfl d_No_letter_49
        · rw [if_neg c10] at h
          by_cases c7 : (v2 : Int32) = 2
          · rw [if_pos c7] at h
            refine z_tableIn (off := 37) (tgt := 50) d_No_letter_13 (by rw [c7]; decide) (by rw [c7]; decide) (by rw [c7]; rfl) rfl ?_
            refine z_aload_n 0 d_No_letter_50 rfl rfl ?_
            replace h := Option.bind_eq_some_iff.mp h; obtain ⟨x8, e9, h⟩ := h
            refine z_getI2 wF_NumberOffice_165_9 wF_NumberOffice_165_6 d_No_letter_51 e9 ?_
            cases h
            exact z_iret rfl rfl d_No_letter_54
          · rw [if_neg c7] at h
            cases h
  · subst c4
    dsimp only at h
    refine z_iconst (v := (-1)) d_No_letter_10 rfl ?_
    cases h
    exact z_iret rfl rfl d_No_letter_11

def s_Office_take_46 (g : zG)  (v0 : Nat) (v1 : Option Nat) (v2 : Option Nat) (v3 : Int32) (σ : zS) : Option (Option Nat × zS) := (some (znew σ 5 (.inr (6, [.int 0, .null, .int 0, .int 0, .int 0])))).bind fun σ1 => (s_Answer_init g (σ.1) v1 v3 none σ1).bind fun σ2 => some (some (σ.1), σ2)
def s_Office_take_90 (g : zG)  : Nat → Nat → Option Nat → Option Nat → Int32 → Int32 → zS → Option (Option Nat × zS)
  | 0, _, _, _, _, _, _ => none
  | n + 1, v0, v1, v2, v3, v4, σ => (v1).bind fun a1 => (zgR σ a1 9 2).bind fun x2 => (x2).bind fun a4 => (zal σ a4 11).bind fun x5 => if x5 ≤ v4 then (some (znew σ 5 (.inr (6, [.int 0, .null, .int 0, .int 0, .int 0])))).bind fun σ8 => (s_Answer_init g (σ.1) (some (a1)) 0 none σ8).bind fun σ9 => some (some (σ.1), σ9) else (zgR σ a1 9 2).bind fun x12 => (x12).bind fun a14 => (zaR σ a14 11 (v4)).bind fun x15 => (v2).bind fun a17 => (zis σ a17 5).bind fun _ => (s_SeriesBook_enter g a17 x15 σ).bind fun σ18 => s_Office_take_90 g  n (v0) (some (a1)) (some (a17)) (v3) (v4 + 1) σ18
def s_Office_take_37 (g : zG)  (v0 : Nat) (v1 : Option Nat) (v2 : Option Nat) (w0 : Int32) (σ : zS) : Option (Option Nat × zS) := if w0 = 0 then match v2 with | none => s_Office_take_46 g  (v0) (v1) (none) (w0) σ | some a3 => (v1).bind fun a4 => (zgI σ a4 9 3).bind fun x5 => if x5 = 1 then (some (znew σ 5 (.inr (6, [.int 0, .null, .int 0, .int 0, .int 0])))).bind fun σ8 => (zgI σ8 a4 9 4).bind fun x9 => (zgI σ8 a4 9 1).bind fun x11 => (zis σ8 a3 5).bind fun _ => (s_SeriesBook_give g a3 x9 x11 σ8).bind fun (x15, σ13) => (s_Answer_init g (σ.1) (some (a4)) 0 x15 σ13).bind fun σ16 => some (some (σ.1), σ16) else s_Office_take_90 g  zfuel (v0) (some (a4)) (some (a3)) (w0) (0) σ else s_Office_take_46 g  (v0) (v1) (v2) (w0) σ
def s_Office_take_36 (g : zG)  (v0 : Nat) (v1 : Option Nat) (v2 : Option Nat) (σ : zS) : Option (Option Nat × zS) := s_Office_take_37 g  (v0) (v1) (v2) (0) σ
def s_Office_take (g : zG) (v0 : Nat) (v1 : Option Nat) (σ : zS) : Option (Option Nat × zS) := (v1).bind fun a1 => (zgI σ a1 9 0).bind fun x2 => (zis σ v0 4).bind fun _ => (s_Office_bookAt g v0 x2 σ).bind fun (x6, σ4) => (zgI σ4 a1 9 4).bind fun x7 => (zis σ4 v0 4).bind fun _ => (s_Office_knows g v0 x7 σ4).bind fun (x11, σ9) => if x11 = 0 then s_Office_take_36 g  (v0) (some (a1)) (x6) σ9 else (zgR σ9 v0 4 2).bind fun x13 => (zgI σ9 a1 9 4).bind fun x15 => (x13).bind fun a17 => (zaI σ9 a17 3 (x15)).bind fun x18 => if x18 = 0 then s_Office_take_36 g  (v0) (some (a1)) (x6) σ9 else s_Office_take_37 g  (v0) (some (a1)) (x6) (1) σ9
set_option maxRecDepth 100000 in
theorem t_Office_take_46 {l : Launch} {D : zD} {g : zG} (hG : zGok g D) {q : Option Nat × zS}   {v0 : Nat} {v1 : Option Nat} {v2 : Option Nat} {v3 : Int32} {σ : zS} (h : s_Office_take_46 g  v0 v1 v2 v3 σ = some q) : Z l D K_Office_take 3 66 (.returned (some (va_rf q.1)), q.2) 46 [(0, .ref (v0)), (1, va_rf (v1)), (2, va_rf (v2)), (3, .int (v3))] [] σ := by
  unfold s_Office_take_46 at h
  replace h := Option.bind_eq_some_iff.mp h; obtain ⟨σ1, e1, h⟩ := h
  refine z_new wN_NumberOffice_Office_28 d_Office_take_46 ?_
  rw [Option.some.inj e1]
  refine z_dup d_Office_take_49 rfl ?_
  refine z_aload_nR 1 d_Office_take_50 rfl rfl ?_
  refine z_iload_n 3 d_Office_take_51 rfl rfl ?_
  refine z_null d_Office_take_52 ?_
  replace h := Option.bind_eq_some_iff.mp h; obtain ⟨σ2, e3, h⟩ := h
  refine z_callI (av := [va_rf (v1), .int (v3), va_rf (none)]) (st := [.ref (σ.1)]) wI_NumberOffice_Office_73 (t_Answer_init hG e3) (by decide) (by decide) d_Office_take_53 (by simp [z_rfc, z_ci, z_cl, z_cr, z_cn]) ?_
  show Z _ _ _ _ _ _ 56 [(0, .ref (v0)), (1, va_rf (v1)), (2, va_rf (v2)), (3, .int (v3))] [.ref (σ.1)] _
  cases h
  exact z_aret (r := some (σ.1)) rfl (Or.inl ⟨_, rfl⟩) rfl d_Office_take_56
set_option maxRecDepth 100000 in
theorem t_Office_take_90 {l : Launch} {D : zD} {g : zG} (hG : zGok g D) {q : Option Nat × zS}   : ∀ (n : Nat) {v0 : Nat} {v1 : Option Nat} {v2 : Option Nat} {v3 : Int32} {v4 : Int32} {σ : zS}, s_Office_take_90 g  n v0 v1 v2 v3 v4 σ = some q → Z l D K_Office_take 3 66 (.returned (some (va_rf q.1)), q.2) 90 [(0, .ref (v0)), (1, va_rf (v1)), (2, va_rf (v2)), (3, .int (v3)), (4, .int (v4))] [] σ := by
  intro n
  induction n with
  | zero =>
    intro v0 v1 v2 v3 v4 σ h
    cases h
  | succ n ih =>
    intro v0 v1 v2 v3 v4 σ h
    first | rw [s_Office_take_90] at h | (unfold s_Office_take_90 at h; dsimp only at h)
    refine z_iload 4 d_Office_take_90 rfl ?_
    refine z_aload_nR 1 d_Office_take_92 rfl rfl ?_
    replace h := Option.bind_eq_some_iff.mp h; obtain ⟨a1, rfl, h⟩ := h
    replace h := Option.bind_eq_some_iff.mp h; obtain ⟨x2, e3, h⟩ := h
    refine z_getR wF_NumberOffice_Office_86_9 d_Office_take_93 e3 ?_
    replace h := Option.bind_eq_some_iff.mp h; obtain ⟨a4, rfl, h⟩ := h
    replace h := Option.bind_eq_some_iff.mp h; obtain ⟨x5, e6, h⟩ := h
    refine z_alen (t := 11) rfl d_Office_take_96 e6 ?_
    refine z_icmp_ge (tgt := 117) d_Office_take_97 rfl (fun c7 => ?_) (fun c7 => ?_)
    · rw [if_pos c7] at h
      replace h := Option.bind_eq_some_iff.mp h; obtain ⟨σ8, e8, h⟩ := h
      refine z_new wN_NumberOffice_Office_28 d_Office_take_117 ?_
      rw [Option.some.inj e8]
      refine z_dup d_Office_take_120 rfl ?_
      refine z_aload_n 1 d_Office_take_121 rfl rfl ?_
      refine z_iconst (v := 0) d_Office_take_122 rfl ?_
      refine z_null d_Office_take_123 ?_
      replace h := Option.bind_eq_some_iff.mp h; obtain ⟨σ9, e10, h⟩ := h
      refine z_callI (av := [va_rf (some (a1)), .int (0), va_rf (none)]) (st := [.ref (σ.1)]) wI_NumberOffice_Office_73 (t_Answer_init hG e10) (by decide) (by decide) d_Office_take_124 (by simp [z_rfc, z_ci, z_cl, z_cr, z_cn]) ?_
      show Z _ _ _ _ _ _ 127 [(0, .ref (v0)), (1, .ref (a1)), (2, va_rf (v2)), (3, .int (v3)), (4, .int (v4))] [.ref (σ.1)] _
      cases h
      exact z_aret (r := some (σ.1)) rfl (Or.inl ⟨_, rfl⟩) rfl d_Office_take_127
    · rw [if_neg c7] at h
      refine z_aload_nR 2 d_Office_take_100 rfl rfl ?_
      refine z_aload_n 1 d_Office_take_101 rfl rfl ?_
      replace h := Option.bind_eq_some_iff.mp h; obtain ⟨x12, e13, h⟩ := h
      refine z_getR wF_NumberOffice_Office_86_9 d_Office_take_102 e13 ?_
      refine z_iload 4 d_Office_take_105 rfl ?_
      replace h := Option.bind_eq_some_iff.mp h; obtain ⟨a14, rfl, h⟩ := h
      replace h := Option.bind_eq_some_iff.mp h; obtain ⟨x15, e16, h⟩ := h
      refine z_aaload rfl d_Office_take_107 e16 ?_
      replace h := Option.bind_eq_some_iff.mp h; obtain ⟨a17, rfl, h⟩ := h
      replace h := Option.bind_eq_some_iff.mp h; obtain ⟨_, e21, h⟩ := h
      obtain ⟨b22, f23, e21⟩ := zcls_at (zis_at e21)
      replace h := Option.bind_eq_some_iff.mp h; obtain ⟨σ18, e19, h⟩ := h
      refine z_callV (av := [va_rf (x15)]) (st := []) wV_NumberOffice_Office_90 e21 (t_SeriesBook_enter hG e19) (by decide) (by decide) d_Office_take_108 (by simp [z_rfc, z_ci, z_cl, z_cr, z_cn]) ?_
      show Z _ _ _ _ _ _ 111 [(0, .ref (v0)), (1, .ref (a1)), (2, .ref (a17)), (3, .int (v3)), (4, .int (v4))] [] _
      refine z_iinc (v := v4 + 1) (lv' := [(4, .int (v4 + 1)), (0, .ref (v0)), (1, .ref (a1)), (2, .ref (a17)), (3, .int (v3))]) 4 d_Office_take_111 rfl rfl (by decide) rfl ?_
      refine z_goto (tgt := 90) d_Office_take_114 rfl ?_
      refine z_lv (lv' := [(0, .ref (v0)), (1, va_rf (some (a1))), (2, va_rf (some (a17))), (3, .int (v3)), (4, .int (v4 + 1))]) [1, 2, 3, 4, 0] rfl ?_
      exact ih h
set_option maxRecDepth 100000 in
theorem t_Office_take_37 {l : Launch} {D : zD} {g : zG} (hG : zGok g D) {q : Option Nat × zS}   {v0 : Nat} {v1 : Option Nat} {v2 : Option Nat} {w0 : Int32} {σ : zS} (h : s_Office_take_37 g  v0 v1 v2 w0 σ = some q) : Z l D K_Office_take 3 66 (.returned (some (va_rf q.1)), q.2) 37 [(0, .ref (v0)), (1, va_rf (v1)), (2, va_rf (v2))] [.int (w0)] σ := by
  unfold s_Office_take_37 at h
  refine z_istore_n (j := 3) (lv' := [(3, .int (w0)), (0, .ref (v0)), (1, va_rf (v1)), (2, va_rf (v2))]) d_Office_take_37 rfl (by decide) (by simp [z_rfc, z_ci, z_cl, z_cr, z_cn] <;> rfl) ?_
  refine z_iload_n 0 d_Office_take_38 rfl rfl ?_
  refine z_if_ne (tgt := 46) d_Office_take_39 rfl (fun c1 => ?_) (fun c1 => ?_)
  · rw [if_neg c1] at h
    refine z_lv (lv' := [(0, .ref (v0)), (1, va_rf (v1)), (2, va_rf (v2)), (3, .int (w0))]) [1, 2, 3, 0] rfl ?_
    exact t_Office_take_46 hG   h
  · rw [if_pos c1] at h
    refine z_aload_nR 3 d_Office_take_42 rfl rfl ?_
    refine z_ifnonnull (tgt := 57) d_Office_take_43 rfl (fun a3 c2 => ?_) (fun c2 => ?_)
    · subst c2
      dsimp only at h
      refine z_aload_nR 2 d_Office_take_57 rfl rfl ?_
      replace h := Option.bind_eq_some_iff.mp h; obtain ⟨a4, rfl, h⟩ := h
      replace h := Option.bind_eq_some_iff.mp h; obtain ⟨x5, e6, h⟩ := h
      refine z_getI wF_NumberOffice_Office_76_9 d_Office_take_58 e6 ?_
      refine z_iconst (v := 1) d_Office_take_61 rfl ?_
      refine z_icmp_ne (tgt := 87) d_Office_take_62 rfl (fun c7 => ?_) (fun c7 => ?_)
      · rw [if_neg c7] at h
        refine z_iconst (v := 0) d_Office_take_87 rfl ?_
        refine z_istore (j := 4) (lv' := [(4, .int (0)), (3, .int (w0)), (0, .ref (v0)), (1, .ref (a4)), (2, .ref (a3))]) d_Office_take_88 (by decide) rfl ?_
        refine z_lv (lv' := [(0, .ref (v0)), (1, va_rf (some (a4))), (2, va_rf (some (a3))), (3, .int (w0)), (4, .int (0))]) [2, 3, 4, 1, 0] rfl ?_
        exact t_Office_take_90 hG   zfuel h
      · rw [if_pos c7] at h
        replace h := Option.bind_eq_some_iff.mp h; obtain ⟨σ8, e8, h⟩ := h
        refine z_new wN_NumberOffice_Office_28 d_Office_take_65 ?_
        rw [Option.some.inj e8]
        refine z_dup d_Office_take_68 rfl ?_
        refine z_aload_n 2 d_Office_take_69 rfl rfl ?_
        refine z_iconst (v := 0) d_Office_take_70 rfl ?_
        refine z_aload_n 3 d_Office_take_71 rfl rfl ?_
        refine z_aload_n 2 d_Office_take_72 rfl rfl ?_
        replace h := Option.bind_eq_some_iff.mp h; obtain ⟨x9, e10, h⟩ := h
        refine z_getI wF_NumberOffice_Office_49_9 d_Office_take_73 e10 ?_
        refine z_aload_n 2 d_Office_take_76 rfl rfl ?_
        replace h := Option.bind_eq_some_iff.mp h; obtain ⟨x11, e12, h⟩ := h
        refine z_getI wF_NumberOffice_Office_79_9 d_Office_take_77 e12 ?_
        replace h := Option.bind_eq_some_iff.mp h; obtain ⟨_, e19, h⟩ := h
        obtain ⟨b20, f21, e19⟩ := zcls_at (zis_at e19)
        replace h := Option.bind_eq_some_iff.mp h; obtain ⟨⟨x15, σ13⟩, e14, h⟩ := h
        dsimp only at h
        refine z_callV (av := [.int (x9), .int (x11)]) (st := [.int (0), .ref (a4), .ref (σ.1), .ref (σ.1)]) wV_NumberOffice_Office_82 e19 (t_SeriesBook_give hG e14) (by decide) (by decide) d_Office_take_80 (by simp [z_rfc, z_ci, z_cl, z_cr, z_cn]) ?_
        show Z _ _ _ _ _ _ 83 [(3, .int (w0)), (0, .ref (v0)), (1, .ref (a4)), (2, .ref (a3))] [va_rf (x15), .int (0), .ref (a4), .ref (σ.1), .ref (σ.1)] _
        replace h := Option.bind_eq_some_iff.mp h; obtain ⟨σ16, e17, h⟩ := h
        refine z_callI (av := [va_rf (some (a4)), .int (0), va_rf (x15)]) (st := [.ref (σ.1)]) wI_NumberOffice_Office_73 (t_Answer_init hG e17) (by decide) (by decide) d_Office_take_83 (by simp [z_rfc, z_ci, z_cl, z_cr, z_cn]) ?_
        show Z _ _ _ _ _ _ 86 [(3, .int (w0)), (0, .ref (v0)), (1, .ref (a4)), (2, .ref (a3))] [.ref (σ.1)] _
        cases h
        exact z_aret (r := some (σ.1)) rfl (Or.inl ⟨_, rfl⟩) rfl d_Office_take_86
    · subst c2
      dsimp only at h
      refine z_lv (lv' := [(0, .ref (v0)), (1, va_rf (v1)), (2, va_rf (none)), (3, .int (w0))]) [1, 2, 3, 0] rfl ?_
      exact t_Office_take_46 hG   h
set_option maxRecDepth 100000 in
theorem t_Office_take_36 {l : Launch} {D : zD} {g : zG} (hG : zGok g D) {q : Option Nat × zS}   {v0 : Nat} {v1 : Option Nat} {v2 : Option Nat} {σ : zS} (h : s_Office_take_36 g  v0 v1 v2 σ = some q) : Z l D K_Office_take 3 66 (.returned (some (va_rf q.1)), q.2) 36 [(0, .ref (v0)), (1, va_rf (v1)), (2, va_rf (v2))] [] σ := by
  unfold s_Office_take_36 at h
  refine z_iconst (v := 0) d_Office_take_36 rfl ?_
  refine z_lv (lv' := [(0, .ref (v0)), (1, va_rf (v1)), (2, va_rf (v2))]) [0, 1, 2] rfl ?_
  exact t_Office_take_37 hG   h
set_option maxRecDepth 100000 in
theorem t_Office_take {l : Launch} {D : zD} {g : zG} (hG : zGok g D) {v0 : Nat} {v1 : Option Nat} {σ : zS} {q : Option Nat × zS} (h : s_Office_take g v0 v1 σ = some q) : zMet l D Y_Office_take K_Office_take 3 66 [.ref (v0), va_rf (v1)] σ (.returned (some (va_rf q.1)), q.2) := by
  refine zMet.ofZ (by decide) rfl (fun q => by cases q) (by simp [lg_sl, z_rfc, z_ci, z_cl, z_cr, z_cn]) ?_
  rw [show lv_args 0 ([.ref (v0), va_rf (v1)] : List Value) = [(0, .ref (v0)), (1, va_rf (v1))] from by simp [lv_args, z_rfc, z_ci, z_cl, z_cr, z_cn]]
  unfold s_Office_take at h
  refine z_aload_n 0 d_Office_take_0 rfl rfl ?_
  refine z_aload_nR 1 d_Office_take_1 rfl rfl ?_
  replace h := Option.bind_eq_some_iff.mp h; obtain ⟨a1, rfl, h⟩ := h
  replace h := Option.bind_eq_some_iff.mp h; obtain ⟨x2, e3, h⟩ := h
  refine z_getI wF_NumberOffice_Office_66_9 d_Office_take_2 e3 ?_
  replace h := Option.bind_eq_some_iff.mp h; obtain ⟨_, e24, h⟩ := h
  obtain ⟨b25, f26, e24⟩ := zcls_at (zis_at e24)
  replace h := Option.bind_eq_some_iff.mp h; obtain ⟨⟨x6, σ4⟩, e5, h⟩ := h
  dsimp only at h
  refine z_callV (av := [.int (x2)]) (st := []) wV_NumberOffice_Office_69 e24 (t_Office_bookAt hG e5) (by decide) (by decide) d_Office_take_5 (by simp [z_rfc, z_ci, z_cl, z_cr, z_cn]) ?_
  show Z _ _ _ _ _ _ 8 [(0, .ref (v0)), (1, .ref (a1))] [va_rf (x6)] _
  refine z_astore_nR (j := 2) (lv' := [(2, va_rf (x6)), (0, .ref (v0)), (1, .ref (a1))]) d_Office_take_8 rfl (by decide) rfl ?_
  refine z_aload_n 1 d_Office_take_9 rfl rfl ?_
  refine z_aload_n 2 d_Office_take_10 rfl rfl ?_
  replace h := Option.bind_eq_some_iff.mp h; obtain ⟨x7, e8, h⟩ := h
  refine z_getI wF_NumberOffice_Office_49_9 d_Office_take_11 e8 ?_
  replace h := Option.bind_eq_some_iff.mp h; obtain ⟨_, e21, h⟩ := h
  obtain ⟨b22, f23, e21⟩ := zcls_at (zis_at e21)
  replace h := Option.bind_eq_some_iff.mp h; obtain ⟨⟨x11, σ9⟩, e10, h⟩ := h
  dsimp only at h
  refine z_callV (av := [.int (x7)]) (st := []) wV_NumberOffice_Office_41 e21 (t_Office_knows hG e10) (by decide) (by decide) d_Office_take_14 (by simp [z_rfc, z_ci, z_cl, z_cr, z_cn]) ?_
  show Z _ _ _ _ _ _ 17 [(2, va_rf (x6)), (0, .ref (v0)), (1, .ref (a1))] [.int (x11)] _
  refine z_if_eq (tgt := 36) d_Office_take_17 rfl (fun c12 => ?_) (fun c12 => ?_)
  · rw [if_pos c12] at h
    refine z_lv (lv' := [(0, .ref (v0)), (1, va_rf (some (a1))), (2, va_rf (x6))]) [1, 2, 0] rfl ?_
    exact t_Office_take_36 hG   h
  · rw [if_neg c12] at h
    refine z_aload_n 1 d_Office_take_20 rfl rfl ?_
    replace h := Option.bind_eq_some_iff.mp h; obtain ⟨x13, e14, h⟩ := h
    refine z_getR wF_NumberOffice_Office_21_4 d_Office_take_21 e14 ?_
    refine z_aload_n 2 d_Office_take_24 rfl rfl ?_
    replace h := Option.bind_eq_some_iff.mp h; obtain ⟨x15, e16, h⟩ := h
    refine z_getI wF_NumberOffice_Office_49_9 d_Office_take_25 e16 ?_
    replace h := Option.bind_eq_some_iff.mp h; obtain ⟨a17, rfl, h⟩ := h
    replace h := Option.bind_eq_some_iff.mp h; obtain ⟨x18, e19, h⟩ := h
    refine z_zaload rfl d_Office_take_28 e19 ?_
    refine z_if_eq (tgt := 36) d_Office_take_29 rfl (fun c20 => ?_) (fun c20 => ?_)
    · rw [if_pos c20] at h
      refine z_lv (lv' := [(0, .ref (v0)), (1, va_rf (some (a1))), (2, va_rf (x6))]) [1, 2, 0] rfl ?_
      exact t_Office_take_36 hG   h
    · rw [if_neg c20] at h
      refine z_iconst (v := 1) d_Office_take_32 rfl ?_
      refine z_goto (tgt := 37) d_Office_take_33 rfl ?_
      refine z_lv (lv' := [(0, .ref (v0)), (1, va_rf (some (a1))), (2, va_rf (x6))]) [1, 2, 0] rfl ?_
      exact t_Office_take_37 hG   h

def s_SeriesBook_listByteAt_27 (g : zG)  (v0 : Nat) (v1 : Int32) (w0 : Int32) (σ : zS) : Option (Int32 × zS) := some (w0, σ)
def s_SeriesBook_listByteAt_26 (g : zG)  (v0 : Nat) (v1 : Int32) (σ : zS) : Option (Int32 × zS) := s_SeriesBook_listByteAt_27 g  (v0) (v1) ((-1)) σ
def s_SeriesBook_listByteAt (g : zG) (v0 : Nat) (v1 : Int32) (σ : zS) : Option (Int32 × zS) := if v1 < 0 then s_SeriesBook_listByteAt_26 g  (v0) (v1) σ else (zgR σ v0 5 7).bind fun x2 => (x2).bind fun a4 => (zis σ a4 13).bind fun _ => (s_String_length g a4  σ).bind fun (x7, σ5) => if x7 ≤ v1 then s_SeriesBook_listByteAt_26 g  (v0) (v1) σ5 else (zgR σ5 v0 5 7).bind fun x9 => (x9).bind fun a11 => (zis σ5 a11 13).bind fun _ => (s_String_charAt g a11 v1 σ5).bind fun (x14, σ12) => s_SeriesBook_listByteAt_27 g  (v0) (v1) (x14) σ12
set_option maxRecDepth 100000 in
theorem t_SeriesBook_listByteAt_27 {l : Launch} {D : zD} {g : zG} (hG : zGok g D) {q : Int32 × zS}   {v0 : Nat} {v1 : Int32} {w0 : Int32} {σ : zS} (h : s_SeriesBook_listByteAt_27 g  v0 v1 w0 σ = some q) : Z l D K_SeriesBook_listByteAt 5 106 (.returned (some (.int q.1)), q.2) 27 [(0, .ref (v0)), (1, .int (v1))] [.int (w0)] σ := by
  unfold s_SeriesBook_listByteAt_27 at h
  cases h
  exact z_iret rfl rfl d_SeriesBook_listByteAt_27
set_option maxRecDepth 100000 in
theorem t_SeriesBook_listByteAt_26 {l : Launch} {D : zD} {g : zG} (hG : zGok g D) {q : Int32 × zS}   {v0 : Nat} {v1 : Int32} {σ : zS} (h : s_SeriesBook_listByteAt_26 g  v0 v1 σ = some q) : Z l D K_SeriesBook_listByteAt 5 106 (.returned (some (.int q.1)), q.2) 26 [(0, .ref (v0)), (1, .int (v1))] [] σ := by
  unfold s_SeriesBook_listByteAt_26 at h
  refine z_iconst (v := (-1)) d_SeriesBook_listByteAt_26 rfl ?_
  refine z_lv (lv' := [(0, .ref (v0)), (1, .int (v1))]) [0, 1] rfl ?_
  exact t_SeriesBook_listByteAt_27 hG   h
set_option maxRecDepth 100000 in
theorem t_SeriesBook_listByteAt {l : Launch} {D : zD} {g : zG} (hG : zGok g D) {v0 : Nat} {v1 : Int32} {σ : zS} {q : Int32 × zS} (h : s_SeriesBook_listByteAt g v0 v1 σ = some q) : zMet l D Y_SeriesBook_listByteAt K_SeriesBook_listByteAt 5 106 [.ref (v0), .int (v1)] σ (.returned (some (.int q.1)), q.2) := by
  refine zMet.ofZ (by decide) rfl (fun q => by cases q) (Nat.le_of_ble_eq_true rfl) ?_
  show Z _ _ _ _ _ _ 0 [(0, .ref (v0)), (1, .int (v1))] [] _
  unfold s_SeriesBook_listByteAt at h
  refine z_iload_n 1 d_SeriesBook_listByteAt_0 rfl rfl ?_
  refine z_if_lt (tgt := 26) d_SeriesBook_listByteAt_1 rfl (fun c1 => ?_) (fun c1 => ?_)
  · rw [if_pos c1] at h
    refine z_lv (lv' := [(0, .ref (v0)), (1, .int (v1))]) [0, 1] rfl ?_
    exact t_SeriesBook_listByteAt_26 hG   h
  · rw [if_neg c1] at h
    refine z_iload_n 1 d_SeriesBook_listByteAt_4 rfl rfl ?_
    refine z_aload_n 0 d_SeriesBook_listByteAt_5 rfl rfl ?_
    replace h := Option.bind_eq_some_iff.mp h; obtain ⟨x2, e3, h⟩ := h
    refine z_getR wF_NumberOffice_SeriesBook_31_5 d_SeriesBook_listByteAt_6 e3 ?_
    replace h := Option.bind_eq_some_iff.mp h; obtain ⟨a4, rfl, h⟩ := h
    replace h := Option.bind_eq_some_iff.mp h; obtain ⟨_, e18, h⟩ := h
    obtain ⟨b19, f20, e18⟩ := zcls_at (zis_at e18)
    replace h := Option.bind_eq_some_iff.mp h; obtain ⟨⟨x7, σ5⟩, e6, h⟩ := h
    dsimp only at h
    refine z_callV (av := []) (st := [.int (v1)]) wV_NumberOffice_SeriesBook_90 e18 (t_String_length hG e6) (by decide) (by decide) d_SeriesBook_listByteAt_9 (by simp [z_rfc, z_ci, z_cl, z_cr, z_cn]) ?_
    show Z _ _ _ _ _ _ 12 [(0, .ref (v0)), (1, .int (v1))] [.int (x7), .int (v1)] _
    refine z_icmp_ge (tgt := 26) d_SeriesBook_listByteAt_12 rfl (fun c8 => ?_) (fun c8 => ?_)
    · rw [if_pos c8] at h
      refine z_lv (lv' := [(0, .ref (v0)), (1, .int (v1))]) [0, 1] rfl ?_
      exact t_SeriesBook_listByteAt_26 hG   h
    · rw [if_neg c8] at h
      refine z_aload_n 0 d_SeriesBook_listByteAt_15 rfl rfl ?_
      replace h := Option.bind_eq_some_iff.mp h; obtain ⟨x9, e10, h⟩ := h
      refine z_getR wF_NumberOffice_SeriesBook_31_5 d_SeriesBook_listByteAt_16 e10 ?_
      refine z_iload_n 1 d_SeriesBook_listByteAt_19 rfl rfl ?_
      replace h := Option.bind_eq_some_iff.mp h; obtain ⟨a11, rfl, h⟩ := h
      replace h := Option.bind_eq_some_iff.mp h; obtain ⟨_, e15, h⟩ := h
      obtain ⟨b16, f17, e15⟩ := zcls_at (zis_at e15)
      replace h := Option.bind_eq_some_iff.mp h; obtain ⟨⟨x14, σ12⟩, e13, h⟩ := h
      dsimp only at h
      refine z_callV (av := [.int (v1)]) (st := []) wV_NumberOffice_SeriesBook_96 e15 (t_String_charAt hG e13) (by decide) (by decide) d_SeriesBook_listByteAt_20 (by simp [z_rfc, z_ci, z_cl, z_cr, z_cn]) ?_
      show Z _ _ _ _ _ _ 23 [(0, .ref (v0)), (1, .int (v1))] [.int (x14)] _
      refine z_goto (tgt := 27) d_SeriesBook_listByteAt_23 rfl ?_
      refine z_lv (lv' := [(0, .ref (v0)), (1, .int (v1))]) [0, 1] rfl ?_
      exact t_SeriesBook_listByteAt_27 hG   h

def s_Branch_init_19 (g : zG)  : Nat → Nat → Int32 → Int32 → zS → Option (zS)
  | 0, _, _, _, _ => none
  | n + 1, v0, v1, v2, σ => if 3 ≤ v2 then some σ else (zgR σ v0 1 1).bind fun x2 => (some (znew σ 10 (.inr (2, [.null, .null, .int 0, .int 0, .int 0, .int 0, .int 0, .int 0, .int 0, .int 0])))).bind fun σ4 => (s_BranchSeries_init g (σ.1)  σ4).bind fun σ5 => (x2).bind fun a8 => (zsR σ5 a8 7 (v2) (some (σ.1))).bind fun σ9 => s_Branch_init_19 g  n (v0) (v1) (v2 + 1) σ9
def s_Branch_init (g : zG) (v0 : Nat) (v1 : Int32) (σ : zS) : Option (zS) := (s_Side_init g v0  σ).bind fun σ1 => (zlen (3)).bind fun n4 => (some (znew σ1 n4 (.inl (7, (n4, .inr (.inr (.inr (.inr (fun _ => none))))))))).bind fun σ6 => (zpF σ6 v0 1 1 (.ref (σ1.1))).bind fun σ8 => (zpF σ8 v0 1 0 (.int (v1))).bind fun σ10 => s_Branch_init_19 g  zfuel (v0) (v1) (0) σ10
set_option maxRecDepth 100000 in
theorem t_Branch_init_19 {l : Launch} {D : zD} {g : zG} (hG : zGok g D) {q : zS}   : ∀ (n : Nat) {v0 : Nat} {v1 : Int32} {v2 : Int32} {σ : zS}, s_Branch_init_19 g  n v0 v1 v2 σ = some q → Z l D K_Branch_init 5 92 (.returned none, q) 19 [(0, .ref (v0)), (1, .int (v1)), (2, .int (v2))] [] σ := by
  intro n
  induction n with
  | zero =>
    intro v0 v1 v2 σ h
    cases h
  | succ n ih =>
    intro v0 v1 v2 σ h
    first | rw [s_Branch_init_19] at h | (unfold s_Branch_init_19 at h; dsimp only at h)
    refine z_iload_n 2 d_Branch_init_19 rfl rfl ?_
    refine z_iconst (v := 3) d_Branch_init_20 rfl ?_
    refine z_icmp_ge (tgt := 43) d_Branch_init_21 rfl (fun c1 => ?_) (fun c1 => ?_)
    · rw [if_pos c1] at h
      cases h
      exact z_vret rfl rfl d_Branch_init_43
    · rw [if_neg c1] at h
      refine z_aload_n 0 d_Branch_init_24 rfl rfl ?_
      replace h := Option.bind_eq_some_iff.mp h; obtain ⟨x2, e3, h⟩ := h
      refine z_getR wF_NumberOffice_Branch_11_1 d_Branch_init_25 e3 ?_
      refine z_iload_n 2 d_Branch_init_28 rfl rfl ?_
      replace h := Option.bind_eq_some_iff.mp h; obtain ⟨σ4, e4, h⟩ := h
      refine z_new wN_NumberOffice_Branch_9 d_Branch_init_29 ?_
      rw [Option.some.inj e4]
      refine z_dup d_Branch_init_32 rfl ?_
      replace h := Option.bind_eq_some_iff.mp h; obtain ⟨σ5, e6, h⟩ := h
      refine z_callN (av := []) (st := [.ref (σ.1), .int (v2), va_rf (x2)]) wX_NumberOffice_Branch_21 (t_BranchSeries_init hG e6) (by decide) (by decide) d_Branch_init_33 (by simp [z_rfc, z_ci, z_cl, z_cr, z_cn]) ?_
      show Z _ _ _ _ _ _ 36 [(0, .ref (v0)), (1, .int (v1)), (2, .int (v2))] [.ref (σ.1), .int (v2), va_rf (x2)] _
      replace h := Option.bind_eq_some_iff.mp h; obtain ⟨a8, rfl, h⟩ := h
      replace h := Option.bind_eq_some_iff.mp h; obtain ⟨σ9, e10, h⟩ := h
      refine z_aastore (r := some (σ.1)) rfl d_Branch_init_36 e10 ?_
      refine z_iinc (v := v2 + 1) (lv' := [(2, .int (v2 + 1)), (0, .ref (v0)), (1, .int (v1))]) 2 d_Branch_init_37 rfl rfl (by decide) rfl ?_
      refine z_goto (tgt := 19) d_Branch_init_40 rfl ?_
      refine z_lv (lv' := [(0, .ref (v0)), (1, .int (v1)), (2, .int (v2 + 1))]) [1, 2, 0] rfl ?_
      exact ih h
set_option maxRecDepth 100000 in
theorem t_Branch_init {l : Launch} {D : zD} {g : zG} (hG : zGok g D) {v0 : Nat} {v1 : Int32} {σ : zS} {q : zS} (h : s_Branch_init g v0 v1 σ = some q) : zMet l D Y_Branch_init K_Branch_init 5 92 [.ref (v0), .int (v1)] σ (.returned none, q) := by
  refine zMet.ofZ (by decide) rfl (fun q => rfl) (Nat.le_of_ble_eq_true rfl) ?_
  show Z _ _ _ _ _ _ 0 [(0, .ref (v0)), (1, .int (v1))] [] _
  unfold s_Branch_init at h
  refine z_aload_n 0 d_Branch_init_0 rfl rfl ?_
  replace h := Option.bind_eq_some_iff.mp h; obtain ⟨σ1, e2, h⟩ := h
  refine z_callN (av := []) (st := []) wX_NumberOffice_Branch_3 (t_Side_init hG e2) (by decide) (by decide) d_Branch_init_1 (by simp [z_rfc, z_ci, z_cl, z_cr, z_cn]) ?_
  show Z _ _ _ _ _ _ 4 [(0, .ref (v0)), (1, .int (v1))] [] _
  refine z_aload_n 0 d_Branch_init_4 rfl rfl ?_
  refine z_iconst (v := 3) d_Branch_init_5 rfl ?_
  replace h := Option.bind_eq_some_iff.mp h; obtain ⟨n4, e5, h⟩ := h
  replace h := Option.bind_eq_some_iff.mp h; obtain ⟨σ6, e7, h⟩ := h
  refine z_anewa (t := 7) (E := "NumberOffice$BranchSeries") rfl wAo_NumberOffice_BranchSeries wL_NumberOffice_Branch_9 d_Branch_init_6 e5 ?_
  rw [Option.some.inj e7]
  replace h := Option.bind_eq_some_iff.mp h; obtain ⟨σ8, e9, h⟩ := h
  refine z_put wP_NumberOffice_Branch_11_1 (fun _ => rfl) d_Branch_init_9 rfl rfl e9 ?_
  refine z_aload_n 0 d_Branch_init_12 rfl rfl ?_
  refine z_iload_n 1 d_Branch_init_13 rfl rfl ?_
  replace h := Option.bind_eq_some_iff.mp h; obtain ⟨σ10, e11, h⟩ := h
  refine z_put wP_NumberOffice_Branch_17_1 (fun _ => rfl) d_Branch_init_14 rfl rfl e11 ?_
  refine z_iconst (v := 0) d_Branch_init_17 rfl ?_
  refine z_istore_n (j := 2) (lv' := [(2, .int (0)), (0, .ref (v0)), (1, .int (v1))]) d_Branch_init_18 rfl (by decide) rfl ?_
  refine z_lv (lv' := [(0, .ref (v0)), (1, .int (v1)), (2, .int (0))]) [1, 2, 0] rfl ?_
  exact t_Branch_init_19 hG   zfuel h

def s_Branch_forget_2 (g : zG)  : Nat → Nat → Int32 → zS → Option (zS)
  | 0, _, _, _ => none
  | n + 1, v0, v1, σ => if 3 ≤ v1 then (zgR σ v0 1 5).bind fun x2 => (zpF σ v0 1 2 (va_rf (x2))).bind fun σ4 => (zgI σ4 v0 1 6).bind fun x6 => if x6 = 0 ∨ x6 = 1 then (zpF σ4 v0 1 3 (.int (x6))).bind fun σ8 => (zgI σ8 v0 1 7).bind fun x10 => if x10 = 0 ∨ x10 = 1 then (zpF σ8 v0 1 4 (.int (x10))).bind fun σ12 => some σ12 else none else none else (zgR σ v0 1 1).bind fun x16 => (x16).bind fun a18 => (zaR σ a18 7 (v1)).bind fun x19 => (x19).bind fun a21 => (zis σ a21 2).bind fun _ => (s_BranchSeries_forget g a21  σ).bind fun σ22 => s_Branch_forget_2 g  n (v0) (v1 + 1) σ22
def s_Branch_forget (g : zG) (v0 : Nat) (σ : zS) : Option (zS) := s_Branch_forget_2 g  zfuel (v0) (0) σ
set_option maxRecDepth 100000 in
theorem t_Branch_forget_2 {l : Launch} {D : zD} {g : zG} (hG : zGok g D) {q : zS}   : ∀ (n : Nat) {v0 : Nat} {v1 : Int32} {σ : zS}, s_Branch_forget_2 g  n v0 v1 σ = some q → Z l D K_Branch_forget 4 91 (.returned none, q) 2 [(0, .ref (v0)), (1, .int (v1))] [] σ := by
  intro n
  induction n with
  | zero =>
    intro v0 v1 σ h
    cases h
  | succ n ih =>
    intro v0 v1 σ h
    first | rw [s_Branch_forget_2] at h | (unfold s_Branch_forget_2 at h; dsimp only at h)
    refine z_iload_n 1 d_Branch_forget_2 rfl rfl ?_
    refine z_iconst (v := 3) d_Branch_forget_3 rfl ?_
    refine z_icmp_ge (tgt := 22) d_Branch_forget_4 rfl (fun c1 => ?_) (fun c1 => ?_)
    · rw [if_pos c1] at h
      refine z_aload_n 0 d_Branch_forget_22 rfl rfl ?_
      refine z_aload_n 0 d_Branch_forget_23 rfl rfl ?_
      replace h := Option.bind_eq_some_iff.mp h; obtain ⟨x2, e3, h⟩ := h
      refine z_getR wF_NumberOffice_Branch_29_1 d_Branch_forget_24 e3 ?_
      replace h := Option.bind_eq_some_iff.mp h; obtain ⟨σ4, e5, h⟩ := h
      refine z_put wP_NumberOffice_Branch_25_1 (fun q => by cases q) d_Branch_forget_27 (z_nr _ _) (z_fr _ _) e5 ?_
      refine z_aload_n 0 d_Branch_forget_30 rfl rfl ?_
      refine z_aload_n 0 d_Branch_forget_31 rfl rfl ?_
      replace h := Option.bind_eq_some_iff.mp h; obtain ⟨x6, e7, h⟩ := h
      refine z_getI wF_NumberOffice_Branch_36_1 d_Branch_forget_32 e7 ?_
      by_cases c15 : x6 = 0 ∨ x6 = 1
      rotate_left
      · rw [if_neg c15] at h; cases h
      rw [if_pos c15] at h
      replace h := Option.bind_eq_some_iff.mp h; obtain ⟨σ8, e9, h⟩ := h
      refine z_put wP_NumberOffice_Branch_32_1 (fun q => by cases q) d_Branch_forget_35 (z_nb c15) (z_fb c15) e9 ?_
      refine z_aload_n 0 d_Branch_forget_38 rfl rfl ?_
      refine z_aload_n 0 d_Branch_forget_39 rfl rfl ?_
      replace h := Option.bind_eq_some_iff.mp h; obtain ⟨x10, e11, h⟩ := h
      refine z_getI wF_NumberOffice_Branch_42_1 d_Branch_forget_40 e11 ?_
      by_cases c14 : x10 = 0 ∨ x10 = 1
      rotate_left
      · rw [if_neg c14] at h; cases h
      rw [if_pos c14] at h
      replace h := Option.bind_eq_some_iff.mp h; obtain ⟨σ12, e13, h⟩ := h
      refine z_put wP_NumberOffice_Branch_39_1 (fun q => by cases q) d_Branch_forget_43 (z_nb c14) (z_fb c14) e13 ?_
      cases h
      exact z_vret rfl rfl d_Branch_forget_46
    · rw [if_neg c1] at h
      refine z_aload_n 0 d_Branch_forget_7 rfl rfl ?_
      replace h := Option.bind_eq_some_iff.mp h; obtain ⟨x16, e17, h⟩ := h
      refine z_getR wF_NumberOffice_Branch_11_1 d_Branch_forget_8 e17 ?_
      refine z_iload_n 1 d_Branch_forget_11 rfl rfl ?_
      replace h := Option.bind_eq_some_iff.mp h; obtain ⟨a18, rfl, h⟩ := h
      replace h := Option.bind_eq_some_iff.mp h; obtain ⟨x19, e20, h⟩ := h
      refine z_aaload rfl d_Branch_forget_12 e20 ?_
      replace h := Option.bind_eq_some_iff.mp h; obtain ⟨a21, rfl, h⟩ := h
      replace h := Option.bind_eq_some_iff.mp h; obtain ⟨_, e25, h⟩ := h
      obtain ⟨b26, f27, e25⟩ := zcls_at (zis_at e25)
      replace h := Option.bind_eq_some_iff.mp h; obtain ⟨σ22, e23, h⟩ := h
      refine z_callV (av := []) (st := []) wV_NumberOffice_Branch_45 e25 (t_BranchSeries_forget hG e23) (by decide) (by decide) d_Branch_forget_13 (by simp [z_rfc, z_ci, z_cl, z_cr, z_cn]) ?_
      show Z _ _ _ _ _ _ 16 [(0, .ref (v0)), (1, .int (v1))] [] _
      refine z_iinc (v := v1 + 1) (lv' := [(1, .int (v1 + 1)), (0, .ref (v0))]) 1 d_Branch_forget_16 rfl rfl (by decide) rfl ?_
      refine z_goto (tgt := 2) d_Branch_forget_19 rfl ?_
      refine z_lv (lv' := [(0, .ref (v0)), (1, .int (v1 + 1))]) [1, 0] rfl ?_
      exact ih h
set_option maxRecDepth 100000 in
theorem t_Branch_forget {l : Launch} {D : zD} {g : zG} (hG : zGok g D) {v0 : Nat} {σ : zS} {q : zS} (h : s_Branch_forget g v0 σ = some q) : zMet l D Y_Branch_forget K_Branch_forget 4 91 [.ref (v0)] σ (.returned none, q) := by
  refine zMet.ofZ (by decide) rfl (fun q => by cases q) (Nat.le_of_ble_eq_true rfl) ?_
  show Z _ _ _ _ _ _ 0 [(0, .ref (v0))] [] _
  unfold s_Branch_forget at h
  refine z_iconst (v := 0) d_Branch_forget_0 rfl ?_
  refine z_istore_n (j := 1) (lv' := [(1, .int (0)), (0, .ref (v0))]) d_Branch_forget_1 rfl (by decide) rfl ?_
  refine z_lv (lv' := [(0, .ref (v0)), (1, .int (0))]) [1, 0] rfl ?_
  exact t_Branch_forget_2 hG   zfuel h

def s_Office_answerTo_35 (g : zG)  (v0 : Nat) (v1 : Option Nat) (v2 : Option Nat) (w0 : Int32) (σ : zS) : Option (Option Nat × zS) := (v1).bind fun a1 => (zgI σ a1 9 5).bind fun x2 => if x2 = w0 then some (v2, σ) else (zgI σ a1 9 5).bind fun x5 => if x5 = (w0 + 1) then (zis σ v0 4).bind fun _ => (s_Office_take g v0 (some (a1)) σ).bind fun (x10, σ8) => (zgR σ8 v0 4 4).bind fun x11 => (zgI σ8 a1 9 4).bind fun x13 => (x11).bind fun a15 => (zsR σ8 a15 9 (x13) (x10)).bind fun σ16 => (zis σ16 v0 4).bind fun _ => (s_Office_save g v0  σ16).bind fun σ18 => some (x10, σ18) else some (none, σ)
def s_Office_answerTo (g : zG) (v0 : Nat) (v1 : Option Nat) (σ : zS) : Option (Option Nat × zS) := (v1).bind fun a1 => (zgI σ a1 9 4).bind fun x2 => (zis σ v0 4).bind fun _ => (s_Office_knows g v0 x2 σ).bind fun (x6, σ4) => if x6 = 0 then some (none, σ4) else (zgR σ4 v0 4 4).bind fun x8 => (zgI σ4 a1 9 4).bind fun x10 => (x8).bind fun a12 => (zaR σ4 a12 9 (x10)).bind fun x13 => match x13 with | none => s_Office_answerTo_35 g  (v0) (some (a1)) (none) (0) σ4 | some a16 => (zgI σ4 a16 6 4).bind fun x17 => s_Office_answerTo_35 g  (v0) (some (a1)) (some (a16)) (x17) σ4
set_option maxRecDepth 100000 in
theorem t_Office_answerTo_35 {l : Launch} {D : zD} {g : zG} (hG : zGok g D) {q : Option Nat × zS}   {v0 : Nat} {v1 : Option Nat} {v2 : Option Nat} {w0 : Int32} {σ : zS} (h : s_Office_answerTo_35 g  v0 v1 v2 w0 σ = some q) : Z l D K_Office_answerTo 4 90 (.returned (some (va_rf q.1)), q.2) 35 [(0, .ref (v0)), (1, va_rf (v1)), (2, va_rf (v2))] [.int (w0)] σ := by
  unfold s_Office_answerTo_35 at h
  refine z_istore_n (j := 3) (lv' := [(3, .int (w0)), (0, .ref (v0)), (1, va_rf (v1)), (2, va_rf (v2))]) d_Office_answerTo_35 rfl (by decide) (by simp [z_rfc, z_ci, z_cl, z_cr, z_cn] <;> rfl) ?_
  refine z_aload_nR 2 d_Office_answerTo_36 rfl rfl ?_
  replace h := Option.bind_eq_some_iff.mp h; obtain ⟨a1, rfl, h⟩ := h
  replace h := Option.bind_eq_some_iff.mp h; obtain ⟨x2, e3, h⟩ := h
  refine z_getI wF_NumberOffice_Office_58_9 d_Office_answerTo_37 e3 ?_
  refine z_iload_n 0 d_Office_answerTo_40 rfl rfl ?_
  refine z_icmp_ne (tgt := 46) d_Office_answerTo_41 rfl (fun c4 => ?_) (fun c4 => ?_)
  · rw [if_neg c4] at h
    refine z_aload_n 2 d_Office_answerTo_46 rfl rfl ?_
    replace h := Option.bind_eq_some_iff.mp h; obtain ⟨x5, e6, h⟩ := h
    refine z_getI wF_NumberOffice_Office_58_9 d_Office_answerTo_47 e6 ?_
    refine z_iload_n 0 d_Office_answerTo_50 rfl rfl ?_
    refine z_iconst (v := 1) d_Office_answerTo_51 rfl ?_
    refine z_iadd d_Office_answerTo_52 ?_
    refine z_icmp_eq (tgt := 58) d_Office_answerTo_53 rfl (fun c7 => ?_) (fun c7 => ?_)
    · rw [if_pos c7] at h
      refine z_aload_n 1 d_Office_answerTo_58 rfl rfl ?_
      refine z_aload_n 2 d_Office_answerTo_59 rfl rfl ?_
      replace h := Option.bind_eq_some_iff.mp h; obtain ⟨_, e24, h⟩ := h
      obtain ⟨b25, f26, e24⟩ := zcls_at (zis_at e24)
      replace h := Option.bind_eq_some_iff.mp h; obtain ⟨⟨x10, σ8⟩, e9, h⟩ := h
      dsimp only at h
      refine z_callV (av := [va_rf (some (a1))]) (st := []) wV_NumberOffice_Office_59 e24 (t_Office_take hG e9) (by decide) (by decide) d_Office_answerTo_60 (by simp [z_rfc, z_ci, z_cl, z_cr, z_cn]) ?_
      show Z _ _ _ _ _ _ 63 [(3, .int (w0)), (0, .ref (v0)), (1, .ref (a1)), (2, va_rf (v2))] [va_rf (x10)] _
      refine z_astoreR (j := 4) (lv' := [(4, va_rf (x10)), (3, .int (w0)), (0, .ref (v0)), (1, .ref (a1)), (2, va_rf (v2))]) d_Office_answerTo_63 (by decide) rfl ?_
      refine z_aload_n 2 d_Office_answerTo_65 rfl rfl ?_
      replace h := Option.bind_eq_some_iff.mp h; obtain ⟨x11, e12, h⟩ := h
      refine z_getR wF_NumberOffice_Office_30_4 d_Office_answerTo_66 e12 ?_
      refine z_aload_n 3 d_Office_answerTo_69 rfl rfl ?_
      replace h := Option.bind_eq_some_iff.mp h; obtain ⟨x13, e14, h⟩ := h
      refine z_getI wF_NumberOffice_Office_49_9 d_Office_answerTo_70 e14 ?_
      refine z_aloadR 0 d_Office_answerTo_73 rfl ?_
      replace h := Option.bind_eq_some_iff.mp h; obtain ⟨a15, rfl, h⟩ := h
      replace h := Option.bind_eq_some_iff.mp h; obtain ⟨σ16, e17, h⟩ := h
      refine z_aastore (r := x10) rfl d_Office_answerTo_75 e17 ?_
      refine z_aload_n 2 d_Office_answerTo_76 rfl rfl ?_
      replace h := Option.bind_eq_some_iff.mp h; obtain ⟨_, e21, h⟩ := h
      obtain ⟨b22, f23, e21⟩ := zcls_at (zis_at e21)
      replace h := Option.bind_eq_some_iff.mp h; obtain ⟨σ18, e19, h⟩ := h
      refine z_callV (av := []) (st := []) wV_NumberOffice_Office_63 e21 (t_Office_save hG e19) (by decide) (by decide) d_Office_answerTo_77 (by simp [z_rfc, z_ci, z_cl, z_cr, z_cn]) ?_
      show Z _ _ _ _ _ _ 80 [(4, va_rf (x10)), (3, .int (w0)), (0, .ref (v0)), (1, .ref (a1)), (2, va_rf (v2))] [] _
      refine z_aloadR 0 d_Office_answerTo_80 rfl ?_
      cases h
      exact z_aret (r := x10) rfl (Or.inl ⟨_, rfl⟩) rfl d_Office_answerTo_82
    · rw [if_neg c7] at h
      refine z_null d_Office_answerTo_56 ?_
      cases h
      exact z_aret (r := none) rfl (Or.inl ⟨_, rfl⟩) rfl d_Office_answerTo_57
  · rw [if_pos c4] at h
    refine z_aload_nR 3 d_Office_answerTo_44 rfl rfl ?_
    cases h
    exact z_aret (r := v2) rfl (Or.inl ⟨_, rfl⟩) rfl d_Office_answerTo_45
set_option maxRecDepth 100000 in
theorem t_Office_answerTo {l : Launch} {D : zD} {g : zG} (hG : zGok g D) {v0 : Nat} {v1 : Option Nat} {σ : zS} {q : Option Nat × zS} (h : s_Office_answerTo g v0 v1 σ = some q) : zMet l D Y_Office_answerTo K_Office_answerTo 4 90 [.ref (v0), va_rf (v1)] σ (.returned (some (va_rf q.1)), q.2) := by
  refine zMet.ofZ (by decide) rfl (fun q => by cases q) (by simp [lg_sl, z_rfc, z_ci, z_cl, z_cr, z_cn]) ?_
  rw [show lv_args 0 ([.ref (v0), va_rf (v1)] : List Value) = [(0, .ref (v0)), (1, va_rf (v1))] from by simp [lv_args, z_rfc, z_ci, z_cl, z_cr, z_cn]]
  unfold s_Office_answerTo at h
  refine z_aload_n 0 d_Office_answerTo_0 rfl rfl ?_
  refine z_aload_nR 1 d_Office_answerTo_1 rfl rfl ?_
  replace h := Option.bind_eq_some_iff.mp h; obtain ⟨a1, rfl, h⟩ := h
  replace h := Option.bind_eq_some_iff.mp h; obtain ⟨x2, e3, h⟩ := h
  refine z_getI wF_NumberOffice_Office_49_9 d_Office_answerTo_2 e3 ?_
  replace h := Option.bind_eq_some_iff.mp h; obtain ⟨_, e19, h⟩ := h
  obtain ⟨b20, f21, e19⟩ := zcls_at (zis_at e19)
  replace h := Option.bind_eq_some_iff.mp h; obtain ⟨⟨x6, σ4⟩, e5, h⟩ := h
  dsimp only at h
  refine z_callV (av := [.int (x2)]) (st := []) wV_NumberOffice_Office_41 e19 (t_Office_knows hG e5) (by decide) (by decide) d_Office_answerTo_5 (by simp [z_rfc, z_ci, z_cl, z_cr, z_cn]) ?_
  show Z _ _ _ _ _ _ 8 [(0, .ref (v0)), (1, .ref (a1))] [.int (x6)] _
  refine z_if_ne (tgt := 13) d_Office_answerTo_8 rfl (fun c7 => ?_) (fun c7 => ?_)
  · rw [if_neg c7] at h
    refine z_aload_n 0 d_Office_answerTo_13 rfl rfl ?_
    replace h := Option.bind_eq_some_iff.mp h; obtain ⟨x8, e9, h⟩ := h
    refine z_getR wF_NumberOffice_Office_30_4 d_Office_answerTo_14 e9 ?_
    refine z_aload_n 1 d_Office_answerTo_17 rfl rfl ?_
    replace h := Option.bind_eq_some_iff.mp h; obtain ⟨x10, e11, h⟩ := h
    refine z_getI wF_NumberOffice_Office_49_9 d_Office_answerTo_18 e11 ?_
    replace h := Option.bind_eq_some_iff.mp h; obtain ⟨a12, rfl, h⟩ := h
    replace h := Option.bind_eq_some_iff.mp h; obtain ⟨x13, e14, h⟩ := h
    refine z_aaload rfl d_Office_answerTo_21 e14 ?_
    refine z_astore_nR (j := 2) (lv' := [(2, va_rf (x13)), (0, .ref (v0)), (1, .ref (a1))]) d_Office_answerTo_22 rfl (by decide) rfl ?_
    refine z_aload_nR 0 d_Office_answerTo_23 rfl rfl ?_
    refine z_ifnonnull (tgt := 31) d_Office_answerTo_24 rfl (fun a16 c15 => ?_) (fun c15 => ?_)
    · subst c15
      dsimp only at h
      refine z_aload_n 0 d_Office_answerTo_31 rfl rfl ?_
      replace h := Option.bind_eq_some_iff.mp h; obtain ⟨x17, e18, h⟩ := h
      refine z_getI wF_NumberOffice_Office_55_6 d_Office_answerTo_32 e18 ?_
      refine z_lv (lv' := [(0, .ref (v0)), (1, va_rf (some (a1))), (2, va_rf (some (a16)))]) [1, 2, 0] rfl ?_
      exact t_Office_answerTo_35 hG   h
    · subst c15
      dsimp only at h
      refine z_iconst (v := 0) d_Office_answerTo_27 rfl ?_
      refine z_goto (tgt := 35) d_Office_answerTo_28 rfl ?_
      refine z_lv (lv' := [(0, .ref (v0)), (1, va_rf (some (a1))), (2, va_rf (none))]) [1, 2, 0] rfl ?_
      exact t_Office_answerTo_35 hG   h
  · rw [if_pos c7] at h
    refine z_null d_Office_answerTo_11 ?_
    cases h
    exact z_aret (r := none) rfl (Or.inl ⟨_, rfl⟩) rfl d_Office_answerTo_12

def s_No_listByte_29 (g : zG)  (v0 : Nat) (v1 : Int32) (v2 : Int32) (v3 : Option Nat) (w0 : Int32) (σ : zS) : Option ((Int32 ⊕ Nat) × zS) := some (.inl w0, σ)
def s_No_listByte (g : zG) (v0 : Nat) (v1 : Int32) (v2 : Int32) (σ : zS) : Option ((Int32 ⊕ Nat) × zS) := (zgR σ v0 0 1).bind fun x1 => (s_No_requireUp g x1 σ).bind fun (x5, σ3) => match x5 with | .inl _ => ((zgR σ3 v0 0 1).bind fun x8 => (x8).bind fun a10 => (zis σ3 a10 4).bind fun _ => (s_Office_bookAt g a10 v1 σ3).bind fun (x13, σ11) => match x13 with | none => s_No_listByte_29 g  (v0) (v1) (v2) (none) ((-1)) σ11 | some a15 => (zis σ11 a15 5).bind fun _ => (s_SeriesBook_listByteAt g a15 v2 σ11).bind fun (x18, σ16) => s_No_listByte_29 g  (v0) (v1) (v2) (some (a15)) (x18) σ16) | .inr a7 => (some (.inr a7, σ3))
set_option maxRecDepth 100000 in
theorem t_No_listByte_29 {l : Launch} {D : zD} {g : zG} (hG : zGok g D) (hl : zLo l) {q : (Int32 ⊕ Nat) × zS}   {v0 : Nat} {v1 : Int32} {v2 : Int32} {v3 : Option Nat} {w0 : Int32} {σ : zS} (h : s_No_listByte_29 g  v0 v1 v2 v3 w0 σ = some q) : Z l D K_No_listByte 7 140 (zoI q.1, q.2) 29 [(0, .ref (v0)), (1, .int (v1)), (2, .int (v2)), (3, va_rf (v3))] [.int (w0)] σ := by
  unfold s_No_listByte_29 at h
  cases h
  exact z_iret rfl rfl d_No_listByte_29
set_option maxRecDepth 100000 in
theorem t_No_listByte {l : Launch} {D : zD} {g : zG} (hG : zGok g D) (hl : zLo l) {v0 : Nat} {v1 : Int32} {v2 : Int32} {σ : zS} {q : (Int32 ⊕ Nat) × zS} (h : s_No_listByte g v0 v1 v2 σ = some q) : zMet l D Y_No_listByte K_No_listByte 7 140 [.ref (v0), .int (v1), .int (v2)] σ (zoI q.1, q.2) := by
  refine zMet.ofZ (by decide) rfl (fun q => by cases q) (Nat.le_of_ble_eq_true rfl) ?_
  show Z _ _ _ _ _ _ 0 [(0, .ref (v0)), (1, .int (v1)), (2, .int (v2))] [] _
  unfold s_No_listByte at h
  refine z_aload_n 0 d_No_listByte_0 rfl rfl ?_
  replace h := Option.bind_eq_some_iff.mp h; obtain ⟨x1, e2, h⟩ := h
  refine z_getR wF_NumberOffice_30_0 d_No_listByte_1 e2 ?_
  replace h := Option.bind_eq_some_iff.mp h; obtain ⟨⟨x5, σ3⟩, e4, h⟩ := h
  dsimp only at h
  rcases x5 with _ | a7
  · dsimp only at h
    refine z_callS (av := [va_rf (x1)]) (st := []) wS_NumberOffice_41 (t_No_requireUp hG hl e4) (by decide) (by decide) d_No_listByte_4 (by simp [z_rfc, z_ci, z_cl, z_cr, z_cn]) ?_
    show Z _ _ _ _ _ _ 7 [(0, .ref (v0)), (1, .int (v1)), (2, .int (v2))] [] _
    refine z_aload_n 0 d_No_listByte_7 rfl rfl ?_
    replace h := Option.bind_eq_some_iff.mp h; obtain ⟨x8, e9, h⟩ := h
    refine z_getR wF_NumberOffice_30_0 d_No_listByte_8 e9 ?_
    refine z_iload_n 1 d_No_listByte_11 rfl rfl ?_
    replace h := Option.bind_eq_some_iff.mp h; obtain ⟨a10, rfl, h⟩ := h
    replace h := Option.bind_eq_some_iff.mp h; obtain ⟨_, e22, h⟩ := h
    obtain ⟨b23, f24, e22⟩ := zcls_at (zis_at e22)
    replace h := Option.bind_eq_some_iff.mp h; obtain ⟨⟨x13, σ11⟩, e12, h⟩ := h
    dsimp only at h
    refine z_callV (av := [.int (v1)]) (st := []) wV_NumberOffice_45 e22 (t_Office_bookAt hG e12) (by decide) (by decide) d_No_listByte_12 (by simp [z_rfc, z_ci, z_cl, z_cr, z_cn]) ?_
    show Z _ _ _ _ _ _ 15 [(0, .ref (v0)), (1, .int (v1)), (2, .int (v2))] [va_rf (x13)] _
    refine z_astore_nR (j := 3) (lv' := [(3, va_rf (x13)), (0, .ref (v0)), (1, .int (v1)), (2, .int (v2))]) d_No_listByte_15 rfl (by decide) rfl ?_
    refine z_aload_nR 0 d_No_listByte_16 rfl rfl ?_
    refine z_ifnonnull (tgt := 24) d_No_listByte_17 rfl (fun a15 c14 => ?_) (fun c14 => ?_)
    · subst c14
      dsimp only at h
      refine z_aload_n 0 d_No_listByte_24 rfl rfl ?_
      refine z_iload_n 3 d_No_listByte_25 rfl rfl ?_
      replace h := Option.bind_eq_some_iff.mp h; obtain ⟨_, e19, h⟩ := h
      obtain ⟨b20, f21, e19⟩ := zcls_at (zis_at e19)
      replace h := Option.bind_eq_some_iff.mp h; obtain ⟨⟨x18, σ16⟩, e17, h⟩ := h
      dsimp only at h
      refine z_callV (av := [.int (v2)]) (st := []) wV_NumberOffice_202 e19 (t_SeriesBook_listByteAt hG e17) (by decide) (by decide) d_No_listByte_26 (by simp [z_rfc, z_ci, z_cl, z_cr, z_cn]) ?_
      show Z _ _ _ _ _ _ 29 [(3, .ref (a15)), (0, .ref (v0)), (1, .int (v1)), (2, .int (v2))] [.int (x18)] _
      refine z_lv (lv' := [(0, .ref (v0)), (1, .int (v1)), (2, .int (v2)), (3, va_rf (some (a15)))]) [1, 2, 3, 0] rfl ?_
      exact t_No_listByte_29 hG hl   h
    · subst c14
      dsimp only at h
      refine z_iconst (v := (-1)) d_No_listByte_20 rfl ?_
      refine z_goto (tgt := 29) d_No_listByte_21 rfl ?_
      refine z_lv (lv' := [(0, .ref (v0)), (1, .int (v1)), (2, .int (v2)), (3, va_rf (none))]) [1, 2, 3, 0] rfl ?_
      exact t_No_listByte_29 hG hl   h
  · dsimp only at h
    cases h
    refine z_callS_t (a := a7) (av := [va_rf (x1)]) (st := []) wS_NumberOffice_41 (t_No_requireUp hG hl e4) (by decide) (by decide) d_No_listByte_4 (by simp [z_rfc, z_ci, z_cl, z_cr, z_cn]) ?_
    exact zt_out rfl rfl

def s_No_init_25 (g : zG)  : Nat → Nat → Int32 → Int32 → Int32 → zS → Option (zS)
  | 0, _, _, _, _, _ => none
  | n + 1, v0, v1, v2, v3, σ => if v2 ≤ v3 then (some (znew σ 7 (.inr (4, [.null, .null, .null, .null, .null, .null, .int 0])))).bind fun σ2 => (s_Office_init g (σ.1) v2 σ2).bind fun σ3 => (zpF σ3 v0 0 1 (.ref (σ.1))).bind fun σ6 => (some (znew σ6 3 (.inr (3, [.null, .int 0, .int 0])))).bind fun σ8 => (s_ArrayList_init g (σ6.1)  σ8).bind fun σ9 => (zpF σ9 v0 0 2 (.ref (σ6.1))).bind fun σ12 => some σ12 else (zgR σ v0 0 0).bind fun x14 => (some (znew σ 9 (.inr (1, [.int 0, .null, .null, .int 0, .int 0, .null, .int 0, .int 0, .int 0])))).bind fun σ16 => (s_Branch_init g (σ.1) v3 σ16).bind fun σ17 => (x14).bind fun a20 => (zsR σ17 a20 6 (v3) (some (σ.1))).bind fun σ21 => s_No_init_25 g  n (v0) (v1) (v2) (v3 + 1) σ21
def s_No_init (g : zG) (v0 : Nat) (v1 : Int32) (σ : zS) : Option (zS) := (some (if v1 < 6 then v1 else 6)).bind fun x1 => (some (if 1 < x1 then x1 else 1)).bind fun x3 => (zlen (x3)).bind fun n5 => (some (znew σ n5 (.inl (6, (n5, .inr (.inr (.inr (.inr (fun _ => none))))))))).bind fun σ7 => (zpF σ7 v0 0 0 (.ref (σ.1))).bind fun σ9 => s_No_init_25 g  zfuel (v0) (v1) (x3) (0) σ9
set_option maxRecDepth 100000 in
theorem t_No_init_25 {l : Launch} {D : zD} {g : zG} (hG : zGok g D) {q : zS}   : ∀ (n : Nat) {v0 : Nat} {v1 : Int32} {v2 : Int32} {v3 : Int32} {σ : zS}, s_No_init_25 g  n v0 v1 v2 v3 σ = some q → Z l D K_No_init 6 114 (.returned none, q) 25 [(0, .ref (v0)), (1, .int (v1)), (2, .int (v2)), (3, .int (v3))] [] σ := by
  intro n
  induction n with
  | zero =>
    intro v0 v1 v2 v3 σ h
    cases h
  | succ n ih =>
    intro v0 v1 v2 v3 σ h
    first | rw [s_No_init_25] at h | (unfold s_No_init_25 at h; dsimp only at h)
    refine z_iload_n 3 d_No_init_25 rfl rfl ?_
    refine z_iload_n 2 d_No_init_26 rfl rfl ?_
    refine z_icmp_ge (tgt := 50) d_No_init_27 rfl (fun c1 => ?_) (fun c1 => ?_)
    · rw [if_pos c1] at h
      refine z_aload_n 0 d_No_init_50 rfl rfl ?_
      replace h := Option.bind_eq_some_iff.mp h; obtain ⟨σ2, e2, h⟩ := h
      refine z_new wN_NumberOffice_27 d_No_init_51 ?_
      rw [Option.some.inj e2]
      refine z_dup d_No_init_54 rfl ?_
      refine z_iload_n 2 d_No_init_55 rfl rfl ?_
      replace h := Option.bind_eq_some_iff.mp h; obtain ⟨σ3, e4, h⟩ := h
      refine z_callI (av := [.int (v2)]) (st := [.ref (σ.1), .ref (v0)]) wI_NumberOffice_29 (t_Office_init hG e4) (by decide) (by decide) d_No_init_56 (by simp [z_rfc, z_ci, z_cl, z_cr, z_cn]) ?_
      show Z _ _ _ _ _ _ 59 [(0, .ref (v0)), (1, .int (v1)), (2, .int (v2)), (3, .int (v3))] [.ref (σ.1), .ref (v0)] _
      replace h := Option.bind_eq_some_iff.mp h; obtain ⟨σ6, e7, h⟩ := h
      refine z_put wP_NumberOffice_30_0 (fun _ => rfl) d_No_init_59 rfl rfl e7 ?_
      refine z_aload_n 0 d_No_init_62 rfl rfl ?_
      replace h := Option.bind_eq_some_iff.mp h; obtain ⟨σ8, e8, h⟩ := h
      refine z_new wN_NumberOffice_34 d_No_init_63 ?_
      rw [Option.some.inj e8]
      refine z_dup d_No_init_66 rfl ?_
      replace h := Option.bind_eq_some_iff.mp h; obtain ⟨σ9, e10, h⟩ := h
      refine z_callI (av := []) (st := [.ref (σ6.1), .ref (v0)]) wI_NumberOffice_36 (t_ArrayList_init hG e10) (by decide) (by decide) d_No_init_67 (by simp [z_rfc, z_ci, z_cl, z_cr, z_cn]) ?_
      show Z _ _ _ _ _ _ 70 [(0, .ref (v0)), (1, .int (v1)), (2, .int (v2)), (3, .int (v3))] [.ref (σ6.1), .ref (v0)] _
      replace h := Option.bind_eq_some_iff.mp h; obtain ⟨σ12, e13, h⟩ := h
      refine z_put wP_NumberOffice_37_0 (fun _ => rfl) d_No_init_70 rfl rfl e13 ?_
      cases h
      exact z_vret rfl rfl d_No_init_73
    · rw [if_neg c1] at h
      refine z_aload_n 0 d_No_init_30 rfl rfl ?_
      replace h := Option.bind_eq_some_iff.mp h; obtain ⟨x14, e15, h⟩ := h
      refine z_getR wF_NumberOffice_20_0 d_No_init_31 e15 ?_
      refine z_iload_n 3 d_No_init_34 rfl rfl ?_
      replace h := Option.bind_eq_some_iff.mp h; obtain ⟨σ16, e16, h⟩ := h
      refine z_new wN_NumberOffice_18 d_No_init_35 ?_
      rw [Option.some.inj e16]
      refine z_dup d_No_init_38 rfl ?_
      refine z_iload_n 3 d_No_init_39 rfl rfl ?_
      replace h := Option.bind_eq_some_iff.mp h; obtain ⟨σ17, e18, h⟩ := h
      refine z_callI (av := [.int (v3)]) (st := [.ref (σ.1), .int (v3), va_rf (x14)]) wI_NumberOffice_24 (t_Branch_init hG e18) (by decide) (by decide) d_No_init_40 (by simp [z_rfc, z_ci, z_cl, z_cr, z_cn]) ?_
      show Z _ _ _ _ _ _ 43 [(0, .ref (v0)), (1, .int (v1)), (2, .int (v2)), (3, .int (v3))] [.ref (σ.1), .int (v3), va_rf (x14)] _
      replace h := Option.bind_eq_some_iff.mp h; obtain ⟨a20, rfl, h⟩ := h
      replace h := Option.bind_eq_some_iff.mp h; obtain ⟨σ21, e22, h⟩ := h
      refine z_aastore (r := some (σ.1)) rfl d_No_init_43 e22 ?_
      refine z_iinc (v := v3 + 1) (lv' := [(3, .int (v3 + 1)), (0, .ref (v0)), (1, .int (v1)), (2, .int (v2))]) 3 d_No_init_44 rfl rfl (by decide) rfl ?_
      refine z_goto (tgt := 25) d_No_init_47 rfl ?_
      refine z_lv (lv' := [(0, .ref (v0)), (1, .int (v1)), (2, .int (v2)), (3, .int (v3 + 1))]) [1, 2, 3, 0] rfl ?_
      exact ih h
set_option maxRecDepth 100000 in
theorem t_No_init {l : Launch} {D : zD} {g : zG} (hG : zGok g D) {v0 : Nat} {v1 : Int32} {σ : zS} {q : zS} (h : s_No_init g v0 v1 σ = some q) : zMet l D Y_No_init K_No_init 6 114 [.ref (v0), .int (v1)] σ (.returned none, q) := by
  refine zMet.ofZ (by decide) rfl (fun q => rfl) (Nat.le_of_ble_eq_true rfl) ?_
  show Z _ _ _ _ _ _ 0 [(0, .ref (v0)), (1, .int (v1))] [] _
  unfold s_No_init at h
  refine z_aload_n 0 d_No_init_0 rfl rfl ?_
  refine z_objInit wO_NumberOffice_1 wOi wOc (by decide) (by decide) d_No_init_1 ?_
  refine z_iconst (v := 1) d_No_init_4 rfl ?_
  refine z_bipush (v := 6) d_No_init_5 rfl ?_
  refine z_iload_n 1 d_No_init_7 rfl rfl ?_
  replace h := Option.bind_eq_some_iff.mp h; obtain ⟨x1, e2, h⟩ := h
  refine z_mmin (x := 6) (y := v1) wM_NumberOffice_9 wMs_min wMi wMc_min (by decide) (by simp [z_rfc, z_ci, z_cl, z_cr, z_cn]) d_No_init_8 ?_
  rw [Option.some.inj e2]
  replace h := Option.bind_eq_some_iff.mp h; obtain ⟨x3, e4, h⟩ := h
  refine z_mmax (x := 1) (y := x1) wM_NumberOffice_15 wMs_max wMi wMc_max (by decide) (by simp [z_rfc, z_ci, z_cl, z_cr, z_cn]) d_No_init_11 ?_
  rw [Option.some.inj e4]
  refine z_istore_n (j := 2) (lv' := [(2, .int (x3)), (0, .ref (v0)), (1, .int (v1))]) d_No_init_14 rfl (by decide) rfl ?_
  refine z_aload_n 1 d_No_init_15 rfl rfl ?_
  refine z_iload_n 0 d_No_init_16 rfl rfl ?_
  replace h := Option.bind_eq_some_iff.mp h; obtain ⟨n5, e6, h⟩ := h
  replace h := Option.bind_eq_some_iff.mp h; obtain ⟨σ7, e8, h⟩ := h
  refine z_anewa (t := 6) (E := "NumberOffice$Branch") rfl wAo_NumberOffice_Branch wL_NumberOffice_18 d_No_init_17 e6 ?_
  rw [Option.some.inj e8]
  replace h := Option.bind_eq_some_iff.mp h; obtain ⟨σ9, e10, h⟩ := h
  refine z_put wP_NumberOffice_20_0 (fun _ => rfl) d_No_init_20 rfl rfl e10 ?_
  refine z_iconst (v := 0) d_No_init_23 rfl ?_
  refine z_istore_n (j := 3) (lv' := [(3, .int (0)), (2, .int (x3)), (0, .ref (v0)), (1, .int (v1))]) d_No_init_24 rfl (by decide) rfl ?_
  refine z_lv (lv' := [(0, .ref (v0)), (1, .int (v1)), (2, .int (x3)), (3, .int (0))]) [2, 3, 1, 0] rfl ?_
  exact t_No_init_25 hG   zfuel h

def s_No_crash_17 (g : zG)  (v0 : Nat) (v1 : Int32) (v2 : Option Nat) (σ : zS) : Option (Int32 × zS) := some (0, σ)
def s_No_crash (g : zG) (v0 : Nat) (v1 : Int32) (σ : zS) : Option (Int32 × zS) := (zis σ v0 0).bind fun _ => (s_No_sideAt g v0 v1 σ).bind fun (x3, σ1) => match x3 with | none => s_No_crash_17 g  (v0) (v1) (none) σ1 | some a5 => (zgI2 σ1 a5 1 8 4 6).bind fun x6 => if x6 = 0 then s_No_crash_17 g  (v0) (v1) (some (a5)) σ1 else (zpF2 σ1 a5 1 8 4 6 (.int (0))).bind fun σ9 => if zcls σ9 a5 = some 1 then (zis σ9 a5 1).bind fun _ => (s_Branch_forget g a5  σ9).bind fun σ12 => some (1, σ12) else (zis σ9 a5 4).bind fun _ => (s_Office_forget g a5  σ9).bind fun σ18 => some (1, σ18)
set_option maxRecDepth 100000 in
theorem t_No_crash_17 {l : Launch} {D : zD} {g : zG} (hG : zGok g D) {q : Int32 × zS}   {v0 : Nat} {v1 : Int32} {v2 : Option Nat} {σ : zS} (h : s_No_crash_17 g  v0 v1 v2 σ = some q) : Z l D K_No_crash 5 112 (.returned (some (.int q.1)), q.2) 17 [(0, .ref (v0)), (1, .int (v1)), (2, va_rf (v2))] [] σ := by
  unfold s_No_crash_17 at h
  refine z_iconst (v := 0) d_No_crash_17 rfl ?_
  cases h
  exact z_zret rfl rfl rfl d_No_crash_18
set_option maxRecDepth 100000 in
theorem t_No_crash {l : Launch} {D : zD} {g : zG} (hG : zGok g D) {v0 : Nat} {v1 : Int32} {σ : zS} {q : Int32 × zS} (h : s_No_crash g v0 v1 σ = some q) : zMet l D Y_No_crash K_No_crash 5 112 [.ref (v0), .int (v1)] σ (.returned (some (.int q.1)), q.2) := by
  refine zMet.ofZ (by decide) rfl (fun q => by cases q) (Nat.le_of_ble_eq_true rfl) ?_
  show Z _ _ _ _ _ _ 0 [(0, .ref (v0)), (1, .int (v1))] [] _
  unfold s_No_crash at h
  refine z_aload_n 0 d_No_crash_0 rfl rfl ?_
  refine z_iload_n 1 d_No_crash_1 rfl rfl ?_
  replace h := Option.bind_eq_some_iff.mp h; obtain ⟨_, e24, h⟩ := h
  obtain ⟨b25, f26, e24⟩ := zcls_at (zis_at e24)
  replace h := Option.bind_eq_some_iff.mp h; obtain ⟨⟨x3, σ1⟩, e2, h⟩ := h
  dsimp only at h
  refine z_callV (av := [.int (v1)]) (st := []) wV_NumberOffice_138 e24 (t_No_sideAt hG e2) (by decide) (by decide) d_No_crash_2 (by simp [z_rfc, z_ci, z_cl, z_cr, z_cn]) ?_
  show Z _ _ _ _ _ _ 5 [(0, .ref (v0)), (1, .int (v1))] [va_rf (x3)] _
  refine z_astore_nR (j := 2) (lv' := [(2, va_rf (x3)), (0, .ref (v0)), (1, .int (v1))]) d_No_crash_5 rfl (by decide) rfl ?_
  refine z_aload_nR 0 d_No_crash_6 rfl rfl ?_
  refine z_ifnull (tgt := 17) d_No_crash_7 rfl (fun c4 => ?_) (fun a5 c4 => ?_)
  · subst c4
    dsimp only at h
    refine z_lv (lv' := [(0, .ref (v0)), (1, .int (v1)), (2, va_rf (none))]) [1, 2, 0] rfl ?_
    exact t_No_crash_17 hG   h
  · subst c4
    dsimp only at h
    refine z_aload_n 0 d_No_crash_10 rfl rfl ?_
    replace h := Option.bind_eq_some_iff.mp h; obtain ⟨x6, e7, h⟩ := h
    refine z_getI2 wF_NumberOffice_142_1 wF_NumberOffice_142_4 d_No_crash_11 e7 ?_
    refine z_if_ne (tgt := 19) d_No_crash_14 rfl (fun c8 => ?_) (fun c8 => ?_)
    · rw [if_neg c8] at h
      refine z_aload_n 0 d_No_crash_19 rfl rfl ?_
      refine z_iconst (v := 0) d_No_crash_20 rfl ?_
      replace h := Option.bind_eq_some_iff.mp h; obtain ⟨σ9, e10, h⟩ := h
      refine z_put2 wP_NumberOffice_142_1 wP_NumberOffice_142_4 (fun q => by cases q) d_No_crash_21 rfl rfl e10 ?_
      refine z_aload_n 0 d_No_crash_24 rfl rfl ?_
      by_cases c11 : zcls σ9 a5 = some 1
      · rw [if_pos c11] at h
        replace h := Option.bind_eq_some_iff.mp h; obtain ⟨_, e15, h⟩ := h
        obtain ⟨b16, f17, e15⟩ := zcls_at (zis_at e15)
        replace h := Option.bind_eq_some_iff.mp h; obtain ⟨σ12, e13, h⟩ := h
        refine z_callU (av := []) (st := []) wX_NumberOffice_145_1 e15 (t_Branch_forget hG e13) (by decide) (by decide) d_No_crash_25 (by simp [z_rfc, z_ci, z_cl, z_cr, z_cn]) ?_
        show Z _ _ _ _ _ _ 28 [(2, .ref (a5)), (0, .ref (v0)), (1, .int (v1))] [] _
        refine z_iconst (v := 1) d_No_crash_28 rfl ?_
        cases h
        exact z_zret rfl rfl rfl d_No_crash_29
      · rw [if_neg c11] at h
        replace h := Option.bind_eq_some_iff.mp h; obtain ⟨_, e21, h⟩ := h
        obtain ⟨b22, f23, e21⟩ := zcls_at (zis_at e21)
        replace h := Option.bind_eq_some_iff.mp h; obtain ⟨σ18, e19, h⟩ := h
        refine z_callU (av := []) (st := []) wX_NumberOffice_145_4 e21 (t_Office_forget hG e19) (by decide) (by decide) d_No_crash_25 (by simp [z_rfc, z_ci, z_cl, z_cr, z_cn]) ?_
        show Z _ _ _ _ _ _ 28 [(2, .ref (a5)), (0, .ref (v0)), (1, .int (v1))] [] _
        refine z_iconst (v := 1) d_No_crash_28 rfl ?_
        cases h
        exact z_zret rfl rfl rfl d_No_crash_29
    · rw [if_pos c8] at h
      refine z_lv (lv' := [(0, .ref (v0)), (1, .int (v1)), (2, va_rf (some (a5)))]) [1, 2, 0] rfl ?_
      exact t_No_crash_17 hG   h

def s_Branch_read_20 (g : zG)  (v0 : Nat) (v1 : Option Nat) (v2 : Option Nat) (σ : zS) : Option (zS) := some σ
def s_Branch_read_102 (g : zG)  (v0 : Nat) (v1 : Option Nat) (v2 : Option Nat) (v3 : Option Nat) (σ : zS) : Option (zS) := some σ
def s_Branch_read_79 (g : zG)  (v0 : Nat) (v1 : Option Nat) (v2 : Option Nat) (v3 : Option Nat) (σ : zS) : Option (zS) := match v3 with | none => s_Branch_read_102 g  (v0) (v1) (v2) (none) σ | some a2 => (v1).bind fun a3 => (zgR σ a3 6 1).bind fun x4 => match x4 with | none => s_Branch_read_102 g  (v0) (some (a3)) (v2) (some (a2)) σ | some a7 => (zgR σ a2 2 0).bind fun x8 => (zgR σ a3 6 1).bind fun x10 => (x8).bind fun a12 => (zis σ a12 3).bind fun _ => (s_ArrayList_add g a12 x10 σ).bind fun (x15, σ13) => s_Branch_read_102 g  (v0) (some (a3)) (v2) (some (a2)) σ13
def s_Branch_read (g : zG) (v0 : Nat) (v1 : Option Nat) (σ : zS) : Option (zS) := (zis σ v0 1).bind fun _ => (s_Branch_unanswered g v0  σ).bind fun (x3, σ1) => match x3 with | none => s_Branch_read_20 g  (v0) (v1) (none) σ1 | some a5 => (v1).bind fun a6 => (zgI σ1 a6 6 4).bind fun x7 => (zgI σ1 a5 9 5).bind fun x9 => if x7 = x9 then (zpF σ1 v0 1 3 (.int (0))).bind fun σ12 => (zgI σ12 a5 9 0).bind fun x14 => (zis σ12 v0 1).bind fun _ => (s_Branch_bookAt g v0 x14 σ12).bind fun (x18, σ16) => (zgI σ16 a6 6 0).bind fun x19 => if x19 = 0 then match x18 with | none => s_Branch_read_79 g  (v0) (some (a6)) (some (a5)) (none) σ16 | some a23 => (zgI σ16 a5 9 3).bind fun x24 => if x24 = 2 then (zgI σ16 a23 2 4).bind fun x27 => (zgR σ16 a5 9 2).bind fun x29 => (x29).bind fun a31 => (zal σ16 a31 11).bind fun x32 => (zpF σ16 a23 2 4 (.int (x27 + x32))).bind fun σ34 => s_Branch_read_102 g  (v0) (some (a6)) (some (a5)) (some (a23)) σ34 else s_Branch_read_79 g  (v0) (some (a6)) (some (a5)) (some (a23)) σ16 else (zpF σ16 v0 1 4 (.int (1))).bind fun σ36 => s_Branch_read_102 g  (v0) (some (a6)) (some (a5)) (x18) σ36 else s_Branch_read_20 g  (v0) (some (a6)) (some (a5)) σ1
set_option maxRecDepth 100000 in
theorem t_Branch_read_20 {l : Launch} {D : zD} {g : zG} (hG : zGok g D) {q : zS}   {v0 : Nat} {v1 : Option Nat} {v2 : Option Nat} {σ : zS} (h : s_Branch_read_20 g  v0 v1 v2 σ = some q) : Z l D K_Branch_read 7 155 (.returned none, q) 20 [(0, .ref (v0)), (1, va_rf (v1)), (2, va_rf (v2))] [] σ := by
  unfold s_Branch_read_20 at h
  cases h
  exact z_vret rfl rfl d_Branch_read_20
set_option maxRecDepth 100000 in
theorem t_Branch_read_102 {l : Launch} {D : zD} {g : zG} (hG : zGok g D) {q : zS}   {v0 : Nat} {v1 : Option Nat} {v2 : Option Nat} {v3 : Option Nat} {σ : zS} (h : s_Branch_read_102 g  v0 v1 v2 v3 σ = some q) : Z l D K_Branch_read 7 155 (.returned none, q) 102 [(0, .ref (v0)), (1, va_rf (v1)), (2, va_rf (v2)), (3, va_rf (v3))] [] σ := by
  unfold s_Branch_read_102 at h
  cases h
  exact z_vret rfl rfl d_Branch_read_102
set_option maxRecDepth 100000 in
theorem t_Branch_read_79 {l : Launch} {D : zD} {g : zG} (hG : zGok g D) {q : zS}   {v0 : Nat} {v1 : Option Nat} {v2 : Option Nat} {v3 : Option Nat} {σ : zS} (h : s_Branch_read_79 g  v0 v1 v2 v3 σ = some q) : Z l D K_Branch_read 7 155 (.returned none, q) 79 [(0, .ref (v0)), (1, va_rf (v1)), (2, va_rf (v2)), (3, va_rf (v3))] [] σ := by
  unfold s_Branch_read_79 at h
  refine z_aload_nR 3 d_Branch_read_79 rfl rfl ?_
  refine z_ifnull (tgt := 102) d_Branch_read_80 rfl (fun c1 => ?_) (fun a2 c1 => ?_)
  · subst c1
    dsimp only at h
    refine z_lv (lv' := [(0, .ref (v0)), (1, va_rf (v1)), (2, va_rf (v2)), (3, va_rf (none))]) [0, 1, 2, 3] rfl ?_
    exact t_Branch_read_102 hG   h
  · subst c1
    dsimp only at h
    refine z_aload_nR 1 d_Branch_read_83 rfl rfl ?_
    replace h := Option.bind_eq_some_iff.mp h; obtain ⟨a3, rfl, h⟩ := h
    replace h := Option.bind_eq_some_iff.mp h; obtain ⟨x4, e5, h⟩ := h
    refine z_getR wF_NumberOffice_Branch_78_6 d_Branch_read_84 e5 ?_
    refine z_ifnull (tgt := 102) d_Branch_read_87 rfl (fun c6 => ?_) (fun a7 c6 => ?_)
    · subst c6
      dsimp only at h
      refine z_lv (lv' := [(0, .ref (v0)), (1, va_rf (some (a3))), (2, va_rf (v2)), (3, va_rf (some (a2)))]) [0, 1, 2, 3] rfl ?_
      exact t_Branch_read_102 hG   h
    · subst c6
      dsimp only at h
      refine z_aload_n 3 d_Branch_read_90 rfl rfl ?_
      replace h := Option.bind_eq_some_iff.mp h; obtain ⟨x8, e9, h⟩ := h
      refine z_getR wF_NumberOffice_Branch_82_2 d_Branch_read_91 e9 ?_
      refine z_aload_n 1 d_Branch_read_94 rfl rfl ?_
      replace h := Option.bind_eq_some_iff.mp h; obtain ⟨x10, e11, h⟩ := h
      refine z_getR wF_NumberOffice_Branch_78_6 d_Branch_read_95 e11 ?_
      replace h := Option.bind_eq_some_iff.mp h; obtain ⟨a12, rfl, h⟩ := h
      replace h := Option.bind_eq_some_iff.mp h; obtain ⟨_, e16, h⟩ := h
      obtain ⟨b17, f18, e16⟩ := zcls_at (zis_at e16)
      replace h := Option.bind_eq_some_iff.mp h; obtain ⟨⟨x15, σ13⟩, e14, h⟩ := h
      dsimp only at h
      refine z_callV (av := [va_rf (x10)]) (st := []) wV_NumberOffice_Branch_86 e16 (t_ArrayList_add hG e14) (by decide) (by decide) d_Branch_read_98 (by simp [z_rfc, z_ci, z_cl, z_cr, z_cn]) ?_
      show Z _ _ _ _ _ _ 101 [(0, .ref (v0)), (1, .ref (a3)), (2, va_rf (v2)), (3, .ref (a2))] [.int (x15)] _
      refine z_pop d_Branch_read_101 rfl ?_
      refine z_lv (lv' := [(0, .ref (v0)), (1, va_rf (some (a3))), (2, va_rf (v2)), (3, va_rf (some (a2)))]) [0, 1, 2, 3] rfl ?_
      exact t_Branch_read_102 hG   h
set_option maxRecDepth 100000 in
theorem t_Branch_read {l : Launch} {D : zD} {g : zG} (hG : zGok g D) {v0 : Nat} {v1 : Option Nat} {σ : zS} {q : zS} (h : s_Branch_read g v0 v1 σ = some q) : zMet l D Y_Branch_read K_Branch_read 7 155 [.ref (v0), va_rf (v1)] σ (.returned none, q) := by
  refine zMet.ofZ (by decide) rfl (fun q => by cases q) (by simp [lg_sl, z_rfc, z_ci, z_cl, z_cr, z_cn]) ?_
  rw [show lv_args 0 ([.ref (v0), va_rf (v1)] : List Value) = [(0, .ref (v0)), (1, va_rf (v1))] from by simp [lv_args, z_rfc, z_ci, z_cl, z_cr, z_cn]]
  unfold s_Branch_read at h
  refine z_aload_n 0 d_Branch_read_0 rfl rfl ?_
  replace h := Option.bind_eq_some_iff.mp h; obtain ⟨_, e41, h⟩ := h
  obtain ⟨b42, f43, e41⟩ := zcls_at (zis_at e41)
  replace h := Option.bind_eq_some_iff.mp h; obtain ⟨⟨x3, σ1⟩, e2, h⟩ := h
  dsimp only at h
  refine z_callV (av := []) (st := []) wV_NumberOffice_Branch_51 e41 (t_Branch_unanswered hG e2) (by decide) (by decide) d_Branch_read_1 (by simp [z_rfc, z_ci, z_cl, z_cr, z_cn]) ?_
  show Z _ _ _ _ _ _ 4 [(0, .ref (v0)), (1, va_rf (v1))] [va_rf (x3)] _
  refine z_astore_nR (j := 2) (lv' := [(2, va_rf (x3)), (0, .ref (v0)), (1, va_rf (v1))]) d_Branch_read_4 rfl (by decide) (by simp [z_rfc, z_ci, z_cl, z_cr, z_cn] <;> rfl) ?_
  refine z_aload_nR 0 d_Branch_read_5 rfl rfl ?_
  refine z_ifnull (tgt := 20) d_Branch_read_6 rfl (fun c4 => ?_) (fun a5 c4 => ?_)
  · subst c4
    dsimp only at h
    refine z_lv (lv' := [(0, .ref (v0)), (1, va_rf (v1)), (2, va_rf (none))]) [1, 2, 0] rfl ?_
    exact t_Branch_read_20 hG   h
  · subst c4
    dsimp only at h
    refine z_aload_nR 2 d_Branch_read_9 rfl rfl ?_
    replace h := Option.bind_eq_some_iff.mp h; obtain ⟨a6, rfl, h⟩ := h
    replace h := Option.bind_eq_some_iff.mp h; obtain ⟨x7, e8, h⟩ := h
    refine z_getI wF_NumberOffice_Branch_55_6 d_Branch_read_10 e8 ?_
    refine z_aload_n 0 d_Branch_read_13 rfl rfl ?_
    replace h := Option.bind_eq_some_iff.mp h; obtain ⟨x9, e10, h⟩ := h
    refine z_getI wF_NumberOffice_Branch_48_9 d_Branch_read_14 e10 ?_
    refine z_icmp_eq (tgt := 21) d_Branch_read_17 rfl (fun c11 => ?_) (fun c11 => ?_)
    · rw [if_pos c11] at h
      refine z_aload_n 1 d_Branch_read_21 rfl rfl ?_
      refine z_iconst (v := 0) d_Branch_read_22 rfl ?_
      replace h := Option.bind_eq_some_iff.mp h; obtain ⟨σ12, e13, h⟩ := h
      refine z_put wP_NumberOffice_Branch_32_1 (fun q => by cases q) d_Branch_read_23 rfl rfl e13 ?_
      refine z_aload_n 1 d_Branch_read_26 rfl rfl ?_
      refine z_aload_n 0 d_Branch_read_27 rfl rfl ?_
      replace h := Option.bind_eq_some_iff.mp h; obtain ⟨x14, e15, h⟩ := h
      refine z_getI wF_NumberOffice_Branch_58_9 d_Branch_read_28 e15 ?_
      replace h := Option.bind_eq_some_iff.mp h; obtain ⟨_, e38, h⟩ := h
      obtain ⟨b39, f40, e38⟩ := zcls_at (zis_at e38)
      replace h := Option.bind_eq_some_iff.mp h; obtain ⟨⟨x18, σ16⟩, e17, h⟩ := h
      dsimp only at h
      refine z_callV (av := [.int (x14)]) (st := []) wV_NumberOffice_Branch_61 e38 (t_Branch_bookAt hG e17) (by decide) (by decide) d_Branch_read_31 (by simp [z_rfc, z_ci, z_cl, z_cr, z_cn]) ?_
      show Z _ _ _ _ _ _ 34 [(2, .ref (a5)), (0, .ref (v0)), (1, .ref (a6))] [va_rf (x18)] _
      refine z_astore_nR (j := 3) (lv' := [(3, va_rf (x18)), (2, .ref (a5)), (0, .ref (v0)), (1, .ref (a6))]) d_Branch_read_34 rfl (by decide) rfl ?_
      refine z_aload_n 3 d_Branch_read_35 rfl rfl ?_
      replace h := Option.bind_eq_some_iff.mp h; obtain ⟨x19, e20, h⟩ := h
      refine z_getI wF_NumberOffice_Branch_65_6 d_Branch_read_36 e20 ?_
      refine z_if_eq (tgt := 50) d_Branch_read_39 rfl (fun c21 => ?_) (fun c21 => ?_)
      · rw [if_pos c21] at h
        refine z_aload_nR 0 d_Branch_read_50 rfl rfl ?_
        refine z_ifnull (tgt := 79) d_Branch_read_51 rfl (fun c22 => ?_) (fun a23 c22 => ?_)
        · subst c22
          dsimp only at h
          refine z_lv (lv' := [(0, .ref (v0)), (1, va_rf (some (a6))), (2, va_rf (some (a5))), (3, va_rf (none))]) [2, 3, 1, 0] rfl ?_
          exact t_Branch_read_79 hG   h
        · subst c22
          dsimp only at h
          refine z_aload_n 1 d_Branch_read_54 rfl rfl ?_
          replace h := Option.bind_eq_some_iff.mp h; obtain ⟨x24, e25, h⟩ := h
          refine z_getI wF_NumberOffice_Branch_68_9 d_Branch_read_55 e25 ?_
          refine z_iconst (v := 2) d_Branch_read_58 rfl ?_
          refine z_icmp_ne (tgt := 79) d_Branch_read_59 rfl (fun c26 => ?_) (fun c26 => ?_)
          · rw [if_neg c26] at h
            refine z_lv (lv' := [(0, .ref (v0)), (1, va_rf (some (a6))), (2, va_rf (some (a5))), (3, va_rf (some (a23)))]) [2, 3, 1, 0] rfl ?_
            exact t_Branch_read_79 hG   h
          · rw [if_pos c26] at h
            refine z_aload_n 0 d_Branch_read_62 rfl rfl ?_
            refine z_dup d_Branch_read_63 rfl ?_
            replace h := Option.bind_eq_some_iff.mp h; obtain ⟨x27, e28, h⟩ := h
            refine z_getI wF_NumberOffice_Branch_71_2 d_Branch_read_64 e28 ?_
            refine z_aload_n 1 d_Branch_read_67 rfl rfl ?_
            replace h := Option.bind_eq_some_iff.mp h; obtain ⟨x29, e30, h⟩ := h
            refine z_getR wF_NumberOffice_Branch_74_9 d_Branch_read_68 e30 ?_
            replace h := Option.bind_eq_some_iff.mp h; obtain ⟨a31, rfl, h⟩ := h
            replace h := Option.bind_eq_some_iff.mp h; obtain ⟨x32, e33, h⟩ := h
            refine z_alen (t := 11) rfl d_Branch_read_71 e33 ?_
            refine z_iadd d_Branch_read_72 ?_
            replace h := Option.bind_eq_some_iff.mp h; obtain ⟨σ34, e35, h⟩ := h
            refine z_put wP_NumberOffice_Branch_71_2 (fun q => by cases q) d_Branch_read_73 rfl rfl e35 ?_
            refine z_goto (tgt := 102) d_Branch_read_76 rfl ?_
            refine z_lv (lv' := [(0, .ref (v0)), (1, va_rf (some (a6))), (2, va_rf (some (a5))), (3, va_rf (some (a23)))]) [2, 3, 1, 0] rfl ?_
            exact t_Branch_read_102 hG   h
      · rw [if_neg c21] at h
        refine z_aload_n 2 d_Branch_read_42 rfl rfl ?_
        refine z_iconst (v := 1) d_Branch_read_43 rfl ?_
        replace h := Option.bind_eq_some_iff.mp h; obtain ⟨σ36, e37, h⟩ := h
        refine z_put wP_NumberOffice_Branch_39_1 (fun q => by cases q) d_Branch_read_44 rfl rfl e37 ?_
        refine z_goto (tgt := 102) d_Branch_read_47 rfl ?_
        refine z_lv (lv' := [(0, .ref (v0)), (1, va_rf (some (a6))), (2, va_rf (some (a5))), (3, va_rf (x18))]) [2, 3, 1, 0] rfl ?_
        exact t_Branch_read_102 hG   h
    · rw [if_neg c11] at h
      refine z_lv (lv' := [(0, .ref (v0)), (1, va_rf (some (a6))), (2, va_rf (some (a5)))]) [1, 2, 0] rfl ?_
      exact t_Branch_read_20 hG   h

def s_BranchSeries_addEvent (g : zG) (v0 : Nat) (v1 : Int32) (v2 : Int32) (v3 : Int64) (v5 : Int32) (σ : zS) : Option (zS) := (zgR σ v0 2 1).bind fun x1 => (some (znew σ 4 (.inr (10, [.int 0, .int 0, .long 0, .int 0])))).bind fun σ3 => (s_Event_init g (σ.1) v1 v2 v3 v5 σ3).bind fun σ4 => (x1).bind fun a7 => (zis σ4 a7 3).bind fun _ => (s_ArrayList_add g a7 (some (σ.1)) σ4).bind fun (x10, σ8) => some σ8
set_option maxRecDepth 100000 in
theorem t_BranchSeries_addEvent {l : Launch} {D : zD} {g : zG} (hG : zGok g D) {v0 : Nat} {v1 : Int32} {v2 : Int32} {v3 : Int64} {v5 : Int32} {σ : zS} {q : zS} (h : s_BranchSeries_addEvent g v0 v1 v2 v3 v5 σ = some q) : zMet l D Y_BranchSeries_addEvent K_BranchSeries_addEvent 7 155 [.ref (v0), .int (v1), .int (v2), .long (v3), .int (v5)] σ (.returned none, q) := by
  refine zMet.ofZ (by decide) rfl (fun q => by cases q) (Nat.le_of_ble_eq_true rfl) ?_
  show Z _ _ _ _ _ _ 0 [(0, .ref (v0)), (1, .int (v1)), (2, .int (v2)), (3, .long (v3)), (5, .int (v5))] [] _
  unfold s_BranchSeries_addEvent at h
  refine z_aload_n 0 d_BranchSeries_addEvent_0 rfl rfl ?_
  replace h := Option.bind_eq_some_iff.mp h; obtain ⟨x1, e2, h⟩ := h
  refine z_getR wF_NumberOffice_BranchSeries_18_2 d_BranchSeries_addEvent_1 e2 ?_
  replace h := Option.bind_eq_some_iff.mp h; obtain ⟨σ3, e3, h⟩ := h
  refine z_new wN_NumberOffice_BranchSeries_54 d_BranchSeries_addEvent_4 ?_
  rw [Option.some.inj e3]
  refine z_dup d_BranchSeries_addEvent_7 rfl ?_
  refine z_iload_n 1 d_BranchSeries_addEvent_8 rfl rfl ?_
  refine z_iload_n 2 d_BranchSeries_addEvent_9 rfl rfl ?_
  refine z_lload_n 3 d_BranchSeries_addEvent_10 rfl rfl ?_
  refine z_iload 4 d_BranchSeries_addEvent_11 rfl ?_
  replace h := Option.bind_eq_some_iff.mp h; obtain ⟨σ4, e5, h⟩ := h
  refine z_callI (av := [.int (v1), .int (v2), .long (v3), .int (v5)]) (st := [.ref (σ.1), va_rf (x1)]) wI_NumberOffice_BranchSeries_56 (t_Event_init hG e5) (by decide) (by decide) d_BranchSeries_addEvent_13 (by simp [z_rfc, z_ci, z_cl, z_cr, z_cn]) ?_
  show Z _ _ _ _ _ _ 16 [(0, .ref (v0)), (1, .int (v1)), (2, .int (v2)), (3, .long (v3)), (5, .int (v5))] [.ref (σ.1), va_rf (x1)] _
  replace h := Option.bind_eq_some_iff.mp h; obtain ⟨a7, rfl, h⟩ := h
  replace h := Option.bind_eq_some_iff.mp h; obtain ⟨_, e11, h⟩ := h
  obtain ⟨b12, f13, e11⟩ := zcls_at (zis_at e11)
  replace h := Option.bind_eq_some_iff.mp h; obtain ⟨⟨x10, σ8⟩, e9, h⟩ := h
  dsimp only at h
  refine z_callV (av := [va_rf (some (σ.1))]) (st := []) wV_NumberOffice_BranchSeries_59 e11 (t_ArrayList_add hG e9) (by decide) (by decide) d_BranchSeries_addEvent_16 (by simp [z_rfc, z_ci, z_cl, z_cr, z_cn]) ?_
  show Z _ _ _ _ _ _ 19 [(0, .ref (v0)), (1, .int (v1)), (2, .int (v2)), (3, .long (v3)), (5, .int (v5))] [.int (x10)] _
  refine z_pop d_BranchSeries_addEvent_19 rfl ?_
  cases h
  exact z_vret rfl rfl d_BranchSeries_addEvent_20

def s_No_voidUsed_50 (g : zG)  (v0 : Nat) (v1 : Int32) (v2 : Int32) (v3 : Int32) (v4 : Int32) (v5 : Option Nat) (v6 : Option Nat) (σ : zS) : Option ((Int32 ⊕ Nat) × zS) := some (.inl 0, σ)
def s_No_voidUsed (g : zG) (v0 : Nat) (v1 : Int32) (v2 : Int32) (v3 : Int32) (v4 : Int32) (σ : zS) : Option ((Int32 ⊕ Nat) × zS) := (zis σ v0 0).bind fun _ => (s_No_branchAt g v0 v1 σ).bind fun (x3, σ1) => match x3 with | none => some (.inl 0, σ1) | some a5 => (s_No_requireUp g (some (a5)) σ1).bind fun (x8, σ6) => match x8 with | .inl _ => ((zis σ6 a5 1).bind fun _ => (s_Branch_bookAt g a5 v2 σ6).bind fun (x13, σ11) => match x13 with | none => s_No_voidUsed_50 g  (v0) (v1) (v2) (v3) (v4) (some (a5)) (none) σ11 | some a15 => (s_No_isReason g v4 σ11).bind fun (x18, σ16) => if x18 = 0 then s_No_voidUsed_50 g  (v0) (v1) (v2) (v3) (v4) (some (a5)) (some (a15)) σ16 else (zis σ16 a15 2).bind fun _ => (s_BranchSeries_fateOf g a15 v3 σ16).bind fun (x22, σ20) => if x22 = 2 then (zis σ20 a15 2).bind fun _ => (s_BranchSeries_addEvent g a15 v3 0 0 v4 σ20).bind fun σ24 => some (.inl 1, σ24) else s_No_voidUsed_50 g  (v0) (v1) (v2) (v3) (v4) (some (a5)) (some (a15)) σ20) | .inr a10 => (some (.inr a10, σ6))
set_option maxRecDepth 100000 in
theorem t_No_voidUsed_50 {l : Launch} {D : zD} {g : zG} (hG : zGok g D) (hl : zLo l) {q : (Int32 ⊕ Nat) × zS}   {v0 : Nat} {v1 : Int32} {v2 : Int32} {v3 : Int32} {v4 : Int32} {v5 : Option Nat} {v6 : Option Nat} {σ : zS} (h : s_No_voidUsed_50 g  v0 v1 v2 v3 v4 v5 v6 σ = some q) : Z l D K_No_voidUsed 8 180 (zoI q.1, q.2) 50 [(0, .ref (v0)), (1, .int (v1)), (2, .int (v2)), (3, .int (v3)), (4, .int (v4)), (5, va_rf (v5)), (6, va_rf (v6))] [] σ := by
  unfold s_No_voidUsed_50 at h
  refine z_iconst (v := 0) d_No_voidUsed_50 rfl ?_
  cases h
  exact z_zret rfl rfl rfl d_No_voidUsed_51
set_option maxRecDepth 100000 in
theorem t_No_voidUsed {l : Launch} {D : zD} {g : zG} (hG : zGok g D) (hl : zLo l) {v0 : Nat} {v1 : Int32} {v2 : Int32} {v3 : Int32} {v4 : Int32} {σ : zS} {q : (Int32 ⊕ Nat) × zS} (h : s_No_voidUsed g v0 v1 v2 v3 v4 σ = some q) : zMet l D Y_No_voidUsed K_No_voidUsed 8 180 [.ref (v0), .int (v1), .int (v2), .int (v3), .int (v4)] σ (zoI q.1, q.2) := by
  refine zMet.ofZ (by decide) rfl (fun q => by cases q) (Nat.le_of_ble_eq_true rfl) ?_
  show Z _ _ _ _ _ _ 0 [(0, .ref (v0)), (1, .int (v1)), (2, .int (v2)), (3, .int (v3)), (4, .int (v4))] [] _
  unfold s_No_voidUsed at h
  refine z_aload_n 0 d_No_voidUsed_0 rfl rfl ?_
  refine z_iload_n 1 d_No_voidUsed_1 rfl rfl ?_
  replace h := Option.bind_eq_some_iff.mp h; obtain ⟨_, e36, h⟩ := h
  obtain ⟨b37, f38, e36⟩ := zcls_at (zis_at e36)
  replace h := Option.bind_eq_some_iff.mp h; obtain ⟨⟨x3, σ1⟩, e2, h⟩ := h
  dsimp only at h
  refine z_callV (av := [.int (v1)]) (st := []) wV_NumberOffice_55 e36 (t_No_branchAt hG e2) (by decide) (by decide) d_No_voidUsed_2 (by simp [z_rfc, z_ci, z_cl, z_cr, z_cn]) ?_
  show Z _ _ _ _ _ _ 5 [(0, .ref (v0)), (1, .int (v1)), (2, .int (v2)), (3, .int (v3)), (4, .int (v4))] [va_rf (x3)] _
  refine z_astoreR (j := 5) (lv' := [(5, va_rf (x3)), (0, .ref (v0)), (1, .int (v1)), (2, .int (v2)), (3, .int (v3)), (4, .int (v4))]) d_No_voidUsed_5 (by decide) rfl ?_
  refine z_aloadR 0 d_No_voidUsed_7 rfl ?_
  refine z_ifnonnull (tgt := 14) d_No_voidUsed_9 rfl (fun a5 c4 => ?_) (fun c4 => ?_)
  · subst c4
    dsimp only at h
    refine z_aload 0 d_No_voidUsed_14 rfl ?_
    replace h := Option.bind_eq_some_iff.mp h; obtain ⟨⟨x8, σ6⟩, e7, h⟩ := h
    dsimp only at h
    rcases x8 with _ | a10
    · dsimp only at h
      refine z_callS (av := [va_rf (some (a5))]) (st := []) wS_NumberOffice_41 (t_No_requireUp hG hl e7) (by decide) (by decide) d_No_voidUsed_16 (by simp [z_rfc, z_ci, z_cl, z_cr, z_cn]) ?_
      show Z _ _ _ _ _ _ 19 [(5, .ref (a5)), (0, .ref (v0)), (1, .int (v1)), (2, .int (v2)), (3, .int (v3)), (4, .int (v4))] [] _
      refine z_aload 0 d_No_voidUsed_19 rfl ?_
      refine z_iload_n 3 d_No_voidUsed_21 rfl rfl ?_
      replace h := Option.bind_eq_some_iff.mp h; obtain ⟨_, e33, h⟩ := h
      obtain ⟨b34, f35, e33⟩ := zcls_at (zis_at e33)
      replace h := Option.bind_eq_some_iff.mp h; obtain ⟨⟨x13, σ11⟩, e12, h⟩ := h
      dsimp only at h
      refine z_callV (av := [.int (v2)]) (st := []) wV_NumberOffice_59 e33 (t_Branch_bookAt hG e12) (by decide) (by decide) d_No_voidUsed_22 (by simp [z_rfc, z_ci, z_cl, z_cr, z_cn]) ?_
      show Z _ _ _ _ _ _ 25 [(5, .ref (a5)), (0, .ref (v0)), (1, .int (v1)), (2, .int (v2)), (3, .int (v3)), (4, .int (v4))] [va_rf (x13)] _
      refine z_astoreR (j := 6) (lv' := [(6, va_rf (x13)), (5, .ref (a5)), (0, .ref (v0)), (1, .int (v1)), (2, .int (v2)), (3, .int (v3)), (4, .int (v4))]) d_No_voidUsed_25 (by decide) rfl ?_
      refine z_aloadR 0 d_No_voidUsed_27 rfl ?_
      refine z_ifnull (tgt := 50) d_No_voidUsed_29 rfl (fun c14 => ?_) (fun a15 c14 => ?_)
      · subst c14
        dsimp only at h
        refine z_lv (lv' := [(0, .ref (v0)), (1, .int (v1)), (2, .int (v2)), (3, .int (v3)), (4, .int (v4)), (5, va_rf (some (a5))), (6, va_rf (none))]) [2, 3, 4, 5, 6, 1, 0] rfl ?_
        exact t_No_voidUsed_50 hG hl   h
      · subst c14
        dsimp only at h
        refine z_iload 6 d_No_voidUsed_32 rfl ?_
        replace h := Option.bind_eq_some_iff.mp h; obtain ⟨⟨x18, σ16⟩, e17, h⟩ := h
        dsimp only at h
        refine z_callS (av := [.int (v4)]) (st := []) wS_NumberOffice_114 (t_No_isReason hG e17) (by decide) (by decide) d_No_voidUsed_34 (by simp [z_rfc, z_ci, z_cl, z_cr, z_cn]) ?_
        show Z _ _ _ _ _ _ 37 [(6, .ref (a15)), (5, .ref (a5)), (0, .ref (v0)), (1, .int (v1)), (2, .int (v2)), (3, .int (v3)), (4, .int (v4))] [.int (x18)] _
        refine z_if_eq (tgt := 50) d_No_voidUsed_37 rfl (fun c19 => ?_) (fun c19 => ?_)
        · rw [if_pos c19] at h
          refine z_lv (lv' := [(0, .ref (v0)), (1, .int (v1)), (2, .int (v2)), (3, .int (v3)), (4, .int (v4)), (5, va_rf (some (a5))), (6, va_rf (some (a15)))]) [2, 3, 4, 5, 6, 1, 0] rfl ?_
          exact t_No_voidUsed_50 hG hl   h
        · rw [if_neg c19] at h
          refine z_aload 0 d_No_voidUsed_40 rfl ?_
          refine z_iload_n 5 d_No_voidUsed_42 rfl rfl ?_
          replace h := Option.bind_eq_some_iff.mp h; obtain ⟨_, e30, h⟩ := h
          obtain ⟨b31, f32, e30⟩ := zcls_at (zis_at e30)
          replace h := Option.bind_eq_some_iff.mp h; obtain ⟨⟨x22, σ20⟩, e21, h⟩ := h
          dsimp only at h
          refine z_callV (av := [.int (v3)]) (st := []) wV_NumberOffice_117 e30 (t_BranchSeries_fateOf hG e21) (by decide) (by decide) d_No_voidUsed_43 (by simp [z_rfc, z_ci, z_cl, z_cr, z_cn]) ?_
          show Z _ _ _ _ _ _ 46 [(6, .ref (a15)), (5, .ref (a5)), (0, .ref (v0)), (1, .int (v1)), (2, .int (v2)), (3, .int (v3)), (4, .int (v4))] [.int (x22)] _
          refine z_iconst (v := 2) d_No_voidUsed_46 rfl ?_
          refine z_icmp_eq (tgt := 52) d_No_voidUsed_47 rfl (fun c23 => ?_) (fun c23 => ?_)
          · rw [if_pos c23] at h
            refine z_aload 0 d_No_voidUsed_52 rfl ?_
            refine z_iload_n 5 d_No_voidUsed_54 rfl rfl ?_
            refine z_iconst (v := 0) d_No_voidUsed_55 rfl ?_
            refine z_lconst (v := 0) d_No_voidUsed_56 rfl ?_
            refine z_iload 6 d_No_voidUsed_57 rfl ?_
            replace h := Option.bind_eq_some_iff.mp h; obtain ⟨_, e27, h⟩ := h
            obtain ⟨b28, f29, e27⟩ := zcls_at (zis_at e27)
            replace h := Option.bind_eq_some_iff.mp h; obtain ⟨σ24, e25, h⟩ := h
            refine z_callV (av := [.int (v3), .int (0), .long (0), .int (v4)]) (st := []) wV_NumberOffice_121 e27 (t_BranchSeries_addEvent hG e25) (by decide) (by decide) d_No_voidUsed_59 (by simp [z_rfc, z_ci, z_cl, z_cr, z_cn]) ?_
            show Z _ _ _ _ _ _ 62 [(6, .ref (a15)), (5, .ref (a5)), (0, .ref (v0)), (1, .int (v1)), (2, .int (v2)), (3, .int (v3)), (4, .int (v4))] [] _
            refine z_iconst (v := 1) d_No_voidUsed_62 rfl ?_
            cases h
            exact z_zret rfl rfl rfl d_No_voidUsed_63
          · rw [if_neg c23] at h
            refine z_lv (lv' := [(0, .ref (v0)), (1, .int (v1)), (2, .int (v2)), (3, .int (v3)), (4, .int (v4)), (5, va_rf (some (a5))), (6, va_rf (some (a15)))]) [2, 3, 4, 5, 6, 1, 0] rfl ?_
            exact t_No_voidUsed_50 hG hl   h
    · dsimp only at h
      cases h
      refine z_callS_t (a := a10) (av := [va_rf (some (a5))]) (st := []) wS_NumberOffice_41 (t_No_requireUp hG hl e7) (by decide) (by decide) d_No_voidUsed_16 (by simp [z_rfc, z_ci, z_cl, z_cr, z_cn]) ?_
      exact zt_out rfl rfl
  · subst c4
    dsimp only at h
    refine z_iconst (v := 0) d_No_voidUsed_12 rfl ?_
    cases h
    exact z_zret rfl rfl rfl d_No_voidUsed_13

def s_No_send (g : zG) (v0 : Nat) (v1 : Option Nat) (σ : zS) : Option (Int32 × zS) := (zgR σ v0 0 2).bind fun x1 => (x1).bind fun a3 => (zis σ a3 3).bind fun _ => (s_ArrayList_size g a3  σ).bind fun (x6, σ4) => if x6 < 64 then (zgR σ4 v0 0 2).bind fun x8 => (x8).bind fun a10 => (zis σ4 a10 3).bind fun _ => (s_ArrayList_add g a10 v1 σ4).bind fun (x13, σ11) => some (1, σ11) else some (0, σ4)
set_option maxRecDepth 100000 in
theorem t_No_send {l : Launch} {D : zD} {g : zG} (hG : zGok g D) {v0 : Nat} {v1 : Option Nat} {σ : zS} {q : Int32 × zS} (h : s_No_send g v0 v1 σ = some q) : zMet l D Y_No_send K_No_send 7 155 [.ref (v0), va_rf (v1)] σ (.returned (some (.int q.1)), q.2) := by
  refine zMet.ofZ (by decide) rfl (fun q => by cases q) (by simp [lg_sl, z_rfc, z_ci, z_cl, z_cr, z_cn]) ?_
  rw [show lv_args 0 ([.ref (v0), va_rf (v1)] : List Value) = [(0, .ref (v0)), (1, va_rf (v1))] from by simp [lv_args, z_rfc, z_ci, z_cl, z_cr, z_cn]]
  unfold s_No_send at h
  refine z_aload_n 0 d_No_send_0 rfl rfl ?_
  replace h := Option.bind_eq_some_iff.mp h; obtain ⟨x1, e2, h⟩ := h
  refine z_getR wF_NumberOffice_37_0 d_No_send_1 e2 ?_
  replace h := Option.bind_eq_some_iff.mp h; obtain ⟨a3, rfl, h⟩ := h
  replace h := Option.bind_eq_some_iff.mp h; obtain ⟨_, e17, h⟩ := h
  obtain ⟨b18, f19, e17⟩ := zcls_at (zis_at e17)
  replace h := Option.bind_eq_some_iff.mp h; obtain ⟨⟨x6, σ4⟩, e5, h⟩ := h
  dsimp only at h
  refine z_callV (av := []) (st := []) wV_NumberOffice_149 e17 (t_ArrayList_size hG e5) (by decide) (by decide) d_No_send_4 (by simp [z_rfc, z_ci, z_cl, z_cr, z_cn]) ?_
  show Z _ _ _ _ _ _ 7 [(0, .ref (v0)), (1, va_rf (v1))] [.int (x6)] _
  refine z_bipush (v := 64) d_No_send_7 rfl ?_
  refine z_icmp_lt (tgt := 14) d_No_send_9 rfl (fun c7 => ?_) (fun c7 => ?_)
  · rw [if_pos c7] at h
    refine z_aload_n 0 d_No_send_14 rfl rfl ?_
    replace h := Option.bind_eq_some_iff.mp h; obtain ⟨x8, e9, h⟩ := h
    refine z_getR wF_NumberOffice_37_0 d_No_send_15 e9 ?_
    refine z_aload_nR 1 d_No_send_18 rfl rfl ?_
    replace h := Option.bind_eq_some_iff.mp h; obtain ⟨a10, rfl, h⟩ := h
    replace h := Option.bind_eq_some_iff.mp h; obtain ⟨_, e14, h⟩ := h
    obtain ⟨b15, f16, e14⟩ := zcls_at (zis_at e14)
    replace h := Option.bind_eq_some_iff.mp h; obtain ⟨⟨x13, σ11⟩, e12, h⟩ := h
    dsimp only at h
    refine z_callV (av := [va_rf (v1)]) (st := []) wV_NumberOffice_215 e14 (t_ArrayList_add hG e12) (by decide) (by decide) d_No_send_19 (by simp [z_rfc, z_ci, z_cl, z_cr, z_cn]) ?_
    show Z _ _ _ _ _ _ 22 [(0, .ref (v0)), (1, va_rf (v1))] [.int (x13)] _
    refine z_pop d_No_send_22 rfl ?_
    refine z_iconst (v := 1) d_No_send_23 rfl ?_
    cases h
    exact z_zret rfl rfl rfl d_No_send_24
  · rw [if_neg c7] at h
    refine z_iconst (v := 0) d_No_send_12 rfl ?_
    cases h
    exact z_zret rfl rfl rfl d_No_send_13

def s_No_bringToOffice_30 (g : zG)  (v0 : Nat) (v1 : Option Nat) (v2 : Option Nat) (σ : zS) : Option (zS) := some σ
def s_No_bringToOffice (g : zG) (v0 : Nat) (v1 : Option Nat) (σ : zS) : Option (zS) := (zgR σ v0 0 1).bind fun x1 => (x1).bind fun a3 => (zgI σ a3 4 6).bind fun x4 => if x4 = 0 then some σ else (zgR σ v0 0 1).bind fun x7 => (x7).bind fun a9 => (zis σ a9 4).bind fun _ => (s_Office_answerTo g a9 v1 σ).bind fun (x12, σ10) => match x12 with | none => s_No_bringToOffice_30 g  (v0) (v1) (none) σ10 | some a14 => (zis σ10 v0 0).bind fun _ => (s_No_send g v0 (some (a14)) σ10).bind fun (x17, σ15) => s_No_bringToOffice_30 g  (v0) (v1) (some (a14)) σ15
set_option maxRecDepth 100000 in
theorem t_No_bringToOffice_30 {l : Launch} {D : zD} {g : zG} (hG : zGok g D) {q : zS}   {v0 : Nat} {v1 : Option Nat} {v2 : Option Nat} {σ : zS} (h : s_No_bringToOffice_30 g  v0 v1 v2 σ = some q) : Z l D K_No_bringToOffice 8 176 (.returned none, q) 30 [(0, .ref (v0)), (1, va_rf (v1)), (2, va_rf (v2))] [] σ := by
  unfold s_No_bringToOffice_30 at h
  cases h
  exact z_vret rfl rfl d_No_bringToOffice_30
set_option maxRecDepth 100000 in
theorem t_No_bringToOffice {l : Launch} {D : zD} {g : zG} (hG : zGok g D) {v0 : Nat} {v1 : Option Nat} {σ : zS} {q : zS} (h : s_No_bringToOffice g v0 v1 σ = some q) : zMet l D Y_No_bringToOffice K_No_bringToOffice 8 176 [.ref (v0), va_rf (v1)] σ (.returned none, q) := by
  refine zMet.ofZ (by decide) rfl (fun q => by cases q) (by simp [lg_sl, z_rfc, z_ci, z_cl, z_cr, z_cn]) ?_
  rw [show lv_args 0 ([.ref (v0), va_rf (v1)] : List Value) = [(0, .ref (v0)), (1, va_rf (v1))] from by simp [lv_args, z_rfc, z_ci, z_cl, z_cr, z_cn]]
  unfold s_No_bringToOffice at h
  refine z_aload_n 0 d_No_bringToOffice_0 rfl rfl ?_
  replace h := Option.bind_eq_some_iff.mp h; obtain ⟨x1, e2, h⟩ := h
  refine z_getR wF_NumberOffice_30_0 d_No_bringToOffice_1 e2 ?_
  replace h := Option.bind_eq_some_iff.mp h; obtain ⟨a3, rfl, h⟩ := h
  replace h := Option.bind_eq_some_iff.mp h; obtain ⟨x4, e5, h⟩ := h
  refine z_getI wF_NumberOffice_224_4 d_No_bringToOffice_4 e5 ?_
  refine z_if_ne (tgt := 11) d_No_bringToOffice_7 rfl (fun c6 => ?_) (fun c6 => ?_)
  · rw [if_neg c6] at h
    refine z_aload_n 0 d_No_bringToOffice_11 rfl rfl ?_
    replace h := Option.bind_eq_some_iff.mp h; obtain ⟨x7, e8, h⟩ := h
    refine z_getR wF_NumberOffice_30_0 d_No_bringToOffice_12 e8 ?_
    refine z_aload_nR 1 d_No_bringToOffice_15 rfl rfl ?_
    replace h := Option.bind_eq_some_iff.mp h; obtain ⟨a9, rfl, h⟩ := h
    replace h := Option.bind_eq_some_iff.mp h; obtain ⟨_, e21, h⟩ := h
    obtain ⟨b22, f23, e21⟩ := zcls_at (zis_at e21)
    replace h := Option.bind_eq_some_iff.mp h; obtain ⟨⟨x12, σ10⟩, e11, h⟩ := h
    dsimp only at h
    refine z_callV (av := [va_rf (v1)]) (st := []) wV_NumberOffice_225 e21 (t_Office_answerTo hG e11) (by decide) (by decide) d_No_bringToOffice_16 (by simp [z_rfc, z_ci, z_cl, z_cr, z_cn]) ?_
    show Z _ _ _ _ _ _ 19 [(0, .ref (v0)), (1, va_rf (v1))] [va_rf (x12)] _
    refine z_astore_nR (j := 2) (lv' := [(2, va_rf (x12)), (0, .ref (v0)), (1, va_rf (v1))]) d_No_bringToOffice_19 rfl (by decide) (by simp [z_rfc, z_ci, z_cl, z_cr, z_cn] <;> rfl) ?_
    refine z_aload_nR 0 d_No_bringToOffice_20 rfl rfl ?_
    refine z_ifnull (tgt := 30) d_No_bringToOffice_21 rfl (fun c13 => ?_) (fun a14 c13 => ?_)
    · subst c13
      dsimp only at h
      refine z_lv (lv' := [(0, .ref (v0)), (1, va_rf (v1)), (2, va_rf (none))]) [1, 2, 0] rfl ?_
      exact t_No_bringToOffice_30 hG   h
    · subst c13
      dsimp only at h
      refine z_aload_n 1 d_No_bringToOffice_24 rfl rfl ?_
      refine z_aload_n 0 d_No_bringToOffice_25 rfl rfl ?_
      replace h := Option.bind_eq_some_iff.mp h; obtain ⟨_, e18, h⟩ := h
      obtain ⟨b19, f20, e18⟩ := zcls_at (zis_at e18)
      replace h := Option.bind_eq_some_iff.mp h; obtain ⟨⟨x17, σ15⟩, e16, h⟩ := h
      dsimp only at h
      refine z_callV (av := [va_rf (some (a14))]) (st := []) wV_NumberOffice_101 e18 (t_No_send hG e16) (by decide) (by decide) d_No_bringToOffice_26 (by simp [z_rfc, z_ci, z_cl, z_cr, z_cn]) ?_
      show Z _ _ _ _ _ _ 29 [(2, .ref (a14)), (0, .ref (v0)), (1, va_rf (v1))] [.int (x17)] _
      refine z_pop d_No_bringToOffice_29 rfl ?_
      refine z_lv (lv' := [(0, .ref (v0)), (1, va_rf (v1)), (2, va_rf (some (a14)))]) [1, 2, 0] rfl ?_
      exact t_No_bringToOffice_30 hG   h
  · rw [if_pos c6] at h
    cases h
    exact z_vret rfl rfl d_No_bringToOffice_10

def s_No_bringToBranch_25 (g : zG)  (v0 : Nat) (v1 : Option Nat) (v2 : Option Nat) (σ : zS) : Option (zS) := some σ
def s_No_bringToBranch (g : zG) (v0 : Nat) (v1 : Option Nat) (σ : zS) : Option (zS) := (v1).bind fun a1 => (zgI σ a1 6 3).bind fun x2 => (zis σ v0 0).bind fun _ => (s_No_branchAt g v0 x2 σ).bind fun (x6, σ4) => match x6 with | none => s_No_bringToBranch_25 g  (v0) (some (a1)) (none) σ4 | some a8 => (zgI σ4 a8 1 8).bind fun x9 => if x9 = 0 then s_No_bringToBranch_25 g  (v0) (some (a1)) (some (a8)) σ4 else (zis σ4 a8 1).bind fun _ => (s_Branch_read g a8 (some (a1)) σ4).bind fun σ12 => s_No_bringToBranch_25 g  (v0) (some (a1)) (some (a8)) σ12
set_option maxRecDepth 100000 in
theorem t_No_bringToBranch_25 {l : Launch} {D : zD} {g : zG} (hG : zGok g D) {q : zS}   {v0 : Nat} {v1 : Option Nat} {v2 : Option Nat} {σ : zS} (h : s_No_bringToBranch_25 g  v0 v1 v2 σ = some q) : Z l D K_No_bringToBranch 8 178 (.returned none, q) 25 [(0, .ref (v0)), (1, va_rf (v1)), (2, va_rf (v2))] [] σ := by
  unfold s_No_bringToBranch_25 at h
  cases h
  exact z_vret rfl rfl d_No_bringToBranch_25
set_option maxRecDepth 100000 in
theorem t_No_bringToBranch {l : Launch} {D : zD} {g : zG} (hG : zGok g D) {v0 : Nat} {v1 : Option Nat} {σ : zS} {q : zS} (h : s_No_bringToBranch g v0 v1 σ = some q) : zMet l D Y_No_bringToBranch K_No_bringToBranch 8 178 [.ref (v0), va_rf (v1)] σ (.returned none, q) := by
  refine zMet.ofZ (by decide) rfl (fun q => by cases q) (by simp [lg_sl, z_rfc, z_ci, z_cl, z_cr, z_cn]) ?_
  rw [show lv_args 0 ([.ref (v0), va_rf (v1)] : List Value) = [(0, .ref (v0)), (1, va_rf (v1))] from by simp [lv_args, z_rfc, z_ci, z_cl, z_cr, z_cn]]
  unfold s_No_bringToBranch at h
  refine z_aload_n 0 d_No_bringToBranch_0 rfl rfl ?_
  refine z_aload_nR 1 d_No_bringToBranch_1 rfl rfl ?_
  replace h := Option.bind_eq_some_iff.mp h; obtain ⟨a1, rfl, h⟩ := h
  replace h := Option.bind_eq_some_iff.mp h; obtain ⟨x2, e3, h⟩ := h
  refine z_getI wF_NumberOffice_229_6 d_No_bringToBranch_2 e3 ?_
  replace h := Option.bind_eq_some_iff.mp h; obtain ⟨_, e18, h⟩ := h
  obtain ⟨b19, f20, e18⟩ := zcls_at (zis_at e18)
  replace h := Option.bind_eq_some_iff.mp h; obtain ⟨⟨x6, σ4⟩, e5, h⟩ := h
  dsimp only at h
  refine z_callV (av := [.int (x2)]) (st := []) wV_NumberOffice_55 e18 (t_No_branchAt hG e5) (by decide) (by decide) d_No_bringToBranch_5 (by simp [z_rfc, z_ci, z_cl, z_cr, z_cn]) ?_
  show Z _ _ _ _ _ _ 8 [(0, .ref (v0)), (1, .ref (a1))] [va_rf (x6)] _
  refine z_astore_nR (j := 2) (lv' := [(2, va_rf (x6)), (0, .ref (v0)), (1, .ref (a1))]) d_No_bringToBranch_8 rfl (by decide) rfl ?_
  refine z_aload_nR 0 d_No_bringToBranch_9 rfl rfl ?_
  refine z_ifnull (tgt := 25) d_No_bringToBranch_10 rfl (fun c7 => ?_) (fun a8 c7 => ?_)
  · subst c7
    dsimp only at h
    refine z_lv (lv' := [(0, .ref (v0)), (1, va_rf (some (a1))), (2, va_rf (none))]) [1, 2, 0] rfl ?_
    exact t_No_bringToBranch_25 hG   h
  · subst c7
    dsimp only at h
    refine z_aload_n 0 d_No_bringToBranch_13 rfl rfl ?_
    replace h := Option.bind_eq_some_iff.mp h; obtain ⟨x9, e10, h⟩ := h
    refine z_getI wF_NumberOffice_90_1 d_No_bringToBranch_14 e10 ?_
    refine z_if_eq (tgt := 25) d_No_bringToBranch_17 rfl (fun c11 => ?_) (fun c11 => ?_)
    · rw [if_pos c11] at h
      refine z_lv (lv' := [(0, .ref (v0)), (1, va_rf (some (a1))), (2, va_rf (some (a8)))]) [1, 2, 0] rfl ?_
      exact t_No_bringToBranch_25 hG   h
    · rw [if_neg c11] at h
      refine z_aload_n 0 d_No_bringToBranch_20 rfl rfl ?_
      refine z_aload_n 2 d_No_bringToBranch_21 rfl rfl ?_
      replace h := Option.bind_eq_some_iff.mp h; obtain ⟨_, e15, h⟩ := h
      obtain ⟨b16, f17, e15⟩ := zcls_at (zis_at e15)
      replace h := Option.bind_eq_some_iff.mp h; obtain ⟨σ12, e13, h⟩ := h
      refine z_callV (av := [va_rf (some (a1))]) (st := []) wV_NumberOffice_230 e15 (t_Branch_read hG e13) (by decide) (by decide) d_No_bringToBranch_22 (by simp [z_rfc, z_ci, z_cl, z_cr, z_cn]) ?_
      show Z _ _ _ _ _ _ 25 [(2, .ref (a8)), (0, .ref (v0)), (1, .ref (a1))] [] _
      refine z_lv (lv' := [(0, .ref (v0)), (1, va_rf (some (a1))), (2, va_rf (some (a8)))]) [1, 2, 0] rfl ?_
      exact t_No_bringToBranch_25 hG   h

def s_No_twin_23 (g : zG)  (v0 : Nat) (v1 : Int32) (v2 : Option Nat) (w0 : Int32) (σ : zS) : Option (Int32 × zS) := if w0 = 0 ∨ w0 = 1 then some (w0, σ) else none
def s_No_twin_22 (g : zG)  (v0 : Nat) (v1 : Int32) (v2 : Option Nat) (σ : zS) : Option (Int32 × zS) := s_No_twin_23 g  (v0) (v1) (v2) (0) σ
def s_No_twin (g : zG) (v0 : Nat) (v1 : Int32) (σ : zS) : Option (Int32 × zS) := (zis σ v0 0).bind fun _ => (s_No_mailAt g v0 v1 σ).bind fun (x3, σ1) => match x3 with | none => s_No_twin_22 g  (v0) (v1) (none) σ1 | some a5 => (zis σ1 v0 0).bind fun _ => (s_No_send g v0 (some (a5)) σ1).bind fun (x8, σ6) => if x8 = 0 then s_No_twin_22 g  (v0) (v1) (some (a5)) σ6 else s_No_twin_23 g  (v0) (v1) (some (a5)) (1) σ6
set_option maxRecDepth 100000 in
theorem t_No_twin_23 {l : Launch} {D : zD} {g : zG} (hG : zGok g D) {q : Int32 × zS}   {v0 : Nat} {v1 : Int32} {v2 : Option Nat} {w0 : Int32} {σ : zS} (h : s_No_twin_23 g  v0 v1 v2 w0 σ = some q) : Z l D K_No_twin 8 176 (.returned (some (.int q.1)), q.2) 23 [(0, .ref (v0)), (1, .int (v1)), (2, va_rf (v2))] [.int (w0)] σ := by
  unfold s_No_twin_23 at h
  by_cases c1 : w0 = 0 ∨ w0 = 1
  rotate_left
  · rw [if_neg c1] at h; cases h
  rw [if_pos c1] at h
  cases h
  exact z_zret rfl (z_nb c1) rfl d_No_twin_23
set_option maxRecDepth 100000 in
theorem t_No_twin_22 {l : Launch} {D : zD} {g : zG} (hG : zGok g D) {q : Int32 × zS}   {v0 : Nat} {v1 : Int32} {v2 : Option Nat} {σ : zS} (h : s_No_twin_22 g  v0 v1 v2 σ = some q) : Z l D K_No_twin 8 176 (.returned (some (.int q.1)), q.2) 22 [(0, .ref (v0)), (1, .int (v1)), (2, va_rf (v2))] [] σ := by
  unfold s_No_twin_22 at h
  refine z_iconst (v := 0) d_No_twin_22 rfl ?_
  refine z_lv (lv' := [(0, .ref (v0)), (1, .int (v1)), (2, va_rf (v2))]) [0, 1, 2] rfl ?_
  exact t_No_twin_23 hG   h
set_option maxRecDepth 100000 in
theorem t_No_twin {l : Launch} {D : zD} {g : zG} (hG : zGok g D) {v0 : Nat} {v1 : Int32} {σ : zS} {q : Int32 × zS} (h : s_No_twin g v0 v1 σ = some q) : zMet l D Y_No_twin K_No_twin 8 176 [.ref (v0), .int (v1)] σ (.returned (some (.int q.1)), q.2) := by
  refine zMet.ofZ (by decide) rfl (fun q => by cases q) (Nat.le_of_ble_eq_true rfl) ?_
  show Z _ _ _ _ _ _ 0 [(0, .ref (v0)), (1, .int (v1))] [] _
  unfold s_No_twin at h
  refine z_aload_n 0 d_No_twin_0 rfl rfl ?_
  refine z_iload_n 1 d_No_twin_1 rfl rfl ?_
  replace h := Option.bind_eq_some_iff.mp h; obtain ⟨_, e13, h⟩ := h
  obtain ⟨b14, f15, e13⟩ := zcls_at (zis_at e13)
  replace h := Option.bind_eq_some_iff.mp h; obtain ⟨⟨x3, σ1⟩, e2, h⟩ := h
  dsimp only at h
  refine z_callV (av := [.int (v1)]) (st := []) wV_NumberOffice_152 e13 (t_No_mailAt hG e2) (by decide) (by decide) d_No_twin_2 (by simp [z_rfc, z_ci, z_cl, z_cr, z_cn]) ?_
  show Z _ _ _ _ _ _ 5 [(0, .ref (v0)), (1, .int (v1))] [va_rf (x3)] _
  refine z_astore_nR (j := 2) (lv' := [(2, va_rf (x3)), (0, .ref (v0)), (1, .int (v1))]) d_No_twin_5 rfl (by decide) rfl ?_
  refine z_aload_nR 0 d_No_twin_6 rfl rfl ?_
  refine z_ifnull (tgt := 22) d_No_twin_7 rfl (fun c4 => ?_) (fun a5 c4 => ?_)
  · subst c4
    dsimp only at h
    refine z_lv (lv' := [(0, .ref (v0)), (1, .int (v1)), (2, va_rf (none))]) [1, 2, 0] rfl ?_
    exact t_No_twin_22 hG   h
  · subst c4
    dsimp only at h
    refine z_aload_n 1 d_No_twin_10 rfl rfl ?_
    refine z_aload_n 0 d_No_twin_11 rfl rfl ?_
    replace h := Option.bind_eq_some_iff.mp h; obtain ⟨_, e10, h⟩ := h
    obtain ⟨b11, f12, e10⟩ := zcls_at (zis_at e10)
    replace h := Option.bind_eq_some_iff.mp h; obtain ⟨⟨x8, σ6⟩, e7, h⟩ := h
    dsimp only at h
    refine z_callV (av := [va_rf (some (a5))]) (st := []) wV_NumberOffice_101 e10 (t_No_send hG e7) (by decide) (by decide) d_No_twin_12 (by simp [z_rfc, z_ci, z_cl, z_cr, z_cn]) ?_
    show Z _ _ _ _ _ _ 15 [(2, .ref (a5)), (0, .ref (v0)), (1, .int (v1))] [.int (x8)] _
    refine z_if_eq (tgt := 22) d_No_twin_15 rfl (fun c9 => ?_) (fun c9 => ?_)
    · rw [if_pos c9] at h
      refine z_lv (lv' := [(0, .ref (v0)), (1, .int (v1)), (2, va_rf (some (a5)))]) [1, 2, 0] rfl ?_
      exact t_No_twin_22 hG   h
    · rw [if_neg c9] at h
      refine z_iconst (v := 1) d_No_twin_18 rfl ?_
      refine z_goto (tgt := 23) d_No_twin_19 rfl ?_
      refine z_lv (lv' := [(0, .ref (v0)), (1, .int (v1)), (2, va_rf (some (a5)))]) [1, 2, 0] rfl ?_
      exact t_No_twin_23 hG   h

def s_No_sendNew (g : zG) (v0 : Nat) (v1 : Option Nat) (v2 : Option Nat) (σ : zS) : Option (Int32 × zS) := (v1).bind fun a1 => (zpF σ a1 1 2 (va_rf (v2))).bind fun σ2 => (zpF σ2 a1 1 3 (.int (1))).bind fun σ4 => (zis σ4 a1 1).bind fun _ => (s_Branch_save g a1  σ4).bind fun σ6 => (zis σ6 v0 0).bind fun _ => (s_No_send g v0 v2 σ6).bind fun (x11, σ9) => (v2).bind fun a12 => (zgI σ9 a12 9 5).bind fun x13 => some (x13, σ9)
set_option maxRecDepth 100000 in
theorem t_No_sendNew {l : Launch} {D : zD} {g : zG} (hG : zGok g D) {v0 : Nat} {v1 : Option Nat} {v2 : Option Nat} {σ : zS} {q : Int32 × zS} (h : s_No_sendNew g v0 v1 v2 σ = some q) : zMet l D Y_No_sendNew K_No_sendNew 8 176 [.ref (v0), va_rf (v1), va_rf (v2)] σ (.returned (some (.int q.1)), q.2) := by
  refine zMet.ofZ (by decide) rfl (fun q => by cases q) (by simp [lg_sl, z_rfc, z_ci, z_cl, z_cr, z_cn]) ?_
  rw [show lv_args 0 ([.ref (v0), va_rf (v1), va_rf (v2)] : List Value) = [(0, .ref (v0)), (1, va_rf (v1)), (2, va_rf (v2))] from by simp [lv_args, z_rfc, z_ci, z_cl, z_cr, z_cn]]
  unfold s_No_sendNew at h
  refine z_aload_nR 1 d_No_sendNew_0 rfl rfl ?_
  refine z_aload_nR 2 d_No_sendNew_1 rfl rfl ?_
  replace h := Option.bind_eq_some_iff.mp h; obtain ⟨a1, rfl, h⟩ := h
  replace h := Option.bind_eq_some_iff.mp h; obtain ⟨σ2, e3, h⟩ := h
  refine z_put wP_NumberOffice_219_1 (fun q => by cases q) d_No_sendNew_2 (z_nr _ _) (z_fr _ _) e3 ?_
  refine z_aload_n 1 d_No_sendNew_5 rfl rfl ?_
  refine z_iconst (v := 1) d_No_sendNew_6 rfl ?_
  replace h := Option.bind_eq_some_iff.mp h; obtain ⟨σ4, e5, h⟩ := h
  refine z_put wP_NumberOffice_193_1 (fun q => by cases q) d_No_sendNew_7 rfl rfl e5 ?_
  refine z_aload_n 1 d_No_sendNew_10 rfl rfl ?_
  replace h := Option.bind_eq_some_iff.mp h; obtain ⟨_, e18, h⟩ := h
  obtain ⟨b19, f20, e18⟩ := zcls_at (zis_at e18)
  replace h := Option.bind_eq_some_iff.mp h; obtain ⟨σ6, e7, h⟩ := h
  refine z_callV (av := []) (st := []) wV_NumberOffice_98 e18 (t_Branch_save hG e7) (by decide) (by decide) d_No_sendNew_11 (by simp [z_rfc, z_ci, z_cl, z_cr, z_cn]) ?_
  show Z _ _ _ _ _ _ 14 [(0, .ref (v0)), (1, .ref (a1)), (2, va_rf (v2))] [] _
  refine z_aload_n 0 d_No_sendNew_14 rfl rfl ?_
  refine z_aload_nR 2 d_No_sendNew_15 rfl rfl ?_
  replace h := Option.bind_eq_some_iff.mp h; obtain ⟨_, e15, h⟩ := h
  obtain ⟨b16, f17, e15⟩ := zcls_at (zis_at e15)
  replace h := Option.bind_eq_some_iff.mp h; obtain ⟨⟨x11, σ9⟩, e10, h⟩ := h
  dsimp only at h
  refine z_callV (av := [va_rf (v2)]) (st := []) wV_NumberOffice_101 e15 (t_No_send hG e10) (by decide) (by decide) d_No_sendNew_16 (by simp [z_rfc, z_ci, z_cl, z_cr, z_cn]) ?_
  show Z _ _ _ _ _ _ 19 [(0, .ref (v0)), (1, .ref (a1)), (2, va_rf (v2))] [.int (x11)] _
  refine z_pop d_No_sendNew_19 rfl ?_
  refine z_aload_nR 2 d_No_sendNew_20 rfl rfl ?_
  replace h := Option.bind_eq_some_iff.mp h; obtain ⟨a12, rfl, h⟩ := h
  replace h := Option.bind_eq_some_iff.mp h; obtain ⟨x13, e14, h⟩ := h
  refine z_getI wF_NumberOffice_223_9 d_No_sendNew_21 e14 ?_
  cases h
  exact z_iret rfl rfl d_No_sendNew_24

def s_No_report_44 (g : zG)  (v0 : Nat) (v1 : Int32) (v2 : Int32) (v3 : Option Nat) (v4 : Option Nat) (σ : zS) : Option ((Int32 ⊕ Nat) × zS) := some (.inl ((-1)), σ)
def s_No_report (g : zG) (v0 : Nat) (v1 : Int32) (v2 : Int32) (σ : zS) : Option ((Int32 ⊕ Nat) × zS) := (zis σ v0 0).bind fun _ => (s_No_branchAt g v0 v1 σ).bind fun (x3, σ1) => match x3 with | none => some (.inl ((-1)), σ1) | some a5 => (s_No_requireUp g (some (a5)) σ1).bind fun (x8, σ6) => match x8 with | .inl _ => ((zis σ6 a5 1).bind fun _ => (s_Branch_bookAt g a5 v2 σ6).bind fun (x13, σ11) => match x13 with | none => s_No_report_44 g  (v0) (v1) (v2) (some (a5)) (none) σ11 | some a15 => (zis σ11 a5 1).bind fun _ => (s_Branch_mayWrite g a5  σ11).bind fun (x18, σ16) => if x18 = 0 then s_No_report_44 g  (v0) (v1) (v2) (some (a5)) (some (a15)) σ16 else (zis σ16 a15 2).bind fun _ => (s_BranchSeries_unreported g a15  σ16).bind fun (x22, σ20) => if 1 ≤ x22 then (some (znew σ20 6 (.inr (9, [.int 0, .int 0, .null, .int 0, .int 0, .int 0])))).bind fun σ24 => (zis σ24 a15 2).bind fun _ => (s_BranchSeries_eventsForLetter g a15  σ24).bind fun (x27, σ25) => (s_Letter_init g (σ20.1) (some (a5)) 2 v2 0 x27 σ25).bind fun σ28 => (zis σ28 v0 0).bind fun _ => (s_No_sendNew g v0 (some (a5)) (some (σ20.1)) σ28).bind fun (x33, σ31) => some (.inl x33, σ31) else s_No_report_44 g  (v0) (v1) (v2) (some (a5)) (some (a15)) σ20) | .inr a10 => (some (.inr a10, σ6))
set_option maxRecDepth 100000 in
theorem t_No_report_44 {l : Launch} {D : zD} {g : zG} (hG : zGok g D) (hl : zLo l) {q : (Int32 ⊕ Nat) × zS}   {v0 : Nat} {v1 : Int32} {v2 : Int32} {v3 : Option Nat} {v4 : Option Nat} {σ : zS} (h : s_No_report_44 g  v0 v1 v2 v3 v4 σ = some q) : Z l D K_No_report 9 198 (zoI q.1, q.2) 44 [(0, .ref (v0)), (1, .int (v1)), (2, .int (v2)), (3, va_rf (v3)), (4, va_rf (v4))] [] σ := by
  unfold s_No_report_44 at h
  refine z_iconst (v := (-1)) d_No_report_44 rfl ?_
  cases h
  exact z_iret rfl rfl d_No_report_45
set_option maxRecDepth 100000 in
theorem t_No_report {l : Launch} {D : zD} {g : zG} (hG : zGok g D) (hl : zLo l) {v0 : Nat} {v1 : Int32} {v2 : Int32} {σ : zS} {q : (Int32 ⊕ Nat) × zS} (h : s_No_report g v0 v1 v2 σ = some q) : zMet l D Y_No_report K_No_report 9 198 [.ref (v0), .int (v1), .int (v2)] σ (zoI q.1, q.2) := by
  refine zMet.ofZ (by decide) rfl (fun q => by cases q) (Nat.le_of_ble_eq_true rfl) ?_
  show Z _ _ _ _ _ _ 0 [(0, .ref (v0)), (1, .int (v1)), (2, .int (v2))] [] _
  unfold s_No_report at h
  refine z_aload_n 0 d_No_report_0 rfl rfl ?_
  refine z_iload_n 1 d_No_report_1 rfl rfl ?_
  replace h := Option.bind_eq_some_iff.mp h; obtain ⟨_, e49, h⟩ := h
  obtain ⟨b50, f51, e49⟩ := zcls_at (zis_at e49)
  replace h := Option.bind_eq_some_iff.mp h; obtain ⟨⟨x3, σ1⟩, e2, h⟩ := h
  dsimp only at h
  refine z_callV (av := [.int (v1)]) (st := []) wV_NumberOffice_55 e49 (t_No_branchAt hG e2) (by decide) (by decide) d_No_report_2 (by simp [z_rfc, z_ci, z_cl, z_cr, z_cn]) ?_
  show Z _ _ _ _ _ _ 5 [(0, .ref (v0)), (1, .int (v1)), (2, .int (v2))] [va_rf (x3)] _
  refine z_astore_nR (j := 3) (lv' := [(3, va_rf (x3)), (0, .ref (v0)), (1, .int (v1)), (2, .int (v2))]) d_No_report_5 rfl (by decide) rfl ?_
  refine z_aload_nR 0 d_No_report_6 rfl rfl ?_
  refine z_ifnonnull (tgt := 12) d_No_report_7 rfl (fun a5 c4 => ?_) (fun c4 => ?_)
  · subst c4
    dsimp only at h
    refine z_aload_n 0 d_No_report_12 rfl rfl ?_
    replace h := Option.bind_eq_some_iff.mp h; obtain ⟨⟨x8, σ6⟩, e7, h⟩ := h
    dsimp only at h
    rcases x8 with _ | a10
    · dsimp only at h
      refine z_callS (av := [va_rf (some (a5))]) (st := []) wS_NumberOffice_41 (t_No_requireUp hG hl e7) (by decide) (by decide) d_No_report_13 (by simp [z_rfc, z_ci, z_cl, z_cr, z_cn]) ?_
      show Z _ _ _ _ _ _ 16 [(3, .ref (a5)), (0, .ref (v0)), (1, .int (v1)), (2, .int (v2))] [] _
      refine z_aload_n 0 d_No_report_16 rfl rfl ?_
      refine z_iload_n 3 d_No_report_17 rfl rfl ?_
      replace h := Option.bind_eq_some_iff.mp h; obtain ⟨_, e46, h⟩ := h
      obtain ⟨b47, f48, e46⟩ := zcls_at (zis_at e46)
      replace h := Option.bind_eq_some_iff.mp h; obtain ⟨⟨x13, σ11⟩, e12, h⟩ := h
      dsimp only at h
      refine z_callV (av := [.int (v2)]) (st := []) wV_NumberOffice_59 e46 (t_Branch_bookAt hG e12) (by decide) (by decide) d_No_report_18 (by simp [z_rfc, z_ci, z_cl, z_cr, z_cn]) ?_
      show Z _ _ _ _ _ _ 21 [(3, .ref (a5)), (0, .ref (v0)), (1, .int (v1)), (2, .int (v2))] [va_rf (x13)] _
      refine z_astoreR (j := 4) (lv' := [(4, va_rf (x13)), (3, .ref (a5)), (0, .ref (v0)), (1, .int (v1)), (2, .int (v2))]) d_No_report_21 (by decide) rfl ?_
      refine z_aloadR 0 d_No_report_23 rfl ?_
      refine z_ifnull (tgt := 44) d_No_report_25 rfl (fun c14 => ?_) (fun a15 c14 => ?_)
      · subst c14
        dsimp only at h
        refine z_lv (lv' := [(0, .ref (v0)), (1, .int (v1)), (2, .int (v2)), (3, va_rf (some (a5))), (4, va_rf (none))]) [2, 3, 4, 1, 0] rfl ?_
        exact t_No_report_44 hG hl   h
      · subst c14
        dsimp only at h
        refine z_aload_n 1 d_No_report_28 rfl rfl ?_
        replace h := Option.bind_eq_some_iff.mp h; obtain ⟨_, e43, h⟩ := h
        obtain ⟨b44, f45, e43⟩ := zcls_at (zis_at e43)
        replace h := Option.bind_eq_some_iff.mp h; obtain ⟨⟨x18, σ16⟩, e17, h⟩ := h
        dsimp only at h
        refine z_callV (av := []) (st := []) wV_NumberOffice_62 e43 (t_Branch_mayWrite hG e17) (by decide) (by decide) d_No_report_29 (by simp [z_rfc, z_ci, z_cl, z_cr, z_cn]) ?_
        show Z _ _ _ _ _ _ 32 [(4, .ref (a15)), (3, .ref (a5)), (0, .ref (v0)), (1, .int (v1)), (2, .int (v2))] [.int (x18)] _
        refine z_if_eq (tgt := 44) d_No_report_32 rfl (fun c19 => ?_) (fun c19 => ?_)
        · rw [if_pos c19] at h
          refine z_lv (lv' := [(0, .ref (v0)), (1, .int (v1)), (2, .int (v2)), (3, va_rf (some (a5))), (4, va_rf (some (a15)))]) [2, 3, 4, 1, 0] rfl ?_
          exact t_No_report_44 hG hl   h
        · rw [if_neg c19] at h
          refine z_aload 0 d_No_report_35 rfl ?_
          replace h := Option.bind_eq_some_iff.mp h; obtain ⟨_, e40, h⟩ := h
          obtain ⟨b41, f42, e40⟩ := zcls_at (zis_at e40)
          replace h := Option.bind_eq_some_iff.mp h; obtain ⟨⟨x22, σ20⟩, e21, h⟩ := h
          dsimp only at h
          refine z_callV (av := []) (st := []) wV_NumberOffice_83 e40 (t_BranchSeries_unreported hG e21) (by decide) (by decide) d_No_report_37 (by simp [z_rfc, z_ci, z_cl, z_cr, z_cn]) ?_
          show Z _ _ _ _ _ _ 40 [(4, .ref (a15)), (3, .ref (a5)), (0, .ref (v0)), (1, .int (v1)), (2, .int (v2))] [.int (x22)] _
          refine z_iconst (v := 1) d_No_report_40 rfl ?_
          refine z_icmp_ge (tgt := 46) d_No_report_41 rfl (fun c23 => ?_) (fun c23 => ?_)
          · rw [if_pos c23] at h
            refine z_aload_n 2 d_No_report_46 rfl rfl ?_
            refine z_aload_n 1 d_No_report_47 rfl rfl ?_
            replace h := Option.bind_eq_some_iff.mp h; obtain ⟨σ24, e24, h⟩ := h
            refine z_new wN_NumberOffice_72 d_No_report_48 ?_
            rw [Option.some.inj e24]
            refine z_dup d_No_report_51 rfl ?_
            refine z_aload_n 1 d_No_report_52 rfl rfl ?_
            refine z_iconst (v := 2) d_No_report_53 rfl ?_
            refine z_iload_n 4 d_No_report_54 rfl rfl ?_
            refine z_iconst (v := 0) d_No_report_55 rfl ?_
            refine z_aload 0 d_No_report_56 rfl ?_
            replace h := Option.bind_eq_some_iff.mp h; obtain ⟨_, e37, h⟩ := h
            obtain ⟨b38, f39, e37⟩ := zcls_at (zis_at e37)
            replace h := Option.bind_eq_some_iff.mp h; obtain ⟨⟨x27, σ25⟩, e26, h⟩ := h
            dsimp only at h
            refine z_callV (av := []) (st := [.int (0), .int (v2), .int (2), .ref (a5), .ref (σ20.1), .ref (σ20.1), .ref (a5), .ref (v0)]) wV_NumberOffice_86 e37 (t_BranchSeries_eventsForLetter hG e26) (by decide) (by decide) d_No_report_58 (by simp [z_rfc, z_ci, z_cl, z_cr, z_cn]) ?_
            show Z _ _ _ _ _ _ 61 [(4, .ref (a15)), (3, .ref (a5)), (0, .ref (v0)), (1, .int (v1)), (2, .int (v2))] [va_rf (x27), .int (0), .int (v2), .int (2), .ref (a5), .ref (σ20.1), .ref (σ20.1), .ref (a5), .ref (v0)] _
            replace h := Option.bind_eq_some_iff.mp h; obtain ⟨σ28, e29, h⟩ := h
            refine z_callI (av := [va_rf (some (a5)), .int (2), .int (v2), .int (0), va_rf (x27)]) (st := [.ref (σ20.1), .ref (a5), .ref (v0)]) wI_NumberOffice_76 (t_Letter_init hG e29) (by decide) (by decide) d_No_report_61 (by simp [z_rfc, z_ci, z_cl, z_cr, z_cn]) ?_
            show Z _ _ _ _ _ _ 64 [(4, .ref (a15)), (3, .ref (a5)), (0, .ref (v0)), (1, .int (v1)), (2, .int (v2))] [.ref (σ20.1), .ref (a5), .ref (v0)] _
            replace h := Option.bind_eq_some_iff.mp h; obtain ⟨_, e34, h⟩ := h
            obtain ⟨b35, f36, e34⟩ := zcls_at (zis_at e34)
            replace h := Option.bind_eq_some_iff.mp h; obtain ⟨⟨x33, σ31⟩, e32, h⟩ := h
            dsimp only at h
            refine z_callV (av := [va_rf (some (a5)), va_rf (some (σ20.1))]) (st := []) wV_NumberOffice_79 e34 (t_No_sendNew hG e32) (by decide) (by decide) d_No_report_64 (by simp [z_rfc, z_ci, z_cl, z_cr, z_cn]) ?_
            show Z _ _ _ _ _ _ 67 [(4, .ref (a15)), (3, .ref (a5)), (0, .ref (v0)), (1, .int (v1)), (2, .int (v2))] [.int (x33)] _
            cases h
            exact z_iret rfl rfl d_No_report_67
          · rw [if_neg c23] at h
            refine z_lv (lv' := [(0, .ref (v0)), (1, .int (v1)), (2, .int (v2)), (3, va_rf (some (a5))), (4, va_rf (some (a15)))]) [2, 3, 4, 1, 0] rfl ?_
            exact t_No_report_44 hG hl   h
    · dsimp only at h
      cases h
      refine z_callS_t (a := a10) (av := [va_rf (some (a5))]) (st := []) wS_NumberOffice_41 (t_No_requireUp hG hl e7) (by decide) (by decide) d_No_report_13 (by simp [z_rfc, z_ci, z_cl, z_cr, z_cn]) ?_
      exact zt_out rfl rfl
  · subst c4
    dsimp only at h
    refine z_iconst (v := (-1)) d_No_report_10 rfl ?_
    cases h
    exact z_iret rfl rfl d_No_report_11

def s_BranchSeries_useUpNext_62 (g : zG)  (v0 : Nat) (v1 : Int32) (v2 : Int64) (v4 : Int32) (v5 : Option Nat) (v6 : Int32) (σ : zS) : Option (Int32 × zS) := (zis σ v0 2).bind fun _ => (s_BranchSeries_addEvent g v0 v6 v1 v2 v4 σ).bind fun σ1 => some (v6, σ1)
def s_BranchSeries_useUpNext (g : zG) (v0 : Nat) (v1 : Int32) (v2 : Int64) (v4 : Int32) (σ : zS) : Option (Int32 × zS) := (zis σ v0 2).bind fun _ => (s_BranchSeries_nextBlock g v0  σ).bind fun (x3, σ1) => match x3 with | none => some ((-1), σ1) | some a5 => (zgI σ1 a5 7 0).bind fun x6 => (zgI σ1 v0 2 3).bind fun x8 => (zgI σ1 v0 2 3).bind fun x10 => (zpF σ1 v0 2 3 (.int (x10 + 1))).bind fun σ12 => (zgI σ12 v0 2 3).bind fun x14 => (zgI σ12 a5 7 1).bind fun x16 => if x14 < x16 then s_BranchSeries_useUpNext_62 g  (v0) (v1) (v2) (v4) (some (a5)) (x6 + x8) σ12 else (zgI σ12 v0 2 2).bind fun x19 => (zpF σ12 v0 2 2 (.int (x19 + 1))).bind fun σ21 => (zpF σ21 v0 2 3 (.int (0))).bind fun σ23 => s_BranchSeries_useUpNext_62 g  (v0) (v1) (v2) (v4) (some (a5)) (x6 + x8) σ23
set_option maxRecDepth 100000 in
theorem t_BranchSeries_useUpNext_62 {l : Launch} {D : zD} {g : zG} (hG : zGok g D) {q : Int32 × zS}   {v0 : Nat} {v1 : Int32} {v2 : Int64} {v4 : Int32} {v5 : Option Nat} {v6 : Int32} {σ : zS} (h : s_BranchSeries_useUpNext_62 g  v0 v1 v2 v4 v5 v6 σ = some q) : Z l D K_BranchSeries_useUpNext 8 180 (.returned (some (.int q.1)), q.2) 62 [(0, .ref (v0)), (1, .int (v1)), (2, .long (v2)), (4, .int (v4)), (5, va_rf (v5)), (6, .int (v6))] [] σ := by
  unfold s_BranchSeries_useUpNext_62 at h
  refine z_aload_n 0 d_BranchSeries_useUpNext_62 rfl rfl ?_
  refine z_iload 5 d_BranchSeries_useUpNext_63 rfl ?_
  refine z_iload_n 1 d_BranchSeries_useUpNext_65 rfl rfl ?_
  refine z_lload_n 2 d_BranchSeries_useUpNext_66 rfl rfl ?_
  refine z_iload 3 d_BranchSeries_useUpNext_67 rfl ?_
  replace h := Option.bind_eq_some_iff.mp h; obtain ⟨_, e4, h⟩ := h
  obtain ⟨b5, f6, e4⟩ := zcls_at (zis_at e4)
  replace h := Option.bind_eq_some_iff.mp h; obtain ⟨σ1, e2, h⟩ := h
  refine z_callV (av := [.int (v6), .int (v1), .long (v2), .int (v4)]) (st := []) wV_NumberOffice_BranchSeries_78 e4 (t_BranchSeries_addEvent hG e2) (by decide) (by decide) d_BranchSeries_useUpNext_69 (by simp [z_rfc, z_ci, z_cl, z_cr, z_cn]) ?_
  show Z _ _ _ _ _ _ 72 [(0, .ref (v0)), (1, .int (v1)), (2, .long (v2)), (4, .int (v4)), (5, va_rf (v5)), (6, .int (v6))] [] _
  refine z_iload 5 d_BranchSeries_useUpNext_72 rfl ?_
  cases h
  exact z_iret rfl rfl d_BranchSeries_useUpNext_74
set_option maxRecDepth 100000 in
theorem t_BranchSeries_useUpNext {l : Launch} {D : zD} {g : zG} (hG : zGok g D) {v0 : Nat} {v1 : Int32} {v2 : Int64} {v4 : Int32} {σ : zS} {q : Int32 × zS} (h : s_BranchSeries_useUpNext g v0 v1 v2 v4 σ = some q) : zMet l D Y_BranchSeries_useUpNext K_BranchSeries_useUpNext 8 180 [.ref (v0), .int (v1), .long (v2), .int (v4)] σ (.returned (some (.int q.1)), q.2) := by
  refine zMet.ofZ (by decide) rfl (fun q => by cases q) (Nat.le_of_ble_eq_true rfl) ?_
  show Z _ _ _ _ _ _ 0 [(0, .ref (v0)), (1, .int (v1)), (2, .long (v2)), (4, .int (v4))] [] _
  unfold s_BranchSeries_useUpNext at h
  refine z_aload_n 0 d_BranchSeries_useUpNext_0 rfl rfl ?_
  replace h := Option.bind_eq_some_iff.mp h; obtain ⟨_, e25, h⟩ := h
  obtain ⟨b26, f27, e25⟩ := zcls_at (zis_at e25)
  replace h := Option.bind_eq_some_iff.mp h; obtain ⟨⟨x3, σ1⟩, e2, h⟩ := h
  dsimp only at h
  refine z_callV (av := []) (st := []) wV_NumberOffice_BranchSeries_68 e25 (t_BranchSeries_nextBlock hG e2) (by decide) (by decide) d_BranchSeries_useUpNext_1 (by simp [z_rfc, z_ci, z_cl, z_cr, z_cn]) ?_
  show Z _ _ _ _ _ _ 4 [(0, .ref (v0)), (1, .int (v1)), (2, .long (v2)), (4, .int (v4))] [va_rf (x3)] _
  refine z_astoreR (j := 5) (lv' := [(5, va_rf (x3)), (0, .ref (v0)), (1, .int (v1)), (2, .long (v2)), (4, .int (v4))]) d_BranchSeries_useUpNext_4 (by decide) rfl ?_
  refine z_aloadR 0 d_BranchSeries_useUpNext_6 rfl ?_
  refine z_ifnonnull (tgt := 13) d_BranchSeries_useUpNext_8 rfl (fun a5 c4 => ?_) (fun c4 => ?_)
  · subst c4
    dsimp only at h
    refine z_aload 0 d_BranchSeries_useUpNext_13 rfl ?_
    replace h := Option.bind_eq_some_iff.mp h; obtain ⟨x6, e7, h⟩ := h
    refine z_getI wF_NumberOffice_BranchSeries_72_7 d_BranchSeries_useUpNext_15 e7 ?_
    refine z_aload_n 1 d_BranchSeries_useUpNext_18 rfl rfl ?_
    replace h := Option.bind_eq_some_iff.mp h; obtain ⟨x8, e9, h⟩ := h
    refine z_getI wF_NumberOffice_BranchSeries_38_2 d_BranchSeries_useUpNext_19 e9 ?_
    refine z_iadd d_BranchSeries_useUpNext_22 ?_
    refine z_istore (j := 6) (lv' := [(6, .int (x6 + x8)), (5, .ref (a5)), (0, .ref (v0)), (1, .int (v1)), (2, .long (v2)), (4, .int (v4))]) d_BranchSeries_useUpNext_23 (by decide) rfl ?_
    refine z_aload_n 2 d_BranchSeries_useUpNext_25 rfl rfl ?_
    refine z_dup d_BranchSeries_useUpNext_26 rfl ?_
    replace h := Option.bind_eq_some_iff.mp h; obtain ⟨x10, e11, h⟩ := h
    refine z_getI wF_NumberOffice_BranchSeries_38_2 d_BranchSeries_useUpNext_27 e11 ?_
    refine z_iconst (v := 1) d_BranchSeries_useUpNext_30 rfl ?_
    refine z_iadd d_BranchSeries_useUpNext_31 ?_
    replace h := Option.bind_eq_some_iff.mp h; obtain ⟨σ12, e13, h⟩ := h
    refine z_put wP_NumberOffice_BranchSeries_38_2 (fun q => by cases q) d_BranchSeries_useUpNext_32 rfl rfl e13 ?_
    refine z_aload_n 2 d_BranchSeries_useUpNext_35 rfl rfl ?_
    replace h := Option.bind_eq_some_iff.mp h; obtain ⟨x14, e15, h⟩ := h
    refine z_getI wF_NumberOffice_BranchSeries_38_2 d_BranchSeries_useUpNext_36 e15 ?_
    refine z_aload 1 d_BranchSeries_useUpNext_39 rfl ?_
    replace h := Option.bind_eq_some_iff.mp h; obtain ⟨x16, e17, h⟩ := h
    refine z_getI wF_NumberOffice_BranchSeries_75_7 d_BranchSeries_useUpNext_41 e17 ?_
    refine z_icmp_lt (tgt := 62) d_BranchSeries_useUpNext_44 rfl (fun c18 => ?_) (fun c18 => ?_)
    · rw [if_pos c18] at h
      refine z_lv (lv' := [(0, .ref (v0)), (1, .int (v1)), (2, .long (v2)), (4, .int (v4)), (5, va_rf (some (a5))), (6, .int (x6 + x8))]) [2, 3, 4, 5, 1, 0] rfl ?_
      exact t_BranchSeries_useUpNext_62 hG   h
    · rw [if_neg c18] at h
      refine z_aload_n 2 d_BranchSeries_useUpNext_47 rfl rfl ?_
      refine z_dup d_BranchSeries_useUpNext_48 rfl ?_
      replace h := Option.bind_eq_some_iff.mp h; obtain ⟨x19, e20, h⟩ := h
      refine z_getI wF_NumberOffice_BranchSeries_32_2 d_BranchSeries_useUpNext_49 e20 ?_
      refine z_iconst (v := 1) d_BranchSeries_useUpNext_52 rfl ?_
      refine z_iadd d_BranchSeries_useUpNext_53 ?_
      replace h := Option.bind_eq_some_iff.mp h; obtain ⟨σ21, e22, h⟩ := h
      refine z_put wP_NumberOffice_BranchSeries_32_2 (fun q => by cases q) d_BranchSeries_useUpNext_54 rfl rfl e22 ?_
      refine z_aload_n 2 d_BranchSeries_useUpNext_57 rfl rfl ?_
      refine z_iconst (v := 0) d_BranchSeries_useUpNext_58 rfl ?_
      replace h := Option.bind_eq_some_iff.mp h; obtain ⟨σ23, e24, h⟩ := h
      refine z_put wP_NumberOffice_BranchSeries_38_2 (fun q => by cases q) d_BranchSeries_useUpNext_59 rfl rfl e24 ?_
      refine z_lv (lv' := [(0, .ref (v0)), (1, .int (v1)), (2, .long (v2)), (4, .int (v4)), (5, va_rf (some (a5))), (6, .int (x6 + x8))]) [2, 3, 4, 5, 1, 0] rfl ?_
      exact t_BranchSeries_useUpNext_62 hG   h
  · subst c4
    dsimp only at h
    refine z_iconst (v := (-1)) d_BranchSeries_useUpNext_11 rfl ?_
    cases h
    exact z_iret rfl rfl d_BranchSeries_useUpNext_12

def s_No_voidNext_39 (g : zG)  (v0 : Nat) (v1 : Int32) (v2 : Int32) (v3 : Int32) (v4 : Option Nat) (v5 : Option Nat) (σ : zS) : Option ((Int32 ⊕ Nat) × zS) := some (.inl ((-1)), σ)
def s_No_voidNext (g : zG) (v0 : Nat) (v1 : Int32) (v2 : Int32) (v3 : Int32) (σ : zS) : Option ((Int32 ⊕ Nat) × zS) := (zis σ v0 0).bind fun _ => (s_No_branchAt g v0 v1 σ).bind fun (x3, σ1) => match x3 with | none => some (.inl ((-1)), σ1) | some a5 => (s_No_requireUp g (some (a5)) σ1).bind fun (x8, σ6) => match x8 with | .inl _ => ((zis σ6 a5 1).bind fun _ => (s_Branch_bookAt g a5 v2 σ6).bind fun (x13, σ11) => match x13 with | none => s_No_voidNext_39 g  (v0) (v1) (v2) (v3) (some (a5)) (none) σ11 | some a15 => (s_No_isReason g v3 σ11).bind fun (x18, σ16) => if x18 = 0 then s_No_voidNext_39 g  (v0) (v1) (v2) (v3) (some (a5)) (some (a15)) σ16 else (zis σ16 a15 2).bind fun _ => (s_BranchSeries_useUpNext g a15 0 0 v3 σ16).bind fun (x22, σ20) => some (.inl x22, σ20)) | .inr a10 => (some (.inr a10, σ6))
set_option maxRecDepth 100000 in
theorem t_No_voidNext_39 {l : Launch} {D : zD} {g : zG} (hG : zGok g D) (hl : zLo l) {q : (Int32 ⊕ Nat) × zS}   {v0 : Nat} {v1 : Int32} {v2 : Int32} {v3 : Int32} {v4 : Option Nat} {v5 : Option Nat} {σ : zS} (h : s_No_voidNext_39 g  v0 v1 v2 v3 v4 v5 σ = some q) : Z l D K_No_voidNext 9 206 (zoI q.1, q.2) 39 [(0, .ref (v0)), (1, .int (v1)), (2, .int (v2)), (3, .int (v3)), (4, va_rf (v4)), (5, va_rf (v5))] [] σ := by
  unfold s_No_voidNext_39 at h
  refine z_iconst (v := (-1)) d_No_voidNext_39 rfl ?_
  cases h
  exact z_iret rfl rfl d_No_voidNext_40
set_option maxRecDepth 100000 in
theorem t_No_voidNext {l : Launch} {D : zD} {g : zG} (hG : zGok g D) (hl : zLo l) {v0 : Nat} {v1 : Int32} {v2 : Int32} {v3 : Int32} {σ : zS} {q : (Int32 ⊕ Nat) × zS} (h : s_No_voidNext g v0 v1 v2 v3 σ = some q) : zMet l D Y_No_voidNext K_No_voidNext 9 206 [.ref (v0), .int (v1), .int (v2), .int (v3)] σ (zoI q.1, q.2) := by
  refine zMet.ofZ (by decide) rfl (fun q => by cases q) (Nat.le_of_ble_eq_true rfl) ?_
  show Z _ _ _ _ _ _ 0 [(0, .ref (v0)), (1, .int (v1)), (2, .int (v2)), (3, .int (v3))] [] _
  unfold s_No_voidNext at h
  refine z_aload_n 0 d_No_voidNext_0 rfl rfl ?_
  refine z_iload_n 1 d_No_voidNext_1 rfl rfl ?_
  replace h := Option.bind_eq_some_iff.mp h; obtain ⟨_, e29, h⟩ := h
  obtain ⟨b30, f31, e29⟩ := zcls_at (zis_at e29)
  replace h := Option.bind_eq_some_iff.mp h; obtain ⟨⟨x3, σ1⟩, e2, h⟩ := h
  dsimp only at h
  refine z_callV (av := [.int (v1)]) (st := []) wV_NumberOffice_55 e29 (t_No_branchAt hG e2) (by decide) (by decide) d_No_voidNext_2 (by simp [z_rfc, z_ci, z_cl, z_cr, z_cn]) ?_
  show Z _ _ _ _ _ _ 5 [(0, .ref (v0)), (1, .int (v1)), (2, .int (v2)), (3, .int (v3))] [va_rf (x3)] _
  refine z_astoreR (j := 4) (lv' := [(4, va_rf (x3)), (0, .ref (v0)), (1, .int (v1)), (2, .int (v2)), (3, .int (v3))]) d_No_voidNext_5 (by decide) rfl ?_
  refine z_aloadR 0 d_No_voidNext_7 rfl ?_
  refine z_ifnonnull (tgt := 14) d_No_voidNext_9 rfl (fun a5 c4 => ?_) (fun c4 => ?_)
  · subst c4
    dsimp only at h
    refine z_aload 0 d_No_voidNext_14 rfl ?_
    replace h := Option.bind_eq_some_iff.mp h; obtain ⟨⟨x8, σ6⟩, e7, h⟩ := h
    dsimp only at h
    rcases x8 with _ | a10
    · dsimp only at h
      refine z_callS (av := [va_rf (some (a5))]) (st := []) wS_NumberOffice_41 (t_No_requireUp hG hl e7) (by decide) (by decide) d_No_voidNext_16 (by simp [z_rfc, z_ci, z_cl, z_cr, z_cn]) ?_
      show Z _ _ _ _ _ _ 19 [(4, .ref (a5)), (0, .ref (v0)), (1, .int (v1)), (2, .int (v2)), (3, .int (v3))] [] _
      refine z_aload 0 d_No_voidNext_19 rfl ?_
      refine z_iload_n 3 d_No_voidNext_21 rfl rfl ?_
      replace h := Option.bind_eq_some_iff.mp h; obtain ⟨_, e26, h⟩ := h
      obtain ⟨b27, f28, e26⟩ := zcls_at (zis_at e26)
      replace h := Option.bind_eq_some_iff.mp h; obtain ⟨⟨x13, σ11⟩, e12, h⟩ := h
      dsimp only at h
      refine z_callV (av := [.int (v2)]) (st := []) wV_NumberOffice_59 e26 (t_Branch_bookAt hG e12) (by decide) (by decide) d_No_voidNext_22 (by simp [z_rfc, z_ci, z_cl, z_cr, z_cn]) ?_
      show Z _ _ _ _ _ _ 25 [(4, .ref (a5)), (0, .ref (v0)), (1, .int (v1)), (2, .int (v2)), (3, .int (v3))] [va_rf (x13)] _
      refine z_astoreR (j := 5) (lv' := [(5, va_rf (x13)), (4, .ref (a5)), (0, .ref (v0)), (1, .int (v1)), (2, .int (v2)), (3, .int (v3))]) d_No_voidNext_25 (by decide) rfl ?_
      refine z_aloadR 0 d_No_voidNext_27 rfl ?_
      refine z_ifnull (tgt := 39) d_No_voidNext_29 rfl (fun c14 => ?_) (fun a15 c14 => ?_)
      · subst c14
        dsimp only at h
        refine z_lv (lv' := [(0, .ref (v0)), (1, .int (v1)), (2, .int (v2)), (3, .int (v3)), (4, va_rf (some (a5))), (5, va_rf (none))]) [2, 3, 4, 5, 1, 0] rfl ?_
        exact t_No_voidNext_39 hG hl   h
      · subst c14
        dsimp only at h
        refine z_iload_n 5 d_No_voidNext_32 rfl rfl ?_
        replace h := Option.bind_eq_some_iff.mp h; obtain ⟨⟨x18, σ16⟩, e17, h⟩ := h
        dsimp only at h
        refine z_callS (av := [.int (v3)]) (st := []) wS_NumberOffice_114 (t_No_isReason hG e17) (by decide) (by decide) d_No_voidNext_33 (by simp [z_rfc, z_ci, z_cl, z_cr, z_cn]) ?_
        show Z _ _ _ _ _ _ 36 [(5, .ref (a15)), (4, .ref (a5)), (0, .ref (v0)), (1, .int (v1)), (2, .int (v2)), (3, .int (v3))] [.int (x18)] _
        refine z_if_ne (tgt := 41) d_No_voidNext_36 rfl (fun c19 => ?_) (fun c19 => ?_)
        · rw [if_neg c19] at h
          refine z_aload 0 d_No_voidNext_41 rfl ?_
          refine z_iconst (v := 0) d_No_voidNext_43 rfl ?_
          refine z_lconst (v := 0) d_No_voidNext_44 rfl ?_
          refine z_iload_n 5 d_No_voidNext_45 rfl rfl ?_
          replace h := Option.bind_eq_some_iff.mp h; obtain ⟨_, e23, h⟩ := h
          obtain ⟨b24, f25, e23⟩ := zcls_at (zis_at e23)
          replace h := Option.bind_eq_some_iff.mp h; obtain ⟨⟨x22, σ20⟩, e21, h⟩ := h
          dsimp only at h
          refine z_callV (av := [.int (0), .long (0), .int (v3)]) (st := []) wV_NumberOffice_110 e23 (t_BranchSeries_useUpNext hG e21) (by decide) (by decide) d_No_voidNext_46 (by simp [z_rfc, z_ci, z_cl, z_cr, z_cn]) ?_
          show Z _ _ _ _ _ _ 49 [(5, .ref (a15)), (4, .ref (a5)), (0, .ref (v0)), (1, .int (v1)), (2, .int (v2)), (3, .int (v3))] [.int (x22)] _
          cases h
          exact z_iret rfl rfl d_No_voidNext_49
        · rw [if_pos c19] at h
          refine z_lv (lv' := [(0, .ref (v0)), (1, .int (v1)), (2, .int (v2)), (3, .int (v3)), (4, va_rf (some (a5))), (5, va_rf (some (a15)))]) [2, 3, 4, 5, 1, 0] rfl ?_
          exact t_No_voidNext_39 hG hl   h
    · dsimp only at h
      cases h
      refine z_callS_t (a := a10) (av := [va_rf (some (a5))]) (st := []) wS_NumberOffice_41 (t_No_requireUp hG hl e7) (by decide) (by decide) d_No_voidNext_16 (by simp [z_rfc, z_ci, z_cl, z_cr, z_cn]) ?_
      exact zt_out rfl rfl
  · subst c4
    dsimp only at h
    refine z_iconst (v := (-1)) d_No_voidNext_12 rfl ?_
    cases h
    exact z_iret rfl rfl d_No_voidNext_13

def s_No_again_17 (g : zG)  (v0 : Nat) (v1 : Int32) (v2 : Option Nat) (σ : zS) : Option (Int32 × zS) := some (0, σ)
def s_No_again (g : zG) (v0 : Nat) (v1 : Int32) (σ : zS) : Option (Int32 × zS) := (zis σ v0 0).bind fun _ => (s_No_branchAt g v0 v1 σ).bind fun (x3, σ1) => match x3 with | none => s_No_again_17 g  (v0) (v1) (none) σ1 | some a5 => (zgI σ1 a5 1 8).bind fun x6 => if x6 = 0 then s_No_again_17 g  (v0) (v1) (some (a5)) σ1 else (zis σ1 a5 1).bind fun _ => (s_Branch_unanswered g a5  σ1).bind fun (x11, σ9) => match x11 with | none => some (0, σ9) | some a13 => (zis σ9 a5 1).bind fun _ => (s_Branch_save g a5  σ9).bind fun σ14 => (zis σ14 v0 0).bind fun _ => (s_No_send g v0 (some (a13)) σ14).bind fun (x19, σ17) => some (1, σ17)
set_option maxRecDepth 100000 in
theorem t_No_again_17 {l : Launch} {D : zD} {g : zG} (hG : zGok g D) {q : Int32 × zS}   {v0 : Nat} {v1 : Int32} {v2 : Option Nat} {σ : zS} (h : s_No_again_17 g  v0 v1 v2 σ = some q) : Z l D K_No_again 8 176 (.returned (some (.int q.1)), q.2) 17 [(0, .ref (v0)), (1, .int (v1)), (2, va_rf (v2))] [] σ := by
  unfold s_No_again_17 at h
  refine z_iconst (v := 0) d_No_again_17 rfl ?_
  cases h
  exact z_zret rfl rfl rfl d_No_again_18
set_option maxRecDepth 100000 in
theorem t_No_again {l : Launch} {D : zD} {g : zG} (hG : zGok g D) {v0 : Nat} {v1 : Int32} {σ : zS} {q : Int32 × zS} (h : s_No_again g v0 v1 σ = some q) : zMet l D Y_No_again K_No_again 8 176 [.ref (v0), .int (v1)] σ (.returned (some (.int q.1)), q.2) := by
  refine zMet.ofZ (by decide) rfl (fun q => by cases q) (Nat.le_of_ble_eq_true rfl) ?_
  show Z _ _ _ _ _ _ 0 [(0, .ref (v0)), (1, .int (v1))] [] _
  unfold s_No_again at h
  refine z_aload_n 0 d_No_again_0 rfl rfl ?_
  refine z_iload_n 1 d_No_again_1 rfl rfl ?_
  replace h := Option.bind_eq_some_iff.mp h; obtain ⟨_, e29, h⟩ := h
  obtain ⟨b30, f31, e29⟩ := zcls_at (zis_at e29)
  replace h := Option.bind_eq_some_iff.mp h; obtain ⟨⟨x3, σ1⟩, e2, h⟩ := h
  dsimp only at h
  refine z_callV (av := [.int (v1)]) (st := []) wV_NumberOffice_55 e29 (t_No_branchAt hG e2) (by decide) (by decide) d_No_again_2 (by simp [z_rfc, z_ci, z_cl, z_cr, z_cn]) ?_
  show Z _ _ _ _ _ _ 5 [(0, .ref (v0)), (1, .int (v1))] [va_rf (x3)] _
  refine z_astore_nR (j := 2) (lv' := [(2, va_rf (x3)), (0, .ref (v0)), (1, .int (v1))]) d_No_again_5 rfl (by decide) rfl ?_
  refine z_aload_nR 0 d_No_again_6 rfl rfl ?_
  refine z_ifnull (tgt := 17) d_No_again_7 rfl (fun c4 => ?_) (fun a5 c4 => ?_)
  · subst c4
    dsimp only at h
    refine z_lv (lv' := [(0, .ref (v0)), (1, .int (v1)), (2, va_rf (none))]) [1, 2, 0] rfl ?_
    exact t_No_again_17 hG   h
  · subst c4
    dsimp only at h
    refine z_aload_n 0 d_No_again_10 rfl rfl ?_
    replace h := Option.bind_eq_some_iff.mp h; obtain ⟨x6, e7, h⟩ := h
    refine z_getI wF_NumberOffice_90_1 d_No_again_11 e7 ?_
    refine z_if_ne (tgt := 19) d_No_again_14 rfl (fun c8 => ?_) (fun c8 => ?_)
    · rw [if_neg c8] at h
      refine z_aload_n 0 d_No_again_19 rfl rfl ?_
      replace h := Option.bind_eq_some_iff.mp h; obtain ⟨_, e26, h⟩ := h
      obtain ⟨b27, f28, e26⟩ := zcls_at (zis_at e26)
      replace h := Option.bind_eq_some_iff.mp h; obtain ⟨⟨x11, σ9⟩, e10, h⟩ := h
      dsimp only at h
      refine z_callV (av := []) (st := []) wV_NumberOffice_94 e26 (t_Branch_unanswered hG e10) (by decide) (by decide) d_No_again_20 (by simp [z_rfc, z_ci, z_cl, z_cr, z_cn]) ?_
      show Z _ _ _ _ _ _ 23 [(2, .ref (a5)), (0, .ref (v0)), (1, .int (v1))] [va_rf (x11)] _
      refine z_astore_nR (j := 3) (lv' := [(3, va_rf (x11)), (2, .ref (a5)), (0, .ref (v0)), (1, .int (v1))]) d_No_again_23 rfl (by decide) rfl ?_
      refine z_aload_nR 0 d_No_again_24 rfl rfl ?_
      refine z_ifnonnull (tgt := 30) d_No_again_25 rfl (fun a13 c12 => ?_) (fun c12 => ?_)
      · subst c12
        dsimp only at h
        refine z_aload_n 1 d_No_again_30 rfl rfl ?_
        replace h := Option.bind_eq_some_iff.mp h; obtain ⟨_, e23, h⟩ := h
        obtain ⟨b24, f25, e23⟩ := zcls_at (zis_at e23)
        replace h := Option.bind_eq_some_iff.mp h; obtain ⟨σ14, e15, h⟩ := h
        refine z_callV (av := []) (st := []) wV_NumberOffice_98 e23 (t_Branch_save hG e15) (by decide) (by decide) d_No_again_31 (by simp [z_rfc, z_ci, z_cl, z_cr, z_cn]) ?_
        show Z _ _ _ _ _ _ 34 [(3, .ref (a13)), (2, .ref (a5)), (0, .ref (v0)), (1, .int (v1))] [] _
        refine z_aload_n 2 d_No_again_34 rfl rfl ?_
        refine z_aload_n 0 d_No_again_35 rfl rfl ?_
        replace h := Option.bind_eq_some_iff.mp h; obtain ⟨_, e20, h⟩ := h
        obtain ⟨b21, f22, e20⟩ := zcls_at (zis_at e20)
        replace h := Option.bind_eq_some_iff.mp h; obtain ⟨⟨x19, σ17⟩, e18, h⟩ := h
        dsimp only at h
        refine z_callV (av := [va_rf (some (a13))]) (st := []) wV_NumberOffice_101 e20 (t_No_send hG e18) (by decide) (by decide) d_No_again_36 (by simp [z_rfc, z_ci, z_cl, z_cr, z_cn]) ?_
        show Z _ _ _ _ _ _ 39 [(3, .ref (a13)), (2, .ref (a5)), (0, .ref (v0)), (1, .int (v1))] [.int (x19)] _
        refine z_pop d_No_again_39 rfl ?_
        refine z_iconst (v := 1) d_No_again_40 rfl ?_
        cases h
        exact z_zret rfl rfl rfl d_No_again_41
      · subst c12
        dsimp only at h
        refine z_iconst (v := 0) d_No_again_28 rfl ?_
        cases h
        exact z_zret rfl rfl rfl d_No_again_29
    · rw [if_pos c8] at h
      refine z_lv (lv' := [(0, .ref (v0)), (1, .int (v1)), (2, va_rf (some (a5)))]) [1, 2, 0] rfl ?_
      exact t_No_again_17 hG   h

def s_No_deliver_60 (g : zG)  (v0 : Nat) (v1 : Int32) (v2 : Option Nat) (σ : zS) : Option (Int32 × zS) := some (1, σ)
def s_No_deliver (g : zG) (v0 : Nat) (v1 : Int32) (σ : zS) : Option (Int32 × zS) := (zis σ v0 0).bind fun _ => (s_No_mailAt g v0 v1 σ).bind fun (x3, σ1) => match x3 with | none => some (0, σ1) | some a5 => (zgR σ1 v0 0 2).bind fun x6 => (x6).bind fun a8 => (zis σ1 a8 3).bind fun _ => (s_ArrayList_remove g a8 v1 σ1).bind fun (x11, σ9) => if zcls σ9 a5 = some 9 then (zis σ9 a5 9).bind fun _ => (zis σ9 v0 0).bind fun _ => (s_No_bringToOffice g v0 (some (a5)) σ9).bind fun σ16 => s_No_deliver_60 g  (v0) (v1) (some (a5)) σ16 else (zis σ9 a5 6).bind fun _ => if zcls σ9 a5 = some 6 then (zis σ9 a5 6).bind fun _ => (zis σ9 v0 0).bind fun _ => (s_No_bringToBranch g v0 (some (a5)) σ9).bind fun σ27 => s_No_deliver_60 g  (v0) (v1) (some (a5)) σ27 else (zis σ9 a5 9).bind fun _ => s_No_deliver_60 g  (v0) (v1) (some (a5)) σ9
set_option maxRecDepth 100000 in
theorem t_No_deliver_60 {l : Launch} {D : zD} {g : zG} (hG : zGok g D) {q : Int32 × zS}   {v0 : Nat} {v1 : Int32} {v2 : Option Nat} {σ : zS} (h : s_No_deliver_60 g  v0 v1 v2 σ = some q) : Z l D K_No_deliver 9 200 (.returned (some (.int q.1)), q.2) 60 [(0, .ref (v0)), (1, .int (v1)), (2, va_rf (v2))] [] σ := by
  unfold s_No_deliver_60 at h
  refine z_iconst (v := 1) d_No_deliver_60 rfl ?_
  cases h
  exact z_zret rfl rfl rfl d_No_deliver_61
set_option maxRecDepth 100000 in
theorem t_No_deliver {l : Launch} {D : zD} {g : zG} (hG : zGok g D) {v0 : Nat} {v1 : Int32} {σ : zS} {q : Int32 × zS} (h : s_No_deliver g v0 v1 σ = some q) : zMet l D Y_No_deliver K_No_deliver 9 200 [.ref (v0), .int (v1)] σ (.returned (some (.int q.1)), q.2) := by
  refine zMet.ofZ (by decide) rfl (fun q => by cases q) (Nat.le_of_ble_eq_true rfl) ?_
  show Z _ _ _ _ _ _ 0 [(0, .ref (v0)), (1, .int (v1))] [] _
  unfold s_No_deliver at h
  refine z_aload_n 0 d_No_deliver_0 rfl rfl ?_
  refine z_iload_n 1 d_No_deliver_1 rfl rfl ?_
  replace h := Option.bind_eq_some_iff.mp h; obtain ⟨_, e37, h⟩ := h
  obtain ⟨b38, f39, e37⟩ := zcls_at (zis_at e37)
  replace h := Option.bind_eq_some_iff.mp h; obtain ⟨⟨x3, σ1⟩, e2, h⟩ := h
  dsimp only at h
  refine z_callV (av := [.int (v1)]) (st := []) wV_NumberOffice_152 e37 (t_No_mailAt hG e2) (by decide) (by decide) d_No_deliver_2 (by simp [z_rfc, z_ci, z_cl, z_cr, z_cn]) ?_
  show Z _ _ _ _ _ _ 5 [(0, .ref (v0)), (1, .int (v1))] [va_rf (x3)] _
  refine z_astore_nR (j := 2) (lv' := [(2, va_rf (x3)), (0, .ref (v0)), (1, .int (v1))]) d_No_deliver_5 rfl (by decide) rfl ?_
  refine z_aload_nR 0 d_No_deliver_6 rfl rfl ?_
  refine z_ifnonnull (tgt := 12) d_No_deliver_7 rfl (fun a5 c4 => ?_) (fun c4 => ?_)
  · subst c4
    dsimp only at h
    refine z_aload_n 1 d_No_deliver_12 rfl rfl ?_
    replace h := Option.bind_eq_some_iff.mp h; obtain ⟨x6, e7, h⟩ := h
    refine z_getR wF_NumberOffice_37_0 d_No_deliver_13 e7 ?_
    refine z_iload_n 2 d_No_deliver_16 rfl rfl ?_
    replace h := Option.bind_eq_some_iff.mp h; obtain ⟨a8, rfl, h⟩ := h
    replace h := Option.bind_eq_some_iff.mp h; obtain ⟨_, e34, h⟩ := h
    obtain ⟨b35, f36, e34⟩ := zcls_at (zis_at e34)
    replace h := Option.bind_eq_some_iff.mp h; obtain ⟨⟨x11, σ9⟩, e10, h⟩ := h
    dsimp only at h
    refine z_callV (av := [.int (v1)]) (st := []) wV_NumberOffice_168 e34 (t_ArrayList_remove hG e10) (by decide) (by decide) d_No_deliver_17 (by simp [z_rfc, z_ci, z_cl, z_cr, z_cn]) ?_
    show Z _ _ _ _ _ _ 20 [(2, .ref (a5)), (0, .ref (v0)), (1, .int (v1))] [va_rf (x11)] _
    refine z_pop d_No_deliver_20 (z_rfc _) ?_
    refine z_aload_n 0 d_No_deliver_21 rfl rfl ?_
    by_cases c12 : zcls σ9 a5 = some 9
    · rw [if_pos c12] at h
      refine z_inst1 wK_NumberOffice_72_9 d_No_deliver_22 c12 ?_
      refine z_if_eq (tgt := 41) d_No_deliver_25 rfl (fun q => absurd q (by decide)) (fun _ => ?_)
      refine z_aload_n 0 d_No_deliver_28 rfl rfl ?_
      replace h := Option.bind_eq_some_iff.mp h; obtain ⟨_, e15, h⟩ := h
      refine z_cast wK_NumberOffice_72_9 d_No_deliver_29 (zis_at e15) ?_
      refine z_astore_n (j := 3) (lv' := [(3, .ref (a5)), (2, .ref (a5)), (0, .ref (v0)), (1, .int (v1))]) d_No_deliver_32 rfl (by decide) rfl ?_
      refine z_aload_n 2 d_No_deliver_33 rfl rfl ?_
      refine z_aload_n 0 d_No_deliver_34 rfl rfl ?_
      replace h := Option.bind_eq_some_iff.mp h; obtain ⟨_, e19, h⟩ := h
      obtain ⟨b20, f21, e19⟩ := zcls_at (zis_at e19)
      replace h := Option.bind_eq_some_iff.mp h; obtain ⟨σ16, e17, h⟩ := h
      refine z_callV (av := [va_rf (some (a5))]) (st := []) wV_NumberOffice_172 e19 (t_No_bringToOffice hG e17) (by decide) (by decide) d_No_deliver_35 (by simp [z_rfc, z_ci, z_cl, z_cr, z_cn]) ?_
      show Z _ _ _ _ _ _ 38 [(3, .ref (a5)), (2, .ref (a5)), (0, .ref (v0)), (1, .int (v1))] [] _
      refine z_goto (tgt := 60) d_No_deliver_38 rfl ?_
      refine z_lv (lv' := [(0, .ref (v0)), (1, .int (v1)), (2, va_rf (some (a5)))]) [2, 3, 1] rfl ?_
      exact t_No_deliver_60 hG   h
    · rw [if_neg c12] at h
      replace h := Option.bind_eq_some_iff.mp h; obtain ⟨_, e13, h⟩ := h
      refine z_inst0 (ci := 6) (Cn := "NumberOffice$Answer") (T := zF_Answer) (N := 5) rfl wL_NumberOffice_72 (zG_14 hG) d_No_deliver_22 (zis_at e13) ?_
      refine z_if_eq (tgt := 41) d_No_deliver_25 rfl (fun _ => ?_) (fun q => absurd q (by decide))
      refine z_aload_n 0 d_No_deliver_41 rfl rfl ?_
      by_cases c23 : zcls σ9 a5 = some 6
      · rw [if_pos c23] at h
        refine z_inst1 wK_NumberOffice_176_6 d_No_deliver_42 c23 ?_
        refine z_if_eq (tgt := 60) d_No_deliver_45 rfl (fun q => absurd q (by decide)) (fun _ => ?_)
        refine z_aload_n 0 d_No_deliver_48 rfl rfl ?_
        replace h := Option.bind_eq_some_iff.mp h; obtain ⟨_, e26, h⟩ := h
        refine z_cast wK_NumberOffice_176_6 d_No_deliver_49 (zis_at e26) ?_
        refine z_astore (j := 4) (lv' := [(4, .ref (a5)), (2, .ref (a5)), (0, .ref (v0)), (1, .int (v1))]) d_No_deliver_52 (by decide) rfl ?_
        refine z_aload_n 2 d_No_deliver_54 rfl rfl ?_
        refine z_aload 0 d_No_deliver_55 rfl ?_
        replace h := Option.bind_eq_some_iff.mp h; obtain ⟨_, e30, h⟩ := h
        obtain ⟨b31, f32, e30⟩ := zcls_at (zis_at e30)
        replace h := Option.bind_eq_some_iff.mp h; obtain ⟨σ27, e28, h⟩ := h
        refine z_callV (av := [va_rf (some (a5))]) (st := []) wV_NumberOffice_178 e30 (t_No_bringToBranch hG e28) (by decide) (by decide) d_No_deliver_57 (by simp [z_rfc, z_ci, z_cl, z_cr, z_cn]) ?_
        show Z _ _ _ _ _ _ 60 [(4, .ref (a5)), (2, .ref (a5)), (0, .ref (v0)), (1, .int (v1))] [] _
        refine z_lv (lv' := [(0, .ref (v0)), (1, .int (v1)), (2, va_rf (some (a5)))]) [2, 3, 1] rfl ?_
        exact t_No_deliver_60 hG   h
      · rw [if_neg c23] at h
        replace h := Option.bind_eq_some_iff.mp h; obtain ⟨_, e24, h⟩ := h
        refine z_inst0 (ci := 9) (Cn := "NumberOffice$Letter") (T := zF_Letter) (N := 6) rfl wL_NumberOffice_176 (zG_15 hG) d_No_deliver_42 (zis_at e24) ?_
        refine z_if_eq (tgt := 60) d_No_deliver_45 rfl (fun _ => ?_) (fun q => absurd q (by decide))
        refine z_lv (lv' := [(0, .ref (v0)), (1, .int (v1)), (2, va_rf (some (a5)))]) [1, 2, 0] rfl ?_
        exact t_No_deliver_60 hG   h
  · subst c4
    dsimp only at h
    refine z_iconst (v := 0) d_No_deliver_10 rfl ?_
    cases h
    exact z_zret rfl rfl rfl d_No_deliver_11

def s_No_request_60 (g : zG)  (v0 : Nat) (v1 : Int32) (v2 : Int32) (v3 : Int32) (v4 : Option Nat) (v5 : Option Nat) (σ : zS) : Option ((Int32 ⊕ Nat) × zS) := some (.inl ((-1)), σ)
def s_No_request (g : zG) (v0 : Nat) (v1 : Int32) (v2 : Int32) (v3 : Int32) (σ : zS) : Option ((Int32 ⊕ Nat) × zS) := (zis σ v0 0).bind fun _ => (s_No_branchAt g v0 v1 σ).bind fun (x3, σ1) => match x3 with | none => some (.inl ((-1)), σ1) | some a5 => (s_No_requireUp g (some (a5)) σ1).bind fun (x8, σ6) => match x8 with | .inl _ => ((zis σ6 a5 1).bind fun _ => (s_Branch_bookAt g a5 v2 σ6).bind fun (x13, σ11) => match x13 with | none => s_No_request_60 g  (v0) (v1) (v2) (v3) (some (a5)) (none) σ11 | some a15 => if v3 < 1 then s_No_request_60 g  (v0) (v1) (v2) (v3) (some (a5)) (some (a15)) σ11 else if 100 < v3 then s_No_request_60 g  (v0) (v1) (v2) (v3) (some (a5)) (some (a15)) σ11 else (zis σ11 a5 1).bind fun _ => (s_Branch_mayWrite g a5  σ11).bind fun (x20, σ18) => if x20 = 0 then s_No_request_60 g  (v0) (v1) (v2) (v3) (some (a5)) (some (a15)) σ18 else (zis σ18 a15 2).bind fun _ => (s_BranchSeries_openBlocks g a15  σ18).bind fun (x24, σ22) => if x24 < 2 then (some (znew σ22 6 (.inr (9, [.int 0, .int 0, .null, .int 0, .int 0, .int 0])))).bind fun σ26 => (zlen (0)).bind fun n27 => (some (znew σ26 n27 (.inl (11, (n27, .inr (.inr (.inr (.inr (fun _ => none))))))))).bind fun σ29 => (s_Letter_init g (σ22.1) (some (a5)) 1 v2 v3 (some (σ26.1)) σ29).bind fun σ31 => (zis σ31 v0 0).bind fun _ => (s_No_sendNew g v0 (some (a5)) (some (σ22.1)) σ31).bind fun (x36, σ34) => some (.inl x36, σ34) else s_No_request_60 g  (v0) (v1) (v2) (v3) (some (a5)) (some (a15)) σ22) | .inr a10 => (some (.inr a10, σ6))
set_option maxRecDepth 100000 in
theorem t_No_request_60 {l : Launch} {D : zD} {g : zG} (hG : zGok g D) (hl : zLo l) {q : (Int32 ⊕ Nat) × zS}   {v0 : Nat} {v1 : Int32} {v2 : Int32} {v3 : Int32} {v4 : Option Nat} {v5 : Option Nat} {σ : zS} (h : s_No_request_60 g  v0 v1 v2 v3 v4 v5 σ = some q) : Z l D K_No_request 9 198 (zoI q.1, q.2) 60 [(0, .ref (v0)), (1, .int (v1)), (2, .int (v2)), (3, .int (v3)), (4, va_rf (v4)), (5, va_rf (v5))] [] σ := by
  unfold s_No_request_60 at h
  refine z_iconst (v := (-1)) d_No_request_60 rfl ?_
  cases h
  exact z_iret rfl rfl d_No_request_61
set_option maxRecDepth 100000 in
theorem t_No_request {l : Launch} {D : zD} {g : zG} (hG : zGok g D) (hl : zLo l) {v0 : Nat} {v1 : Int32} {v2 : Int32} {v3 : Int32} {σ : zS} {q : (Int32 ⊕ Nat) × zS} (h : s_No_request g v0 v1 v2 v3 σ = some q) : zMet l D Y_No_request K_No_request 9 198 [.ref (v0), .int (v1), .int (v2), .int (v3)] σ (zoI q.1, q.2) := by
  refine zMet.ofZ (by decide) rfl (fun q => by cases q) (Nat.le_of_ble_eq_true rfl) ?_
  show Z _ _ _ _ _ _ 0 [(0, .ref (v0)), (1, .int (v1)), (2, .int (v2)), (3, .int (v3))] [] _
  unfold s_No_request at h
  refine z_aload_n 0 d_No_request_0 rfl rfl ?_
  refine z_iload_n 1 d_No_request_1 rfl rfl ?_
  replace h := Option.bind_eq_some_iff.mp h; obtain ⟨_, e49, h⟩ := h
  obtain ⟨b50, f51, e49⟩ := zcls_at (zis_at e49)
  replace h := Option.bind_eq_some_iff.mp h; obtain ⟨⟨x3, σ1⟩, e2, h⟩ := h
  dsimp only at h
  refine z_callV (av := [.int (v1)]) (st := []) wV_NumberOffice_55 e49 (t_No_branchAt hG e2) (by decide) (by decide) d_No_request_2 (by simp [z_rfc, z_ci, z_cl, z_cr, z_cn]) ?_
  show Z _ _ _ _ _ _ 5 [(0, .ref (v0)), (1, .int (v1)), (2, .int (v2)), (3, .int (v3))] [va_rf (x3)] _
  refine z_astoreR (j := 4) (lv' := [(4, va_rf (x3)), (0, .ref (v0)), (1, .int (v1)), (2, .int (v2)), (3, .int (v3))]) d_No_request_5 (by decide) rfl ?_
  refine z_aloadR 0 d_No_request_7 rfl ?_
  refine z_ifnonnull (tgt := 14) d_No_request_9 rfl (fun a5 c4 => ?_) (fun c4 => ?_)
  · subst c4
    dsimp only at h
    refine z_aload 0 d_No_request_14 rfl ?_
    replace h := Option.bind_eq_some_iff.mp h; obtain ⟨⟨x8, σ6⟩, e7, h⟩ := h
    dsimp only at h
    rcases x8 with _ | a10
    · dsimp only at h
      refine z_callS (av := [va_rf (some (a5))]) (st := []) wS_NumberOffice_41 (t_No_requireUp hG hl e7) (by decide) (by decide) d_No_request_16 (by simp [z_rfc, z_ci, z_cl, z_cr, z_cn]) ?_
      show Z _ _ _ _ _ _ 19 [(4, .ref (a5)), (0, .ref (v0)), (1, .int (v1)), (2, .int (v2)), (3, .int (v3))] [] _
      refine z_aload 0 d_No_request_19 rfl ?_
      refine z_iload_n 3 d_No_request_21 rfl rfl ?_
      replace h := Option.bind_eq_some_iff.mp h; obtain ⟨_, e46, h⟩ := h
      obtain ⟨b47, f48, e46⟩ := zcls_at (zis_at e46)
      replace h := Option.bind_eq_some_iff.mp h; obtain ⟨⟨x13, σ11⟩, e12, h⟩ := h
      dsimp only at h
      refine z_callV (av := [.int (v2)]) (st := []) wV_NumberOffice_59 e46 (t_Branch_bookAt hG e12) (by decide) (by decide) d_No_request_22 (by simp [z_rfc, z_ci, z_cl, z_cr, z_cn]) ?_
      show Z _ _ _ _ _ _ 25 [(4, .ref (a5)), (0, .ref (v0)), (1, .int (v1)), (2, .int (v2)), (3, .int (v3))] [va_rf (x13)] _
      refine z_astoreR (j := 5) (lv' := [(5, va_rf (x13)), (4, .ref (a5)), (0, .ref (v0)), (1, .int (v1)), (2, .int (v2)), (3, .int (v3))]) d_No_request_25 (by decide) rfl ?_
      refine z_aloadR 0 d_No_request_27 rfl ?_
      refine z_ifnull (tgt := 60) d_No_request_29 rfl (fun c14 => ?_) (fun a15 c14 => ?_)
      · subst c14
        dsimp only at h
        refine z_lv (lv' := [(0, .ref (v0)), (1, .int (v1)), (2, .int (v2)), (3, .int (v3)), (4, va_rf (some (a5))), (5, va_rf (none))]) [2, 3, 4, 5, 1, 0] rfl ?_
        exact t_No_request_60 hG hl   h
      · subst c14
        dsimp only at h
        refine z_iload_n 5 d_No_request_32 rfl rfl ?_
        refine z_iconst (v := 1) d_No_request_33 rfl ?_
        refine z_icmp_lt (tgt := 60) d_No_request_34 rfl (fun c16 => ?_) (fun c16 => ?_)
        · rw [if_pos c16] at h
          refine z_lv (lv' := [(0, .ref (v0)), (1, .int (v1)), (2, .int (v2)), (3, .int (v3)), (4, va_rf (some (a5))), (5, va_rf (some (a15)))]) [2, 3, 4, 5, 1, 0] rfl ?_
          exact t_No_request_60 hG hl   h
        · rw [if_neg c16] at h
          refine z_iload_n 5 d_No_request_37 rfl rfl ?_
          refine z_bipush (v := 100) d_No_request_38 rfl ?_
          refine z_icmp_gt (tgt := 60) d_No_request_40 rfl (fun c17 => ?_) (fun c17 => ?_)
          · rw [if_pos c17] at h
            refine z_lv (lv' := [(0, .ref (v0)), (1, .int (v1)), (2, .int (v2)), (3, .int (v3)), (4, va_rf (some (a5))), (5, va_rf (some (a15)))]) [2, 3, 4, 5, 1, 0] rfl ?_
            exact t_No_request_60 hG hl   h
          · rw [if_neg c17] at h
            refine z_aload 1 d_No_request_43 rfl ?_
            replace h := Option.bind_eq_some_iff.mp h; obtain ⟨_, e43, h⟩ := h
            obtain ⟨b44, f45, e43⟩ := zcls_at (zis_at e43)
            replace h := Option.bind_eq_some_iff.mp h; obtain ⟨⟨x20, σ18⟩, e19, h⟩ := h
            dsimp only at h
            refine z_callV (av := []) (st := []) wV_NumberOffice_62 e43 (t_Branch_mayWrite hG e19) (by decide) (by decide) d_No_request_45 (by simp [z_rfc, z_ci, z_cl, z_cr, z_cn]) ?_
            show Z _ _ _ _ _ _ 48 [(5, .ref (a15)), (4, .ref (a5)), (0, .ref (v0)), (1, .int (v1)), (2, .int (v2)), (3, .int (v3))] [.int (x20)] _
            refine z_if_eq (tgt := 60) d_No_request_48 rfl (fun c21 => ?_) (fun c21 => ?_)
            · rw [if_pos c21] at h
              refine z_lv (lv' := [(0, .ref (v0)), (1, .int (v1)), (2, .int (v2)), (3, .int (v3)), (4, va_rf (some (a5))), (5, va_rf (some (a15)))]) [2, 3, 4, 5, 1, 0] rfl ?_
              exact t_No_request_60 hG hl   h
            · rw [if_neg c21] at h
              refine z_aload 0 d_No_request_51 rfl ?_
              replace h := Option.bind_eq_some_iff.mp h; obtain ⟨_, e40, h⟩ := h
              obtain ⟨b41, f42, e40⟩ := zcls_at (zis_at e40)
              replace h := Option.bind_eq_some_iff.mp h; obtain ⟨⟨x24, σ22⟩, e23, h⟩ := h
              dsimp only at h
              refine z_callV (av := []) (st := []) wV_NumberOffice_66 e40 (t_BranchSeries_openBlocks hG e23) (by decide) (by decide) d_No_request_53 (by simp [z_rfc, z_ci, z_cl, z_cr, z_cn]) ?_
              show Z _ _ _ _ _ _ 56 [(5, .ref (a15)), (4, .ref (a5)), (0, .ref (v0)), (1, .int (v1)), (2, .int (v2)), (3, .int (v3))] [.int (x24)] _
              refine z_iconst (v := 2) d_No_request_56 rfl ?_
              refine z_icmp_lt (tgt := 62) d_No_request_57 rfl (fun c25 => ?_) (fun c25 => ?_)
              · rw [if_pos c25] at h
                refine z_aload_n 2 d_No_request_62 rfl rfl ?_
                refine z_aload 1 d_No_request_63 rfl ?_
                replace h := Option.bind_eq_some_iff.mp h; obtain ⟨σ26, e26, h⟩ := h
                refine z_new wN_NumberOffice_72 d_No_request_65 ?_
                rw [Option.some.inj e26]
                refine z_dup d_No_request_68 rfl ?_
                refine z_aload 1 d_No_request_69 rfl ?_
                refine z_iconst (v := 1) d_No_request_71 rfl ?_
                refine z_iload_n 4 d_No_request_72 rfl rfl ?_
                refine z_iload_n 5 d_No_request_73 rfl rfl ?_
                refine z_iconst (v := 0) d_No_request_74 rfl ?_
                replace h := Option.bind_eq_some_iff.mp h; obtain ⟨n27, e28, h⟩ := h
                replace h := Option.bind_eq_some_iff.mp h; obtain ⟨σ29, e30, h⟩ := h
                refine z_anewa (t := 11) (E := "NumberOffice$Event") rfl wAo_NumberOffice_Event wL_NumberOffice_74 d_No_request_75 e28 ?_
                rw [Option.some.inj e30]
                replace h := Option.bind_eq_some_iff.mp h; obtain ⟨σ31, e32, h⟩ := h
                refine z_callI (av := [va_rf (some (a5)), .int (1), .int (v2), .int (v3), va_rf (some (σ26.1))]) (st := [.ref (σ22.1), .ref (a5), .ref (v0)]) wI_NumberOffice_76 (t_Letter_init hG e32) (by decide) (by decide) d_No_request_78 (by simp [z_rfc, z_ci, z_cl, z_cr, z_cn]) ?_
                show Z _ _ _ _ _ _ 81 [(5, .ref (a15)), (4, .ref (a5)), (0, .ref (v0)), (1, .int (v1)), (2, .int (v2)), (3, .int (v3))] [.ref (σ22.1), .ref (a5), .ref (v0)] _
                replace h := Option.bind_eq_some_iff.mp h; obtain ⟨_, e37, h⟩ := h
                obtain ⟨b38, f39, e37⟩ := zcls_at (zis_at e37)
                replace h := Option.bind_eq_some_iff.mp h; obtain ⟨⟨x36, σ34⟩, e35, h⟩ := h
                dsimp only at h
                refine z_callV (av := [va_rf (some (a5)), va_rf (some (σ22.1))]) (st := []) wV_NumberOffice_79 e37 (t_No_sendNew hG e35) (by decide) (by decide) d_No_request_81 (by simp [z_rfc, z_ci, z_cl, z_cr, z_cn]) ?_
                show Z _ _ _ _ _ _ 84 [(5, .ref (a15)), (4, .ref (a5)), (0, .ref (v0)), (1, .int (v1)), (2, .int (v2)), (3, .int (v3))] [.int (x36)] _
                cases h
                exact z_iret rfl rfl d_No_request_84
              · rw [if_neg c25] at h
                refine z_lv (lv' := [(0, .ref (v0)), (1, .int (v1)), (2, .int (v2)), (3, .int (v3)), (4, va_rf (some (a5))), (5, va_rf (some (a15)))]) [2, 3, 4, 5, 1, 0] rfl ?_
                exact t_No_request_60 hG hl   h
    · dsimp only at h
      cases h
      refine z_callS_t (a := a10) (av := [va_rf (some (a5))]) (st := []) wS_NumberOffice_41 (t_No_requireUp hG hl e7) (by decide) (by decide) d_No_request_16 (by simp [z_rfc, z_ci, z_cl, z_cr, z_cn]) ?_
      exact zt_out rfl rfl
  · subst c4
    dsimp only at h
    refine z_iconst (v := (-1)) d_No_request_12 rfl ?_
    cases h
    exact z_iret rfl rfl d_No_request_13

def s_No_invoice_56 (g : zG)  (v0 : Nat) (v1 : Int32) (v2 : Int32) (v3 : Int64) (v5 : Int32) (v6 : Option Nat) (v7 : Option Nat) (σ : zS) : Option ((Int32 ⊕ Nat) × zS) := some (.inl ((-1)), σ)
def s_No_invoice_80 (g : zG)  (v0 : Nat) (v1 : Int32) (v2 : Int32) (v3 : Int64) (v5 : Int32) (v6 : Option Nat) (v7 : Option Nat) (v8 : Int32) (σ : zS) : Option ((Int32 ⊕ Nat) × zS) := some (.inl v8, σ)
def s_No_invoice (g : zG) (v0 : Nat) (v1 : Int32) (v2 : Int32) (v3 : Int64) (v5 : Int32) (σ : zS) : Option ((Int32 ⊕ Nat) × zS) := (zis σ v0 0).bind fun _ => (s_No_branchAt g v0 v1 σ).bind fun (x3, σ1) => match x3 with | none => some (.inl ((-1)), σ1) | some a5 => (s_No_requireUp g (some (a5)) σ1).bind fun (x8, σ6) => match x8 with | .inl _ => ((zis σ6 a5 1).bind fun _ => (s_Branch_bookAt g a5 v2 σ6).bind fun (x13, σ11) => match x13 with | none => s_No_invoice_56 g  (v0) (v1) (v2) (v3) (v5) (some (a5)) (none) σ11 | some a15 => if (lg_cmp v3 1) < 0 then s_No_invoice_56 g  (v0) (v1) (v2) (v3) (v5) (some (a5)) (some (a15)) σ11 else if 0 < (lg_cmp v3 1000000000000) then s_No_invoice_56 g  (v0) (v1) (v2) (v3) (v5) (some (a5)) (some (a15)) σ11 else (zis σ11 a15 2).bind fun _ => (s_BranchSeries_dateFits g a15 v5 σ11).bind fun (x20, σ18) => if x20 = 0 then s_No_invoice_56 g  (v0) (v1) (v2) (v3) (v5) (some (a5)) (some (a15)) σ18 else (zis σ18 a15 2).bind fun _ => (s_BranchSeries_useUpNext g a15 1 v3 v5 σ18).bind fun (x24, σ22) => if x24 = ((-1)) then s_No_invoice_80 g  (v0) (v1) (v2) (v3) (v5) (some (a5)) (some (a15)) (x24) σ22 else (zis σ22 a5 1).bind fun _ => (s_Branch_save g a5  σ22).bind fun σ26 => s_No_invoice_80 g  (v0) (v1) (v2) (v3) (v5) (some (a5)) (some (a15)) (x24) σ26) | .inr a10 => (some (.inr a10, σ6))
set_option maxRecDepth 100000 in
theorem t_No_invoice_56 {l : Launch} {D : zD} {g : zG} (hG : zGok g D) (hl : zLo l) {q : (Int32 ⊕ Nat) × zS}   {v0 : Nat} {v1 : Int32} {v2 : Int32} {v3 : Int64} {v5 : Int32} {v6 : Option Nat} {v7 : Option Nat} {σ : zS} (h : s_No_invoice_56 g  v0 v1 v2 v3 v5 v6 v7 σ = some q) : Z l D K_No_invoice 9 206 (zoI q.1, q.2) 56 [(0, .ref (v0)), (1, .int (v1)), (2, .int (v2)), (3, .long (v3)), (5, .int (v5)), (6, va_rf (v6)), (7, va_rf (v7))] [] σ := by
  unfold s_No_invoice_56 at h
  refine z_iconst (v := (-1)) d_No_invoice_56 rfl ?_
  cases h
  exact z_iret rfl rfl d_No_invoice_57
set_option maxRecDepth 100000 in
theorem t_No_invoice_80 {l : Launch} {D : zD} {g : zG} (hG : zGok g D) (hl : zLo l) {q : (Int32 ⊕ Nat) × zS}   {v0 : Nat} {v1 : Int32} {v2 : Int32} {v3 : Int64} {v5 : Int32} {v6 : Option Nat} {v7 : Option Nat} {v8 : Int32} {σ : zS} (h : s_No_invoice_80 g  v0 v1 v2 v3 v5 v6 v7 v8 σ = some q) : Z l D K_No_invoice 9 206 (zoI q.1, q.2) 80 [(0, .ref (v0)), (1, .int (v1)), (2, .int (v2)), (3, .long (v3)), (5, .int (v5)), (6, va_rf (v6)), (7, va_rf (v7)), (8, .int (v8))] [] σ := by
  unfold s_No_invoice_80 at h
  refine z_iload 7 d_No_invoice_80 rfl ?_
  cases h
  exact z_iret rfl rfl d_No_invoice_82
set_option maxRecDepth 100000 in
theorem t_No_invoice {l : Launch} {D : zD} {g : zG} (hG : zGok g D) (hl : zLo l) {v0 : Nat} {v1 : Int32} {v2 : Int32} {v3 : Int64} {v5 : Int32} {σ : zS} {q : (Int32 ⊕ Nat) × zS} (h : s_No_invoice g v0 v1 v2 v3 v5 σ = some q) : zMet l D Y_No_invoice K_No_invoice 9 206 [.ref (v0), .int (v1), .int (v2), .long (v3), .int (v5)] σ (zoI q.1, q.2) := by
  refine zMet.ofZ (by decide) rfl (fun q => by cases q) (Nat.le_of_ble_eq_true rfl) ?_
  show Z _ _ _ _ _ _ 0 [(0, .ref (v0)), (1, .int (v1)), (2, .int (v2)), (3, .long (v3)), (5, .int (v5))] [] _
  unfold s_No_invoice at h
  refine z_aload_n 0 d_No_invoice_0 rfl rfl ?_
  refine z_iload_n 1 d_No_invoice_1 rfl rfl ?_
  replace h := Option.bind_eq_some_iff.mp h; obtain ⟨_, e41, h⟩ := h
  obtain ⟨b42, f43, e41⟩ := zcls_at (zis_at e41)
  replace h := Option.bind_eq_some_iff.mp h; obtain ⟨⟨x3, σ1⟩, e2, h⟩ := h
  dsimp only at h
  refine z_callV (av := [.int (v1)]) (st := []) wV_NumberOffice_55 e41 (t_No_branchAt hG e2) (by decide) (by decide) d_No_invoice_2 (by simp [z_rfc, z_ci, z_cl, z_cr, z_cn]) ?_
  show Z _ _ _ _ _ _ 5 [(0, .ref (v0)), (1, .int (v1)), (2, .int (v2)), (3, .long (v3)), (5, .int (v5))] [va_rf (x3)] _
  refine z_astoreR (j := 6) (lv' := [(6, va_rf (x3)), (0, .ref (v0)), (1, .int (v1)), (2, .int (v2)), (3, .long (v3)), (5, .int (v5))]) d_No_invoice_5 (by decide) rfl ?_
  refine z_aloadR 0 d_No_invoice_7 rfl ?_
  refine z_ifnonnull (tgt := 14) d_No_invoice_9 rfl (fun a5 c4 => ?_) (fun c4 => ?_)
  · subst c4
    dsimp only at h
    refine z_aload 0 d_No_invoice_14 rfl ?_
    replace h := Option.bind_eq_some_iff.mp h; obtain ⟨⟨x8, σ6⟩, e7, h⟩ := h
    dsimp only at h
    rcases x8 with _ | a10
    · dsimp only at h
      refine z_callS (av := [va_rf (some (a5))]) (st := []) wS_NumberOffice_41 (t_No_requireUp hG hl e7) (by decide) (by decide) d_No_invoice_16 (by simp [z_rfc, z_ci, z_cl, z_cr, z_cn]) ?_
      show Z _ _ _ _ _ _ 19 [(6, .ref (a5)), (0, .ref (v0)), (1, .int (v1)), (2, .int (v2)), (3, .long (v3)), (5, .int (v5))] [] _
      refine z_aload 0 d_No_invoice_19 rfl ?_
      refine z_iload_n 3 d_No_invoice_21 rfl rfl ?_
      replace h := Option.bind_eq_some_iff.mp h; obtain ⟨_, e38, h⟩ := h
      obtain ⟨b39, f40, e38⟩ := zcls_at (zis_at e38)
      replace h := Option.bind_eq_some_iff.mp h; obtain ⟨⟨x13, σ11⟩, e12, h⟩ := h
      dsimp only at h
      refine z_callV (av := [.int (v2)]) (st := []) wV_NumberOffice_59 e38 (t_Branch_bookAt hG e12) (by decide) (by decide) d_No_invoice_22 (by simp [z_rfc, z_ci, z_cl, z_cr, z_cn]) ?_
      show Z _ _ _ _ _ _ 25 [(6, .ref (a5)), (0, .ref (v0)), (1, .int (v1)), (2, .int (v2)), (3, .long (v3)), (5, .int (v5))] [va_rf (x13)] _
      refine z_astoreR (j := 7) (lv' := [(7, va_rf (x13)), (6, .ref (a5)), (0, .ref (v0)), (1, .int (v1)), (2, .int (v2)), (3, .long (v3)), (5, .int (v5))]) d_No_invoice_25 (by decide) rfl ?_
      refine z_aloadR 0 d_No_invoice_27 rfl ?_
      refine z_ifnull (tgt := 56) d_No_invoice_29 rfl (fun c14 => ?_) (fun a15 c14 => ?_)
      · subst c14
        dsimp only at h
        refine z_lv (lv' := [(0, .ref (v0)), (1, .int (v1)), (2, .int (v2)), (3, .long (v3)), (5, .int (v5)), (6, va_rf (some (a5))), (7, va_rf (none))]) [2, 3, 4, 5, 6, 1, 0] rfl ?_
        exact t_No_invoice_56 hG hl   h
      · subst c14
        dsimp only at h
        refine z_lload_n 5 d_No_invoice_32 rfl rfl ?_
        refine z_lconst (v := 1) d_No_invoice_33 rfl ?_
        refine z_lcmp d_No_invoice_34 ?_
        refine z_if_lt (tgt := 56) d_No_invoice_35 rfl (fun c16 => ?_) (fun c16 => ?_)
        · rw [if_pos c16] at h
          refine z_lv (lv' := [(0, .ref (v0)), (1, .int (v1)), (2, .int (v2)), (3, .long (v3)), (5, .int (v5)), (6, va_rf (some (a5))), (7, va_rf (some (a15)))]) [2, 3, 4, 5, 6, 1, 0] rfl ?_
          exact t_No_invoice_56 hG hl   h
        · rw [if_neg c16] at h
          refine z_lload_n 5 d_No_invoice_38 rfl rfl ?_
          refine z_ldc2 (v := 1000000000000) wC_NumberOffice_105 d_No_invoice_39 ?_
          refine z_lcmp d_No_invoice_42 ?_
          refine z_if_gt (tgt := 56) d_No_invoice_43 rfl (fun c17 => ?_) (fun c17 => ?_)
          · rw [if_pos c17] at h
            refine z_lv (lv' := [(0, .ref (v0)), (1, .int (v1)), (2, .int (v2)), (3, .long (v3)), (5, .int (v5)), (6, va_rf (some (a5))), (7, va_rf (some (a15)))]) [2, 3, 4, 5, 6, 1, 0] rfl ?_
            exact t_No_invoice_56 hG hl   h
          · rw [if_neg c17] at h
            refine z_aload 0 d_No_invoice_46 rfl ?_
            refine z_iload 6 d_No_invoice_48 rfl ?_
            replace h := Option.bind_eq_some_iff.mp h; obtain ⟨_, e35, h⟩ := h
            obtain ⟨b36, f37, e35⟩ := zcls_at (zis_at e35)
            replace h := Option.bind_eq_some_iff.mp h; obtain ⟨⟨x20, σ18⟩, e19, h⟩ := h
            dsimp only at h
            refine z_callV (av := [.int (v5)]) (st := []) wV_NumberOffice_107 e35 (t_BranchSeries_dateFits hG e19) (by decide) (by decide) d_No_invoice_50 (by simp [z_rfc, z_ci, z_cl, z_cr, z_cn]) ?_
            show Z _ _ _ _ _ _ 53 [(7, .ref (a15)), (6, .ref (a5)), (0, .ref (v0)), (1, .int (v1)), (2, .int (v2)), (3, .long (v3)), (5, .int (v5))] [.int (x20)] _
            refine z_if_ne (tgt := 58) d_No_invoice_53 rfl (fun c21 => ?_) (fun c21 => ?_)
            · rw [if_neg c21] at h
              refine z_aload 0 d_No_invoice_58 rfl ?_
              refine z_iconst (v := 1) d_No_invoice_60 rfl ?_
              refine z_lload_n 5 d_No_invoice_61 rfl rfl ?_
              refine z_iload 6 d_No_invoice_62 rfl ?_
              replace h := Option.bind_eq_some_iff.mp h; obtain ⟨_, e32, h⟩ := h
              obtain ⟨b33, f34, e32⟩ := zcls_at (zis_at e32)
              replace h := Option.bind_eq_some_iff.mp h; obtain ⟨⟨x24, σ22⟩, e23, h⟩ := h
              dsimp only at h
              refine z_callV (av := [.int (1), .long (v3), .int (v5)]) (st := []) wV_NumberOffice_110 e32 (t_BranchSeries_useUpNext hG e23) (by decide) (by decide) d_No_invoice_64 (by simp [z_rfc, z_ci, z_cl, z_cr, z_cn]) ?_
              show Z _ _ _ _ _ _ 67 [(7, .ref (a15)), (6, .ref (a5)), (0, .ref (v0)), (1, .int (v1)), (2, .int (v2)), (3, .long (v3)), (5, .int (v5))] [.int (x24)] _
              refine z_istore (j := 8) (lv' := [(8, .int (x24)), (7, .ref (a15)), (6, .ref (a5)), (0, .ref (v0)), (1, .int (v1)), (2, .int (v2)), (3, .long (v3)), (5, .int (v5))]) d_No_invoice_67 (by decide) rfl ?_
              refine z_iload 0 d_No_invoice_69 rfl ?_
              refine z_iconst (v := (-1)) d_No_invoice_71 rfl ?_
              refine z_icmp_eq (tgt := 80) d_No_invoice_72 rfl (fun c25 => ?_) (fun c25 => ?_)
              · rw [if_pos c25] at h
                refine z_lv (lv' := [(0, .ref (v0)), (1, .int (v1)), (2, .int (v2)), (3, .long (v3)), (5, .int (v5)), (6, va_rf (some (a5))), (7, va_rf (some (a15))), (8, .int (x24))]) [3, 4, 5, 6, 7, 2, 1, 0] rfl ?_
                exact t_No_invoice_80 hG hl   h
              · rw [if_neg c25] at h
                refine z_aload 2 d_No_invoice_75 rfl ?_
                replace h := Option.bind_eq_some_iff.mp h; obtain ⟨_, e29, h⟩ := h
                obtain ⟨b30, f31, e29⟩ := zcls_at (zis_at e29)
                replace h := Option.bind_eq_some_iff.mp h; obtain ⟨σ26, e27, h⟩ := h
                refine z_callV (av := []) (st := []) wV_NumberOffice_98 e29 (t_Branch_save hG e27) (by decide) (by decide) d_No_invoice_77 (by simp [z_rfc, z_ci, z_cl, z_cr, z_cn]) ?_
                show Z _ _ _ _ _ _ 80 [(8, .int (x24)), (7, .ref (a15)), (6, .ref (a5)), (0, .ref (v0)), (1, .int (v1)), (2, .int (v2)), (3, .long (v3)), (5, .int (v5))] [] _
                refine z_lv (lv' := [(0, .ref (v0)), (1, .int (v1)), (2, .int (v2)), (3, .long (v3)), (5, .int (v5)), (6, va_rf (some (a5))), (7, va_rf (some (a15))), (8, .int (x24))]) [3, 4, 5, 6, 7, 2, 1, 0] rfl ?_
                exact t_No_invoice_80 hG hl   h
            · rw [if_pos c21] at h
              refine z_lv (lv' := [(0, .ref (v0)), (1, .int (v1)), (2, .int (v2)), (3, .long (v3)), (5, .int (v5)), (6, va_rf (some (a5))), (7, va_rf (some (a15)))]) [2, 3, 4, 5, 6, 1, 0] rfl ?_
              exact t_No_invoice_56 hG hl   h
    · dsimp only at h
      cases h
      refine z_callS_t (a := a10) (av := [va_rf (some (a5))]) (st := []) wS_NumberOffice_41 (t_No_requireUp hG hl e7) (by decide) (by decide) d_No_invoice_16 (by simp [z_rfc, z_ci, z_cl, z_cr, z_cn]) ?_
      exact zt_out rfl rfl
  · subst c4
    dsimp only at h
    refine z_iconst (v := (-1)) d_No_invoice_12 rfl ?_
    cases h
    exact z_iret rfl rfl d_No_invoice_13

def s_ListText_addNumber_60 (g : zG)  : Nat → Nat → Int64 → Int64 → Int32 → Int32 → zS → Option (zS)
  | 0, _, _, _, _, _, _ => none
  | n + 1, v0, v1, v3, v5, v6, σ => if 20 ≤ v6 then some σ else (zgR σ v0 11 0).bind fun x2 => (zgR σ v0 11 1).bind fun x4 => (x4).bind fun a6 => (zaI σ a6 4 (v6)).bind fun x7 => (x2).bind fun a9 => (zis σ a9 12).bind fun _ => (s_StringBuilder_append g a9 x7 σ).bind fun (x12, σ10) => s_ListText_addNumber_60 g  n (v0) (v1) (v3) (v5) (v6 + 1) σ10
def s_ListText_addNumber_56 (g : zG)  (v0 : Nat) (v1 : Int64) (v3 : Int64) (v5 : Int32) (σ : zS) : Option (zS) := s_ListText_addNumber_60 g  zfuel (v0) (v1) (v3) (v5) (v5) σ
def s_ListText_addNumber_25 (g : zG)  : Nat → Nat → Int64 → Int64 → Int32 → zS → Option (zS)
  | 0, _, _, _, _, _ => none
  | n + 1, v0, v1, v3, v5, σ => (zgR σ v0 11 1).bind fun x1 => (s_ListText_digit g v3 σ).bind fun (x5, σ3) => (x1).bind fun a6 => (zsI σ3 a6 4 (v5 + (-1)) (vp_nar .char x5)).bind fun σ7 => if (lg_cmp (v3 / 10) 0) ≤ 0 then s_ListText_addNumber_56 g  (v0) (v1) (v3 / 10) (v5 + (-1)) σ7 else if 0 < (v5 + (-1)) then s_ListText_addNumber_25 g  n (v0) (v1) (v3 / 10) (v5 + (-1)) σ7 else s_ListText_addNumber_56 g  (v0) (v1) (v3 / 10) (v5 + (-1)) σ7
def s_ListText_addNumber_16 (g : zG)  (v0 : Nat) (v1 : Int64) (σ : zS) : Option (zS) := (some (if 0 < v1 then v1 else -v1)).bind fun x1 => s_ListText_addNumber_25 g  zfuel (v0) (v1) (x1) (20) σ
def s_ListText_addNumber (g : zG) (v0 : Nat) (v1 : Int64) (σ : zS) : Option (zS) := if 0 ≤ (lg_cmp v1 0) then s_ListText_addNumber_16 g  (v0) (v1) σ else (zgR σ v0 11 0).bind fun x2 => (x2).bind fun a4 => (zis σ a4 12).bind fun _ => (s_StringBuilder_append g a4 45 σ).bind fun (x7, σ5) => s_ListText_addNumber_16 g  (v0) (v1) σ5
set_option maxRecDepth 100000 in
theorem t_ListText_addNumber_60 {l : Launch} {D : zD} {g : zG} (hG : zGok g D) {q : zS}   : ∀ (n : Nat) {v0 : Nat} {v1 : Int64} {v3 : Int64} {v5 : Int32} {v6 : Int32} {σ : zS}, s_ListText_addNumber_60 g  n v0 v1 v3 v5 v6 σ = some q → Z l D K_ListText_addNumber 8 179 (.returned none, q) 60 [(0, .ref (v0)), (1, .long (v1)), (3, .long (v3)), (5, .int (v5)), (6, .int (v6))] [] σ := by
  intro n
  induction n with
  | zero =>
    intro v0 v1 v3 v5 v6 σ h
    cases h
  | succ n ih =>
    intro v0 v1 v3 v5 v6 σ h
    first | rw [s_ListText_addNumber_60] at h | (unfold s_ListText_addNumber_60 at h; dsimp only at h)
    refine z_iload 4 d_ListText_addNumber_60 rfl ?_
    refine z_bipush (v := 20) d_ListText_addNumber_62 rfl ?_
    refine z_icmp_ge (tgt := 88) d_ListText_addNumber_64 rfl (fun c1 => ?_) (fun c1 => ?_)
    · rw [if_pos c1] at h
      cases h
      exact z_vret rfl rfl d_ListText_addNumber_88
    · rw [if_neg c1] at h
      refine z_aload_n 0 d_ListText_addNumber_67 rfl rfl ?_
      replace h := Option.bind_eq_some_iff.mp h; obtain ⟨x2, e3, h⟩ := h
      refine z_getR wF_NumberOffice_ListText_12_11 d_ListText_addNumber_68 e3 ?_
      refine z_aload_n 0 d_ListText_addNumber_71 rfl rfl ?_
      replace h := Option.bind_eq_some_iff.mp h; obtain ⟨x4, e5, h⟩ := h
      refine z_getR wF_NumberOffice_ListText_18_11 d_ListText_addNumber_72 e5 ?_
      refine z_iload 4 d_ListText_addNumber_75 rfl ?_
      replace h := Option.bind_eq_some_iff.mp h; obtain ⟨a6, rfl, h⟩ := h
      replace h := Option.bind_eq_some_iff.mp h; obtain ⟨x7, e8, h⟩ := h
      refine z_caload rfl d_ListText_addNumber_77 e8 ?_
      replace h := Option.bind_eq_some_iff.mp h; obtain ⟨a9, rfl, h⟩ := h
      replace h := Option.bind_eq_some_iff.mp h; obtain ⟨_, e13, h⟩ := h
      obtain ⟨b14, f15, e13⟩ := zcls_at (zis_at e13)
      replace h := Option.bind_eq_some_iff.mp h; obtain ⟨⟨x12, σ10⟩, e11, h⟩ := h
      dsimp only at h
      refine z_callV (av := [.int (x7)]) (st := []) wV_NumberOffice_ListText_50 e13 (t_StringBuilder_append hG e11) (by decide) (by decide) d_ListText_addNumber_78 (by simp [z_rfc, z_ci, z_cl, z_cr, z_cn]) ?_
      show Z _ _ _ _ _ _ 81 [(0, .ref (v0)), (1, .long (v1)), (3, .long (v3)), (5, .int (v5)), (6, .int (v6))] [va_rf (x12)] _
      refine z_pop d_ListText_addNumber_81 (z_rfc _) ?_
      refine z_iinc (v := v6 + 1) (lv' := [(6, .int (v6 + 1)), (0, .ref (v0)), (1, .long (v1)), (3, .long (v3)), (5, .int (v5))]) 4 d_ListText_addNumber_82 rfl rfl (by decide) rfl ?_
      refine z_goto (tgt := 60) d_ListText_addNumber_85 rfl ?_
      refine z_lv (lv' := [(0, .ref (v0)), (1, .long (v1)), (3, .long (v3)), (5, .int (v5)), (6, .int (v6 + 1))]) [1, 2, 3, 4, 0] rfl ?_
      exact ih h
set_option maxRecDepth 100000 in
theorem t_ListText_addNumber_56 {l : Launch} {D : zD} {g : zG} (hG : zGok g D) {q : zS}   {v0 : Nat} {v1 : Int64} {v3 : Int64} {v5 : Int32} {σ : zS} (h : s_ListText_addNumber_56 g  v0 v1 v3 v5 σ = some q) : Z l D K_ListText_addNumber 8 179 (.returned none, q) 56 [(0, .ref (v0)), (1, .long (v1)), (3, .long (v3)), (5, .int (v5))] [] σ := by
  unfold s_ListText_addNumber_56 at h
  refine z_iload 3 d_ListText_addNumber_56 rfl ?_
  refine z_istore (j := 6) (lv' := [(6, .int (v5)), (0, .ref (v0)), (1, .long (v1)), (3, .long (v3)), (5, .int (v5))]) d_ListText_addNumber_58 (by decide) rfl ?_
  refine z_lv (lv' := [(0, .ref (v0)), (1, .long (v1)), (3, .long (v3)), (5, .int (v5)), (6, .int (v5))]) [1, 2, 3, 4, 0] rfl ?_
  exact t_ListText_addNumber_60 hG   zfuel h
set_option maxRecDepth 100000 in
theorem t_ListText_addNumber_25 {l : Launch} {D : zD} {g : zG} (hG : zGok g D) {q : zS}   : ∀ (n : Nat) {v0 : Nat} {v1 : Int64} {v3 : Int64} {v5 : Int32} {σ : zS}, s_ListText_addNumber_25 g  n v0 v1 v3 v5 σ = some q → Z l D K_ListText_addNumber 8 179 (.returned none, q) 25 [(0, .ref (v0)), (1, .long (v1)), (3, .long (v3)), (5, .int (v5))] [] σ := by
  intro n
  induction n with
  | zero =>
    intro v0 v1 v3 v5 σ h
    cases h
  | succ n ih =>
    intro v0 v1 v3 v5 σ h
    first | rw [s_ListText_addNumber_25] at h | (unfold s_ListText_addNumber_25 at h; dsimp only at h)
    refine z_iinc (v := v5 + (-1)) (lv' := [(5, .int (v5 + (-1))), (0, .ref (v0)), (1, .long (v1)), (3, .long (v3))]) 3 d_ListText_addNumber_25 rfl rfl (by decide) rfl ?_
    refine z_aload_n 1 d_ListText_addNumber_28 rfl rfl ?_
    replace h := Option.bind_eq_some_iff.mp h; obtain ⟨x1, e2, h⟩ := h
    refine z_getR wF_NumberOffice_ListText_18_11 d_ListText_addNumber_29 e2 ?_
    refine z_iload 0 d_ListText_addNumber_32 rfl ?_
    refine z_lload_n 3 d_ListText_addNumber_34 rfl rfl ?_
    replace h := Option.bind_eq_some_iff.mp h; obtain ⟨⟨x5, σ3⟩, e4, h⟩ := h
    dsimp only at h
    refine z_callS (av := [.long (v3)]) (st := [.int (v5 + (-1)), va_rf (x1)]) wS_NumberOffice_ListText_73 (t_ListText_digit hG e4) (by decide) (by decide) d_ListText_addNumber_35 (by simp [z_rfc, z_ci, z_cl, z_cr, z_cn]) ?_
    show Z _ _ _ _ _ _ 38 [(5, .int (v5 + (-1))), (0, .ref (v0)), (1, .long (v1)), (3, .long (v3))] [.int (x5), .int (v5 + (-1)), va_rf (x1)] _
    replace h := Option.bind_eq_some_iff.mp h; obtain ⟨a6, rfl, h⟩ := h
    replace h := Option.bind_eq_some_iff.mp h; obtain ⟨σ7, e8, h⟩ := h
    refine z_castore rfl d_ListText_addNumber_38 e8 ?_
    refine z_lload_n 3 d_ListText_addNumber_39 rfl rfl ?_
    refine z_ldc2 (v := 10) wC_NumberOffice_ListText_71 d_ListText_addNumber_40 ?_
    refine z_ldiv d_ListText_addNumber_43 (by decide) ?_
    refine z_lstore_n (j := 3) (lv' := [(3, .long (v3 / 10)), (5, .int (v5 + (-1))), (0, .ref (v0)), (1, .long (v1))]) d_ListText_addNumber_44 rfl (by decide) rfl ?_
    refine z_lload_n 0 d_ListText_addNumber_45 rfl rfl ?_
    refine z_lconst (v := 0) d_ListText_addNumber_46 rfl ?_
    refine z_lcmp d_ListText_addNumber_47 ?_
    refine z_if_le (tgt := 56) d_ListText_addNumber_48 rfl (fun c10 => ?_) (fun c10 => ?_)
    · rw [if_pos c10] at h
      refine z_lv (lv' := [(0, .ref (v0)), (1, .long (v1)), (3, .long (v3 / 10)), (5, .int (v5 + (-1)))]) [2, 3, 0, 1] rfl ?_
      exact t_ListText_addNumber_56 hG   h
    · rw [if_neg c10] at h
      refine z_iload 1 d_ListText_addNumber_51 rfl ?_
      refine z_if_gt (tgt := 25) d_ListText_addNumber_53 rfl (fun c11 => ?_) (fun c11 => ?_)
      · rw [if_pos c11] at h
        refine z_lv (lv' := [(0, .ref (v0)), (1, .long (v1)), (3, .long (v3 / 10)), (5, .int (v5 + (-1)))]) [2, 3, 0, 1] rfl ?_
        exact ih h
      · rw [if_neg c11] at h
        refine z_lv (lv' := [(0, .ref (v0)), (1, .long (v1)), (3, .long (v3 / 10)), (5, .int (v5 + (-1)))]) [2, 3, 0, 1] rfl ?_
        exact t_ListText_addNumber_56 hG   h
set_option maxRecDepth 100000 in
theorem t_ListText_addNumber_16 {l : Launch} {D : zD} {g : zG} (hG : zGok g D) {q : zS}   {v0 : Nat} {v1 : Int64} {σ : zS} (h : s_ListText_addNumber_16 g  v0 v1 σ = some q) : Z l D K_ListText_addNumber 8 179 (.returned none, q) 16 [(0, .ref (v0)), (1, .long (v1))] [] σ := by
  unfold s_ListText_addNumber_16 at h
  refine z_lload_n 1 d_ListText_addNumber_16 rfl rfl ?_
  replace h := Option.bind_eq_some_iff.mp h; obtain ⟨x1, e2, h⟩ := h
  refine z_mabs wQ_NumberOffice_ListText_77 (by decide) (by simp [z_rfc, z_ci, z_cl, z_cr, z_cn]) d_ListText_addNumber_17 ?_
  rw [Option.some.inj e2]
  refine z_lstore_n (j := 3) (lv' := [(3, .long (x1)), (0, .ref (v0)), (1, .long (v1))]) d_ListText_addNumber_20 rfl (by decide) rfl ?_
  refine z_bipush (v := 20) d_ListText_addNumber_21 rfl ?_
  refine z_istore (j := 5) (lv' := [(5, .int (20)), (3, .long (x1)), (0, .ref (v0)), (1, .long (v1))]) d_ListText_addNumber_23 (by decide) rfl ?_
  refine z_lv (lv' := [(0, .ref (v0)), (1, .long (v1)), (3, .long (x1)), (5, .int (20))]) [2, 3, 1, 0] rfl ?_
  exact t_ListText_addNumber_25 hG   zfuel h
set_option maxRecDepth 100000 in
theorem t_ListText_addNumber {l : Launch} {D : zD} {g : zG} (hG : zGok g D) {v0 : Nat} {v1 : Int64} {σ : zS} {q : zS} (h : s_ListText_addNumber g v0 v1 σ = some q) : zMet l D Y_ListText_addNumber K_ListText_addNumber 8 179 [.ref (v0), .long (v1)] σ (.returned none, q) := by
  refine zMet.ofZ (by decide) rfl (fun q => by cases q) (Nat.le_of_ble_eq_true rfl) ?_
  show Z _ _ _ _ _ _ 0 [(0, .ref (v0)), (1, .long (v1))] [] _
  unfold s_ListText_addNumber at h
  refine z_lload_n 1 d_ListText_addNumber_0 rfl rfl ?_
  refine z_lconst (v := 0) d_ListText_addNumber_1 rfl ?_
  refine z_lcmp d_ListText_addNumber_2 ?_
  refine z_if_ge (tgt := 16) d_ListText_addNumber_3 rfl (fun c1 => ?_) (fun c1 => ?_)
  · rw [if_pos c1] at h
    refine z_lv (lv' := [(0, .ref (v0)), (1, .long (v1))]) [0, 1] rfl ?_
    exact t_ListText_addNumber_16 hG   h
  · rw [if_neg c1] at h
    refine z_aload_n 0 d_ListText_addNumber_6 rfl rfl ?_
    replace h := Option.bind_eq_some_iff.mp h; obtain ⟨x2, e3, h⟩ := h
    refine z_getR wF_NumberOffice_ListText_12_11 d_ListText_addNumber_7 e3 ?_
    refine z_bipush (v := 45) d_ListText_addNumber_10 rfl ?_
    replace h := Option.bind_eq_some_iff.mp h; obtain ⟨a4, rfl, h⟩ := h
    replace h := Option.bind_eq_some_iff.mp h; obtain ⟨_, e8, h⟩ := h
    obtain ⟨b9, f10, e8⟩ := zcls_at (zis_at e8)
    replace h := Option.bind_eq_some_iff.mp h; obtain ⟨⟨x7, σ5⟩, e6, h⟩ := h
    dsimp only at h
    refine z_callV (av := [.int (45)]) (st := []) wV_NumberOffice_ListText_50 e8 (t_StringBuilder_append hG e6) (by decide) (by decide) d_ListText_addNumber_12 (by simp [z_rfc, z_ci, z_cl, z_cr, z_cn]) ?_
    show Z _ _ _ _ _ _ 15 [(0, .ref (v0)), (1, .long (v1))] [va_rf (x7)] _
    refine z_pop d_ListText_addNumber_15 (z_rfc _) ?_
    refine z_lv (lv' := [(0, .ref (v0)), (1, .long (v1))]) [0, 1] rfl ?_
    exact t_ListText_addNumber_16 hG   h

def s_ListText_addAmount (g : zG) (v0 : Nat) (v1 : Int64) (σ : zS) : Option (zS) := (zis σ v0 11).bind fun _ => (s_ListText_addNumber g v0 (v1 / 100) σ).bind fun σ2 => (zgR σ2 v0 11 0).bind fun x5 => (x5).bind fun a7 => (zis σ2 a7 12).bind fun _ => (s_StringBuilder_append g a7 46 σ2).bind fun (x10, σ8) => (zgR σ8 v0 11 0).bind fun x11 => (s_ListText_digit g (v1 / 10) σ8).bind fun (x16, σ14) => (x11).bind fun a17 => (zis σ14 a17 12).bind fun _ => (s_StringBuilder_append g a17 x16 σ14).bind fun (x20, σ18) => (zgR σ18 v0 11 0).bind fun x21 => (s_ListText_digit g v1 σ18).bind fun (x25, σ23) => (x21).bind fun a26 => (zis σ23 a26 12).bind fun _ => (s_StringBuilder_append g a26 x25 σ23).bind fun (x29, σ27) => some σ27
set_option maxRecDepth 100000 in
theorem t_ListText_addAmount {l : Launch} {D : zD} {g : zG} (hG : zGok g D) {v0 : Nat} {v1 : Int64} {σ : zS} {q : zS} (h : s_ListText_addAmount g v0 v1 σ = some q) : zMet l D Y_ListText_addAmount K_ListText_addAmount 9 205 [.ref (v0), .long (v1)] σ (.returned none, q) := by
  refine zMet.ofZ (by decide) rfl (fun q => by cases q) (Nat.le_of_ble_eq_true rfl) ?_
  show Z _ _ _ _ _ _ 0 [(0, .ref (v0)), (1, .long (v1))] [] _
  unfold s_ListText_addAmount at h
  refine z_aload_n 0 d_ListText_addAmount_0 rfl rfl ?_
  refine z_lload_n 1 d_ListText_addAmount_1 rfl rfl ?_
  refine z_ldc2 (v := 100) wC_NumberOffice_ListText_69 d_ListText_addAmount_2 ?_
  refine z_ldiv d_ListText_addAmount_5 (by decide) ?_
  replace h := Option.bind_eq_some_iff.mp h; obtain ⟨_, e39, h⟩ := h
  obtain ⟨b40, f41, e39⟩ := zcls_at (zis_at e39)
  replace h := Option.bind_eq_some_iff.mp h; obtain ⟨σ2, e3, h⟩ := h
  refine z_callV (av := [.long (v1 / 100)]) (st := []) wV_NumberOffice_ListText_56 e39 (t_ListText_addNumber hG e3) (by decide) (by decide) d_ListText_addAmount_6 (by simp [z_rfc, z_ci, z_cl, z_cr, z_cn]) ?_
  show Z _ _ _ _ _ _ 9 [(0, .ref (v0)), (1, .long (v1))] [] _
  refine z_aload_n 0 d_ListText_addAmount_9 rfl rfl ?_
  replace h := Option.bind_eq_some_iff.mp h; obtain ⟨x5, e6, h⟩ := h
  refine z_getR wF_NumberOffice_ListText_12_11 d_ListText_addAmount_10 e6 ?_
  refine z_bipush (v := 46) d_ListText_addAmount_13 rfl ?_
  replace h := Option.bind_eq_some_iff.mp h; obtain ⟨a7, rfl, h⟩ := h
  replace h := Option.bind_eq_some_iff.mp h; obtain ⟨_, e36, h⟩ := h
  obtain ⟨b37, f38, e36⟩ := zcls_at (zis_at e36)
  replace h := Option.bind_eq_some_iff.mp h; obtain ⟨⟨x10, σ8⟩, e9, h⟩ := h
  dsimp only at h
  refine z_callV (av := [.int (46)]) (st := []) wV_NumberOffice_ListText_50 e36 (t_StringBuilder_append hG e9) (by decide) (by decide) d_ListText_addAmount_15 (by simp [z_rfc, z_ci, z_cl, z_cr, z_cn]) ?_
  show Z _ _ _ _ _ _ 18 [(0, .ref (v0)), (1, .long (v1))] [va_rf (x10)] _
  refine z_pop d_ListText_addAmount_18 (z_rfc _) ?_
  refine z_aload_n 0 d_ListText_addAmount_19 rfl rfl ?_
  replace h := Option.bind_eq_some_iff.mp h; obtain ⟨x11, e12, h⟩ := h
  refine z_getR wF_NumberOffice_ListText_12_11 d_ListText_addAmount_20 e12 ?_
  refine z_lload_n 1 d_ListText_addAmount_23 rfl rfl ?_
  refine z_ldc2 (v := 10) wC_NumberOffice_ListText_71 d_ListText_addAmount_24 ?_
  refine z_ldiv d_ListText_addAmount_27 (by decide) ?_
  replace h := Option.bind_eq_some_iff.mp h; obtain ⟨⟨x16, σ14⟩, e15, h⟩ := h
  dsimp only at h
  refine z_callS (av := [.long (v1 / 10)]) (st := [va_rf (x11)]) wS_NumberOffice_ListText_73 (t_ListText_digit hG e15) (by decide) (by decide) d_ListText_addAmount_28 (by simp [z_rfc, z_ci, z_cl, z_cr, z_cn]) ?_
  show Z _ _ _ _ _ _ 31 [(0, .ref (v0)), (1, .long (v1))] [.int (x16), va_rf (x11)] _
  replace h := Option.bind_eq_some_iff.mp h; obtain ⟨a17, rfl, h⟩ := h
  replace h := Option.bind_eq_some_iff.mp h; obtain ⟨_, e33, h⟩ := h
  obtain ⟨b34, f35, e33⟩ := zcls_at (zis_at e33)
  replace h := Option.bind_eq_some_iff.mp h; obtain ⟨⟨x20, σ18⟩, e19, h⟩ := h
  dsimp only at h
  refine z_callV (av := [.int (x16)]) (st := []) wV_NumberOffice_ListText_50 e33 (t_StringBuilder_append hG e19) (by decide) (by decide) d_ListText_addAmount_31 (by simp [z_rfc, z_ci, z_cl, z_cr, z_cn]) ?_
  show Z _ _ _ _ _ _ 34 [(0, .ref (v0)), (1, .long (v1))] [va_rf (x20)] _
  refine z_pop d_ListText_addAmount_34 (z_rfc _) ?_
  refine z_aload_n 0 d_ListText_addAmount_35 rfl rfl ?_
  replace h := Option.bind_eq_some_iff.mp h; obtain ⟨x21, e22, h⟩ := h
  refine z_getR wF_NumberOffice_ListText_12_11 d_ListText_addAmount_36 e22 ?_
  refine z_lload_n 1 d_ListText_addAmount_39 rfl rfl ?_
  replace h := Option.bind_eq_some_iff.mp h; obtain ⟨⟨x25, σ23⟩, e24, h⟩ := h
  dsimp only at h
  refine z_callS (av := [.long (v1)]) (st := [va_rf (x21)]) wS_NumberOffice_ListText_73 (t_ListText_digit hG e24) (by decide) (by decide) d_ListText_addAmount_40 (by simp [z_rfc, z_ci, z_cl, z_cr, z_cn]) ?_
  show Z _ _ _ _ _ _ 43 [(0, .ref (v0)), (1, .long (v1))] [.int (x25), va_rf (x21)] _
  replace h := Option.bind_eq_some_iff.mp h; obtain ⟨a26, rfl, h⟩ := h
  replace h := Option.bind_eq_some_iff.mp h; obtain ⟨_, e30, h⟩ := h
  obtain ⟨b31, f32, e30⟩ := zcls_at (zis_at e30)
  replace h := Option.bind_eq_some_iff.mp h; obtain ⟨⟨x29, σ27⟩, e28, h⟩ := h
  dsimp only at h
  refine z_callV (av := [.int (x25)]) (st := []) wV_NumberOffice_ListText_50 e30 (t_StringBuilder_append hG e28) (by decide) (by decide) d_ListText_addAmount_43 (by simp [z_rfc, z_ci, z_cl, z_cr, z_cn]) ?_
  show Z _ _ _ _ _ _ 46 [(0, .ref (v0)), (1, .long (v1))] [va_rf (x29)] _
  refine z_pop d_ListText_addAmount_46 (z_rfc _) ?_
  cases h
  exact z_vret rfl rfl d_ListText_addAmount_47

def s_ListText_addLine_112 (g : zG)  (v0 : Nat) (v1 : Option Nat) (v2 : Int32) (σ : zS) : Option (zS) := (zgR σ v0 11 0).bind fun x1 => (x1).bind fun a3 => (zis σ a3 12).bind fun _ => (s_StringBuilder_append g a3 10 σ).bind fun (x6, σ4) => some σ4
def s_ListText_addLine (g : zG) (v0 : Nat) (v1 : Option Nat) (v2 : Int32) (σ : zS) : Option (zS) := (zis σ v0 11).bind fun _ => (s_ListText_addNumber g v0 (v2.toInt64) σ).bind fun σ1 => (v1).bind fun a4 => (zis σ1 a4 5).bind fun _ => (s_SeriesBook_fateOf g a4 v2 σ1).bind fun (x7, σ5) => if (x7 : Int32) = 2 then (zgR σ5 v0 11 0).bind fun x44 => (g 22).bind fun a46 => (x44).bind fun a48 => (zis σ5 a48 12).bind fun _ => (s_StringBuilder_append2 g a48 (some (a46)) σ5).bind fun (x51, σ49) => (zis σ49 a4 5).bind fun _ => (s_SeriesBook_fieldOf g a4 v2 0 σ49).bind fun (x54, σ52) => (zis σ52 v0 11).bind fun _ => (s_ListText_addAmount g v0 x54 σ52).bind fun σ55 => (zgR σ55 v0 11 0).bind fun x58 => (x58).bind fun a60 => (zis σ55 a60 12).bind fun _ => (s_StringBuilder_append g a60 32 σ55).bind fun (x63, σ61) => (zis σ61 a4 5).bind fun _ => (s_SeriesBook_fieldOf g a4 v2 1 σ61).bind fun (x66, σ64) => (zis σ64 v0 11).bind fun _ => (s_ListText_addNumber g v0 x66 σ64).bind fun σ67 => s_ListText_addLine_112 g  (v0) (some (a4)) (v2) σ67 else if (x7 : Int32) = 3 then (zgR σ5 v0 11 0).bind fun x21 => (g 23).bind fun a23 => (x21).bind fun a25 => (zis σ5 a25 12).bind fun _ => (s_StringBuilder_append2 g a25 (some (a23)) σ5).bind fun (x28, σ26) => (zis σ26 a4 5).bind fun _ => (s_SeriesBook_fieldOf g a4 v2 3 σ26).bind fun (x31, σ29) => (zis σ29 v0 11).bind fun _ => (s_ListText_addNumber g v0 x31 σ29).bind fun σ32 => s_ListText_addLine_112 g  (v0) (some (a4)) (v2) σ32 else (zgR σ5 v0 11 0).bind fun x10 => (g 24).bind fun a12 => (x10).bind fun a14 => (zis σ5 a14 12).bind fun _ => (s_StringBuilder_append2 g a14 (some (a12)) σ5).bind fun (x17, σ15) => s_ListText_addLine_112 g  (v0) (some (a4)) (v2) σ15
set_option maxRecDepth 100000 in
theorem t_ListText_addLine_112 {l : Launch} {D : zD} {g : zG} (hG : zGok g D) {q : zS}   {v0 : Nat} {v1 : Option Nat} {v2 : Int32} {σ : zS} (h : s_ListText_addLine_112 g  v0 v1 v2 σ = some q) : Z l D K_ListText_addLine 10 227 (.returned none, q) 112 [(0, .ref (v0)), (1, va_rf (v1)), (2, .int (v2))] [] σ := by
  unfold s_ListText_addLine_112 at h
  refine z_aload_n 0 d_ListText_addLine_112 rfl rfl ?_
  replace h := Option.bind_eq_some_iff.mp h; obtain ⟨x1, e2, h⟩ := h
  refine z_getR wF_NumberOffice_ListText_12_11 d_ListText_addLine_113 e2 ?_
  refine z_bipush (v := 10) d_ListText_addLine_116 rfl ?_
  replace h := Option.bind_eq_some_iff.mp h; obtain ⟨a3, rfl, h⟩ := h
  replace h := Option.bind_eq_some_iff.mp h; obtain ⟨_, e7, h⟩ := h
  obtain ⟨b8, f9, e7⟩ := zcls_at (zis_at e7)
  replace h := Option.bind_eq_some_iff.mp h; obtain ⟨⟨x6, σ4⟩, e5, h⟩ := h
  dsimp only at h
  refine z_callV (av := [.int (10)]) (st := []) wV_NumberOffice_ListText_50 e7 (t_StringBuilder_append hG e5) (by decide) (by decide) d_ListText_addLine_118 (by simp [z_rfc, z_ci, z_cl, z_cr, z_cn]) ?_
  show Z _ _ _ _ _ _ 121 [(0, .ref (v0)), (1, va_rf (v1)), (2, .int (v2))] [va_rf (x6)] _
  refine z_pop d_ListText_addLine_121 (z_rfc _) ?_
  cases h
  exact z_vret rfl rfl d_ListText_addLine_122
set_option maxRecDepth 100000 in
theorem t_ListText_addLine {l : Launch} {D : zD} {g : zG} (hG : zGok g D) {v0 : Nat} {v1 : Option Nat} {v2 : Int32} {σ : zS} {q : zS} (h : s_ListText_addLine g v0 v1 v2 σ = some q) : zMet l D Y_ListText_addLine K_ListText_addLine 10 227 [.ref (v0), va_rf (v1), .int (v2)] σ (.returned none, q) := by
  refine zMet.ofZ (by decide) rfl (fun q => by cases q) (by simp [lg_sl, z_rfc, z_ci, z_cl, z_cr, z_cn]) ?_
  rw [show lv_args 0 ([.ref (v0), va_rf (v1), .int (v2)] : List Value) = [(0, .ref (v0)), (1, va_rf (v1)), (2, .int (v2))] from by simp [lv_args, z_rfc, z_ci, z_cl, z_cr, z_cn]]
  unfold s_ListText_addLine at h
  refine z_aload_n 0 d_ListText_addLine_0 rfl rfl ?_
  refine z_iload_n 2 d_ListText_addLine_1 rfl rfl ?_
  refine z_i2l d_ListText_addLine_2 ?_
  replace h := Option.bind_eq_some_iff.mp h; obtain ⟨_, e91, h⟩ := h
  obtain ⟨b92, f93, e91⟩ := zcls_at (zis_at e91)
  replace h := Option.bind_eq_some_iff.mp h; obtain ⟨σ1, e2, h⟩ := h
  refine z_callV (av := [.long (v2.toInt64)]) (st := []) wV_NumberOffice_ListText_56 e91 (t_ListText_addNumber hG e2) (by decide) (by decide) d_ListText_addLine_3 (by simp [z_rfc, z_ci, z_cl, z_cr, z_cn]) ?_
  show Z _ _ _ _ _ _ 6 [(0, .ref (v0)), (1, va_rf (v1)), (2, .int (v2))] [] _
  refine z_aload_nR 1 d_ListText_addLine_6 rfl rfl ?_
  refine z_iload_n 2 d_ListText_addLine_7 rfl rfl ?_
  replace h := Option.bind_eq_some_iff.mp h; obtain ⟨a4, rfl, h⟩ := h
  replace h := Option.bind_eq_some_iff.mp h; obtain ⟨_, e88, h⟩ := h
  obtain ⟨b89, f90, e88⟩ := zcls_at (zis_at e88)
  replace h := Option.bind_eq_some_iff.mp h; obtain ⟨⟨x7, σ5⟩, e6, h⟩ := h
  dsimp only at h
  refine z_callV (av := [.int (v2)]) (st := []) wV_NumberOffice_ListText_32 e88 (t_SeriesBook_fateOf hG e6) (by decide) (by decide) d_ListText_addLine_8 (by simp [z_rfc, z_ci, z_cl, z_cr, z_cn]) ?_
  show Z _ _ _ _ _ _ 11 [(0, .ref (v0)), (1, .ref (a4)), (2, .int (v2))] [.int (x7)] _
  by_cases c8 : (x7 : Int32) = 2
  · rw [if_pos c8] at h
    refine z_lookup (off := 25) (tgt := 36) d_ListText_addLine_11 (by decide) (by rw [c8]; rfl) rfl ?_
    refine z_aload_n 0 d_ListText_addLine_36 rfl rfl ?_
    replace h := Option.bind_eq_some_iff.mp h; obtain ⟨x44, e45, h⟩ := h
    refine z_getR wF_NumberOffice_ListText_12_11 d_ListText_addLine_37 e45 ?_
    replace h := Option.bind_eq_some_iff.mp h; obtain ⟨a46, e47, h⟩ := h
    refine z_ldcS (zG_10 hG _ e47) d_ListText_addLine_40 ?_
    replace h := Option.bind_eq_some_iff.mp h; obtain ⟨a48, rfl, h⟩ := h
    replace h := Option.bind_eq_some_iff.mp h; obtain ⟨_, e85, h⟩ := h
    obtain ⟨b86, f87, e85⟩ := zcls_at (zis_at e85)
    replace h := Option.bind_eq_some_iff.mp h; obtain ⟨⟨x51, σ49⟩, e50, h⟩ := h
    dsimp only at h
    refine z_callV (av := [va_rf (some (a46))]) (st := []) wV_NumberOffice_ListText_42 e85 (t_StringBuilder_append2 hG e50) (by decide) (by decide) d_ListText_addLine_42 (by simp [z_rfc, z_ci, z_cl, z_cr, z_cn]) ?_
    show Z _ _ _ _ _ _ 45 [(0, .ref (v0)), (1, .ref (a4)), (2, .int (v2))] [va_rf (x51)] _
    refine z_pop d_ListText_addLine_45 (z_rfc _) ?_
    refine z_aload_n 0 d_ListText_addLine_46 rfl rfl ?_
    refine z_aload_n 1 d_ListText_addLine_47 rfl rfl ?_
    refine z_iload_n 2 d_ListText_addLine_48 rfl rfl ?_
    refine z_iconst (v := 0) d_ListText_addLine_49 rfl ?_
    replace h := Option.bind_eq_some_iff.mp h; obtain ⟨_, e82, h⟩ := h
    obtain ⟨b83, f84, e82⟩ := zcls_at (zis_at e82)
    replace h := Option.bind_eq_some_iff.mp h; obtain ⟨⟨x54, σ52⟩, e53, h⟩ := h
    dsimp only at h
    refine z_callV (av := [.int (v2), .int (0)]) (st := [.ref (v0)]) wV_NumberOffice_ListText_36 e82 (t_SeriesBook_fieldOf hG e53) (by decide) (by decide) d_ListText_addLine_50 (by simp [z_rfc, z_ci, z_cl, z_cr, z_cn]) ?_
    show Z _ _ _ _ _ _ 53 [(0, .ref (v0)), (1, .ref (a4)), (2, .int (v2))] [.long (x54), .ref (v0)] _
    replace h := Option.bind_eq_some_iff.mp h; obtain ⟨_, e79, h⟩ := h
    obtain ⟨b80, f81, e79⟩ := zcls_at (zis_at e79)
    replace h := Option.bind_eq_some_iff.mp h; obtain ⟨σ55, e56, h⟩ := h
    refine z_callV (av := [.long (x54)]) (st := []) wV_NumberOffice_ListText_46 e79 (t_ListText_addAmount hG e56) (by decide) (by decide) d_ListText_addLine_53 (by simp [z_rfc, z_ci, z_cl, z_cr, z_cn]) ?_
    show Z _ _ _ _ _ _ 56 [(0, .ref (v0)), (1, .ref (a4)), (2, .int (v2))] [] _
    refine z_aload_n 0 d_ListText_addLine_56 rfl rfl ?_
    replace h := Option.bind_eq_some_iff.mp h; obtain ⟨x58, e59, h⟩ := h
    refine z_getR wF_NumberOffice_ListText_12_11 d_ListText_addLine_57 e59 ?_
    refine z_bipush (v := 32) d_ListText_addLine_60 rfl ?_
    replace h := Option.bind_eq_some_iff.mp h; obtain ⟨a60, rfl, h⟩ := h
    replace h := Option.bind_eq_some_iff.mp h; obtain ⟨_, e76, h⟩ := h
    obtain ⟨b77, f78, e76⟩ := zcls_at (zis_at e76)
    replace h := Option.bind_eq_some_iff.mp h; obtain ⟨⟨x63, σ61⟩, e62, h⟩ := h
    dsimp only at h
    refine z_callV (av := [.int (32)]) (st := []) wV_NumberOffice_ListText_50 e76 (t_StringBuilder_append hG e62) (by decide) (by decide) d_ListText_addLine_62 (by simp [z_rfc, z_ci, z_cl, z_cr, z_cn]) ?_
    show Z _ _ _ _ _ _ 65 [(0, .ref (v0)), (1, .ref (a4)), (2, .int (v2))] [va_rf (x63)] _
    refine z_pop d_ListText_addLine_65 (z_rfc _) ?_
    refine z_aload_n 0 d_ListText_addLine_66 rfl rfl ?_
    refine z_aload_n 1 d_ListText_addLine_67 rfl rfl ?_
    refine z_iload_n 2 d_ListText_addLine_68 rfl rfl ?_
    refine z_iconst (v := 1) d_ListText_addLine_69 rfl ?_
    replace h := Option.bind_eq_some_iff.mp h; obtain ⟨_, e73, h⟩ := h
    obtain ⟨b74, f75, e73⟩ := zcls_at (zis_at e73)
    replace h := Option.bind_eq_some_iff.mp h; obtain ⟨⟨x66, σ64⟩, e65, h⟩ := h
    dsimp only at h
    refine z_callV (av := [.int (v2), .int (1)]) (st := [.ref (v0)]) wV_NumberOffice_ListText_36 e73 (t_SeriesBook_fieldOf hG e65) (by decide) (by decide) d_ListText_addLine_70 (by simp [z_rfc, z_ci, z_cl, z_cr, z_cn]) ?_
    show Z _ _ _ _ _ _ 73 [(0, .ref (v0)), (1, .ref (a4)), (2, .int (v2))] [.long (x66), .ref (v0)] _
    replace h := Option.bind_eq_some_iff.mp h; obtain ⟨_, e70, h⟩ := h
    obtain ⟨b71, f72, e70⟩ := zcls_at (zis_at e70)
    replace h := Option.bind_eq_some_iff.mp h; obtain ⟨σ67, e68, h⟩ := h
    refine z_callV (av := [.long (x66)]) (st := []) wV_NumberOffice_ListText_56 e70 (t_ListText_addNumber hG e68) (by decide) (by decide) d_ListText_addLine_73 (by simp [z_rfc, z_ci, z_cl, z_cr, z_cn]) ?_
    show Z _ _ _ _ _ _ 76 [(0, .ref (v0)), (1, .ref (a4)), (2, .int (v2))] [] _
    refine z_goto (tgt := 112) d_ListText_addLine_76 rfl ?_
    refine z_lv (lv' := [(0, .ref (v0)), (1, va_rf (some (a4))), (2, .int (v2))]) [0, 1, 2] rfl ?_
    exact t_ListText_addLine_112 hG   h
  · rw [if_neg c8] at h
    by_cases c9 : (x7 : Int32) = 3
    · rw [if_pos c9] at h
      refine z_lookup (off := 68) (tgt := 79) d_ListText_addLine_11 (by decide) (by rw [c9]; rfl) rfl ?_
      refine z_aload_n 0 d_ListText_addLine_79 rfl rfl ?_
      replace h := Option.bind_eq_some_iff.mp h; obtain ⟨x21, e22, h⟩ := h
      refine z_getR wF_NumberOffice_ListText_12_11 d_ListText_addLine_80 e22 ?_
      replace h := Option.bind_eq_some_iff.mp h; obtain ⟨a23, e24, h⟩ := h
      refine z_ldcS (zG_11 hG _ e24) d_ListText_addLine_83 ?_
      replace h := Option.bind_eq_some_iff.mp h; obtain ⟨a25, rfl, h⟩ := h
      replace h := Option.bind_eq_some_iff.mp h; obtain ⟨_, e41, h⟩ := h
      obtain ⟨b42, f43, e41⟩ := zcls_at (zis_at e41)
      replace h := Option.bind_eq_some_iff.mp h; obtain ⟨⟨x28, σ26⟩, e27, h⟩ := h
      dsimp only at h
      refine z_callV (av := [va_rf (some (a23))]) (st := []) wV_NumberOffice_ListText_42 e41 (t_StringBuilder_append2 hG e27) (by decide) (by decide) d_ListText_addLine_85 (by simp [z_rfc, z_ci, z_cl, z_cr, z_cn]) ?_
      show Z _ _ _ _ _ _ 88 [(0, .ref (v0)), (1, .ref (a4)), (2, .int (v2))] [va_rf (x28)] _
      refine z_pop d_ListText_addLine_88 (z_rfc _) ?_
      refine z_aload_n 0 d_ListText_addLine_89 rfl rfl ?_
      refine z_aload_n 1 d_ListText_addLine_90 rfl rfl ?_
      refine z_iload_n 2 d_ListText_addLine_91 rfl rfl ?_
      refine z_iconst (v := 3) d_ListText_addLine_92 rfl ?_
      replace h := Option.bind_eq_some_iff.mp h; obtain ⟨_, e38, h⟩ := h
      obtain ⟨b39, f40, e38⟩ := zcls_at (zis_at e38)
      replace h := Option.bind_eq_some_iff.mp h; obtain ⟨⟨x31, σ29⟩, e30, h⟩ := h
      dsimp only at h
      refine z_callV (av := [.int (v2), .int (3)]) (st := [.ref (v0)]) wV_NumberOffice_ListText_36 e38 (t_SeriesBook_fieldOf hG e30) (by decide) (by decide) d_ListText_addLine_93 (by simp [z_rfc, z_ci, z_cl, z_cr, z_cn]) ?_
      show Z _ _ _ _ _ _ 96 [(0, .ref (v0)), (1, .ref (a4)), (2, .int (v2))] [.long (x31), .ref (v0)] _
      replace h := Option.bind_eq_some_iff.mp h; obtain ⟨_, e35, h⟩ := h
      obtain ⟨b36, f37, e35⟩ := zcls_at (zis_at e35)
      replace h := Option.bind_eq_some_iff.mp h; obtain ⟨σ32, e33, h⟩ := h
      refine z_callV (av := [.long (x31)]) (st := []) wV_NumberOffice_ListText_56 e35 (t_ListText_addNumber hG e33) (by decide) (by decide) d_ListText_addLine_96 (by simp [z_rfc, z_ci, z_cl, z_cr, z_cn]) ?_
      show Z _ _ _ _ _ _ 99 [(0, .ref (v0)), (1, .ref (a4)), (2, .int (v2))] [] _
      refine z_goto (tgt := 112) d_ListText_addLine_99 rfl ?_
      refine z_lv (lv' := [(0, .ref (v0)), (1, va_rf (some (a4))), (2, .int (v2))]) [0, 1, 2] rfl ?_
      exact t_ListText_addLine_112 hG   h
    · rw [if_neg c9] at h
      have fc8 : ¬ ((2 : Int) = (x7 : Int32).toInt) := fun q => c8 (Int32.toInt_inj.mp q.symm)
      have fc9 : ¬ ((3 : Int) = (x7 : Int32).toInt) := fun q => c9 (Int32.toInt_inj.mp q.symm)
      refine z_lookup (off := 91) (tgt := 102) d_ListText_addLine_11 (by decide) (by simp [Op.lookupswitch.offset, fc8, fc9]) rfl ?_
      refine z_aload_n 0 d_ListText_addLine_102 rfl rfl ?_
      replace h := Option.bind_eq_some_iff.mp h; obtain ⟨x10, e11, h⟩ := h
      refine z_getR wF_NumberOffice_ListText_12_11 d_ListText_addLine_103 e11 ?_
      replace h := Option.bind_eq_some_iff.mp h; obtain ⟨a12, e13, h⟩ := h
      refine z_ldcS (zG_12 hG _ e13) d_ListText_addLine_106 ?_
      replace h := Option.bind_eq_some_iff.mp h; obtain ⟨a14, rfl, h⟩ := h
      replace h := Option.bind_eq_some_iff.mp h; obtain ⟨_, e18, h⟩ := h
      obtain ⟨b19, f20, e18⟩ := zcls_at (zis_at e18)
      replace h := Option.bind_eq_some_iff.mp h; obtain ⟨⟨x17, σ15⟩, e16, h⟩ := h
      dsimp only at h
      refine z_callV (av := [va_rf (some (a12))]) (st := []) wV_NumberOffice_ListText_42 e18 (t_StringBuilder_append2 hG e16) (by decide) (by decide) d_ListText_addLine_108 (by simp [z_rfc, z_ci, z_cl, z_cr, z_cn]) ?_
      show Z _ _ _ _ _ _ 111 [(0, .ref (v0)), (1, .ref (a4)), (2, .int (v2))] [va_rf (x17)] _
      refine z_pop d_ListText_addLine_111 (z_rfc _) ?_
      refine z_lv (lv' := [(0, .ref (v0)), (1, va_rf (some (a4))), (2, .int (v2))]) [0, 1, 2] rfl ?_
      exact t_ListText_addLine_112 hG   h

def s_ListText_write_41 (g : zG) (k5 : Nat → Option Nat → Int64 → Int32 → zS → Option (Option Nat × zS)) (v0 : Nat) (v1 : Option Nat) (v2 : Int64) (v4 : Int32) (σ : zS) : Option (Option Nat × zS) := k5 (v0) (v1) (v2) (v4 + 1) σ
def s_ListText_write_5 (g : zG)  : Nat → Nat → Option Nat → Int64 → Int32 → zS → Option (Option Nat × zS)
  | 0, _, _, _, _, _ => none
  | n + 1, v0, v1, v2, v4, σ => (v1).bind fun a1 => (zgI σ a1 5 2).bind fun x2 => if x2 < v4 then (zgR σ v0 11 0).bind fun x5 => (g 25).bind fun a7 => (x5).bind fun a9 => (zis σ a9 12).bind fun _ => (s_StringBuilder_append2 g a9 (some (a7)) σ).bind fun (x12, σ10) => (zis σ10 v0 11).bind fun _ => (s_ListText_addAmount g v0 v2 σ10).bind fun σ13 => (zgR σ13 v0 11 0).bind fun x16 => (x16).bind fun a18 => (zis σ13 a18 12).bind fun _ => (s_StringBuilder_append g a18 32 σ13).bind fun (x21, σ19) => (zgI σ19 a1 5 1).bind fun x22 => (zis σ19 v0 11).bind fun _ => (s_ListText_addNumber g v0 (x22.toInt64) σ19).bind fun σ24 => (zgR σ24 v0 11 0).bind fun x27 => (x27).bind fun a29 => (zis σ24 a29 12).bind fun _ => (s_StringBuilder_append g a29 10 σ24).bind fun (x32, σ30) => (zgR σ30 v0 11 0).bind fun x33 => (x33).bind fun a35 => (zis σ30 a35 12).bind fun _ => (s_StringBuilder_toString g a35  σ30).bind fun (x38, σ36) => some (x38, σ36) else (zis σ v0 11).bind fun _ => (s_ListText_addLine g v0 (some (a1)) v4 σ).bind fun σ57 => (zis σ57 a1 5).bind fun _ => (s_SeriesBook_fateOf g a1 v4 σ57).bind fun (x62, σ60) => if x62 = 2 then (zis σ60 a1 5).bind fun _ => (s_SeriesBook_fieldOf g a1 v4 0 σ60).bind fun (x66, σ64) => s_ListText_write_41 g (fun v0 v1 v2 v4 σ => s_ListText_write_5 g  n v0 v1 v2 v4 σ) (v0) (some (a1)) (v2 + x66) (v4) σ64 else s_ListText_write_41 g (fun v0 v1 v2 v4 σ => s_ListText_write_5 g  n v0 v1 v2 v4 σ) (v0) (some (a1)) (v2) (v4) σ60
def s_ListText_write (g : zG) (v0 : Nat) (v1 : Option Nat) (σ : zS) : Option (Option Nat × zS) := s_ListText_write_5 g  zfuel (v0) (v1) (0) (1) σ
set_option maxRecDepth 100000 in
theorem t_ListText_write_41 {l : Launch} {D : zD} {g : zG} (hG : zGok g D) {q : Option Nat × zS} (k5 : Nat → Option Nat → Int64 → Int32 → zS → Option (Option Nat × zS)) (hk5 : ∀ {v0 : Nat} {v1 : Option Nat} {v2 : Int64} {v4 : Int32} {σ : zS}, k5 v0 v1 v2 v4 σ = some q → Z l D K_ListText_write 11 249 (.returned (some (va_rf q.1)), q.2) 5 [(0, .ref (v0)), (1, va_rf (v1)), (2, .long (v2)), (4, .int (v4))] [] σ) {v0 : Nat} {v1 : Option Nat} {v2 : Int64} {v4 : Int32} {σ : zS} (h : s_ListText_write_41 g k5 v0 v1 v2 v4 σ = some q) : Z l D K_ListText_write 11 249 (.returned (some (va_rf q.1)), q.2) 41 [(0, .ref (v0)), (1, va_rf (v1)), (2, .long (v2)), (4, .int (v4))] [] σ := by
  unfold s_ListText_write_41 at h
  refine z_iinc (v := v4 + 1) (lv' := [(4, .int (v4 + 1)), (0, .ref (v0)), (1, va_rf (v1)), (2, .long (v2))]) 3 d_ListText_write_41 rfl rfl (by decide) rfl ?_
  refine z_goto (tgt := 5) d_ListText_write_44 rfl ?_
  refine z_lv (lv' := [(0, .ref (v0)), (1, va_rf (v1)), (2, .long (v2)), (4, .int (v4 + 1))]) [1, 2, 3, 0] rfl ?_
  exact hk5 h
set_option maxRecDepth 100000 in
theorem t_ListText_write_5 {l : Launch} {D : zD} {g : zG} (hG : zGok g D) {q : Option Nat × zS}   : ∀ (n : Nat) {v0 : Nat} {v1 : Option Nat} {v2 : Int64} {v4 : Int32} {σ : zS}, s_ListText_write_5 g  n v0 v1 v2 v4 σ = some q → Z l D K_ListText_write 11 249 (.returned (some (va_rf q.1)), q.2) 5 [(0, .ref (v0)), (1, va_rf (v1)), (2, .long (v2)), (4, .int (v4))] [] σ := by
  intro n
  induction n with
  | zero =>
    intro v0 v1 v2 v4 σ h
    cases h
  | succ n ih =>
    intro v0 v1 v2 v4 σ h
    first | rw [s_ListText_write_5] at h | (unfold s_ListText_write_5 at h; dsimp only at h)
    refine z_iload 3 d_ListText_write_5 rfl ?_
    refine z_aload_nR 1 d_ListText_write_7 rfl rfl ?_
    replace h := Option.bind_eq_some_iff.mp h; obtain ⟨a1, rfl, h⟩ := h
    replace h := Option.bind_eq_some_iff.mp h; obtain ⟨x2, e3, h⟩ := h
    refine z_getI wF_NumberOffice_ListText_22_5 d_ListText_write_8 e3 ?_
    refine z_icmp_gt (tgt := 47) d_ListText_write_11 rfl (fun c4 => ?_) (fun c4 => ?_)
    · rw [if_pos c4] at h
      refine z_aload_n 0 d_ListText_write_47 rfl rfl ?_
      replace h := Option.bind_eq_some_iff.mp h; obtain ⟨x5, e6, h⟩ := h
      refine z_getR wF_NumberOffice_ListText_12_11 d_ListText_write_48 e6 ?_
      replace h := Option.bind_eq_some_iff.mp h; obtain ⟨a7, e8, h⟩ := h
      refine z_ldcS (zG_13 hG _ e8) d_ListText_write_51 ?_
      replace h := Option.bind_eq_some_iff.mp h; obtain ⟨a9, rfl, h⟩ := h
      replace h := Option.bind_eq_some_iff.mp h; obtain ⟨_, e54, h⟩ := h
      obtain ⟨b55, f56, e54⟩ := zcls_at (zis_at e54)
      replace h := Option.bind_eq_some_iff.mp h; obtain ⟨⟨x12, σ10⟩, e11, h⟩ := h
      dsimp only at h
      refine z_callV (av := [va_rf (some (a7))]) (st := []) wV_NumberOffice_ListText_42 e54 (t_StringBuilder_append2 hG e11) (by decide) (by decide) d_ListText_write_53 (by simp [z_rfc, z_ci, z_cl, z_cr, z_cn]) ?_
      show Z _ _ _ _ _ _ 56 [(0, .ref (v0)), (1, .ref (a1)), (2, .long (v2)), (4, .int (v4))] [va_rf (x12)] _
      refine z_pop d_ListText_write_56 (z_rfc _) ?_
      refine z_aload_n 0 d_ListText_write_57 rfl rfl ?_
      refine z_lload_n 2 d_ListText_write_58 rfl rfl ?_
      replace h := Option.bind_eq_some_iff.mp h; obtain ⟨_, e51, h⟩ := h
      obtain ⟨b52, f53, e51⟩ := zcls_at (zis_at e51)
      replace h := Option.bind_eq_some_iff.mp h; obtain ⟨σ13, e14, h⟩ := h
      refine z_callV (av := [.long (v2)]) (st := []) wV_NumberOffice_ListText_46 e51 (t_ListText_addAmount hG e14) (by decide) (by decide) d_ListText_write_59 (by simp [z_rfc, z_ci, z_cl, z_cr, z_cn]) ?_
      show Z _ _ _ _ _ _ 62 [(0, .ref (v0)), (1, .ref (a1)), (2, .long (v2)), (4, .int (v4))] [] _
      refine z_aload_n 0 d_ListText_write_62 rfl rfl ?_
      replace h := Option.bind_eq_some_iff.mp h; obtain ⟨x16, e17, h⟩ := h
      refine z_getR wF_NumberOffice_ListText_12_11 d_ListText_write_63 e17 ?_
      refine z_bipush (v := 32) d_ListText_write_66 rfl ?_
      replace h := Option.bind_eq_some_iff.mp h; obtain ⟨a18, rfl, h⟩ := h
      replace h := Option.bind_eq_some_iff.mp h; obtain ⟨_, e48, h⟩ := h
      obtain ⟨b49, f50, e48⟩ := zcls_at (zis_at e48)
      replace h := Option.bind_eq_some_iff.mp h; obtain ⟨⟨x21, σ19⟩, e20, h⟩ := h
      dsimp only at h
      refine z_callV (av := [.int (32)]) (st := []) wV_NumberOffice_ListText_50 e48 (t_StringBuilder_append hG e20) (by decide) (by decide) d_ListText_write_68 (by simp [z_rfc, z_ci, z_cl, z_cr, z_cn]) ?_
      show Z _ _ _ _ _ _ 71 [(0, .ref (v0)), (1, .ref (a1)), (2, .long (v2)), (4, .int (v4))] [va_rf (x21)] _
      refine z_pop d_ListText_write_71 (z_rfc _) ?_
      refine z_aload_n 0 d_ListText_write_72 rfl rfl ?_
      refine z_aload_n 1 d_ListText_write_73 rfl rfl ?_
      replace h := Option.bind_eq_some_iff.mp h; obtain ⟨x22, e23, h⟩ := h
      refine z_getI wF_NumberOffice_ListText_53_5 d_ListText_write_74 e23 ?_
      refine z_i2l d_ListText_write_77 ?_
      replace h := Option.bind_eq_some_iff.mp h; obtain ⟨_, e45, h⟩ := h
      obtain ⟨b46, f47, e45⟩ := zcls_at (zis_at e45)
      replace h := Option.bind_eq_some_iff.mp h; obtain ⟨σ24, e25, h⟩ := h
      refine z_callV (av := [.long (x22.toInt64)]) (st := []) wV_NumberOffice_ListText_56 e45 (t_ListText_addNumber hG e25) (by decide) (by decide) d_ListText_write_78 (by simp [z_rfc, z_ci, z_cl, z_cr, z_cn]) ?_
      show Z _ _ _ _ _ _ 81 [(0, .ref (v0)), (1, .ref (a1)), (2, .long (v2)), (4, .int (v4))] [] _
      refine z_aload_n 0 d_ListText_write_81 rfl rfl ?_
      replace h := Option.bind_eq_some_iff.mp h; obtain ⟨x27, e28, h⟩ := h
      refine z_getR wF_NumberOffice_ListText_12_11 d_ListText_write_82 e28 ?_
      refine z_bipush (v := 10) d_ListText_write_85 rfl ?_
      replace h := Option.bind_eq_some_iff.mp h; obtain ⟨a29, rfl, h⟩ := h
      replace h := Option.bind_eq_some_iff.mp h; obtain ⟨_, e42, h⟩ := h
      obtain ⟨b43, f44, e42⟩ := zcls_at (zis_at e42)
      replace h := Option.bind_eq_some_iff.mp h; obtain ⟨⟨x32, σ30⟩, e31, h⟩ := h
      dsimp only at h
      refine z_callV (av := [.int (10)]) (st := []) wV_NumberOffice_ListText_50 e42 (t_StringBuilder_append hG e31) (by decide) (by decide) d_ListText_write_87 (by simp [z_rfc, z_ci, z_cl, z_cr, z_cn]) ?_
      show Z _ _ _ _ _ _ 90 [(0, .ref (v0)), (1, .ref (a1)), (2, .long (v2)), (4, .int (v4))] [va_rf (x32)] _
      refine z_pop d_ListText_write_90 (z_rfc _) ?_
      refine z_aload_n 0 d_ListText_write_91 rfl rfl ?_
      replace h := Option.bind_eq_some_iff.mp h; obtain ⟨x33, e34, h⟩ := h
      refine z_getR wF_NumberOffice_ListText_12_11 d_ListText_write_92 e34 ?_
      replace h := Option.bind_eq_some_iff.mp h; obtain ⟨a35, rfl, h⟩ := h
      replace h := Option.bind_eq_some_iff.mp h; obtain ⟨_, e39, h⟩ := h
      obtain ⟨b40, f41, e39⟩ := zcls_at (zis_at e39)
      replace h := Option.bind_eq_some_iff.mp h; obtain ⟨⟨x38, σ36⟩, e37, h⟩ := h
      dsimp only at h
      refine z_callV (av := []) (st := []) wV_NumberOffice_ListText_59 e39 (t_StringBuilder_toString hG e37) (by decide) (by decide) d_ListText_write_95 (by simp [z_rfc, z_ci, z_cl, z_cr, z_cn]) ?_
      show Z _ _ _ _ _ _ 98 [(0, .ref (v0)), (1, .ref (a1)), (2, .long (v2)), (4, .int (v4))] [va_rf (x38)] _
      cases h
      exact z_aret (r := x38) rfl (Or.inl ⟨_, rfl⟩) rfl d_ListText_write_98
    · rw [if_neg c4] at h
      refine z_aload_n 0 d_ListText_write_14 rfl rfl ?_
      refine z_aload_n 1 d_ListText_write_15 rfl rfl ?_
      refine z_iload 3 d_ListText_write_16 rfl ?_
      replace h := Option.bind_eq_some_iff.mp h; obtain ⟨_, e73, h⟩ := h
      obtain ⟨b74, f75, e73⟩ := zcls_at (zis_at e73)
      replace h := Option.bind_eq_some_iff.mp h; obtain ⟨σ57, e58, h⟩ := h
      refine z_callV (av := [va_rf (some (a1)), .int (v4)]) (st := []) wV_NumberOffice_ListText_28 e73 (t_ListText_addLine hG e58) (by decide) (by decide) d_ListText_write_18 (by simp [z_rfc, z_ci, z_cl, z_cr, z_cn]) ?_
      show Z _ _ _ _ _ _ 21 [(0, .ref (v0)), (1, .ref (a1)), (2, .long (v2)), (4, .int (v4))] [] _
      refine z_aload_n 1 d_ListText_write_21 rfl rfl ?_
      refine z_iload 3 d_ListText_write_22 rfl ?_
      replace h := Option.bind_eq_some_iff.mp h; obtain ⟨_, e70, h⟩ := h
      obtain ⟨b71, f72, e70⟩ := zcls_at (zis_at e70)
      replace h := Option.bind_eq_some_iff.mp h; obtain ⟨⟨x62, σ60⟩, e61, h⟩ := h
      dsimp only at h
      refine z_callV (av := [.int (v4)]) (st := []) wV_NumberOffice_ListText_32 e70 (t_SeriesBook_fateOf hG e61) (by decide) (by decide) d_ListText_write_24 (by simp [z_rfc, z_ci, z_cl, z_cr, z_cn]) ?_
      show Z _ _ _ _ _ _ 27 [(0, .ref (v0)), (1, .ref (a1)), (2, .long (v2)), (4, .int (v4))] [.int (x62)] _
      refine z_iconst (v := 2) d_ListText_write_27 rfl ?_
      refine z_icmp_ne (tgt := 41) d_ListText_write_28 rfl (fun c63 => ?_) (fun c63 => ?_)
      · rw [if_neg c63] at h
        refine z_lv (lv' := [(0, .ref (v0)), (1, va_rf (some (a1))), (2, .long (v2)), (4, .int (v4))]) [0, 1, 2, 3] rfl ?_
        exact t_ListText_write_41 hG _ (fun h => ih h) h
      · rw [if_pos c63] at h
        refine z_lload_n 2 d_ListText_write_31 rfl rfl ?_
        refine z_aload_n 1 d_ListText_write_32 rfl rfl ?_
        refine z_iload 3 d_ListText_write_33 rfl ?_
        refine z_iconst (v := 0) d_ListText_write_35 rfl ?_
        replace h := Option.bind_eq_some_iff.mp h; obtain ⟨_, e67, h⟩ := h
        obtain ⟨b68, f69, e67⟩ := zcls_at (zis_at e67)
        replace h := Option.bind_eq_some_iff.mp h; obtain ⟨⟨x66, σ64⟩, e65, h⟩ := h
        dsimp only at h
        refine z_callV (av := [.int (v4), .int (0)]) (st := [.long (v2)]) wV_NumberOffice_ListText_36 e67 (t_SeriesBook_fieldOf hG e65) (by decide) (by decide) d_ListText_write_36 (by simp [z_rfc, z_ci, z_cl, z_cr, z_cn]) ?_
        show Z _ _ _ _ _ _ 39 [(0, .ref (v0)), (1, .ref (a1)), (2, .long (v2)), (4, .int (v4))] [.long (x66), .long (v2)] _
        refine z_ladd d_ListText_write_39 ?_
        refine z_lstore_n (j := 2) (lv' := [(2, .long (v2 + x66)), (0, .ref (v0)), (1, .ref (a1)), (4, .int (v4))]) d_ListText_write_40 rfl (by decide) rfl ?_
        refine z_lv (lv' := [(0, .ref (v0)), (1, va_rf (some (a1))), (2, .long (v2 + x66)), (4, .int (v4))]) [1, 2, 0, 3] rfl ?_
        exact t_ListText_write_41 hG _ (fun h => ih h) h
set_option maxRecDepth 100000 in
theorem t_ListText_write {l : Launch} {D : zD} {g : zG} (hG : zGok g D) {v0 : Nat} {v1 : Option Nat} {σ : zS} {q : Option Nat × zS} (h : s_ListText_write g v0 v1 σ = some q) : zMet l D Y_ListText_write K_ListText_write 11 249 [.ref (v0), va_rf (v1)] σ (.returned (some (va_rf q.1)), q.2) := by
  refine zMet.ofZ (by decide) rfl (fun q => by cases q) (by simp [lg_sl, z_rfc, z_ci, z_cl, z_cr, z_cn]) ?_
  rw [show lv_args 0 ([.ref (v0), va_rf (v1)] : List Value) = [(0, .ref (v0)), (1, va_rf (v1))] from by simp [lv_args, z_rfc, z_ci, z_cl, z_cr, z_cn]]
  unfold s_ListText_write at h
  refine z_lconst (v := 0) d_ListText_write_0 rfl ?_
  refine z_lstore_n (j := 2) (lv' := [(2, .long (0)), (0, .ref (v0)), (1, va_rf (v1))]) d_ListText_write_1 rfl (by decide) (by simp [z_rfc, z_ci, z_cl, z_cr, z_cn] <;> rfl) ?_
  refine z_iconst (v := 1) d_ListText_write_2 rfl ?_
  refine z_istore (j := 4) (lv' := [(4, .int (1)), (2, .long (0)), (0, .ref (v0)), (1, va_rf (v1))]) d_ListText_write_3 (by decide) rfl ?_
  refine z_lv (lv' := [(0, .ref (v0)), (1, va_rf (v1)), (2, .long (0)), (4, .int (1))]) [2, 3, 1, 0] rfl ?_
  exact t_ListText_write_5 hG   zfuel h

def s_SeriesBook_shut (g : zG) (v0 : Nat) (σ : zS) : Option (zS) := (zpF σ v0 5 0 (.int (2))).bind fun σ1 => (some (znew σ1 2 (.inr (11, [.null, .null])))).bind fun σ3 => (s_ListText_init g (σ1.1)  σ3).bind fun σ4 => (zis σ4 (σ1.1) 11).bind fun _ => (s_ListText_write g (σ1.1) (some (v0)) σ4).bind fun (x9, σ7) => (zpF σ7 v0 5 7 (va_rf (x9))).bind fun σ10 => some σ10
set_option maxRecDepth 100000 in
theorem t_SeriesBook_shut {l : Launch} {D : zD} {g : zG} (hG : zGok g D) {v0 : Nat} {σ : zS} {q : zS} (h : s_SeriesBook_shut g v0 σ = some q) : zMet l D Y_SeriesBook_shut K_SeriesBook_shut 12 273 [.ref (v0)] σ (.returned none, q) := by
  refine zMet.ofZ (by decide) rfl (fun q => by cases q) (Nat.le_of_ble_eq_true rfl) ?_
  show Z _ _ _ _ _ _ 0 [(0, .ref (v0))] [] _
  unfold s_SeriesBook_shut at h
  refine z_aload_n 0 d_SeriesBook_shut_0 rfl rfl ?_
  refine z_iconst (v := 2) d_SeriesBook_shut_1 rfl ?_
  replace h := Option.bind_eq_some_iff.mp h; obtain ⟨σ1, e2, h⟩ := h
  refine z_put wP_NumberOffice_SeriesBook_11_5 (fun q => by cases q) d_SeriesBook_shut_2 rfl rfl e2 ?_
  refine z_aload_n 0 d_SeriesBook_shut_5 rfl rfl ?_
  replace h := Option.bind_eq_some_iff.mp h; obtain ⟨σ3, e3, h⟩ := h
  refine z_new wN_NumberOffice_SeriesBook_47 d_SeriesBook_shut_6 ?_
  rw [Option.some.inj e3]
  refine z_dup d_SeriesBook_shut_9 rfl ?_
  replace h := Option.bind_eq_some_iff.mp h; obtain ⟨σ4, e5, h⟩ := h
  refine z_callN (av := []) (st := [.ref (σ1.1), .ref (v0)]) wX_NumberOffice_SeriesBook_49 (t_ListText_init hG e5) (by decide) (by decide) d_SeriesBook_shut_10 (by simp [z_rfc, z_ci, z_cl, z_cr, z_cn]) ?_
  show Z _ _ _ _ _ _ 13 [(0, .ref (v0))] [.ref (σ1.1), .ref (v0)] _
  refine z_aload_n 0 d_SeriesBook_shut_13 rfl rfl ?_
  replace h := Option.bind_eq_some_iff.mp h; obtain ⟨_, e12, h⟩ := h
  obtain ⟨b13, f14, e12⟩ := zcls_at (zis_at e12)
  replace h := Option.bind_eq_some_iff.mp h; obtain ⟨⟨x9, σ7⟩, e8, h⟩ := h
  dsimp only at h
  refine z_callV (av := [va_rf (some (v0))]) (st := [.ref (v0)]) wV_NumberOffice_SeriesBook_50 e12 (t_ListText_write hG e8) (by decide) (by decide) d_SeriesBook_shut_14 (by simp [z_rfc, z_ci, z_cl, z_cr, z_cn]) ?_
  show Z _ _ _ _ _ _ 17 [(0, .ref (v0))] [va_rf (x9), .ref (v0)] _
  replace h := Option.bind_eq_some_iff.mp h; obtain ⟨σ10, e11, h⟩ := h
  refine z_put wP_NumberOffice_SeriesBook_31_5 (fun q => by cases q) d_SeriesBook_shut_17 (z_nr _ _) (z_fr _ _) e11 ?_
  cases h
  exact z_vret rfl rfl d_SeriesBook_shut_20

def s_No_close_27 (g : zG)  (v0 : Nat) (v1 : Int32) (v2 : Option Nat) (σ : zS) : Option ((Int32 ⊕ Nat) × zS) := some (.inl ((-1)), σ)
def s_No_close_49 (g : zG)  (v0 : Nat) (v1 : Int32) (v2 : Option Nat) (v3 : Int32) (σ : zS) : Option ((Int32 ⊕ Nat) × zS) := some (.inl v3, σ)
def s_No_close (g : zG) (v0 : Nat) (v1 : Int32) (σ : zS) : Option ((Int32 ⊕ Nat) × zS) := (zgR σ v0 0 1).bind fun x1 => (s_No_requireUp g x1 σ).bind fun (x5, σ3) => match x5 with | .inl _ => ((zgR σ3 v0 0 1).bind fun x8 => (x8).bind fun a10 => (zis σ3 a10 4).bind fun _ => (s_Office_bookAt g a10 v1 σ3).bind fun (x13, σ11) => match x13 with | none => s_No_close_27 g  (v0) (v1) (none) σ11 | some a15 => (zis σ11 a15 5).bind fun _ => (s_SeriesBook_isOpen g a15  σ11).bind fun (x18, σ16) => if x18 = 0 then s_No_close_27 g  (v0) (v1) (some (a15)) σ16 else (zis σ16 a15 5).bind fun _ => (s_SeriesBook_leastOut g a15  σ16).bind fun (x22, σ20) => if x22 = 0 then (zis σ20 a15 5).bind fun _ => (s_SeriesBook_shut g a15  σ20).bind fun σ24 => (zgR σ24 v0 0 1).bind fun x27 => (x27).bind fun a29 => (zis σ24 a29 4).bind fun _ => (s_Office_save g a29  σ24).bind fun σ30 => s_No_close_49 g  (v0) (v1) (some (a15)) (x22) σ30 else s_No_close_49 g  (v0) (v1) (some (a15)) (x22) σ20) | .inr a7 => (some (.inr a7, σ3))
set_option maxRecDepth 100000 in
theorem t_No_close_27 {l : Launch} {D : zD} {g : zG} (hG : zGok g D) (hl : zLo l) {q : (Int32 ⊕ Nat) × zS}   {v0 : Nat} {v1 : Int32} {v2 : Option Nat} {σ : zS} (h : s_No_close_27 g  v0 v1 v2 σ = some q) : Z l D K_No_close 13 293 (zoI q.1, q.2) 27 [(0, .ref (v0)), (1, .int (v1)), (2, va_rf (v2))] [] σ := by
  unfold s_No_close_27 at h
  refine z_iconst (v := (-1)) d_No_close_27 rfl ?_
  cases h
  exact z_iret rfl rfl d_No_close_28
set_option maxRecDepth 100000 in
theorem t_No_close_49 {l : Launch} {D : zD} {g : zG} (hG : zGok g D) (hl : zLo l) {q : (Int32 ⊕ Nat) × zS}   {v0 : Nat} {v1 : Int32} {v2 : Option Nat} {v3 : Int32} {σ : zS} (h : s_No_close_49 g  v0 v1 v2 v3 σ = some q) : Z l D K_No_close 13 293 (zoI q.1, q.2) 49 [(0, .ref (v0)), (1, .int (v1)), (2, va_rf (v2)), (3, .int (v3))] [] σ := by
  unfold s_No_close_49 at h
  refine z_iload_n 3 d_No_close_49 rfl rfl ?_
  cases h
  exact z_iret rfl rfl d_No_close_50
set_option maxRecDepth 100000 in
theorem t_No_close {l : Launch} {D : zD} {g : zG} (hG : zGok g D) (hl : zLo l) {v0 : Nat} {v1 : Int32} {σ : zS} {q : (Int32 ⊕ Nat) × zS} (h : s_No_close g v0 v1 σ = some q) : zMet l D Y_No_close K_No_close 13 293 [.ref (v0), .int (v1)] σ (zoI q.1, q.2) := by
  refine zMet.ofZ (by decide) rfl (fun q => by cases q) (Nat.le_of_ble_eq_true rfl) ?_
  show Z _ _ _ _ _ _ 0 [(0, .ref (v0)), (1, .int (v1))] [] _
  unfold s_No_close at h
  refine z_aload_n 0 d_No_close_0 rfl rfl ?_
  replace h := Option.bind_eq_some_iff.mp h; obtain ⟨x1, e2, h⟩ := h
  refine z_getR wF_NumberOffice_30_0 d_No_close_1 e2 ?_
  replace h := Option.bind_eq_some_iff.mp h; obtain ⟨⟨x5, σ3⟩, e4, h⟩ := h
  dsimp only at h
  rcases x5 with _ | a7
  · dsimp only at h
    refine z_callS (av := [va_rf (x1)]) (st := []) wS_NumberOffice_41 (t_No_requireUp hG hl e4) (by decide) (by decide) d_No_close_4 (by simp [z_rfc, z_ci, z_cl, z_cr, z_cn]) ?_
    show Z _ _ _ _ _ _ 7 [(0, .ref (v0)), (1, .int (v1))] [] _
    refine z_aload_n 0 d_No_close_7 rfl rfl ?_
    replace h := Option.bind_eq_some_iff.mp h; obtain ⟨x8, e9, h⟩ := h
    refine z_getR wF_NumberOffice_30_0 d_No_close_8 e9 ?_
    refine z_iload_n 1 d_No_close_11 rfl rfl ?_
    replace h := Option.bind_eq_some_iff.mp h; obtain ⟨a10, rfl, h⟩ := h
    replace h := Option.bind_eq_some_iff.mp h; obtain ⟨_, e45, h⟩ := h
    obtain ⟨b46, f47, e45⟩ := zcls_at (zis_at e45)
    replace h := Option.bind_eq_some_iff.mp h; obtain ⟨⟨x13, σ11⟩, e12, h⟩ := h
    dsimp only at h
    refine z_callV (av := [.int (v1)]) (st := []) wV_NumberOffice_45 e45 (t_Office_bookAt hG e12) (by decide) (by decide) d_No_close_12 (by simp [z_rfc, z_ci, z_cl, z_cr, z_cn]) ?_
    show Z _ _ _ _ _ _ 15 [(0, .ref (v0)), (1, .int (v1))] [va_rf (x13)] _
    refine z_astore_nR (j := 2) (lv' := [(2, va_rf (x13)), (0, .ref (v0)), (1, .int (v1))]) d_No_close_15 rfl (by decide) rfl ?_
    refine z_aload_nR 0 d_No_close_16 rfl rfl ?_
    refine z_ifnull (tgt := 27) d_No_close_17 rfl (fun c14 => ?_) (fun a15 c14 => ?_)
    · subst c14
      dsimp only at h
      refine z_lv (lv' := [(0, .ref (v0)), (1, .int (v1)), (2, va_rf (none))]) [1, 2, 0] rfl ?_
      exact t_No_close_27 hG hl   h
    · subst c14
      dsimp only at h
      refine z_aload_n 0 d_No_close_20 rfl rfl ?_
      replace h := Option.bind_eq_some_iff.mp h; obtain ⟨_, e42, h⟩ := h
      obtain ⟨b43, f44, e42⟩ := zcls_at (zis_at e42)
      replace h := Option.bind_eq_some_iff.mp h; obtain ⟨⟨x18, σ16⟩, e17, h⟩ := h
      dsimp only at h
      refine z_callV (av := []) (st := []) wV_NumberOffice_128 e42 (t_SeriesBook_isOpen hG e17) (by decide) (by decide) d_No_close_21 (by simp [z_rfc, z_ci, z_cl, z_cr, z_cn]) ?_
      show Z _ _ _ _ _ _ 24 [(2, .ref (a15)), (0, .ref (v0)), (1, .int (v1))] [.int (x18)] _
      refine z_if_ne (tgt := 29) d_No_close_24 rfl (fun c19 => ?_) (fun c19 => ?_)
      · rw [if_neg c19] at h
        refine z_aload_n 0 d_No_close_29 rfl rfl ?_
        replace h := Option.bind_eq_some_iff.mp h; obtain ⟨_, e39, h⟩ := h
        obtain ⟨b40, f41, e39⟩ := zcls_at (zis_at e39)
        replace h := Option.bind_eq_some_iff.mp h; obtain ⟨⟨x22, σ20⟩, e21, h⟩ := h
        dsimp only at h
        refine z_callV (av := []) (st := []) wV_NumberOffice_131 e39 (t_SeriesBook_leastOut hG e21) (by decide) (by decide) d_No_close_30 (by simp [z_rfc, z_ci, z_cl, z_cr, z_cn]) ?_
        show Z _ _ _ _ _ _ 33 [(2, .ref (a15)), (0, .ref (v0)), (1, .int (v1))] [.int (x22)] _
        refine z_istore_n (j := 3) (lv' := [(3, .int (x22)), (2, .ref (a15)), (0, .ref (v0)), (1, .int (v1))]) d_No_close_33 rfl (by decide) rfl ?_
        refine z_iload_n 0 d_No_close_34 rfl rfl ?_
        refine z_if_ne (tgt := 49) d_No_close_35 rfl (fun c23 => ?_) (fun c23 => ?_)
        · rw [if_neg c23] at h
          refine z_lv (lv' := [(0, .ref (v0)), (1, .int (v1)), (2, va_rf (some (a15))), (3, .int (x22))]) [2, 3, 1, 0] rfl ?_
          exact t_No_close_49 hG hl   h
        · rw [if_pos c23] at h
          refine z_aload_n 1 d_No_close_38 rfl rfl ?_
          replace h := Option.bind_eq_some_iff.mp h; obtain ⟨_, e36, h⟩ := h
          obtain ⟨b37, f38, e36⟩ := zcls_at (zis_at e36)
          replace h := Option.bind_eq_some_iff.mp h; obtain ⟨σ24, e25, h⟩ := h
          refine z_callV (av := []) (st := []) wV_NumberOffice_134 e36 (t_SeriesBook_shut hG e25) (by decide) (by decide) d_No_close_39 (by simp [z_rfc, z_ci, z_cl, z_cr, z_cn]) ?_
          show Z _ _ _ _ _ _ 42 [(3, .int (x22)), (2, .ref (a15)), (0, .ref (v0)), (1, .int (v1))] [] _
          refine z_aload_n 2 d_No_close_42 rfl rfl ?_
          replace h := Option.bind_eq_some_iff.mp h; obtain ⟨x27, e28, h⟩ := h
          refine z_getR wF_NumberOffice_30_0 d_No_close_43 e28 ?_
          replace h := Option.bind_eq_some_iff.mp h; obtain ⟨a29, rfl, h⟩ := h
          replace h := Option.bind_eq_some_iff.mp h; obtain ⟨_, e33, h⟩ := h
          obtain ⟨b34, f35, e33⟩ := zcls_at (zis_at e33)
          replace h := Option.bind_eq_some_iff.mp h; obtain ⟨σ30, e31, h⟩ := h
          refine z_callV (av := []) (st := []) wV_NumberOffice_137 e33 (t_Office_save hG e31) (by decide) (by decide) d_No_close_46 (by simp [z_rfc, z_ci, z_cl, z_cr, z_cn]) ?_
          show Z _ _ _ _ _ _ 49 [(3, .int (x22)), (2, .ref (a15)), (0, .ref (v0)), (1, .int (v1))] [] _
          refine z_lv (lv' := [(0, .ref (v0)), (1, .int (v1)), (2, va_rf (some (a15))), (3, .int (x22))]) [2, 3, 1, 0] rfl ?_
          exact t_No_close_49 hG hl   h
      · rw [if_pos c19] at h
        refine z_lv (lv' := [(0, .ref (v0)), (1, .int (v1)), (2, va_rf (some (a15)))]) [1, 2, 0] rfl ?_
        exact t_No_close_27 hG hl   h
  · dsimp only at h
    cases h
    refine z_callS_t (a := a7) (av := [va_rf (x1)]) (st := []) wS_NumberOffice_41 (t_No_requireUp hG hl e4) (by decide) (by decide) d_No_close_4 (by simp [z_rfc, z_ci, z_cl, z_cr, z_cn]) ?_
    exact zt_out rfl rfl

