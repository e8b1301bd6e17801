def s_Mo_init_311 (g : zG)  (v0 : Nat) (v1 : Int32) (w0 : Int32) (w1 : Option Nat) (σ : zS) : Option (zS) := (w1).bind fun a1 => (zpF σ a1 14 1 (.int (w0))).bind fun σ2 => some σ2
def s_Mo_init (g : zG) (v0 : Nat) (v1 : Int32) (σ : zS) : Option (zS) := (zlen (7)).bind fun n1 => (some (znew σ n1 (.inl (3, (n1, .inl (fun _ => 0)))))).bind fun σ3 => (zpF σ3 v0 14 2 (.ref (σ.1))).bind fun σ5 => (zlen (36)).bind fun n7 => (some (znew σ5 n7 (.inl (0, (n7, .inl (fun _ => 0)))))).bind fun σ9 => (zpF σ9 v0 14 3 (.ref (σ5.1))).bind fun σ11 => (zlen (36)).bind fun n13 => (some (znew σ11 n13 (.inl (0, (n13, .inl (fun _ => 0)))))).bind fun σ15 => (zpF σ15 v0 14 4 (.ref (σ11.1))).bind fun σ17 => (zlen (36)).bind fun n19 => (some (znew σ17 n19 (.inl (0, (n19, .inl (fun _ => 0)))))).bind fun σ21 => (zpF σ21 v0 14 5 (.ref (σ17.1))).bind fun σ23 => (zlen (36)).bind fun n25 => (some (znew σ23 n25 (.inl (0, (n25, .inl (fun _ => 0)))))).bind fun σ27 => (zpF σ27 v0 14 6 (.ref (σ23.1))).bind fun σ29 => (zlen (36)).bind fun n31 => (some (znew σ29 n31 (.inl (0, (n31, .inl (fun _ => 0)))))).bind fun σ33 => (zpF σ33 v0 14 7 (.ref (σ29.1))).bind fun σ35 => (zlen (10800)).bind fun n37 => (some (znew σ35 n37 (.inl (5, (n37, .inl (fun _ => 0)))))).bind fun σ39 => (zpF σ39 v0 14 8 (.ref (σ35.1))).bind fun σ41 => (zlen (10800)).bind fun n43 => (some (znew σ41 n43 (.inl (5, (n43, .inl (fun _ => 0)))))).bind fun σ45 => (zpF σ45 v0 14 9 (.ref (σ41.1))).bind fun σ47 => (zlen (10800)).bind fun n49 => (some (znew σ47 n49 (.inl (2, (n49, .inl (fun _ => 0)))))).bind fun σ51 => (zpF σ51 v0 14 10 (.ref (σ47.1))).bind fun σ53 => (zlen (10800)).bind fun n55 => (some (znew σ53 n55 (.inl (1, (n55, .inr (.inl (fun _ => 0))))))).bind fun σ57 => (zpF σ57 v0 14 11 (.ref (σ53.1))).bind fun σ59 => (zlen (10800)).bind fun n61 => (some (znew σ59 n61 (.inl (0, (n61, .inl (fun _ => 0)))))).bind fun σ63 => (zpF σ63 v0 14 12 (.ref (σ59.1))).bind fun σ65 => (zlen (10800)).bind fun n67 => (some (znew σ65 n67 (.inl (2, (n67, .inl (fun _ => 0)))))).bind fun σ69 => (zpF σ69 v0 14 13 (.ref (σ65.1))).bind fun σ71 => (zlen (21600)).bind fun n73 => (some (znew σ71 n73 (.inl (5, (n73, .inl (fun _ => 0)))))).bind fun σ75 => (zpF σ75 v0 14 14 (.ref (σ71.1))).bind fun σ77 => (zlen (12)).bind fun n79 => (some (znew σ77 n79 (.inl (0, (n79, .inl (fun _ => 0)))))).bind fun σ81 => (zpF σ81 v0 14 15 (.ref (σ77.1))).bind fun σ83 => (zlen (12)).bind fun n85 => (some (znew σ83 n85 (.inl (0, (n85, .inl (fun _ => 0)))))).bind fun σ87 => (zpF σ87 v0 14 16 (.ref (σ83.1))).bind fun σ89 => (zlen (12)).bind fun n91 => (some (znew σ89 n91 (.inl (0, (n91, .inl (fun _ => 0)))))).bind fun σ93 => (zpF σ93 v0 14 17 (.ref (σ89.1))).bind fun σ95 => (zlen (12)).bind fun n97 => (some (znew σ95 n97 (.inl (0, (n97, .inl (fun _ => 0)))))).bind fun σ99 => (zpF σ99 v0 14 18 (.ref (σ95.1))).bind fun σ101 => (zlen (12)).bind fun n103 => (some (znew σ101 n103 (.inl (3, (n103, .inl (fun _ => 0)))))).bind fun σ105 => (zpF σ105 v0 14 19 (.ref (σ101.1))).bind fun σ107 => (zlen (12)).bind fun n109 => (some (znew σ107 n109 (.inl (3, (n109, .inl (fun _ => 0)))))).bind fun σ111 => (zpF σ111 v0 14 20 (.ref (σ107.1))).bind fun σ113 => (zlen (6)).bind fun n115 => (some (znew σ113 n115 (.inl (0, (n115, .inl (fun _ => 0)))))).bind fun σ117 => (zpF σ117 v0 14 21 (.ref (σ113.1))).bind fun σ119 => (zlen (6)).bind fun n121 => (some (znew σ119 n121 (.inl (0, (n121, .inl (fun _ => 0)))))).bind fun σ123 => (zpF σ123 v0 14 22 (.ref (σ119.1))).bind fun σ125 => (zlen (6)).bind fun n127 => (some (znew σ125 n127 (.inl (0, (n127, .inl (fun _ => 0)))))).bind fun σ129 => (zpF σ129 v0 14 23 (.ref (σ125.1))).bind fun σ131 => (zlen (1800)).bind fun n133 => (some (znew σ131 n133 (.inl (2, (n133, .inl (fun _ => 0)))))).bind fun σ135 => (zpF σ135 v0 14 24 (.ref (σ131.1))).bind fun σ137 => (zlen (1800)).bind fun n139 => (some (znew σ137 n139 (.inl (2, (n139, .inl (fun _ => 0)))))).bind fun σ141 => (zpF σ141 v0 14 25 (.ref (σ137.1))).bind fun σ143 => (zlen (1800)).bind fun n145 => (some (znew σ143 n145 (.inl (1, (n145, .inr (.inl (fun _ => 0))))))).bind fun σ147 => (zpF σ147 v0 14 26 (.ref (σ143.1))).bind fun σ149 => (zlen (1800)).bind fun n151 => (some (znew σ149 n151 (.inl (0, (n151, .inl (fun _ => 0)))))).bind fun σ153 => (zpF σ153 v0 14 27 (.ref (σ149.1))).bind fun σ155 => (zlen (1800)).bind fun n157 => (some (znew σ155 n157 (.inl (2, (n157, .inl (fun _ => 0)))))).bind fun σ159 => (zpF σ159 v0 14 28 (.ref (σ155.1))).bind fun σ161 => (zlen (12)).bind fun n163 => (some (znew σ161 n163 (.inl (3, (n163, .inl (fun _ => 0)))))).bind fun σ165 => (zpF σ165 v0 14 29 (.ref (σ161.1))).bind fun σ167 => (zlen (12)).bind fun n169 => (some (znew σ167 n169 (.inl (0, (n169, .inl (fun _ => 0)))))).bind fun σ171 => (zpF σ171 v0 14 30 (.ref (σ167.1))).bind fun σ173 => (zlen (12)).bind fun n175 => (some (znew σ173 n175 (.inl (0, (n175, .inl (fun _ => 0)))))).bind fun σ177 => (zpF σ177 v0 14 31 (.ref (σ173.1))).bind fun σ179 => (zlen (12)).bind fun n181 => (some (znew σ179 n181 (.inl (0, (n181, .inl (fun _ => 0)))))).bind fun σ183 => (zpF σ183 v0 14 32 (.ref (σ179.1))).bind fun σ185 => (zlen (12)).bind fun n187 => (some (znew σ185 n187 (.inl (0, (n187, .inl (fun _ => 0)))))).bind fun σ189 => (zpF σ189 v0 14 33 (.ref (σ185.1))).bind fun σ191 => (zlen (512)).bind fun n193 => (some (znew σ191 n193 (.inl (0, (n193, .inl (fun _ => 0)))))).bind fun σ195 => (zpF σ195 v0 14 35 (.ref (σ191.1))).bind fun σ197 => (zlen (8)).bind fun n199 => (some (znew σ197 n199 (.inl (0, (n199, .inl (fun _ => 0)))))).bind fun σ201 => (zpF σ201 v0 14 36 (.ref (σ197.1))).bind fun σ203 => if 1 ≤ v1 then if v1 ≤ 6 then s_Mo_init_311 g  (v0) (v1) (v1) (some (v0)) σ203 else s_Mo_init_311 g  (v0) (v1) (6) (some (v0)) σ203 else s_Mo_init_311 g  (v0) (v1) (1) (some (v0)) σ203
set_option maxRecDepth 100000 in
theorem t_Mo_init_311 {l : Launch} {D : zD} {g : zG} (hG : zGok g D) {q : zS}   {v0 : Nat} {v1 : Int32} {w0 : Int32} {w1 : Option Nat} {σ : zS} (h : s_Mo_init_311 g  v0 v1 w0 w1 σ = some q) : Z l D K_Mo_init 1 12 (.returned none, q) 311 [(0, .ref (v0)), (1, .int (v1))] [.int (w0), va_rf (w1)] σ := by
  unfold s_Mo_init_311 at h
  replace h := Option.bind_eq_some_iff.mp h; obtain ⟨a1, rfl, h⟩ := h
  replace h := Option.bind_eq_some_iff.mp h; obtain ⟨σ2, e3, h⟩ := h
  refine z_put wP_NumberOfficeModel_116_14 (fun _ => rfl) d_Mo_init_311 rfl rfl e3 ?_
  cases h
  exact z_vret rfl rfl d_Mo_init_314
set_option maxRecDepth 100000 in
theorem t_Mo_init {l : Launch} {D : zD} {g : zG} (hG : zGok g D) {v0 : Nat} {v1 : Int32} {σ : zS} {q : zS} (h : s_Mo_init g v0 v1 σ = some q) : zMet l D Y_Mo_init K_Mo_init 1 12 [.ref (v0), .int (v1)] σ (.returned none, q) := by
  refine zMet.ofZ (by decide) rfl (fun q => rfl) (Nat.le_of_ble_eq_true rfl) ?_
  show Z _ _ _ _ _ _ 0 [(0, .ref (v0)), (1, .int (v1))] [] _
  unfold s_Mo_init at h
  refine z_aload_n 0 d_Mo_init_0 rfl rfl ?_
  refine z_objInit wO_NumberOfficeModel_1 wOi wOc (by decide) (by decide) d_Mo_init_1 ?_
  refine z_aload_n 0 d_Mo_init_4 rfl rfl ?_
  refine z_bipush (v := 7) d_Mo_init_5 rfl ?_
  replace h := Option.bind_eq_some_iff.mp h; obtain ⟨n1, e2, h⟩ := h
  replace h := Option.bind_eq_some_iff.mp h; obtain ⟨σ3, e4, h⟩ := h
  refine z_newa (t := 3) (ty := .boolean) (x := (n1, .inl (fun _ => 0))) rfl rfl wA_boolean (fun _ => rfl) (by decide) d_Mo_init_7 e2 ?_
  rw [Option.some.inj e4]
  replace h := Option.bind_eq_some_iff.mp h; obtain ⟨σ5, e6, h⟩ := h
  refine z_put wP_NumberOfficeModel_7_14 (fun _ => rfl) d_Mo_init_9 rfl rfl e6 ?_
  refine z_aload_n 0 d_Mo_init_12 rfl rfl ?_
  refine z_bipush (v := 36) d_Mo_init_13 rfl ?_
  replace h := Option.bind_eq_some_iff.mp h; obtain ⟨n7, e8, h⟩ := h
  replace h := Option.bind_eq_some_iff.mp h; obtain ⟨σ9, e10, h⟩ := h
  refine z_newa (t := 0) (ty := .int) (x := (n7, .inl (fun _ => 0))) rfl rfl wA_int (fun _ => rfl) (by decide) d_Mo_init_15 e8 ?_
  rw [Option.some.inj e10]
  replace h := Option.bind_eq_some_iff.mp h; obtain ⟨σ11, e12, h⟩ := h
  refine z_put wP_NumberOfficeModel_13_14 (fun _ => rfl) d_Mo_init_17 rfl rfl e12 ?_
  refine z_aload_n 0 d_Mo_init_20 rfl rfl ?_
  refine z_bipush (v := 36) d_Mo_init_21 rfl ?_
  replace h := Option.bind_eq_some_iff.mp h; obtain ⟨n13, e14, h⟩ := h
  replace h := Option.bind_eq_some_iff.mp h; obtain ⟨σ15, e16, h⟩ := h
  refine z_newa (t := 0) (ty := .int) (x := (n13, .inl (fun _ => 0))) rfl rfl wA_int (fun _ => rfl) (by decide) d_Mo_init_23 e14 ?_
  rw [Option.some.inj e16]
  replace h := Option.bind_eq_some_iff.mp h; obtain ⟨σ17, e18, h⟩ := h
  refine z_put wP_NumberOfficeModel_17_14 (fun _ => rfl) d_Mo_init_25 rfl rfl e18 ?_
  refine z_aload_n 0 d_Mo_init_28 rfl rfl ?_
  refine z_bipush (v := 36) d_Mo_init_29 rfl ?_
  replace h := Option.bind_eq_some_iff.mp h; obtain ⟨n19, e20, h⟩ := h
  replace h := Option.bind_eq_some_iff.mp h; obtain ⟨σ21, e22, h⟩ := h
  refine z_newa (t := 0) (ty := .int) (x := (n19, .inl (fun _ => 0))) rfl rfl wA_int (fun _ => rfl) (by decide) d_Mo_init_31 e20 ?_
  rw [Option.some.inj e22]
  replace h := Option.bind_eq_some_iff.mp h; obtain ⟨σ23, e24, h⟩ := h
  refine z_put wP_NumberOfficeModel_20_14 (fun _ => rfl) d_Mo_init_33 rfl rfl e24 ?_
  refine z_aload_n 0 d_Mo_init_36 rfl rfl ?_
  refine z_bipush (v := 36) d_Mo_init_37 rfl ?_
  replace h := Option.bind_eq_some_iff.mp h; obtain ⟨n25, e26, h⟩ := h
  replace h := Option.bind_eq_some_iff.mp h; obtain ⟨σ27, e28, h⟩ := h
  refine z_newa (t := 0) (ty := .int) (x := (n25, .inl (fun _ => 0))) rfl rfl wA_int (fun _ => rfl) (by decide) d_Mo_init_39 e26 ?_
  rw [Option.some.inj e28]
  replace h := Option.bind_eq_some_iff.mp h; obtain ⟨σ29, e30, h⟩ := h
  refine z_put wP_NumberOfficeModel_23_14 (fun _ => rfl) d_Mo_init_41 rfl rfl e30 ?_
  refine z_aload_n 0 d_Mo_init_44 rfl rfl ?_
  refine z_bipush (v := 36) d_Mo_init_45 rfl ?_
  replace h := Option.bind_eq_some_iff.mp h; obtain ⟨n31, e32, h⟩ := h
  replace h := Option.bind_eq_some_iff.mp h; obtain ⟨σ33, e34, h⟩ := h
  refine z_newa (t := 0) (ty := .int) (x := (n31, .inl (fun _ => 0))) rfl rfl wA_int (fun _ => rfl) (by decide) d_Mo_init_47 e32 ?_
  rw [Option.some.inj e34]
  replace h := Option.bind_eq_some_iff.mp h; obtain ⟨σ35, e36, h⟩ := h
  refine z_put wP_NumberOfficeModel_26_14 (fun _ => rfl) d_Mo_init_49 rfl rfl e36 ?_
  refine z_aload_n 0 d_Mo_init_52 rfl rfl ?_
  refine z_sipush (v := 10800) d_Mo_init_53 rfl ?_
  replace h := Option.bind_eq_some_iff.mp h; obtain ⟨n37, e38, h⟩ := h
  replace h := Option.bind_eq_some_iff.mp h; obtain ⟨σ39, e40, h⟩ := h
  refine z_newa (t := 5) (ty := .short) (x := (n37, .inl (fun _ => 0))) rfl rfl wA_short (fun _ => rfl) (by decide) d_Mo_init_56 e38 ?_
  rw [Option.some.inj e40]
  replace h := Option.bind_eq_some_iff.mp h; obtain ⟨σ41, e42, h⟩ := h
  refine z_put wP_NumberOfficeModel_29_14 (fun _ => rfl) d_Mo_init_58 rfl rfl e42 ?_
  refine z_aload_n 0 d_Mo_init_61 rfl rfl ?_
  refine z_sipush (v := 10800) d_Mo_init_62 rfl ?_
  replace h := Option.bind_eq_some_iff.mp h; obtain ⟨n43, e44, h⟩ := h
  replace h := Option.bind_eq_some_iff.mp h; obtain ⟨σ45, e46, h⟩ := h
  refine z_newa (t := 5) (ty := .short) (x := (n43, .inl (fun _ => 0))) rfl rfl wA_short (fun _ => rfl) (by decide) d_Mo_init_65 e44 ?_
  rw [Option.some.inj e46]
  replace h := Option.bind_eq_some_iff.mp h; obtain ⟨σ47, e48, h⟩ := h
  refine z_put wP_NumberOfficeModel_33_14 (fun _ => rfl) d_Mo_init_67 rfl rfl e48 ?_
  refine z_aload_n 0 d_Mo_init_70 rfl rfl ?_
  refine z_sipush (v := 10800) d_Mo_init_71 rfl ?_
  replace h := Option.bind_eq_some_iff.mp h; obtain ⟨n49, e50, h⟩ := h
  replace h := Option.bind_eq_some_iff.mp h; obtain ⟨σ51, e52, h⟩ := h
  refine z_newa (t := 2) (ty := .byte) (x := (n49, .inl (fun _ => 0))) rfl rfl wA_byte (fun _ => rfl) (by decide) d_Mo_init_74 e50 ?_
  rw [Option.some.inj e52]
  replace h := Option.bind_eq_some_iff.mp h; obtain ⟨σ53, e54, h⟩ := h
  refine z_put wP_NumberOfficeModel_36_14 (fun _ => rfl) d_Mo_init_76 rfl rfl e54 ?_
  refine z_aload_n 0 d_Mo_init_79 rfl rfl ?_
  refine z_sipush (v := 10800) d_Mo_init_80 rfl ?_
  replace h := Option.bind_eq_some_iff.mp h; obtain ⟨n55, e56, h⟩ := h
  replace h := Option.bind_eq_some_iff.mp h; obtain ⟨σ57, e58, h⟩ := h
  refine z_newa (t := 1) (ty := .long) (x := (n55, .inr (.inl (fun _ => 0)))) rfl rfl wA_long (fun _ => rfl) (by decide) d_Mo_init_83 e56 ?_
  rw [Option.some.inj e58]
  replace h := Option.bind_eq_some_iff.mp h; obtain ⟨σ59, e60, h⟩ := h
  refine z_put wP_NumberOfficeModel_40_14 (fun _ => rfl) d_Mo_init_85 rfl rfl e60 ?_
  refine z_aload_n 0 d_Mo_init_88 rfl rfl ?_
  refine z_sipush (v := 10800) d_Mo_init_89 rfl ?_
  replace h := Option.bind_eq_some_iff.mp h; obtain ⟨n61, e62, h⟩ := h
  replace h := Option.bind_eq_some_iff.mp h; obtain ⟨σ63, e64, h⟩ := h
  refine z_newa (t := 0) (ty := .int) (x := (n61, .inl (fun _ => 0))) rfl rfl wA_int (fun _ => rfl) (by decide) d_Mo_init_92 e62 ?_
  rw [Option.some.inj e64]
  replace h := Option.bind_eq_some_iff.mp h; obtain ⟨σ65, e66, h⟩ := h
  refine z_put wP_NumberOfficeModel_44_14 (fun _ => rfl) d_Mo_init_94 rfl rfl e66 ?_
  refine z_aload_n 0 d_Mo_init_97 rfl rfl ?_
  refine z_sipush (v := 10800) d_Mo_init_98 rfl ?_
  replace h := Option.bind_eq_some_iff.mp h; obtain ⟨n67, e68, h⟩ := h
  replace h := Option.bind_eq_some_iff.mp h; obtain ⟨σ69, e70, h⟩ := h
  refine z_newa (t := 2) (ty := .byte) (x := (n67, .inl (fun _ => 0))) rfl rfl wA_byte (fun _ => rfl) (by decide) d_Mo_init_101 e68 ?_
  rw [Option.some.inj e70]
  replace h := Option.bind_eq_some_iff.mp h; obtain ⟨σ71, e72, h⟩ := h
  refine z_put wP_NumberOfficeModel_47_14 (fun _ => rfl) d_Mo_init_103 rfl rfl e72 ?_
  refine z_aload_n 0 d_Mo_init_106 rfl rfl ?_
  refine z_sipush (v := 21600) d_Mo_init_107 rfl ?_
  replace h := Option.bind_eq_some_iff.mp h; obtain ⟨n73, e74, h⟩ := h
  replace h := Option.bind_eq_some_iff.mp h; obtain ⟨σ75, e76, h⟩ := h
  refine z_newa (t := 5) (ty := .short) (x := (n73, .inl (fun _ => 0))) rfl rfl wA_short (fun _ => rfl) (by decide) d_Mo_init_110 e74 ?_
  rw [Option.some.inj e76]
  replace h := Option.bind_eq_some_iff.mp h; obtain ⟨σ77, e78, h⟩ := h
  refine z_put wP_NumberOfficeModel_50_14 (fun _ => rfl) d_Mo_init_112 rfl rfl e78 ?_
  refine z_aload_n 0 d_Mo_init_115 rfl rfl ?_
  refine z_bipush (v := 12) d_Mo_init_116 rfl ?_
  replace h := Option.bind_eq_some_iff.mp h; obtain ⟨n79, e80, h⟩ := h
  replace h := Option.bind_eq_some_iff.mp h; obtain ⟨σ81, e82, h⟩ := h
  refine z_newa (t := 0) (ty := .int) (x := (n79, .inl (fun _ => 0))) rfl rfl wA_int (fun _ => rfl) (by decide) d_Mo_init_118 e80 ?_
  rw [Option.some.inj e82]
  replace h := Option.bind_eq_some_iff.mp h; obtain ⟨σ83, e84, h⟩ := h
  refine z_put wP_NumberOfficeModel_53_14 (fun _ => rfl) d_Mo_init_120 rfl rfl e84 ?_
  refine z_aload_n 0 d_Mo_init_123 rfl rfl ?_
  refine z_bipush (v := 12) d_Mo_init_124 rfl ?_
  replace h := Option.bind_eq_some_iff.mp h; obtain ⟨n85, e86, h⟩ := h
  replace h := Option.bind_eq_some_iff.mp h; obtain ⟨σ87, e88, h⟩ := h
  refine z_newa (t := 0) (ty := .int) (x := (n85, .inl (fun _ => 0))) rfl rfl wA_int (fun _ => rfl) (by decide) d_Mo_init_126 e86 ?_
  rw [Option.some.inj e88]
  replace h := Option.bind_eq_some_iff.mp h; obtain ⟨σ89, e90, h⟩ := h
  refine z_put wP_NumberOfficeModel_56_14 (fun _ => rfl) d_Mo_init_128 rfl rfl e90 ?_
  refine z_aload_n 0 d_Mo_init_131 rfl rfl ?_
  refine z_bipush (v := 12) d_Mo_init_132 rfl ?_
  replace h := Option.bind_eq_some_iff.mp h; obtain ⟨n91, e92, h⟩ := h
  replace h := Option.bind_eq_some_iff.mp h; obtain ⟨σ93, e94, h⟩ := h
  refine z_newa (t := 0) (ty := .int) (x := (n91, .inl (fun _ => 0))) rfl rfl wA_int (fun _ => rfl) (by decide) d_Mo_init_134 e92 ?_
  rw [Option.some.inj e94]
  replace h := Option.bind_eq_some_iff.mp h; obtain ⟨σ95, e96, h⟩ := h
  refine z_put wP_NumberOfficeModel_59_14 (fun _ => rfl) d_Mo_init_136 rfl rfl e96 ?_
  refine z_aload_n 0 d_Mo_init_139 rfl rfl ?_
  refine z_bipush (v := 12) d_Mo_init_140 rfl ?_
  replace h := Option.bind_eq_some_iff.mp h; obtain ⟨n97, e98, h⟩ := h
  replace h := Option.bind_eq_some_iff.mp h; obtain ⟨σ99, e100, h⟩ := h
  refine z_newa (t := 0) (ty := .int) (x := (n97, .inl (fun _ => 0))) rfl rfl wA_int (fun _ => rfl) (by decide) d_Mo_init_142 e98 ?_
  rw [Option.some.inj e100]
  replace h := Option.bind_eq_some_iff.mp h; obtain ⟨σ101, e102, h⟩ := h
  refine z_put wP_NumberOfficeModel_62_14 (fun _ => rfl) d_Mo_init_144 rfl rfl e102 ?_
  refine z_aload_n 0 d_Mo_init_147 rfl rfl ?_
  refine z_bipush (v := 12) d_Mo_init_148 rfl ?_
  replace h := Option.bind_eq_some_iff.mp h; obtain ⟨n103, e104, h⟩ := h
  replace h := Option.bind_eq_some_iff.mp h; obtain ⟨σ105, e106, h⟩ := h
  refine z_newa (t := 3) (ty := .boolean) (x := (n103, .inl (fun _ => 0))) rfl rfl wA_boolean (fun _ => rfl) (by decide) d_Mo_init_150 e104 ?_
  rw [Option.some.inj e106]
  replace h := Option.bind_eq_some_iff.mp h; obtain ⟨σ107, e108, h⟩ := h
  refine z_put wP_NumberOfficeModel_65_14 (fun _ => rfl) d_Mo_init_152 rfl rfl e108 ?_
  refine z_aload_n 0 d_Mo_init_155 rfl rfl ?_
  refine z_bipush (v := 12) d_Mo_init_156 rfl ?_
  replace h := Option.bind_eq_some_iff.mp h; obtain ⟨n109, e110, h⟩ := h
  replace h := Option.bind_eq_some_iff.mp h; obtain ⟨σ111, e112, h⟩ := h
  refine z_newa (t := 3) (ty := .boolean) (x := (n109, .inl (fun _ => 0))) rfl rfl wA_boolean (fun _ => rfl) (by decide) d_Mo_init_158 e110 ?_
  rw [Option.some.inj e112]
  replace h := Option.bind_eq_some_iff.mp h; obtain ⟨σ113, e114, h⟩ := h
  refine z_put wP_NumberOfficeModel_68_14 (fun _ => rfl) d_Mo_init_160 rfl rfl e114 ?_
  refine z_aload_n 0 d_Mo_init_163 rfl rfl ?_
  refine z_bipush (v := 6) d_Mo_init_164 rfl ?_
  replace h := Option.bind_eq_some_iff.mp h; obtain ⟨n115, e116, h⟩ := h
  replace h := Option.bind_eq_some_iff.mp h; obtain ⟨σ117, e118, h⟩ := h
  refine z_newa (t := 0) (ty := .int) (x := (n115, .inl (fun _ => 0))) rfl rfl wA_int (fun _ => rfl) (by decide) d_Mo_init_166 e116 ?_
  rw [Option.some.inj e118]
  replace h := Option.bind_eq_some_iff.mp h; obtain ⟨σ119, e120, h⟩ := h
  refine z_put wP_NumberOfficeModel_71_14 (fun _ => rfl) d_Mo_init_168 rfl rfl e120 ?_
  refine z_aload_n 0 d_Mo_init_171 rfl rfl ?_
  refine z_bipush (v := 6) d_Mo_init_172 rfl ?_
  replace h := Option.bind_eq_some_iff.mp h; obtain ⟨n121, e122, h⟩ := h
  replace h := Option.bind_eq_some_iff.mp h; obtain ⟨σ123, e124, h⟩ := h
  refine z_newa (t := 0) (ty := .int) (x := (n121, .inl (fun _ => 0))) rfl rfl wA_int (fun _ => rfl) (by decide) d_Mo_init_174 e122 ?_
  rw [Option.some.inj e124]
  replace h := Option.bind_eq_some_iff.mp h; obtain ⟨σ125, e126, h⟩ := h
  refine z_put wP_NumberOfficeModel_74_14 (fun _ => rfl) d_Mo_init_176 rfl rfl e126 ?_
  refine z_aload_n 0 d_Mo_init_179 rfl rfl ?_
  refine z_bipush (v := 6) d_Mo_init_180 rfl ?_
  replace h := Option.bind_eq_some_iff.mp h; obtain ⟨n127, e128, h⟩ := h
  replace h := Option.bind_eq_some_iff.mp h; obtain ⟨σ129, e130, h⟩ := h
  refine z_newa (t := 0) (ty := .int) (x := (n127, .inl (fun _ => 0))) rfl rfl wA_int (fun _ => rfl) (by decide) d_Mo_init_182 e128 ?_
  rw [Option.some.inj e130]
  replace h := Option.bind_eq_some_iff.mp h; obtain ⟨σ131, e132, h⟩ := h
  refine z_put wP_NumberOfficeModel_77_14 (fun _ => rfl) d_Mo_init_184 rfl rfl e132 ?_
  refine z_aload_n 0 d_Mo_init_187 rfl rfl ?_
  refine z_sipush (v := 1800) d_Mo_init_188 rfl ?_
  replace h := Option.bind_eq_some_iff.mp h; obtain ⟨n133, e134, h⟩ := h
  replace h := Option.bind_eq_some_iff.mp h; obtain ⟨σ135, e136, h⟩ := h
  refine z_newa (t := 2) (ty := .byte) (x := (n133, .inl (fun _ => 0))) rfl rfl wA_byte (fun _ => rfl) (by decide) d_Mo_init_191 e134 ?_
  rw [Option.some.inj e136]
  replace h := Option.bind_eq_some_iff.mp h; obtain ⟨σ137, e138, h⟩ := h
  refine z_put wP_NumberOfficeModel_80_14 (fun _ => rfl) d_Mo_init_193 rfl rfl e138 ?_
  refine z_aload_n 0 d_Mo_init_196 rfl rfl ?_
  refine z_sipush (v := 1800) d_Mo_init_197 rfl ?_
  replace h := Option.bind_eq_some_iff.mp h; obtain ⟨n139, e140, h⟩ := h
  replace h := Option.bind_eq_some_iff.mp h; obtain ⟨σ141, e142, h⟩ := h
  refine z_newa (t := 2) (ty := .byte) (x := (n139, .inl (fun _ => 0))) rfl rfl wA_byte (fun _ => rfl) (by decide) d_Mo_init_200 e140 ?_
  rw [Option.some.inj e142]
  replace h := Option.bind_eq_some_iff.mp h; obtain ⟨σ143, e144, h⟩ := h
  refine z_put wP_NumberOfficeModel_83_14 (fun _ => rfl) d_Mo_init_202 rfl rfl e144 ?_
  refine z_aload_n 0 d_Mo_init_205 rfl rfl ?_
  refine z_sipush (v := 1800) d_Mo_init_206 rfl ?_
  replace h := Option.bind_eq_some_iff.mp h; obtain ⟨n145, e146, h⟩ := h
  replace h := Option.bind_eq_some_iff.mp h; obtain ⟨σ147, e148, h⟩ := h
  refine z_newa (t := 1) (ty := .long) (x := (n145, .inr (.inl (fun _ => 0)))) rfl rfl wA_long (fun _ => rfl) (by decide) d_Mo_init_209 e146 ?_
  rw [Option.some.inj e148]
  replace h := Option.bind_eq_some_iff.mp h; obtain ⟨σ149, e150, h⟩ := h
  refine z_put wP_NumberOfficeModel_86_14 (fun _ => rfl) d_Mo_init_211 rfl rfl e150 ?_
  refine z_aload_n 0 d_Mo_init_214 rfl rfl ?_
  refine z_sipush (v := 1800) d_Mo_init_215 rfl ?_
  replace h := Option.bind_eq_some_iff.mp h; obtain ⟨n151, e152, h⟩ := h
  replace h := Option.bind_eq_some_iff.mp h; obtain ⟨σ153, e154, h⟩ := h
  refine z_newa (t := 0) (ty := .int) (x := (n151, .inl (fun _ => 0))) rfl rfl wA_int (fun _ => rfl) (by decide) d_Mo_init_218 e152 ?_
  rw [Option.some.inj e154]
  replace h := Option.bind_eq_some_iff.mp h; obtain ⟨σ155, e156, h⟩ := h
  refine z_put wP_NumberOfficeModel_89_14 (fun _ => rfl) d_Mo_init_220 rfl rfl e156 ?_
  refine z_aload_n 0 d_Mo_init_223 rfl rfl ?_
  refine z_sipush (v := 1800) d_Mo_init_224 rfl ?_
  replace h := Option.bind_eq_some_iff.mp h; obtain ⟨n157, e158, h⟩ := h
  replace h := Option.bind_eq_some_iff.mp h; obtain ⟨σ159, e160, h⟩ := h
  refine z_newa (t := 2) (ty := .byte) (x := (n157, .inl (fun _ => 0))) rfl rfl wA_byte (fun _ => rfl) (by decide) d_Mo_init_227 e158 ?_
  rw [Option.some.inj e160]
  replace h := Option.bind_eq_some_iff.mp h; obtain ⟨σ161, e162, h⟩ := h
  refine z_put wP_NumberOfficeModel_92_14 (fun _ => rfl) d_Mo_init_229 rfl rfl e162 ?_
  refine z_aload_n 0 d_Mo_init_232 rfl rfl ?_
  refine z_bipush (v := 12) d_Mo_init_233 rfl ?_
  replace h := Option.bind_eq_some_iff.mp h; obtain ⟨n163, e164, h⟩ := h
  replace h := Option.bind_eq_some_iff.mp h; obtain ⟨σ165, e166, h⟩ := h
  refine z_newa (t := 3) (ty := .boolean) (x := (n163, .inl (fun _ => 0))) rfl rfl wA_boolean (fun _ => rfl) (by decide) d_Mo_init_235 e164 ?_
  rw [Option.some.inj e166]
  replace h := Option.bind_eq_some_iff.mp h; obtain ⟨σ167, e168, h⟩ := h
  refine z_put wP_NumberOfficeModel_95_14 (fun _ => rfl) d_Mo_init_237 rfl rfl e168 ?_
  refine z_aload_n 0 d_Mo_init_240 rfl rfl ?_
  refine z_bipush (v := 12) d_Mo_init_241 rfl ?_
  replace h := Option.bind_eq_some_iff.mp h; obtain ⟨n169, e170, h⟩ := h
  replace h := Option.bind_eq_some_iff.mp h; obtain ⟨σ171, e172, h⟩ := h
  refine z_newa (t := 0) (ty := .int) (x := (n169, .inl (fun _ => 0))) rfl rfl wA_int (fun _ => rfl) (by decide) d_Mo_init_243 e170 ?_
  rw [Option.some.inj e172]
  replace h := Option.bind_eq_some_iff.mp h; obtain ⟨σ173, e174, h⟩ := h
  refine z_put wP_NumberOfficeModel_98_14 (fun _ => rfl) d_Mo_init_245 rfl rfl e174 ?_
  refine z_aload_n 0 d_Mo_init_248 rfl rfl ?_
  refine z_bipush (v := 12) d_Mo_init_249 rfl ?_
  replace h := Option.bind_eq_some_iff.mp h; obtain ⟨n175, e176, h⟩ := h
  replace h := Option.bind_eq_some_iff.mp h; obtain ⟨σ177, e178, h⟩ := h
  refine z_newa (t := 0) (ty := .int) (x := (n175, .inl (fun _ => 0))) rfl rfl wA_int (fun _ => rfl) (by decide) d_Mo_init_251 e176 ?_
  rw [Option.some.inj e178]
  replace h := Option.bind_eq_some_iff.mp h; obtain ⟨σ179, e180, h⟩ := h
  refine z_put wP_NumberOfficeModel_101_14 (fun _ => rfl) d_Mo_init_253 rfl rfl e180 ?_
  refine z_aload_n 0 d_Mo_init_256 rfl rfl ?_
  refine z_bipush (v := 12) d_Mo_init_257 rfl ?_
  replace h := Option.bind_eq_some_iff.mp h; obtain ⟨n181, e182, h⟩ := h
  replace h := Option.bind_eq_some_iff.mp h; obtain ⟨σ183, e184, h⟩ := h
  refine z_newa (t := 0) (ty := .int) (x := (n181, .inl (fun _ => 0))) rfl rfl wA_int (fun _ => rfl) (by decide) d_Mo_init_259 e182 ?_
  rw [Option.some.inj e184]
  replace h := Option.bind_eq_some_iff.mp h; obtain ⟨σ185, e186, h⟩ := h
  refine z_put wP_NumberOfficeModel_104_14 (fun _ => rfl) d_Mo_init_261 rfl rfl e186 ?_
  refine z_aload_n 0 d_Mo_init_264 rfl rfl ?_
  refine z_bipush (v := 12) d_Mo_init_265 rfl ?_
  replace h := Option.bind_eq_some_iff.mp h; obtain ⟨n187, e188, h⟩ := h
  replace h := Option.bind_eq_some_iff.mp h; obtain ⟨σ189, e190, h⟩ := h
  refine z_newa (t := 0) (ty := .int) (x := (n187, .inl (fun _ => 0))) rfl rfl wA_int (fun _ => rfl) (by decide) d_Mo_init_267 e188 ?_
  rw [Option.some.inj e190]
  replace h := Option.bind_eq_some_iff.mp h; obtain ⟨σ191, e192, h⟩ := h
  refine z_put wP_NumberOfficeModel_107_14 (fun _ => rfl) d_Mo_init_269 rfl rfl e192 ?_
  refine z_aload_n 0 d_Mo_init_272 rfl rfl ?_
  refine z_sipush (v := 512) d_Mo_init_273 rfl ?_
  replace h := Option.bind_eq_some_iff.mp h; obtain ⟨n193, e194, h⟩ := h
  replace h := Option.bind_eq_some_iff.mp h; obtain ⟨σ195, e196, h⟩ := h
  refine z_newa (t := 0) (ty := .int) (x := (n193, .inl (fun _ => 0))) rfl rfl wA_int (fun _ => rfl) (by decide) d_Mo_init_276 e194 ?_
  rw [Option.some.inj e196]
  replace h := Option.bind_eq_some_iff.mp h; obtain ⟨σ197, e198, h⟩ := h
  refine z_put wP_NumberOfficeModel_110_14 (fun _ => rfl) d_Mo_init_278 rfl rfl e198 ?_
  refine z_aload_n 0 d_Mo_init_281 rfl rfl ?_
  refine z_bipush (v := 8) d_Mo_init_282 rfl ?_
  replace h := Option.bind_eq_some_iff.mp h; obtain ⟨n199, e200, h⟩ := h
  replace h := Option.bind_eq_some_iff.mp h; obtain ⟨σ201, e202, h⟩ := h
  refine z_newa (t := 0) (ty := .int) (x := (n199, .inl (fun _ => 0))) rfl rfl wA_int (fun _ => rfl) (by decide) d_Mo_init_284 e200 ?_
  rw [Option.some.inj e202]
  replace h := Option.bind_eq_some_iff.mp h; obtain ⟨σ203, e204, h⟩ := h
  refine z_put wP_NumberOfficeModel_113_14 (fun _ => rfl) d_Mo_init_286 rfl rfl e204 ?_
  refine z_aload_n 0 d_Mo_init_289 rfl rfl ?_
  refine z_iload_n 1 d_Mo_init_290 rfl rfl ?_
  refine z_iconst (v := 1) d_Mo_init_291 rfl ?_
  refine z_icmp_ge (tgt := 299) d_Mo_init_292 rfl (fun c205 => ?_) (fun c205 => ?_)
  · rw [if_pos c205] at h
    refine z_iload_n 1 d_Mo_init_299 rfl rfl ?_
    refine z_bipush (v := 6) d_Mo_init_300 rfl ?_
    refine z_icmp_le (tgt := 310) d_Mo_init_302 rfl (fun c206 => ?_) (fun c206 => ?_)
    · rw [if_pos c206] at h
      refine z_iload_n 1 d_Mo_init_310 rfl rfl ?_
      refine z_lv (lv' := [(0, .ref (v0)), (1, .int (v1))]) [0, 1] rfl ?_
      exact t_Mo_init_311 hG   h
    · rw [if_neg c206] at h
      refine z_bipush (v := 6) d_Mo_init_305 rfl ?_
      refine z_goto (tgt := 311) d_Mo_init_307 rfl ?_
      refine z_lv (lv' := [(0, .ref (v0)), (1, .int (v1))]) [0, 1] rfl ?_
      exact t_Mo_init_311 hG   h
  · rw [if_neg c205] at h
    refine z_iconst (v := 1) d_Mo_init_295 rfl ?_
    refine z_goto (tgt := 311) d_Mo_init_296 rfl ?_
    refine z_lv (lv' := [(0, .ref (v0)), (1, .int (v1))]) [0, 1] rfl ?_
    exact t_Mo_init_311 hG   h

def s_Mo_thrown (g : zG) (v0 : Nat) (σ : zS) : Option (Int32 × zS) := (zgI σ v0 14 0).bind fun x1 => some (x1, σ)
set_option maxRecDepth 100000 in
theorem t_Mo_thrown {l : Launch} {D : zD} {g : zG} (hG : zGok g D) {v0 : Nat} {σ : zS} {q : Int32 × zS} (h : s_Mo_thrown g v0 σ = some q) : zMet l D Y_Mo_thrown K_Mo_thrown 0 0 [.ref (v0)] σ (.returned (some (.int q.1)), q.2) := by
  refine zMet.ofZ (by decide) rfl (fun q => by cases q) (Nat.le_of_ble_eq_true rfl) ?_
  show Z _ _ _ _ _ _ 0 [(0, .ref (v0))] [] _
  unfold s_Mo_thrown at h
  refine z_aload_n 0 d_Mo_thrown_0 rfl rfl ?_
  replace h := Option.bind_eq_some_iff.mp h; obtain ⟨x1, e2, h⟩ := h
  refine z_getI wF_NumberOfficeModel_120_14 d_Mo_thrown_1 e2 ?_
  cases h
  exact z_iret rfl rfl d_Mo_thrown_4

def s_Mo_isSeries_14 (g : zG)  (v0 : Int32) (w0 : Int32) (σ : zS) : Option (Int32 × zS) := if w0 = 0 ∨ w0 = 1 then some (w0, σ) else none
def s_Mo_isSeries_13 (g : zG)  (v0 : Int32) (σ : zS) : Option (Int32 × zS) := s_Mo_isSeries_14 g  (v0) (0) σ
def s_Mo_isSeries (g : zG) (v0 : Int32) (σ : zS) : Option (Int32 × zS) := if v0 < 0 then s_Mo_isSeries_13 g  (v0) σ else if 3 ≤ v0 then s_Mo_isSeries_13 g  (v0) σ else s_Mo_isSeries_14 g  (v0) (1) σ
set_option maxRecDepth 100000 in
theorem t_Mo_isSeries_14 {l : Launch} {D : zD} {g : zG} (hG : zGok g D) {q : Int32 × zS}   {v0 : Int32} {w0 : Int32} {σ : zS} (h : s_Mo_isSeries_14 g  v0 w0 σ = some q) : Z l D K_Mo_isSeries 0 0 (.returned (some (.int q.1)), q.2) 14 [(0, .int (v0))] [.int (w0)] σ := by
  unfold s_Mo_isSeries_14 at h
  by_cases c1 : w0 = 0 ∨ w0 = 1
  rotate_left
  · rw [if_neg c1] at h; cases h
  rw [if_pos c1] at h
  cases h
  exact z_zret rfl (z_nb c1) rfl d_Mo_isSeries_14
set_option maxRecDepth 100000 in
theorem t_Mo_isSeries_13 {l : Launch} {D : zD} {g : zG} (hG : zGok g D) {q : Int32 × zS}   {v0 : Int32} {σ : zS} (h : s_Mo_isSeries_13 g  v0 σ = some q) : Z l D K_Mo_isSeries 0 0 (.returned (some (.int q.1)), q.2) 13 [(0, .int (v0))] [] σ := by
  unfold s_Mo_isSeries_13 at h
  refine z_iconst (v := 0) d_Mo_isSeries_13 rfl ?_
  refine z_lv (lv' := [(0, .int (v0))]) [0] rfl ?_
  exact t_Mo_isSeries_14 hG   h
set_option maxRecDepth 100000 in
theorem t_Mo_isSeries {l : Launch} {D : zD} {g : zG} (hG : zGok g D) {v0 : Int32} {σ : zS} {q : Int32 × zS} (h : s_Mo_isSeries g v0 σ = some q) : zMet l D Y_Mo_isSeries K_Mo_isSeries 0 0 [.int (v0)] σ (.returned (some (.int q.1)), q.2) := by
  refine zMet.ofZ (by decide) rfl (fun q => by cases q) (Nat.le_of_ble_eq_true rfl) ?_
  show Z _ _ _ _ _ _ 0 [(0, .int (v0))] [] _
  unfold s_Mo_isSeries at h
  refine z_iload_n 0 d_Mo_isSeries_0 rfl rfl ?_
  refine z_if_lt (tgt := 13) d_Mo_isSeries_1 rfl (fun c1 => ?_) (fun c1 => ?_)
  · rw [if_pos c1] at h
    refine z_lv (lv' := [(0, .int (v0))]) [0] rfl ?_
    exact t_Mo_isSeries_13 hG   h
  · rw [if_neg c1] at h
    refine z_iload_n 0 d_Mo_isSeries_4 rfl rfl ?_
    refine z_iconst (v := 3) d_Mo_isSeries_5 rfl ?_
    refine z_icmp_ge (tgt := 13) d_Mo_isSeries_6 rfl (fun c2 => ?_) (fun c2 => ?_)
    · rw [if_pos c2] at h
      refine z_lv (lv' := [(0, .int (v0))]) [0] rfl ?_
      exact t_Mo_isSeries_13 hG   h
    · rw [if_neg c2] at h
      refine z_iconst (v := 1) d_Mo_isSeries_9 rfl ?_
      refine z_goto (tgt := 14) d_Mo_isSeries_10 rfl ?_
      refine z_lv (lv' := [(0, .int (v0))]) [0] rfl ?_
      exact t_Mo_isSeries_14 hG   h

def s_Mo_isBranch_17 (g : zG)  (v0 : Nat) (v1 : Int32) (w0 : Int32) (σ : zS) : Option (Int32 × zS) := if w0 = 0 ∨ w0 = 1 then some (w0, σ) else none
def s_Mo_isBranch_16 (g : zG)  (v0 : Nat) (v1 : Int32) (σ : zS) : Option (Int32 × zS) := s_Mo_isBranch_17 g  (v0) (v1) (0) σ
def s_Mo_isBranch (g : zG) (v0 : Nat) (v1 : Int32) (σ : zS) : Option (Int32 × zS) := if v1 < 0 then s_Mo_isBranch_16 g  (v0) (v1) σ else (zgI σ v0 14 1).bind fun x2 => if x2 ≤ v1 then s_Mo_isBranch_16 g  (v0) (v1) σ else s_Mo_isBranch_17 g  (v0) (v1) (1) σ
set_option maxRecDepth 100000 in
theorem t_Mo_isBranch_17 {l : Launch} {D : zD} {g : zG} (hG : zGok g D) {q : Int32 × zS}   {v0 : Nat} {v1 : Int32} {w0 : Int32} {σ : zS} (h : s_Mo_isBranch_17 g  v0 v1 w0 σ = some q) : Z l D K_Mo_isBranch 0 0 (.returned (some (.int q.1)), q.2) 17 [(0, .ref (v0)), (1, .int (v1))] [.int (w0)] σ := by
  unfold s_Mo_isBranch_17 at h
  by_cases c1 : w0 = 0 ∨ w0 = 1
  rotate_left
  · rw [if_neg c1] at h; cases h
  rw [if_pos c1] at h
  cases h
  exact z_zret rfl (z_nb c1) rfl d_Mo_isBranch_17
set_option maxRecDepth 100000 in
theorem t_Mo_isBranch_16 {l : Launch} {D : zD} {g : zG} (hG : zGok g D) {q : Int32 × zS}   {v0 : Nat} {v1 : Int32} {σ : zS} (h : s_Mo_isBranch_16 g  v0 v1 σ = some q) : Z l D K_Mo_isBranch 0 0 (.returned (some (.int q.1)), q.2) 16 [(0, .ref (v0)), (1, .int (v1))] [] σ := by
  unfold s_Mo_isBranch_16 at h
  refine z_iconst (v := 0) d_Mo_isBranch_16 rfl ?_
  refine z_lv (lv' := [(0, .ref (v0)), (1, .int (v1))]) [0, 1] rfl ?_
  exact t_Mo_isBranch_17 hG   h
set_option maxRecDepth 100000 in
theorem t_Mo_isBranch {l : Launch} {D : zD} {g : zG} (hG : zGok g D) {v0 : Nat} {v1 : Int32} {σ : zS} {q : Int32 × zS} (h : s_Mo_isBranch g v0 v1 σ = some q) : zMet l D Y_Mo_isBranch K_Mo_isBranch 0 0 [.ref (v0), .int (v1)] σ (.returned (some (.int q.1)), q.2) := by
  refine zMet.ofZ (by decide) rfl (fun q => by cases q) (Nat.le_of_ble_eq_true rfl) ?_
  show Z _ _ _ _ _ _ 0 [(0, .ref (v0)), (1, .int (v1))] [] _
  unfold s_Mo_isBranch at h
  refine z_iload_n 1 d_Mo_isBranch_0 rfl rfl ?_
  refine z_if_lt (tgt := 16) d_Mo_isBranch_1 rfl (fun c1 => ?_) (fun c1 => ?_)
  · rw [if_pos c1] at h
    refine z_lv (lv' := [(0, .ref (v0)), (1, .int (v1))]) [0, 1] rfl ?_
    exact t_Mo_isBranch_16 hG   h
  · rw [if_neg c1] at h
    refine z_iload_n 1 d_Mo_isBranch_4 rfl rfl ?_
    refine z_aload_n 0 d_Mo_isBranch_5 rfl rfl ?_
    replace h := Option.bind_eq_some_iff.mp h; obtain ⟨x2, e3, h⟩ := h
    refine z_getI wF_NumberOfficeModel_116_14 d_Mo_isBranch_6 e3 ?_
    refine z_icmp_ge (tgt := 16) d_Mo_isBranch_9 rfl (fun c4 => ?_) (fun c4 => ?_)
    · rw [if_pos c4] at h
      refine z_lv (lv' := [(0, .ref (v0)), (1, .int (v1))]) [0, 1] rfl ?_
      exact t_Mo_isBranch_16 hG   h
    · rw [if_neg c4] at h
      refine z_iconst (v := 1) d_Mo_isBranch_12 rfl ?_
      refine z_goto (tgt := 17) d_Mo_isBranch_13 rfl ?_
      refine z_lv (lv' := [(0, .ref (v0)), (1, .int (v1))]) [0, 1] rfl ?_
      exact t_Mo_isBranch_17 hG   h

def s_Mo_openBlocks_43 (g : zG)  (v0 : Nat) (v1 : Int32) (w0 : Int32) (σ : zS) : Option (Int32 × zS) := some (w0, σ)
def s_Mo_openBlocks (g : zG) (v0 : Nat) (v1 : Int32) (σ : zS) : Option (Int32 × zS) := (zgR σ v0 14 4).bind fun x1 => (x1).bind fun a3 => (zaI σ a3 0 (v1)).bind fun x4 => (zgR σ v0 14 3).bind fun x6 => (x6).bind fun a8 => (zaI σ a8 0 (v1)).bind fun x9 => if x4 = x9 then s_Mo_openBlocks_43 g  (v0) (v1) (0) σ else (zgR σ v0 14 5).bind fun x12 => (x12).bind fun a14 => (zaI σ a14 0 (v1)).bind fun x15 => (zgR σ v0 14 9).bind fun x17 => (zgR σ v0 14 4).bind fun x19 => (x19).bind fun a21 => (zaI σ a21 0 (v1)).bind fun x22 => (x17).bind fun a24 => (zaI σ a24 5 ((300 * v1) + x22)).bind fun x25 => s_Mo_openBlocks_43 g  (v0) (v1) (x15 - x25) σ
set_option maxRecDepth 100000 in
theorem t_Mo_openBlocks_43 {l : Launch} {D : zD} {g : zG} (hG : zGok g D) {q : Int32 × zS}   {v0 : Nat} {v1 : Int32} {w0 : Int32} {σ : zS} (h : s_Mo_openBlocks_43 g  v0 v1 w0 σ = some q) : Z l D K_Mo_openBlocks 0 0 (.returned (some (.int q.1)), q.2) 43 [(0, .ref (v0)), (1, .int (v1))] [.int (w0)] σ := by
  unfold s_Mo_openBlocks_43 at h
  cases h
  exact z_iret rfl rfl d_Mo_openBlocks_43
set_option maxRecDepth 100000 in
theorem t_Mo_openBlocks {l : Launch} {D : zD} {g : zG} (hG : zGok g D) {v0 : Nat} {v1 : Int32} {σ : zS} {q : Int32 × zS} (h : s_Mo_openBlocks g v0 v1 σ = some q) : zMet l D Y_Mo_openBlocks K_Mo_openBlocks 0 0 [.ref (v0), .int (v1)] σ (.returned (some (.int q.1)), q.2) := by
  refine zMet.ofZ (by decide) rfl (fun q => by cases q) (Nat.le_of_ble_eq_true rfl) ?_
  show Z _ _ _ _ _ _ 0 [(0, .ref (v0)), (1, .int (v1))] [] _
  unfold s_Mo_openBlocks at h
  refine z_aload_n 0 d_Mo_openBlocks_0 rfl rfl ?_
  replace h := Option.bind_eq_some_iff.mp h; obtain ⟨x1, e2, h⟩ := h
  refine z_getR wF_NumberOfficeModel_17_14 d_Mo_openBlocks_1 e2 ?_
  refine z_iload_n 1 d_Mo_openBlocks_4 rfl rfl ?_
  replace h := Option.bind_eq_some_iff.mp h; obtain ⟨a3, rfl, h⟩ := h
  replace h := Option.bind_eq_some_iff.mp h; obtain ⟨x4, e5, h⟩ := h
  refine z_iaload rfl d_Mo_openBlocks_5 e5 ?_
  refine z_aload_n 0 d_Mo_openBlocks_6 rfl rfl ?_
  replace h := Option.bind_eq_some_iff.mp h; obtain ⟨x6, e7, h⟩ := h
  refine z_getR wF_NumberOfficeModel_13_14 d_Mo_openBlocks_7 e7 ?_
  refine z_iload_n 1 d_Mo_openBlocks_10 rfl rfl ?_
  replace h := Option.bind_eq_some_iff.mp h; obtain ⟨a8, rfl, h⟩ := h
  replace h := Option.bind_eq_some_iff.mp h; obtain ⟨x9, e10, h⟩ := h
  refine z_iaload rfl d_Mo_openBlocks_11 e10 ?_
  refine z_icmp_ne (tgt := 19) d_Mo_openBlocks_12 rfl (fun c11 => ?_) (fun c11 => ?_)
  · rw [if_neg c11] at h
    refine z_aload_n 0 d_Mo_openBlocks_19 rfl rfl ?_
    replace h := Option.bind_eq_some_iff.mp h; obtain ⟨x12, e13, h⟩ := h
    refine z_getR wF_NumberOfficeModel_20_14 d_Mo_openBlocks_20 e13 ?_
    refine z_iload_n 1 d_Mo_openBlocks_23 rfl rfl ?_
    replace h := Option.bind_eq_some_iff.mp h; obtain ⟨a14, rfl, h⟩ := h
    replace h := Option.bind_eq_some_iff.mp h; obtain ⟨x15, e16, h⟩ := h
    refine z_iaload rfl d_Mo_openBlocks_24 e16 ?_
    refine z_aload_n 0 d_Mo_openBlocks_25 rfl rfl ?_
    replace h := Option.bind_eq_some_iff.mp h; obtain ⟨x17, e18, h⟩ := h
    refine z_getR wF_NumberOfficeModel_33_14 d_Mo_openBlocks_26 e18 ?_
    refine z_sipush (v := 300) d_Mo_openBlocks_29 rfl ?_
    refine z_iload_n 1 d_Mo_openBlocks_32 rfl rfl ?_
    refine z_imul d_Mo_openBlocks_33 ?_
    refine z_aload_n 0 d_Mo_openBlocks_34 rfl rfl ?_
    replace h := Option.bind_eq_some_iff.mp h; obtain ⟨x19, e20, h⟩ := h
    refine z_getR wF_NumberOfficeModel_17_14 d_Mo_openBlocks_35 e20 ?_
    refine z_iload_n 1 d_Mo_openBlocks_38 rfl rfl ?_
    replace h := Option.bind_eq_some_iff.mp h; obtain ⟨a21, rfl, h⟩ := h
    replace h := Option.bind_eq_some_iff.mp h; obtain ⟨x22, e23, h⟩ := h
    refine z_iaload rfl d_Mo_openBlocks_39 e23 ?_
    refine z_iadd d_Mo_openBlocks_40 ?_
    replace h := Option.bind_eq_some_iff.mp h; obtain ⟨a24, rfl, h⟩ := h
    replace h := Option.bind_eq_some_iff.mp h; obtain ⟨x25, e26, h⟩ := h
    refine z_saload rfl d_Mo_openBlocks_41 e26 ?_
    refine z_isub d_Mo_openBlocks_42 ?_
    refine z_lv (lv' := [(0, .ref (v0)), (1, .int (v1))]) [0, 1] rfl ?_
    exact t_Mo_openBlocks_43 hG   h
  · rw [if_pos c11] at h
    refine z_iconst (v := 0) d_Mo_openBlocks_15 rfl ?_
    refine z_goto (tgt := 43) d_Mo_openBlocks_16 rfl ?_
    refine z_lv (lv' := [(0, .ref (v0)), (1, .int (v1))]) [0, 1] rfl ?_
    exact t_Mo_openBlocks_43 hG   h

def s_Mo_copyOffice_210 (g : zG)  : Nat → Nat → Int32 → Int32 → Int32 → zS → Option (zS)
  | 0, _, _, _, _, _ => none
  | n + 1, v0, v1, v2, v3, σ => if 6 ≤ v3 then some σ else (zgR σ v0 14 29).bind fun x2 => (zgR σ v0 14 29).bind fun x4 => (x4).bind fun a6 => (zaI σ a6 3 ((6 * v1) + v3)).bind fun x7 => (x2).bind fun a9 => (zsI σ a9 3 ((6 * v2) + v3) (vp_nar .boolean x7)).bind fun σ10 => (zgR σ10 v0 14 30).bind fun x12 => (zgR σ10 v0 14 30).bind fun x14 => (x14).bind fun a16 => (zaI σ10 a16 0 ((6 * v1) + v3)).bind fun x17 => (x12).bind fun a19 => (zsI σ10 a19 0 ((6 * v2) + v3) (x17)).bind fun σ20 => (zgR σ20 v0 14 31).bind fun x22 => (zgR σ20 v0 14 31).bind fun x24 => (x24).bind fun a26 => (zaI σ20 a26 0 ((6 * v1) + v3)).bind fun x27 => (x22).bind fun a29 => (zsI σ20 a29 0 ((6 * v2) + v3) (x27)).bind fun σ30 => (zgR σ30 v0 14 32).bind fun x32 => (zgR σ30 v0 14 32).bind fun x34 => (x34).bind fun a36 => (zaI σ30 a36 0 ((6 * v1) + v3)).bind fun x37 => (x32).bind fun a39 => (zsI σ30 a39 0 ((6 * v2) + v3) (x37)).bind fun σ40 => (zgR σ40 v0 14 33).bind fun x42 => (zgR σ40 v0 14 33).bind fun x44 => (x44).bind fun a46 => (zaI σ40 a46 0 ((6 * v1) + v3)).bind fun x47 => (x42).bind fun a49 => (zsI σ40 a49 0 ((6 * v2) + v3) (x47)).bind fun σ50 => s_Mo_copyOffice_210 g  n (v0) (v1) (v2) (v3 + 1) σ50
def s_Mo_copyOffice_75 (g : zG)  : Nat → Nat → Int32 → Int32 → Int32 → zS → Option (zS)
  | 0, _, _, _, _, _ => none
  | n + 1, v0, v1, v2, v3, σ => if 900 ≤ v3 then s_Mo_copyOffice_210 g  zfuel (v0) (v1) (v2) (0) σ else (zgR σ v0 14 24).bind fun x2 => (zgR σ v0 14 24).bind fun x4 => (x4).bind fun a6 => (zaI σ a6 2 ((900 * v1) + v3)).bind fun x7 => (x2).bind fun a9 => (zsI σ a9 2 ((900 * v2) + v3) (vp_nar .byte x7)).bind fun σ10 => (zgR σ10 v0 14 25).bind fun x12 => (zgR σ10 v0 14 25).bind fun x14 => (x14).bind fun a16 => (zaI σ10 a16 2 ((900 * v1) + v3)).bind fun x17 => (x12).bind fun a19 => (zsI σ10 a19 2 ((900 * v2) + v3) (vp_nar .byte x17)).bind fun σ20 => (zgR σ20 v0 14 26).bind fun x22 => (zgR σ20 v0 14 26).bind fun x24 => (x24).bind fun a26 => (zaL σ20 a26 1 ((900 * v1) + v3)).bind fun x27 => (x22).bind fun a29 => (zsL σ20 a29 1 ((900 * v2) + v3) (x27)).bind fun σ30 => (zgR σ30 v0 14 27).bind fun x32 => (zgR σ30 v0 14 27).bind fun x34 => (x34).bind fun a36 => (zaI σ30 a36 0 ((900 * v1) + v3)).bind fun x37 => (x32).bind fun a39 => (zsI σ30 a39 0 ((900 * v2) + v3) (x37)).bind fun σ40 => (zgR σ40 v0 14 28).bind fun x42 => (zgR σ40 v0 14 28).bind fun x44 => (x44).bind fun a46 => (zaI σ40 a46 2 ((900 * v1) + v3)).bind fun x47 => (x42).bind fun a49 => (zsI σ40 a49 2 ((900 * v2) + v3) (vp_nar .byte x47)).bind fun σ50 => s_Mo_copyOffice_75 g  n (v0) (v1) (v2) (v3 + 1) σ50
def s_Mo_copyOffice_2 (g : zG)  : Nat → Nat → Int32 → Int32 → Int32 → zS → Option (zS)
  | 0, _, _, _, _, _ => none
  | n + 1, v0, v1, v2, v3, σ => if 3 ≤ v3 then s_Mo_copyOffice_75 g  zfuel (v0) (v1) (v2) (0) σ else (zgR σ v0 14 21).bind fun x2 => (zgR σ v0 14 21).bind fun x4 => (x4).bind fun a6 => (zaI σ a6 0 ((3 * v1) + v3)).bind fun x7 => (x2).bind fun a9 => (zsI σ a9 0 ((3 * v2) + v3) (x7)).bind fun σ10 => (zgR σ10 v0 14 22).bind fun x12 => (zgR σ10 v0 14 22).bind fun x14 => (x14).bind fun a16 => (zaI σ10 a16 0 ((3 * v1) + v3)).bind fun x17 => (x12).bind fun a19 => (zsI σ10 a19 0 ((3 * v2) + v3) (x17)).bind fun σ20 => (zgR σ20 v0 14 23).bind fun x22 => (zgR σ20 v0 14 23).bind fun x24 => (x24).bind fun a26 => (zaI σ20 a26 0 ((3 * v1) + v3)).bind fun x27 => (x22).bind fun a29 => (zsI σ20 a29 0 ((3 * v2) + v3) (x27)).bind fun σ30 => s_Mo_copyOffice_2 g  n (v0) (v1) (v2) (v3 + 1) σ30
def s_Mo_copyOffice (g : zG) (v0 : Nat) (v1 : Int32) (v2 : Int32) (σ : zS) : Option (zS) := s_Mo_copyOffice_2 g  zfuel (v0) (v1) (v2) (0) σ
set_option maxRecDepth 100000 in
theorem t_Mo_copyOffice_210 {l : Launch} {D : zD} {g : zG} (hG : zGok g D) {q : zS}   : ∀ (n : Nat) {v0 : Nat} {v1 : Int32} {v2 : Int32} {v3 : Int32} {σ : zS}, s_Mo_copyOffice_210 g  n v0 v1 v2 v3 σ = some q → Z l D K_Mo_copyOffice 0 0 (.returned none, q) 210 [(0, .ref (v0)), (1, .int (v1)), (2, .int (v2)), (3, .int (v3))] [] σ := by
  intro n
  induction n with
  | zero =>
    intro v0 v1 v2 v3 σ h
    cases h
  | succ n ih =>
    intro v0 v1 v2 v3 σ h
    first | rw [s_Mo_copyOffice_210] at h | (unfold s_Mo_copyOffice_210 at h; dsimp only at h)
    refine z_iload_n 3 d_Mo_copyOffice_210 rfl rfl ?_
    refine z_bipush (v := 6) d_Mo_copyOffice_211 rfl ?_
    refine z_icmp_ge (tgt := 332) d_Mo_copyOffice_213 rfl (fun c1 => ?_) (fun c1 => ?_)
    · rw [if_pos c1] at h
      cases h
      exact z_vret rfl rfl d_Mo_copyOffice_332
    · rw [if_neg c1] at h
      refine z_aload_n 0 d_Mo_copyOffice_216 rfl rfl ?_
      replace h := Option.bind_eq_some_iff.mp h; obtain ⟨x2, e3, h⟩ := h
      refine z_getR wF_NumberOfficeModel_95_14 d_Mo_copyOffice_217 e3 ?_
      refine z_bipush (v := 6) d_Mo_copyOffice_220 rfl ?_
      refine z_iload_n 2 d_Mo_copyOffice_222 rfl rfl ?_
      refine z_imul d_Mo_copyOffice_223 ?_
      refine z_iload_n 3 d_Mo_copyOffice_224 rfl rfl ?_
      refine z_iadd d_Mo_copyOffice_225 ?_
      refine z_aload_n 0 d_Mo_copyOffice_226 rfl rfl ?_
      replace h := Option.bind_eq_some_iff.mp h; obtain ⟨x4, e5, h⟩ := h
      refine z_getR wF_NumberOfficeModel_95_14 d_Mo_copyOffice_227 e5 ?_
      refine z_bipush (v := 6) d_Mo_copyOffice_230 rfl ?_
      refine z_iload_n 1 d_Mo_copyOffice_232 rfl rfl ?_
      refine z_imul d_Mo_copyOffice_233 ?_
      refine z_iload_n 3 d_Mo_copyOffice_234 rfl rfl ?_
      refine z_iadd d_Mo_copyOffice_235 ?_
      replace h := Option.bind_eq_some_iff.mp h; obtain ⟨a6, rfl, h⟩ := h
      replace h := Option.bind_eq_some_iff.mp h; obtain ⟨x7, e8, h⟩ := h
      refine z_zaload rfl d_Mo_copyOffice_236 e8 ?_
      replace h := Option.bind_eq_some_iff.mp h; obtain ⟨a9, rfl, h⟩ := h
      replace h := Option.bind_eq_some_iff.mp h; obtain ⟨σ10, e11, h⟩ := h
      refine z_zastore rfl d_Mo_copyOffice_237 e11 ?_
      refine z_aload_n 0 d_Mo_copyOffice_238 rfl rfl ?_
      replace h := Option.bind_eq_some_iff.mp h; obtain ⟨x12, e13, h⟩ := h
      refine z_getR wF_NumberOfficeModel_98_14 d_Mo_copyOffice_239 e13 ?_
      refine z_bipush (v := 6) d_Mo_copyOffice_242 rfl ?_
      refine z_iload_n 2 d_Mo_copyOffice_244 rfl rfl ?_
      refine z_imul d_Mo_copyOffice_245 ?_
      refine z_iload_n 3 d_Mo_copyOffice_246 rfl rfl ?_
      refine z_iadd d_Mo_copyOffice_247 ?_
      refine z_aload_n 0 d_Mo_copyOffice_248 rfl rfl ?_
      replace h := Option.bind_eq_some_iff.mp h; obtain ⟨x14, e15, h⟩ := h
      refine z_getR wF_NumberOfficeModel_98_14 d_Mo_copyOffice_249 e15 ?_
      refine z_bipush (v := 6) d_Mo_copyOffice_252 rfl ?_
      refine z_iload_n 1 d_Mo_copyOffice_254 rfl rfl ?_
      refine z_imul d_Mo_copyOffice_255 ?_
      refine z_iload_n 3 d_Mo_copyOffice_256 rfl rfl ?_
      refine z_iadd d_Mo_copyOffice_257 ?_
      replace h := Option.bind_eq_some_iff.mp h; obtain ⟨a16, rfl, h⟩ := h
      replace h := Option.bind_eq_some_iff.mp h; obtain ⟨x17, e18, h⟩ := h
      refine z_iaload rfl d_Mo_copyOffice_258 e18 ?_
      replace h := Option.bind_eq_some_iff.mp h; obtain ⟨a19, rfl, h⟩ := h
      replace h := Option.bind_eq_some_iff.mp h; obtain ⟨σ20, e21, h⟩ := h
      refine z_iastore rfl d_Mo_copyOffice_259 e21 ?_
      refine z_aload_n 0 d_Mo_copyOffice_260 rfl rfl ?_
      replace h := Option.bind_eq_some_iff.mp h; obtain ⟨x22, e23, h⟩ := h
      refine z_getR wF_NumberOfficeModel_101_14 d_Mo_copyOffice_261 e23 ?_
      refine z_bipush (v := 6) d_Mo_copyOffice_264 rfl ?_
      refine z_iload_n 2 d_Mo_copyOffice_266 rfl rfl ?_
      refine z_imul d_Mo_copyOffice_267 ?_
      refine z_iload_n 3 d_Mo_copyOffice_268 rfl rfl ?_
      refine z_iadd d_Mo_copyOffice_269 ?_
      refine z_aload_n 0 d_Mo_copyOffice_270 rfl rfl ?_
      replace h := Option.bind_eq_some_iff.mp h; obtain ⟨x24, e25, h⟩ := h
      refine z_getR wF_NumberOfficeModel_101_14 d_Mo_copyOffice_271 e25 ?_
      refine z_bipush (v := 6) d_Mo_copyOffice_274 rfl ?_
      refine z_iload_n 1 d_Mo_copyOffice_276 rfl rfl ?_
      refine z_imul d_Mo_copyOffice_277 ?_
      refine z_iload_n 3 d_Mo_copyOffice_278 rfl rfl ?_
      refine z_iadd d_Mo_copyOffice_279 ?_
      replace h := Option.bind_eq_some_iff.mp h; obtain ⟨a26, rfl, h⟩ := h
      replace h := Option.bind_eq_some_iff.mp h; obtain ⟨x27, e28, h⟩ := h
      refine z_iaload rfl d_Mo_copyOffice_280 e28 ?_
      replace h := Option.bind_eq_some_iff.mp h; obtain ⟨a29, rfl, h⟩ := h
      replace h := Option.bind_eq_some_iff.mp h; obtain ⟨σ30, e31, h⟩ := h
      refine z_iastore rfl d_Mo_copyOffice_281 e31 ?_
      refine z_aload_n 0 d_Mo_copyOffice_282 rfl rfl ?_
      replace h := Option.bind_eq_some_iff.mp h; obtain ⟨x32, e33, h⟩ := h
      refine z_getR wF_NumberOfficeModel_104_14 d_Mo_copyOffice_283 e33 ?_
      refine z_bipush (v := 6) d_Mo_copyOffice_286 rfl ?_
      refine z_iload_n 2 d_Mo_copyOffice_288 rfl rfl ?_
      refine z_imul d_Mo_copyOffice_289 ?_
      refine z_iload_n 3 d_Mo_copyOffice_290 rfl rfl ?_
      refine z_iadd d_Mo_copyOffice_291 ?_
      refine z_aload_n 0 d_Mo_copyOffice_292 rfl rfl ?_
      replace h := Option.bind_eq_some_iff.mp h; obtain ⟨x34, e35, h⟩ := h
      refine z_getR wF_NumberOfficeModel_104_14 d_Mo_copyOffice_293 e35 ?_
      refine z_bipush (v := 6) d_Mo_copyOffice_296 rfl ?_
      refine z_iload_n 1 d_Mo_copyOffice_298 rfl rfl ?_
      refine z_imul d_Mo_copyOffice_299 ?_
      refine z_iload_n 3 d_Mo_copyOffice_300 rfl rfl ?_
      refine z_iadd d_Mo_copyOffice_301 ?_
      replace h := Option.bind_eq_some_iff.mp h; obtain ⟨a36, rfl, h⟩ := h
      replace h := Option.bind_eq_some_iff.mp h; obtain ⟨x37, e38, h⟩ := h
      refine z_iaload rfl d_Mo_copyOffice_302 e38 ?_
      replace h := Option.bind_eq_some_iff.mp h; obtain ⟨a39, rfl, h⟩ := h
      replace h := Option.bind_eq_some_iff.mp h; obtain ⟨σ40, e41, h⟩ := h
      refine z_iastore rfl d_Mo_copyOffice_303 e41 ?_
      refine z_aload_n 0 d_Mo_copyOffice_304 rfl rfl ?_
      replace h := Option.bind_eq_some_iff.mp h; obtain ⟨x42, e43, h⟩ := h
      refine z_getR wF_NumberOfficeModel_107_14 d_Mo_copyOffice_305 e43 ?_
      refine z_bipush (v := 6) d_Mo_copyOffice_308 rfl ?_
      refine z_iload_n 2 d_Mo_copyOffice_310 rfl rfl ?_
      refine z_imul d_Mo_copyOffice_311 ?_
      refine z_iload_n 3 d_Mo_copyOffice_312 rfl rfl ?_
      refine z_iadd d_Mo_copyOffice_313 ?_
      refine z_aload_n 0 d_Mo_copyOffice_314 rfl rfl ?_
      replace h := Option.bind_eq_some_iff.mp h; obtain ⟨x44, e45, h⟩ := h
      refine z_getR wF_NumberOfficeModel_107_14 d_Mo_copyOffice_315 e45 ?_
      refine z_bipush (v := 6) d_Mo_copyOffice_318 rfl ?_
      refine z_iload_n 1 d_Mo_copyOffice_320 rfl rfl ?_
      refine z_imul d_Mo_copyOffice_321 ?_
      refine z_iload_n 3 d_Mo_copyOffice_322 rfl rfl ?_
      refine z_iadd d_Mo_copyOffice_323 ?_
      replace h := Option.bind_eq_some_iff.mp h; obtain ⟨a46, rfl, h⟩ := h
      replace h := Option.bind_eq_some_iff.mp h; obtain ⟨x47, e48, h⟩ := h
      refine z_iaload rfl d_Mo_copyOffice_324 e48 ?_
      replace h := Option.bind_eq_some_iff.mp h; obtain ⟨a49, rfl, h⟩ := h
      replace h := Option.bind_eq_some_iff.mp h; obtain ⟨σ50, e51, h⟩ := h
      refine z_iastore rfl d_Mo_copyOffice_325 e51 ?_
      refine z_iinc (v := v3 + 1) (lv' := [(3, .int (v3 + 1)), (0, .ref (v0)), (1, .int (v1)), (2, .int (v2))]) 3 d_Mo_copyOffice_326 rfl rfl (by decide) rfl ?_
      refine z_goto (tgt := 210) d_Mo_copyOffice_329 rfl ?_
      refine z_lv (lv' := [(0, .ref (v0)), (1, .int (v1)), (2, .int (v2)), (3, .int (v3 + 1))]) [1, 2, 3, 0] rfl ?_
      exact ih h
set_option maxRecDepth 100000 in
theorem t_Mo_copyOffice_75 {l : Launch} {D : zD} {g : zG} (hG : zGok g D) {q : zS}   : ∀ (n : Nat) {v0 : Nat} {v1 : Int32} {v2 : Int32} {v3 : Int32} {σ : zS}, s_Mo_copyOffice_75 g  n v0 v1 v2 v3 σ = some q → Z l D K_Mo_copyOffice 0 0 (.returned none, q) 75 [(0, .ref (v0)), (1, .int (v1)), (2, .int (v2)), (3, .int (v3))] [] σ := by
  intro n
  induction n with
  | zero =>
    intro v0 v1 v2 v3 σ h
    cases h
  | succ n ih =>
    intro v0 v1 v2 v3 σ h
    first | rw [s_Mo_copyOffice_75] at h | (unfold s_Mo_copyOffice_75 at h; dsimp only at h)
    refine z_iload_n 3 d_Mo_copyOffice_75 rfl rfl ?_
    refine z_sipush (v := 900) d_Mo_copyOffice_76 rfl ?_
    refine z_icmp_ge (tgt := 208) d_Mo_copyOffice_79 rfl (fun c1 => ?_) (fun c1 => ?_)
    · rw [if_pos c1] at h
      refine z_iconst (v := 0) d_Mo_copyOffice_208 rfl ?_
      refine z_istore_n (j := 3) (lv' := [(3, .int (0)), (0, .ref (v0)), (1, .int (v1)), (2, .int (v2))]) d_Mo_copyOffice_209 rfl (by decide) rfl ?_
      refine z_lv (lv' := [(0, .ref (v0)), (1, .int (v1)), (2, .int (v2)), (3, .int (0))]) [1, 2, 3, 0] rfl ?_
      exact t_Mo_copyOffice_210 hG   zfuel h
    · rw [if_neg c1] at h
      refine z_aload_n 0 d_Mo_copyOffice_82 rfl rfl ?_
      replace h := Option.bind_eq_some_iff.mp h; obtain ⟨x2, e3, h⟩ := h
      refine z_getR wF_NumberOfficeModel_80_14 d_Mo_copyOffice_83 e3 ?_
      refine z_sipush (v := 900) d_Mo_copyOffice_86 rfl ?_
      refine z_iload_n 2 d_Mo_copyOffice_89 rfl rfl ?_
      refine z_imul d_Mo_copyOffice_90 ?_
      refine z_iload_n 3 d_Mo_copyOffice_91 rfl rfl ?_
      refine z_iadd d_Mo_copyOffice_92 ?_
      refine z_aload_n 0 d_Mo_copyOffice_93 rfl rfl ?_
      replace h := Option.bind_eq_some_iff.mp h; obtain ⟨x4, e5, h⟩ := h
      refine z_getR wF_NumberOfficeModel_80_14 d_Mo_copyOffice_94 e5 ?_
      refine z_sipush (v := 900) d_Mo_copyOffice_97 rfl ?_
      refine z_iload_n 1 d_Mo_copyOffice_100 rfl rfl ?_
      refine z_imul d_Mo_copyOffice_101 ?_
      refine z_iload_n 3 d_Mo_copyOffice_102 rfl rfl ?_
      refine z_iadd d_Mo_copyOffice_103 ?_
      replace h := Option.bind_eq_some_iff.mp h; obtain ⟨a6, rfl, h⟩ := h
      replace h := Option.bind_eq_some_iff.mp h; obtain ⟨x7, e8, h⟩ := h
      refine z_baload rfl d_Mo_copyOffice_104 e8 ?_
      replace h := Option.bind_eq_some_iff.mp h; obtain ⟨a9, rfl, h⟩ := h
      replace h := Option.bind_eq_some_iff.mp h; obtain ⟨σ10, e11, h⟩ := h
      refine z_bastore rfl d_Mo_copyOffice_105 e11 ?_
      refine z_aload_n 0 d_Mo_copyOffice_106 rfl rfl ?_
      replace h := Option.bind_eq_some_iff.mp h; obtain ⟨x12, e13, h⟩ := h
      refine z_getR wF_NumberOfficeModel_83_14 d_Mo_copyOffice_107 e13 ?_
      refine z_sipush (v := 900) d_Mo_copyOffice_110 rfl ?_
      refine z_iload_n 2 d_Mo_copyOffice_113 rfl rfl ?_
      refine z_imul d_Mo_copyOffice_114 ?_
      refine z_iload_n 3 d_Mo_copyOffice_115 rfl rfl ?_
      refine z_iadd d_Mo_copyOffice_116 ?_
      refine z_aload_n 0 d_Mo_copyOffice_117 rfl rfl ?_
      replace h := Option.bind_eq_some_iff.mp h; obtain ⟨x14, e15, h⟩ := h
      refine z_getR wF_NumberOfficeModel_83_14 d_Mo_copyOffice_118 e15 ?_
      refine z_sipush (v := 900) d_Mo_copyOffice_121 rfl ?_
      refine z_iload_n 1 d_Mo_copyOffice_124 rfl rfl ?_
      refine z_imul d_Mo_copyOffice_125 ?_
      refine z_iload_n 3 d_Mo_copyOffice_126 rfl rfl ?_
      refine z_iadd d_Mo_copyOffice_127 ?_
      replace h := Option.bind_eq_some_iff.mp h; obtain ⟨a16, rfl, h⟩ := h
      replace h := Option.bind_eq_some_iff.mp h; obtain ⟨x17, e18, h⟩ := h
      refine z_baload rfl d_Mo_copyOffice_128 e18 ?_
      replace h := Option.bind_eq_some_iff.mp h; obtain ⟨a19, rfl, h⟩ := h
      replace h := Option.bind_eq_some_iff.mp h; obtain ⟨σ20, e21, h⟩ := h
      refine z_bastore rfl d_Mo_copyOffice_129 e21 ?_
      refine z_aload_n 0 d_Mo_copyOffice_130 rfl rfl ?_
      replace h := Option.bind_eq_some_iff.mp h; obtain ⟨x22, e23, h⟩ := h
      refine z_getR wF_NumberOfficeModel_86_14 d_Mo_copyOffice_131 e23 ?_
      refine z_sipush (v := 900) d_Mo_copyOffice_134 rfl ?_
      refine z_iload_n 2 d_Mo_copyOffice_137 rfl rfl ?_
      refine z_imul d_Mo_copyOffice_138 ?_
      refine z_iload_n 3 d_Mo_copyOffice_139 rfl rfl ?_
      refine z_iadd d_Mo_copyOffice_140 ?_
      refine z_aload_n 0 d_Mo_copyOffice_141 rfl rfl ?_
      replace h := Option.bind_eq_some_iff.mp h; obtain ⟨x24, e25, h⟩ := h
      refine z_getR wF_NumberOfficeModel_86_14 d_Mo_copyOffice_142 e25 ?_
      refine z_sipush (v := 900) d_Mo_copyOffice_145 rfl ?_
      refine z_iload_n 1 d_Mo_copyOffice_148 rfl rfl ?_
      refine z_imul d_Mo_copyOffice_149 ?_
      refine z_iload_n 3 d_Mo_copyOffice_150 rfl rfl ?_
      refine z_iadd d_Mo_copyOffice_151 ?_
      replace h := Option.bind_eq_some_iff.mp h; obtain ⟨a26, rfl, h⟩ := h
      replace h := Option.bind_eq_some_iff.mp h; obtain ⟨x27, e28, h⟩ := h
      refine z_laload rfl d_Mo_copyOffice_152 e28 ?_
      replace h := Option.bind_eq_some_iff.mp h; obtain ⟨a29, rfl, h⟩ := h
      replace h := Option.bind_eq_some_iff.mp h; obtain ⟨σ30, e31, h⟩ := h
      refine z_lastore rfl d_Mo_copyOffice_153 e31 ?_
      refine z_aload_n 0 d_Mo_copyOffice_154 rfl rfl ?_
      replace h := Option.bind_eq_some_iff.mp h; obtain ⟨x32, e33, h⟩ := h
      refine z_getR wF_NumberOfficeModel_89_14 d_Mo_copyOffice_155 e33 ?_
      refine z_sipush (v := 900) d_Mo_copyOffice_158 rfl ?_
      refine z_iload_n 2 d_Mo_copyOffice_161 rfl rfl ?_
      refine z_imul d_Mo_copyOffice_162 ?_
      refine z_iload_n 3 d_Mo_copyOffice_163 rfl rfl ?_
      refine z_iadd d_Mo_copyOffice_164 ?_
      refine z_aload_n 0 d_Mo_copyOffice_165 rfl rfl ?_
      replace h := Option.bind_eq_some_iff.mp h; obtain ⟨x34, e35, h⟩ := h
      refine z_getR wF_NumberOfficeModel_89_14 d_Mo_copyOffice_166 e35 ?_
      refine z_sipush (v := 900) d_Mo_copyOffice_169 rfl ?_
      refine z_iload_n 1 d_Mo_copyOffice_172 rfl rfl ?_
      refine z_imul d_Mo_copyOffice_173 ?_
      refine z_iload_n 3 d_Mo_copyOffice_174 rfl rfl ?_
      refine z_iadd d_Mo_copyOffice_175 ?_
      replace h := Option.bind_eq_some_iff.mp h; obtain ⟨a36, rfl, h⟩ := h
      replace h := Option.bind_eq_some_iff.mp h; obtain ⟨x37, e38, h⟩ := h
      refine z_iaload rfl d_Mo_copyOffice_176 e38 ?_
      replace h := Option.bind_eq_some_iff.mp h; obtain ⟨a39, rfl, h⟩ := h
      replace h := Option.bind_eq_some_iff.mp h; obtain ⟨σ40, e41, h⟩ := h
      refine z_iastore rfl d_Mo_copyOffice_177 e41 ?_
      refine z_aload_n 0 d_Mo_copyOffice_178 rfl rfl ?_
      replace h := Option.bind_eq_some_iff.mp h; obtain ⟨x42, e43, h⟩ := h
      refine z_getR wF_NumberOfficeModel_92_14 d_Mo_copyOffice_179 e43 ?_
      refine z_sipush (v := 900) d_Mo_copyOffice_182 rfl ?_
      refine z_iload_n 2 d_Mo_copyOffice_185 rfl rfl ?_
      refine z_imul d_Mo_copyOffice_186 ?_
      refine z_iload_n 3 d_Mo_copyOffice_187 rfl rfl ?_
      refine z_iadd d_Mo_copyOffice_188 ?_
      refine z_aload_n 0 d_Mo_copyOffice_189 rfl rfl ?_
      replace h := Option.bind_eq_some_iff.mp h; obtain ⟨x44, e45, h⟩ := h
      refine z_getR wF_NumberOfficeModel_92_14 d_Mo_copyOffice_190 e45 ?_
      refine z_sipush (v := 900) d_Mo_copyOffice_193 rfl ?_
      refine z_iload_n 1 d_Mo_copyOffice_196 rfl rfl ?_
      refine z_imul d_Mo_copyOffice_197 ?_
      refine z_iload_n 3 d_Mo_copyOffice_198 rfl rfl ?_
      refine z_iadd d_Mo_copyOffice_199 ?_
      replace h := Option.bind_eq_some_iff.mp h; obtain ⟨a46, rfl, h⟩ := h
      replace h := Option.bind_eq_some_iff.mp h; obtain ⟨x47, e48, h⟩ := h
      refine z_baload rfl d_Mo_copyOffice_200 e48 ?_
      replace h := Option.bind_eq_some_iff.mp h; obtain ⟨a49, rfl, h⟩ := h
      replace h := Option.bind_eq_some_iff.mp h; obtain ⟨σ50, e51, h⟩ := h
      refine z_bastore rfl d_Mo_copyOffice_201 e51 ?_
      refine z_iinc (v := v3 + 1) (lv' := [(3, .int (v3 + 1)), (0, .ref (v0)), (1, .int (v1)), (2, .int (v2))]) 3 d_Mo_copyOffice_202 rfl rfl (by decide) rfl ?_
      refine z_goto (tgt := 75) d_Mo_copyOffice_205 rfl ?_
      refine z_lv (lv' := [(0, .ref (v0)), (1, .int (v1)), (2, .int (v2)), (3, .int (v3 + 1))]) [1, 2, 3, 0] rfl ?_
      exact ih h
set_option maxRecDepth 100000 in
theorem t_Mo_copyOffice_2 {l : Launch} {D : zD} {g : zG} (hG : zGok g D) {q : zS}   : ∀ (n : Nat) {v0 : Nat} {v1 : Int32} {v2 : Int32} {v3 : Int32} {σ : zS}, s_Mo_copyOffice_2 g  n v0 v1 v2 v3 σ = some q → Z l D K_Mo_copyOffice 0 0 (.returned none, q) 2 [(0, .ref (v0)), (1, .int (v1)), (2, .int (v2)), (3, .int (v3))] [] σ := by
  intro n
  induction n with
  | zero =>
    intro v0 v1 v2 v3 σ h
    cases h
  | succ n ih =>
    intro v0 v1 v2 v3 σ h
    first | rw [s_Mo_copyOffice_2] at h | (unfold s_Mo_copyOffice_2 at h; dsimp only at h)
    refine z_iload_n 3 d_Mo_copyOffice_2 rfl rfl ?_
    refine z_iconst (v := 3) d_Mo_copyOffice_3 rfl ?_
    refine z_icmp_ge (tgt := 73) d_Mo_copyOffice_4 rfl (fun c1 => ?_) (fun c1 => ?_)
    · rw [if_pos c1] at h
      refine z_iconst (v := 0) d_Mo_copyOffice_73 rfl ?_
      refine z_istore_n (j := 3) (lv' := [(3, .int (0)), (0, .ref (v0)), (1, .int (v1)), (2, .int (v2))]) d_Mo_copyOffice_74 rfl (by decide) rfl ?_
      refine z_lv (lv' := [(0, .ref (v0)), (1, .int (v1)), (2, .int (v2)), (3, .int (0))]) [1, 2, 3, 0] rfl ?_
      exact t_Mo_copyOffice_75 hG   zfuel h
    · rw [if_neg c1] at h
      refine z_aload_n 0 d_Mo_copyOffice_7 rfl rfl ?_
      replace h := Option.bind_eq_some_iff.mp h; obtain ⟨x2, e3, h⟩ := h
      refine z_getR wF_NumberOfficeModel_71_14 d_Mo_copyOffice_8 e3 ?_
      refine z_iconst (v := 3) d_Mo_copyOffice_11 rfl ?_
      refine z_iload_n 2 d_Mo_copyOffice_12 rfl rfl ?_
      refine z_imul d_Mo_copyOffice_13 ?_
      refine z_iload_n 3 d_Mo_copyOffice_14 rfl rfl ?_
      refine z_iadd d_Mo_copyOffice_15 ?_
      refine z_aload_n 0 d_Mo_copyOffice_16 rfl rfl ?_
      replace h := Option.bind_eq_some_iff.mp h; obtain ⟨x4, e5, h⟩ := h
      refine z_getR wF_NumberOfficeModel_71_14 d_Mo_copyOffice_17 e5 ?_
      refine z_iconst (v := 3) d_Mo_copyOffice_20 rfl ?_
      refine z_iload_n 1 d_Mo_copyOffice_21 rfl rfl ?_
      refine z_imul d_Mo_copyOffice_22 ?_
      refine z_iload_n 3 d_Mo_copyOffice_23 rfl rfl ?_
      refine z_iadd d_Mo_copyOffice_24 ?_
      replace h := Option.bind_eq_some_iff.mp h; obtain ⟨a6, rfl, h⟩ := h
      replace h := Option.bind_eq_some_iff.mp h; obtain ⟨x7, e8, h⟩ := h
      refine z_iaload rfl d_Mo_copyOffice_25 e8 ?_
      replace h := Option.bind_eq_some_iff.mp h; obtain ⟨a9, rfl, h⟩ := h
      replace h := Option.bind_eq_some_iff.mp h; obtain ⟨σ10, e11, h⟩ := h
      refine z_iastore rfl d_Mo_copyOffice_26 e11 ?_
      refine z_aload_n 0 d_Mo_copyOffice_27 rfl rfl ?_
      replace h := Option.bind_eq_some_iff.mp h; obtain ⟨x12, e13, h⟩ := h
      refine z_getR wF_NumberOfficeModel_74_14 d_Mo_copyOffice_28 e13 ?_
      refine z_iconst (v := 3) d_Mo_copyOffice_31 rfl ?_
      refine z_iload_n 2 d_Mo_copyOffice_32 rfl rfl ?_
      refine z_imul d_Mo_copyOffice_33 ?_
      refine z_iload_n 3 d_Mo_copyOffice_34 rfl rfl ?_
      refine z_iadd d_Mo_copyOffice_35 ?_
      refine z_aload_n 0 d_Mo_copyOffice_36 rfl rfl ?_
      replace h := Option.bind_eq_some_iff.mp h; obtain ⟨x14, e15, h⟩ := h
      refine z_getR wF_NumberOfficeModel_74_14 d_Mo_copyOffice_37 e15 ?_
      refine z_iconst (v := 3) d_Mo_copyOffice_40 rfl ?_
      refine z_iload_n 1 d_Mo_copyOffice_41 rfl rfl ?_
      refine z_imul d_Mo_copyOffice_42 ?_
      refine z_iload_n 3 d_Mo_copyOffice_43 rfl rfl ?_
      refine z_iadd d_Mo_copyOffice_44 ?_
      replace h := Option.bind_eq_some_iff.mp h; obtain ⟨a16, rfl, h⟩ := h
      replace h := Option.bind_eq_some_iff.mp h; obtain ⟨x17, e18, h⟩ := h
      refine z_iaload rfl d_Mo_copyOffice_45 e18 ?_
      replace h := Option.bind_eq_some_iff.mp h; obtain ⟨a19, rfl, h⟩ := h
      replace h := Option.bind_eq_some_iff.mp h; obtain ⟨σ20, e21, h⟩ := h
      refine z_iastore rfl d_Mo_copyOffice_46 e21 ?_
      refine z_aload_n 0 d_Mo_copyOffice_47 rfl rfl ?_
      replace h := Option.bind_eq_some_iff.mp h; obtain ⟨x22, e23, h⟩ := h
      refine z_getR wF_NumberOfficeModel_77_14 d_Mo_copyOffice_48 e23 ?_
      refine z_iconst (v := 3) d_Mo_copyOffice_51 rfl ?_
      refine z_iload_n 2 d_Mo_copyOffice_52 rfl rfl ?_
      refine z_imul d_Mo_copyOffice_53 ?_
      refine z_iload_n 3 d_Mo_copyOffice_54 rfl rfl ?_
      refine z_iadd d_Mo_copyOffice_55 ?_
      refine z_aload_n 0 d_Mo_copyOffice_56 rfl rfl ?_
      replace h := Option.bind_eq_some_iff.mp h; obtain ⟨x24, e25, h⟩ := h
      refine z_getR wF_NumberOfficeModel_77_14 d_Mo_copyOffice_57 e25 ?_
      refine z_iconst (v := 3) d_Mo_copyOffice_60 rfl ?_
      refine z_iload_n 1 d_Mo_copyOffice_61 rfl rfl ?_
      refine z_imul d_Mo_copyOffice_62 ?_
      refine z_iload_n 3 d_Mo_copyOffice_63 rfl rfl ?_
      refine z_iadd d_Mo_copyOffice_64 ?_
      replace h := Option.bind_eq_some_iff.mp h; obtain ⟨a26, rfl, h⟩ := h
      replace h := Option.bind_eq_some_iff.mp h; obtain ⟨x27, e28, h⟩ := h
      refine z_iaload rfl d_Mo_copyOffice_65 e28 ?_
      replace h := Option.bind_eq_some_iff.mp h; obtain ⟨a29, rfl, h⟩ := h
      replace h := Option.bind_eq_some_iff.mp h; obtain ⟨σ30, e31, h⟩ := h
      refine z_iastore rfl d_Mo_copyOffice_66 e31 ?_
      refine z_iinc (v := v3 + 1) (lv' := [(3, .int (v3 + 1)), (0, .ref (v0)), (1, .int (v1)), (2, .int (v2))]) 3 d_Mo_copyOffice_67 rfl rfl (by decide) rfl ?_
      refine z_goto (tgt := 2) d_Mo_copyOffice_70 rfl ?_
      refine z_lv (lv' := [(0, .ref (v0)), (1, .int (v1)), (2, .int (v2)), (3, .int (v3 + 1))]) [1, 2, 3, 0] rfl ?_
      exact ih h
set_option maxRecDepth 100000 in
theorem t_Mo_copyOffice {l : Launch} {D : zD} {g : zG} (hG : zGok g D) {v0 : Nat} {v1 : Int32} {v2 : Int32} {σ : zS} {q : zS} (h : s_Mo_copyOffice g v0 v1 v2 σ = some q) : zMet l D Y_Mo_copyOffice K_Mo_copyOffice 0 0 [.ref (v0), .int (v1), .int (v2)] σ (.returned none, q) := by
  refine zMet.ofZ (by decide) rfl (fun q => by cases q) (Nat.le_of_ble_eq_true rfl) ?_
  show Z _ _ _ _ _ _ 0 [(0, .ref (v0)), (1, .int (v1)), (2, .int (v2))] [] _
  unfold s_Mo_copyOffice at h
  refine z_iconst (v := 0) d_Mo_copyOffice_0 rfl ?_
  refine z_istore_n (j := 3) (lv' := [(3, .int (0)), (0, .ref (v0)), (1, .int (v1)), (2, .int (v2))]) d_Mo_copyOffice_1 rfl (by decide) rfl ?_
  refine z_lv (lv' := [(0, .ref (v0)), (1, .int (v1)), (2, .int (v2)), (3, .int (0))]) [1, 2, 3, 0] rfl ?_
  exact t_Mo_copyOffice_2 hG   zfuel h

def s_Mo_copyBook_224 (g : zG)  : Nat → Nat → Int32 → Int32 → Int32 → zS → Option (zS)
  | 0, _, _, _, _, _ => none
  | n + 1, v0, v1, v2, v3, σ => (zgR σ v0 14 6).bind fun x1 => (x1).bind fun a3 => (zaI σ a3 0 (v1)).bind fun x4 => if x4 ≤ v3 then some σ else (zgR σ v0 14 14).bind fun x7 => (zgR σ v0 14 14).bind fun x9 => (x9).bind fun a11 => (zaI σ a11 5 ((600 * v1) + v3)).bind fun x12 => (x7).bind fun a14 => (zsI σ a14 5 ((600 * v2) + v3) (vp_nar .short x12)).bind fun σ15 => s_Mo_copyBook_224 g  n (v0) (v1) (v2) (v3 + 1) σ15
def s_Mo_copyBook_62 (g : zG)  : Nat → Nat → Int32 → Int32 → Int32 → zS → Option (zS)
  | 0, _, _, _, _, _ => none
  | n + 1, v0, v1, v2, v3, σ => (zgR σ v0 14 3).bind fun x1 => (x1).bind fun a3 => (zaI σ a3 0 (v1)).bind fun x4 => if x4 ≤ v3 then s_Mo_copyBook_224 g  zfuel (v0) (v1) (v2) (0) σ else (zgR σ v0 14 8).bind fun x7 => (zgR σ v0 14 8).bind fun x9 => (x9).bind fun a11 => (zaI σ a11 5 ((300 * v1) + v3)).bind fun x12 => (x7).bind fun a14 => (zsI σ a14 5 ((300 * v2) + v3) (vp_nar .short x12)).bind fun σ15 => (zgR σ15 v0 14 9).bind fun x17 => (zgR σ15 v0 14 9).bind fun x19 => (x19).bind fun a21 => (zaI σ15 a21 5 ((300 * v1) + v3)).bind fun x22 => (x17).bind fun a24 => (zsI σ15 a24 5 ((300 * v2) + v3) (vp_nar .short x22)).bind fun σ25 => (zgR σ25 v0 14 10).bind fun x27 => (zgR σ25 v0 14 10).bind fun x29 => (x29).bind fun a31 => (zaI σ25 a31 2 ((300 * v1) + v3)).bind fun x32 => (x27).bind fun a34 => (zsI σ25 a34 2 ((300 * v2) + v3) (vp_nar .byte x32)).bind fun σ35 => (zgR σ35 v0 14 11).bind fun x37 => (zgR σ35 v0 14 11).bind fun x39 => (x39).bind fun a41 => (zaL σ35 a41 1 ((300 * v1) + v3)).bind fun x42 => (x37).bind fun a44 => (zsL σ35 a44 1 ((300 * v2) + v3) (x42)).bind fun σ45 => (zgR σ45 v0 14 12).bind fun x47 => (zgR σ45 v0 14 12).bind fun x49 => (x49).bind fun a51 => (zaI σ45 a51 0 ((300 * v1) + v3)).bind fun x52 => (x47).bind fun a54 => (zsI σ45 a54 0 ((300 * v2) + v3) (x52)).bind fun σ55 => (zgR σ55 v0 14 13).bind fun x57 => (zgR σ55 v0 14 13).bind fun x59 => (x59).bind fun a61 => (zaI σ55 a61 2 ((300 * v1) + v3)).bind fun x62 => (x57).bind fun a64 => (zsI σ55 a64 2 ((300 * v2) + v3) (vp_nar .byte x62)).bind fun σ65 => s_Mo_copyBook_62 g  n (v0) (v1) (v2) (v3 + 1) σ65
def s_Mo_copyBook (g : zG) (v0 : Nat) (v1 : Int32) (v2 : Int32) (σ : zS) : Option (zS) := (zgR σ v0 14 3).bind fun x1 => (zgR σ v0 14 3).bind fun x3 => (x3).bind fun a5 => (zaI σ a5 0 (v1)).bind fun x6 => (x1).bind fun a8 => (zsI σ a8 0 (v2) (x6)).bind fun σ9 => (zgR σ9 v0 14 4).bind fun x11 => (zgR σ9 v0 14 4).bind fun x13 => (x13).bind fun a15 => (zaI σ9 a15 0 (v1)).bind fun x16 => (x11).bind fun a18 => (zsI σ9 a18 0 (v2) (x16)).bind fun σ19 => (zgR σ19 v0 14 5).bind fun x21 => (zgR σ19 v0 14 5).bind fun x23 => (x23).bind fun a25 => (zaI σ19 a25 0 (v1)).bind fun x26 => (x21).bind fun a28 => (zsI σ19 a28 0 (v2) (x26)).bind fun σ29 => (zgR σ29 v0 14 6).bind fun x31 => (zgR σ29 v0 14 6).bind fun x33 => (x33).bind fun a35 => (zaI σ29 a35 0 (v1)).bind fun x36 => (x31).bind fun a38 => (zsI σ29 a38 0 (v2) (x36)).bind fun σ39 => (zgR σ39 v0 14 7).bind fun x41 => (zgR σ39 v0 14 7).bind fun x43 => (x43).bind fun a45 => (zaI σ39 a45 0 (v1)).bind fun x46 => (x41).bind fun a48 => (zsI σ39 a48 0 (v2) (x46)).bind fun σ49 => s_Mo_copyBook_62 g  zfuel (v0) (v1) (v2) (0) σ49
set_option maxRecDepth 100000 in
theorem t_Mo_copyBook_224 {l : Launch} {D : zD} {g : zG} (hG : zGok g D) {q : zS}   : ∀ (n : Nat) {v0 : Nat} {v1 : Int32} {v2 : Int32} {v3 : Int32} {σ : zS}, s_Mo_copyBook_224 g  n v0 v1 v2 v3 σ = some q → Z l D K_Mo_copyBook 0 0 (.returned none, q) 224 [(0, .ref (v0)), (1, .int (v1)), (2, .int (v2)), (3, .int (v3))] [] σ := by
  intro n
  induction n with
  | zero =>
    intro v0 v1 v2 v3 σ h
    cases h
  | succ n ih =>
    intro v0 v1 v2 v3 σ h
    first | rw [s_Mo_copyBook_224] at h | (unfold s_Mo_copyBook_224 at h; dsimp only at h)
    refine z_iload_n 3 d_Mo_copyBook_224 rfl rfl ?_
    refine z_aload_n 0 d_Mo_copyBook_225 rfl rfl ?_
    replace h := Option.bind_eq_some_iff.mp h; obtain ⟨x1, e2, h⟩ := h
    refine z_getR wF_NumberOfficeModel_23_14 d_Mo_copyBook_226 e2 ?_
    refine z_iload_n 1 d_Mo_copyBook_229 rfl rfl ?_
    replace h := Option.bind_eq_some_iff.mp h; obtain ⟨a3, rfl, h⟩ := h
    replace h := Option.bind_eq_some_iff.mp h; obtain ⟨x4, e5, h⟩ := h
    refine z_iaload rfl d_Mo_copyBook_230 e5 ?_
    refine z_icmp_ge (tgt := 264) d_Mo_copyBook_231 rfl (fun c6 => ?_) (fun c6 => ?_)
    · rw [if_pos c6] at h
      cases h
      exact z_vret rfl rfl d_Mo_copyBook_264
    · rw [if_neg c6] at h
      refine z_aload_n 0 d_Mo_copyBook_234 rfl rfl ?_
      replace h := Option.bind_eq_some_iff.mp h; obtain ⟨x7, e8, h⟩ := h
      refine z_getR wF_NumberOfficeModel_50_14 d_Mo_copyBook_235 e8 ?_
      refine z_sipush (v := 600) d_Mo_copyBook_238 rfl ?_
      refine z_iload_n 2 d_Mo_copyBook_241 rfl rfl ?_
      refine z_imul d_Mo_copyBook_242 ?_
      refine z_iload_n 3 d_Mo_copyBook_243 rfl rfl ?_
      refine z_iadd d_Mo_copyBook_244 ?_
      refine z_aload_n 0 d_Mo_copyBook_245 rfl rfl ?_
      replace h := Option.bind_eq_some_iff.mp h; obtain ⟨x9, e10, h⟩ := h
      refine z_getR wF_NumberOfficeModel_50_14 d_Mo_copyBook_246 e10 ?_
      refine z_sipush (v := 600) d_Mo_copyBook_249 rfl ?_
      refine z_iload_n 1 d_Mo_copyBook_252 rfl rfl ?_
      refine z_imul d_Mo_copyBook_253 ?_
      refine z_iload_n 3 d_Mo_copyBook_254 rfl rfl ?_
      refine z_iadd d_Mo_copyBook_255 ?_
      replace h := Option.bind_eq_some_iff.mp h; obtain ⟨a11, rfl, h⟩ := h
      replace h := Option.bind_eq_some_iff.mp h; obtain ⟨x12, e13, h⟩ := h
      refine z_saload rfl d_Mo_copyBook_256 e13 ?_
      replace h := Option.bind_eq_some_iff.mp h; obtain ⟨a14, rfl, h⟩ := h
      replace h := Option.bind_eq_some_iff.mp h; obtain ⟨σ15, e16, h⟩ := h
      refine z_sastore rfl d_Mo_copyBook_257 e16 ?_
      refine z_iinc (v := v3 + 1) (lv' := [(3, .int (v3 + 1)), (0, .ref (v0)), (1, .int (v1)), (2, .int (v2))]) 3 d_Mo_copyBook_258 rfl rfl (by decide) rfl ?_
      refine z_goto (tgt := 224) d_Mo_copyBook_261 rfl ?_
      refine z_lv (lv' := [(0, .ref (v0)), (1, .int (v1)), (2, .int (v2)), (3, .int (v3 + 1))]) [1, 2, 3, 0] rfl ?_
      exact ih h
set_option maxRecDepth 100000 in
theorem t_Mo_copyBook_62 {l : Launch} {D : zD} {g : zG} (hG : zGok g D) {q : zS}   : ∀ (n : Nat) {v0 : Nat} {v1 : Int32} {v2 : Int32} {v3 : Int32} {σ : zS}, s_Mo_copyBook_62 g  n v0 v1 v2 v3 σ = some q → Z l D K_Mo_copyBook 0 0 (.returned none, q) 62 [(0, .ref (v0)), (1, .int (v1)), (2, .int (v2)), (3, .int (v3))] [] σ := by
  intro n
  induction n with
  | zero =>
    intro v0 v1 v2 v3 σ h
    cases h
  | succ n ih =>
    intro v0 v1 v2 v3 σ h
    first | rw [s_Mo_copyBook_62] at h | (unfold s_Mo_copyBook_62 at h; dsimp only at h)
    refine z_iload_n 3 d_Mo_copyBook_62 rfl rfl ?_
    refine z_aload_n 0 d_Mo_copyBook_63 rfl rfl ?_
    replace h := Option.bind_eq_some_iff.mp h; obtain ⟨x1, e2, h⟩ := h
    refine z_getR wF_NumberOfficeModel_13_14 d_Mo_copyBook_64 e2 ?_
    refine z_iload_n 1 d_Mo_copyBook_67 rfl rfl ?_
    replace h := Option.bind_eq_some_iff.mp h; obtain ⟨a3, rfl, h⟩ := h
    replace h := Option.bind_eq_some_iff.mp h; obtain ⟨x4, e5, h⟩ := h
    refine z_iaload rfl d_Mo_copyBook_68 e5 ?_
    refine z_icmp_ge (tgt := 222) d_Mo_copyBook_69 rfl (fun c6 => ?_) (fun c6 => ?_)
    · rw [if_pos c6] at h
      refine z_iconst (v := 0) d_Mo_copyBook_222 rfl ?_
      refine z_istore_n (j := 3) (lv' := [(3, .int (0)), (0, .ref (v0)), (1, .int (v1)), (2, .int (v2))]) d_Mo_copyBook_223 rfl (by decide) rfl ?_
      refine z_lv (lv' := [(0, .ref (v0)), (1, .int (v1)), (2, .int (v2)), (3, .int (0))]) [1, 2, 3, 0] rfl ?_
      exact t_Mo_copyBook_224 hG   zfuel h
    · rw [if_neg c6] at h
      refine z_aload_n 0 d_Mo_copyBook_72 rfl rfl ?_
      replace h := Option.bind_eq_some_iff.mp h; obtain ⟨x7, e8, h⟩ := h
      refine z_getR wF_NumberOfficeModel_29_14 d_Mo_copyBook_73 e8 ?_
      refine z_sipush (v := 300) d_Mo_copyBook_76 rfl ?_
      refine z_iload_n 2 d_Mo_copyBook_79 rfl rfl ?_
      refine z_imul d_Mo_copyBook_80 ?_
      refine z_iload_n 3 d_Mo_copyBook_81 rfl rfl ?_
      refine z_iadd d_Mo_copyBook_82 ?_
      refine z_aload_n 0 d_Mo_copyBook_83 rfl rfl ?_
      replace h := Option.bind_eq_some_iff.mp h; obtain ⟨x9, e10, h⟩ := h
      refine z_getR wF_NumberOfficeModel_29_14 d_Mo_copyBook_84 e10 ?_
      refine z_sipush (v := 300) d_Mo_copyBook_87 rfl ?_
      refine z_iload_n 1 d_Mo_copyBook_90 rfl rfl ?_
      refine z_imul d_Mo_copyBook_91 ?_
      refine z_iload_n 3 d_Mo_copyBook_92 rfl rfl ?_
      refine z_iadd d_Mo_copyBook_93 ?_
      replace h := Option.bind_eq_some_iff.mp h; obtain ⟨a11, rfl, h⟩ := h
      replace h := Option.bind_eq_some_iff.mp h; obtain ⟨x12, e13, h⟩ := h
      refine z_saload rfl d_Mo_copyBook_94 e13 ?_
      replace h := Option.bind_eq_some_iff.mp h; obtain ⟨a14, rfl, h⟩ := h
      replace h := Option.bind_eq_some_iff.mp h; obtain ⟨σ15, e16, h⟩ := h
      refine z_sastore rfl d_Mo_copyBook_95 e16 ?_
      refine z_aload_n 0 d_Mo_copyBook_96 rfl rfl ?_
      replace h := Option.bind_eq_some_iff.mp h; obtain ⟨x17, e18, h⟩ := h
      refine z_getR wF_NumberOfficeModel_33_14 d_Mo_copyBook_97 e18 ?_
      refine z_sipush (v := 300) d_Mo_copyBook_100 rfl ?_
      refine z_iload_n 2 d_Mo_copyBook_103 rfl rfl ?_
      refine z_imul d_Mo_copyBook_104 ?_
      refine z_iload_n 3 d_Mo_copyBook_105 rfl rfl ?_
      refine z_iadd d_Mo_copyBook_106 ?_
      refine z_aload_n 0 d_Mo_copyBook_107 rfl rfl ?_
      replace h := Option.bind_eq_some_iff.mp h; obtain ⟨x19, e20, h⟩ := h
      refine z_getR wF_NumberOfficeModel_33_14 d_Mo_copyBook_108 e20 ?_
      refine z_sipush (v := 300) d_Mo_copyBook_111 rfl ?_
      refine z_iload_n 1 d_Mo_copyBook_114 rfl rfl ?_
      refine z_imul d_Mo_copyBook_115 ?_
      refine z_iload_n 3 d_Mo_copyBook_116 rfl rfl ?_
      refine z_iadd d_Mo_copyBook_117 ?_
      replace h := Option.bind_eq_some_iff.mp h; obtain ⟨a21, rfl, h⟩ := h
      replace h := Option.bind_eq_some_iff.mp h; obtain ⟨x22, e23, h⟩ := h
      refine z_saload rfl d_Mo_copyBook_118 e23 ?_
      replace h := Option.bind_eq_some_iff.mp h; obtain ⟨a24, rfl, h⟩ := h
      replace h := Option.bind_eq_some_iff.mp h; obtain ⟨σ25, e26, h⟩ := h
      refine z_sastore rfl d_Mo_copyBook_119 e26 ?_
      refine z_aload_n 0 d_Mo_copyBook_120 rfl rfl ?_
      replace h := Option.bind_eq_some_iff.mp h; obtain ⟨x27, e28, h⟩ := h
      refine z_getR wF_NumberOfficeModel_36_14 d_Mo_copyBook_121 e28 ?_
      refine z_sipush (v := 300) d_Mo_copyBook_124 rfl ?_
      refine z_iload_n 2 d_Mo_copyBook_127 rfl rfl ?_
      refine z_imul d_Mo_copyBook_128 ?_
      refine z_iload_n 3 d_Mo_copyBook_129 rfl rfl ?_
      refine z_iadd d_Mo_copyBook_130 ?_
      refine z_aload_n 0 d_Mo_copyBook_131 rfl rfl ?_
      replace h := Option.bind_eq_some_iff.mp h; obtain ⟨x29, e30, h⟩ := h
      refine z_getR wF_NumberOfficeModel_36_14 d_Mo_copyBook_132 e30 ?_
      refine z_sipush (v := 300) d_Mo_copyBook_135 rfl ?_
      refine z_iload_n 1 d_Mo_copyBook_138 rfl rfl ?_
      refine z_imul d_Mo_copyBook_139 ?_
      refine z_iload_n 3 d_Mo_copyBook_140 rfl rfl ?_
      refine z_iadd d_Mo_copyBook_141 ?_
      replace h := Option.bind_eq_some_iff.mp h; obtain ⟨a31, rfl, h⟩ := h
      replace h := Option.bind_eq_some_iff.mp h; obtain ⟨x32, e33, h⟩ := h
      refine z_baload rfl d_Mo_copyBook_142 e33 ?_
      replace h := Option.bind_eq_some_iff.mp h; obtain ⟨a34, rfl, h⟩ := h
      replace h := Option.bind_eq_some_iff.mp h; obtain ⟨σ35, e36, h⟩ := h
      refine z_bastore rfl d_Mo_copyBook_143 e36 ?_
      refine z_aload_n 0 d_Mo_copyBook_144 rfl rfl ?_
      replace h := Option.bind_eq_some_iff.mp h; obtain ⟨x37, e38, h⟩ := h
      refine z_getR wF_NumberOfficeModel_40_14 d_Mo_copyBook_145 e38 ?_
      refine z_sipush (v := 300) d_Mo_copyBook_148 rfl ?_
      refine z_iload_n 2 d_Mo_copyBook_151 rfl rfl ?_
      refine z_imul d_Mo_copyBook_152 ?_
      refine z_iload_n 3 d_Mo_copyBook_153 rfl rfl ?_
      refine z_iadd d_Mo_copyBook_154 ?_
      refine z_aload_n 0 d_Mo_copyBook_155 rfl rfl ?_
      replace h := Option.bind_eq_some_iff.mp h; obtain ⟨x39, e40, h⟩ := h
      refine z_getR wF_NumberOfficeModel_40_14 d_Mo_copyBook_156 e40 ?_
      refine z_sipush (v := 300) d_Mo_copyBook_159 rfl ?_
      refine z_iload_n 1 d_Mo_copyBook_162 rfl rfl ?_
      refine z_imul d_Mo_copyBook_163 ?_
      refine z_iload_n 3 d_Mo_copyBook_164 rfl rfl ?_
      refine z_iadd d_Mo_copyBook_165 ?_
      replace h := Option.bind_eq_some_iff.mp h; obtain ⟨a41, rfl, h⟩ := h
      replace h := Option.bind_eq_some_iff.mp h; obtain ⟨x42, e43, h⟩ := h
      refine z_laload rfl d_Mo_copyBook_166 e43 ?_
      replace h := Option.bind_eq_some_iff.mp h; obtain ⟨a44, rfl, h⟩ := h
      replace h := Option.bind_eq_some_iff.mp h; obtain ⟨σ45, e46, h⟩ := h
      refine z_lastore rfl d_Mo_copyBook_167 e46 ?_
      refine z_aload_n 0 d_Mo_copyBook_168 rfl rfl ?_
      replace h := Option.bind_eq_some_iff.mp h; obtain ⟨x47, e48, h⟩ := h
      refine z_getR wF_NumberOfficeModel_44_14 d_Mo_copyBook_169 e48 ?_
      refine z_sipush (v := 300) d_Mo_copyBook_172 rfl ?_
      refine z_iload_n 2 d_Mo_copyBook_175 rfl rfl ?_
      refine z_imul d_Mo_copyBook_176 ?_
      refine z_iload_n 3 d_Mo_copyBook_177 rfl rfl ?_
      refine z_iadd d_Mo_copyBook_178 ?_
      refine z_aload_n 0 d_Mo_copyBook_179 rfl rfl ?_
      replace h := Option.bind_eq_some_iff.mp h; obtain ⟨x49, e50, h⟩ := h
      refine z_getR wF_NumberOfficeModel_44_14 d_Mo_copyBook_180 e50 ?_
      refine z_sipush (v := 300) d_Mo_copyBook_183 rfl ?_
      refine z_iload_n 1 d_Mo_copyBook_186 rfl rfl ?_
      refine z_imul d_Mo_copyBook_187 ?_
      refine z_iload_n 3 d_Mo_copyBook_188 rfl rfl ?_
      refine z_iadd d_Mo_copyBook_189 ?_
      replace h := Option.bind_eq_some_iff.mp h; obtain ⟨a51, rfl, h⟩ := h
      replace h := Option.bind_eq_some_iff.mp h; obtain ⟨x52, e53, h⟩ := h
      refine z_iaload rfl d_Mo_copyBook_190 e53 ?_
      replace h := Option.bind_eq_some_iff.mp h; obtain ⟨a54, rfl, h⟩ := h
      replace h := Option.bind_eq_some_iff.mp h; obtain ⟨σ55, e56, h⟩ := h
      refine z_iastore rfl d_Mo_copyBook_191 e56 ?_
      refine z_aload_n 0 d_Mo_copyBook_192 rfl rfl ?_
      replace h := Option.bind_eq_some_iff.mp h; obtain ⟨x57, e58, h⟩ := h
      refine z_getR wF_NumberOfficeModel_47_14 d_Mo_copyBook_193 e58 ?_
      refine z_sipush (v := 300) d_Mo_copyBook_196 rfl ?_
      refine z_iload_n 2 d_Mo_copyBook_199 rfl rfl ?_
      refine z_imul d_Mo_copyBook_200 ?_
      refine z_iload_n 3 d_Mo_copyBook_201 rfl rfl ?_
      refine z_iadd d_Mo_copyBook_202 ?_
      refine z_aload_n 0 d_Mo_copyBook_203 rfl rfl ?_
      replace h := Option.bind_eq_some_iff.mp h; obtain ⟨x59, e60, h⟩ := h
      refine z_getR wF_NumberOfficeModel_47_14 d_Mo_copyBook_204 e60 ?_
      refine z_sipush (v := 300) d_Mo_copyBook_207 rfl ?_
      refine z_iload_n 1 d_Mo_copyBook_210 rfl rfl ?_
      refine z_imul d_Mo_copyBook_211 ?_
      refine z_iload_n 3 d_Mo_copyBook_212 rfl rfl ?_
      refine z_iadd d_Mo_copyBook_213 ?_
      replace h := Option.bind_eq_some_iff.mp h; obtain ⟨a61, rfl, h⟩ := h
      replace h := Option.bind_eq_some_iff.mp h; obtain ⟨x62, e63, h⟩ := h
      refine z_baload rfl d_Mo_copyBook_214 e63 ?_
      replace h := Option.bind_eq_some_iff.mp h; obtain ⟨a64, rfl, h⟩ := h
      replace h := Option.bind_eq_some_iff.mp h; obtain ⟨σ65, e66, h⟩ := h
      refine z_bastore rfl d_Mo_copyBook_215 e66 ?_
      refine z_iinc (v := v3 + 1) (lv' := [(3, .int (v3 + 1)), (0, .ref (v0)), (1, .int (v1)), (2, .int (v2))]) 3 d_Mo_copyBook_216 rfl rfl (by decide) rfl ?_
      refine z_goto (tgt := 62) d_Mo_copyBook_219 rfl ?_
      refine z_lv (lv' := [(0, .ref (v0)), (1, .int (v1)), (2, .int (v2)), (3, .int (v3 + 1))]) [1, 2, 3, 0] rfl ?_
      exact ih h
set_option maxRecDepth 100000 in
theorem t_Mo_copyBook {l : Launch} {D : zD} {g : zG} (hG : zGok g D) {v0 : Nat} {v1 : Int32} {v2 : Int32} {σ : zS} {q : zS} (h : s_Mo_copyBook g v0 v1 v2 σ = some q) : zMet l D Y_Mo_copyBook K_Mo_copyBook 0 0 [.ref (v0), .int (v1), .int (v2)] σ (.returned none, q) := by
  refine zMet.ofZ (by decide) rfl (fun q => by cases q) (Nat.le_of_ble_eq_true rfl) ?_
  show Z _ _ _ _ _ _ 0 [(0, .ref (v0)), (1, .int (v1)), (2, .int (v2))] [] _
  unfold s_Mo_copyBook at h
  refine z_aload_n 0 d_Mo_copyBook_0 rfl rfl ?_
  replace h := Option.bind_eq_some_iff.mp h; obtain ⟨x1, e2, h⟩ := h
  refine z_getR wF_NumberOfficeModel_13_14 d_Mo_copyBook_1 e2 ?_
  refine z_iload_n 2 d_Mo_copyBook_4 rfl rfl ?_
  refine z_aload_n 0 d_Mo_copyBook_5 rfl rfl ?_
  replace h := Option.bind_eq_some_iff.mp h; obtain ⟨x3, e4, h⟩ := h
  refine z_getR wF_NumberOfficeModel_13_14 d_Mo_copyBook_6 e4 ?_
  refine z_iload_n 1 d_Mo_copyBook_9 rfl rfl ?_
  replace h := Option.bind_eq_some_iff.mp h; obtain ⟨a5, rfl, h⟩ := h
  replace h := Option.bind_eq_some_iff.mp h; obtain ⟨x6, e7, h⟩ := h
  refine z_iaload rfl d_Mo_copyBook_10 e7 ?_
  replace h := Option.bind_eq_some_iff.mp h; obtain ⟨a8, rfl, h⟩ := h
  replace h := Option.bind_eq_some_iff.mp h; obtain ⟨σ9, e10, h⟩ := h
  refine z_iastore rfl d_Mo_copyBook_11 e10 ?_
  refine z_aload_n 0 d_Mo_copyBook_12 rfl rfl ?_
  replace h := Option.bind_eq_some_iff.mp h; obtain ⟨x11, e12, h⟩ := h
  refine z_getR wF_NumberOfficeModel_17_14 d_Mo_copyBook_13 e12 ?_
  refine z_iload_n 2 d_Mo_copyBook_16 rfl rfl ?_
  refine z_aload_n 0 d_Mo_copyBook_17 rfl rfl ?_
  replace h := Option.bind_eq_some_iff.mp h; obtain ⟨x13, e14, h⟩ := h
  refine z_getR wF_NumberOfficeModel_17_14 d_Mo_copyBook_18 e14 ?_
  refine z_iload_n 1 d_Mo_copyBook_21 rfl rfl ?_
  replace h := Option.bind_eq_some_iff.mp h; obtain ⟨a15, rfl, h⟩ := h
  replace h := Option.bind_eq_some_iff.mp h; obtain ⟨x16, e17, h⟩ := h
  refine z_iaload rfl d_Mo_copyBook_22 e17 ?_
  replace h := Option.bind_eq_some_iff.mp h; obtain ⟨a18, rfl, h⟩ := h
  replace h := Option.bind_eq_some_iff.mp h; obtain ⟨σ19, e20, h⟩ := h
  refine z_iastore rfl d_Mo_copyBook_23 e20 ?_
  refine z_aload_n 0 d_Mo_copyBook_24 rfl rfl ?_
  replace h := Option.bind_eq_some_iff.mp h; obtain ⟨x21, e22, h⟩ := h
  refine z_getR wF_NumberOfficeModel_20_14 d_Mo_copyBook_25 e22 ?_
  refine z_iload_n 2 d_Mo_copyBook_28 rfl rfl ?_
  refine z_aload_n 0 d_Mo_copyBook_29 rfl rfl ?_
  replace h := Option.bind_eq_some_iff.mp h; obtain ⟨x23, e24, h⟩ := h
  refine z_getR wF_NumberOfficeModel_20_14 d_Mo_copyBook_30 e24 ?_
  refine z_iload_n 1 d_Mo_copyBook_33 rfl rfl ?_
  replace h := Option.bind_eq_some_iff.mp h; obtain ⟨a25, rfl, h⟩ := h
  replace h := Option.bind_eq_some_iff.mp h; obtain ⟨x26, e27, h⟩ := h
  refine z_iaload rfl d_Mo_copyBook_34 e27 ?_
  replace h := Option.bind_eq_some_iff.mp h; obtain ⟨a28, rfl, h⟩ := h
  replace h := Option.bind_eq_some_iff.mp h; obtain ⟨σ29, e30, h⟩ := h
  refine z_iastore rfl d_Mo_copyBook_35 e30 ?_
  refine z_aload_n 0 d_Mo_copyBook_36 rfl rfl ?_
  replace h := Option.bind_eq_some_iff.mp h; obtain ⟨x31, e32, h⟩ := h
  refine z_getR wF_NumberOfficeModel_23_14 d_Mo_copyBook_37 e32 ?_
  refine z_iload_n 2 d_Mo_copyBook_40 rfl rfl ?_
  refine z_aload_n 0 d_Mo_copyBook_41 rfl rfl ?_
  replace h := Option.bind_eq_some_iff.mp h; obtain ⟨x33, e34, h⟩ := h
  refine z_getR wF_NumberOfficeModel_23_14 d_Mo_copyBook_42 e34 ?_
  refine z_iload_n 1 d_Mo_copyBook_45 rfl rfl ?_
  replace h := Option.bind_eq_some_iff.mp h; obtain ⟨a35, rfl, h⟩ := h
  replace h := Option.bind_eq_some_iff.mp h; obtain ⟨x36, e37, h⟩ := h
  refine z_iaload rfl d_Mo_copyBook_46 e37 ?_
  replace h := Option.bind_eq_some_iff.mp h; obtain ⟨a38, rfl, h⟩ := h
  replace h := Option.bind_eq_some_iff.mp h; obtain ⟨σ39, e40, h⟩ := h
  refine z_iastore rfl d_Mo_copyBook_47 e40 ?_
  refine z_aload_n 0 d_Mo_copyBook_48 rfl rfl ?_
  replace h := Option.bind_eq_some_iff.mp h; obtain ⟨x41, e42, h⟩ := h
  refine z_getR wF_NumberOfficeModel_26_14 d_Mo_copyBook_49 e42 ?_
  refine z_iload_n 2 d_Mo_copyBook_52 rfl rfl ?_
  refine z_aload_n 0 d_Mo_copyBook_53 rfl rfl ?_
  replace h := Option.bind_eq_some_iff.mp h; obtain ⟨x43, e44, h⟩ := h
  refine z_getR wF_NumberOfficeModel_26_14 d_Mo_copyBook_54 e44 ?_
  refine z_iload_n 1 d_Mo_copyBook_57 rfl rfl ?_
  replace h := Option.bind_eq_some_iff.mp h; obtain ⟨a45, rfl, h⟩ := h
  replace h := Option.bind_eq_some_iff.mp h; obtain ⟨x46, e47, h⟩ := h
  refine z_iaload rfl d_Mo_copyBook_58 e47 ?_
  replace h := Option.bind_eq_some_iff.mp h; obtain ⟨a48, rfl, h⟩ := h
  replace h := Option.bind_eq_some_iff.mp h; obtain ⟨σ49, e50, h⟩ := h
  refine z_iastore rfl d_Mo_copyBook_59 e50 ?_
  refine z_iconst (v := 0) d_Mo_copyBook_60 rfl ?_
  refine z_istore_n (j := 3) (lv' := [(3, .int (0)), (0, .ref (v0)), (1, .int (v1)), (2, .int (v2))]) d_Mo_copyBook_61 rfl (by decide) rfl ?_
  refine z_lv (lv' := [(0, .ref (v0)), (1, .int (v1)), (2, .int (v2)), (3, .int (0))]) [1, 2, 3, 0] rfl ?_
  exact t_Mo_copyBook_62 hG   zfuel h

def s_Mo_send_127 (g : zG)  (v0 : Nat) (v1 : Int32) (v2 : Int32) (v3 : Int32) (v4 : Int32) (v5 : Int32) (v6 : Int32) (v7 : Int32) (σ : zS) : Option (zS) := some σ
def s_Mo_send (g : zG) (v0 : Nat) (v1 : Int32) (v2 : Int32) (v3 : Int32) (v4 : Int32) (v5 : Int32) (v6 : Int32) (v7 : Int32) (σ : zS) : Option (zS) := (zgI σ v0 14 34).bind fun x1 => if 64 ≤ x1 then s_Mo_send_127 g  (v0) (v1) (v2) (v3) (v4) (v5) (v6) (v7) σ else (zgR σ v0 14 35).bind fun x4 => (zgI σ v0 14 34).bind fun x6 => (x4).bind fun a8 => (zsI σ a8 0 (8 * x6) (v1)).bind fun σ9 => (zgR σ9 v0 14 35).bind fun x11 => (zgI σ9 v0 14 34).bind fun x13 => (x11).bind fun a15 => (zsI σ9 a15 0 ((8 * x13) + 1) (v2)).bind fun σ16 => (zgR σ16 v0 14 35).bind fun x18 => (zgI σ16 v0 14 34).bind fun x20 => (x18).bind fun a22 => (zsI σ16 a22 0 ((8 * x20) + 2) (v3)).bind fun σ23 => (zgR σ23 v0 14 35).bind fun x25 => (zgI σ23 v0 14 34).bind fun x27 => (x25).bind fun a29 => (zsI σ23 a29 0 ((8 * x27) + 3) (v4)).bind fun σ30 => (zgR σ30 v0 14 35).bind fun x32 => (zgI σ30 v0 14 34).bind fun x34 => (x32).bind fun a36 => (zsI σ30 a36 0 ((8 * x34) + 4) (v5)).bind fun σ37 => (zgR σ37 v0 14 35).bind fun x39 => (zgI σ37 v0 14 34).bind fun x41 => (x39).bind fun a43 => (zsI σ37 a43 0 ((8 * x41) + 5) (v6)).bind fun σ44 => (zgR σ44 v0 14 35).bind fun x46 => (zgI σ44 v0 14 34).bind fun x48 => (x46).bind fun a50 => (zsI σ44 a50 0 ((8 * x48) + 6) (v7)).bind fun σ51 => (zgI σ51 v0 14 34).bind fun x53 => (zpF σ51 v0 14 34 (.int (x53 + 1))).bind fun σ55 => s_Mo_send_127 g  (v0) (v1) (v2) (v3) (v4) (v5) (v6) (v7) σ55
set_option maxRecDepth 100000 in
theorem t_Mo_send_127 {l : Launch} {D : zD} {g : zG} (hG : zGok g D) {q : zS}   {v0 : Nat} {v1 : Int32} {v2 : Int32} {v3 : Int32} {v4 : Int32} {v5 : Int32} {v6 : Int32} {v7 : Int32} {σ : zS} (h : s_Mo_send_127 g  v0 v1 v2 v3 v4 v5 v6 v7 σ = some q) : Z l D K_Mo_send 0 0 (.returned none, q) 127 [(0, .ref (v0)), (1, .int (v1)), (2, .int (v2)), (3, .int (v3)), (4, .int (v4)), (5, .int (v5)), (6, .int (v6)), (7, .int (v7))] [] σ := by
  unfold s_Mo_send_127 at h
  cases h
  exact z_vret rfl rfl d_Mo_send_127
set_option maxRecDepth 100000 in
theorem t_Mo_send {l : Launch} {D : zD} {g : zG} (hG : zGok g D) {v0 : Nat} {v1 : Int32} {v2 : Int32} {v3 : Int32} {v4 : Int32} {v5 : Int32} {v6 : Int32} {v7 : Int32} {σ : zS} {q : zS} (h : s_Mo_send g v0 v1 v2 v3 v4 v5 v6 v7 σ = some q) : zMet l D Y_Mo_send K_Mo_send 0 0 [.ref (v0), .int (v1), .int (v2), .int (v3), .int (v4), .int (v5), .int (v6), .int (v7)] σ (.returned none, q) := by
  refine zMet.ofZ (by decide) rfl (fun q => by cases q) (Nat.le_of_ble_eq_true rfl) ?_
  show Z _ _ _ _ _ _ 0 [(0, .ref (v0)), (1, .int (v1)), (2, .int (v2)), (3, .int (v3)), (4, .int (v4)), (5, .int (v5)), (6, .int (v6)), (7, .int (v7))] [] _
  unfold s_Mo_send at h
  refine z_aload_n 0 d_Mo_send_0 rfl rfl ?_
  replace h := Option.bind_eq_some_iff.mp h; obtain ⟨x1, e2, h⟩ := h
  refine z_getI wF_NumberOfficeModel_133_14 d_Mo_send_1 e2 ?_
  refine z_bipush (v := 64) d_Mo_send_4 rfl ?_
  refine z_icmp_ge (tgt := 127) d_Mo_send_6 rfl (fun c3 => ?_) (fun c3 => ?_)
  · rw [if_pos c3] at h
    refine z_lv (lv' := [(0, .ref (v0)), (1, .int (v1)), (2, .int (v2)), (3, .int (v3)), (4, .int (v4)), (5, .int (v5)), (6, .int (v6)), (7, .int (v7))]) [0, 1, 2, 3, 4, 5, 6, 7] rfl ?_
    exact t_Mo_send_127 hG   h
  · rw [if_neg c3] at h
    refine z_aload_n 0 d_Mo_send_9 rfl rfl ?_
    replace h := Option.bind_eq_some_iff.mp h; obtain ⟨x4, e5, h⟩ := h
    refine z_getR wF_NumberOfficeModel_110_14 d_Mo_send_10 e5 ?_
    refine z_bipush (v := 8) d_Mo_send_13 rfl ?_
    refine z_aload_n 0 d_Mo_send_15 rfl rfl ?_
    replace h := Option.bind_eq_some_iff.mp h; obtain ⟨x6, e7, h⟩ := h
    refine z_getI wF_NumberOfficeModel_133_14 d_Mo_send_16 e7 ?_
    refine z_imul d_Mo_send_19 ?_
    refine z_iload_n 1 d_Mo_send_20 rfl rfl ?_
    replace h := Option.bind_eq_some_iff.mp h; obtain ⟨a8, rfl, h⟩ := h
    replace h := Option.bind_eq_some_iff.mp h; obtain ⟨σ9, e10, h⟩ := h
    refine z_iastore rfl d_Mo_send_21 e10 ?_
    refine z_aload_n 0 d_Mo_send_22 rfl rfl ?_
    replace h := Option.bind_eq_some_iff.mp h; obtain ⟨x11, e12, h⟩ := h
    refine z_getR wF_NumberOfficeModel_110_14 d_Mo_send_23 e12 ?_
    refine z_bipush (v := 8) d_Mo_send_26 rfl ?_
    refine z_aload_n 0 d_Mo_send_28 rfl rfl ?_
    replace h := Option.bind_eq_some_iff.mp h; obtain ⟨x13, e14, h⟩ := h
    refine z_getI wF_NumberOfficeModel_133_14 d_Mo_send_29 e14 ?_
    refine z_imul d_Mo_send_32 ?_
    refine z_iconst (v := 1) d_Mo_send_33 rfl ?_
    refine z_iadd d_Mo_send_34 ?_
    refine z_iload_n 2 d_Mo_send_35 rfl rfl ?_
    replace h := Option.bind_eq_some_iff.mp h; obtain ⟨a15, rfl, h⟩ := h
    replace h := Option.bind_eq_some_iff.mp h; obtain ⟨σ16, e17, h⟩ := h
    refine z_iastore rfl d_Mo_send_36 e17 ?_
    refine z_aload_n 0 d_Mo_send_37 rfl rfl ?_
    replace h := Option.bind_eq_some_iff.mp h; obtain ⟨x18, e19, h⟩ := h
    refine z_getR wF_NumberOfficeModel_110_14 d_Mo_send_38 e19 ?_
    refine z_bipush (v := 8) d_Mo_send_41 rfl ?_
    refine z_aload_n 0 d_Mo_send_43 rfl rfl ?_
    replace h := Option.bind_eq_some_iff.mp h; obtain ⟨x20, e21, h⟩ := h
    refine z_getI wF_NumberOfficeModel_133_14 d_Mo_send_44 e21 ?_
    refine z_imul d_Mo_send_47 ?_
    refine z_iconst (v := 2) d_Mo_send_48 rfl ?_
    refine z_iadd d_Mo_send_49 ?_
    refine z_iload_n 3 d_Mo_send_50 rfl rfl ?_
    replace h := Option.bind_eq_some_iff.mp h; obtain ⟨a22, rfl, h⟩ := h
    replace h := Option.bind_eq_some_iff.mp h; obtain ⟨σ23, e24, h⟩ := h
    refine z_iastore rfl d_Mo_send_51 e24 ?_
    refine z_aload_n 0 d_Mo_send_52 rfl rfl ?_
    replace h := Option.bind_eq_some_iff.mp h; obtain ⟨x25, e26, h⟩ := h
    refine z_getR wF_NumberOfficeModel_110_14 d_Mo_send_53 e26 ?_
    refine z_bipush (v := 8) d_Mo_send_56 rfl ?_
    refine z_aload_n 0 d_Mo_send_58 rfl rfl ?_
    replace h := Option.bind_eq_some_iff.mp h; obtain ⟨x27, e28, h⟩ := h
    refine z_getI wF_NumberOfficeModel_133_14 d_Mo_send_59 e28 ?_
    refine z_imul d_Mo_send_62 ?_
    refine z_iconst (v := 3) d_Mo_send_63 rfl ?_
    refine z_iadd d_Mo_send_64 ?_
    refine z_iload 4 d_Mo_send_65 rfl ?_
    replace h := Option.bind_eq_some_iff.mp h; obtain ⟨a29, rfl, h⟩ := h
    replace h := Option.bind_eq_some_iff.mp h; obtain ⟨σ30, e31, h⟩ := h
    refine z_iastore rfl d_Mo_send_67 e31 ?_
    refine z_aload_n 0 d_Mo_send_68 rfl rfl ?_
    replace h := Option.bind_eq_some_iff.mp h; obtain ⟨x32, e33, h⟩ := h
    refine z_getR wF_NumberOfficeModel_110_14 d_Mo_send_69 e33 ?_
    refine z_bipush (v := 8) d_Mo_send_72 rfl ?_
    refine z_aload_n 0 d_Mo_send_74 rfl rfl ?_
    replace h := Option.bind_eq_some_iff.mp h; obtain ⟨x34, e35, h⟩ := h
    refine z_getI wF_NumberOfficeModel_133_14 d_Mo_send_75 e35 ?_
    refine z_imul d_Mo_send_78 ?_
    refine z_iconst (v := 4) d_Mo_send_79 rfl ?_
    refine z_iadd d_Mo_send_80 ?_
    refine z_iload 5 d_Mo_send_81 rfl ?_
    replace h := Option.bind_eq_some_iff.mp h; obtain ⟨a36, rfl, h⟩ := h
    replace h := Option.bind_eq_some_iff.mp h; obtain ⟨σ37, e38, h⟩ := h
    refine z_iastore rfl d_Mo_send_83 e38 ?_
    refine z_aload_n 0 d_Mo_send_84 rfl rfl ?_
    replace h := Option.bind_eq_some_iff.mp h; obtain ⟨x39, e40, h⟩ := h
    refine z_getR wF_NumberOfficeModel_110_14 d_Mo_send_85 e40 ?_
    refine z_bipush (v := 8) d_Mo_send_88 rfl ?_
    refine z_aload_n 0 d_Mo_send_90 rfl rfl ?_
    replace h := Option.bind_eq_some_iff.mp h; obtain ⟨x41, e42, h⟩ := h
    refine z_getI wF_NumberOfficeModel_133_14 d_Mo_send_91 e42 ?_
    refine z_imul d_Mo_send_94 ?_
    refine z_iconst (v := 5) d_Mo_send_95 rfl ?_
    refine z_iadd d_Mo_send_96 ?_
    refine z_iload 6 d_Mo_send_97 rfl ?_
    replace h := Option.bind_eq_some_iff.mp h; obtain ⟨a43, rfl, h⟩ := h
    replace h := Option.bind_eq_some_iff.mp h; obtain ⟨σ44, e45, h⟩ := h
    refine z_iastore rfl d_Mo_send_99 e45 ?_
    refine z_aload_n 0 d_Mo_send_100 rfl rfl ?_
    replace h := Option.bind_eq_some_iff.mp h; obtain ⟨x46, e47, h⟩ := h
    refine z_getR wF_NumberOfficeModel_110_14 d_Mo_send_101 e47 ?_
    refine z_bipush (v := 8) d_Mo_send_104 rfl ?_
    refine z_aload_n 0 d_Mo_send_106 rfl rfl ?_
    replace h := Option.bind_eq_some_iff.mp h; obtain ⟨x48, e49, h⟩ := h
    refine z_getI wF_NumberOfficeModel_133_14 d_Mo_send_107 e49 ?_
    refine z_imul d_Mo_send_110 ?_
    refine z_bipush (v := 6) d_Mo_send_111 rfl ?_
    refine z_iadd d_Mo_send_113 ?_
    refine z_iload 7 d_Mo_send_114 rfl ?_
    replace h := Option.bind_eq_some_iff.mp h; obtain ⟨a50, rfl, h⟩ := h
    replace h := Option.bind_eq_some_iff.mp h; obtain ⟨σ51, e52, h⟩ := h
    refine z_iastore rfl d_Mo_send_116 e52 ?_
    refine z_aload_n 0 d_Mo_send_117 rfl rfl ?_
    refine z_dup d_Mo_send_118 rfl ?_
    replace h := Option.bind_eq_some_iff.mp h; obtain ⟨x53, e54, h⟩ := h
    refine z_getI wF_NumberOfficeModel_133_14 d_Mo_send_119 e54 ?_
    refine z_iconst (v := 1) d_Mo_send_122 rfl ?_
    refine z_iadd d_Mo_send_123 ?_
    replace h := Option.bind_eq_some_iff.mp h; obtain ⟨σ55, e56, h⟩ := h
    refine z_put wP_NumberOfficeModel_133_14 (fun q => by cases q) d_Mo_send_124 rfl rfl e56 ?_
    refine z_lv (lv' := [(0, .ref (v0)), (1, .int (v1)), (2, .int (v2)), (3, .int (v3)), (4, .int (v4)), (5, .int (v5)), (6, .int (v6)), (7, .int (v7))]) [0, 1, 2, 3, 4, 5, 6, 7] rfl ?_
    exact t_Mo_send_127 hG   h

def s_Mo_tooEarly_124 (g : zG)  (v0 : Nat) (v1 : Int32) (v2 : Int32) (v3 : Int32) (v4 : Int32) (w0 : Int32) (σ : zS) : Option (Int32 × zS) := if w0 = 0 ∨ w0 = 1 then some (w0, σ) else none
def s_Mo_tooEarly_123 (g : zG)  (v0 : Nat) (v1 : Int32) (v2 : Int32) (v3 : Int32) (v4 : Int32) (σ : zS) : Option (Int32 × zS) := s_Mo_tooEarly_124 g  (v0) (v1) (v2) (v3) (v4) (0) σ
def s_Mo_tooEarly_69 (g : zG)  (v0 : Nat) (v1 : Int32) (v2 : Int32) (v3 : Int32) (v4 : Int32) (σ : zS) : Option (Int32 × zS) := if v4 < 0 then s_Mo_tooEarly_123 g  (v0) (v1) (v2) (v3) (v4) σ else (zgR σ v0 14 9).bind fun x2 => (x2).bind fun a4 => (zaI σ a4 5 ((300 * v1) + v4)).bind fun x5 => (zgR σ v0 14 9).bind fun x7 => (x7).bind fun a9 => (zaI σ a9 5 ((300 * v1) + v3)).bind fun x10 => if x5 = x10 then (zgR σ v0 14 12).bind fun x13 => (x13).bind fun a15 => (zaI σ a15 0 ((300 * v1) + v4)).bind fun x16 => if x16 ≤ v2 then s_Mo_tooEarly_123 g  (v0) (v1) (v2) (v3) (v4) σ else s_Mo_tooEarly_124 g  (v0) (v1) (v2) (v3) (v4) (1) σ else s_Mo_tooEarly_123 g  (v0) (v1) (v2) (v3) (v4) σ
def s_Mo_tooEarly_12 (g : zG)  : Nat → Nat → Int32 → Int32 → Int32 → Int32 → zS → Option (Int32 × zS)
  | 0, _, _, _, _, _, _ => none
  | n + 1, v0, v1, v2, v3, v4, σ => if v4 < 0 then s_Mo_tooEarly_69 g  (v0) (v1) (v2) (v3) (v4) σ else (zgR σ v0 14 9).bind fun x2 => (x2).bind fun a4 => (zaI σ a4 5 ((300 * v1) + v4)).bind fun x5 => (zgR σ v0 14 9).bind fun x7 => (x7).bind fun a9 => (zaI σ a9 5 ((300 * v1) + v3)).bind fun x10 => if x5 = x10 then (zgR σ v0 14 11).bind fun x13 => (x13).bind fun a15 => (zaL σ a15 1 ((300 * v1) + v4)).bind fun x16 => if (lg_cmp x16 0) = 0 then s_Mo_tooEarly_12 g  n (v0) (v1) (v2) (v3) (v4 + (-1)) σ else s_Mo_tooEarly_69 g  (v0) (v1) (v2) (v3) (v4) σ else s_Mo_tooEarly_69 g  (v0) (v1) (v2) (v3) (v4) σ
def s_Mo_tooEarly (g : zG) (v0 : Nat) (v1 : Int32) (v2 : Int32) (σ : zS) : Option (Int32 × zS) := (zgR σ v0 14 4).bind fun x1 => (x1).bind fun a3 => (zaI σ a3 0 (v1)).bind fun x4 => s_Mo_tooEarly_12 g  zfuel (v0) (v1) (v2) (x4) (x4 - 1) σ
set_option maxRecDepth 100000 in
theorem t_Mo_tooEarly_124 {l : Launch} {D : zD} {g : zG} (hG : zGok g D) {q : Int32 × zS}   {v0 : Nat} {v1 : Int32} {v2 : Int32} {v3 : Int32} {v4 : Int32} {w0 : Int32} {σ : zS} (h : s_Mo_tooEarly_124 g  v0 v1 v2 v3 v4 w0 σ = some q) : Z l D K_Mo_tooEarly 0 0 (.returned (some (.int q.1)), q.2) 124 [(0, .ref (v0)), (1, .int (v1)), (2, .int (v2)), (3, .int (v3)), (4, .int (v4))] [.int (w0)] σ := by
  unfold s_Mo_tooEarly_124 at h
  by_cases c1 : w0 = 0 ∨ w0 = 1
  rotate_left
  · rw [if_neg c1] at h; cases h
  rw [if_pos c1] at h
  cases h
  exact z_zret rfl (z_nb c1) rfl d_Mo_tooEarly_124
set_option maxRecDepth 100000 in
theorem t_Mo_tooEarly_123 {l : Launch} {D : zD} {g : zG} (hG : zGok g D) {q : Int32 × zS}   {v0 : Nat} {v1 : Int32} {v2 : Int32} {v3 : Int32} {v4 : Int32} {σ : zS} (h : s_Mo_tooEarly_123 g  v0 v1 v2 v3 v4 σ = some q) : Z l D K_Mo_tooEarly 0 0 (.returned (some (.int q.1)), q.2) 123 [(0, .ref (v0)), (1, .int (v1)), (2, .int (v2)), (3, .int (v3)), (4, .int (v4))] [] σ := by
  unfold s_Mo_tooEarly_123 at h
  refine z_iconst (v := 0) d_Mo_tooEarly_123 rfl ?_
  refine z_lv (lv' := [(0, .ref (v0)), (1, .int (v1)), (2, .int (v2)), (3, .int (v3)), (4, .int (v4))]) [0, 1, 2, 3, 4] rfl ?_
  exact t_Mo_tooEarly_124 hG   h
set_option maxRecDepth 100000 in
theorem t_Mo_tooEarly_69 {l : Launch} {D : zD} {g : zG} (hG : zGok g D) {q : Int32 × zS}   {v0 : Nat} {v1 : Int32} {v2 : Int32} {v3 : Int32} {v4 : Int32} {σ : zS} (h : s_Mo_tooEarly_69 g  v0 v1 v2 v3 v4 σ = some q) : Z l D K_Mo_tooEarly 0 0 (.returned (some (.int q.1)), q.2) 69 [(0, .ref (v0)), (1, .int (v1)), (2, .int (v2)), (3, .int (v3)), (4, .int (v4))] [] σ := by
  unfold s_Mo_tooEarly_69 at h
  refine z_iload 4 d_Mo_tooEarly_69 rfl ?_
  refine z_if_lt (tgt := 123) d_Mo_tooEarly_71 rfl (fun c1 => ?_) (fun c1 => ?_)
  · rw [if_pos c1] at h
    refine z_lv (lv' := [(0, .ref (v0)), (1, .int (v1)), (2, .int (v2)), (3, .int (v3)), (4, .int (v4))]) [0, 1, 2, 3, 4] rfl ?_
    exact t_Mo_tooEarly_123 hG   h
  · rw [if_neg c1] at h
    refine z_aload_n 0 d_Mo_tooEarly_74 rfl rfl ?_
    replace h := Option.bind_eq_some_iff.mp h; obtain ⟨x2, e3, h⟩ := h
    refine z_getR wF_NumberOfficeModel_33_14 d_Mo_tooEarly_75 e3 ?_
    refine z_sipush (v := 300) d_Mo_tooEarly_78 rfl ?_
    refine z_iload_n 1 d_Mo_tooEarly_81 rfl rfl ?_
    refine z_imul d_Mo_tooEarly_82 ?_
    refine z_iload 4 d_Mo_tooEarly_83 rfl ?_
    refine z_iadd d_Mo_tooEarly_85 ?_
    replace h := Option.bind_eq_some_iff.mp h; obtain ⟨a4, rfl, h⟩ := h
    replace h := Option.bind_eq_some_iff.mp h; obtain ⟨x5, e6, h⟩ := h
    refine z_saload rfl d_Mo_tooEarly_86 e6 ?_
    refine z_aload_n 0 d_Mo_tooEarly_87 rfl rfl ?_
    replace h := Option.bind_eq_some_iff.mp h; obtain ⟨x7, e8, h⟩ := h
    refine z_getR wF_NumberOfficeModel_33_14 d_Mo_tooEarly_88 e8 ?_
    refine z_sipush (v := 300) d_Mo_tooEarly_91 rfl ?_
    refine z_iload_n 1 d_Mo_tooEarly_94 rfl rfl ?_
    refine z_imul d_Mo_tooEarly_95 ?_
    refine z_iload_n 3 d_Mo_tooEarly_96 rfl rfl ?_
    refine z_iadd d_Mo_tooEarly_97 ?_
    replace h := Option.bind_eq_some_iff.mp h; obtain ⟨a9, rfl, h⟩ := h
    replace h := Option.bind_eq_some_iff.mp h; obtain ⟨x10, e11, h⟩ := h
    refine z_saload rfl d_Mo_tooEarly_98 e11 ?_
    refine z_icmp_ne (tgt := 123) d_Mo_tooEarly_99 rfl (fun c12 => ?_) (fun c12 => ?_)
    · rw [if_neg c12] at h
      refine z_lv (lv' := [(0, .ref (v0)), (1, .int (v1)), (2, .int (v2)), (3, .int (v3)), (4, .int (v4))]) [0, 1, 2, 3, 4] rfl ?_
      exact t_Mo_tooEarly_123 hG   h
    · rw [if_pos c12] at h
      refine z_iload_n 2 d_Mo_tooEarly_102 rfl rfl ?_
      refine z_aload_n 0 d_Mo_tooEarly_103 rfl rfl ?_
      replace h := Option.bind_eq_some_iff.mp h; obtain ⟨x13, e14, h⟩ := h
      refine z_getR wF_NumberOfficeModel_44_14 d_Mo_tooEarly_104 e14 ?_
      refine z_sipush (v := 300) d_Mo_tooEarly_107 rfl ?_
      refine z_iload_n 1 d_Mo_tooEarly_110 rfl rfl ?_
      refine z_imul d_Mo_tooEarly_111 ?_
      refine z_iload 4 d_Mo_tooEarly_112 rfl ?_
      refine z_iadd d_Mo_tooEarly_114 ?_
      replace h := Option.bind_eq_some_iff.mp h; obtain ⟨a15, rfl, h⟩ := h
      replace h := Option.bind_eq_some_iff.mp h; obtain ⟨x16, e17, h⟩ := h
      refine z_iaload rfl d_Mo_tooEarly_115 e17 ?_
      refine z_icmp_ge (tgt := 123) d_Mo_tooEarly_116 rfl (fun c18 => ?_) (fun c18 => ?_)
      · rw [if_pos c18] at h
        refine z_lv (lv' := [(0, .ref (v0)), (1, .int (v1)), (2, .int (v2)), (3, .int (v3)), (4, .int (v4))]) [0, 1, 2, 3, 4] rfl ?_
        exact t_Mo_tooEarly_123 hG   h
      · rw [if_neg c18] at h
        refine z_iconst (v := 1) d_Mo_tooEarly_119 rfl ?_
        refine z_goto (tgt := 124) d_Mo_tooEarly_120 rfl ?_
        refine z_lv (lv' := [(0, .ref (v0)), (1, .int (v1)), (2, .int (v2)), (3, .int (v3)), (4, .int (v4))]) [0, 1, 2, 3, 4] rfl ?_
        exact t_Mo_tooEarly_124 hG   h
set_option maxRecDepth 100000 in
theorem t_Mo_tooEarly_12 {l : Launch} {D : zD} {g : zG} (hG : zGok g D) {q : Int32 × zS}   : ∀ (n : Nat) {v0 : Nat} {v1 : Int32} {v2 : Int32} {v3 : Int32} {v4 : Int32} {σ : zS}, s_Mo_tooEarly_12 g  n v0 v1 v2 v3 v4 σ = some q → Z l D K_Mo_tooEarly 0 0 (.returned (some (.int q.1)), q.2) 12 [(0, .ref (v0)), (1, .int (v1)), (2, .int (v2)), (3, .int (v3)), (4, .int (v4))] [] σ := by
  intro n
  induction n with
  | zero =>
    intro v0 v1 v2 v3 v4 σ h
    cases h
  | succ n ih =>
    intro v0 v1 v2 v3 v4 σ h
    first | rw [s_Mo_tooEarly_12] at h | (unfold s_Mo_tooEarly_12 at h; dsimp only at h)
    refine z_iload 4 d_Mo_tooEarly_12 rfl ?_
    refine z_if_lt (tgt := 69) d_Mo_tooEarly_14 rfl (fun c1 => ?_) (fun c1 => ?_)
    · rw [if_pos c1] at h
      refine z_lv (lv' := [(0, .ref (v0)), (1, .int (v1)), (2, .int (v2)), (3, .int (v3)), (4, .int (v4))]) [0, 1, 2, 3, 4] rfl ?_
      exact t_Mo_tooEarly_69 hG   h
    · rw [if_neg c1] at h
      refine z_aload_n 0 d_Mo_tooEarly_17 rfl rfl ?_
      replace h := Option.bind_eq_some_iff.mp h; obtain ⟨x2, e3, h⟩ := h
      refine z_getR wF_NumberOfficeModel_33_14 d_Mo_tooEarly_18 e3 ?_
      refine z_sipush (v := 300) d_Mo_tooEarly_21 rfl ?_
      refine z_iload_n 1 d_Mo_tooEarly_24 rfl rfl ?_
      refine z_imul d_Mo_tooEarly_25 ?_
      refine z_iload 4 d_Mo_tooEarly_26 rfl ?_
      refine z_iadd d_Mo_tooEarly_28 ?_
      replace h := Option.bind_eq_some_iff.mp h; obtain ⟨a4, rfl, h⟩ := h
      replace h := Option.bind_eq_some_iff.mp h; obtain ⟨x5, e6, h⟩ := h
      refine z_saload rfl d_Mo_tooEarly_29 e6 ?_
      refine z_aload_n 0 d_Mo_tooEarly_30 rfl rfl ?_
      replace h := Option.bind_eq_some_iff.mp h; obtain ⟨x7, e8, h⟩ := h
      refine z_getR wF_NumberOfficeModel_33_14 d_Mo_tooEarly_31 e8 ?_
      refine z_sipush (v := 300) d_Mo_tooEarly_34 rfl ?_
      refine z_iload_n 1 d_Mo_tooEarly_37 rfl rfl ?_
      refine z_imul d_Mo_tooEarly_38 ?_
      refine z_iload_n 3 d_Mo_tooEarly_39 rfl rfl ?_
      refine z_iadd d_Mo_tooEarly_40 ?_
      replace h := Option.bind_eq_some_iff.mp h; obtain ⟨a9, rfl, h⟩ := h
      replace h := Option.bind_eq_some_iff.mp h; obtain ⟨x10, e11, h⟩ := h
      refine z_saload rfl d_Mo_tooEarly_41 e11 ?_
      refine z_icmp_ne (tgt := 69) d_Mo_tooEarly_42 rfl (fun c12 => ?_) (fun c12 => ?_)
      · rw [if_neg c12] at h
        refine z_lv (lv' := [(0, .ref (v0)), (1, .int (v1)), (2, .int (v2)), (3, .int (v3)), (4, .int (v4))]) [0, 1, 2, 3, 4] rfl ?_
        exact t_Mo_tooEarly_69 hG   h
      · rw [if_pos c12] at h
        refine z_aload_n 0 d_Mo_tooEarly_45 rfl rfl ?_
        replace h := Option.bind_eq_some_iff.mp h; obtain ⟨x13, e14, h⟩ := h
        refine z_getR wF_NumberOfficeModel_40_14 d_Mo_tooEarly_46 e14 ?_
        refine z_sipush (v := 300) d_Mo_tooEarly_49 rfl ?_
        refine z_iload_n 1 d_Mo_tooEarly_52 rfl rfl ?_
        refine z_imul d_Mo_tooEarly_53 ?_
        refine z_iload 4 d_Mo_tooEarly_54 rfl ?_
        refine z_iadd d_Mo_tooEarly_56 ?_
        replace h := Option.bind_eq_some_iff.mp h; obtain ⟨a15, rfl, h⟩ := h
        replace h := Option.bind_eq_some_iff.mp h; obtain ⟨x16, e17, h⟩ := h
        refine z_laload rfl d_Mo_tooEarly_57 e17 ?_
        refine z_lconst (v := 0) d_Mo_tooEarly_58 rfl ?_
        refine z_lcmp d_Mo_tooEarly_59 ?_
        refine z_if_ne (tgt := 69) d_Mo_tooEarly_60 rfl (fun c18 => ?_) (fun c18 => ?_)
        · rw [if_neg c18] at h
          refine z_lv (lv' := [(0, .ref (v0)), (1, .int (v1)), (2, .int (v2)), (3, .int (v3)), (4, .int (v4))]) [0, 1, 2, 3, 4] rfl ?_
          exact t_Mo_tooEarly_69 hG   h
        · rw [if_pos c18] at h
          refine z_iinc (v := v4 + (-1)) (lv' := [(4, .int (v4 + (-1))), (0, .ref (v0)), (1, .int (v1)), (2, .int (v2)), (3, .int (v3))]) 4 d_Mo_tooEarly_63 rfl rfl (by decide) rfl ?_
          refine z_goto (tgt := 12) d_Mo_tooEarly_66 rfl ?_
          refine z_lv (lv' := [(0, .ref (v0)), (1, .int (v1)), (2, .int (v2)), (3, .int (v3)), (4, .int (v4 + (-1)))]) [1, 2, 3, 4, 0] rfl ?_
          exact ih h
set_option maxRecDepth 100000 in
theorem t_Mo_tooEarly {l : Launch} {D : zD} {g : zG} (hG : zGok g D) {v0 : Nat} {v1 : Int32} {v2 : Int32} {σ : zS} {q : Int32 × zS} (h : s_Mo_tooEarly g v0 v1 v2 σ = some q) : zMet l D Y_Mo_tooEarly K_Mo_tooEarly 0 0 [.ref (v0), .int (v1), .int (v2)] σ (.returned (some (.int q.1)), q.2) := by
  refine zMet.ofZ (by decide) rfl (fun q => by cases q) (Nat.le_of_ble_eq_true rfl) ?_
  show Z _ _ _ _ _ _ 0 [(0, .ref (v0)), (1, .int (v1)), (2, .int (v2))] [] _
  unfold s_Mo_tooEarly at h
  refine z_aload_n 0 d_Mo_tooEarly_0 rfl rfl ?_
  replace h := Option.bind_eq_some_iff.mp h; obtain ⟨x1, e2, h⟩ := h
  refine z_getR wF_NumberOfficeModel_17_14 d_Mo_tooEarly_1 e2 ?_
  refine z_iload_n 1 d_Mo_tooEarly_4 rfl rfl ?_
  replace h := Option.bind_eq_some_iff.mp h; obtain ⟨a3, rfl, h⟩ := h
  replace h := Option.bind_eq_some_iff.mp h; obtain ⟨x4, e5, h⟩ := h
  refine z_iaload rfl d_Mo_tooEarly_5 e5 ?_
  refine z_istore_n (j := 3) (lv' := [(3, .int (x4)), (0, .ref (v0)), (1, .int (v1)), (2, .int (v2))]) d_Mo_tooEarly_6 rfl (by decide) rfl ?_
  refine z_iload_n 0 d_Mo_tooEarly_7 rfl rfl ?_
  refine z_iconst (v := 1) d_Mo_tooEarly_8 rfl ?_
  refine z_isub d_Mo_tooEarly_9 ?_
  refine z_istore (j := 4) (lv' := [(4, .int (x4 - 1)), (3, .int (x4)), (0, .ref (v0)), (1, .int (v1)), (2, .int (v2))]) d_Mo_tooEarly_10 (by decide) rfl ?_
  refine z_lv (lv' := [(0, .ref (v0)), (1, .int (v1)), (2, .int (v2)), (3, .int (x4)), (4, .int (x4 - 1))]) [2, 3, 4, 1, 0] rfl ?_
  exact t_Mo_tooEarly_12 hG   zfuel h

def s_Mo_happens_61 (g : zG)  (v0 : Nat) (v1 : Int32) (v2 : Int32) (v3 : Int32) (w0 : Int32) (w1 : Int32) (w2 : Option Nat) (σ : zS) : Option (zS) := (w2).bind fun a1 => (zsI σ a1 2 (w1) (vp_nar .byte (w0.toInt8.toInt32))).bind fun σ2 => some σ2
def s_Mo_happens_28 (g : zG)  (v0 : Nat) (v1 : Int32) (v2 : Int32) (v3 : Int32) (w0 : Int32) (w1 : Int32) (w2 : Int32) (w3 : Option Nat) (σ : zS) : Option (zS) := (w3).bind fun a1 => (zsI σ a1 5 (w2) (vp_nar .short ((w1 + w0 : Int32).toInt16.toInt32))).bind fun σ2 => (zgR σ2 v0 14 6).bind fun x4 => (x4).bind fun a6 => (zaI σ2 a6 0 (v1)).bind fun x7 => (zsI σ2 a6 0 (v1) (x7 + 1)).bind fun σ9 => (zgR σ9 v0 14 10).bind fun x11 => if v3 = 0 then s_Mo_happens_61 g  (v0) (v1) (v2) (v3) (2) ((300 * v1) + v2) (x11) σ9 else s_Mo_happens_61 g  (v0) (v1) (v2) (v3) (3) ((300 * v1) + v2) (x11) σ9
def s_Mo_happens (g : zG) (v0 : Nat) (v1 : Int32) (v2 : Int32) (v3 : Int32) (σ : zS) : Option (zS) := (zgR σ v0 14 14).bind fun x1 => (zgR σ v0 14 6).bind fun x3 => (x3).bind fun a5 => (zaI σ a5 0 (v1)).bind fun x6 => if v3 = 0 then s_Mo_happens_28 g  (v0) (v1) (v2) (v3) (0) (2 * v2) ((600 * v1) + x6) (x1) σ else s_Mo_happens_28 g  (v0) (v1) (v2) (v3) (1) (2 * v2) ((600 * v1) + x6) (x1) σ
set_option maxRecDepth 100000 in
theorem t_Mo_happens_61 {l : Launch} {D : zD} {g : zG} (hG : zGok g D) {q : zS}   {v0 : Nat} {v1 : Int32} {v2 : Int32} {v3 : Int32} {w0 : Int32} {w1 : Int32} {w2 : Option Nat} {σ : zS} (h : s_Mo_happens_61 g  v0 v1 v2 v3 w0 w1 w2 σ = some q) : Z l D K_Mo_happens 0 0 (.returned none, q) 61 [(0, .ref (v0)), (1, .int (v1)), (2, .int (v2)), (3, .int (v3))] [.int (w0), .int (w1), va_rf (w2)] σ := by
  unfold s_Mo_happens_61 at h
  refine z_i2b d_Mo_happens_61 ?_
  replace h := Option.bind_eq_some_iff.mp h; obtain ⟨a1, rfl, h⟩ := h
  replace h := Option.bind_eq_some_iff.mp h; obtain ⟨σ2, e3, h⟩ := h
  refine z_bastore rfl d_Mo_happens_62 e3 ?_
  cases h
  exact z_vret rfl rfl d_Mo_happens_63
set_option maxRecDepth 100000 in
theorem t_Mo_happens_28 {l : Launch} {D : zD} {g : zG} (hG : zGok g D) {q : zS}   {v0 : Nat} {v1 : Int32} {v2 : Int32} {v3 : Int32} {w0 : Int32} {w1 : Int32} {w2 : Int32} {w3 : Option Nat} {σ : zS} (h : s_Mo_happens_28 g  v0 v1 v2 v3 w0 w1 w2 w3 σ = some q) : Z l D K_Mo_happens 0 0 (.returned none, q) 28 [(0, .ref (v0)), (1, .int (v1)), (2, .int (v2)), (3, .int (v3))] [.int (w0), .int (w1), .int (w2), va_rf (w3)] σ := by
  unfold s_Mo_happens_28 at h
  refine z_iadd d_Mo_happens_28 ?_
  refine z_i2s d_Mo_happens_29 ?_
  replace h := Option.bind_eq_some_iff.mp h; obtain ⟨a1, rfl, h⟩ := h
  replace h := Option.bind_eq_some_iff.mp h; obtain ⟨σ2, e3, h⟩ := h
  refine z_sastore rfl d_Mo_happens_30 e3 ?_
  refine z_aload_n 0 d_Mo_happens_31 rfl rfl ?_
  replace h := Option.bind_eq_some_iff.mp h; obtain ⟨x4, e5, h⟩ := h
  refine z_getR wF_NumberOfficeModel_23_14 d_Mo_happens_32 e5 ?_
  refine z_iload_n 1 d_Mo_happens_35 rfl rfl ?_
  refine z_dup2 d_Mo_happens_36 rfl (z_rfc _) ?_
  replace h := Option.bind_eq_some_iff.mp h; obtain ⟨a6, rfl, h⟩ := h
  replace h := Option.bind_eq_some_iff.mp h; obtain ⟨x7, e8, h⟩ := h
  refine z_iaload rfl d_Mo_happens_37 e8 ?_
  refine z_iconst (v := 1) d_Mo_happens_38 rfl ?_
  refine z_iadd d_Mo_happens_39 ?_
  replace h := Option.bind_eq_some_iff.mp h; obtain ⟨σ9, e10, h⟩ := h
  refine z_iastore rfl d_Mo_happens_40 e10 ?_
  refine z_aload_n 0 d_Mo_happens_41 rfl rfl ?_
  replace h := Option.bind_eq_some_iff.mp h; obtain ⟨x11, e12, h⟩ := h
  refine z_getR wF_NumberOfficeModel_36_14 d_Mo_happens_42 e12 ?_
  refine z_sipush (v := 300) d_Mo_happens_45 rfl ?_
  refine z_iload_n 1 d_Mo_happens_48 rfl rfl ?_
  refine z_imul d_Mo_happens_49 ?_
  refine z_iload_n 2 d_Mo_happens_50 rfl rfl ?_
  refine z_iadd d_Mo_happens_51 ?_
  refine z_iload_n 3 d_Mo_happens_52 rfl rfl ?_
  refine z_if_eq (tgt := 60) d_Mo_happens_53 rfl (fun c13 => ?_) (fun c13 => ?_)
  · rw [if_pos c13] at h
    refine z_iconst (v := 2) d_Mo_happens_60 rfl ?_
    refine z_lv (lv' := [(0, .ref (v0)), (1, .int (v1)), (2, .int (v2)), (3, .int (v3))]) [0, 1, 2, 3] rfl ?_
    exact t_Mo_happens_61 hG   h
  · rw [if_neg c13] at h
    refine z_iconst (v := 3) d_Mo_happens_56 rfl ?_
    refine z_goto (tgt := 61) d_Mo_happens_57 rfl ?_
    refine z_lv (lv' := [(0, .ref (v0)), (1, .int (v1)), (2, .int (v2)), (3, .int (v3))]) [0, 1, 2, 3] rfl ?_
    exact t_Mo_happens_61 hG   h
set_option maxRecDepth 100000 in
theorem t_Mo_happens {l : Launch} {D : zD} {g : zG} (hG : zGok g D) {v0 : Nat} {v1 : Int32} {v2 : Int32} {v3 : Int32} {σ : zS} {q : zS} (h : s_Mo_happens g v0 v1 v2 v3 σ = some q) : zMet l D Y_Mo_happens K_Mo_happens 0 0 [.ref (v0), .int (v1), .int (v2), .int (v3)] σ (.returned none, q) := by
  refine zMet.ofZ (by decide) rfl (fun q => by cases q) (Nat.le_of_ble_eq_true rfl) ?_
  show Z _ _ _ _ _ _ 0 [(0, .ref (v0)), (1, .int (v1)), (2, .int (v2)), (3, .int (v3))] [] _
  unfold s_Mo_happens at h
  refine z_aload_n 0 d_Mo_happens_0 rfl rfl ?_
  replace h := Option.bind_eq_some_iff.mp h; obtain ⟨x1, e2, h⟩ := h
  refine z_getR wF_NumberOfficeModel_50_14 d_Mo_happens_1 e2 ?_
  refine z_sipush (v := 600) d_Mo_happens_4 rfl ?_
  refine z_iload_n 1 d_Mo_happens_7 rfl rfl ?_
  refine z_imul d_Mo_happens_8 ?_
  refine z_aload_n 0 d_Mo_happens_9 rfl rfl ?_
  replace h := Option.bind_eq_some_iff.mp h; obtain ⟨x3, e4, h⟩ := h
  refine z_getR wF_NumberOfficeModel_23_14 d_Mo_happens_10 e4 ?_
  refine z_iload_n 1 d_Mo_happens_13 rfl rfl ?_
  replace h := Option.bind_eq_some_iff.mp h; obtain ⟨a5, rfl, h⟩ := h
  replace h := Option.bind_eq_some_iff.mp h; obtain ⟨x6, e7, h⟩ := h
  refine z_iaload rfl d_Mo_happens_14 e7 ?_
  refine z_iadd d_Mo_happens_15 ?_
  refine z_iconst (v := 2) d_Mo_happens_16 rfl ?_
  refine z_iload_n 2 d_Mo_happens_17 rfl rfl ?_
  refine z_imul d_Mo_happens_18 ?_
  refine z_iload_n 3 d_Mo_happens_19 rfl rfl ?_
  refine z_if_eq (tgt := 27) d_Mo_happens_20 rfl (fun c8 => ?_) (fun c8 => ?_)
  · rw [if_pos c8] at h
    refine z_iconst (v := 0) d_Mo_happens_27 rfl ?_
    refine z_lv (lv' := [(0, .ref (v0)), (1, .int (v1)), (2, .int (v2)), (3, .int (v3))]) [0, 1, 2, 3] rfl ?_
    exact t_Mo_happens_28 hG   h
  · rw [if_neg c8] at h
    refine z_iconst (v := 1) d_Mo_happens_23 rfl ?_
    refine z_goto (tgt := 28) d_Mo_happens_24 rfl ?_
    refine z_lv (lv' := [(0, .ref (v0)), (1, .int (v1)), (2, .int (v2)), (3, .int (v3))]) [0, 1, 2, 3] rfl ?_
    exact t_Mo_happens_28 hG   h

def s_Mo_find_2 (g : zG)  : Nat → Nat → Int32 → Int32 → Int32 → zS → Option (Int32 × zS)
  | 0, _, _, _, _, _ => none
  | n + 1, v0, v1, v2, v3, σ => (zgR σ v0 14 3).bind fun x1 => (x1).bind fun a3 => (zaI σ a3 0 (v1)).bind fun x4 => if x4 ≤ v3 then some ((-1), σ) else (zgR σ v0 14 8).bind fun x7 => (x7).bind fun a9 => (zaI σ a9 5 ((300 * v1) + v3)).bind fun x10 => if x10 = v2 then some (v3, σ) else s_Mo_find_2 g  n (v0) (v1) (v2) (v3 + 1) σ
def s_Mo_find (g : zG) (v0 : Nat) (v1 : Int32) (v2 : Int32) (σ : zS) : Option (Int32 × zS) := s_Mo_find_2 g  zfuel (v0) (v1) (v2) (0) σ
set_option maxRecDepth 100000 in
theorem t_Mo_find_2 {l : Launch} {D : zD} {g : zG} (hG : zGok g D) {q : Int32 × zS}   : ∀ (n : Nat) {v0 : Nat} {v1 : Int32} {v2 : Int32} {v3 : Int32} {σ : zS}, s_Mo_find_2 g  n v0 v1 v2 v3 σ = some q → Z l D K_Mo_find 0 0 (.returned (some (.int q.1)), q.2) 2 [(0, .ref (v0)), (1, .int (v1)), (2, .int (v2)), (3, .int (v3))] [] σ := by
  intro n
  induction n with
  | zero =>
    intro v0 v1 v2 v3 σ h
    cases h
  | succ n ih =>
    intro v0 v1 v2 v3 σ h
    first | rw [s_Mo_find_2] at h | (unfold s_Mo_find_2 at h; dsimp only at h)
    refine z_iload_n 3 d_Mo_find_2 rfl rfl ?_
    refine z_aload_n 0 d_Mo_find_3 rfl rfl ?_
    replace h := Option.bind_eq_some_iff.mp h; obtain ⟨x1, e2, h⟩ := h
    refine z_getR wF_NumberOfficeModel_13_14 d_Mo_find_4 e2 ?_
    refine z_iload_n 1 d_Mo_find_7 rfl rfl ?_
    replace h := Option.bind_eq_some_iff.mp h; obtain ⟨a3, rfl, h⟩ := h
    replace h := Option.bind_eq_some_iff.mp h; obtain ⟨x4, e5, h⟩ := h
    refine z_iaload rfl d_Mo_find_8 e5 ?_
    refine z_icmp_ge (tgt := 36) d_Mo_find_9 rfl (fun c6 => ?_) (fun c6 => ?_)
    · rw [if_pos c6] at h
      refine z_iconst (v := (-1)) d_Mo_find_36 rfl ?_
      cases h
      exact z_iret rfl rfl d_Mo_find_37
    · rw [if_neg c6] at h
      refine z_aload_n 0 d_Mo_find_12 rfl rfl ?_
      replace h := Option.bind_eq_some_iff.mp h; obtain ⟨x7, e8, h⟩ := h
      refine z_getR wF_NumberOfficeModel_29_14 d_Mo_find_13 e8 ?_
      refine z_sipush (v := 300) d_Mo_find_16 rfl ?_
      refine z_iload_n 1 d_Mo_find_19 rfl rfl ?_
      refine z_imul d_Mo_find_20 ?_
      refine z_iload_n 3 d_Mo_find_21 rfl rfl ?_
      refine z_iadd d_Mo_find_22 ?_
      replace h := Option.bind_eq_some_iff.mp h; obtain ⟨a9, rfl, h⟩ := h
      replace h := Option.bind_eq_some_iff.mp h; obtain ⟨x10, e11, h⟩ := h
      refine z_saload rfl d_Mo_find_23 e11 ?_
      refine z_iload_n 2 d_Mo_find_24 rfl rfl ?_
      refine z_icmp_ne (tgt := 30) d_Mo_find_25 rfl (fun c12 => ?_) (fun c12 => ?_)
      · rw [if_neg c12] at h
        refine z_iinc (v := v3 + 1) (lv' := [(3, .int (v3 + 1)), (0, .ref (v0)), (1, .int (v1)), (2, .int (v2))]) 3 d_Mo_find_30 rfl rfl (by decide) rfl ?_
        refine z_goto (tgt := 2) d_Mo_find_33 rfl ?_
        refine z_lv (lv' := [(0, .ref (v0)), (1, .int (v1)), (2, .int (v2)), (3, .int (v3 + 1))]) [1, 2, 3, 0] rfl ?_
        exact ih h
      · rw [if_pos c12] at h
        refine z_iload_n 3 d_Mo_find_28 rfl rfl ?_
        cases h
        exact z_iret rfl rfl d_Mo_find_29
set_option maxRecDepth 100000 in
theorem t_Mo_find {l : Launch} {D : zD} {g : zG} (hG : zGok g D) {v0 : Nat} {v1 : Int32} {v2 : Int32} {σ : zS} {q : Int32 × zS} (h : s_Mo_find g v0 v1 v2 σ = some q) : zMet l D Y_Mo_find K_Mo_find 0 0 [.ref (v0), .int (v1), .int (v2)] σ (.returned (some (.int q.1)), q.2) := by
  refine zMet.ofZ (by decide) rfl (fun q => by cases q) (Nat.le_of_ble_eq_true rfl) ?_
  show Z _ _ _ _ _ _ 0 [(0, .ref (v0)), (1, .int (v1)), (2, .int (v2))] [] _
  unfold s_Mo_find at h
  refine z_iconst (v := 0) d_Mo_find_0 rfl ?_
  refine z_istore_n (j := 3) (lv' := [(3, .int (0)), (0, .ref (v0)), (1, .int (v1)), (2, .int (v2))]) d_Mo_find_1 rfl (by decide) rfl ?_
  refine z_lv (lv' := [(0, .ref (v0)), (1, .int (v1)), (2, .int (v2)), (3, .int (0))]) [1, 2, 3, 0] rfl ?_
  exact t_Mo_find_2 hG   zfuel h

def s_Mo_strike_59 (g : zG)  (v0 : Nat) (v1 : Int32) (w0 : Int32) (σ : zS) : Option (Int32 × zS) := some (w0, σ)
def s_Mo_strike_46 (g : zG)  (v0 : Nat) (v1 : Int32) (σ : zS) : Option (Int32 × zS) := (zgI σ v0 14 0).bind fun x1 => if x1 = 1 then s_Mo_strike_59 g  (v0) (v1) (0) σ else s_Mo_strike_59 g  (v0) (v1) ((-1)) σ
def s_Mo_strike_108 (g : zG) (k71 : Nat → Int32 → Int32 → Int32 → zS → Option (Int32 × zS)) (v0 : Nat) (v1 : Int32) (v2 : Int32) (v3 : Int32) (σ : zS) : Option (Int32 × zS) := k71 (v0) (v1) (v2) (v3 + 1) σ
def s_Mo_strike_71 (g : zG)  : Nat → Nat → Int32 → Int32 → Int32 → zS → Option (Int32 × zS)
  | 0, _, _, _, _, _ => none
  | n + 1, v0, v1, v2, v3, σ => if 900 ≤ v3 then some (v2, σ) else (zgR σ v0 14 24).bind fun x2 => (x2).bind fun a4 => (zaI σ a4 2 (v3)).bind fun x5 => if x5 = 1 then (zgR σ v0 14 25).bind fun x8 => (x8).bind fun a10 => (zaI σ a10 2 (v3)).bind fun x11 => if x11 = v1 then (zgR σ v0 14 24).bind fun x14 => (x14).bind fun a16 => (zsI σ a16 2 (v3) (vp_nar .byte 4)).bind fun σ17 => s_Mo_strike_108 g (fun v0 v1 v2 v3 σ => s_Mo_strike_71 g  n v0 v1 v2 v3 σ) (v0) (v1) (v2 + 1) (v3) σ17 else s_Mo_strike_108 g (fun v0 v1 v2 v3 σ => s_Mo_strike_71 g  n v0 v1 v2 v3 σ) (v0) (v1) (v2) (v3) σ else s_Mo_strike_108 g (fun v0 v1 v2 v3 σ => s_Mo_strike_71 g  n v0 v1 v2 v3 σ) (v0) (v1) (v2) (v3) σ
def s_Mo_strike_18 (g : zG)  (v0 : Nat) (v1 : Int32) (w0 : Int32) (w1 : Option Nat) (σ : zS) : Option (Int32 × zS) := (w1).bind fun a1 => (zpF σ a1 14 0 (.int (w0))).bind fun σ2 => (zgI σ2 v0 14 0).bind fun x4 => if x4 = 1 then s_Mo_strike_46 g  (v0) (v1) σ2 else (zis σ2 v0 14).bind fun _ => (s_Mo_isBranch g v0 v1 σ2).bind fun (x9, σ7) => if x9 = 0 then s_Mo_strike_46 g  (v0) (v1) σ7 else (zgR σ7 v0 14 29).bind fun x11 => (x11).bind fun a13 => (zaI σ7 a13 3 (v1)).bind fun x14 => if x14 = 0 then (zgR σ7 v0 14 29).bind fun x17 => (x17).bind fun a19 => (zsI σ7 a19 3 (v1) (vp_nar .boolean 1)).bind fun σ20 => s_Mo_strike_71 g  zfuel (v0) (v1) (0) (0) σ20 else s_Mo_strike_46 g  (v0) (v1) σ7
def s_Mo_strike (g : zG) (v0 : Nat) (v1 : Int32) (σ : zS) : Option (Int32 × zS) := (zgR σ v0 14 2).bind fun x1 => (zgI σ v0 14 1).bind fun x3 => (x1).bind fun a5 => (zaI σ a5 3 (x3)).bind fun x6 => if x6 = 0 then s_Mo_strike_18 g  (v0) (v1) (0) (some (v0)) σ else s_Mo_strike_18 g  (v0) (v1) (1) (some (v0)) σ
set_option maxRecDepth 100000 in
theorem t_Mo_strike_59 {l : Launch} {D : zD} {g : zG} (hG : zGok g D) {q : Int32 × zS}   {v0 : Nat} {v1 : Int32} {w0 : Int32} {σ : zS} (h : s_Mo_strike_59 g  v0 v1 w0 σ = some q) : Z l D K_Mo_strike 1 21 (.returned (some (.int q.1)), q.2) 59 [(0, .ref (v0)), (1, .int (v1))] [.int (w0)] σ := by
  unfold s_Mo_strike_59 at h
  cases h
  exact z_iret rfl rfl d_Mo_strike_59
set_option maxRecDepth 100000 in
theorem t_Mo_strike_46 {l : Launch} {D : zD} {g : zG} (hG : zGok g D) {q : Int32 × zS}   {v0 : Nat} {v1 : Int32} {σ : zS} (h : s_Mo_strike_46 g  v0 v1 σ = some q) : Z l D K_Mo_strike 1 21 (.returned (some (.int q.1)), q.2) 46 [(0, .ref (v0)), (1, .int (v1))] [] σ := by
  unfold s_Mo_strike_46 at h
  refine z_aload_n 0 d_Mo_strike_46 rfl rfl ?_
  replace h := Option.bind_eq_some_iff.mp h; obtain ⟨x1, e2, h⟩ := h
  refine z_getI wF_NumberOfficeModel_120_14 d_Mo_strike_47 e2 ?_
  refine z_iconst (v := 1) d_Mo_strike_50 rfl ?_
  refine z_icmp_ne (tgt := 58) d_Mo_strike_51 rfl (fun c3 => ?_) (fun c3 => ?_)
  · rw [if_neg c3] at h
    refine z_iconst (v := (-1)) d_Mo_strike_58 rfl ?_
    refine z_lv (lv' := [(0, .ref (v0)), (1, .int (v1))]) [0, 1] rfl ?_
    exact t_Mo_strike_59 hG   h
  · rw [if_pos c3] at h
    refine z_iconst (v := 0) d_Mo_strike_54 rfl ?_
    refine z_goto (tgt := 59) d_Mo_strike_55 rfl ?_
    refine z_lv (lv' := [(0, .ref (v0)), (1, .int (v1))]) [0, 1] rfl ?_
    exact t_Mo_strike_59 hG   h
set_option maxRecDepth 100000 in
theorem t_Mo_strike_108 {l : Launch} {D : zD} {g : zG} (hG : zGok g D) {q : Int32 × zS} (k71 : Nat → Int32 → Int32 → Int32 → zS → Option (Int32 × zS)) (hk71 : ∀ {v0 : Nat} {v1 : Int32} {v2 : Int32} {v3 : Int32} {σ : zS}, k71 v0 v1 v2 v3 σ = some q → Z l D K_Mo_strike 1 21 (.returned (some (.int q.1)), q.2) 71 [(0, .ref (v0)), (1, .int (v1)), (2, .int (v2)), (3, .int (v3))] [] σ) {v0 : Nat} {v1 : Int32} {v2 : Int32} {v3 : Int32} {σ : zS} (h : s_Mo_strike_108 g k71 v0 v1 v2 v3 σ = some q) : Z l D K_Mo_strike 1 21 (.returned (some (.int q.1)), q.2) 108 [(0, .ref (v0)), (1, .int (v1)), (2, .int (v2)), (3, .int (v3))] [] σ := by
  unfold s_Mo_strike_108 at h
  refine z_iinc (v := v3 + 1) (lv' := [(3, .int (v3 + 1)), (0, .ref (v0)), (1, .int (v1)), (2, .int (v2))]) 3 d_Mo_strike_108 rfl rfl (by decide) rfl ?_
  refine z_goto (tgt := 71) d_Mo_strike_111 rfl ?_
  refine z_lv (lv' := [(0, .ref (v0)), (1, .int (v1)), (2, .int (v2)), (3, .int (v3 + 1))]) [1, 2, 3, 0] rfl ?_
  exact hk71 h
set_option maxRecDepth 100000 in
theorem t_Mo_strike_71 {l : Launch} {D : zD} {g : zG} (hG : zGok g D) {q : Int32 × zS}   : ∀ (n : Nat) {v0 : Nat} {v1 : Int32} {v2 : Int32} {v3 : Int32} {σ : zS}, s_Mo_strike_71 g  n v0 v1 v2 v3 σ = some q → Z l D K_Mo_strike 1 21 (.returned (some (.int q.1)), q.2) 71 [(0, .ref (v0)), (1, .int (v1)), (2, .int (v2)), (3, .int (v3))] [] σ := by
  intro n
  induction n with
  | zero =>
    intro v0 v1 v2 v3 σ h
    cases h
  | succ n ih =>
    intro v0 v1 v2 v3 σ h
    first | rw [s_Mo_strike_71] at h | (unfold s_Mo_strike_71 at h; dsimp only at h)
    refine z_iload_n 3 d_Mo_strike_71 rfl rfl ?_
    refine z_sipush (v := 900) d_Mo_strike_72 rfl ?_
    refine z_icmp_ge (tgt := 114) d_Mo_strike_75 rfl (fun c1 => ?_) (fun c1 => ?_)
    · rw [if_pos c1] at h
      refine z_iload_n 2 d_Mo_strike_114 rfl rfl ?_
      cases h
      exact z_iret rfl rfl d_Mo_strike_115
    · rw [if_neg c1] at h
      refine z_aload_n 0 d_Mo_strike_78 rfl rfl ?_
      replace h := Option.bind_eq_some_iff.mp h; obtain ⟨x2, e3, h⟩ := h
      refine z_getR wF_NumberOfficeModel_80_14 d_Mo_strike_79 e3 ?_
      refine z_iload_n 3 d_Mo_strike_82 rfl rfl ?_
      replace h := Option.bind_eq_some_iff.mp h; obtain ⟨a4, rfl, h⟩ := h
      replace h := Option.bind_eq_some_iff.mp h; obtain ⟨x5, e6, h⟩ := h
      refine z_baload rfl d_Mo_strike_83 e6 ?_
      refine z_iconst (v := 1) d_Mo_strike_84 rfl ?_
      refine z_icmp_ne (tgt := 108) d_Mo_strike_85 rfl (fun c7 => ?_) (fun c7 => ?_)
      · rw [if_neg c7] at h
        refine z_lv (lv' := [(0, .ref (v0)), (1, .int (v1)), (2, .int (v2)), (3, .int (v3))]) [0, 1, 2, 3] rfl ?_
        exact t_Mo_strike_108 hG _ (fun h => ih h) h
      · rw [if_pos c7] at h
        refine z_aload_n 0 d_Mo_strike_88 rfl rfl ?_
        replace h := Option.bind_eq_some_iff.mp h; obtain ⟨x8, e9, h⟩ := h
        refine z_getR wF_NumberOfficeModel_83_14 d_Mo_strike_89 e9 ?_
        refine z_iload_n 3 d_Mo_strike_92 rfl rfl ?_
        replace h := Option.bind_eq_some_iff.mp h; obtain ⟨a10, rfl, h⟩ := h
        replace h := Option.bind_eq_some_iff.mp h; obtain ⟨x11, e12, h⟩ := h
        refine z_baload rfl d_Mo_strike_93 e12 ?_
        refine z_iload_n 1 d_Mo_strike_94 rfl rfl ?_
        refine z_icmp_ne (tgt := 108) d_Mo_strike_95 rfl (fun c13 => ?_) (fun c13 => ?_)
        · rw [if_neg c13] at h
          refine z_lv (lv' := [(0, .ref (v0)), (1, .int (v1)), (2, .int (v2)), (3, .int (v3))]) [0, 1, 2, 3] rfl ?_
          exact t_Mo_strike_108 hG _ (fun h => ih h) h
        · rw [if_pos c13] at h
          refine z_aload_n 0 d_Mo_strike_98 rfl rfl ?_
          replace h := Option.bind_eq_some_iff.mp h; obtain ⟨x14, e15, h⟩ := h
          refine z_getR wF_NumberOfficeModel_80_14 d_Mo_strike_99 e15 ?_
          refine z_iload_n 3 d_Mo_strike_102 rfl rfl ?_
          refine z_iconst (v := 4) d_Mo_strike_103 rfl ?_
          replace h := Option.bind_eq_some_iff.mp h; obtain ⟨a16, rfl, h⟩ := h
          replace h := Option.bind_eq_some_iff.mp h; obtain ⟨σ17, e18, h⟩ := h
          refine z_bastore rfl d_Mo_strike_104 e18 ?_
          refine z_iinc (v := v2 + 1) (lv' := [(2, .int (v2 + 1)), (0, .ref (v0)), (1, .int (v1)), (3, .int (v3))]) 2 d_Mo_strike_105 rfl rfl (by decide) rfl ?_
          refine z_lv (lv' := [(0, .ref (v0)), (1, .int (v1)), (2, .int (v2 + 1)), (3, .int (v3))]) [1, 2, 0, 3] rfl ?_
          exact t_Mo_strike_108 hG _ (fun h => ih h) h
set_option maxRecDepth 100000 in
theorem t_Mo_strike_18 {l : Launch} {D : zD} {g : zG} (hG : zGok g D) {q : Int32 × zS}   {v0 : Nat} {v1 : Int32} {w0 : Int32} {w1 : Option Nat} {σ : zS} (h : s_Mo_strike_18 g  v0 v1 w0 w1 σ = some q) : Z l D K_Mo_strike 1 21 (.returned (some (.int q.1)), q.2) 18 [(0, .ref (v0)), (1, .int (v1))] [.int (w0), va_rf (w1)] σ := by
  unfold s_Mo_strike_18 at h
  replace h := Option.bind_eq_some_iff.mp h; obtain ⟨a1, rfl, h⟩ := h
  replace h := Option.bind_eq_some_iff.mp h; obtain ⟨σ2, e3, h⟩ := h
  refine z_put wP_NumberOfficeModel_120_14 (fun q => by cases q) d_Mo_strike_18 rfl rfl e3 ?_
  refine z_aload_n 0 d_Mo_strike_21 rfl rfl ?_
  replace h := Option.bind_eq_some_iff.mp h; obtain ⟨x4, e5, h⟩ := h
  refine z_getI wF_NumberOfficeModel_120_14 d_Mo_strike_22 e5 ?_
  refine z_iconst (v := 1) d_Mo_strike_25 rfl ?_
  refine z_icmp_eq (tgt := 46) d_Mo_strike_26 rfl (fun c6 => ?_) (fun c6 => ?_)
  · rw [if_pos c6] at h
    refine z_lv (lv' := [(0, .ref (v0)), (1, .int (v1))]) [0, 1] rfl ?_
    exact t_Mo_strike_46 hG   h
  · rw [if_neg c6] at h
    refine z_aload_n 0 d_Mo_strike_29 rfl rfl ?_
    refine z_iload_n 1 d_Mo_strike_30 rfl rfl ?_
    replace h := Option.bind_eq_some_iff.mp h; obtain ⟨_, e22, h⟩ := h
    obtain ⟨b23, f24, e22⟩ := zcls_at (zis_at e22)
    replace h := Option.bind_eq_some_iff.mp h; obtain ⟨⟨x9, σ7⟩, e8, h⟩ := h
    dsimp only at h
    refine z_callV (av := [.int (v1)]) (st := []) wV_NumberOfficeModel_163 e22 (t_Mo_isBranch hG e8) (by decide) (by decide) d_Mo_strike_31 (by simp [z_rfc, z_ci, z_cl, z_cr, z_cn]) ?_
    show Z _ _ _ _ _ _ 34 [(0, .ref (v0)), (1, .int (v1))] [.int (x9)] _
    refine z_if_eq (tgt := 46) d_Mo_strike_34 rfl (fun c10 => ?_) (fun c10 => ?_)
    · rw [if_pos c10] at h
      refine z_lv (lv' := [(0, .ref (v0)), (1, .int (v1))]) [0, 1] rfl ?_
      exact t_Mo_strike_46 hG   h
    · rw [if_neg c10] at h
      refine z_aload_n 0 d_Mo_strike_37 rfl rfl ?_
      replace h := Option.bind_eq_some_iff.mp h; obtain ⟨x11, e12, h⟩ := h
      refine z_getR wF_NumberOfficeModel_95_14 d_Mo_strike_38 e12 ?_
      refine z_iload_n 1 d_Mo_strike_41 rfl rfl ?_
      replace h := Option.bind_eq_some_iff.mp h; obtain ⟨a13, rfl, h⟩ := h
      replace h := Option.bind_eq_some_iff.mp h; obtain ⟨x14, e15, h⟩ := h
      refine z_zaload rfl d_Mo_strike_42 e15 ?_
      refine z_if_eq (tgt := 60) d_Mo_strike_43 rfl (fun c16 => ?_) (fun c16 => ?_)
      · rw [if_pos c16] at h
        refine z_aload_n 0 d_Mo_strike_60 rfl rfl ?_
        replace h := Option.bind_eq_some_iff.mp h; obtain ⟨x17, e18, h⟩ := h
        refine z_getR wF_NumberOfficeModel_95_14 d_Mo_strike_61 e18 ?_
        refine z_iload_n 1 d_Mo_strike_64 rfl rfl ?_
        refine z_iconst (v := 1) d_Mo_strike_65 rfl ?_
        replace h := Option.bind_eq_some_iff.mp h; obtain ⟨a19, rfl, h⟩ := h
        replace h := Option.bind_eq_some_iff.mp h; obtain ⟨σ20, e21, h⟩ := h
        refine z_zastore rfl d_Mo_strike_66 e21 ?_
        refine z_iconst (v := 0) d_Mo_strike_67 rfl ?_
        refine z_istore_n (j := 2) (lv' := [(2, .int (0)), (0, .ref (v0)), (1, .int (v1))]) d_Mo_strike_68 rfl (by decide) rfl ?_
        refine z_iconst (v := 0) d_Mo_strike_69 rfl ?_
        refine z_istore_n (j := 3) (lv' := [(3, .int (0)), (2, .int (0)), (0, .ref (v0)), (1, .int (v1))]) d_Mo_strike_70 rfl (by decide) rfl ?_
        refine z_lv (lv' := [(0, .ref (v0)), (1, .int (v1)), (2, .int (0)), (3, .int (0))]) [2, 3, 1, 0] rfl ?_
        exact t_Mo_strike_71 hG   zfuel h
      · rw [if_neg c16] at h
        refine z_lv (lv' := [(0, .ref (v0)), (1, .int (v1))]) [0, 1] rfl ?_
        exact t_Mo_strike_46 hG   h
set_option maxRecDepth 100000 in
theorem t_Mo_strike {l : Launch} {D : zD} {g : zG} (hG : zGok g D) {v0 : Nat} {v1 : Int32} {σ : zS} {q : Int32 × zS} (h : s_Mo_strike g v0 v1 σ = some q) : zMet l D Y_Mo_strike K_Mo_strike 1 21 [.ref (v0), .int (v1)] σ (.returned (some (.int q.1)), q.2) := by
  refine zMet.ofZ (by decide) rfl (fun q => by cases q) (Nat.le_of_ble_eq_true rfl) ?_
  show Z _ _ _ _ _ _ 0 [(0, .ref (v0)), (1, .int (v1))] [] _
  unfold s_Mo_strike at h
  refine z_aload_n 0 d_Mo_strike_0 rfl rfl ?_
  refine z_aload_n 0 d_Mo_strike_1 rfl rfl ?_
  replace h := Option.bind_eq_some_iff.mp h; obtain ⟨x1, e2, h⟩ := h
  refine z_getR wF_NumberOfficeModel_7_14 d_Mo_strike_2 e2 ?_
  refine z_aload_n 0 d_Mo_strike_5 rfl rfl ?_
  replace h := Option.bind_eq_some_iff.mp h; obtain ⟨x3, e4, h⟩ := h
  refine z_getI wF_NumberOfficeModel_116_14 d_Mo_strike_6 e4 ?_
  replace h := Option.bind_eq_some_iff.mp h; obtain ⟨a5, rfl, h⟩ := h
  replace h := Option.bind_eq_some_iff.mp h; obtain ⟨x6, e7, h⟩ := h
  refine z_zaload rfl d_Mo_strike_9 e7 ?_
  refine z_if_eq (tgt := 17) d_Mo_strike_10 rfl (fun c8 => ?_) (fun c8 => ?_)
  · rw [if_pos c8] at h
    refine z_iconst (v := 0) d_Mo_strike_17 rfl ?_
    refine z_lv (lv' := [(0, .ref (v0)), (1, .int (v1))]) [0, 1] rfl ?_
    exact t_Mo_strike_18 hG   h
  · rw [if_neg c8] at h
    refine z_iconst (v := 1) d_Mo_strike_13 rfl ?_
    refine z_goto (tgt := 18) d_Mo_strike_14 rfl ?_
    refine z_lv (lv' := [(0, .ref (v0)), (1, .int (v1))]) [0, 1] rfl ?_
    exact t_Mo_strike_18 hG   h

def s_Mo_at (g : zG) (v0 : Nat) (v1 : Int32) (v2 : Int32) (σ : zS) : Option (Int32 × zS) := some (((300 * v1) + v2) - 1, σ)
set_option maxRecDepth 100000 in
theorem t_Mo_at {l : Launch} {D : zD} {g : zG} (hG : zGok g D) {v0 : Nat} {v1 : Int32} {v2 : Int32} {σ : zS} {q : Int32 × zS} (h : s_Mo_at g v0 v1 v2 σ = some q) : zMet l D Y_Mo_at K_Mo_at 0 0 [.ref (v0), .int (v1), .int (v2)] σ (.returned (some (.int q.1)), q.2) := by
  refine zMet.ofZ (by decide) rfl (fun q => by cases q) (Nat.le_of_ble_eq_true rfl) ?_
  show Z _ _ _ _ _ _ 0 [(0, .ref (v0)), (1, .int (v1)), (2, .int (v2))] [] _
  unfold s_Mo_at at h
  refine z_sipush (v := 300) d_Mo_at_0 rfl ?_
  refine z_iload_n 1 d_Mo_at_3 rfl rfl ?_
  refine z_imul d_Mo_at_4 ?_
  refine z_iload_n 2 d_Mo_at_5 rfl rfl ?_
  refine z_iadd d_Mo_at_6 ?_
  refine z_iconst (v := 1) d_Mo_at_7 rfl ?_
  refine z_isub d_Mo_at_8 ?_
  cases h
  exact z_iret rfl rfl d_Mo_at_9

def s_Mo_isSide_17 (g : zG)  (v0 : Nat) (v1 : Int32) (w0 : Int32) (σ : zS) : Option (Int32 × zS) := if w0 = 0 ∨ w0 = 1 then some (w0, σ) else none
def s_Mo_isSide_16 (g : zG)  (v0 : Nat) (v1 : Int32) (σ : zS) : Option (Int32 × zS) := s_Mo_isSide_17 g  (v0) (v1) (0) σ
def s_Mo_isSide (g : zG) (v0 : Nat) (v1 : Int32) (σ : zS) : Option (Int32 × zS) := if v1 < 0 then s_Mo_isSide_16 g  (v0) (v1) σ else (zgI σ v0 14 1).bind fun x2 => if x2 < v1 then s_Mo_isSide_16 g  (v0) (v1) σ else s_Mo_isSide_17 g  (v0) (v1) (1) σ
set_option maxRecDepth 100000 in
theorem t_Mo_isSide_17 {l : Launch} {D : zD} {g : zG} (hG : zGok g D) {q : Int32 × zS}   {v0 : Nat} {v1 : Int32} {w0 : Int32} {σ : zS} (h : s_Mo_isSide_17 g  v0 v1 w0 σ = some q) : Z l D K_Mo_isSide 0 0 (.returned (some (.int q.1)), q.2) 17 [(0, .ref (v0)), (1, .int (v1))] [.int (w0)] σ := by
  unfold s_Mo_isSide_17 at h
  by_cases c1 : w0 = 0 ∨ w0 = 1
  rotate_left
  · rw [if_neg c1] at h; cases h
  rw [if_pos c1] at h
  cases h
  exact z_zret rfl (z_nb c1) rfl d_Mo_isSide_17
set_option maxRecDepth 100000 in
theorem t_Mo_isSide_16 {l : Launch} {D : zD} {g : zG} (hG : zGok g D) {q : Int32 × zS}   {v0 : Nat} {v1 : Int32} {σ : zS} (h : s_Mo_isSide_16 g  v0 v1 σ = some q) : Z l D K_Mo_isSide 0 0 (.returned (some (.int q.1)), q.2) 16 [(0, .ref (v0)), (1, .int (v1))] [] σ := by
  unfold s_Mo_isSide_16 at h
  refine z_iconst (v := 0) d_Mo_isSide_16 rfl ?_
  refine z_lv (lv' := [(0, .ref (v0)), (1, .int (v1))]) [0, 1] rfl ?_
  exact t_Mo_isSide_17 hG   h
set_option maxRecDepth 100000 in
theorem t_Mo_isSide {l : Launch} {D : zD} {g : zG} (hG : zGok g D) {v0 : Nat} {v1 : Int32} {σ : zS} {q : Int32 × zS} (h : s_Mo_isSide g v0 v1 σ = some q) : zMet l D Y_Mo_isSide K_Mo_isSide 0 0 [.ref (v0), .int (v1)] σ (.returned (some (.int q.1)), q.2) := by
  refine zMet.ofZ (by decide) rfl (fun q => by cases q) (Nat.le_of_ble_eq_true rfl) ?_
  show Z _ _ _ _ _ _ 0 [(0, .ref (v0)), (1, .int (v1))] [] _
  unfold s_Mo_isSide at h
  refine z_iload_n 1 d_Mo_isSide_0 rfl rfl ?_
  refine z_if_lt (tgt := 16) d_Mo_isSide_1 rfl (fun c1 => ?_) (fun c1 => ?_)
  · rw [if_pos c1] at h
    refine z_lv (lv' := [(0, .ref (v0)), (1, .int (v1))]) [0, 1] rfl ?_
    exact t_Mo_isSide_16 hG   h
  · rw [if_neg c1] at h
    refine z_iload_n 1 d_Mo_isSide_4 rfl rfl ?_
    refine z_aload_n 0 d_Mo_isSide_5 rfl rfl ?_
    replace h := Option.bind_eq_some_iff.mp h; obtain ⟨x2, e3, h⟩ := h
    refine z_getI wF_NumberOfficeModel_116_14 d_Mo_isSide_6 e3 ?_
    refine z_icmp_gt (tgt := 16) d_Mo_isSide_9 rfl (fun c4 => ?_) (fun c4 => ?_)
    · rw [if_pos c4] at h
      refine z_lv (lv' := [(0, .ref (v0)), (1, .int (v1))]) [0, 1] rfl ?_
      exact t_Mo_isSide_16 hG   h
    · rw [if_neg c4] at h
      refine z_iconst (v := 1) d_Mo_isSide_12 rfl ?_
      refine z_goto (tgt := 17) d_Mo_isSide_13 rfl ?_
      refine z_lv (lv' := [(0, .ref (v0)), (1, .int (v1))]) [0, 1] rfl ?_
      exact t_Mo_isSide_17 hG   h

def s_Mo_letters (g : zG) (v0 : Nat) (σ : zS) : Option (Int32 × zS) := (zpF σ v0 14 0 (.int (0))).bind fun σ1 => (zgI σ1 v0 14 34).bind fun x3 => some (x3, σ1)
set_option maxRecDepth 100000 in
theorem t_Mo_letters {l : Launch} {D : zD} {g : zG} (hG : zGok g D) {v0 : Nat} {σ : zS} {q : Int32 × zS} (h : s_Mo_letters g v0 σ = some q) : zMet l D Y_Mo_letters K_Mo_letters 0 0 [.ref (v0)] σ (.returned (some (.int q.1)), q.2) := by
  refine zMet.ofZ (by decide) rfl (fun q => by cases q) (Nat.le_of_ble_eq_true rfl) ?_
  show Z _ _ _ _ _ _ 0 [(0, .ref (v0))] [] _
  unfold s_Mo_letters at h
  refine z_aload_n 0 d_Mo_letters_0 rfl rfl ?_
  refine z_iconst (v := 0) d_Mo_letters_1 rfl ?_
  replace h := Option.bind_eq_some_iff.mp h; obtain ⟨σ1, e2, h⟩ := h
  refine z_put wP_NumberOfficeModel_120_14 (fun q => by cases q) d_Mo_letters_2 rfl rfl e2 ?_
  refine z_aload_n 0 d_Mo_letters_5 rfl rfl ?_
  replace h := Option.bind_eq_some_iff.mp h; obtain ⟨x3, e4, h⟩ := h
  refine z_getI wF_NumberOfficeModel_133_14 d_Mo_letters_6 e4 ?_
  cases h
  exact z_iret rfl rfl d_Mo_letters_9

def s_Mo_isLetter_17 (g : zG)  (v0 : Nat) (v1 : Int32) (w0 : Int32) (σ : zS) : Option (Int32 × zS) := if w0 = 0 ∨ w0 = 1 then some (w0, σ) else none
def s_Mo_isLetter_16 (g : zG)  (v0 : Nat) (v1 : Int32) (σ : zS) : Option (Int32 × zS) := s_Mo_isLetter_17 g  (v0) (v1) (0) σ
def s_Mo_isLetter (g : zG) (v0 : Nat) (v1 : Int32) (σ : zS) : Option (Int32 × zS) := if v1 < 0 then s_Mo_isLetter_16 g  (v0) (v1) σ else (zgI σ v0 14 34).bind fun x2 => if x2 ≤ v1 then s_Mo_isLetter_16 g  (v0) (v1) σ else s_Mo_isLetter_17 g  (v0) (v1) (1) σ
set_option maxRecDepth 100000 in
theorem t_Mo_isLetter_17 {l : Launch} {D : zD} {g : zG} (hG : zGok g D) {q : Int32 × zS}   {v0 : Nat} {v1 : Int32} {w0 : Int32} {σ : zS} (h : s_Mo_isLetter_17 g  v0 v1 w0 σ = some q) : Z l D K_Mo_isLetter 0 0 (.returned (some (.int q.1)), q.2) 17 [(0, .ref (v0)), (1, .int (v1))] [.int (w0)] σ := by
  unfold s_Mo_isLetter_17 at h
  by_cases c1 : w0 = 0 ∨ w0 = 1
  rotate_left
  · rw [if_neg c1] at h; cases h
  rw [if_pos c1] at h
  cases h
  exact z_zret rfl (z_nb c1) rfl d_Mo_isLetter_17
set_option maxRecDepth 100000 in
theorem t_Mo_isLetter_16 {l : Launch} {D : zD} {g : zG} (hG : zGok g D) {q : Int32 × zS}   {v0 : Nat} {v1 : Int32} {σ : zS} (h : s_Mo_isLetter_16 g  v0 v1 σ = some q) : Z l D K_Mo_isLetter 0 0 (.returned (some (.int q.1)), q.2) 16 [(0, .ref (v0)), (1, .int (v1))] [] σ := by
  unfold s_Mo_isLetter_16 at h
  refine z_iconst (v := 0) d_Mo_isLetter_16 rfl ?_
  refine z_lv (lv' := [(0, .ref (v0)), (1, .int (v1))]) [0, 1] rfl ?_
  exact t_Mo_isLetter_17 hG   h
set_option maxRecDepth 100000 in
theorem t_Mo_isLetter {l : Launch} {D : zD} {g : zG} (hG : zGok g D) {v0 : Nat} {v1 : Int32} {σ : zS} {q : Int32 × zS} (h : s_Mo_isLetter g v0 v1 σ = some q) : zMet l D Y_Mo_isLetter K_Mo_isLetter 0 0 [.ref (v0), .int (v1)] σ (.returned (some (.int q.1)), q.2) := by
  refine zMet.ofZ (by decide) rfl (fun q => by cases q) (Nat.le_of_ble_eq_true rfl) ?_
  show Z _ _ _ _ _ _ 0 [(0, .ref (v0)), (1, .int (v1))] [] _
  unfold s_Mo_isLetter at h
  refine z_iload_n 1 d_Mo_isLetter_0 rfl rfl ?_
  refine z_if_lt (tgt := 16) d_Mo_isLetter_1 rfl (fun c1 => ?_) (fun c1 => ?_)
  · rw [if_pos c1] at h
    refine z_lv (lv' := [(0, .ref (v0)), (1, .int (v1))]) [0, 1] rfl ?_
    exact t_Mo_isLetter_16 hG   h
  · rw [if_neg c1] at h
    refine z_iload_n 1 d_Mo_isLetter_4 rfl rfl ?_
    refine z_aload_n 0 d_Mo_isLetter_5 rfl rfl ?_
    replace h := Option.bind_eq_some_iff.mp h; obtain ⟨x2, e3, h⟩ := h
    refine z_getI wF_NumberOfficeModel_133_14 d_Mo_isLetter_6 e3 ?_
    refine z_icmp_ge (tgt := 16) d_Mo_isLetter_9 rfl (fun c4 => ?_) (fun c4 => ?_)
    · rw [if_pos c4] at h
      refine z_lv (lv' := [(0, .ref (v0)), (1, .int (v1))]) [0, 1] rfl ?_
      exact t_Mo_isLetter_16 hG   h
    · rw [if_neg c4] at h
      refine z_iconst (v := 1) d_Mo_isLetter_12 rfl ?_
      refine z_goto (tgt := 17) d_Mo_isLetter_13 rfl ?_
      refine z_lv (lv' := [(0, .ref (v0)), (1, .int (v1))]) [0, 1] rfl ?_
      exact t_Mo_isLetter_17 hG   h

def s_Mo_remove_15 (g : zG)  : Nat → Nat → Int32 → Int32 → zS → Option (zS)
  | 0, _, _, _, _ => none
  | n + 1, v0, v1, v2, σ => (zgI σ v0 14 34).bind fun x1 => if (8 * x1) ≤ v2 then some σ else (zgR σ v0 14 35).bind fun x4 => (zgR σ v0 14 35).bind fun x6 => (x6).bind fun a8 => (zaI σ a8 0 (v2 + 8)).bind fun x9 => (x4).bind fun a11 => (zsI σ a11 0 (v2) (x9)).bind fun σ12 => s_Mo_remove_15 g  n (v0) (v1) (v2 + 1) σ12
def s_Mo_remove (g : zG) (v0 : Nat) (v1 : Int32) (σ : zS) : Option (zS) := (zgI σ v0 14 34).bind fun x1 => (zpF σ v0 14 34 (.int (x1 - 1))).bind fun σ3 => s_Mo_remove_15 g  zfuel (v0) (v1) (8 * v1) σ3
set_option maxRecDepth 100000 in
theorem t_Mo_remove_15 {l : Launch} {D : zD} {g : zG} (hG : zGok g D) {q : zS}   : ∀ (n : Nat) {v0 : Nat} {v1 : Int32} {v2 : Int32} {σ : zS}, s_Mo_remove_15 g  n v0 v1 v2 σ = some q → Z l D K_Mo_remove 0 0 (.returned none, q) 15 [(0, .ref (v0)), (1, .int (v1)), (2, .int (v2))] [] σ := by
  intro n
  induction n with
  | zero =>
    intro v0 v1 v2 σ h
    cases h
  | succ n ih =>
    intro v0 v1 v2 σ h
    first | rw [s_Mo_remove_15] at h | (unfold s_Mo_remove_15 at h; dsimp only at h)
    refine z_iload_n 2 d_Mo_remove_15 rfl rfl ?_
    refine z_bipush (v := 8) d_Mo_remove_16 rfl ?_
    refine z_aload_n 0 d_Mo_remove_18 rfl rfl ?_
    replace h := Option.bind_eq_some_iff.mp h; obtain ⟨x1, e2, h⟩ := h
    refine z_getI wF_NumberOfficeModel_133_14 d_Mo_remove_19 e2 ?_
    refine z_imul d_Mo_remove_22 ?_
    refine z_icmp_ge (tgt := 47) d_Mo_remove_23 rfl (fun c3 => ?_) (fun c3 => ?_)
    · rw [if_pos c3] at h
      cases h
      exact z_vret rfl rfl d_Mo_remove_47
    · rw [if_neg c3] at h
      refine z_aload_n 0 d_Mo_remove_26 rfl rfl ?_
      replace h := Option.bind_eq_some_iff.mp h; obtain ⟨x4, e5, h⟩ := h
      refine z_getR wF_NumberOfficeModel_110_14 d_Mo_remove_27 e5 ?_
      refine z_iload_n 2 d_Mo_remove_30 rfl rfl ?_
      refine z_aload_n 0 d_Mo_remove_31 rfl rfl ?_
      replace h := Option.bind_eq_some_iff.mp h; obtain ⟨x6, e7, h⟩ := h
      refine z_getR wF_NumberOfficeModel_110_14 d_Mo_remove_32 e7 ?_
      refine z_iload_n 2 d_Mo_remove_35 rfl rfl ?_
      refine z_bipush (v := 8) d_Mo_remove_36 rfl ?_
      refine z_iadd d_Mo_remove_38 ?_
      replace h := Option.bind_eq_some_iff.mp h; obtain ⟨a8, rfl, h⟩ := h
      replace h := Option.bind_eq_some_iff.mp h; obtain ⟨x9, e10, h⟩ := h
      refine z_iaload rfl d_Mo_remove_39 e10 ?_
      replace h := Option.bind_eq_some_iff.mp h; obtain ⟨a11, rfl, h⟩ := h
      replace h := Option.bind_eq_some_iff.mp h; obtain ⟨σ12, e13, h⟩ := h
      refine z_iastore rfl d_Mo_remove_40 e13 ?_
      refine z_iinc (v := v2 + 1) (lv' := [(2, .int (v2 + 1)), (0, .ref (v0)), (1, .int (v1))]) 2 d_Mo_remove_41 rfl rfl (by decide) rfl ?_
      refine z_goto (tgt := 15) d_Mo_remove_44 rfl ?_
      refine z_lv (lv' := [(0, .ref (v0)), (1, .int (v1)), (2, .int (v2 + 1))]) [1, 2, 0] rfl ?_
      exact ih h
set_option maxRecDepth 100000 in
theorem t_Mo_remove {l : Launch} {D : zD} {g : zG} (hG : zGok g D) {v0 : Nat} {v1 : Int32} {σ : zS} {q : zS} (h : s_Mo_remove g v0 v1 σ = some q) : zMet l D Y_Mo_remove K_Mo_remove 0 0 [.ref (v0), .int (v1)] σ (.returned none, q) := by
  refine zMet.ofZ (by decide) rfl (fun q => by cases q) (Nat.le_of_ble_eq_true rfl) ?_
  show Z _ _ _ _ _ _ 0 [(0, .ref (v0)), (1, .int (v1))] [] _
  unfold s_Mo_remove at h
  refine z_aload_n 0 d_Mo_remove_0 rfl rfl ?_
  refine z_dup d_Mo_remove_1 rfl ?_
  replace h := Option.bind_eq_some_iff.mp h; obtain ⟨x1, e2, h⟩ := h
  refine z_getI wF_NumberOfficeModel_133_14 d_Mo_remove_2 e2 ?_
  refine z_iconst (v := 1) d_Mo_remove_5 rfl ?_
  refine z_isub d_Mo_remove_6 ?_
  replace h := Option.bind_eq_some_iff.mp h; obtain ⟨σ3, e4, h⟩ := h
  refine z_put wP_NumberOfficeModel_133_14 (fun q => by cases q) d_Mo_remove_7 rfl rfl e4 ?_
  refine z_bipush (v := 8) d_Mo_remove_10 rfl ?_
  refine z_iload_n 1 d_Mo_remove_12 rfl rfl ?_
  refine z_imul d_Mo_remove_13 ?_
  refine z_istore_n (j := 2) (lv' := [(2, .int (8 * v1)), (0, .ref (v0)), (1, .int (v1))]) d_Mo_remove_14 rfl (by decide) rfl ?_
  refine z_lv (lv' := [(0, .ref (v0)), (1, .int (v1)), (2, .int (8 * v1))]) [1, 2, 0] rfl ?_
  exact t_Mo_remove_15 hG   zfuel h

def s_Mo_answered_19 (g : zG)  (v0 : Nat) (v1 : Int32) (v2 : Int32) (v3 : Int32) (v4 : Int32) (v5 : Int32) (σ : zS) : Option (zS) := some σ
def s_Mo_answered_178 (g : zG)  (v0 : Nat) (v1 : Int32) (v2 : Int32) (v3 : Int32) (v4 : Int32) (v5 : Int32) (v6 : Int32) (σ : zS) : Option (zS) := some σ
def s_Mo_answered_52 (g : zG)  : Nat → Nat → Int32 → Int32 → Int32 → Int32 → Int32 → Int32 → Int32 → zS → Option (zS)
  | 0, _, _, _, _, _, _, _, _, _ => none
  | n + 1, v0, v1, v2, v3, v4, v5, v6, v7, σ => if v5 ≤ v7 then (zgR σ v0 14 5).bind fun x2 => (x2).bind fun a4 => (zaI σ a4 0 (v6)).bind fun x5 => (zsI σ a4 0 (v6) (x5 + 1)).bind fun σ7 => s_Mo_answered_178 g  (v0) (v1) (v2) (v3) (v4) (v5) (v6) σ7 else (zgR σ v0 14 3).bind fun x9 => (x9).bind fun a11 => (zaI σ a11 0 (v6)).bind fun x12 => (zgR σ v0 14 8).bind fun x14 => (x14).bind fun a16 => (zsI σ a16 5 ((300 * v6) + x12) (vp_nar .short ((v4 + v7 : Int32).toInt16.toInt32))).bind fun σ17 => (zgR σ17 v0 14 9).bind fun x19 => (zgR σ17 v0 14 5).bind fun x21 => (x21).bind fun a23 => (zaI σ17 a23 0 (v6)).bind fun x24 => (x19).bind fun a26 => (zsI σ17 a26 5 ((300 * v6) + x12) (vp_nar .short (x24.toInt16.toInt32))).bind fun σ27 => (zgR σ27 v0 14 10).bind fun x29 => (x29).bind fun a31 => (zsI σ27 a31 2 ((300 * v6) + x12) (vp_nar .byte 1)).bind fun σ32 => (zgR σ32 v0 14 3).bind fun x34 => (x34).bind fun a36 => (zaI σ32 a36 0 (v6)).bind fun x37 => (zsI σ32 a36 0 (v6) (x37 + 1)).bind fun σ39 => s_Mo_answered_52 g  n (v0) (v1) (v2) (v3) (v4) (v5) (v6) (v7 + 1) σ39
def s_Mo_answered_142 (g : zG)  (v0 : Nat) (v1 : Int32) (v2 : Int32) (v3 : Int32) (v4 : Int32) (v5 : Int32) (v6 : Int32) (σ : zS) : Option (zS) := if v3 = 2 then (zgR σ v0 14 7).bind fun x8 => (x8).bind fun a10 => (zaI σ a10 0 (v6)).bind fun x11 => (zgR σ v0 14 18).bind fun x13 => (x13).bind fun a15 => (zaI σ a15 0 (v1)).bind fun x16 => (zsI σ a10 0 (v6) (x11 + x16)).bind fun σ18 => s_Mo_answered_178 g  (v0) (v1) (v2) (v3) (v4) (v5) (v6) σ18 else if v3 = 3 then (zgR σ v0 14 20).bind fun x3 => (x3).bind fun a5 => (zsI σ a5 3 (v1) (vp_nar .boolean 1)).bind fun σ6 => s_Mo_answered_178 g  (v0) (v1) (v2) (v3) (v4) (v5) (v6) σ6 else s_Mo_answered_178 g  (v0) (v1) (v2) (v3) (v4) (v5) (v6) σ
def s_Mo_answered (g : zG) (v0 : Nat) (v1 : Int32) (v2 : Int32) (v3 : Int32) (v4 : Int32) (v5 : Int32) (σ : zS) : Option (zS) := (zgR σ v0 14 19).bind fun x1 => (x1).bind fun a3 => (zaI σ a3 3 (v1)).bind fun x4 => if x4 = 0 then s_Mo_answered_19 g  (v0) (v1) (v2) (v3) (v4) (v5) σ else (zgR σ v0 14 15).bind fun x7 => (x7).bind fun a9 => (zaI σ a9 0 (v1)).bind fun x10 => if x10 = v2 then (zgR σ v0 14 19).bind fun x13 => (x13).bind fun a15 => (zsI σ a15 3 (v1) (vp_nar .boolean 0)).bind fun σ16 => (zgR σ16 v0 14 17).bind fun x18 => (x18).bind fun a20 => (zaI σ16 a20 0 (v1)).bind fun x21 => if v3 = 1 then if v5 ≤ 0 then s_Mo_answered_142 g  (v0) (v1) (v2) (v3) (v4) (v5) ((3 * v1) + x21) σ16 else s_Mo_answered_52 g  zfuel (v0) (v1) (v2) (v3) (v4) (v5) ((3 * v1) + x21) (0) σ16 else s_Mo_answered_142 g  (v0) (v1) (v2) (v3) (v4) (v5) ((3 * v1) + x21) σ16 else s_Mo_answered_19 g  (v0) (v1) (v2) (v3) (v4) (v5) σ
set_option maxRecDepth 100000 in
theorem t_Mo_answered_19 {l : Launch} {D : zD} {g : zG} (hG : zGok g D) {q : zS}   {v0 : Nat} {v1 : Int32} {v2 : Int32} {v3 : Int32} {v4 : Int32} {v5 : Int32} {σ : zS} (h : s_Mo_answered_19 g  v0 v1 v2 v3 v4 v5 σ = some q) : Z l D K_Mo_answered 0 0 (.returned none, q) 19 [(0, .ref (v0)), (1, .int (v1)), (2, .int (v2)), (3, .int (v3)), (4, .int (v4)), (5, .int (v5))] [] σ := by
  unfold s_Mo_answered_19 at h
  cases h
  exact z_vret rfl rfl d_Mo_answered_19
set_option maxRecDepth 100000 in
theorem t_Mo_answered_178 {l : Launch} {D : zD} {g : zG} (hG : zGok g D) {q : zS}   {v0 : Nat} {v1 : Int32} {v2 : Int32} {v3 : Int32} {v4 : Int32} {v5 : Int32} {v6 : Int32} {σ : zS} (h : s_Mo_answered_178 g  v0 v1 v2 v3 v4 v5 v6 σ = some q) : Z l D K_Mo_answered 0 0 (.returned none, q) 178 [(0, .ref (v0)), (1, .int (v1)), (2, .int (v2)), (3, .int (v3)), (4, .int (v4)), (5, .int (v5)), (6, .int (v6))] [] σ := by
  unfold s_Mo_answered_178 at h
  cases h
  exact z_vret rfl rfl d_Mo_answered_178
set_option maxRecDepth 100000 in
theorem t_Mo_answered_52 {l : Launch} {D : zD} {g : zG} (hG : zGok g D) {q : zS}   : ∀ (n : Nat) {v0 : Nat} {v1 : Int32} {v2 : Int32} {v3 : Int32} {v4 : Int32} {v5 : Int32} {v6 : Int32} {v7 : Int32} {σ : zS}, s_Mo_answered_52 g  n v0 v1 v2 v3 v4 v5 v6 v7 σ = some q → Z l D K_Mo_answered 0 0 (.returned none, q) 52 [(0, .ref (v0)), (1, .int (v1)), (2, .int (v2)), (3, .int (v3)), (4, .int (v4)), (5, .int (v5)), (6, .int (v6)), (7, .int (v7))] [] σ := by
  intro n
  induction n with
  | zero =>
    intro v0 v1 v2 v3 v4 v5 v6 v7 σ h
    cases h
  | succ n ih =>
    intro v0 v1 v2 v3 v4 v5 v6 v7 σ h
    first | rw [s_Mo_answered_52] at h | (unfold s_Mo_answered_52 at h; dsimp only at h)
    refine z_iload 7 d_Mo_answered_52 rfl ?_
    refine z_iload 5 d_Mo_answered_54 rfl ?_
    refine z_icmp_ge (tgt := 128) d_Mo_answered_56 rfl (fun c1 => ?_) (fun c1 => ?_)
    · rw [if_pos c1] at h
      refine z_aload_n 0 d_Mo_answered_128 rfl rfl ?_
      replace h := Option.bind_eq_some_iff.mp h; obtain ⟨x2, e3, h⟩ := h
      refine z_getR wF_NumberOfficeModel_20_14 d_Mo_answered_129 e3 ?_
      refine z_iload 6 d_Mo_answered_132 rfl ?_
      refine z_dup2 d_Mo_answered_134 rfl (z_rfc _) ?_
      replace h := Option.bind_eq_some_iff.mp h; obtain ⟨a4, rfl, h⟩ := h
      replace h := Option.bind_eq_some_iff.mp h; obtain ⟨x5, e6, h⟩ := h
      refine z_iaload rfl d_Mo_answered_135 e6 ?_
      refine z_iconst (v := 1) d_Mo_answered_136 rfl ?_
      refine z_iadd d_Mo_answered_137 ?_
      replace h := Option.bind_eq_some_iff.mp h; obtain ⟨σ7, e8, h⟩ := h
      refine z_iastore rfl d_Mo_answered_138 e8 ?_
      refine z_goto (tgt := 178) d_Mo_answered_139 rfl ?_
      refine z_lv (lv' := [(0, .ref (v0)), (1, .int (v1)), (2, .int (v2)), (3, .int (v3)), (4, .int (v4)), (5, .int (v5)), (6, .int (v6))]) [0, 1, 2, 3, 4, 5, 6] rfl ?_
      exact t_Mo_answered_178 hG   h
    · rw [if_neg c1] at h
      refine z_sipush (v := 300) d_Mo_answered_59 rfl ?_
      refine z_iload 6 d_Mo_answered_62 rfl ?_
      refine z_imul d_Mo_answered_64 ?_
      refine z_aload_n 0 d_Mo_answered_65 rfl rfl ?_
      replace h := Option.bind_eq_some_iff.mp h; obtain ⟨x9, e10, h⟩ := h
      refine z_getR wF_NumberOfficeModel_13_14 d_Mo_answered_66 e10 ?_
      refine z_iload 6 d_Mo_answered_69 rfl ?_
      replace h := Option.bind_eq_some_iff.mp h; obtain ⟨a11, rfl, h⟩ := h
      replace h := Option.bind_eq_some_iff.mp h; obtain ⟨x12, e13, h⟩ := h
      refine z_iaload rfl d_Mo_answered_71 e13 ?_
      refine z_iadd d_Mo_answered_72 ?_
      refine z_istore (j := 8) (lv' := [(8, .int ((300 * v6) + x12)), (0, .ref (v0)), (1, .int (v1)), (2, .int (v2)), (3, .int (v3)), (4, .int (v4)), (5, .int (v5)), (6, .int (v6)), (7, .int (v7))]) d_Mo_answered_73 (by decide) rfl ?_
      refine z_aload_n 1 d_Mo_answered_75 rfl rfl ?_
      replace h := Option.bind_eq_some_iff.mp h; obtain ⟨x14, e15, h⟩ := h
      refine z_getR wF_NumberOfficeModel_29_14 d_Mo_answered_76 e15 ?_
      refine z_iload 0 d_Mo_answered_79 rfl ?_
      refine z_iload 5 d_Mo_answered_81 rfl ?_
      refine z_iload 8 d_Mo_answered_83 rfl ?_
      refine z_iadd d_Mo_answered_85 ?_
      refine z_i2s d_Mo_answered_86 ?_
      replace h := Option.bind_eq_some_iff.mp h; obtain ⟨a16, rfl, h⟩ := h
      replace h := Option.bind_eq_some_iff.mp h; obtain ⟨σ17, e18, h⟩ := h
      refine z_sastore rfl d_Mo_answered_87 e18 ?_
      refine z_aload_n 1 d_Mo_answered_88 rfl rfl ?_
      replace h := Option.bind_eq_some_iff.mp h; obtain ⟨x19, e20, h⟩ := h
      refine z_getR wF_NumberOfficeModel_33_14 d_Mo_answered_89 e20 ?_
      refine z_iload 0 d_Mo_answered_92 rfl ?_
      refine z_aload_n 1 d_Mo_answered_94 rfl rfl ?_
      replace h := Option.bind_eq_some_iff.mp h; obtain ⟨x21, e22, h⟩ := h
      refine z_getR wF_NumberOfficeModel_20_14 d_Mo_answered_95 e22 ?_
      refine z_iload 7 d_Mo_answered_98 rfl ?_
      replace h := Option.bind_eq_some_iff.mp h; obtain ⟨a23, rfl, h⟩ := h
      replace h := Option.bind_eq_some_iff.mp h; obtain ⟨x24, e25, h⟩ := h
      refine z_iaload rfl d_Mo_answered_100 e25 ?_
      refine z_i2s d_Mo_answered_101 ?_
      replace h := Option.bind_eq_some_iff.mp h; obtain ⟨a26, rfl, h⟩ := h
      replace h := Option.bind_eq_some_iff.mp h; obtain ⟨σ27, e28, h⟩ := h
      refine z_sastore rfl d_Mo_answered_102 e28 ?_
      refine z_aload_n 1 d_Mo_answered_103 rfl rfl ?_
      replace h := Option.bind_eq_some_iff.mp h; obtain ⟨x29, e30, h⟩ := h
      refine z_getR wF_NumberOfficeModel_36_14 d_Mo_answered_104 e30 ?_
      refine z_iload 0 d_Mo_answered_107 rfl ?_
      refine z_iconst (v := 1) d_Mo_answered_109 rfl ?_
      replace h := Option.bind_eq_some_iff.mp h; obtain ⟨a31, rfl, h⟩ := h
      replace h := Option.bind_eq_some_iff.mp h; obtain ⟨σ32, e33, h⟩ := h
      refine z_bastore rfl d_Mo_answered_110 e33 ?_
      refine z_aload_n 1 d_Mo_answered_111 rfl rfl ?_
      replace h := Option.bind_eq_some_iff.mp h; obtain ⟨x34, e35, h⟩ := h
      refine z_getR wF_NumberOfficeModel_13_14 d_Mo_answered_112 e35 ?_
      refine z_iload 7 d_Mo_answered_115 rfl ?_
      refine z_dup2 d_Mo_answered_117 rfl (z_rfc _) ?_
      replace h := Option.bind_eq_some_iff.mp h; obtain ⟨a36, rfl, h⟩ := h
      replace h := Option.bind_eq_some_iff.mp h; obtain ⟨x37, e38, h⟩ := h
      refine z_iaload rfl d_Mo_answered_118 e38 ?_
      refine z_iconst (v := 1) d_Mo_answered_119 rfl ?_
      refine z_iadd d_Mo_answered_120 ?_
      replace h := Option.bind_eq_some_iff.mp h; obtain ⟨σ39, e40, h⟩ := h
      refine z_iastore rfl d_Mo_answered_121 e40 ?_
      refine z_iinc (v := v7 + 1) (lv' := [(7, .int (v7 + 1)), (8, .int ((300 * v6) + x12)), (0, .ref (v0)), (1, .int (v1)), (2, .int (v2)), (3, .int (v3)), (4, .int (v4)), (5, .int (v5)), (6, .int (v6))]) 8 d_Mo_answered_122 rfl rfl (by decide) rfl ?_
      refine z_goto (tgt := 52) d_Mo_answered_125 rfl ?_
      refine z_lv (lv' := [(0, .ref (v0)), (1, .int (v1)), (2, .int (v2)), (3, .int (v3)), (4, .int (v4)), (5, .int (v5)), (6, .int (v6)), (7, .int (v7 + 1))]) [2, 3, 4, 5, 6, 7, 8, 0] rfl ?_
      exact ih h
set_option maxRecDepth 100000 in
theorem t_Mo_answered_142 {l : Launch} {D : zD} {g : zG} (hG : zGok g D) {q : zS}   {v0 : Nat} {v1 : Int32} {v2 : Int32} {v3 : Int32} {v4 : Int32} {v5 : Int32} {v6 : Int32} {σ : zS} (h : s_Mo_answered_142 g  v0 v1 v2 v3 v4 v5 v6 σ = some q) : Z l D K_Mo_answered 0 0 (.returned none, q) 142 [(0, .ref (v0)), (1, .int (v1)), (2, .int (v2)), (3, .int (v3)), (4, .int (v4)), (5, .int (v5)), (6, .int (v6))] [] σ := by
  unfold s_Mo_answered_142 at h
  refine z_iload_n 3 d_Mo_answered_142 rfl rfl ?_
  refine z_iconst (v := 2) d_Mo_answered_143 rfl ?_
  refine z_icmp_ne (tgt := 166) d_Mo_answered_144 rfl (fun c1 => ?_) (fun c1 => ?_)
  · rw [if_neg c1] at h
    refine z_iload_n 3 d_Mo_answered_166 rfl rfl ?_
    refine z_iconst (v := 3) d_Mo_answered_167 rfl ?_
    refine z_icmp_ne (tgt := 178) d_Mo_answered_168 rfl (fun c2 => ?_) (fun c2 => ?_)
    · rw [if_neg c2] at h
      refine z_lv (lv' := [(0, .ref (v0)), (1, .int (v1)), (2, .int (v2)), (3, .int (v3)), (4, .int (v4)), (5, .int (v5)), (6, .int (v6))]) [0, 1, 2, 3, 4, 5, 6] rfl ?_
      exact t_Mo_answered_178 hG   h
    · rw [if_pos c2] at h
      refine z_aload_n 0 d_Mo_answered_171 rfl rfl ?_
      replace h := Option.bind_eq_some_iff.mp h; obtain ⟨x3, e4, h⟩ := h
      refine z_getR wF_NumberOfficeModel_68_14 d_Mo_answered_172 e4 ?_
      refine z_iload_n 1 d_Mo_answered_175 rfl rfl ?_
      refine z_iconst (v := 1) d_Mo_answered_176 rfl ?_
      replace h := Option.bind_eq_some_iff.mp h; obtain ⟨a5, rfl, h⟩ := h
      replace h := Option.bind_eq_some_iff.mp h; obtain ⟨σ6, e7, h⟩ := h
      refine z_zastore rfl d_Mo_answered_177 e7 ?_
      refine z_lv (lv' := [(0, .ref (v0)), (1, .int (v1)), (2, .int (v2)), (3, .int (v3)), (4, .int (v4)), (5, .int (v5)), (6, .int (v6))]) [0, 1, 2, 3, 4, 5, 6] rfl ?_
      exact t_Mo_answered_178 hG   h
  · rw [if_pos c1] at h
    refine z_aload_n 0 d_Mo_answered_147 rfl rfl ?_
    replace h := Option.bind_eq_some_iff.mp h; obtain ⟨x8, e9, h⟩ := h
    refine z_getR wF_NumberOfficeModel_26_14 d_Mo_answered_148 e9 ?_
    refine z_iload 6 d_Mo_answered_151 rfl ?_
    refine z_dup2 d_Mo_answered_153 rfl (z_rfc _) ?_
    replace h := Option.bind_eq_some_iff.mp h; obtain ⟨a10, rfl, h⟩ := h
    replace h := Option.bind_eq_some_iff.mp h; obtain ⟨x11, e12, h⟩ := h
    refine z_iaload rfl d_Mo_answered_154 e12 ?_
    refine z_aload_n 0 d_Mo_answered_155 rfl rfl ?_
    replace h := Option.bind_eq_some_iff.mp h; obtain ⟨x13, e14, h⟩ := h
    refine z_getR wF_NumberOfficeModel_62_14 d_Mo_answered_156 e14 ?_
    refine z_iload_n 1 d_Mo_answered_159 rfl rfl ?_
    replace h := Option.bind_eq_some_iff.mp h; obtain ⟨a15, rfl, h⟩ := h
    replace h := Option.bind_eq_some_iff.mp h; obtain ⟨x16, e17, h⟩ := h
    refine z_iaload rfl d_Mo_answered_160 e17 ?_
    refine z_iadd d_Mo_answered_161 ?_
    replace h := Option.bind_eq_some_iff.mp h; obtain ⟨σ18, e19, h⟩ := h
    refine z_iastore rfl d_Mo_answered_162 e19 ?_
    refine z_goto (tgt := 178) d_Mo_answered_163 rfl ?_
    refine z_lv (lv' := [(0, .ref (v0)), (1, .int (v1)), (2, .int (v2)), (3, .int (v3)), (4, .int (v4)), (5, .int (v5)), (6, .int (v6))]) [0, 1, 2, 3, 4, 5, 6] rfl ?_
    exact t_Mo_answered_178 hG   h
set_option maxRecDepth 100000 in
theorem t_Mo_answered {l : Launch} {D : zD} {g : zG} (hG : zGok g D) {v0 : Nat} {v1 : Int32} {v2 : Int32} {v3 : Int32} {v4 : Int32} {v5 : Int32} {σ : zS} {q : zS} (h : s_Mo_answered g v0 v1 v2 v3 v4 v5 σ = some q) : zMet l D Y_Mo_answered K_Mo_answered 0 0 [.ref (v0), .int (v1), .int (v2), .int (v3), .int (v4), .int (v5)] σ (.returned none, q) := by
  refine zMet.ofZ (by decide) rfl (fun q => by cases q) (Nat.le_of_ble_eq_true rfl) ?_
  show Z _ _ _ _ _ _ 0 [(0, .ref (v0)), (1, .int (v1)), (2, .int (v2)), (3, .int (v3)), (4, .int (v4)), (5, .int (v5))] [] _
  unfold s_Mo_answered at h
  refine z_aload_n 0 d_Mo_answered_0 rfl rfl ?_
  replace h := Option.bind_eq_some_iff.mp h; obtain ⟨x1, e2, h⟩ := h
  refine z_getR wF_NumberOfficeModel_65_14 d_Mo_answered_1 e2 ?_
  refine z_iload_n 1 d_Mo_answered_4 rfl rfl ?_
  replace h := Option.bind_eq_some_iff.mp h; obtain ⟨a3, rfl, h⟩ := h
  replace h := Option.bind_eq_some_iff.mp h; obtain ⟨x4, e5, h⟩ := h
  refine z_zaload rfl d_Mo_answered_5 e5 ?_
  refine z_if_eq (tgt := 19) d_Mo_answered_6 rfl (fun c6 => ?_) (fun c6 => ?_)
  · rw [if_pos c6] at h
    refine z_lv (lv' := [(0, .ref (v0)), (1, .int (v1)), (2, .int (v2)), (3, .int (v3)), (4, .int (v4)), (5, .int (v5))]) [0, 1, 2, 3, 4, 5] rfl ?_
    exact t_Mo_answered_19 hG   h
  · rw [if_neg c6] at h
    refine z_aload_n 0 d_Mo_answered_9 rfl rfl ?_
    replace h := Option.bind_eq_some_iff.mp h; obtain ⟨x7, e8, h⟩ := h
    refine z_getR wF_NumberOfficeModel_53_14 d_Mo_answered_10 e8 ?_
    refine z_iload_n 1 d_Mo_answered_13 rfl rfl ?_
    replace h := Option.bind_eq_some_iff.mp h; obtain ⟨a9, rfl, h⟩ := h
    replace h := Option.bind_eq_some_iff.mp h; obtain ⟨x10, e11, h⟩ := h
    refine z_iaload rfl d_Mo_answered_14 e11 ?_
    refine z_iload_n 2 d_Mo_answered_15 rfl rfl ?_
    refine z_icmp_eq (tgt := 20) d_Mo_answered_16 rfl (fun c12 => ?_) (fun c12 => ?_)
    · rw [if_pos c12] at h
      refine z_aload_n 0 d_Mo_answered_20 rfl rfl ?_
      replace h := Option.bind_eq_some_iff.mp h; obtain ⟨x13, e14, h⟩ := h
      refine z_getR wF_NumberOfficeModel_65_14 d_Mo_answered_21 e14 ?_
      refine z_iload_n 1 d_Mo_answered_24 rfl rfl ?_
      refine z_iconst (v := 0) d_Mo_answered_25 rfl ?_
      replace h := Option.bind_eq_some_iff.mp h; obtain ⟨a15, rfl, h⟩ := h
      replace h := Option.bind_eq_some_iff.mp h; obtain ⟨σ16, e17, h⟩ := h
      refine z_zastore rfl d_Mo_answered_26 e17 ?_
      refine z_iconst (v := 3) d_Mo_answered_27 rfl ?_
      refine z_iload_n 1 d_Mo_answered_28 rfl rfl ?_
      refine z_imul d_Mo_answered_29 ?_
      refine z_aload_n 0 d_Mo_answered_30 rfl rfl ?_
      replace h := Option.bind_eq_some_iff.mp h; obtain ⟨x18, e19, h⟩ := h
      refine z_getR wF_NumberOfficeModel_59_14 d_Mo_answered_31 e19 ?_
      refine z_iload_n 1 d_Mo_answered_34 rfl rfl ?_
      replace h := Option.bind_eq_some_iff.mp h; obtain ⟨a20, rfl, h⟩ := h
      replace h := Option.bind_eq_some_iff.mp h; obtain ⟨x21, e22, h⟩ := h
      refine z_iaload rfl d_Mo_answered_35 e22 ?_
      refine z_iadd d_Mo_answered_36 ?_
      refine z_istore (j := 6) (lv' := [(6, .int ((3 * v1) + x21)), (0, .ref (v0)), (1, .int (v1)), (2, .int (v2)), (3, .int (v3)), (4, .int (v4)), (5, .int (v5))]) d_Mo_answered_37 (by decide) rfl ?_
      refine z_iload_n 4 d_Mo_answered_39 rfl rfl ?_
      refine z_iconst (v := 1) d_Mo_answered_40 rfl ?_
      refine z_icmp_ne (tgt := 142) d_Mo_answered_41 rfl (fun c23 => ?_) (fun c23 => ?_)
      · rw [if_neg c23] at h
        refine z_lv (lv' := [(0, .ref (v0)), (1, .int (v1)), (2, .int (v2)), (3, .int (v3)), (4, .int (v4)), (5, .int (v5)), (6, .int ((3 * v1) + x21))]) [1, 2, 3, 4, 5, 6, 0] rfl ?_
        exact t_Mo_answered_142 hG   h
      · rw [if_pos c23] at h
        refine z_iload 6 d_Mo_answered_44 rfl ?_
        refine z_if_le (tgt := 142) d_Mo_answered_46 rfl (fun c24 => ?_) (fun c24 => ?_)
        · rw [if_pos c24] at h
          refine z_lv (lv' := [(0, .ref (v0)), (1, .int (v1)), (2, .int (v2)), (3, .int (v3)), (4, .int (v4)), (5, .int (v5)), (6, .int ((3 * v1) + x21))]) [1, 2, 3, 4, 5, 6, 0] rfl ?_
          exact t_Mo_answered_142 hG   h
        · rw [if_neg c24] at h
          refine z_iconst (v := 0) d_Mo_answered_49 rfl ?_
          refine z_istore (j := 7) (lv' := [(7, .int (0)), (6, .int ((3 * v1) + x21)), (0, .ref (v0)), (1, .int (v1)), (2, .int (v2)), (3, .int (v3)), (4, .int (v4)), (5, .int (v5))]) d_Mo_answered_50 (by decide) rfl ?_
          refine z_lv (lv' := [(0, .ref (v0)), (1, .int (v1)), (2, .int (v2)), (3, .int (v3)), (4, .int (v4)), (5, .int (v5)), (6, .int ((3 * v1) + x21)), (7, .int (0))]) [2, 3, 4, 5, 6, 7, 1, 0] rfl ?_
          exact t_Mo_answered_52 hG   zfuel h
    · rw [if_neg c12] at h
      refine z_lv (lv' := [(0, .ref (v0)), (1, .int (v1)), (2, .int (v2)), (3, .int (v3)), (4, .int (v4)), (5, .int (v5))]) [0, 1, 2, 3, 4, 5] rfl ?_
      exact t_Mo_answered_19 hG   h

def s_Mo_give_72 (g : zG)  : Nat → Nat → Int32 → Int32 → Int32 → Int32 → Int32 → Int32 → zS → Option (zS)
  | 0, _, _, _, _, _, _, _, _ => none
  | n + 1, v0, v1, v2, v3, v4, v5, v6, σ => if v5 ≤ v6 then some σ else (zgR σ v0 14 23).bind fun x2 => (x2).bind fun a4 => (zaI σ a4 0 (v2)).bind fun x5 => (zsI σ a4 0 (v2) (x5 + 1)).bind fun σ7 => (zgR σ7 v0 14 24).bind fun x9 => (zgR σ7 v0 14 23).bind fun x11 => (x11).bind fun a13 => (zaI σ7 a13 0 (v2)).bind fun x14 => (zis σ7 v0 14).bind fun _ => (s_Mo_at g v0 v2 x14 σ7).bind fun (x18, σ16) => (x9).bind fun a19 => (zsI σ16 a19 2 (x18) (vp_nar .byte 1)).bind fun σ20 => (zgR σ20 v0 14 25).bind fun x22 => (zgR σ20 v0 14 23).bind fun x24 => (x24).bind fun a26 => (zaI σ20 a26 0 (v2)).bind fun x27 => (zis σ20 v0 14).bind fun _ => (s_Mo_at g v0 v2 x27 σ20).bind fun (x31, σ29) => (x22).bind fun a32 => (zsI σ29 a32 2 (x31) (vp_nar .byte (v1.toInt8.toInt32))).bind fun σ33 => s_Mo_give_72 g  n (v0) (v1) (v2) (v3) (v4) (v5) (v6 + 1) σ33
def s_Mo_give_38 (g : zG)  (v0 : Nat) (v1 : Int32) (v2 : Int32) (v3 : Int32) (v4 : Int32) (w0 : Int32) (σ : zS) : Option (zS) := (zgR σ v0 14 31).bind fun x1 => (x1).bind fun a3 => (zsI σ a3 0 (v1) (1)).bind fun σ4 => (zgR σ4 v0 14 32).bind fun x6 => (zgR σ4 v0 14 23).bind fun x8 => (x8).bind fun a10 => (zaI σ4 a10 0 (v2)).bind fun x11 => (x6).bind fun a13 => (zsI σ4 a13 0 (v1) (x11 + 1)).bind fun σ14 => (zgR σ14 v0 14 33).bind fun x16 => (x16).bind fun a18 => (zsI σ14 a18 0 (v1) (w0)).bind fun σ19 => s_Mo_give_72 g  zfuel (v0) (v1) (v2) (v3) (v4) (w0) (0) σ19
def s_Mo_give_24 (g : zG)  (v0 : Nat) (v1 : Int32) (v2 : Int32) (v3 : Int32) (w0 : Int32) (σ : zS) : Option (zS) := if w0 ≤ v3 then s_Mo_give_38 g  (v0) (v1) (v2) (v3) (w0) (w0) σ else s_Mo_give_38 g  (v0) (v1) (v2) (v3) (w0) (v3) σ
def s_Mo_give (g : zG) (v0 : Nat) (v1 : Int32) (v2 : Int32) (v3 : Int32) (σ : zS) : Option (zS) := (zgR σ v0 14 21).bind fun x1 => (x1).bind fun a3 => (zaI σ a3 0 (v2)).bind fun x4 => if x4 = 1 then (zgR σ v0 14 23).bind fun x7 => (x7).bind fun a9 => (zaI σ a9 0 (v2)).bind fun x10 => s_Mo_give_24 g  (v0) (v1) (v2) (v3) (300 - x10) σ else s_Mo_give_24 g  (v0) (v1) (v2) (v3) (0) σ
set_option maxRecDepth 100000 in
theorem t_Mo_give_72 {l : Launch} {D : zD} {g : zG} (hG : zGok g D) {q : zS}   : ∀ (n : Nat) {v0 : Nat} {v1 : Int32} {v2 : Int32} {v3 : Int32} {v4 : Int32} {v5 : Int32} {v6 : Int32} {σ : zS}, s_Mo_give_72 g  n v0 v1 v2 v3 v4 v5 v6 σ = some q → Z l D K_Mo_give 1 22 (.returned none, q) 72 [(0, .ref (v0)), (1, .int (v1)), (2, .int (v2)), (3, .int (v3)), (4, .int (v4)), (5, .int (v5)), (6, .int (v6))] [] σ := by
  intro n
  induction n with
  | zero =>
    intro v0 v1 v2 v3 v4 v5 v6 σ h
    cases h
  | succ n ih =>
    intro v0 v1 v2 v3 v4 v5 v6 σ h
    first | rw [s_Mo_give_72] at h | (unfold s_Mo_give_72 at h; dsimp only at h)
    refine z_iload 6 d_Mo_give_72 rfl ?_
    refine z_iload 5 d_Mo_give_74 rfl ?_
    refine z_icmp_ge (tgt := 130) d_Mo_give_76 rfl (fun c1 => ?_) (fun c1 => ?_)
    · rw [if_pos c1] at h
      cases h
      exact z_vret rfl rfl d_Mo_give_130
    · rw [if_neg c1] at h
      refine z_aload_n 0 d_Mo_give_79 rfl rfl ?_
      replace h := Option.bind_eq_some_iff.mp h; obtain ⟨x2, e3, h⟩ := h
      refine z_getR wF_NumberOfficeModel_77_14 d_Mo_give_80 e3 ?_
      refine z_iload_n 2 d_Mo_give_83 rfl rfl ?_
      refine z_dup2 d_Mo_give_84 rfl (z_rfc _) ?_
      replace h := Option.bind_eq_some_iff.mp h; obtain ⟨a4, rfl, h⟩ := h
      replace h := Option.bind_eq_some_iff.mp h; obtain ⟨x5, e6, h⟩ := h
      refine z_iaload rfl d_Mo_give_85 e6 ?_
      refine z_iconst (v := 1) d_Mo_give_86 rfl ?_
      refine z_iadd d_Mo_give_87 ?_
      replace h := Option.bind_eq_some_iff.mp h; obtain ⟨σ7, e8, h⟩ := h
      refine z_iastore rfl d_Mo_give_88 e8 ?_
      refine z_aload_n 0 d_Mo_give_89 rfl rfl ?_
      replace h := Option.bind_eq_some_iff.mp h; obtain ⟨x9, e10, h⟩ := h
      refine z_getR wF_NumberOfficeModel_80_14 d_Mo_give_90 e10 ?_
      refine z_aload_n 0 d_Mo_give_93 rfl rfl ?_
      refine z_iload_n 2 d_Mo_give_94 rfl rfl ?_
      refine z_aload_n 0 d_Mo_give_95 rfl rfl ?_
      replace h := Option.bind_eq_some_iff.mp h; obtain ⟨x11, e12, h⟩ := h
      refine z_getR wF_NumberOfficeModel_77_14 d_Mo_give_96 e12 ?_
      refine z_iload_n 2 d_Mo_give_99 rfl rfl ?_
      replace h := Option.bind_eq_some_iff.mp h; obtain ⟨a13, rfl, h⟩ := h
      replace h := Option.bind_eq_some_iff.mp h; obtain ⟨x14, e15, h⟩ := h
      refine z_iaload rfl d_Mo_give_100 e15 ?_
      replace h := Option.bind_eq_some_iff.mp h; obtain ⟨_, e38, h⟩ := h
      obtain ⟨b39, f40, e38⟩ := zcls_at (zis_at e38)
      replace h := Option.bind_eq_some_iff.mp h; obtain ⟨⟨x18, σ16⟩, e17, h⟩ := h
      dsimp only at h
      refine z_callV (av := [.int (v2), .int (x14)]) (st := [va_rf (x9)]) wV_NumberOfficeModel_148 e38 (t_Mo_at hG e17) (by decide) (by decide) d_Mo_give_101 (by simp [z_rfc, z_ci, z_cl, z_cr, z_cn]) ?_
      show Z _ _ _ _ _ _ 104 [(0, .ref (v0)), (1, .int (v1)), (2, .int (v2)), (3, .int (v3)), (4, .int (v4)), (5, .int (v5)), (6, .int (v6))] [.int (x18), va_rf (x9)] _
      refine z_iconst (v := 1) d_Mo_give_104 rfl ?_
      replace h := Option.bind_eq_some_iff.mp h; obtain ⟨a19, rfl, h⟩ := h
      replace h := Option.bind_eq_some_iff.mp h; obtain ⟨σ20, e21, h⟩ := h
      refine z_bastore rfl d_Mo_give_105 e21 ?_
      refine z_aload_n 0 d_Mo_give_106 rfl rfl ?_
      replace h := Option.bind_eq_some_iff.mp h; obtain ⟨x22, e23, h⟩ := h
      refine z_getR wF_NumberOfficeModel_83_14 d_Mo_give_107 e23 ?_
      refine z_aload_n 0 d_Mo_give_110 rfl rfl ?_
      refine z_iload_n 2 d_Mo_give_111 rfl rfl ?_
      refine z_aload_n 0 d_Mo_give_112 rfl rfl ?_
      replace h := Option.bind_eq_some_iff.mp h; obtain ⟨x24, e25, h⟩ := h
      refine z_getR wF_NumberOfficeModel_77_14 d_Mo_give_113 e25 ?_
      refine z_iload_n 2 d_Mo_give_116 rfl rfl ?_
      replace h := Option.bind_eq_some_iff.mp h; obtain ⟨a26, rfl, h⟩ := h
      replace h := Option.bind_eq_some_iff.mp h; obtain ⟨x27, e28, h⟩ := h
      refine z_iaload rfl d_Mo_give_117 e28 ?_
      replace h := Option.bind_eq_some_iff.mp h; obtain ⟨_, e35, h⟩ := h
      obtain ⟨b36, f37, e35⟩ := zcls_at (zis_at e35)
      replace h := Option.bind_eq_some_iff.mp h; obtain ⟨⟨x31, σ29⟩, e30, h⟩ := h
      dsimp only at h
      refine z_callV (av := [.int (v2), .int (x27)]) (st := [va_rf (x22)]) wV_NumberOfficeModel_148 e35 (t_Mo_at hG e30) (by decide) (by decide) d_Mo_give_118 (by simp [z_rfc, z_ci, z_cl, z_cr, z_cn]) ?_
      show Z _ _ _ _ _ _ 121 [(0, .ref (v0)), (1, .int (v1)), (2, .int (v2)), (3, .int (v3)), (4, .int (v4)), (5, .int (v5)), (6, .int (v6))] [.int (x31), va_rf (x22)] _
      refine z_iload_n 1 d_Mo_give_121 rfl rfl ?_
      refine z_i2b d_Mo_give_122 ?_
      replace h := Option.bind_eq_some_iff.mp h; obtain ⟨a32, rfl, h⟩ := h
      replace h := Option.bind_eq_some_iff.mp h; obtain ⟨σ33, e34, h⟩ := h
      refine z_bastore rfl d_Mo_give_123 e34 ?_
      refine z_iinc (v := v6 + 1) (lv' := [(6, .int (v6 + 1)), (0, .ref (v0)), (1, .int (v1)), (2, .int (v2)), (3, .int (v3)), (4, .int (v4)), (5, .int (v5))]) 6 d_Mo_give_124 rfl rfl (by decide) rfl ?_
      refine z_goto (tgt := 72) d_Mo_give_127 rfl ?_
      refine z_lv (lv' := [(0, .ref (v0)), (1, .int (v1)), (2, .int (v2)), (3, .int (v3)), (4, .int (v4)), (5, .int (v5)), (6, .int (v6 + 1))]) [1, 2, 3, 4, 5, 6, 0] rfl ?_
      exact ih h
set_option maxRecDepth 100000 in
theorem t_Mo_give_38 {l : Launch} {D : zD} {g : zG} (hG : zGok g D) {q : zS}   {v0 : Nat} {v1 : Int32} {v2 : Int32} {v3 : Int32} {v4 : Int32} {w0 : Int32} {σ : zS} (h : s_Mo_give_38 g  v0 v1 v2 v3 v4 w0 σ = some q) : Z l D K_Mo_give 1 22 (.returned none, q) 38 [(0, .ref (v0)), (1, .int (v1)), (2, .int (v2)), (3, .int (v3)), (4, .int (v4))] [.int (w0)] σ := by
  unfold s_Mo_give_38 at h
  refine z_istore (j := 5) (lv' := [(5, .int (w0)), (0, .ref (v0)), (1, .int (v1)), (2, .int (v2)), (3, .int (v3)), (4, .int (v4))]) d_Mo_give_38 (by decide) rfl ?_
  refine z_aload_n 1 d_Mo_give_40 rfl rfl ?_
  replace h := Option.bind_eq_some_iff.mp h; obtain ⟨x1, e2, h⟩ := h
  refine z_getR wF_NumberOfficeModel_101_14 d_Mo_give_41 e2 ?_
  refine z_iload_n 2 d_Mo_give_44 rfl rfl ?_
  refine z_iconst (v := 1) d_Mo_give_45 rfl ?_
  replace h := Option.bind_eq_some_iff.mp h; obtain ⟨a3, rfl, h⟩ := h
  replace h := Option.bind_eq_some_iff.mp h; obtain ⟨σ4, e5, h⟩ := h
  refine z_iastore rfl d_Mo_give_46 e5 ?_
  refine z_aload_n 1 d_Mo_give_47 rfl rfl ?_
  replace h := Option.bind_eq_some_iff.mp h; obtain ⟨x6, e7, h⟩ := h
  refine z_getR wF_NumberOfficeModel_104_14 d_Mo_give_48 e7 ?_
  refine z_iload_n 2 d_Mo_give_51 rfl rfl ?_
  refine z_aload_n 1 d_Mo_give_52 rfl rfl ?_
  replace h := Option.bind_eq_some_iff.mp h; obtain ⟨x8, e9, h⟩ := h
  refine z_getR wF_NumberOfficeModel_77_14 d_Mo_give_53 e9 ?_
  refine z_iload_n 3 d_Mo_give_56 rfl rfl ?_
  replace h := Option.bind_eq_some_iff.mp h; obtain ⟨a10, rfl, h⟩ := h
  replace h := Option.bind_eq_some_iff.mp h; obtain ⟨x11, e12, h⟩ := h
  refine z_iaload rfl d_Mo_give_57 e12 ?_
  refine z_iconst (v := 1) d_Mo_give_58 rfl ?_
  refine z_iadd d_Mo_give_59 ?_
  replace h := Option.bind_eq_some_iff.mp h; obtain ⟨a13, rfl, h⟩ := h
  replace h := Option.bind_eq_some_iff.mp h; obtain ⟨σ14, e15, h⟩ := h
  refine z_iastore rfl d_Mo_give_60 e15 ?_
  refine z_aload_n 1 d_Mo_give_61 rfl rfl ?_
  replace h := Option.bind_eq_some_iff.mp h; obtain ⟨x16, e17, h⟩ := h
  refine z_getR wF_NumberOfficeModel_107_14 d_Mo_give_62 e17 ?_
  refine z_iload_n 2 d_Mo_give_65 rfl rfl ?_
  refine z_iload 0 d_Mo_give_66 rfl ?_
  replace h := Option.bind_eq_some_iff.mp h; obtain ⟨a18, rfl, h⟩ := h
  replace h := Option.bind_eq_some_iff.mp h; obtain ⟨σ19, e20, h⟩ := h
  refine z_iastore rfl d_Mo_give_68 e20 ?_
  refine z_iconst (v := 0) d_Mo_give_69 rfl ?_
  refine z_istore (j := 6) (lv' := [(6, .int (0)), (5, .int (w0)), (0, .ref (v0)), (1, .int (v1)), (2, .int (v2)), (3, .int (v3)), (4, .int (v4))]) d_Mo_give_70 (by decide) rfl ?_
  refine z_lv (lv' := [(0, .ref (v0)), (1, .int (v1)), (2, .int (v2)), (3, .int (v3)), (4, .int (v4)), (5, .int (w0)), (6, .int (0))]) [2, 3, 4, 5, 6, 1, 0] rfl ?_
  exact t_Mo_give_72 hG   zfuel h
set_option maxRecDepth 100000 in
theorem t_Mo_give_24 {l : Launch} {D : zD} {g : zG} (hG : zGok g D) {q : zS}   {v0 : Nat} {v1 : Int32} {v2 : Int32} {v3 : Int32} {w0 : Int32} {σ : zS} (h : s_Mo_give_24 g  v0 v1 v2 v3 w0 σ = some q) : Z l D K_Mo_give 1 22 (.returned none, q) 24 [(0, .ref (v0)), (1, .int (v1)), (2, .int (v2)), (3, .int (v3))] [.int (w0)] σ := by
  unfold s_Mo_give_24 at h
  refine z_istore (j := 4) (lv' := [(4, .int (w0)), (0, .ref (v0)), (1, .int (v1)), (2, .int (v2)), (3, .int (v3))]) d_Mo_give_24 (by decide) rfl ?_
  refine z_iload_n 4 d_Mo_give_26 rfl rfl ?_
  refine z_iload 0 d_Mo_give_27 rfl ?_
  refine z_icmp_ge (tgt := 36) d_Mo_give_29 rfl (fun c1 => ?_) (fun c1 => ?_)
  · rw [if_pos c1] at h
    refine z_iload 0 d_Mo_give_36 rfl ?_
    refine z_lv (lv' := [(0, .ref (v0)), (1, .int (v1)), (2, .int (v2)), (3, .int (v3)), (4, .int (w0))]) [1, 2, 3, 4, 0] rfl ?_
    exact t_Mo_give_38 hG   h
  · rw [if_neg c1] at h
    refine z_iload_n 4 d_Mo_give_32 rfl rfl ?_
    refine z_goto (tgt := 38) d_Mo_give_33 rfl ?_
    refine z_lv (lv' := [(0, .ref (v0)), (1, .int (v1)), (2, .int (v2)), (3, .int (v3)), (4, .int (w0))]) [1, 2, 3, 4, 0] rfl ?_
    exact t_Mo_give_38 hG   h
set_option maxRecDepth 100000 in
theorem t_Mo_give {l : Launch} {D : zD} {g : zG} (hG : zGok g D) {v0 : Nat} {v1 : Int32} {v2 : Int32} {v3 : Int32} {σ : zS} {q : zS} (h : s_Mo_give g v0 v1 v2 v3 σ = some q) : zMet l D Y_Mo_give K_Mo_give 1 22 [.ref (v0), .int (v1), .int (v2), .int (v3)] σ (.returned none, q) := by
  refine zMet.ofZ (by decide) rfl (fun q => by cases q) (Nat.le_of_ble_eq_true rfl) ?_
  show Z _ _ _ _ _ _ 0 [(0, .ref (v0)), (1, .int (v1)), (2, .int (v2)), (3, .int (v3))] [] _
  unfold s_Mo_give at h
  refine z_aload_n 0 d_Mo_give_0 rfl rfl ?_
  replace h := Option.bind_eq_some_iff.mp h; obtain ⟨x1, e2, h⟩ := h
  refine z_getR wF_NumberOfficeModel_71_14 d_Mo_give_1 e2 ?_
  refine z_iload_n 2 d_Mo_give_4 rfl rfl ?_
  replace h := Option.bind_eq_some_iff.mp h; obtain ⟨a3, rfl, h⟩ := h
  replace h := Option.bind_eq_some_iff.mp h; obtain ⟨x4, e5, h⟩ := h
  refine z_iaload rfl d_Mo_give_5 e5 ?_
  refine z_iconst (v := 1) d_Mo_give_6 rfl ?_
  refine z_icmp_ne (tgt := 23) d_Mo_give_7 rfl (fun c6 => ?_) (fun c6 => ?_)
  · rw [if_neg c6] at h
    refine z_iconst (v := 0) d_Mo_give_23 rfl ?_
    refine z_lv (lv' := [(0, .ref (v0)), (1, .int (v1)), (2, .int (v2)), (3, .int (v3))]) [0, 1, 2, 3] rfl ?_
    exact t_Mo_give_24 hG   h
  · rw [if_pos c6] at h
    refine z_sipush (v := 300) d_Mo_give_10 rfl ?_
    refine z_aload_n 0 d_Mo_give_13 rfl rfl ?_
    replace h := Option.bind_eq_some_iff.mp h; obtain ⟨x7, e8, h⟩ := h
    refine z_getR wF_NumberOfficeModel_77_14 d_Mo_give_14 e8 ?_
    refine z_iload_n 2 d_Mo_give_17 rfl rfl ?_
    replace h := Option.bind_eq_some_iff.mp h; obtain ⟨a9, rfl, h⟩ := h
    replace h := Option.bind_eq_some_iff.mp h; obtain ⟨x10, e11, h⟩ := h
    refine z_iaload rfl d_Mo_give_18 e11 ?_
    refine z_isub d_Mo_give_19 ?_
    refine z_goto (tgt := 24) d_Mo_give_20 rfl ?_
    refine z_lv (lv' := [(0, .ref (v0)), (1, .int (v1)), (2, .int (v2)), (3, .int (v3))]) [0, 1, 2, 3] rfl ?_
    exact t_Mo_give_24 hG   h

def s_Mo_learn_206 (g : zG) (k20 : Nat → Int32 → Int32 → Int32 → Int32 → Int32 → Int32 → zS → Option (zS)) (v0 : Nat) (v1 : Int32) (v2 : Int32) (v3 : Int32) (v4 : Int32) (v5 : Int32) (v6 : Int32) (v7 : Int32) (v8 : Int32) (v9 : Int32) (σ : zS) : Option (zS) := k20 (v0) (v1) (v2) (v3) (v4) (v5) (v6 + 1) σ
def s_Mo_learn_174 (g : zG) (k20 : Nat → Int32 → Int32 → Int32 → Int32 → Int32 → Int32 → zS → Option (zS)) (v0 : Nat) (v1 : Int32) (v2 : Int32) (v3 : Int32) (v4 : Int32) (v5 : Int32) (v6 : Int32) (v7 : Int32) (v8 : Int32) (v9 : Int32) (σ : zS) : Option (zS) := (zgR σ v0 14 21).bind fun x1 => (x1).bind fun a3 => (zaI σ a3 0 (v2)).bind fun x4 => if x4 = 2 then s_Mo_learn_206 g k20 (v0) (v1) (v2) (v3) (v4) (v5) (v6) (v7) (v8) (v9) σ else (zgR σ v0 14 24).bind fun x7 => (x7).bind fun a9 => (zsI σ a9 2 (v8) (vp_nar .byte 3)).bind fun σ10 => (zgR σ10 v0 14 28).bind fun x12 => (zgR σ10 v0 14 13).bind fun x14 => (x14).bind fun a16 => (zaI σ10 a16 2 (v7)).bind fun x17 => (x12).bind fun a19 => (zsI σ10 a19 2 (v8) (vp_nar .byte x17)).bind fun σ20 => s_Mo_learn_206 g k20 (v0) (v1) (v2) (v3) (v4) (v5) (v6) (v7) (v8) (v9) σ20
def s_Mo_learn_147 (g : zG) (k20 : Nat → Int32 → Int32 → Int32 → Int32 → Int32 → Int32 → zS → Option (zS)) (v0 : Nat) (v1 : Int32) (v2 : Int32) (v3 : Int32) (v4 : Int32) (v5 : Int32) (v6 : Int32) (v7 : Int32) (v8 : Int32) (v9 : Int32) (σ : zS) : Option (zS) := if v9 = 0 then s_Mo_learn_206 g k20 (v0) (v1) (v2) (v3) (v4) (v5) (v6) (v7) (v8) (v9) σ else (zgR σ v0 14 24).bind fun x2 => (x2).bind fun a4 => (zaI σ a4 2 (v8)).bind fun x5 => if x5 = 1 then s_Mo_learn_174 g k20 (v0) (v1) (v2) (v3) (v4) (v5) (v6) (v7) (v8) (v9) σ else (zgR σ v0 14 24).bind fun x8 => (x8).bind fun a10 => (zaI σ a10 2 (v8)).bind fun x11 => if x11 = 2 then s_Mo_learn_174 g k20 (v0) (v1) (v2) (v3) (v4) (v5) (v6) (v7) (v8) (v9) σ else s_Mo_learn_206 g k20 (v0) (v1) (v2) (v3) (v4) (v5) (v6) (v7) (v8) (v9) σ
def s_Mo_learn_93 (g : zG) (k20 : Nat → Int32 → Int32 → Int32 → Int32 → Int32 → Int32 → zS → Option (zS)) (v0 : Nat) (v1 : Int32) (v2 : Int32) (v3 : Int32) (v4 : Int32) (v5 : Int32) (v6 : Int32) (v7 : Int32) (v8 : Int32) (w0 : Int32) (σ : zS) : Option (zS) := if w0 = 0 then (zgR σ v0 14 24).bind fun x2 => (x2).bind fun a4 => (zaI σ a4 2 (v8)).bind fun x5 => if x5 = 1 then (zgR σ v0 14 24).bind fun x8 => (x8).bind fun a10 => (zsI σ a10 2 (v8) (vp_nar .byte 2)).bind fun σ11 => (zgR σ11 v0 14 26).bind fun x13 => (zgR σ11 v0 14 11).bind fun x15 => (x15).bind fun a17 => (zaL σ11 a17 1 (v7)).bind fun x18 => (x13).bind fun a20 => (zsL σ11 a20 1 (v8) (x18)).bind fun σ21 => (zgR σ21 v0 14 27).bind fun x23 => (zgR σ21 v0 14 12).bind fun x25 => (x25).bind fun a27 => (zaI σ21 a27 0 (v7)).bind fun x28 => (x23).bind fun a30 => (zsI σ21 a30 0 (v8) (x28)).bind fun σ31 => s_Mo_learn_147 g k20 (v0) (v1) (v2) (v3) (v4) (v5) (v6) (v7) (v8) (w0) σ31 else s_Mo_learn_147 g k20 (v0) (v1) (v2) (v3) (v4) (v5) (v6) (v7) (v8) (w0) σ else s_Mo_learn_147 g k20 (v0) (v1) (v2) (v3) (v4) (v5) (v6) (v7) (v8) (w0) σ
def s_Mo_learn_20 (g : zG)  : Nat → Nat → Int32 → Int32 → Int32 → Int32 → Int32 → Int32 → zS → Option (zS)
  | 0, _, _, _, _, _, _, _, _ => none
  | n + 1, v0, v1, v2, v3, v4, v5, v6, σ => if (v3 + v4) ≤ v6 then some σ else (zgR σ v0 14 14).bind fun x2 => (x2).bind fun a4 => (zaI σ a4 5 ((600 * v5) + v6)).bind fun x5 => (zgR σ v0 14 8).bind fun x8 => (x8).bind fun a10 => (zaI σ a10 5 ((300 * v5) + (x5 / 2))).bind fun x11 => (zis σ v0 14).bind fun _ => (s_Mo_at g v0 v2 x11 σ).bind fun (x15, σ13) => (zgR σ13 v0 14 14).bind fun x16 => (x16).bind fun a18 => (zaI σ13 a18 5 ((600 * v5) + v6)).bind fun x19 => if (x19 - x19 / 2 * 2) = 1 then s_Mo_learn_93 g (fun v0 v1 v2 v3 v4 v5 v6 σ => s_Mo_learn_20 g  n v0 v1 v2 v3 v4 v5 v6 σ) (v0) (v1) (v2) (v3) (v4) (v5) (v6) ((300 * v5) + (x5 / 2)) (x15) (1) σ13 else s_Mo_learn_93 g (fun v0 v1 v2 v3 v4 v5 v6 σ => s_Mo_learn_20 g  n v0 v1 v2 v3 v4 v5 v6 σ) (v0) (v1) (v2) (v3) (v4) (v5) (v6) ((300 * v5) + (x5 / 2)) (x15) (0) σ13
def s_Mo_learn (g : zG) (v0 : Nat) (v1 : Int32) (v2 : Int32) (v3 : Int32) (v4 : Int32) (σ : zS) : Option (zS) := (zgR σ v0 14 31).bind fun x1 => (x1).bind fun a3 => (zsI σ a3 0 (v1) (2)).bind fun σ4 => s_Mo_learn_20 g  zfuel (v0) (v1) (v2) (v3) (v4) ((3 * (v1 + 6)) + v2) (v3) σ4
set_option maxRecDepth 100000 in
theorem t_Mo_learn_206 {l : Launch} {D : zD} {g : zG} (hG : zGok g D) {q : zS} (k20 : Nat → Int32 → Int32 → Int32 → Int32 → Int32 → Int32 → zS → Option (zS)) (hk20 : ∀ {v0 : Nat} {v1 : Int32} {v2 : Int32} {v3 : Int32} {v4 : Int32} {v5 : Int32} {v6 : Int32} {σ : zS}, k20 v0 v1 v2 v3 v4 v5 v6 σ = some q → Z l D K_Mo_learn 1 22 (.returned none, q) 20 [(0, .ref (v0)), (1, .int (v1)), (2, .int (v2)), (3, .int (v3)), (4, .int (v4)), (5, .int (v5)), (6, .int (v6))] [] σ) {v0 : Nat} {v1 : Int32} {v2 : Int32} {v3 : Int32} {v4 : Int32} {v5 : Int32} {v6 : Int32} {v7 : Int32} {v8 : Int32} {v9 : Int32} {σ : zS} (h : s_Mo_learn_206 g k20 v0 v1 v2 v3 v4 v5 v6 v7 v8 v9 σ = some q) : Z l D K_Mo_learn 1 22 (.returned none, q) 206 [(0, .ref (v0)), (1, .int (v1)), (2, .int (v2)), (3, .int (v3)), (4, .int (v4)), (5, .int (v5)), (6, .int (v6)), (7, .int (v7)), (8, .int (v8)), (9, .int (v9))] [] σ := by
  unfold s_Mo_learn_206 at h
  refine z_iinc (v := v6 + 1) (lv' := [(6, .int (v6 + 1)), (0, .ref (v0)), (1, .int (v1)), (2, .int (v2)), (3, .int (v3)), (4, .int (v4)), (5, .int (v5)), (7, .int (v7)), (8, .int (v8)), (9, .int (v9))]) 6 d_Mo_learn_206 rfl rfl (by decide) rfl ?_
  refine z_goto (tgt := 20) d_Mo_learn_209 rfl ?_
  refine z_lv (lv' := [(0, .ref (v0)), (1, .int (v1)), (2, .int (v2)), (3, .int (v3)), (4, .int (v4)), (5, .int (v5)), (6, .int (v6 + 1))]) [1, 2, 3, 4, 5, 6, 0] rfl ?_
  exact hk20 h
set_option maxRecDepth 100000 in
theorem t_Mo_learn_174 {l : Launch} {D : zD} {g : zG} (hG : zGok g D) {q : zS} (k20 : Nat → Int32 → Int32 → Int32 → Int32 → Int32 → Int32 → zS → Option (zS)) (hk20 : ∀ {v0 : Nat} {v1 : Int32} {v2 : Int32} {v3 : Int32} {v4 : Int32} {v5 : Int32} {v6 : Int32} {σ : zS}, k20 v0 v1 v2 v3 v4 v5 v6 σ = some q → Z l D K_Mo_learn 1 22 (.returned none, q) 20 [(0, .ref (v0)), (1, .int (v1)), (2, .int (v2)), (3, .int (v3)), (4, .int (v4)), (5, .int (v5)), (6, .int (v6))] [] σ) {v0 : Nat} {v1 : Int32} {v2 : Int32} {v3 : Int32} {v4 : Int32} {v5 : Int32} {v6 : Int32} {v7 : Int32} {v8 : Int32} {v9 : Int32} {σ : zS} (h : s_Mo_learn_174 g k20 v0 v1 v2 v3 v4 v5 v6 v7 v8 v9 σ = some q) : Z l D K_Mo_learn 1 22 (.returned none, q) 174 [(0, .ref (v0)), (1, .int (v1)), (2, .int (v2)), (3, .int (v3)), (4, .int (v4)), (5, .int (v5)), (6, .int (v6)), (7, .int (v7)), (8, .int (v8)), (9, .int (v9))] [] σ := by
  unfold s_Mo_learn_174 at h
  refine z_aload_n 0 d_Mo_learn_174 rfl rfl ?_
  replace h := Option.bind_eq_some_iff.mp h; obtain ⟨x1, e2, h⟩ := h
  refine z_getR wF_NumberOfficeModel_71_14 d_Mo_learn_175 e2 ?_
  refine z_iload_n 2 d_Mo_learn_178 rfl rfl ?_
  replace h := Option.bind_eq_some_iff.mp h; obtain ⟨a3, rfl, h⟩ := h
  replace h := Option.bind_eq_some_iff.mp h; obtain ⟨x4, e5, h⟩ := h
  refine z_iaload rfl d_Mo_learn_179 e5 ?_
  refine z_iconst (v := 2) d_Mo_learn_180 rfl ?_
  refine z_icmp_eq (tgt := 206) d_Mo_learn_181 rfl (fun c6 => ?_) (fun c6 => ?_)
  · rw [if_pos c6] at h
    refine z_lv (lv' := [(0, .ref (v0)), (1, .int (v1)), (2, .int (v2)), (3, .int (v3)), (4, .int (v4)), (5, .int (v5)), (6, .int (v6)), (7, .int (v7)), (8, .int (v8)), (9, .int (v9))]) [0, 1, 2, 3, 4, 5, 6, 7, 8, 9] rfl ?_
    exact t_Mo_learn_206 hG _ hk20 h
  · rw [if_neg c6] at h
    refine z_aload_n 0 d_Mo_learn_184 rfl rfl ?_
    replace h := Option.bind_eq_some_iff.mp h; obtain ⟨x7, e8, h⟩ := h
    refine z_getR wF_NumberOfficeModel_80_14 d_Mo_learn_185 e8 ?_
    refine z_iload 8 d_Mo_learn_188 rfl ?_
    refine z_iconst (v := 3) d_Mo_learn_190 rfl ?_
    replace h := Option.bind_eq_some_iff.mp h; obtain ⟨a9, rfl, h⟩ := h
    replace h := Option.bind_eq_some_iff.mp h; obtain ⟨σ10, e11, h⟩ := h
    refine z_bastore rfl d_Mo_learn_191 e11 ?_
    refine z_aload_n 0 d_Mo_learn_192 rfl rfl ?_
    replace h := Option.bind_eq_some_iff.mp h; obtain ⟨x12, e13, h⟩ := h
    refine z_getR wF_NumberOfficeModel_92_14 d_Mo_learn_193 e13 ?_
    refine z_iload 8 d_Mo_learn_196 rfl ?_
    refine z_aload_n 0 d_Mo_learn_198 rfl rfl ?_
    replace h := Option.bind_eq_some_iff.mp h; obtain ⟨x14, e15, h⟩ := h
    refine z_getR wF_NumberOfficeModel_47_14 d_Mo_learn_199 e15 ?_
    refine z_iload 7 d_Mo_learn_202 rfl ?_
    replace h := Option.bind_eq_some_iff.mp h; obtain ⟨a16, rfl, h⟩ := h
    replace h := Option.bind_eq_some_iff.mp h; obtain ⟨x17, e18, h⟩ := h
    refine z_baload rfl d_Mo_learn_204 e18 ?_
    replace h := Option.bind_eq_some_iff.mp h; obtain ⟨a19, rfl, h⟩ := h
    replace h := Option.bind_eq_some_iff.mp h; obtain ⟨σ20, e21, h⟩ := h
    refine z_bastore rfl d_Mo_learn_205 e21 ?_
    refine z_lv (lv' := [(0, .ref (v0)), (1, .int (v1)), (2, .int (v2)), (3, .int (v3)), (4, .int (v4)), (5, .int (v5)), (6, .int (v6)), (7, .int (v7)), (8, .int (v8)), (9, .int (v9))]) [0, 1, 2, 3, 4, 5, 6, 7, 8, 9] rfl ?_
    exact t_Mo_learn_206 hG _ hk20 h
set_option maxRecDepth 100000 in
theorem t_Mo_learn_147 {l : Launch} {D : zD} {g : zG} (hG : zGok g D) {q : zS} (k20 : Nat → Int32 → Int32 → Int32 → Int32 → Int32 → Int32 → zS → Option (zS)) (hk20 : ∀ {v0 : Nat} {v1 : Int32} {v2 : Int32} {v3 : Int32} {v4 : Int32} {v5 : Int32} {v6 : Int32} {σ : zS}, k20 v0 v1 v2 v3 v4 v5 v6 σ = some q → Z l D K_Mo_learn 1 22 (.returned none, q) 20 [(0, .ref (v0)), (1, .int (v1)), (2, .int (v2)), (3, .int (v3)), (4, .int (v4)), (5, .int (v5)), (6, .int (v6))] [] σ) {v0 : Nat} {v1 : Int32} {v2 : Int32} {v3 : Int32} {v4 : Int32} {v5 : Int32} {v6 : Int32} {v7 : Int32} {v8 : Int32} {v9 : Int32} {σ : zS} (h : s_Mo_learn_147 g k20 v0 v1 v2 v3 v4 v5 v6 v7 v8 v9 σ = some q) : Z l D K_Mo_learn 1 22 (.returned none, q) 147 [(0, .ref (v0)), (1, .int (v1)), (2, .int (v2)), (3, .int (v3)), (4, .int (v4)), (5, .int (v5)), (6, .int (v6)), (7, .int (v7)), (8, .int (v8)), (9, .int (v9))] [] σ := by
  unfold s_Mo_learn_147 at h
  refine z_iload 9 d_Mo_learn_147 rfl ?_
  refine z_if_eq (tgt := 206) d_Mo_learn_149 rfl (fun c1 => ?_) (fun c1 => ?_)
  · rw [if_pos c1] at h
    refine z_lv (lv' := [(0, .ref (v0)), (1, .int (v1)), (2, .int (v2)), (3, .int (v3)), (4, .int (v4)), (5, .int (v5)), (6, .int (v6)), (7, .int (v7)), (8, .int (v8)), (9, .int (v9))]) [0, 1, 2, 3, 4, 5, 6, 7, 8, 9] rfl ?_
    exact t_Mo_learn_206 hG _ hk20 h
  · rw [if_neg c1] at h
    refine z_aload_n 0 d_Mo_learn_152 rfl rfl ?_
    replace h := Option.bind_eq_some_iff.mp h; obtain ⟨x2, e3, h⟩ := h
    refine z_getR wF_NumberOfficeModel_80_14 d_Mo_learn_153 e3 ?_
    refine z_iload 8 d_Mo_learn_156 rfl ?_
    replace h := Option.bind_eq_some_iff.mp h; obtain ⟨a4, rfl, h⟩ := h
    replace h := Option.bind_eq_some_iff.mp h; obtain ⟨x5, e6, h⟩ := h
    refine z_baload rfl d_Mo_learn_158 e6 ?_
    refine z_iconst (v := 1) d_Mo_learn_159 rfl ?_
    refine z_icmp_eq (tgt := 174) d_Mo_learn_160 rfl (fun c7 => ?_) (fun c7 => ?_)
    · rw [if_pos c7] at h
      refine z_lv (lv' := [(0, .ref (v0)), (1, .int (v1)), (2, .int (v2)), (3, .int (v3)), (4, .int (v4)), (5, .int (v5)), (6, .int (v6)), (7, .int (v7)), (8, .int (v8)), (9, .int (v9))]) [0, 1, 2, 3, 4, 5, 6, 7, 8, 9] rfl ?_
      exact t_Mo_learn_174 hG _ hk20 h
    · rw [if_neg c7] at h
      refine z_aload_n 0 d_Mo_learn_163 rfl rfl ?_
      replace h := Option.bind_eq_some_iff.mp h; obtain ⟨x8, e9, h⟩ := h
      refine z_getR wF_NumberOfficeModel_80_14 d_Mo_learn_164 e9 ?_
      refine z_iload 8 d_Mo_learn_167 rfl ?_
      replace h := Option.bind_eq_some_iff.mp h; obtain ⟨a10, rfl, h⟩ := h
      replace h := Option.bind_eq_some_iff.mp h; obtain ⟨x11, e12, h⟩ := h
      refine z_baload rfl d_Mo_learn_169 e12 ?_
      refine z_iconst (v := 2) d_Mo_learn_170 rfl ?_
      refine z_icmp_ne (tgt := 206) d_Mo_learn_171 rfl (fun c13 => ?_) (fun c13 => ?_)
      · rw [if_neg c13] at h
        refine z_lv (lv' := [(0, .ref (v0)), (1, .int (v1)), (2, .int (v2)), (3, .int (v3)), (4, .int (v4)), (5, .int (v5)), (6, .int (v6)), (7, .int (v7)), (8, .int (v8)), (9, .int (v9))]) [0, 1, 2, 3, 4, 5, 6, 7, 8, 9] rfl ?_
        exact t_Mo_learn_206 hG _ hk20 h
      · rw [if_pos c13] at h
        refine z_lv (lv' := [(0, .ref (v0)), (1, .int (v1)), (2, .int (v2)), (3, .int (v3)), (4, .int (v4)), (5, .int (v5)), (6, .int (v6)), (7, .int (v7)), (8, .int (v8)), (9, .int (v9))]) [0, 1, 2, 3, 4, 5, 6, 7, 8, 9] rfl ?_
        exact t_Mo_learn_174 hG _ hk20 h
set_option maxRecDepth 100000 in
theorem t_Mo_learn_93 {l : Launch} {D : zD} {g : zG} (hG : zGok g D) {q : zS} (k20 : Nat → Int32 → Int32 → Int32 → Int32 → Int32 → Int32 → zS → Option (zS)) (hk20 : ∀ {v0 : Nat} {v1 : Int32} {v2 : Int32} {v3 : Int32} {v4 : Int32} {v5 : Int32} {v6 : Int32} {σ : zS}, k20 v0 v1 v2 v3 v4 v5 v6 σ = some q → Z l D K_Mo_learn 1 22 (.returned none, q) 20 [(0, .ref (v0)), (1, .int (v1)), (2, .int (v2)), (3, .int (v3)), (4, .int (v4)), (5, .int (v5)), (6, .int (v6))] [] σ) {v0 : Nat} {v1 : Int32} {v2 : Int32} {v3 : Int32} {v4 : Int32} {v5 : Int32} {v6 : Int32} {v7 : Int32} {v8 : Int32} {w0 : Int32} {σ : zS} (h : s_Mo_learn_93 g k20 v0 v1 v2 v3 v4 v5 v6 v7 v8 w0 σ = some q) : Z l D K_Mo_learn 1 22 (.returned none, q) 93 [(0, .ref (v0)), (1, .int (v1)), (2, .int (v2)), (3, .int (v3)), (4, .int (v4)), (5, .int (v5)), (6, .int (v6)), (7, .int (v7)), (8, .int (v8))] [.int (w0)] σ := by
  unfold s_Mo_learn_93 at h
  refine z_istore (j := 9) (lv' := [(9, .int (w0)), (0, .ref (v0)), (1, .int (v1)), (2, .int (v2)), (3, .int (v3)), (4, .int (v4)), (5, .int (v5)), (6, .int (v6)), (7, .int (v7)), (8, .int (v8))]) d_Mo_learn_93 (by decide) rfl ?_
  refine z_iload 0 d_Mo_learn_95 rfl ?_
  refine z_if_ne (tgt := 147) d_Mo_learn_97 rfl (fun c1 => ?_) (fun c1 => ?_)
  · rw [if_neg c1] at h
    refine z_lv (lv' := [(0, .ref (v0)), (1, .int (v1)), (2, .int (v2)), (3, .int (v3)), (4, .int (v4)), (5, .int (v5)), (6, .int (v6)), (7, .int (v7)), (8, .int (v8)), (9, .int (w0))]) [1, 2, 3, 4, 5, 6, 7, 8, 9, 0] rfl ?_
    exact t_Mo_learn_147 hG _ hk20 h
  · rw [if_pos c1] at h
    refine z_aload_n 1 d_Mo_learn_100 rfl rfl ?_
    replace h := Option.bind_eq_some_iff.mp h; obtain ⟨x2, e3, h⟩ := h
    refine z_getR wF_NumberOfficeModel_80_14 d_Mo_learn_101 e3 ?_
    refine z_iload 9 d_Mo_learn_104 rfl ?_
    replace h := Option.bind_eq_some_iff.mp h; obtain ⟨a4, rfl, h⟩ := h
    replace h := Option.bind_eq_some_iff.mp h; obtain ⟨x5, e6, h⟩ := h
    refine z_baload rfl d_Mo_learn_106 e6 ?_
    refine z_iconst (v := 1) d_Mo_learn_107 rfl ?_
    refine z_icmp_ne (tgt := 147) d_Mo_learn_108 rfl (fun c7 => ?_) (fun c7 => ?_)
    · rw [if_neg c7] at h
      refine z_lv (lv' := [(0, .ref (v0)), (1, .int (v1)), (2, .int (v2)), (3, .int (v3)), (4, .int (v4)), (5, .int (v5)), (6, .int (v6)), (7, .int (v7)), (8, .int (v8)), (9, .int (w0))]) [1, 2, 3, 4, 5, 6, 7, 8, 9, 0] rfl ?_
      exact t_Mo_learn_147 hG _ hk20 h
    · rw [if_pos c7] at h
      refine z_aload_n 1 d_Mo_learn_111 rfl rfl ?_
      replace h := Option.bind_eq_some_iff.mp h; obtain ⟨x8, e9, h⟩ := h
      refine z_getR wF_NumberOfficeModel_80_14 d_Mo_learn_112 e9 ?_
      refine z_iload 9 d_Mo_learn_115 rfl ?_
      refine z_iconst (v := 2) d_Mo_learn_117 rfl ?_
      replace h := Option.bind_eq_some_iff.mp h; obtain ⟨a10, rfl, h⟩ := h
      replace h := Option.bind_eq_some_iff.mp h; obtain ⟨σ11, e12, h⟩ := h
      refine z_bastore rfl d_Mo_learn_118 e12 ?_
      refine z_aload_n 1 d_Mo_learn_119 rfl rfl ?_
      replace h := Option.bind_eq_some_iff.mp h; obtain ⟨x13, e14, h⟩ := h
      refine z_getR wF_NumberOfficeModel_86_14 d_Mo_learn_120 e14 ?_
      refine z_iload 9 d_Mo_learn_123 rfl ?_
      refine z_aload_n 1 d_Mo_learn_125 rfl rfl ?_
      replace h := Option.bind_eq_some_iff.mp h; obtain ⟨x15, e16, h⟩ := h
      refine z_getR wF_NumberOfficeModel_40_14 d_Mo_learn_126 e16 ?_
      refine z_iload 8 d_Mo_learn_129 rfl ?_
      replace h := Option.bind_eq_some_iff.mp h; obtain ⟨a17, rfl, h⟩ := h
      replace h := Option.bind_eq_some_iff.mp h; obtain ⟨x18, e19, h⟩ := h
      refine z_laload rfl d_Mo_learn_131 e19 ?_
      replace h := Option.bind_eq_some_iff.mp h; obtain ⟨a20, rfl, h⟩ := h
      replace h := Option.bind_eq_some_iff.mp h; obtain ⟨σ21, e22, h⟩ := h
      refine z_lastore rfl d_Mo_learn_132 e22 ?_
      refine z_aload_n 1 d_Mo_learn_133 rfl rfl ?_
      replace h := Option.bind_eq_some_iff.mp h; obtain ⟨x23, e24, h⟩ := h
      refine z_getR wF_NumberOfficeModel_89_14 d_Mo_learn_134 e24 ?_
      refine z_iload 9 d_Mo_learn_137 rfl ?_
      refine z_aload_n 1 d_Mo_learn_139 rfl rfl ?_
      replace h := Option.bind_eq_some_iff.mp h; obtain ⟨x25, e26, h⟩ := h
      refine z_getR wF_NumberOfficeModel_44_14 d_Mo_learn_140 e26 ?_
      refine z_iload 8 d_Mo_learn_143 rfl ?_
      replace h := Option.bind_eq_some_iff.mp h; obtain ⟨a27, rfl, h⟩ := h
      replace h := Option.bind_eq_some_iff.mp h; obtain ⟨x28, e29, h⟩ := h
      refine z_iaload rfl d_Mo_learn_145 e29 ?_
      replace h := Option.bind_eq_some_iff.mp h; obtain ⟨a30, rfl, h⟩ := h
      replace h := Option.bind_eq_some_iff.mp h; obtain ⟨σ31, e32, h⟩ := h
      refine z_iastore rfl d_Mo_learn_146 e32 ?_
      refine z_lv (lv' := [(0, .ref (v0)), (1, .int (v1)), (2, .int (v2)), (3, .int (v3)), (4, .int (v4)), (5, .int (v5)), (6, .int (v6)), (7, .int (v7)), (8, .int (v8)), (9, .int (w0))]) [1, 2, 3, 4, 5, 6, 7, 8, 9, 0] rfl ?_
      exact t_Mo_learn_147 hG _ hk20 h
set_option maxRecDepth 100000 in
theorem t_Mo_learn_20 {l : Launch} {D : zD} {g : zG} (hG : zGok g D) {q : zS}   : ∀ (n : Nat) {v0 : Nat} {v1 : Int32} {v2 : Int32} {v3 : Int32} {v4 : Int32} {v5 : Int32} {v6 : Int32} {σ : zS}, s_Mo_learn_20 g  n v0 v1 v2 v3 v4 v5 v6 σ = some q → Z l D K_Mo_learn 1 22 (.returned none, q) 20 [(0, .ref (v0)), (1, .int (v1)), (2, .int (v2)), (3, .int (v3)), (4, .int (v4)), (5, .int (v5)), (6, .int (v6))] [] σ := by
  intro n
  induction n with
  | zero =>
    intro v0 v1 v2 v3 v4 v5 v6 σ h
    cases h
  | succ n ih =>
    intro v0 v1 v2 v3 v4 v5 v6 σ h
    first | rw [s_Mo_learn_20] at h | (unfold s_Mo_learn_20 at h; dsimp only at h)
    refine z_iload 6 d_Mo_learn_20 rfl ?_
    refine z_iload_n 3 d_Mo_learn_22 rfl rfl ?_
    refine z_iload 4 d_Mo_learn_23 rfl ?_
    refine z_iadd d_Mo_learn_25 ?_
    refine z_icmp_ge (tgt := 212) d_Mo_learn_26 rfl (fun c1 => ?_) (fun c1 => ?_)
    · rw [if_pos c1] at h
      cases h
      exact z_vret rfl rfl d_Mo_learn_212
    · rw [if_neg c1] at h
      refine z_sipush (v := 300) d_Mo_learn_29 rfl ?_
      refine z_iload 5 d_Mo_learn_32 rfl ?_
      refine z_imul d_Mo_learn_34 ?_
      refine z_aload_n 0 d_Mo_learn_35 rfl rfl ?_
      replace h := Option.bind_eq_some_iff.mp h; obtain ⟨x2, e3, h⟩ := h
      refine z_getR wF_NumberOfficeModel_50_14 d_Mo_learn_36 e3 ?_
      refine z_sipush (v := 600) d_Mo_learn_39 rfl ?_
      refine z_iload 5 d_Mo_learn_42 rfl ?_
      refine z_imul d_Mo_learn_44 ?_
      refine z_iload 6 d_Mo_learn_45 rfl ?_
      refine z_iadd d_Mo_learn_47 ?_
      replace h := Option.bind_eq_some_iff.mp h; obtain ⟨a4, rfl, h⟩ := h
      replace h := Option.bind_eq_some_iff.mp h; obtain ⟨x5, e6, h⟩ := h
      refine z_saload rfl d_Mo_learn_48 e6 ?_
      refine z_iconst (v := 2) d_Mo_learn_49 rfl ?_
      refine z_idiv d_Mo_learn_50 (by decide) ?_
      refine z_iadd d_Mo_learn_51 ?_
      refine z_istore (j := 7) (lv' := [(7, .int ((300 * v5) + (x5 / 2))), (0, .ref (v0)), (1, .int (v1)), (2, .int (v2)), (3, .int (v3)), (4, .int (v4)), (5, .int (v5)), (6, .int (v6))]) d_Mo_learn_52 (by decide) rfl ?_
      refine z_aload_n 1 d_Mo_learn_54 rfl rfl ?_
      refine z_iload_n 3 d_Mo_learn_55 rfl rfl ?_
      refine z_aload_n 1 d_Mo_learn_56 rfl rfl ?_
      replace h := Option.bind_eq_some_iff.mp h; obtain ⟨x8, e9, h⟩ := h
      refine z_getR wF_NumberOfficeModel_29_14 d_Mo_learn_57 e9 ?_
      refine z_iload 0 d_Mo_learn_60 rfl ?_
      replace h := Option.bind_eq_some_iff.mp h; obtain ⟨a10, rfl, h⟩ := h
      replace h := Option.bind_eq_some_iff.mp h; obtain ⟨x11, e12, h⟩ := h
      refine z_saload rfl d_Mo_learn_62 e12 ?_
      replace h := Option.bind_eq_some_iff.mp h; obtain ⟨_, e23, h⟩ := h
      obtain ⟨b24, f25, e23⟩ := zcls_at (zis_at e23)
      replace h := Option.bind_eq_some_iff.mp h; obtain ⟨⟨x15, σ13⟩, e14, h⟩ := h
      dsimp only at h
      refine z_callV (av := [.int (v2), .int (x11)]) (st := []) wV_NumberOfficeModel_148 e23 (t_Mo_at hG e14) (by decide) (by decide) d_Mo_learn_63 (by simp [z_rfc, z_ci, z_cl, z_cr, z_cn]) ?_
      show Z _ _ _ _ _ _ 66 [(7, .int ((300 * v5) + (x5 / 2))), (0, .ref (v0)), (1, .int (v1)), (2, .int (v2)), (3, .int (v3)), (4, .int (v4)), (5, .int (v5)), (6, .int (v6))] [.int (x15)] _
      refine z_istore (j := 8) (lv' := [(8, .int (x15)), (7, .int ((300 * v5) + (x5 / 2))), (0, .ref (v0)), (1, .int (v1)), (2, .int (v2)), (3, .int (v3)), (4, .int (v4)), (5, .int (v5)), (6, .int (v6))]) d_Mo_learn_66 (by decide) rfl ?_
      refine z_aload_n 2 d_Mo_learn_68 rfl rfl ?_
      replace h := Option.bind_eq_some_iff.mp h; obtain ⟨x16, e17, h⟩ := h
      refine z_getR wF_NumberOfficeModel_50_14 d_Mo_learn_69 e17 ?_
      refine z_sipush (v := 600) d_Mo_learn_72 rfl ?_
      refine z_iload 7 d_Mo_learn_75 rfl ?_
      refine z_imul d_Mo_learn_77 ?_
      refine z_iload 8 d_Mo_learn_78 rfl ?_
      refine z_iadd d_Mo_learn_80 ?_
      replace h := Option.bind_eq_some_iff.mp h; obtain ⟨a18, rfl, h⟩ := h
      replace h := Option.bind_eq_some_iff.mp h; obtain ⟨x19, e20, h⟩ := h
      refine z_saload rfl d_Mo_learn_81 e20 ?_
      refine z_iconst (v := 2) d_Mo_learn_82 rfl ?_
      refine z_irem d_Mo_learn_83 (by decide) ?_
      refine z_iconst (v := 1) d_Mo_learn_84 rfl ?_
      refine z_icmp_ne (tgt := 92) d_Mo_learn_85 rfl (fun c22 => ?_) (fun c22 => ?_)
      · rw [if_neg c22] at h
        refine z_iconst (v := 0) d_Mo_learn_92 rfl ?_
        refine z_lv (lv' := [(0, .ref (v0)), (1, .int (v1)), (2, .int (v2)), (3, .int (v3)), (4, .int (v4)), (5, .int (v5)), (6, .int (v6)), (7, .int ((300 * v5) + (x5 / 2))), (8, .int (x15))]) [2, 3, 4, 5, 6, 7, 8, 1, 0] rfl ?_
        exact t_Mo_learn_93 hG _ (fun h => ih h) h
      · rw [if_pos c22] at h
        refine z_iconst (v := 1) d_Mo_learn_88 rfl ?_
        refine z_goto (tgt := 93) d_Mo_learn_89 rfl ?_
        refine z_lv (lv' := [(0, .ref (v0)), (1, .int (v1)), (2, .int (v2)), (3, .int (v3)), (4, .int (v4)), (5, .int (v5)), (6, .int (v6)), (7, .int ((300 * v5) + (x5 / 2))), (8, .int (x15))]) [2, 3, 4, 5, 6, 7, 8, 1, 0] rfl ?_
        exact t_Mo_learn_93 hG _ (fun h => ih h) h
set_option maxRecDepth 100000 in
theorem t_Mo_learn {l : Launch} {D : zD} {g : zG} (hG : zGok g D) {v0 : Nat} {v1 : Int32} {v2 : Int32} {v3 : Int32} {v4 : Int32} {σ : zS} {q : zS} (h : s_Mo_learn g v0 v1 v2 v3 v4 σ = some q) : zMet l D Y_Mo_learn K_Mo_learn 1 22 [.ref (v0), .int (v1), .int (v2), .int (v3), .int (v4)] σ (.returned none, q) := by
  refine zMet.ofZ (by decide) rfl (fun q => by cases q) (Nat.le_of_ble_eq_true rfl) ?_
  show Z _ _ _ _ _ _ 0 [(0, .ref (v0)), (1, .int (v1)), (2, .int (v2)), (3, .int (v3)), (4, .int (v4))] [] _
  unfold s_Mo_learn at h
  refine z_aload_n 0 d_Mo_learn_0 rfl rfl ?_
  replace h := Option.bind_eq_some_iff.mp h; obtain ⟨x1, e2, h⟩ := h
  refine z_getR wF_NumberOfficeModel_101_14 d_Mo_learn_1 e2 ?_
  refine z_iload_n 1 d_Mo_learn_4 rfl rfl ?_
  refine z_iconst (v := 2) d_Mo_learn_5 rfl ?_
  replace h := Option.bind_eq_some_iff.mp h; obtain ⟨a3, rfl, h⟩ := h
  replace h := Option.bind_eq_some_iff.mp h; obtain ⟨σ4, e5, h⟩ := h
  refine z_iastore rfl d_Mo_learn_6 e5 ?_
  refine z_iconst (v := 3) d_Mo_learn_7 rfl ?_
  refine z_iload_n 1 d_Mo_learn_8 rfl rfl ?_
  refine z_bipush (v := 6) d_Mo_learn_9 rfl ?_
  refine z_iadd d_Mo_learn_11 ?_
  refine z_imul d_Mo_learn_12 ?_
  refine z_iload_n 2 d_Mo_learn_13 rfl rfl ?_
  refine z_iadd d_Mo_learn_14 ?_
  refine z_istore (j := 5) (lv' := [(5, .int ((3 * (v1 + 6)) + v2)), (0, .ref (v0)), (1, .int (v1)), (2, .int (v2)), (3, .int (v3)), (4, .int (v4))]) d_Mo_learn_15 (by decide) rfl ?_
  refine z_iload_n 4 d_Mo_learn_17 rfl rfl ?_
  refine z_istore (j := 6) (lv' := [(6, .int (v3)), (5, .int ((3 * (v1 + 6)) + v2)), (0, .ref (v0)), (1, .int (v1)), (2, .int (v2)), (3, .int (v3)), (4, .int (v4))]) d_Mo_learn_18 (by decide) rfl ?_
  refine z_lv (lv' := [(0, .ref (v0)), (1, .int (v1)), (2, .int (v2)), (3, .int (v3)), (4, .int (v4)), (5, .int ((3 * (v1 + 6)) + v2)), (6, .int (v3))]) [2, 3, 4, 5, 6, 1, 0] rfl ?_
  exact t_Mo_learn_20 hG   zfuel h

def s_Mo_sendAnswer (g : zG) (v0 : Nat) (v1 : Int32) (σ : zS) : Option (zS) := (zgR σ v0 14 30).bind fun x1 => (x1).bind fun a3 => (zaI σ a3 0 (v1)).bind fun x4 => (zgR σ v0 14 31).bind fun x6 => (x6).bind fun a8 => (zaI σ a8 0 (v1)).bind fun x9 => (zgR σ v0 14 32).bind fun x11 => (x11).bind fun a13 => (zaI σ a13 0 (v1)).bind fun x14 => (zgR σ v0 14 33).bind fun x16 => (x16).bind fun a18 => (zaI σ a18 0 (v1)).bind fun x19 => (zis σ v0 14).bind fun _ => (s_Mo_send g v0 3 v1 x4 x9 x14 x19 0 σ).bind fun σ21 => some σ21
set_option maxRecDepth 100000 in
theorem t_Mo_sendAnswer {l : Launch} {D : zD} {g : zG} (hG : zGok g D) {v0 : Nat} {v1 : Int32} {σ : zS} {q : zS} (h : s_Mo_sendAnswer g v0 v1 σ = some q) : zMet l D Y_Mo_sendAnswer K_Mo_sendAnswer 1 27 [.ref (v0), .int (v1)] σ (.returned none, q) := by
  refine zMet.ofZ (by decide) rfl (fun q => by cases q) (Nat.le_of_ble_eq_true rfl) ?_
  show Z _ _ _ _ _ _ 0 [(0, .ref (v0)), (1, .int (v1))] [] _
  unfold s_Mo_sendAnswer at h
  refine z_aload_n 0 d_Mo_sendAnswer_0 rfl rfl ?_
  refine z_iconst (v := 3) d_Mo_sendAnswer_1 rfl ?_
  refine z_iload_n 1 d_Mo_sendAnswer_2 rfl rfl ?_
  refine z_aload_n 0 d_Mo_sendAnswer_3 rfl rfl ?_
  replace h := Option.bind_eq_some_iff.mp h; obtain ⟨x1, e2, h⟩ := h
  refine z_getR wF_NumberOfficeModel_98_14 d_Mo_sendAnswer_4 e2 ?_
  refine z_iload_n 1 d_Mo_sendAnswer_7 rfl rfl ?_
  replace h := Option.bind_eq_some_iff.mp h; obtain ⟨a3, rfl, h⟩ := h
  replace h := Option.bind_eq_some_iff.mp h; obtain ⟨x4, e5, h⟩ := h
  refine z_iaload rfl d_Mo_sendAnswer_8 e5 ?_
  refine z_aload_n 0 d_Mo_sendAnswer_9 rfl rfl ?_
  replace h := Option.bind_eq_some_iff.mp h; obtain ⟨x6, e7, h⟩ := h
  refine z_getR wF_NumberOfficeModel_101_14 d_Mo_sendAnswer_10 e7 ?_
  refine z_iload_n 1 d_Mo_sendAnswer_13 rfl rfl ?_
  replace h := Option.bind_eq_some_iff.mp h; obtain ⟨a8, rfl, h⟩ := h
  replace h := Option.bind_eq_some_iff.mp h; obtain ⟨x9, e10, h⟩ := h
  refine z_iaload rfl d_Mo_sendAnswer_14 e10 ?_
  refine z_aload_n 0 d_Mo_sendAnswer_15 rfl rfl ?_
  replace h := Option.bind_eq_some_iff.mp h; obtain ⟨x11, e12, h⟩ := h
  refine z_getR wF_NumberOfficeModel_104_14 d_Mo_sendAnswer_16 e12 ?_
  refine z_iload_n 1 d_Mo_sendAnswer_19 rfl rfl ?_
  replace h := Option.bind_eq_some_iff.mp h; obtain ⟨a13, rfl, h⟩ := h
  replace h := Option.bind_eq_some_iff.mp h; obtain ⟨x14, e15, h⟩ := h
  refine z_iaload rfl d_Mo_sendAnswer_20 e15 ?_
  refine z_aload_n 0 d_Mo_sendAnswer_21 rfl rfl ?_
  replace h := Option.bind_eq_some_iff.mp h; obtain ⟨x16, e17, h⟩ := h
  refine z_getR wF_NumberOfficeModel_107_14 d_Mo_sendAnswer_22 e17 ?_
  refine z_iload_n 1 d_Mo_sendAnswer_25 rfl rfl ?_
  replace h := Option.bind_eq_some_iff.mp h; obtain ⟨a18, rfl, h⟩ := h
  replace h := Option.bind_eq_some_iff.mp h; obtain ⟨x19, e20, h⟩ := h
  refine z_iaload rfl d_Mo_sendAnswer_26 e20 ?_
  refine z_iconst (v := 0) d_Mo_sendAnswer_27 rfl ?_
  replace h := Option.bind_eq_some_iff.mp h; obtain ⟨_, e24, h⟩ := h
  obtain ⟨b25, f26, e24⟩ := zcls_at (zis_at e24)
  replace h := Option.bind_eq_some_iff.mp h; obtain ⟨σ21, e22, h⟩ := h
  refine z_callV (av := [.int (3), .int (v1), .int (x4), .int (x9), .int (x14), .int (x19), .int (0)]) (st := []) wV_NumberOfficeModel_140 e24 (t_Mo_send hG e22) (by decide) (by decide) d_Mo_sendAnswer_28 (by simp [z_rfc, z_ci, z_cl, z_cr, z_cn]) ?_
  show Z _ _ _ _ _ _ 31 [(0, .ref (v0)), (1, .int (v1))] [] _
  cases h
  exact z_vret rfl rfl d_Mo_sendAnswer_31

def s_Mo_drop (g : zG) (v0 : Nat) (v1 : Int32) (σ : zS) : Option (Int32 × zS) := (zpF σ v0 14 0 (.int (0))).bind fun σ1 => (zis σ1 v0 14).bind fun _ => (s_Mo_isLetter g v0 v1 σ1).bind fun (x5, σ3) => if x5 = 0 then some (0, σ3) else (zis σ3 v0 14).bind fun _ => (s_Mo_remove g v0 v1 σ3).bind fun σ7 => some (1, σ7)
set_option maxRecDepth 100000 in
theorem t_Mo_drop {l : Launch} {D : zD} {g : zG} (hG : zGok g D) {v0 : Nat} {v1 : Int32} {σ : zS} {q : Int32 × zS} (h : s_Mo_drop g v0 v1 σ = some q) : zMet l D Y_Mo_drop K_Mo_drop 1 22 [.ref (v0), .int (v1)] σ (.returned (some (.int q.1)), q.2) := by
  refine zMet.ofZ (by decide) rfl (fun q => by cases q) (Nat.le_of_ble_eq_true rfl) ?_
  show Z _ _ _ _ _ _ 0 [(0, .ref (v0)), (1, .int (v1))] [] _
  unfold s_Mo_drop at h
  refine z_aload_n 0 d_Mo_drop_0 rfl rfl ?_
  refine z_iconst (v := 0) d_Mo_drop_1 rfl ?_
  replace h := Option.bind_eq_some_iff.mp h; obtain ⟨σ1, e2, h⟩ := h
  refine z_put wP_NumberOfficeModel_120_14 (fun q => by cases q) d_Mo_drop_2 rfl rfl e2 ?_
  refine z_aload_n 0 d_Mo_drop_5 rfl rfl ?_
  refine z_iload_n 1 d_Mo_drop_6 rfl rfl ?_
  replace h := Option.bind_eq_some_iff.mp h; obtain ⟨_, e13, h⟩ := h
  obtain ⟨b14, f15, e13⟩ := zcls_at (zis_at e13)
  replace h := Option.bind_eq_some_iff.mp h; obtain ⟨⟨x5, σ3⟩, e4, h⟩ := h
  dsimp only at h
  refine z_callV (av := [.int (v1)]) (st := []) wV_NumberOfficeModel_192 e13 (t_Mo_isLetter hG e4) (by decide) (by decide) d_Mo_drop_7 (by simp [z_rfc, z_ci, z_cl, z_cr, z_cn]) ?_
  show Z _ _ _ _ _ _ 10 [(0, .ref (v0)), (1, .int (v1))] [.int (x5)] _
  refine z_if_ne (tgt := 15) d_Mo_drop_10 rfl (fun c6 => ?_) (fun c6 => ?_)
  · rw [if_neg c6] at h
    refine z_aload_n 0 d_Mo_drop_15 rfl rfl ?_
    refine z_iload_n 1 d_Mo_drop_16 rfl rfl ?_
    replace h := Option.bind_eq_some_iff.mp h; obtain ⟨_, e10, h⟩ := h
    obtain ⟨b11, f12, e10⟩ := zcls_at (zis_at e10)
    replace h := Option.bind_eq_some_iff.mp h; obtain ⟨σ7, e8, h⟩ := h
    refine z_callV (av := [.int (v1)]) (st := []) wV_NumberOfficeModel_195 e10 (t_Mo_remove hG e8) (by decide) (by decide) d_Mo_drop_17 (by simp [z_rfc, z_ci, z_cl, z_cr, z_cn]) ?_
    show Z _ _ _ _ _ _ 20 [(0, .ref (v0)), (1, .int (v1))] [] _
    refine z_iconst (v := 1) d_Mo_drop_20 rfl ?_
    cases h
    exact z_zret rfl rfl rfl d_Mo_drop_21
  · rw [if_pos c6] at h
    refine z_iconst (v := 0) d_Mo_drop_13 rfl ?_
    cases h
    exact z_zret rfl rfl rfl d_Mo_drop_14

def s_Mo_twin_22 (g : zG)  (v0 : Nat) (v1 : Int32) (σ : zS) : Option (Int32 × zS) := some (0, σ)
def s_Mo_twin_26 (g : zG)  : Nat → Nat → Int32 → Int32 → zS → Option (Int32 × zS)
  | 0, _, _, _, _ => none
  | n + 1, v0, v1, v2, σ => if 8 ≤ v2 then (zgI σ v0 14 34).bind fun x2 => (zpF σ v0 14 34 (.int (x2 + 1))).bind fun σ4 => some (1, σ4) else (zgR σ v0 14 35).bind fun x6 => (zgI σ v0 14 34).bind fun x8 => (zgR σ v0 14 35).bind fun x10 => (x10).bind fun a12 => (zaI σ a12 0 ((8 * v1) + v2)).bind fun x13 => (x6).bind fun a15 => (zsI σ a15 0 ((8 * x8) + v2) (x13)).bind fun σ16 => s_Mo_twin_26 g  n (v0) (v1) (v2 + 1) σ16
def s_Mo_twin (g : zG) (v0 : Nat) (v1 : Int32) (σ : zS) : Option (Int32 × zS) := (zpF σ v0 14 0 (.int (0))).bind fun σ1 => (zis σ1 v0 14).bind fun _ => (s_Mo_isLetter g v0 v1 σ1).bind fun (x5, σ3) => if x5 = 0 then s_Mo_twin_22 g  (v0) (v1) σ3 else (zgI σ3 v0 14 34).bind fun x7 => if x7 = 64 then s_Mo_twin_22 g  (v0) (v1) σ3 else s_Mo_twin_26 g  zfuel (v0) (v1) (0) σ3
set_option maxRecDepth 100000 in
theorem t_Mo_twin_22 {l : Launch} {D : zD} {g : zG} (hG : zGok g D) {q : Int32 × zS}   {v0 : Nat} {v1 : Int32} {σ : zS} (h : s_Mo_twin_22 g  v0 v1 σ = some q) : Z l D K_Mo_twin 1 21 (.returned (some (.int q.1)), q.2) 22 [(0, .ref (v0)), (1, .int (v1))] [] σ := by
  unfold s_Mo_twin_22 at h
  refine z_iconst (v := 0) d_Mo_twin_22 rfl ?_
  cases h
  exact z_zret rfl rfl rfl d_Mo_twin_23
set_option maxRecDepth 100000 in
theorem t_Mo_twin_26 {l : Launch} {D : zD} {g : zG} (hG : zGok g D) {q : Int32 × zS}   : ∀ (n : Nat) {v0 : Nat} {v1 : Int32} {v2 : Int32} {σ : zS}, s_Mo_twin_26 g  n v0 v1 v2 σ = some q → Z l D K_Mo_twin 1 21 (.returned (some (.int q.1)), q.2) 26 [(0, .ref (v0)), (1, .int (v1)), (2, .int (v2))] [] σ := by
  intro n
  induction n with
  | zero =>
    intro v0 v1 v2 σ h
    cases h
  | succ n ih =>
    intro v0 v1 v2 σ h
    first | rw [s_Mo_twin_26] at h | (unfold s_Mo_twin_26 at h; dsimp only at h)
    refine z_iload_n 2 d_Mo_twin_26 rfl rfl ?_
    refine z_bipush (v := 8) d_Mo_twin_27 rfl ?_
    refine z_icmp_ge (tgt := 63) d_Mo_twin_29 rfl (fun c1 => ?_) (fun c1 => ?_)
    · rw [if_pos c1] at h
      refine z_aload_n 0 d_Mo_twin_63 rfl rfl ?_
      refine z_dup d_Mo_twin_64 rfl ?_
      replace h := Option.bind_eq_some_iff.mp h; obtain ⟨x2, e3, h⟩ := h
      refine z_getI wF_NumberOfficeModel_133_14 d_Mo_twin_65 e3 ?_
      refine z_iconst (v := 1) d_Mo_twin_68 rfl ?_
      refine z_iadd d_Mo_twin_69 ?_
      replace h := Option.bind_eq_some_iff.mp h; obtain ⟨σ4, e5, h⟩ := h
      refine z_put wP_NumberOfficeModel_133_14 (fun q => by cases q) d_Mo_twin_70 rfl rfl e5 ?_
      refine z_iconst (v := 1) d_Mo_twin_73 rfl ?_
      cases h
      exact z_zret rfl rfl rfl d_Mo_twin_74
    · rw [if_neg c1] at h
      refine z_aload_n 0 d_Mo_twin_32 rfl rfl ?_
      replace h := Option.bind_eq_some_iff.mp h; obtain ⟨x6, e7, h⟩ := h
      refine z_getR wF_NumberOfficeModel_110_14 d_Mo_twin_33 e7 ?_
      refine z_bipush (v := 8) d_Mo_twin_36 rfl ?_
      refine z_aload_n 0 d_Mo_twin_38 rfl rfl ?_
      replace h := Option.bind_eq_some_iff.mp h; obtain ⟨x8, e9, h⟩ := h
      refine z_getI wF_NumberOfficeModel_133_14 d_Mo_twin_39 e9 ?_
      refine z_imul d_Mo_twin_42 ?_
      refine z_iload_n 2 d_Mo_twin_43 rfl rfl ?_
      refine z_iadd d_Mo_twin_44 ?_
      refine z_aload_n 0 d_Mo_twin_45 rfl rfl ?_
      replace h := Option.bind_eq_some_iff.mp h; obtain ⟨x10, e11, h⟩ := h
      refine z_getR wF_NumberOfficeModel_110_14 d_Mo_twin_46 e11 ?_
      refine z_bipush (v := 8) d_Mo_twin_49 rfl ?_
      refine z_iload_n 1 d_Mo_twin_51 rfl rfl ?_
      refine z_imul d_Mo_twin_52 ?_
      refine z_iload_n 2 d_Mo_twin_53 rfl rfl ?_
      refine z_iadd d_Mo_twin_54 ?_
      replace h := Option.bind_eq_some_iff.mp h; obtain ⟨a12, rfl, h⟩ := h
      replace h := Option.bind_eq_some_iff.mp h; obtain ⟨x13, e14, h⟩ := h
      refine z_iaload rfl d_Mo_twin_55 e14 ?_
      replace h := Option.bind_eq_some_iff.mp h; obtain ⟨a15, rfl, h⟩ := h
      replace h := Option.bind_eq_some_iff.mp h; obtain ⟨σ16, e17, h⟩ := h
      refine z_iastore rfl d_Mo_twin_56 e17 ?_
      refine z_iinc (v := v2 + 1) (lv' := [(2, .int (v2 + 1)), (0, .ref (v0)), (1, .int (v1))]) 2 d_Mo_twin_57 rfl rfl (by decide) rfl ?_
      refine z_goto (tgt := 26) d_Mo_twin_60 rfl ?_
      refine z_lv (lv' := [(0, .ref (v0)), (1, .int (v1)), (2, .int (v2 + 1))]) [1, 2, 0] rfl ?_
      exact ih h
set_option maxRecDepth 100000 in
theorem t_Mo_twin {l : Launch} {D : zD} {g : zG} (hG : zGok g D) {v0 : Nat} {v1 : Int32} {σ : zS} {q : Int32 × zS} (h : s_Mo_twin g v0 v1 σ = some q) : zMet l D Y_Mo_twin K_Mo_twin 1 21 [.ref (v0), .int (v1)] σ (.returned (some (.int q.1)), q.2) := by
  refine zMet.ofZ (by decide) rfl (fun q => by cases q) (Nat.le_of_ble_eq_true rfl) ?_
  show Z _ _ _ _ _ _ 0 [(0, .ref (v0)), (1, .int (v1))] [] _
  unfold s_Mo_twin at h
  refine z_aload_n 0 d_Mo_twin_0 rfl rfl ?_
  refine z_iconst (v := 0) d_Mo_twin_1 rfl ?_
  replace h := Option.bind_eq_some_iff.mp h; obtain ⟨σ1, e2, h⟩ := h
  refine z_put wP_NumberOfficeModel_120_14 (fun q => by cases q) d_Mo_twin_2 rfl rfl e2 ?_
  refine z_aload_n 0 d_Mo_twin_5 rfl rfl ?_
  refine z_iload_n 1 d_Mo_twin_6 rfl rfl ?_
  replace h := Option.bind_eq_some_iff.mp h; obtain ⟨_, e10, h⟩ := h
  obtain ⟨b11, f12, e10⟩ := zcls_at (zis_at e10)
  replace h := Option.bind_eq_some_iff.mp h; obtain ⟨⟨x5, σ3⟩, e4, h⟩ := h
  dsimp only at h
  refine z_callV (av := [.int (v1)]) (st := []) wV_NumberOfficeModel_192 e10 (t_Mo_isLetter hG e4) (by decide) (by decide) d_Mo_twin_7 (by simp [z_rfc, z_ci, z_cl, z_cr, z_cn]) ?_
  show Z _ _ _ _ _ _ 10 [(0, .ref (v0)), (1, .int (v1))] [.int (x5)] _
  refine z_if_eq (tgt := 22) d_Mo_twin_10 rfl (fun c6 => ?_) (fun c6 => ?_)
  · rw [if_pos c6] at h
    refine z_lv (lv' := [(0, .ref (v0)), (1, .int (v1))]) [0, 1] rfl ?_
    exact t_Mo_twin_22 hG   h
  · rw [if_neg c6] at h
    refine z_aload_n 0 d_Mo_twin_13 rfl rfl ?_
    replace h := Option.bind_eq_some_iff.mp h; obtain ⟨x7, e8, h⟩ := h
    refine z_getI wF_NumberOfficeModel_133_14 d_Mo_twin_14 e8 ?_
    refine z_bipush (v := 64) d_Mo_twin_17 rfl ?_
    refine z_icmp_ne (tgt := 24) d_Mo_twin_19 rfl (fun c9 => ?_) (fun c9 => ?_)
    · rw [if_neg c9] at h
      refine z_iconst (v := 0) d_Mo_twin_24 rfl ?_
      refine z_istore_n (j := 2) (lv' := [(2, .int (0)), (0, .ref (v0)), (1, .int (v1))]) d_Mo_twin_25 rfl (by decide) rfl ?_
      refine z_lv (lv' := [(0, .ref (v0)), (1, .int (v1)), (2, .int (0))]) [1, 2, 0] rfl ?_
      exact t_Mo_twin_26 hG   zfuel h
    · rw [if_pos c9] at h
      refine z_lv (lv' := [(0, .ref (v0)), (1, .int (v1))]) [0, 1] rfl ?_
      exact t_Mo_twin_22 hG   h

def s_Mo_isGiven_27 (g : zG)  (v0 : Nat) (v1 : Int32) (v2 : Int32) (w0 : Int32) (σ : zS) : Option (Int32 × zS) := if w0 = 0 ∨ w0 = 1 then some (w0, σ) else none
def s_Mo_isGiven_26 (g : zG)  (v0 : Nat) (v1 : Int32) (v2 : Int32) (σ : zS) : Option (Int32 × zS) := s_Mo_isGiven_27 g  (v0) (v1) (v2) (0) σ
def s_Mo_isGiven (g : zG) (v0 : Nat) (v1 : Int32) (v2 : Int32) (σ : zS) : Option (Int32 × zS) := (s_Mo_isSeries g v1 σ).bind fun (x3, σ1) => if x3 = 0 then s_Mo_isGiven_26 g  (v0) (v1) (v2) σ1 else if v2 < 1 then s_Mo_isGiven_26 g  (v0) (v1) (v2) σ1 else (zgR σ1 v0 14 23).bind fun x6 => (x6).bind fun a8 => (zaI σ1 a8 0 (v1)).bind fun x9 => if x9 < v2 then s_Mo_isGiven_26 g  (v0) (v1) (v2) σ1 else s_Mo_isGiven_27 g  (v0) (v1) (v2) (1) σ1
set_option maxRecDepth 100000 in
theorem t_Mo_isGiven_27 {l : Launch} {D : zD} {g : zG} (hG : zGok g D) {q : Int32 × zS}   {v0 : Nat} {v1 : Int32} {v2 : Int32} {w0 : Int32} {σ : zS} (h : s_Mo_isGiven_27 g  v0 v1 v2 w0 σ = some q) : Z l D K_Mo_isGiven 1 20 (.returned (some (.int q.1)), q.2) 27 [(0, .ref (v0)), (1, .int (v1)), (2, .int (v2))] [.int (w0)] σ := by
  unfold s_Mo_isGiven_27 at h
  by_cases c1 : w0 = 0 ∨ w0 = 1
  rotate_left
  · rw [if_neg c1] at h; cases h
  rw [if_pos c1] at h
  cases h
  exact z_zret rfl (z_nb c1) rfl d_Mo_isGiven_27
set_option maxRecDepth 100000 in
theorem t_Mo_isGiven_26 {l : Launch} {D : zD} {g : zG} (hG : zGok g D) {q : Int32 × zS}   {v0 : Nat} {v1 : Int32} {v2 : Int32} {σ : zS} (h : s_Mo_isGiven_26 g  v0 v1 v2 σ = some q) : Z l D K_Mo_isGiven 1 20 (.returned (some (.int q.1)), q.2) 26 [(0, .ref (v0)), (1, .int (v1)), (2, .int (v2))] [] σ := by
  unfold s_Mo_isGiven_26 at h
  refine z_iconst (v := 0) d_Mo_isGiven_26 rfl ?_
  refine z_lv (lv' := [(0, .ref (v0)), (1, .int (v1)), (2, .int (v2))]) [0, 1, 2] rfl ?_
  exact t_Mo_isGiven_27 hG   h
set_option maxRecDepth 100000 in
theorem t_Mo_isGiven {l : Launch} {D : zD} {g : zG} (hG : zGok g D) {v0 : Nat} {v1 : Int32} {v2 : Int32} {σ : zS} {q : Int32 × zS} (h : s_Mo_isGiven g v0 v1 v2 σ = some q) : zMet l D Y_Mo_isGiven K_Mo_isGiven 1 20 [.ref (v0), .int (v1), .int (v2)] σ (.returned (some (.int q.1)), q.2) := by
  refine zMet.ofZ (by decide) rfl (fun q => by cases q) (Nat.le_of_ble_eq_true rfl) ?_
  show Z _ _ _ _ _ _ 0 [(0, .ref (v0)), (1, .int (v1)), (2, .int (v2))] [] _
  unfold s_Mo_isGiven at h
  refine z_iload_n 1 d_Mo_isGiven_0 rfl rfl ?_
  replace h := Option.bind_eq_some_iff.mp h; obtain ⟨⟨x3, σ1⟩, e2, h⟩ := h
  dsimp only at h
  refine z_callS (av := [.int (v1)]) (st := []) wS_NumberOfficeModel_144 (t_Mo_isSeries hG e2) (by decide) (by decide) d_Mo_isGiven_1 (by simp [z_rfc, z_ci, z_cl, z_cr, z_cn]) ?_
  show Z _ _ _ _ _ _ 4 [(0, .ref (v0)), (1, .int (v1)), (2, .int (v2))] [.int (x3)] _
  refine z_if_eq (tgt := 26) d_Mo_isGiven_4 rfl (fun c4 => ?_) (fun c4 => ?_)
  · rw [if_pos c4] at h
    refine z_lv (lv' := [(0, .ref (v0)), (1, .int (v1)), (2, .int (v2))]) [0, 1, 2] rfl ?_
    exact t_Mo_isGiven_26 hG   h
  · rw [if_neg c4] at h
    refine z_iload_n 2 d_Mo_isGiven_7 rfl rfl ?_
    refine z_iconst (v := 1) d_Mo_isGiven_8 rfl ?_
    refine z_icmp_lt (tgt := 26) d_Mo_isGiven_9 rfl (fun c5 => ?_) (fun c5 => ?_)
    · rw [if_pos c5] at h
      refine z_lv (lv' := [(0, .ref (v0)), (1, .int (v1)), (2, .int (v2))]) [0, 1, 2] rfl ?_
      exact t_Mo_isGiven_26 hG   h
    · rw [if_neg c5] at h
      refine z_iload_n 2 d_Mo_isGiven_12 rfl rfl ?_
      refine z_aload_n 0 d_Mo_isGiven_13 rfl rfl ?_
      replace h := Option.bind_eq_some_iff.mp h; obtain ⟨x6, e7, h⟩ := h
      refine z_getR wF_NumberOfficeModel_77_14 d_Mo_isGiven_14 e7 ?_
      refine z_iload_n 1 d_Mo_isGiven_17 rfl rfl ?_
      replace h := Option.bind_eq_some_iff.mp h; obtain ⟨a8, rfl, h⟩ := h
      replace h := Option.bind_eq_some_iff.mp h; obtain ⟨x9, e10, h⟩ := h
      refine z_iaload rfl d_Mo_isGiven_18 e10 ?_
      refine z_icmp_gt (tgt := 26) d_Mo_isGiven_19 rfl (fun c11 => ?_) (fun c11 => ?_)
      · rw [if_pos c11] at h
        refine z_lv (lv' := [(0, .ref (v0)), (1, .int (v1)), (2, .int (v2))]) [0, 1, 2] rfl ?_
        exact t_Mo_isGiven_26 hG   h
      · rw [if_neg c11] at h
        refine z_iconst (v := 1) d_Mo_isGiven_22 rfl ?_
        refine z_goto (tgt := 27) d_Mo_isGiven_23 rfl ?_
        refine z_lv (lv' := [(0, .ref (v0)), (1, .int (v1)), (2, .int (v2))]) [0, 1, 2] rfl ?_
        exact t_Mo_isGiven_27 hG   h

def s_Mo_invoiceOf_108 (g : zG)  (v0 : Nat) (v1 : Int32) (v2 : Int32) (v3 : Int32) (v4 : Int32) (w0 : Int64) (σ : zS) : Option (Int64 × zS) := some (w0, σ)
def s_Mo_invoiceOf_134 (g : zG)  (v0 : Nat) (v1 : Int32) (v2 : Int32) (v3 : Int32) (v4 : Int32) (w0 : Int64) (σ : zS) : Option (Int64 × zS) := some (w0, σ)
def s_Mo_invoiceOf_169 (g : zG)  (v0 : Nat) (v1 : Int32) (v2 : Int32) (v3 : Int32) (v4 : Int32) (w0 : Int64) (σ : zS) : Option (Int64 × zS) := some (w0, σ)
def s_Mo_invoiceOf_18 (g : zG)  (v0 : Nat) (v1 : Int32) (v2 : Int32) (v3 : Int32) (w0 : Int32) (w1 : Option Nat) (σ : zS) : Option (Int64 × zS) := (w1).bind fun a1 => (zpF σ a1 14 0 (.int (w0))).bind fun σ2 => (zgI σ2 v0 14 0).bind fun x4 => if x4 = 1 then some (0, σ2) else (zis σ2 v0 14).bind fun _ => (s_Mo_isGiven g v0 v1 v2 σ2).bind fun (x9, σ7) => if x9 = 0 then some ((-1), σ7) else (zis σ7 v0 14).bind fun _ => (s_Mo_at g v0 v1 v2 σ7).bind fun (x13, σ11) => if (v3 : Int32).toInt < 0 ∨ 3 < (v3 : Int32).toInt then some ((-1), σ11) else if (v3 : Int32) = 0 then (zgR σ11 v0 14 24).bind fun x46 => (x46).bind fun a48 => (zaI σ11 a48 2 (x13)).bind fun x49 => if x49 = 2 then (zgR σ11 v0 14 26).bind fun x52 => (x52).bind fun a54 => (zaL σ11 a54 1 (x13)).bind fun x55 => s_Mo_invoiceOf_108 g  (v0) (v1) (v2) (v3) (x13) (x55) σ11 else s_Mo_invoiceOf_108 g  (v0) (v1) (v2) (v3) (x13) ((-1)) σ11 else if (v3 : Int32) = 1 then (zgR σ11 v0 14 24).bind fun x34 => (x34).bind fun a36 => (zaI σ11 a36 2 (x13)).bind fun x37 => if x37 = 2 then (zgR σ11 v0 14 27).bind fun x40 => (x40).bind fun a42 => (zaI σ11 a42 0 (x13)).bind fun x43 => s_Mo_invoiceOf_134 g  (v0) (v1) (v2) (v3) (x13) (x43.toInt64) σ11 else s_Mo_invoiceOf_134 g  (v0) (v1) (v2) (v3) (x13) ((-1)) σ11 else if (v3 : Int32) = 2 then (zgR σ11 v0 14 25).bind fun x28 => (x28).bind fun a30 => (zaI σ11 a30 2 (x13)).bind fun x31 => some (x31.toInt64, σ11) else if (v3 : Int32) = 3 then (zgR σ11 v0 14 24).bind fun x16 => (x16).bind fun a18 => (zaI σ11 a18 2 (x13)).bind fun x19 => if x19 = 3 then (zgR σ11 v0 14 28).bind fun x22 => (x22).bind fun a24 => (zaI σ11 a24 2 (x13)).bind fun x25 => s_Mo_invoiceOf_169 g  (v0) (v1) (v2) (v3) (x13) (x25.toInt64) σ11 else s_Mo_invoiceOf_169 g  (v0) (v1) (v2) (v3) (x13) ((-1)) σ11 else none
def s_Mo_invoiceOf (g : zG) (v0 : Nat) (v1 : Int32) (v2 : Int32) (v3 : Int32) (σ : zS) : Option (Int64 × zS) := (zgR σ v0 14 2).bind fun x1 => (zgI σ v0 14 1).bind fun x3 => (x1).bind fun a5 => (zaI σ a5 3 (x3)).bind fun x6 => if x6 = 0 then s_Mo_invoiceOf_18 g  (v0) (v1) (v2) (v3) (0) (some (v0)) σ else s_Mo_invoiceOf_18 g  (v0) (v1) (v2) (v3) (1) (some (v0)) σ
set_option maxRecDepth 100000 in
theorem t_Mo_invoiceOf_108 {l : Launch} {D : zD} {g : zG} (hG : zGok g D) {q : Int64 × zS}   {v0 : Nat} {v1 : Int32} {v2 : Int32} {v3 : Int32} {v4 : Int32} {w0 : Int64} {σ : zS} (h : s_Mo_invoiceOf_108 g  v0 v1 v2 v3 v4 w0 σ = some q) : Z l D K_Mo_invoiceOf 2 42 (.returned (some (.long q.1)), q.2) 108 [(0, .ref (v0)), (1, .int (v1)), (2, .int (v2)), (3, .int (v3)), (4, .int (v4))] [.long (w0)] σ := by
  unfold s_Mo_invoiceOf_108 at h
  cases h
  exact z_lret rfl rfl d_Mo_invoiceOf_108
set_option maxRecDepth 100000 in
theorem t_Mo_invoiceOf_134 {l : Launch} {D : zD} {g : zG} (hG : zGok g D) {q : Int64 × zS}   {v0 : Nat} {v1 : Int32} {v2 : Int32} {v3 : Int32} {v4 : Int32} {w0 : Int64} {σ : zS} (h : s_Mo_invoiceOf_134 g  v0 v1 v2 v3 v4 w0 σ = some q) : Z l D K_Mo_invoiceOf 2 42 (.returned (some (.long q.1)), q.2) 134 [(0, .ref (v0)), (1, .int (v1)), (2, .int (v2)), (3, .int (v3)), (4, .int (v4))] [.long (w0)] σ := by
  unfold s_Mo_invoiceOf_134 at h
  cases h
  exact z_lret rfl rfl d_Mo_invoiceOf_134
set_option maxRecDepth 100000 in
theorem t_Mo_invoiceOf_169 {l : Launch} {D : zD} {g : zG} (hG : zGok g D) {q : Int64 × zS}   {v0 : Nat} {v1 : Int32} {v2 : Int32} {v3 : Int32} {v4 : Int32} {w0 : Int64} {σ : zS} (h : s_Mo_invoiceOf_169 g  v0 v1 v2 v3 v4 w0 σ = some q) : Z l D K_Mo_invoiceOf 2 42 (.returned (some (.long q.1)), q.2) 169 [(0, .ref (v0)), (1, .int (v1)), (2, .int (v2)), (3, .int (v3)), (4, .int (v4))] [.long (w0)] σ := by
  unfold s_Mo_invoiceOf_169 at h
  cases h
  exact z_lret rfl rfl d_Mo_invoiceOf_169
set_option maxRecDepth 100000 in
theorem t_Mo_invoiceOf_18 {l : Launch} {D : zD} {g : zG} (hG : zGok g D) {q : Int64 × zS}   {v0 : Nat} {v1 : Int32} {v2 : Int32} {v3 : Int32} {w0 : Int32} {w1 : Option Nat} {σ : zS} (h : s_Mo_invoiceOf_18 g  v0 v1 v2 v3 w0 w1 σ = some q) : Z l D K_Mo_invoiceOf 2 42 (.returned (some (.long q.1)), q.2) 18 [(0, .ref (v0)), (1, .int (v1)), (2, .int (v2)), (3, .int (v3))] [.int (w0), va_rf (w1)] σ := by
  unfold s_Mo_invoiceOf_18 at h
  replace h := Option.bind_eq_some_iff.mp h; obtain ⟨a1, rfl, h⟩ := h
  replace h := Option.bind_eq_some_iff.mp h; obtain ⟨σ2, e3, h⟩ := h
  refine z_put wP_NumberOfficeModel_120_14 (fun q => by cases q) d_Mo_invoiceOf_18 rfl rfl e3 ?_
  refine z_aload_n 0 d_Mo_invoiceOf_21 rfl rfl ?_
  replace h := Option.bind_eq_some_iff.mp h; obtain ⟨x4, e5, h⟩ := h
  refine z_getI wF_NumberOfficeModel_120_14 d_Mo_invoiceOf_22 e5 ?_
  refine z_iconst (v := 1) d_Mo_invoiceOf_25 rfl ?_
  refine z_icmp_ne (tgt := 31) d_Mo_invoiceOf_26 rfl (fun c6 => ?_) (fun c6 => ?_)
  · rw [if_neg c6] at h
    refine z_aload_n 0 d_Mo_invoiceOf_31 rfl rfl ?_
    refine z_iload_n 1 d_Mo_invoiceOf_32 rfl rfl ?_
    refine z_iload_n 2 d_Mo_invoiceOf_33 rfl rfl ?_
    replace h := Option.bind_eq_some_iff.mp h; obtain ⟨_, e60, h⟩ := h
    obtain ⟨b61, f62, e60⟩ := zcls_at (zis_at e60)
    replace h := Option.bind_eq_some_iff.mp h; obtain ⟨⟨x9, σ7⟩, e8, h⟩ := h
    dsimp only at h
    refine z_callV (av := [.int (v1), .int (v2)]) (st := []) wV_NumberOfficeModel_205 e60 (t_Mo_isGiven hG e8) (by decide) (by decide) d_Mo_invoiceOf_34 (by simp [z_rfc, z_ci, z_cl, z_cr, z_cn]) ?_
    show Z _ _ _ _ _ _ 37 [(0, .ref (v0)), (1, .int (v1)), (2, .int (v2)), (3, .int (v3))] [.int (x9)] _
    refine z_if_ne (tgt := 44) d_Mo_invoiceOf_37 rfl (fun c10 => ?_) (fun c10 => ?_)
    · rw [if_neg c10] at h
      refine z_aload_n 0 d_Mo_invoiceOf_44 rfl rfl ?_
      refine z_iload_n 1 d_Mo_invoiceOf_45 rfl rfl ?_
      refine z_iload_n 2 d_Mo_invoiceOf_46 rfl rfl ?_
      replace h := Option.bind_eq_some_iff.mp h; obtain ⟨_, e57, h⟩ := h
      obtain ⟨b58, f59, e57⟩ := zcls_at (zis_at e57)
      replace h := Option.bind_eq_some_iff.mp h; obtain ⟨⟨x13, σ11⟩, e12, h⟩ := h
      dsimp only at h
      refine z_callV (av := [.int (v1), .int (v2)]) (st := []) wV_NumberOfficeModel_148 e57 (t_Mo_at hG e12) (by decide) (by decide) d_Mo_invoiceOf_47 (by simp [z_rfc, z_ci, z_cl, z_cr, z_cn]) ?_
      show Z _ _ _ _ _ _ 50 [(0, .ref (v0)), (1, .int (v1)), (2, .int (v2)), (3, .int (v3))] [.int (x13)] _
      refine z_istore (j := 4) (lv' := [(4, .int (x13)), (0, .ref (v0)), (1, .int (v1)), (2, .int (v2)), (3, .int (v3))]) d_Mo_invoiceOf_50 (by decide) rfl ?_
      refine z_iload_n 4 d_Mo_invoiceOf_52 rfl rfl ?_
      by_cases c14 : (v3 : Int32).toInt < 0 ∨ 3 < (v3 : Int32).toInt
      · rw [if_pos c14] at h
        refine z_tableOut (tgt := 170) d_Mo_invoiceOf_53 c14 rfl ?_
        refine z_ldc2 (v := (-1)) wC_NumberOfficeModel_208 d_Mo_invoiceOf_170 ?_
        cases h
        exact z_lret rfl rfl d_Mo_invoiceOf_173
      · rw [if_neg c14] at h
        by_cases c45 : (v3 : Int32) = 0
        · rw [if_pos c45] at h
          refine z_tableIn (off := 31) (tgt := 84) d_Mo_invoiceOf_53 (by rw [c45]; decide) (by rw [c45]; decide) (by rw [c45]; rfl) rfl ?_
          refine z_aload_n 1 d_Mo_invoiceOf_84 rfl rfl ?_
          replace h := Option.bind_eq_some_iff.mp h; obtain ⟨x46, e47, h⟩ := h
          refine z_getR wF_NumberOfficeModel_80_14 d_Mo_invoiceOf_85 e47 ?_
          refine z_iload 0 d_Mo_invoiceOf_88 rfl ?_
          replace h := Option.bind_eq_some_iff.mp h; obtain ⟨a48, rfl, h⟩ := h
          replace h := Option.bind_eq_some_iff.mp h; obtain ⟨x49, e50, h⟩ := h
          refine z_baload rfl d_Mo_invoiceOf_90 e50 ?_
          refine z_iconst (v := 2) d_Mo_invoiceOf_91 rfl ?_
          refine z_icmp_ne (tgt := 105) d_Mo_invoiceOf_92 rfl (fun c51 => ?_) (fun c51 => ?_)
          · rw [if_neg c51] at h
            refine z_ldc2 (v := (-1)) wC_NumberOfficeModel_208 d_Mo_invoiceOf_105 ?_
            refine z_lv (lv' := [(0, .ref (v0)), (1, .int (v1)), (2, .int (v2)), (3, .int (v3)), (4, .int (x13))]) [1, 2, 3, 4, 0] rfl ?_
            exact t_Mo_invoiceOf_108 hG   h
          · rw [if_pos c51] at h
            refine z_aload_n 1 d_Mo_invoiceOf_95 rfl rfl ?_
            replace h := Option.bind_eq_some_iff.mp h; obtain ⟨x52, e53, h⟩ := h
            refine z_getR wF_NumberOfficeModel_86_14 d_Mo_invoiceOf_96 e53 ?_
            refine z_iload 0 d_Mo_invoiceOf_99 rfl ?_
            replace h := Option.bind_eq_some_iff.mp h; obtain ⟨a54, rfl, h⟩ := h
            replace h := Option.bind_eq_some_iff.mp h; obtain ⟨x55, e56, h⟩ := h
            refine z_laload rfl d_Mo_invoiceOf_101 e56 ?_
            refine z_goto (tgt := 108) d_Mo_invoiceOf_102 rfl ?_
            refine z_lv (lv' := [(0, .ref (v0)), (1, .int (v1)), (2, .int (v2)), (3, .int (v3)), (4, .int (x13))]) [1, 2, 3, 4, 0] rfl ?_
            exact t_Mo_invoiceOf_108 hG   h
        · rw [if_neg c45] at h
          by_cases c33 : (v3 : Int32) = 1
          · rw [if_pos c33] at h
            refine z_tableIn (off := 56) (tgt := 109) d_Mo_invoiceOf_53 (by rw [c33]; decide) (by rw [c33]; decide) (by rw [c33]; rfl) rfl ?_
            refine z_aload_n 1 d_Mo_invoiceOf_109 rfl rfl ?_
            replace h := Option.bind_eq_some_iff.mp h; obtain ⟨x34, e35, h⟩ := h
            refine z_getR wF_NumberOfficeModel_80_14 d_Mo_invoiceOf_110 e35 ?_
            refine z_iload 0 d_Mo_invoiceOf_113 rfl ?_
            replace h := Option.bind_eq_some_iff.mp h; obtain ⟨a36, rfl, h⟩ := h
            replace h := Option.bind_eq_some_iff.mp h; obtain ⟨x37, e38, h⟩ := h
            refine z_baload rfl d_Mo_invoiceOf_115 e38 ?_
            refine z_iconst (v := 2) d_Mo_invoiceOf_116 rfl ?_
            refine z_icmp_ne (tgt := 131) d_Mo_invoiceOf_117 rfl (fun c39 => ?_) (fun c39 => ?_)
            · rw [if_neg c39] at h
              refine z_ldc2 (v := (-1)) wC_NumberOfficeModel_208 d_Mo_invoiceOf_131 ?_
              refine z_lv (lv' := [(0, .ref (v0)), (1, .int (v1)), (2, .int (v2)), (3, .int (v3)), (4, .int (x13))]) [1, 2, 3, 4, 0] rfl ?_
              exact t_Mo_invoiceOf_134 hG   h
            · rw [if_pos c39] at h
              refine z_aload_n 1 d_Mo_invoiceOf_120 rfl rfl ?_
              replace h := Option.bind_eq_some_iff.mp h; obtain ⟨x40, e41, h⟩ := h
              refine z_getR wF_NumberOfficeModel_89_14 d_Mo_invoiceOf_121 e41 ?_
              refine z_iload 0 d_Mo_invoiceOf_124 rfl ?_
              replace h := Option.bind_eq_some_iff.mp h; obtain ⟨a42, rfl, h⟩ := h
              replace h := Option.bind_eq_some_iff.mp h; obtain ⟨x43, e44, h⟩ := h
              refine z_iaload rfl d_Mo_invoiceOf_126 e44 ?_
              refine z_i2l d_Mo_invoiceOf_127 ?_
              refine z_goto (tgt := 134) d_Mo_invoiceOf_128 rfl ?_
              refine z_lv (lv' := [(0, .ref (v0)), (1, .int (v1)), (2, .int (v2)), (3, .int (v3)), (4, .int (x13))]) [1, 2, 3, 4, 0] rfl ?_
              exact t_Mo_invoiceOf_134 hG   h
          · rw [if_neg c33] at h
            by_cases c27 : (v3 : Int32) = 2
            · rw [if_pos c27] at h
              refine z_tableIn (off := 82) (tgt := 135) d_Mo_invoiceOf_53 (by rw [c27]; decide) (by rw [c27]; decide) (by rw [c27]; rfl) rfl ?_
              refine z_aload_n 1 d_Mo_invoiceOf_135 rfl rfl ?_
              replace h := Option.bind_eq_some_iff.mp h; obtain ⟨x28, e29, h⟩ := h
              refine z_getR wF_NumberOfficeModel_83_14 d_Mo_invoiceOf_136 e29 ?_
              refine z_iload 0 d_Mo_invoiceOf_139 rfl ?_
              replace h := Option.bind_eq_some_iff.mp h; obtain ⟨a30, rfl, h⟩ := h
              replace h := Option.bind_eq_some_iff.mp h; obtain ⟨x31, e32, h⟩ := h
              refine z_baload rfl d_Mo_invoiceOf_141 e32 ?_
              refine z_i2l d_Mo_invoiceOf_142 ?_
              cases h
              exact z_lret rfl rfl d_Mo_invoiceOf_143
            · rw [if_neg c27] at h
              by_cases c15 : (v3 : Int32) = 3
              · rw [if_pos c15] at h
                refine z_tableIn (off := 91) (tgt := 144) d_Mo_invoiceOf_53 (by rw [c15]; decide) (by rw [c15]; decide) (by rw [c15]; rfl) rfl ?_
                refine z_aload_n 1 d_Mo_invoiceOf_144 rfl rfl ?_
                replace h := Option.bind_eq_some_iff.mp h; obtain ⟨x16, e17, h⟩ := h
                refine z_getR wF_NumberOfficeModel_80_14 d_Mo_invoiceOf_145 e17 ?_
                refine z_iload 0 d_Mo_invoiceOf_148 rfl ?_
                replace h := Option.bind_eq_some_iff.mp h; obtain ⟨a18, rfl, h⟩ := h
                replace h := Option.bind_eq_some_iff.mp h; obtain ⟨x19, e20, h⟩ := h
                refine z_baload rfl d_Mo_invoiceOf_150 e20 ?_
                refine z_iconst (v := 3) d_Mo_invoiceOf_151 rfl ?_
                refine z_icmp_ne (tgt := 166) d_Mo_invoiceOf_152 rfl (fun c21 => ?_) (fun c21 => ?_)
                · rw [if_neg c21] at h
                  refine z_ldc2 (v := (-1)) wC_NumberOfficeModel_208 d_Mo_invoiceOf_166 ?_
                  refine z_lv (lv' := [(0, .ref (v0)), (1, .int (v1)), (2, .int (v2)), (3, .int (v3)), (4, .int (x13))]) [1, 2, 3, 4, 0] rfl ?_
                  exact t_Mo_invoiceOf_169 hG   h
                · rw [if_pos c21] at h
                  refine z_aload_n 1 d_Mo_invoiceOf_155 rfl rfl ?_
                  replace h := Option.bind_eq_some_iff.mp h; obtain ⟨x22, e23, h⟩ := h
                  refine z_getR wF_NumberOfficeModel_92_14 d_Mo_invoiceOf_156 e23 ?_
                  refine z_iload 0 d_Mo_invoiceOf_159 rfl ?_
                  replace h := Option.bind_eq_some_iff.mp h; obtain ⟨a24, rfl, h⟩ := h
                  replace h := Option.bind_eq_some_iff.mp h; obtain ⟨x25, e26, h⟩ := h
                  refine z_baload rfl d_Mo_invoiceOf_161 e26 ?_
                  refine z_i2l d_Mo_invoiceOf_162 ?_
                  refine z_goto (tgt := 169) d_Mo_invoiceOf_163 rfl ?_
                  refine z_lv (lv' := [(0, .ref (v0)), (1, .int (v1)), (2, .int (v2)), (3, .int (v3)), (4, .int (x13))]) [1, 2, 3, 4, 0] rfl ?_
                  exact t_Mo_invoiceOf_169 hG   h
              · rw [if_neg c15] at h
                cases h
    · rw [if_pos c10] at h
      refine z_ldc2 (v := (-1)) wC_NumberOfficeModel_208 d_Mo_invoiceOf_40 ?_
      cases h
      exact z_lret rfl rfl d_Mo_invoiceOf_43
  · rw [if_pos c6] at h
    refine z_lconst (v := 0) d_Mo_invoiceOf_29 rfl ?_
    cases h
    exact z_lret rfl rfl d_Mo_invoiceOf_30
set_option maxRecDepth 100000 in
theorem t_Mo_invoiceOf {l : Launch} {D : zD} {g : zG} (hG : zGok g D) {v0 : Nat} {v1 : Int32} {v2 : Int32} {v3 : Int32} {σ : zS} {q : Int64 × zS} (h : s_Mo_invoiceOf g v0 v1 v2 v3 σ = some q) : zMet l D Y_Mo_invoiceOf K_Mo_invoiceOf 2 42 [.ref (v0), .int (v1), .int (v2), .int (v3)] σ (.returned (some (.long q.1)), q.2) := by
  refine zMet.ofZ (by decide) rfl (fun q => by cases q) (Nat.le_of_ble_eq_true rfl) ?_
  show Z _ _ _ _ _ _ 0 [(0, .ref (v0)), (1, .int (v1)), (2, .int (v2)), (3, .int (v3))] [] _
  unfold s_Mo_invoiceOf at h
  refine z_aload_n 0 d_Mo_invoiceOf_0 rfl rfl ?_
  refine z_aload_n 0 d_Mo_invoiceOf_1 rfl rfl ?_
  replace h := Option.bind_eq_some_iff.mp h; obtain ⟨x1, e2, h⟩ := h
  refine z_getR wF_NumberOfficeModel_7_14 d_Mo_invoiceOf_2 e2 ?_
  refine z_aload_n 0 d_Mo_invoiceOf_5 rfl rfl ?_
  replace h := Option.bind_eq_some_iff.mp h; obtain ⟨x3, e4, h⟩ := h
  refine z_getI wF_NumberOfficeModel_116_14 d_Mo_invoiceOf_6 e4 ?_
  replace h := Option.bind_eq_some_iff.mp h; obtain ⟨a5, rfl, h⟩ := h
  replace h := Option.bind_eq_some_iff.mp h; obtain ⟨x6, e7, h⟩ := h
  refine z_zaload rfl d_Mo_invoiceOf_9 e7 ?_
  refine z_if_eq (tgt := 17) d_Mo_invoiceOf_10 rfl (fun c8 => ?_) (fun c8 => ?_)
  · rw [if_pos c8] at h
    refine z_iconst (v := 0) d_Mo_invoiceOf_17 rfl ?_
    refine z_lv (lv' := [(0, .ref (v0)), (1, .int (v1)), (2, .int (v2)), (3, .int (v3))]) [0, 1, 2, 3] rfl ?_
    exact t_Mo_invoiceOf_18 hG   h
  · rw [if_neg c8] at h
    refine z_iconst (v := 1) d_Mo_invoiceOf_13 rfl ?_
    refine z_goto (tgt := 18) d_Mo_invoiceOf_14 rfl ?_
    refine z_lv (lv' := [(0, .ref (v0)), (1, .int (v1)), (2, .int (v2)), (3, .int (v3))]) [0, 1, 2, 3] rfl ?_
    exact t_Mo_invoiceOf_18 hG   h

def s_Mo_sum_65 (g : zG) (k5 : Nat → Int32 → Int32 → Int64 → Int32 → zS → Option (Int64 × zS)) (v0 : Nat) (v1 : Int32) (v2 : Int32) (v3 : Int64) (v5 : Int32) (v6 : Int32) (w0 : Int64) (w1 : Int64) (σ : zS) : Option (Int64 × zS) := k5 (v0) (v1) (v2) (w1 + w0) (v5 + 1) σ
def s_Mo_sum_54 (g : zG) (k5 : Nat → Int32 → Int32 → Int64 → Int32 → zS → Option (Int64 × zS)) (v0 : Nat) (v1 : Int32) (v2 : Int32) (v3 : Int64) (v5 : Int32) (v6 : Int32) (w0 : Int64) (σ : zS) : Option (Int64 × zS) := (zgR σ v0 14 26).bind fun x1 => (x1).bind fun a3 => (zaL σ a3 1 (v6)).bind fun x4 => s_Mo_sum_65 g k5 (v0) (v1) (v2) (v3) (v5) (v6) (x4) (w0) σ
def s_Mo_sum_64 (g : zG) (k5 : Nat → Int32 → Int32 → Int64 → Int32 → zS → Option (Int64 × zS)) (v0 : Nat) (v1 : Int32) (v2 : Int32) (v3 : Int64) (v5 : Int32) (v6 : Int32) (w0 : Int64) (σ : zS) : Option (Int64 × zS) := s_Mo_sum_65 g k5 (v0) (v1) (v2) (v3) (v5) (v6) (0) (w0) σ
def s_Mo_sum_5 (g : zG)  : Nat → Nat → Int32 → Int32 → Int64 → Int32 → zS → Option (Int64 × zS)
  | 0, _, _, _, _, _, _ => none
  | n + 1, v0, v1, v2, v3, v5, σ => (zgR σ v0 14 23).bind fun x1 => (x1).bind fun a3 => (zaI σ a3 0 (v1)).bind fun x4 => if x4 < v5 then some (v3, σ) else (zis σ v0 14).bind fun _ => (s_Mo_at g v0 v1 v5 σ).bind fun (x9, σ7) => (zgR σ7 v0 14 24).bind fun x10 => (x10).bind fun a12 => (zaI σ7 a12 2 (x9)).bind fun x13 => if x13 = 2 then if v2 = 6 then s_Mo_sum_54 g (fun v0 v1 v2 v3 v5 σ => s_Mo_sum_5 g  n v0 v1 v2 v3 v5 σ) (v0) (v1) (v2) (v3) (v5) (x9) (v3) σ7 else (zgR σ7 v0 14 25).bind fun x17 => (x17).bind fun a19 => (zaI σ7 a19 2 (x9)).bind fun x20 => if x20 = v2 then s_Mo_sum_54 g (fun v0 v1 v2 v3 v5 σ => s_Mo_sum_5 g  n v0 v1 v2 v3 v5 σ) (v0) (v1) (v2) (v3) (v5) (x9) (v3) σ7 else s_Mo_sum_64 g (fun v0 v1 v2 v3 v5 σ => s_Mo_sum_5 g  n v0 v1 v2 v3 v5 σ) (v0) (v1) (v2) (v3) (v5) (x9) (v3) σ7 else s_Mo_sum_64 g (fun v0 v1 v2 v3 v5 σ => s_Mo_sum_5 g  n v0 v1 v2 v3 v5 σ) (v0) (v1) (v2) (v3) (v5) (x9) (v3) σ7
def s_Mo_sum (g : zG) (v0 : Nat) (v1 : Int32) (v2 : Int32) (σ : zS) : Option (Int64 × zS) := s_Mo_sum_5 g  zfuel (v0) (v1) (v2) (0) (1) σ
set_option maxRecDepth 100000 in
theorem t_Mo_sum_65 {l : Launch} {D : zD} {g : zG} (hG : zGok g D) {q : Int64 × zS} (k5 : Nat → Int32 → Int32 → Int64 → Int32 → zS → Option (Int64 × zS)) (hk5 : ∀ {v0 : Nat} {v1 : Int32} {v2 : Int32} {v3 : Int64} {v5 : Int32} {σ : zS}, k5 v0 v1 v2 v3 v5 σ = some q → Z l D K_Mo_sum 1 22 (.returned (some (.long q.1)), q.2) 5 [(0, .ref (v0)), (1, .int (v1)), (2, .int (v2)), (3, .long (v3)), (5, .int (v5))] [] σ) {v0 : Nat} {v1 : Int32} {v2 : Int32} {v3 : Int64} {v5 : Int32} {v6 : Int32} {w0 : Int64} {w1 : Int64} {σ : zS} (h : s_Mo_sum_65 g k5 v0 v1 v2 v3 v5 v6 w0 w1 σ = some q) : Z l D K_Mo_sum 1 22 (.returned (some (.long q.1)), q.2) 65 [(0, .ref (v0)), (1, .int (v1)), (2, .int (v2)), (3, .long (v3)), (5, .int (v5)), (6, .int (v6))] [.long (w0), .long (w1)] σ := by
  unfold s_Mo_sum_65 at h
  refine z_ladd d_Mo_sum_65 ?_
  refine z_lstore_n (j := 3) (lv' := [(3, .long (w1 + w0)), (0, .ref (v0)), (1, .int (v1)), (2, .int (v2)), (5, .int (v5)), (6, .int (v6))]) d_Mo_sum_66 rfl (by decide) rfl ?_
  refine z_iinc (v := v5 + 1) (lv' := [(5, .int (v5 + 1)), (3, .long (w1 + w0)), (0, .ref (v0)), (1, .int (v1)), (2, .int (v2)), (6, .int (v6))]) 4 d_Mo_sum_67 rfl rfl (by decide) rfl ?_
  refine z_goto (tgt := 5) d_Mo_sum_70 rfl ?_
  refine z_lv (lv' := [(0, .ref (v0)), (1, .int (v1)), (2, .int (v2)), (3, .long (w1 + w0)), (5, .int (v5 + 1))]) [2, 3, 4, 1, 0] rfl ?_
  exact hk5 h
set_option maxRecDepth 100000 in
theorem t_Mo_sum_54 {l : Launch} {D : zD} {g : zG} (hG : zGok g D) {q : Int64 × zS} (k5 : Nat → Int32 → Int32 → Int64 → Int32 → zS → Option (Int64 × zS)) (hk5 : ∀ {v0 : Nat} {v1 : Int32} {v2 : Int32} {v3 : Int64} {v5 : Int32} {σ : zS}, k5 v0 v1 v2 v3 v5 σ = some q → Z l D K_Mo_sum 1 22 (.returned (some (.long q.1)), q.2) 5 [(0, .ref (v0)), (1, .int (v1)), (2, .int (v2)), (3, .long (v3)), (5, .int (v5))] [] σ) {v0 : Nat} {v1 : Int32} {v2 : Int32} {v3 : Int64} {v5 : Int32} {v6 : Int32} {w0 : Int64} {σ : zS} (h : s_Mo_sum_54 g k5 v0 v1 v2 v3 v5 v6 w0 σ = some q) : Z l D K_Mo_sum 1 22 (.returned (some (.long q.1)), q.2) 54 [(0, .ref (v0)), (1, .int (v1)), (2, .int (v2)), (3, .long (v3)), (5, .int (v5)), (6, .int (v6))] [.long (w0)] σ := by
  unfold s_Mo_sum_54 at h
  refine z_aload_n 0 d_Mo_sum_54 rfl rfl ?_
  replace h := Option.bind_eq_some_iff.mp h; obtain ⟨x1, e2, h⟩ := h
  refine z_getR wF_NumberOfficeModel_86_14 d_Mo_sum_55 e2 ?_
  refine z_iload 5 d_Mo_sum_58 rfl ?_
  replace h := Option.bind_eq_some_iff.mp h; obtain ⟨a3, rfl, h⟩ := h
  replace h := Option.bind_eq_some_iff.mp h; obtain ⟨x4, e5, h⟩ := h
  refine z_laload rfl d_Mo_sum_60 e5 ?_
  refine z_goto (tgt := 65) d_Mo_sum_61 rfl ?_
  refine z_lv (lv' := [(0, .ref (v0)), (1, .int (v1)), (2, .int (v2)), (3, .long (v3)), (5, .int (v5)), (6, .int (v6))]) [0, 1, 2, 3, 4, 5] rfl ?_
  exact t_Mo_sum_65 hG _ hk5 h
set_option maxRecDepth 100000 in
theorem t_Mo_sum_64 {l : Launch} {D : zD} {g : zG} (hG : zGok g D) {q : Int64 × zS} (k5 : Nat → Int32 → Int32 → Int64 → Int32 → zS → Option (Int64 × zS)) (hk5 : ∀ {v0 : Nat} {v1 : Int32} {v2 : Int32} {v3 : Int64} {v5 : Int32} {σ : zS}, k5 v0 v1 v2 v3 v5 σ = some q → Z l D K_Mo_sum 1 22 (.returned (some (.long q.1)), q.2) 5 [(0, .ref (v0)), (1, .int (v1)), (2, .int (v2)), (3, .long (v3)), (5, .int (v5))] [] σ) {v0 : Nat} {v1 : Int32} {v2 : Int32} {v3 : Int64} {v5 : Int32} {v6 : Int32} {w0 : Int64} {σ : zS} (h : s_Mo_sum_64 g k5 v0 v1 v2 v3 v5 v6 w0 σ = some q) : Z l D K_Mo_sum 1 22 (.returned (some (.long q.1)), q.2) 64 [(0, .ref (v0)), (1, .int (v1)), (2, .int (v2)), (3, .long (v3)), (5, .int (v5)), (6, .int (v6))] [.long (w0)] σ := by
  unfold s_Mo_sum_64 at h
  refine z_lconst (v := 0) d_Mo_sum_64 rfl ?_
  refine z_lv (lv' := [(0, .ref (v0)), (1, .int (v1)), (2, .int (v2)), (3, .long (v3)), (5, .int (v5)), (6, .int (v6))]) [0, 1, 2, 3, 4, 5] rfl ?_
  exact t_Mo_sum_65 hG _ hk5 h
set_option maxRecDepth 100000 in
theorem t_Mo_sum_5 {l : Launch} {D : zD} {g : zG} (hG : zGok g D) {q : Int64 × zS}   : ∀ (n : Nat) {v0 : Nat} {v1 : Int32} {v2 : Int32} {v3 : Int64} {v5 : Int32} {σ : zS}, s_Mo_sum_5 g  n v0 v1 v2 v3 v5 σ = some q → Z l D K_Mo_sum 1 22 (.returned (some (.long q.1)), q.2) 5 [(0, .ref (v0)), (1, .int (v1)), (2, .int (v2)), (3, .long (v3)), (5, .int (v5))] [] σ := by
  intro n
  induction n with
  | zero =>
    intro v0 v1 v2 v3 v5 σ h
    cases h
  | succ n ih =>
    intro v0 v1 v2 v3 v5 σ h
    first | rw [s_Mo_sum_5] at h | (unfold s_Mo_sum_5 at h; dsimp only at h)
    refine z_iload 4 d_Mo_sum_5 rfl ?_
    refine z_aload_n 0 d_Mo_sum_7 rfl rfl ?_
    replace h := Option.bind_eq_some_iff.mp h; obtain ⟨x1, e2, h⟩ := h
    refine z_getR wF_NumberOfficeModel_77_14 d_Mo_sum_8 e2 ?_
    refine z_iload_n 1 d_Mo_sum_11 rfl rfl ?_
    replace h := Option.bind_eq_some_iff.mp h; obtain ⟨a3, rfl, h⟩ := h
    replace h := Option.bind_eq_some_iff.mp h; obtain ⟨x4, e5, h⟩ := h
    refine z_iaload rfl d_Mo_sum_12 e5 ?_
    refine z_icmp_gt (tgt := 73) d_Mo_sum_13 rfl (fun c6 => ?_) (fun c6 => ?_)
    · rw [if_pos c6] at h
      refine z_lload_n 3 d_Mo_sum_73 rfl rfl ?_
      cases h
      exact z_lret rfl rfl d_Mo_sum_74
    · rw [if_neg c6] at h
      refine z_aload_n 0 d_Mo_sum_16 rfl rfl ?_
      refine z_iload_n 1 d_Mo_sum_17 rfl rfl ?_
      refine z_iload 4 d_Mo_sum_18 rfl ?_
      replace h := Option.bind_eq_some_iff.mp h; obtain ⟨_, e23, h⟩ := h
      obtain ⟨b24, f25, e23⟩ := zcls_at (zis_at e23)
      replace h := Option.bind_eq_some_iff.mp h; obtain ⟨⟨x9, σ7⟩, e8, h⟩ := h
      dsimp only at h
      refine z_callV (av := [.int (v1), .int (v5)]) (st := []) wV_NumberOfficeModel_148 e23 (t_Mo_at hG e8) (by decide) (by decide) d_Mo_sum_20 (by simp [z_rfc, z_ci, z_cl, z_cr, z_cn]) ?_
      show Z _ _ _ _ _ _ 23 [(0, .ref (v0)), (1, .int (v1)), (2, .int (v2)), (3, .long (v3)), (5, .int (v5))] [.int (x9)] _
      refine z_istore (j := 6) (lv' := [(6, .int (x9)), (0, .ref (v0)), (1, .int (v1)), (2, .int (v2)), (3, .long (v3)), (5, .int (v5))]) d_Mo_sum_23 (by decide) rfl ?_
      refine z_lload_n 4 d_Mo_sum_25 rfl rfl ?_
      refine z_aload_n 1 d_Mo_sum_26 rfl rfl ?_
      replace h := Option.bind_eq_some_iff.mp h; obtain ⟨x10, e11, h⟩ := h
      refine z_getR wF_NumberOfficeModel_80_14 d_Mo_sum_27 e11 ?_
      refine z_iload 0 d_Mo_sum_30 rfl ?_
      replace h := Option.bind_eq_some_iff.mp h; obtain ⟨a12, rfl, h⟩ := h
      replace h := Option.bind_eq_some_iff.mp h; obtain ⟨x13, e14, h⟩ := h
      refine z_baload rfl d_Mo_sum_32 e14 ?_
      refine z_iconst (v := 2) d_Mo_sum_33 rfl ?_
      refine z_icmp_ne (tgt := 64) d_Mo_sum_34 rfl (fun c15 => ?_) (fun c15 => ?_)
      · rw [if_neg c15] at h
        refine z_lv (lv' := [(0, .ref (v0)), (1, .int (v1)), (2, .int (v2)), (3, .long (v3)), (5, .int (v5)), (6, .int (x9))]) [1, 2, 3, 4, 5, 0] rfl ?_
        exact t_Mo_sum_64 hG _ (fun h => ih h) h
      · rw [if_pos c15] at h
        refine z_iload_n 3 d_Mo_sum_37 rfl rfl ?_
        refine z_bipush (v := 6) d_Mo_sum_38 rfl ?_
        refine z_icmp_eq (tgt := 54) d_Mo_sum_40 rfl (fun c16 => ?_) (fun c16 => ?_)
        · rw [if_pos c16] at h
          refine z_lv (lv' := [(0, .ref (v0)), (1, .int (v1)), (2, .int (v2)), (3, .long (v3)), (5, .int (v5)), (6, .int (x9))]) [1, 2, 3, 4, 5, 0] rfl ?_
          exact t_Mo_sum_54 hG _ (fun h => ih h) h
        · rw [if_neg c16] at h
          refine z_aload_n 1 d_Mo_sum_43 rfl rfl ?_
          replace h := Option.bind_eq_some_iff.mp h; obtain ⟨x17, e18, h⟩ := h
          refine z_getR wF_NumberOfficeModel_83_14 d_Mo_sum_44 e18 ?_
          refine z_iload 0 d_Mo_sum_47 rfl ?_
          replace h := Option.bind_eq_some_iff.mp h; obtain ⟨a19, rfl, h⟩ := h
          replace h := Option.bind_eq_some_iff.mp h; obtain ⟨x20, e21, h⟩ := h
          refine z_baload rfl d_Mo_sum_49 e21 ?_
          refine z_iload_n 3 d_Mo_sum_50 rfl rfl ?_
          refine z_icmp_ne (tgt := 64) d_Mo_sum_51 rfl (fun c22 => ?_) (fun c22 => ?_)
          · rw [if_neg c22] at h
            refine z_lv (lv' := [(0, .ref (v0)), (1, .int (v1)), (2, .int (v2)), (3, .long (v3)), (5, .int (v5)), (6, .int (x9))]) [1, 2, 3, 4, 5, 0] rfl ?_
            exact t_Mo_sum_64 hG _ (fun h => ih h) h
          · rw [if_pos c22] at h
            refine z_lv (lv' := [(0, .ref (v0)), (1, .int (v1)), (2, .int (v2)), (3, .long (v3)), (5, .int (v5)), (6, .int (x9))]) [1, 2, 3, 4, 5, 0] rfl ?_
            exact t_Mo_sum_54 hG _ (fun h => ih h) h
set_option maxRecDepth 100000 in
theorem t_Mo_sum {l : Launch} {D : zD} {g : zG} (hG : zGok g D) {v0 : Nat} {v1 : Int32} {v2 : Int32} {σ : zS} {q : Int64 × zS} (h : s_Mo_sum g v0 v1 v2 σ = some q) : zMet l D Y_Mo_sum K_Mo_sum 1 22 [.ref (v0), .int (v1), .int (v2)] σ (.returned (some (.long q.1)), q.2) := by
  refine zMet.ofZ (by decide) rfl (fun q => by cases q) (Nat.le_of_ble_eq_true rfl) ?_
  show Z _ _ _ _ _ _ 0 [(0, .ref (v0)), (1, .int (v1)), (2, .int (v2))] [] _
  unfold s_Mo_sum at h
  refine z_lconst (v := 0) d_Mo_sum_0 rfl ?_
  refine z_lstore_n (j := 3) (lv' := [(3, .long (0)), (0, .ref (v0)), (1, .int (v1)), (2, .int (v2))]) d_Mo_sum_1 rfl (by decide) rfl ?_
  refine z_iconst (v := 1) d_Mo_sum_2 rfl ?_
  refine z_istore (j := 5) (lv' := [(5, .int (1)), (3, .long (0)), (0, .ref (v0)), (1, .int (v1)), (2, .int (v2))]) d_Mo_sum_3 (by decide) rfl ?_
  refine z_lv (lv' := [(0, .ref (v0)), (1, .int (v1)), (2, .int (v2)), (3, .long (0)), (5, .int (1))]) [2, 3, 4, 1, 0] rfl ?_
  exact t_Mo_sum_5 hG   zfuel h

def s_Mo_branchFate_29 (g : zG)  (v0 : Nat) (v1 : Int32) (v2 : Int32) (v3 : Int32) (σ : zS) : Option (Int32 × zS) := some ((-1), σ)
def s_Mo_branchFate_70 (g : zG)  (v0 : Nat) (v1 : Int32) (v2 : Int32) (v3 : Int32) (v4 : Int32) (w0 : Int32) (σ : zS) : Option (Int32 × zS) := some (w0, σ)
def s_Mo_branchFate (g : zG) (v0 : Nat) (v1 : Int32) (v2 : Int32) (v3 : Int32) (σ : zS) : Option (Int32 × zS) := (zpF σ v0 14 0 (.int (0))).bind fun σ1 => (zis σ1 v0 14).bind fun _ => (s_Mo_isBranch g v0 v1 σ1).bind fun (x5, σ3) => if x5 = 0 then s_Mo_branchFate_29 g  (v0) (v1) (v2) (v3) σ3 else (s_Mo_isSeries g v2 σ3).bind fun (x9, σ7) => if x9 = 0 then s_Mo_branchFate_29 g  (v0) (v1) (v2) (v3) σ7 else (zgR σ7 v0 14 2).bind fun x11 => (x11).bind fun a13 => (zaI σ7 a13 3 (v1)).bind fun x14 => if x14 = 0 then (zis σ7 v0 14).bind fun _ => (s_Mo_find g v0 ((3 * v1) + v2) v3 σ7).bind fun (x19, σ17) => if x19 = ((-1)) then s_Mo_branchFate_70 g  (v0) (v1) (v2) (v3) (x19) (0) σ17 else (zgR σ17 v0 14 10).bind fun x21 => (x21).bind fun a23 => (zaI σ17 a23 2 ((300 * ((3 * v1) + v2)) + x19)).bind fun x24 => s_Mo_branchFate_70 g  (v0) (v1) (v2) (v3) (x19) (x24) σ17 else s_Mo_branchFate_29 g  (v0) (v1) (v2) (v3) σ7
set_option maxRecDepth 100000 in
theorem t_Mo_branchFate_29 {l : Launch} {D : zD} {g : zG} (hG : zGok g D) {q : Int32 × zS}   {v0 : Nat} {v1 : Int32} {v2 : Int32} {v3 : Int32} {σ : zS} (h : s_Mo_branchFate_29 g  v0 v1 v2 v3 σ = some q) : Z l D K_Mo_branchFate 1 23 (.returned (some (.int q.1)), q.2) 29 [(0, .ref (v0)), (1, .int (v1)), (2, .int (v2)), (3, .int (v3))] [] σ := by
  unfold s_Mo_branchFate_29 at h
  refine z_iconst (v := (-1)) d_Mo_branchFate_29 rfl ?_
  cases h
  exact z_iret rfl rfl d_Mo_branchFate_30
set_option maxRecDepth 100000 in
theorem t_Mo_branchFate_70 {l : Launch} {D : zD} {g : zG} (hG : zGok g D) {q : Int32 × zS}   {v0 : Nat} {v1 : Int32} {v2 : Int32} {v3 : Int32} {v4 : Int32} {w0 : Int32} {σ : zS} (h : s_Mo_branchFate_70 g  v0 v1 v2 v3 v4 w0 σ = some q) : Z l D K_Mo_branchFate 1 23 (.returned (some (.int q.1)), q.2) 70 [(0, .ref (v0)), (1, .int (v1)), (2, .int (v2)), (3, .int (v3)), (4, .int (v4))] [.int (w0)] σ := by
  unfold s_Mo_branchFate_70 at h
  cases h
  exact z_iret rfl rfl d_Mo_branchFate_70
set_option maxRecDepth 100000 in
theorem t_Mo_branchFate {l : Launch} {D : zD} {g : zG} (hG : zGok g D) {v0 : Nat} {v1 : Int32} {v2 : Int32} {v3 : Int32} {σ : zS} {q : Int32 × zS} (h : s_Mo_branchFate g v0 v1 v2 v3 σ = some q) : zMet l D Y_Mo_branchFate K_Mo_branchFate 1 23 [.ref (v0), .int (v1), .int (v2), .int (v3)] σ (.returned (some (.int q.1)), q.2) := by
  refine zMet.ofZ (by decide) rfl (fun q => by cases q) (Nat.le_of_ble_eq_true rfl) ?_
  show Z _ _ _ _ _ _ 0 [(0, .ref (v0)), (1, .int (v1)), (2, .int (v2)), (3, .int (v3))] [] _
  unfold s_Mo_branchFate at h
  refine z_aload_n 0 d_Mo_branchFate_0 rfl rfl ?_
  refine z_iconst (v := 0) d_Mo_branchFate_1 rfl ?_
  replace h := Option.bind_eq_some_iff.mp h; obtain ⟨σ1, e2, h⟩ := h
  refine z_put wP_NumberOfficeModel_120_14 (fun q => by cases q) d_Mo_branchFate_2 rfl rfl e2 ?_
  refine z_aload_n 0 d_Mo_branchFate_5 rfl rfl ?_
  refine z_iload_n 1 d_Mo_branchFate_6 rfl rfl ?_
  replace h := Option.bind_eq_some_iff.mp h; obtain ⟨_, e29, h⟩ := h
  obtain ⟨b30, f31, e29⟩ := zcls_at (zis_at e29)
  replace h := Option.bind_eq_some_iff.mp h; obtain ⟨⟨x5, σ3⟩, e4, h⟩ := h
  dsimp only at h
  refine z_callV (av := [.int (v1)]) (st := []) wV_NumberOfficeModel_163 e29 (t_Mo_isBranch hG e4) (by decide) (by decide) d_Mo_branchFate_7 (by simp [z_rfc, z_ci, z_cl, z_cr, z_cn]) ?_
  show Z _ _ _ _ _ _ 10 [(0, .ref (v0)), (1, .int (v1)), (2, .int (v2)), (3, .int (v3))] [.int (x5)] _
  refine z_if_eq (tgt := 29) d_Mo_branchFate_10 rfl (fun c6 => ?_) (fun c6 => ?_)
  · rw [if_pos c6] at h
    refine z_lv (lv' := [(0, .ref (v0)), (1, .int (v1)), (2, .int (v2)), (3, .int (v3))]) [0, 1, 2, 3] rfl ?_
    exact t_Mo_branchFate_29 hG   h
  · rw [if_neg c6] at h
    refine z_iload_n 2 d_Mo_branchFate_13 rfl rfl ?_
    replace h := Option.bind_eq_some_iff.mp h; obtain ⟨⟨x9, σ7⟩, e8, h⟩ := h
    dsimp only at h
    refine z_callS (av := [.int (v2)]) (st := []) wS_NumberOfficeModel_144 (t_Mo_isSeries hG e8) (by decide) (by decide) d_Mo_branchFate_14 (by simp [z_rfc, z_ci, z_cl, z_cr, z_cn]) ?_
    show Z _ _ _ _ _ _ 17 [(0, .ref (v0)), (1, .int (v1)), (2, .int (v2)), (3, .int (v3))] [.int (x9)] _
    refine z_if_eq (tgt := 29) d_Mo_branchFate_17 rfl (fun c10 => ?_) (fun c10 => ?_)
    · rw [if_pos c10] at h
      refine z_lv (lv' := [(0, .ref (v0)), (1, .int (v1)), (2, .int (v2)), (3, .int (v3))]) [0, 1, 2, 3] rfl ?_
      exact t_Mo_branchFate_29 hG   h
    · rw [if_neg c10] at h
      refine z_aload_n 0 d_Mo_branchFate_20 rfl rfl ?_
      replace h := Option.bind_eq_some_iff.mp h; obtain ⟨x11, e12, h⟩ := h
      refine z_getR wF_NumberOfficeModel_7_14 d_Mo_branchFate_21 e12 ?_
      refine z_iload_n 1 d_Mo_branchFate_24 rfl rfl ?_
      replace h := Option.bind_eq_some_iff.mp h; obtain ⟨a13, rfl, h⟩ := h
      replace h := Option.bind_eq_some_iff.mp h; obtain ⟨x14, e15, h⟩ := h
      refine z_zaload rfl d_Mo_branchFate_25 e15 ?_
      refine z_if_eq (tgt := 31) d_Mo_branchFate_26 rfl (fun c16 => ?_) (fun c16 => ?_)
      · rw [if_pos c16] at h
        refine z_aload_n 0 d_Mo_branchFate_31 rfl rfl ?_
        refine z_iconst (v := 3) d_Mo_branchFate_32 rfl ?_
        refine z_iload_n 1 d_Mo_branchFate_33 rfl rfl ?_
        refine z_imul d_Mo_branchFate_34 ?_
        refine z_iload_n 2 d_Mo_branchFate_35 rfl rfl ?_
        refine z_iadd d_Mo_branchFate_36 ?_
        refine z_iload_n 3 d_Mo_branchFate_37 rfl rfl ?_
        replace h := Option.bind_eq_some_iff.mp h; obtain ⟨_, e26, h⟩ := h
        obtain ⟨b27, f28, e26⟩ := zcls_at (zis_at e26)
        replace h := Option.bind_eq_some_iff.mp h; obtain ⟨⟨x19, σ17⟩, e18, h⟩ := h
        dsimp only at h
        refine z_callV (av := [.int ((3 * v1) + v2), .int (v3)]) (st := []) wV_NumberOfficeModel_186 e26 (t_Mo_find hG e18) (by decide) (by decide) d_Mo_branchFate_38 (by simp [z_rfc, z_ci, z_cl, z_cr, z_cn]) ?_
        show Z _ _ _ _ _ _ 41 [(0, .ref (v0)), (1, .int (v1)), (2, .int (v2)), (3, .int (v3))] [.int (x19)] _
        refine z_istore (j := 4) (lv' := [(4, .int (x19)), (0, .ref (v0)), (1, .int (v1)), (2, .int (v2)), (3, .int (v3))]) d_Mo_branchFate_41 (by decide) rfl ?_
        refine z_iload 0 d_Mo_branchFate_43 rfl ?_
        refine z_iconst (v := (-1)) d_Mo_branchFate_45 rfl ?_
        refine z_icmp_ne (tgt := 53) d_Mo_branchFate_46 rfl (fun c20 => ?_) (fun c20 => ?_)
        · rw [if_neg c20] at h
          refine z_aload_n 1 d_Mo_branchFate_53 rfl rfl ?_
          replace h := Option.bind_eq_some_iff.mp h; obtain ⟨x21, e22, h⟩ := h
          refine z_getR wF_NumberOfficeModel_36_14 d_Mo_branchFate_54 e22 ?_
          refine z_sipush (v := 300) d_Mo_branchFate_57 rfl ?_
          refine z_iconst (v := 3) d_Mo_branchFate_60 rfl ?_
          refine z_iload_n 2 d_Mo_branchFate_61 rfl rfl ?_
          refine z_imul d_Mo_branchFate_62 ?_
          refine z_iload_n 3 d_Mo_branchFate_63 rfl rfl ?_
          refine z_iadd d_Mo_branchFate_64 ?_
          refine z_imul d_Mo_branchFate_65 ?_
          refine z_iload 0 d_Mo_branchFate_66 rfl ?_
          refine z_iadd d_Mo_branchFate_68 ?_
          replace h := Option.bind_eq_some_iff.mp h; obtain ⟨a23, rfl, h⟩ := h
          replace h := Option.bind_eq_some_iff.mp h; obtain ⟨x24, e25, h⟩ := h
          refine z_baload rfl d_Mo_branchFate_69 e25 ?_
          refine z_lv (lv' := [(0, .ref (v0)), (1, .int (v1)), (2, .int (v2)), (3, .int (v3)), (4, .int (x19))]) [1, 2, 3, 4, 0] rfl ?_
          exact t_Mo_branchFate_70 hG   h
        · rw [if_pos c20] at h
          refine z_iconst (v := 0) d_Mo_branchFate_49 rfl ?_
          refine z_goto (tgt := 70) d_Mo_branchFate_50 rfl ?_
          refine z_lv (lv' := [(0, .ref (v0)), (1, .int (v1)), (2, .int (v2)), (3, .int (v3)), (4, .int (x19))]) [1, 2, 3, 4, 0] rfl ?_
          exact t_Mo_branchFate_70 hG   h
      · rw [if_neg c16] at h
        refine z_lv (lv' := [(0, .ref (v0)), (1, .int (v1)), (2, .int (v2)), (3, .int (v3))]) [0, 1, 2, 3] rfl ?_
        exact t_Mo_branchFate_29 hG   h

def s_Mo_branch_22 (g : zG)  (v0 : Nat) (v1 : Int32) (v2 : Int32) (σ : zS) : Option (Int32 × zS) := some ((-1), σ)
def s_Mo_branch_78 (g : zG)  (v0 : Nat) (v1 : Int32) (v2 : Int32) (w0 : Int32) (σ : zS) : Option (Int32 × zS) := some (w0, σ)
def s_Mo_branch_100 (g : zG)  (v0 : Nat) (v1 : Int32) (v2 : Int32) (w0 : Int32) (σ : zS) : Option (Int32 × zS) := some (w0, σ)
def s_Mo_branch_101 (g : zG)  (v0 : Nat) (v1 : Int32) (v2 : Int32) (σ : zS) : Option (Int32 × zS) := (zgR σ v0 14 6).bind fun x1 => (x1).bind fun a3 => (zaI σ a3 0 (((3 * v1) + v2) - 3)).bind fun x4 => (zgR σ v0 14 7).bind fun x6 => (x6).bind fun a8 => (zaI σ a8 0 (((3 * v1) + v2) - 3)).bind fun x9 => some (x4 - x9, σ)
def s_Mo_branch (g : zG) (v0 : Nat) (v1 : Int32) (v2 : Int32) (σ : zS) : Option (Int32 × zS) := (zpF σ v0 14 0 (.int (0))).bind fun σ1 => (zis σ1 v0 14).bind fun _ => (s_Mo_isBranch g v0 v1 σ1).bind fun (x5, σ3) => if x5 = 0 then s_Mo_branch_22 g  (v0) (v1) (v2) σ3 else (zgR σ3 v0 14 2).bind fun x7 => (x7).bind fun a9 => (zaI σ3 a9 3 (v1)).bind fun x10 => if x10 = 0 then if (v2 : Int32).toInt < 0 ∨ 5 < (v2 : Int32).toInt then some ((-1), σ3) else if (v2 : Int32) = 0 then (zgR σ3 v0 14 19).bind fun x31 => (x31).bind fun a33 => (zaI σ3 a33 3 (v1)).bind fun x34 => if x34 = 0 then s_Mo_branch_78 g  (v0) (v1) (v2) (0) σ3 else s_Mo_branch_78 g  (v0) (v1) (v2) (1) σ3 else if (v2 : Int32) = 1 then (zgR σ3 v0 14 15).bind fun x25 => (x25).bind fun a27 => (zaI σ3 a27 0 (v1)).bind fun x28 => some (x28, σ3) else if (v2 : Int32) = 2 then (zgR σ3 v0 14 20).bind fun x18 => (x18).bind fun a20 => (zaI σ3 a20 3 (v1)).bind fun x21 => if x21 = 0 then s_Mo_branch_100 g  (v0) (v1) (v2) (0) σ3 else s_Mo_branch_100 g  (v0) (v1) (v2) (1) σ3 else if (v2 : Int32) = 3 then s_Mo_branch_101 g  (v0) (v1) (v2) σ3 else if (v2 : Int32) = 4 then s_Mo_branch_101 g  (v0) (v1) (v2) σ3 else if (v2 : Int32) = 5 then s_Mo_branch_101 g  (v0) (v1) (v2) σ3 else none else s_Mo_branch_22 g  (v0) (v1) (v2) σ3
set_option maxRecDepth 100000 in
theorem t_Mo_branch_22 {l : Launch} {D : zD} {g : zG} (hG : zGok g D) {q : Int32 × zS}   {v0 : Nat} {v1 : Int32} {v2 : Int32} {σ : zS} (h : s_Mo_branch_22 g  v0 v1 v2 σ = some q) : Z l D K_Mo_branch 1 21 (.returned (some (.int q.1)), q.2) 22 [(0, .ref (v0)), (1, .int (v1)), (2, .int (v2))] [] σ := by
  unfold s_Mo_branch_22 at h
  refine z_iconst (v := (-1)) d_Mo_branch_22 rfl ?_
  cases h
  exact z_iret rfl rfl d_Mo_branch_23
set_option maxRecDepth 100000 in
theorem t_Mo_branch_78 {l : Launch} {D : zD} {g : zG} (hG : zGok g D) {q : Int32 × zS}   {v0 : Nat} {v1 : Int32} {v2 : Int32} {w0 : Int32} {σ : zS} (h : s_Mo_branch_78 g  v0 v1 v2 w0 σ = some q) : Z l D K_Mo_branch 1 21 (.returned (some (.int q.1)), q.2) 78 [(0, .ref (v0)), (1, .int (v1)), (2, .int (v2))] [.int (w0)] σ := by
  unfold s_Mo_branch_78 at h
  cases h
  exact z_iret rfl rfl d_Mo_branch_78
set_option maxRecDepth 100000 in
theorem t_Mo_branch_100 {l : Launch} {D : zD} {g : zG} (hG : zGok g D) {q : Int32 × zS}   {v0 : Nat} {v1 : Int32} {v2 : Int32} {w0 : Int32} {σ : zS} (h : s_Mo_branch_100 g  v0 v1 v2 w0 σ = some q) : Z l D K_Mo_branch 1 21 (.returned (some (.int q.1)), q.2) 100 [(0, .ref (v0)), (1, .int (v1)), (2, .int (v2))] [.int (w0)] σ := by
  unfold s_Mo_branch_100 at h
  cases h
  exact z_iret rfl rfl d_Mo_branch_100
set_option maxRecDepth 100000 in
theorem t_Mo_branch_101 {l : Launch} {D : zD} {g : zG} (hG : zGok g D) {q : Int32 × zS}   {v0 : Nat} {v1 : Int32} {v2 : Int32} {σ : zS} (h : s_Mo_branch_101 g  v0 v1 v2 σ = some q) : Z l D K_Mo_branch 1 21 (.returned (some (.int q.1)), q.2) 101 [(0, .ref (v0)), (1, .int (v1)), (2, .int (v2))] [] σ := by
  unfold s_Mo_branch_101 at h
  refine z_aload_n 0 d_Mo_branch_101 rfl rfl ?_
  replace h := Option.bind_eq_some_iff.mp h; obtain ⟨x1, e2, h⟩ := h
  refine z_getR wF_NumberOfficeModel_23_14 d_Mo_branch_102 e2 ?_
  refine z_iconst (v := 3) d_Mo_branch_105 rfl ?_
  refine z_iload_n 1 d_Mo_branch_106 rfl rfl ?_
  refine z_imul d_Mo_branch_107 ?_
  refine z_iload_n 2 d_Mo_branch_108 rfl rfl ?_
  refine z_iadd d_Mo_branch_109 ?_
  refine z_iconst (v := 3) d_Mo_branch_110 rfl ?_
  refine z_isub d_Mo_branch_111 ?_
  replace h := Option.bind_eq_some_iff.mp h; obtain ⟨a3, rfl, h⟩ := h
  replace h := Option.bind_eq_some_iff.mp h; obtain ⟨x4, e5, h⟩ := h
  refine z_iaload rfl d_Mo_branch_112 e5 ?_
  refine z_aload_n 0 d_Mo_branch_113 rfl rfl ?_
  replace h := Option.bind_eq_some_iff.mp h; obtain ⟨x6, e7, h⟩ := h
  refine z_getR wF_NumberOfficeModel_26_14 d_Mo_branch_114 e7 ?_
  refine z_iconst (v := 3) d_Mo_branch_117 rfl ?_
  refine z_iload_n 1 d_Mo_branch_118 rfl rfl ?_
  refine z_imul d_Mo_branch_119 ?_
  refine z_iload_n 2 d_Mo_branch_120 rfl rfl ?_
  refine z_iadd d_Mo_branch_121 ?_
  refine z_iconst (v := 3) d_Mo_branch_122 rfl ?_
  refine z_isub d_Mo_branch_123 ?_
  replace h := Option.bind_eq_some_iff.mp h; obtain ⟨a8, rfl, h⟩ := h
  replace h := Option.bind_eq_some_iff.mp h; obtain ⟨x9, e10, h⟩ := h
  refine z_iaload rfl d_Mo_branch_124 e10 ?_
  refine z_isub d_Mo_branch_125 ?_
  cases h
  exact z_iret rfl rfl d_Mo_branch_126
set_option maxRecDepth 100000 in
theorem t_Mo_branch {l : Launch} {D : zD} {g : zG} (hG : zGok g D) {v0 : Nat} {v1 : Int32} {v2 : Int32} {σ : zS} {q : Int32 × zS} (h : s_Mo_branch g v0 v1 v2 σ = some q) : zMet l D Y_Mo_branch K_Mo_branch 1 21 [.ref (v0), .int (v1), .int (v2)] σ (.returned (some (.int q.1)), q.2) := by
  refine zMet.ofZ (by decide) rfl (fun q => by cases q) (Nat.le_of_ble_eq_true rfl) ?_
  show Z _ _ _ _ _ _ 0 [(0, .ref (v0)), (1, .int (v1)), (2, .int (v2))] [] _
  unfold s_Mo_branch at h
  refine z_aload_n 0 d_Mo_branch_0 rfl rfl ?_
  refine z_iconst (v := 0) d_Mo_branch_1 rfl ?_
  replace h := Option.bind_eq_some_iff.mp h; obtain ⟨σ1, e2, h⟩ := h
  refine z_put wP_NumberOfficeModel_120_14 (fun q => by cases q) d_Mo_branch_2 rfl rfl e2 ?_
  refine z_aload_n 0 d_Mo_branch_5 rfl rfl ?_
  refine z_iload_n 1 d_Mo_branch_6 rfl rfl ?_
  replace h := Option.bind_eq_some_iff.mp h; obtain ⟨_, e37, h⟩ := h
  obtain ⟨b38, f39, e37⟩ := zcls_at (zis_at e37)
  replace h := Option.bind_eq_some_iff.mp h; obtain ⟨⟨x5, σ3⟩, e4, h⟩ := h
  dsimp only at h
  refine z_callV (av := [.int (v1)]) (st := []) wV_NumberOfficeModel_163 e37 (t_Mo_isBranch hG e4) (by decide) (by decide) d_Mo_branch_7 (by simp [z_rfc, z_ci, z_cl, z_cr, z_cn]) ?_
  show Z _ _ _ _ _ _ 10 [(0, .ref (v0)), (1, .int (v1)), (2, .int (v2))] [.int (x5)] _
  refine z_if_eq (tgt := 22) d_Mo_branch_10 rfl (fun c6 => ?_) (fun c6 => ?_)
  · rw [if_pos c6] at h
    refine z_lv (lv' := [(0, .ref (v0)), (1, .int (v1)), (2, .int (v2))]) [0, 1, 2] rfl ?_
    exact t_Mo_branch_22 hG   h
  · rw [if_neg c6] at h
    refine z_aload_n 0 d_Mo_branch_13 rfl rfl ?_
    replace h := Option.bind_eq_some_iff.mp h; obtain ⟨x7, e8, h⟩ := h
    refine z_getR wF_NumberOfficeModel_7_14 d_Mo_branch_14 e8 ?_
    refine z_iload_n 1 d_Mo_branch_17 rfl rfl ?_
    replace h := Option.bind_eq_some_iff.mp h; obtain ⟨a9, rfl, h⟩ := h
    replace h := Option.bind_eq_some_iff.mp h; obtain ⟨x10, e11, h⟩ := h
    refine z_zaload rfl d_Mo_branch_18 e11 ?_
    refine z_if_eq (tgt := 24) d_Mo_branch_19 rfl (fun c12 => ?_) (fun c12 => ?_)
    · rw [if_pos c12] at h
      refine z_iload_n 2 d_Mo_branch_24 rfl rfl ?_
      by_cases c13 : (v2 : Int32).toInt < 0 ∨ 5 < (v2 : Int32).toInt
      · rw [if_pos c13] at h
        refine z_tableOut (tgt := 127) d_Mo_branch_25 c13 rfl ?_
        refine z_iconst (v := (-1)) d_Mo_branch_127 rfl ?_
        cases h
        exact z_iret rfl rfl d_Mo_branch_128
      · rw [if_neg c13] at h
        by_cases c30 : (v2 : Int32) = 0
        · rw [if_pos c30] at h
          refine z_tableIn (off := 39) (tgt := 64) d_Mo_branch_25 (by rw [c30]; decide) (by rw [c30]; decide) (by rw [c30]; rfl) rfl ?_
          refine z_aload_n 0 d_Mo_branch_64 rfl rfl ?_
          replace h := Option.bind_eq_some_iff.mp h; obtain ⟨x31, e32, h⟩ := h
          refine z_getR wF_NumberOfficeModel_65_14 d_Mo_branch_65 e32 ?_
          refine z_iload_n 1 d_Mo_branch_68 rfl rfl ?_
          replace h := Option.bind_eq_some_iff.mp h; obtain ⟨a33, rfl, h⟩ := h
          replace h := Option.bind_eq_some_iff.mp h; obtain ⟨x34, e35, h⟩ := h
          refine z_zaload rfl d_Mo_branch_69 e35 ?_
          refine z_if_eq (tgt := 77) d_Mo_branch_70 rfl (fun c36 => ?_) (fun c36 => ?_)
          · rw [if_pos c36] at h
            refine z_iconst (v := 0) d_Mo_branch_77 rfl ?_
            refine z_lv (lv' := [(0, .ref (v0)), (1, .int (v1)), (2, .int (v2))]) [0, 1, 2] rfl ?_
            exact t_Mo_branch_78 hG   h
          · rw [if_neg c36] at h
            refine z_iconst (v := 1) d_Mo_branch_73 rfl ?_
            refine z_goto (tgt := 78) d_Mo_branch_74 rfl ?_
            refine z_lv (lv' := [(0, .ref (v0)), (1, .int (v1)), (2, .int (v2))]) [0, 1, 2] rfl ?_
            exact t_Mo_branch_78 hG   h
        · rw [if_neg c30] at h
          by_cases c24 : (v2 : Int32) = 1
          · rw [if_pos c24] at h
            refine z_tableIn (off := 54) (tgt := 79) d_Mo_branch_25 (by rw [c24]; decide) (by rw [c24]; decide) (by rw [c24]; rfl) rfl ?_
            refine z_aload_n 0 d_Mo_branch_79 rfl rfl ?_
            replace h := Option.bind_eq_some_iff.mp h; obtain ⟨x25, e26, h⟩ := h
            refine z_getR wF_NumberOfficeModel_53_14 d_Mo_branch_80 e26 ?_
            refine z_iload_n 1 d_Mo_branch_83 rfl rfl ?_
            replace h := Option.bind_eq_some_iff.mp h; obtain ⟨a27, rfl, h⟩ := h
            replace h := Option.bind_eq_some_iff.mp h; obtain ⟨x28, e29, h⟩ := h
            refine z_iaload rfl d_Mo_branch_84 e29 ?_
            cases h
            exact z_iret rfl rfl d_Mo_branch_85
          · rw [if_neg c24] at h
            by_cases c17 : (v2 : Int32) = 2
            · rw [if_pos c17] at h
              refine z_tableIn (off := 61) (tgt := 86) d_Mo_branch_25 (by rw [c17]; decide) (by rw [c17]; decide) (by rw [c17]; rfl) rfl ?_
              refine z_aload_n 0 d_Mo_branch_86 rfl rfl ?_
              replace h := Option.bind_eq_some_iff.mp h; obtain ⟨x18, e19, h⟩ := h
              refine z_getR wF_NumberOfficeModel_68_14 d_Mo_branch_87 e19 ?_
              refine z_iload_n 1 d_Mo_branch_90 rfl rfl ?_
              replace h := Option.bind_eq_some_iff.mp h; obtain ⟨a20, rfl, h⟩ := h
              replace h := Option.bind_eq_some_iff.mp h; obtain ⟨x21, e22, h⟩ := h
              refine z_zaload rfl d_Mo_branch_91 e22 ?_
              refine z_if_eq (tgt := 99) d_Mo_branch_92 rfl (fun c23 => ?_) (fun c23 => ?_)
              · rw [if_pos c23] at h
                refine z_iconst (v := 0) d_Mo_branch_99 rfl ?_
                refine z_lv (lv' := [(0, .ref (v0)), (1, .int (v1)), (2, .int (v2))]) [0, 1, 2] rfl ?_
                exact t_Mo_branch_100 hG   h
              · rw [if_neg c23] at h
                refine z_iconst (v := 1) d_Mo_branch_95 rfl ?_
                refine z_goto (tgt := 100) d_Mo_branch_96 rfl ?_
                refine z_lv (lv' := [(0, .ref (v0)), (1, .int (v1)), (2, .int (v2))]) [0, 1, 2] rfl ?_
                exact t_Mo_branch_100 hG   h
            · rw [if_neg c17] at h
              by_cases c16 : (v2 : Int32) = 3
              · rw [if_pos c16] at h
                refine z_tableIn (off := 76) (tgt := 101) d_Mo_branch_25 (by rw [c16]; decide) (by rw [c16]; decide) (by rw [c16]; rfl) rfl ?_
                refine z_lv (lv' := [(0, .ref (v0)), (1, .int (v1)), (2, .int (v2))]) [0, 1, 2] rfl ?_
                exact t_Mo_branch_101 hG   h
              · rw [if_neg c16] at h
                by_cases c15 : (v2 : Int32) = 4
                · rw [if_pos c15] at h
                  refine z_tableIn (off := 76) (tgt := 101) d_Mo_branch_25 (by rw [c15]; decide) (by rw [c15]; decide) (by rw [c15]; rfl) rfl ?_
                  refine z_lv (lv' := [(0, .ref (v0)), (1, .int (v1)), (2, .int (v2))]) [0, 1, 2] rfl ?_
                  exact t_Mo_branch_101 hG   h
                · rw [if_neg c15] at h
                  by_cases c14 : (v2 : Int32) = 5
                  · rw [if_pos c14] at h
                    refine z_tableIn (off := 76) (tgt := 101) d_Mo_branch_25 (by rw [c14]; decide) (by rw [c14]; decide) (by rw [c14]; rfl) rfl ?_
                    refine z_lv (lv' := [(0, .ref (v0)), (1, .int (v1)), (2, .int (v2))]) [0, 1, 2] rfl ?_
                    exact t_Mo_branch_101 hG   h
                  · rw [if_neg c14] at h
                    cases h
    · rw [if_neg c12] at h
      refine z_lv (lv' := [(0, .ref (v0)), (1, .int (v1)), (2, .int (v2))]) [0, 1, 2] rfl ?_
      exact t_Mo_branch_22 hG   h

def s_Mo_put_20 (g : zG)  (v0 : Nat) (v1 : Int32) (w0 : Int32) (w1 : Option Nat) (σ : zS) : Option (zS) := (w1).bind fun a1 => (zpF σ a1 14 39 (.int (w0))).bind fun σ2 => (zgI σ2 v0 14 38).bind fun x4 => (zpF σ2 v0 14 38 (.int (x4 + 1))).bind fun σ6 => some σ6
def s_Mo_put (g : zG) (v0 : Nat) (v1 : Int32) (σ : zS) : Option (zS) := (zgI σ v0 14 38).bind fun x1 => (zgI σ v0 14 37).bind fun x3 => if x1 = x3 then s_Mo_put_20 g  (v0) (v1) (v1) (some (v0)) σ else (zgI σ v0 14 39).bind fun x6 => s_Mo_put_20 g  (v0) (v1) (x6) (some (v0)) σ
set_option maxRecDepth 100000 in
theorem t_Mo_put_20 {l : Launch} {D : zD} {g : zG} (hG : zGok g D) {q : zS}   {v0 : Nat} {v1 : Int32} {w0 : Int32} {w1 : Option Nat} {σ : zS} (h : s_Mo_put_20 g  v0 v1 w0 w1 σ = some q) : Z l D K_Mo_put 0 0 (.returned none, q) 20 [(0, .ref (v0)), (1, .int (v1))] [.int (w0), va_rf (w1)] σ := by
  unfold s_Mo_put_20 at h
  replace h := Option.bind_eq_some_iff.mp h; obtain ⟨a1, rfl, h⟩ := h
  replace h := Option.bind_eq_some_iff.mp h; obtain ⟨σ2, e3, h⟩ := h
  refine z_put wP_NumberOfficeModel_220_14 (fun q => by cases q) d_Mo_put_20 rfl rfl e3 ?_
  refine z_aload_n 0 d_Mo_put_23 rfl rfl ?_
  refine z_dup d_Mo_put_24 rfl ?_
  replace h := Option.bind_eq_some_iff.mp h; obtain ⟨x4, e5, h⟩ := h
  refine z_getI wF_NumberOfficeModel_214_14 d_Mo_put_25 e5 ?_
  refine z_iconst (v := 1) d_Mo_put_28 rfl ?_
  refine z_iadd d_Mo_put_29 ?_
  replace h := Option.bind_eq_some_iff.mp h; obtain ⟨σ6, e7, h⟩ := h
  refine z_put wP_NumberOfficeModel_214_14 (fun q => by cases q) d_Mo_put_30 rfl rfl e7 ?_
  cases h
  exact z_vret rfl rfl d_Mo_put_33
set_option maxRecDepth 100000 in
theorem t_Mo_put {l : Launch} {D : zD} {g : zG} (hG : zGok g D) {v0 : Nat} {v1 : Int32} {σ : zS} {q : zS} (h : s_Mo_put g v0 v1 σ = some q) : zMet l D Y_Mo_put K_Mo_put 0 0 [.ref (v0), .int (v1)] σ (.returned none, q) := by
  refine zMet.ofZ (by decide) rfl (fun q => by cases q) (Nat.le_of_ble_eq_true rfl) ?_
  show Z _ _ _ _ _ _ 0 [(0, .ref (v0)), (1, .int (v1))] [] _
  unfold s_Mo_put at h
  refine z_aload_n 0 d_Mo_put_0 rfl rfl ?_
  refine z_aload_n 0 d_Mo_put_1 rfl rfl ?_
  replace h := Option.bind_eq_some_iff.mp h; obtain ⟨x1, e2, h⟩ := h
  refine z_getI wF_NumberOfficeModel_214_14 d_Mo_put_2 e2 ?_
  refine z_aload_n 0 d_Mo_put_5 rfl rfl ?_
  replace h := Option.bind_eq_some_iff.mp h; obtain ⟨x3, e4, h⟩ := h
  refine z_getI wF_NumberOfficeModel_217_14 d_Mo_put_6 e4 ?_
  refine z_icmp_ne (tgt := 16) d_Mo_put_9 rfl (fun c5 => ?_) (fun c5 => ?_)
  · rw [if_neg c5] at h
    refine z_aload_n 0 d_Mo_put_16 rfl rfl ?_
    replace h := Option.bind_eq_some_iff.mp h; obtain ⟨x6, e7, h⟩ := h
    refine z_getI wF_NumberOfficeModel_220_14 d_Mo_put_17 e7 ?_
    refine z_lv (lv' := [(0, .ref (v0)), (1, .int (v1))]) [0, 1] rfl ?_
    exact t_Mo_put_20 hG   h
  · rw [if_pos c5] at h
    refine z_iload_n 1 d_Mo_put_12 rfl rfl ?_
    refine z_goto (tgt := 20) d_Mo_put_13 rfl ?_
    refine z_lv (lv' := [(0, .ref (v0)), (1, .int (v1))]) [0, 1] rfl ?_
    exact t_Mo_put_20 hG   h

def s_Mo_series_57 (g : zG)  (v0 : Nat) (v1 : Int32) (v2 : Int32) (σ : zS) : Option (Int32 × zS) := some (0, σ)
def s_Mo_series_18 (g : zG)  (v0 : Nat) (v1 : Int32) (v2 : Int32) (w0 : Int32) (w1 : Option Nat) (σ : zS) : Option (Int32 × zS) := (w1).bind fun a1 => (zpF σ a1 14 0 (.int (w0))).bind fun σ2 => (zgI σ2 v0 14 0).bind fun x4 => if x4 = 1 then s_Mo_series_57 g  (v0) (v1) (v2) σ2 else (s_Mo_isSeries g v1 σ2).bind fun (x9, σ7) => if x9 = 0 then s_Mo_series_57 g  (v0) (v1) (v2) σ7 else (zgR σ7 v0 14 21).bind fun x11 => (x11).bind fun a13 => (zaI σ7 a13 0 (v1)).bind fun x14 => if x14 = 0 then if v2 < 1 then s_Mo_series_57 g  (v0) (v1) (v2) σ7 else if v2 ≤ 9999 then (zgR σ7 v0 14 21).bind fun x19 => (x19).bind fun a21 => (zsI σ7 a21 0 (v1) (1)).bind fun σ22 => (zgR σ22 v0 14 22).bind fun x24 => (x24).bind fun a26 => (zsI σ22 a26 0 (v1) (v2)).bind fun σ27 => some (1, σ27) else s_Mo_series_57 g  (v0) (v1) (v2) σ7 else s_Mo_series_57 g  (v0) (v1) (v2) σ7
def s_Mo_series (g : zG) (v0 : Nat) (v1 : Int32) (v2 : Int32) (σ : zS) : Option (Int32 × zS) := (zgR σ v0 14 2).bind fun x1 => (zgI σ v0 14 1).bind fun x3 => (x1).bind fun a5 => (zaI σ a5 3 (x3)).bind fun x6 => if x6 = 0 then s_Mo_series_18 g  (v0) (v1) (v2) (0) (some (v0)) σ else s_Mo_series_18 g  (v0) (v1) (v2) (1) (some (v0)) σ
set_option maxRecDepth 100000 in
theorem t_Mo_series_57 {l : Launch} {D : zD} {g : zG} (hG : zGok g D) {q : Int32 × zS}   {v0 : Nat} {v1 : Int32} {v2 : Int32} {σ : zS} (h : s_Mo_series_57 g  v0 v1 v2 σ = some q) : Z l D K_Mo_series 1 20 (.returned (some (.int q.1)), q.2) 57 [(0, .ref (v0)), (1, .int (v1)), (2, .int (v2))] [] σ := by
  unfold s_Mo_series_57 at h
  refine z_iconst (v := 0) d_Mo_series_57 rfl ?_
  cases h
  exact z_zret rfl rfl rfl d_Mo_series_58
set_option maxRecDepth 100000 in
theorem t_Mo_series_18 {l : Launch} {D : zD} {g : zG} (hG : zGok g D) {q : Int32 × zS}   {v0 : Nat} {v1 : Int32} {v2 : Int32} {w0 : Int32} {w1 : Option Nat} {σ : zS} (h : s_Mo_series_18 g  v0 v1 v2 w0 w1 σ = some q) : Z l D K_Mo_series 1 20 (.returned (some (.int q.1)), q.2) 18 [(0, .ref (v0)), (1, .int (v1)), (2, .int (v2))] [.int (w0), va_rf (w1)] σ := by
  unfold s_Mo_series_18 at h
  replace h := Option.bind_eq_some_iff.mp h; obtain ⟨a1, rfl, h⟩ := h
  replace h := Option.bind_eq_some_iff.mp h; obtain ⟨σ2, e3, h⟩ := h
  refine z_put wP_NumberOfficeModel_120_14 (fun q => by cases q) d_Mo_series_18 rfl rfl e3 ?_
  refine z_aload_n 0 d_Mo_series_21 rfl rfl ?_
  replace h := Option.bind_eq_some_iff.mp h; obtain ⟨x4, e5, h⟩ := h
  refine z_getI wF_NumberOfficeModel_120_14 d_Mo_series_22 e5 ?_
  refine z_iconst (v := 1) d_Mo_series_25 rfl ?_
  refine z_icmp_eq (tgt := 57) d_Mo_series_26 rfl (fun c6 => ?_) (fun c6 => ?_)
  · rw [if_pos c6] at h
    refine z_lv (lv' := [(0, .ref (v0)), (1, .int (v1)), (2, .int (v2))]) [0, 1, 2] rfl ?_
    exact t_Mo_series_57 hG   h
  · rw [if_neg c6] at h
    refine z_iload_n 1 d_Mo_series_29 rfl rfl ?_
    replace h := Option.bind_eq_some_iff.mp h; obtain ⟨⟨x9, σ7⟩, e8, h⟩ := h
    dsimp only at h
    refine z_callS (av := [.int (v1)]) (st := []) wS_NumberOfficeModel_144 (t_Mo_isSeries hG e8) (by decide) (by decide) d_Mo_series_30 (by simp [z_rfc, z_ci, z_cl, z_cr, z_cn]) ?_
    show Z _ _ _ _ _ _ 33 [(0, .ref (v0)), (1, .int (v1)), (2, .int (v2))] [.int (x9)] _
    refine z_if_eq (tgt := 57) d_Mo_series_33 rfl (fun c10 => ?_) (fun c10 => ?_)
    · rw [if_pos c10] at h
      refine z_lv (lv' := [(0, .ref (v0)), (1, .int (v1)), (2, .int (v2))]) [0, 1, 2] rfl ?_
      exact t_Mo_series_57 hG   h
    · rw [if_neg c10] at h
      refine z_aload_n 0 d_Mo_series_36 rfl rfl ?_
      replace h := Option.bind_eq_some_iff.mp h; obtain ⟨x11, e12, h⟩ := h
      refine z_getR wF_NumberOfficeModel_71_14 d_Mo_series_37 e12 ?_
      refine z_iload_n 1 d_Mo_series_40 rfl rfl ?_
      replace h := Option.bind_eq_some_iff.mp h; obtain ⟨a13, rfl, h⟩ := h
      replace h := Option.bind_eq_some_iff.mp h; obtain ⟨x14, e15, h⟩ := h
      refine z_iaload rfl d_Mo_series_41 e15 ?_
      refine z_if_ne (tgt := 57) d_Mo_series_42 rfl (fun c16 => ?_) (fun c16 => ?_)
      · rw [if_neg c16] at h
        refine z_lv (lv' := [(0, .ref (v0)), (1, .int (v1)), (2, .int (v2))]) [0, 1, 2] rfl ?_
        exact t_Mo_series_57 hG   h
      · rw [if_pos c16] at h
        refine z_iload_n 2 d_Mo_series_45 rfl rfl ?_
        refine z_iconst (v := 1) d_Mo_series_46 rfl ?_
        refine z_icmp_lt (tgt := 57) d_Mo_series_47 rfl (fun c17 => ?_) (fun c17 => ?_)
        · rw [if_pos c17] at h
          refine z_lv (lv' := [(0, .ref (v0)), (1, .int (v1)), (2, .int (v2))]) [0, 1, 2] rfl ?_
          exact t_Mo_series_57 hG   h
        · rw [if_neg c17] at h
          refine z_iload_n 2 d_Mo_series_50 rfl rfl ?_
          refine z_sipush (v := 9999) d_Mo_series_51 rfl ?_
          refine z_icmp_le (tgt := 59) d_Mo_series_54 rfl (fun c18 => ?_) (fun c18 => ?_)
          · rw [if_pos c18] at h
            refine z_aload_n 0 d_Mo_series_59 rfl rfl ?_
            replace h := Option.bind_eq_some_iff.mp h; obtain ⟨x19, e20, h⟩ := h
            refine z_getR wF_NumberOfficeModel_71_14 d_Mo_series_60 e20 ?_
            refine z_iload_n 1 d_Mo_series_63 rfl rfl ?_
            refine z_iconst (v := 1) d_Mo_series_64 rfl ?_
            replace h := Option.bind_eq_some_iff.mp h; obtain ⟨a21, rfl, h⟩ := h
            replace h := Option.bind_eq_some_iff.mp h; obtain ⟨σ22, e23, h⟩ := h
            refine z_iastore rfl d_Mo_series_65 e23 ?_
            refine z_aload_n 0 d_Mo_series_66 rfl rfl ?_
            replace h := Option.bind_eq_some_iff.mp h; obtain ⟨x24, e25, h⟩ := h
            refine z_getR wF_NumberOfficeModel_74_14 d_Mo_series_67 e25 ?_
            refine z_iload_n 1 d_Mo_series_70 rfl rfl ?_
            refine z_iload_n 2 d_Mo_series_71 rfl rfl ?_
            replace h := Option.bind_eq_some_iff.mp h; obtain ⟨a26, rfl, h⟩ := h
            replace h := Option.bind_eq_some_iff.mp h; obtain ⟨σ27, e28, h⟩ := h
            refine z_iastore rfl d_Mo_series_72 e28 ?_
            refine z_iconst (v := 1) d_Mo_series_73 rfl ?_
            cases h
            exact z_zret rfl rfl rfl d_Mo_series_74
          · rw [if_neg c18] at h
            refine z_lv (lv' := [(0, .ref (v0)), (1, .int (v1)), (2, .int (v2))]) [0, 1, 2] rfl ?_
            exact t_Mo_series_57 hG   h
set_option maxRecDepth 100000 in
theorem t_Mo_series {l : Launch} {D : zD} {g : zG} (hG : zGok g D) {v0 : Nat} {v1 : Int32} {v2 : Int32} {σ : zS} {q : Int32 × zS} (h : s_Mo_series g v0 v1 v2 σ = some q) : zMet l D Y_Mo_series K_Mo_series 1 20 [.ref (v0), .int (v1), .int (v2)] σ (.returned (some (.int q.1)), q.2) := by
  refine zMet.ofZ (by decide) rfl (fun q => by cases q) (Nat.le_of_ble_eq_true rfl) ?_
  show Z _ _ _ _ _ _ 0 [(0, .ref (v0)), (1, .int (v1)), (2, .int (v2))] [] _
  unfold s_Mo_series at h
  refine z_aload_n 0 d_Mo_series_0 rfl rfl ?_
  refine z_aload_n 0 d_Mo_series_1 rfl rfl ?_
  replace h := Option.bind_eq_some_iff.mp h; obtain ⟨x1, e2, h⟩ := h
  refine z_getR wF_NumberOfficeModel_7_14 d_Mo_series_2 e2 ?_
  refine z_aload_n 0 d_Mo_series_5 rfl rfl ?_
  replace h := Option.bind_eq_some_iff.mp h; obtain ⟨x3, e4, h⟩ := h
  refine z_getI wF_NumberOfficeModel_116_14 d_Mo_series_6 e4 ?_
  replace h := Option.bind_eq_some_iff.mp h; obtain ⟨a5, rfl, h⟩ := h
  replace h := Option.bind_eq_some_iff.mp h; obtain ⟨x6, e7, h⟩ := h
  refine z_zaload rfl d_Mo_series_9 e7 ?_
  refine z_if_eq (tgt := 17) d_Mo_series_10 rfl (fun c8 => ?_) (fun c8 => ?_)
  · rw [if_pos c8] at h
    refine z_iconst (v := 0) d_Mo_series_17 rfl ?_
    refine z_lv (lv' := [(0, .ref (v0)), (1, .int (v1)), (2, .int (v2))]) [0, 1, 2] rfl ?_
    exact t_Mo_series_18 hG   h
  · rw [if_neg c8] at h
    refine z_iconst (v := 1) d_Mo_series_13 rfl ?_
    refine z_goto (tgt := 18) d_Mo_series_14 rfl ?_
    refine z_lv (lv' := [(0, .ref (v0)), (1, .int (v1)), (2, .int (v2))]) [0, 1, 2] rfl ?_
    exact t_Mo_series_18 hG   h

def s_Mo_there_46 (g : zG)  (v0 : Nat) (v1 : Int32) (w0 : Int32) (σ : zS) : Option (Int32 × zS) := if w0 = 0 ∨ w0 = 1 then some (w0, σ) else none
def s_Mo_there_45 (g : zG)  (v0 : Nat) (v1 : Int32) (σ : zS) : Option (Int32 × zS) := s_Mo_there_46 g  (v0) (v1) (0) σ
def s_Mo_there_23 (g : zG)  (v0 : Nat) (v1 : Int32) (w0 : Int32) (w1 : Option Nat) (σ : zS) : Option (Int32 × zS) := (w1).bind fun a1 => (zpF σ a1 14 0 (.int (w0))).bind fun σ2 => (zis σ2 v0 14).bind fun _ => (s_Mo_isBranch g v0 v1 σ2).bind fun (x6, σ4) => if x6 = 0 then s_Mo_there_45 g  (v0) (v1) σ4 else (zgI σ4 v0 14 0).bind fun x8 => if x8 = 0 then s_Mo_there_46 g  (v0) (v1) (1) σ4 else s_Mo_there_45 g  (v0) (v1) σ4
def s_Mo_there_22 (g : zG)  (v0 : Nat) (v1 : Int32) (w0 : Option Nat) (σ : zS) : Option (Int32 × zS) := s_Mo_there_23 g  (v0) (v1) (0) (w0) σ
def s_Mo_there (g : zG) (v0 : Nat) (v1 : Int32) (σ : zS) : Option (Int32 × zS) := (zis σ v0 14).bind fun _ => (s_Mo_isBranch g v0 v1 σ).bind fun (x3, σ1) => if x3 = 0 then s_Mo_there_22 g  (v0) (v1) (some (v0)) σ1 else (zgR σ1 v0 14 2).bind fun x5 => (x5).bind fun a7 => (zaI σ1 a7 3 (v1)).bind fun x8 => if x8 = 0 then s_Mo_there_22 g  (v0) (v1) (some (v0)) σ1 else s_Mo_there_23 g  (v0) (v1) (1) (some (v0)) σ1
set_option maxRecDepth 100000 in
theorem t_Mo_there_46 {l : Launch} {D : zD} {g : zG} (hG : zGok g D) {q : Int32 × zS}   {v0 : Nat} {v1 : Int32} {w0 : Int32} {σ : zS} (h : s_Mo_there_46 g  v0 v1 w0 σ = some q) : Z l D K_Mo_there 1 21 (.returned (some (.int q.1)), q.2) 46 [(0, .ref (v0)), (1, .int (v1))] [.int (w0)] σ := by
  unfold s_Mo_there_46 at h
  by_cases c1 : w0 = 0 ∨ w0 = 1
  rotate_left
  · rw [if_neg c1] at h; cases h
  rw [if_pos c1] at h
  cases h
  exact z_zret rfl (z_nb c1) rfl d_Mo_there_46
set_option maxRecDepth 100000 in
theorem t_Mo_there_45 {l : Launch} {D : zD} {g : zG} (hG : zGok g D) {q : Int32 × zS}   {v0 : Nat} {v1 : Int32} {σ : zS} (h : s_Mo_there_45 g  v0 v1 σ = some q) : Z l D K_Mo_there 1 21 (.returned (some (.int q.1)), q.2) 45 [(0, .ref (v0)), (1, .int (v1))] [] σ := by
  unfold s_Mo_there_45 at h
  refine z_iconst (v := 0) d_Mo_there_45 rfl ?_
  refine z_lv (lv' := [(0, .ref (v0)), (1, .int (v1))]) [0, 1] rfl ?_
  exact t_Mo_there_46 hG   h
set_option maxRecDepth 100000 in
theorem t_Mo_there_23 {l : Launch} {D : zD} {g : zG} (hG : zGok g D) {q : Int32 × zS}   {v0 : Nat} {v1 : Int32} {w0 : Int32} {w1 : Option Nat} {σ : zS} (h : s_Mo_there_23 g  v0 v1 w0 w1 σ = some q) : Z l D K_Mo_there 1 21 (.returned (some (.int q.1)), q.2) 23 [(0, .ref (v0)), (1, .int (v1))] [.int (w0), va_rf (w1)] σ := by
  unfold s_Mo_there_23 at h
  replace h := Option.bind_eq_some_iff.mp h; obtain ⟨a1, rfl, h⟩ := h
  replace h := Option.bind_eq_some_iff.mp h; obtain ⟨σ2, e3, h⟩ := h
  refine z_put wP_NumberOfficeModel_120_14 (fun q => by cases q) d_Mo_there_23 rfl rfl e3 ?_
  refine z_aload_n 0 d_Mo_there_26 rfl rfl ?_
  refine z_iload_n 1 d_Mo_there_27 rfl rfl ?_
  replace h := Option.bind_eq_some_iff.mp h; obtain ⟨_, e11, h⟩ := h
  obtain ⟨b12, f13, e11⟩ := zcls_at (zis_at e11)
  replace h := Option.bind_eq_some_iff.mp h; obtain ⟨⟨x6, σ4⟩, e5, h⟩ := h
  dsimp only at h
  refine z_callV (av := [.int (v1)]) (st := []) wV_NumberOfficeModel_163 e11 (t_Mo_isBranch hG e5) (by decide) (by decide) d_Mo_there_28 (by simp [z_rfc, z_ci, z_cl, z_cr, z_cn]) ?_
  show Z _ _ _ _ _ _ 31 [(0, .ref (v0)), (1, .int (v1))] [.int (x6)] _
  refine z_if_eq (tgt := 45) d_Mo_there_31 rfl (fun c7 => ?_) (fun c7 => ?_)
  · rw [if_pos c7] at h
    refine z_lv (lv' := [(0, .ref (v0)), (1, .int (v1))]) [0, 1] rfl ?_
    exact t_Mo_there_45 hG   h
  · rw [if_neg c7] at h
    refine z_aload_n 0 d_Mo_there_34 rfl rfl ?_
    replace h := Option.bind_eq_some_iff.mp h; obtain ⟨x8, e9, h⟩ := h
    refine z_getI wF_NumberOfficeModel_120_14 d_Mo_there_35 e9 ?_
    refine z_if_ne (tgt := 45) d_Mo_there_38 rfl (fun c10 => ?_) (fun c10 => ?_)
    · rw [if_neg c10] at h
      refine z_lv (lv' := [(0, .ref (v0)), (1, .int (v1))]) [0, 1] rfl ?_
      exact t_Mo_there_45 hG   h
    · rw [if_pos c10] at h
      refine z_iconst (v := 1) d_Mo_there_41 rfl ?_
      refine z_goto (tgt := 46) d_Mo_there_42 rfl ?_
      refine z_lv (lv' := [(0, .ref (v0)), (1, .int (v1))]) [0, 1] rfl ?_
      exact t_Mo_there_46 hG   h
set_option maxRecDepth 100000 in
theorem t_Mo_there_22 {l : Launch} {D : zD} {g : zG} (hG : zGok g D) {q : Int32 × zS}   {v0 : Nat} {v1 : Int32} {w0 : Option Nat} {σ : zS} (h : s_Mo_there_22 g  v0 v1 w0 σ = some q) : Z l D K_Mo_there 1 21 (.returned (some (.int q.1)), q.2) 22 [(0, .ref (v0)), (1, .int (v1))] [va_rf (w0)] σ := by
  unfold s_Mo_there_22 at h
  refine z_iconst (v := 0) d_Mo_there_22 rfl ?_
  refine z_lv (lv' := [(0, .ref (v0)), (1, .int (v1))]) [0, 1] rfl ?_
  exact t_Mo_there_23 hG   h
set_option maxRecDepth 100000 in
theorem t_Mo_there {l : Launch} {D : zD} {g : zG} (hG : zGok g D) {v0 : Nat} {v1 : Int32} {σ : zS} {q : Int32 × zS} (h : s_Mo_there g v0 v1 σ = some q) : zMet l D Y_Mo_there K_Mo_there 1 21 [.ref (v0), .int (v1)] σ (.returned (some (.int q.1)), q.2) := by
  refine zMet.ofZ (by decide) rfl (fun q => by cases q) (Nat.le_of_ble_eq_true rfl) ?_
  show Z _ _ _ _ _ _ 0 [(0, .ref (v0)), (1, .int (v1))] [] _
  unfold s_Mo_there at h
  refine z_aload_n 0 d_Mo_there_0 rfl rfl ?_
  refine z_aload_n 0 d_Mo_there_1 rfl rfl ?_
  refine z_iload_n 1 d_Mo_there_2 rfl rfl ?_
  replace h := Option.bind_eq_some_iff.mp h; obtain ⟨_, e11, h⟩ := h
  obtain ⟨b12, f13, e11⟩ := zcls_at (zis_at e11)
  replace h := Option.bind_eq_some_iff.mp h; obtain ⟨⟨x3, σ1⟩, e2, h⟩ := h
  dsimp only at h
  refine z_callV (av := [.int (v1)]) (st := [.ref (v0)]) wV_NumberOfficeModel_163 e11 (t_Mo_isBranch hG e2) (by decide) (by decide) d_Mo_there_3 (by simp [z_rfc, z_ci, z_cl, z_cr, z_cn]) ?_
  show Z _ _ _ _ _ _ 6 [(0, .ref (v0)), (1, .int (v1))] [.int (x3), .ref (v0)] _
  refine z_if_eq (tgt := 22) d_Mo_there_6 rfl (fun c4 => ?_) (fun c4 => ?_)
  · rw [if_pos c4] at h
    refine z_lv (lv' := [(0, .ref (v0)), (1, .int (v1))]) [0, 1] rfl ?_
    exact t_Mo_there_22 hG   h
  · rw [if_neg c4] at h
    refine z_aload_n 0 d_Mo_there_9 rfl rfl ?_
    replace h := Option.bind_eq_some_iff.mp h; obtain ⟨x5, e6, h⟩ := h
    refine z_getR wF_NumberOfficeModel_7_14 d_Mo_there_10 e6 ?_
    refine z_iload_n 1 d_Mo_there_13 rfl rfl ?_
    replace h := Option.bind_eq_some_iff.mp h; obtain ⟨a7, rfl, h⟩ := h
    replace h := Option.bind_eq_some_iff.mp h; obtain ⟨x8, e9, h⟩ := h
    refine z_zaload rfl d_Mo_there_14 e9 ?_
    refine z_if_eq (tgt := 22) d_Mo_there_15 rfl (fun c10 => ?_) (fun c10 => ?_)
    · rw [if_pos c10] at h
      refine z_lv (lv' := [(0, .ref (v0)), (1, .int (v1))]) [0, 1] rfl ?_
      exact t_Mo_there_22 hG   h
    · rw [if_neg c10] at h
      refine z_iconst (v := 1) d_Mo_there_18 rfl ?_
      refine z_goto (tgt := 23) d_Mo_there_19 rfl ?_
      refine z_lv (lv' := [(0, .ref (v0)), (1, .int (v1))]) [0, 1] rfl ?_
      exact t_Mo_there_23 hG   h

def s_Mo_copyBranch_74 (g : zG)  : Nat → Nat → Int32 → Int32 → Int32 → zS → Option (zS)
  | 0, _, _, _, _, _ => none
  | n + 1, v0, v1, v2, v3, σ => if 3 ≤ v3 then some σ else (zis σ v0 14).bind fun _ => (s_Mo_copyBook g v0 ((3 * v1) + v3) ((3 * v2) + v3) σ).bind fun σ2 => s_Mo_copyBranch_74 g  n (v0) (v1) (v2) (v3 + 1) σ2
def s_Mo_copyBranch (g : zG) (v0 : Nat) (v1 : Int32) (v2 : Int32) (σ : zS) : Option (zS) := (zgR σ v0 14 15).bind fun x1 => (zgR σ v0 14 15).bind fun x3 => (x3).bind fun a5 => (zaI σ a5 0 (v1)).bind fun x6 => (x1).bind fun a8 => (zsI σ a8 0 (v2) (x6)).bind fun σ9 => (zgR σ9 v0 14 16).bind fun x11 => (zgR σ9 v0 14 16).bind fun x13 => (x13).bind fun a15 => (zaI σ9 a15 0 (v1)).bind fun x16 => (x11).bind fun a18 => (zsI σ9 a18 0 (v2) (x16)).bind fun σ19 => (zgR σ19 v0 14 17).bind fun x21 => (zgR σ19 v0 14 17).bind fun x23 => (x23).bind fun a25 => (zaI σ19 a25 0 (v1)).bind fun x26 => (x21).bind fun a28 => (zsI σ19 a28 0 (v2) (x26)).bind fun σ29 => (zgR σ29 v0 14 18).bind fun x31 => (zgR σ29 v0 14 18).bind fun x33 => (x33).bind fun a35 => (zaI σ29 a35 0 (v1)).bind fun x36 => (x31).bind fun a38 => (zsI σ29 a38 0 (v2) (x36)).bind fun σ39 => (zgR σ39 v0 14 19).bind fun x41 => (zgR σ39 v0 14 19).bind fun x43 => (x43).bind fun a45 => (zaI σ39 a45 3 (v1)).bind fun x46 => (x41).bind fun a48 => (zsI σ39 a48 3 (v2) (vp_nar .boolean x46)).bind fun σ49 => (zgR σ49 v0 14 20).bind fun x51 => (zgR σ49 v0 14 20).bind fun x53 => (x53).bind fun a55 => (zaI σ49 a55 3 (v1)).bind fun x56 => (x51).bind fun a58 => (zsI σ49 a58 3 (v2) (vp_nar .boolean x56)).bind fun σ59 => s_Mo_copyBranch_74 g  zfuel (v0) (v1) (v2) (0) σ59
set_option maxRecDepth 100000 in
theorem t_Mo_copyBranch_74 {l : Launch} {D : zD} {g : zG} (hG : zGok g D) {q : zS}   : ∀ (n : Nat) {v0 : Nat} {v1 : Int32} {v2 : Int32} {v3 : Int32} {σ : zS}, s_Mo_copyBranch_74 g  n v0 v1 v2 v3 σ = some q → Z l D K_Mo_copyBranch 1 23 (.returned none, q) 74 [(0, .ref (v0)), (1, .int (v1)), (2, .int (v2)), (3, .int (v3))] [] σ := by
  intro n
  induction n with
  | zero =>
    intro v0 v1 v2 v3 σ h
    cases h
  | succ n ih =>
    intro v0 v1 v2 v3 σ h
    first | rw [s_Mo_copyBranch_74] at h | (unfold s_Mo_copyBranch_74 at h; dsimp only at h)
    refine z_iload_n 3 d_Mo_copyBranch_74 rfl rfl ?_
    refine z_iconst (v := 3) d_Mo_copyBranch_75 rfl ?_
    refine z_icmp_ge (tgt := 99) d_Mo_copyBranch_76 rfl (fun c1 => ?_) (fun c1 => ?_)
    · rw [if_pos c1] at h
      cases h
      exact z_vret rfl rfl d_Mo_copyBranch_99
    · rw [if_neg c1] at h
      refine z_aload_n 0 d_Mo_copyBranch_79 rfl rfl ?_
      refine z_iconst (v := 3) d_Mo_copyBranch_80 rfl ?_
      refine z_iload_n 1 d_Mo_copyBranch_81 rfl rfl ?_
      refine z_imul d_Mo_copyBranch_82 ?_
      refine z_iload_n 3 d_Mo_copyBranch_83 rfl rfl ?_
      refine z_iadd d_Mo_copyBranch_84 ?_
      refine z_iconst (v := 3) d_Mo_copyBranch_85 rfl ?_
      refine z_iload_n 2 d_Mo_copyBranch_86 rfl rfl ?_
      refine z_imul d_Mo_copyBranch_87 ?_
      refine z_iload_n 3 d_Mo_copyBranch_88 rfl rfl ?_
      refine z_iadd d_Mo_copyBranch_89 ?_
      replace h := Option.bind_eq_some_iff.mp h; obtain ⟨_, e5, h⟩ := h
      obtain ⟨b6, f7, e5⟩ := zcls_at (zis_at e5)
      replace h := Option.bind_eq_some_iff.mp h; obtain ⟨σ2, e3, h⟩ := h
      refine z_callV (av := [.int ((3 * v1) + v3), .int ((3 * v2) + v3)]) (st := []) wV_NumberOfficeModel_123 e5 (t_Mo_copyBook hG e3) (by decide) (by decide) d_Mo_copyBranch_90 (by simp [z_rfc, z_ci, z_cl, z_cr, z_cn]) ?_
      show Z _ _ _ _ _ _ 93 [(0, .ref (v0)), (1, .int (v1)), (2, .int (v2)), (3, .int (v3))] [] _
      refine z_iinc (v := v3 + 1) (lv' := [(3, .int (v3 + 1)), (0, .ref (v0)), (1, .int (v1)), (2, .int (v2))]) 3 d_Mo_copyBranch_93 rfl rfl (by decide) rfl ?_
      refine z_goto (tgt := 74) d_Mo_copyBranch_96 rfl ?_
      refine z_lv (lv' := [(0, .ref (v0)), (1, .int (v1)), (2, .int (v2)), (3, .int (v3 + 1))]) [1, 2, 3, 0] rfl ?_
      exact ih h
set_option maxRecDepth 100000 in
theorem t_Mo_copyBranch {l : Launch} {D : zD} {g : zG} (hG : zGok g D) {v0 : Nat} {v1 : Int32} {v2 : Int32} {σ : zS} {q : zS} (h : s_Mo_copyBranch g v0 v1 v2 σ = some q) : zMet l D Y_Mo_copyBranch K_Mo_copyBranch 1 23 [.ref (v0), .int (v1), .int (v2)] σ (.returned none, q) := by
  refine zMet.ofZ (by decide) rfl (fun q => by cases q) (Nat.le_of_ble_eq_true rfl) ?_
  show Z _ _ _ _ _ _ 0 [(0, .ref (v0)), (1, .int (v1)), (2, .int (v2))] [] _
  unfold s_Mo_copyBranch at h
  refine z_aload_n 0 d_Mo_copyBranch_0 rfl rfl ?_
  replace h := Option.bind_eq_some_iff.mp h; obtain ⟨x1, e2, h⟩ := h
  refine z_getR wF_NumberOfficeModel_53_14 d_Mo_copyBranch_1 e2 ?_
  refine z_iload_n 2 d_Mo_copyBranch_4 rfl rfl ?_
  refine z_aload_n 0 d_Mo_copyBranch_5 rfl rfl ?_
  replace h := Option.bind_eq_some_iff.mp h; obtain ⟨x3, e4, h⟩ := h
  refine z_getR wF_NumberOfficeModel_53_14 d_Mo_copyBranch_6 e4 ?_
  refine z_iload_n 1 d_Mo_copyBranch_9 rfl rfl ?_
  replace h := Option.bind_eq_some_iff.mp h; obtain ⟨a5, rfl, h⟩ := h
  replace h := Option.bind_eq_some_iff.mp h; obtain ⟨x6, e7, h⟩ := h
  refine z_iaload rfl d_Mo_copyBranch_10 e7 ?_
  replace h := Option.bind_eq_some_iff.mp h; obtain ⟨a8, rfl, h⟩ := h
  replace h := Option.bind_eq_some_iff.mp h; obtain ⟨σ9, e10, h⟩ := h
  refine z_iastore rfl d_Mo_copyBranch_11 e10 ?_
  refine z_aload_n 0 d_Mo_copyBranch_12 rfl rfl ?_
  replace h := Option.bind_eq_some_iff.mp h; obtain ⟨x11, e12, h⟩ := h
  refine z_getR wF_NumberOfficeModel_56_14 d_Mo_copyBranch_13 e12 ?_
  refine z_iload_n 2 d_Mo_copyBranch_16 rfl rfl ?_
  refine z_aload_n 0 d_Mo_copyBranch_17 rfl rfl ?_
  replace h := Option.bind_eq_some_iff.mp h; obtain ⟨x13, e14, h⟩ := h
  refine z_getR wF_NumberOfficeModel_56_14 d_Mo_copyBranch_18 e14 ?_
  refine z_iload_n 1 d_Mo_copyBranch_21 rfl rfl ?_
  replace h := Option.bind_eq_some_iff.mp h; obtain ⟨a15, rfl, h⟩ := h
  replace h := Option.bind_eq_some_iff.mp h; obtain ⟨x16, e17, h⟩ := h
  refine z_iaload rfl d_Mo_copyBranch_22 e17 ?_
  replace h := Option.bind_eq_some_iff.mp h; obtain ⟨a18, rfl, h⟩ := h
  replace h := Option.bind_eq_some_iff.mp h; obtain ⟨σ19, e20, h⟩ := h
  refine z_iastore rfl d_Mo_copyBranch_23 e20 ?_
  refine z_aload_n 0 d_Mo_copyBranch_24 rfl rfl ?_
  replace h := Option.bind_eq_some_iff.mp h; obtain ⟨x21, e22, h⟩ := h
  refine z_getR wF_NumberOfficeModel_59_14 d_Mo_copyBranch_25 e22 ?_
  refine z_iload_n 2 d_Mo_copyBranch_28 rfl rfl ?_
  refine z_aload_n 0 d_Mo_copyBranch_29 rfl rfl ?_
  replace h := Option.bind_eq_some_iff.mp h; obtain ⟨x23, e24, h⟩ := h
  refine z_getR wF_NumberOfficeModel_59_14 d_Mo_copyBranch_30 e24 ?_
  refine z_iload_n 1 d_Mo_copyBranch_33 rfl rfl ?_
  replace h := Option.bind_eq_some_iff.mp h; obtain ⟨a25, rfl, h⟩ := h
  replace h := Option.bind_eq_some_iff.mp h; obtain ⟨x26, e27, h⟩ := h
  refine z_iaload rfl d_Mo_copyBranch_34 e27 ?_
  replace h := Option.bind_eq_some_iff.mp h; obtain ⟨a28, rfl, h⟩ := h
  replace h := Option.bind_eq_some_iff.mp h; obtain ⟨σ29, e30, h⟩ := h
  refine z_iastore rfl d_Mo_copyBranch_35 e30 ?_
  refine z_aload_n 0 d_Mo_copyBranch_36 rfl rfl ?_
  replace h := Option.bind_eq_some_iff.mp h; obtain ⟨x31, e32, h⟩ := h
  refine z_getR wF_NumberOfficeModel_62_14 d_Mo_copyBranch_37 e32 ?_
  refine z_iload_n 2 d_Mo_copyBranch_40 rfl rfl ?_
  refine z_aload_n 0 d_Mo_copyBranch_41 rfl rfl ?_
  replace h := Option.bind_eq_some_iff.mp h; obtain ⟨x33, e34, h⟩ := h
  refine z_getR wF_NumberOfficeModel_62_14 d_Mo_copyBranch_42 e34 ?_
  refine z_iload_n 1 d_Mo_copyBranch_45 rfl rfl ?_
  replace h := Option.bind_eq_some_iff.mp h; obtain ⟨a35, rfl, h⟩ := h
  replace h := Option.bind_eq_some_iff.mp h; obtain ⟨x36, e37, h⟩ := h
  refine z_iaload rfl d_Mo_copyBranch_46 e37 ?_
  replace h := Option.bind_eq_some_iff.mp h; obtain ⟨a38, rfl, h⟩ := h
  replace h := Option.bind_eq_some_iff.mp h; obtain ⟨σ39, e40, h⟩ := h
  refine z_iastore rfl d_Mo_copyBranch_47 e40 ?_
  refine z_aload_n 0 d_Mo_copyBranch_48 rfl rfl ?_
  replace h := Option.bind_eq_some_iff.mp h; obtain ⟨x41, e42, h⟩ := h
  refine z_getR wF_NumberOfficeModel_65_14 d_Mo_copyBranch_49 e42 ?_
  refine z_iload_n 2 d_Mo_copyBranch_52 rfl rfl ?_
  refine z_aload_n 0 d_Mo_copyBranch_53 rfl rfl ?_
  replace h := Option.bind_eq_some_iff.mp h; obtain ⟨x43, e44, h⟩ := h
  refine z_getR wF_NumberOfficeModel_65_14 d_Mo_copyBranch_54 e44 ?_
  refine z_iload_n 1 d_Mo_copyBranch_57 rfl rfl ?_
  replace h := Option.bind_eq_some_iff.mp h; obtain ⟨a45, rfl, h⟩ := h
  replace h := Option.bind_eq_some_iff.mp h; obtain ⟨x46, e47, h⟩ := h
  refine z_zaload rfl d_Mo_copyBranch_58 e47 ?_
  replace h := Option.bind_eq_some_iff.mp h; obtain ⟨a48, rfl, h⟩ := h
  replace h := Option.bind_eq_some_iff.mp h; obtain ⟨σ49, e50, h⟩ := h
  refine z_zastore rfl d_Mo_copyBranch_59 e50 ?_
  refine z_aload_n 0 d_Mo_copyBranch_60 rfl rfl ?_
  replace h := Option.bind_eq_some_iff.mp h; obtain ⟨x51, e52, h⟩ := h
  refine z_getR wF_NumberOfficeModel_68_14 d_Mo_copyBranch_61 e52 ?_
  refine z_iload_n 2 d_Mo_copyBranch_64 rfl rfl ?_
  refine z_aload_n 0 d_Mo_copyBranch_65 rfl rfl ?_
  replace h := Option.bind_eq_some_iff.mp h; obtain ⟨x53, e54, h⟩ := h
  refine z_getR wF_NumberOfficeModel_68_14 d_Mo_copyBranch_66 e54 ?_
  refine z_iload_n 1 d_Mo_copyBranch_69 rfl rfl ?_
  replace h := Option.bind_eq_some_iff.mp h; obtain ⟨a55, rfl, h⟩ := h
  replace h := Option.bind_eq_some_iff.mp h; obtain ⟨x56, e57, h⟩ := h
  refine z_zaload rfl d_Mo_copyBranch_70 e57 ?_
  replace h := Option.bind_eq_some_iff.mp h; obtain ⟨a58, rfl, h⟩ := h
  replace h := Option.bind_eq_some_iff.mp h; obtain ⟨σ59, e60, h⟩ := h
  refine z_zastore rfl d_Mo_copyBranch_71 e60 ?_
  refine z_iconst (v := 0) d_Mo_copyBranch_72 rfl ?_
  refine z_istore_n (j := 3) (lv' := [(3, .int (0)), (0, .ref (v0)), (1, .int (v1)), (2, .int (v2))]) d_Mo_copyBranch_73 rfl (by decide) rfl ?_
  refine z_lv (lv' := [(0, .ref (v0)), (1, .int (v1)), (2, .int (v2)), (3, .int (0))]) [1, 2, 3, 0] rfl ?_
  exact t_Mo_copyBranch_74 hG   zfuel h

def s_Mo_voidNext_62 (g : zG)  (v0 : Nat) (v1 : Int32) (v2 : Int32) (v3 : Int32) (w0 : Int32) (σ : zS) : Option (Int32 × zS) := some (w0, σ)
def s_Mo_voidNext_49 (g : zG)  (v0 : Nat) (v1 : Int32) (v2 : Int32) (v3 : Int32) (σ : zS) : Option (Int32 × zS) := (zgI σ v0 14 0).bind fun x1 => if x1 = 1 then s_Mo_voidNext_62 g  (v0) (v1) (v2) (v3) (0) σ else s_Mo_voidNext_62 g  (v0) (v1) (v2) (v3) ((-1)) σ
def s_Mo_voidNext (g : zG) (v0 : Nat) (v1 : Int32) (v2 : Int32) (v3 : Int32) (σ : zS) : Option (Int32 × zS) := (zis σ v0 14).bind fun _ => (s_Mo_there g v0 v1 σ).bind fun (x3, σ1) => if x3 = 0 then s_Mo_voidNext_49 g  (v0) (v1) (v2) (v3) σ1 else (s_Mo_isSeries g v2 σ1).bind fun (x7, σ5) => if x7 = 0 then s_Mo_voidNext_49 g  (v0) (v1) (v2) (v3) σ5 else (zgR σ5 v0 14 4).bind fun x9 => (x9).bind fun a11 => (zaI σ5 a11 0 ((3 * v1) + v2)).bind fun x12 => (zgR σ5 v0 14 3).bind fun x14 => (x14).bind fun a16 => (zaI σ5 a16 0 ((3 * v1) + v2)).bind fun x17 => if x12 = x17 then s_Mo_voidNext_49 g  (v0) (v1) (v2) (v3) σ5 else if v3 < 1 then s_Mo_voidNext_49 g  (v0) (v1) (v2) (v3) σ5 else if v3 ≤ 99 then (zgR σ5 v0 14 4).bind fun x22 => (x22).bind fun a24 => (zaI σ5 a24 0 ((3 * v1) + v2)).bind fun x25 => (zgR σ5 v0 14 11).bind fun x27 => (x27).bind fun a29 => (zsL σ5 a29 1 ((300 * ((3 * v1) + v2)) + x25) (0)).bind fun σ30 => (zgR σ30 v0 14 13).bind fun x32 => (x32).bind fun a34 => (zsI σ30 a34 2 ((300 * ((3 * v1) + v2)) + x25) (vp_nar .byte (v3.toInt8.toInt32))).bind fun σ35 => (zgR σ35 v0 14 4).bind fun x37 => (x37).bind fun a39 => (zaI σ35 a39 0 ((3 * v1) + v2)).bind fun x40 => (zsI σ35 a39 0 ((3 * v1) + v2) (x40 + 1)).bind fun σ42 => (zis σ42 v0 14).bind fun _ => (s_Mo_happens g v0 ((3 * v1) + v2) x25 1 σ42).bind fun σ44 => (zgR σ44 v0 14 8).bind fun x47 => (x47).bind fun a49 => (zaI σ44 a49 5 ((300 * ((3 * v1) + v2)) + x25)).bind fun x50 => some (x50, σ44) else s_Mo_voidNext_49 g  (v0) (v1) (v2) (v3) σ5
set_option maxRecDepth 100000 in
theorem t_Mo_voidNext_62 {l : Launch} {D : zD} {g : zG} (hG : zGok g D) {q : Int32 × zS}   {v0 : Nat} {v1 : Int32} {v2 : Int32} {v3 : Int32} {w0 : Int32} {σ : zS} (h : s_Mo_voidNext_62 g  v0 v1 v2 v3 w0 σ = some q) : Z l D K_Mo_voidNext 2 42 (.returned (some (.int q.1)), q.2) 62 [(0, .ref (v0)), (1, .int (v1)), (2, .int (v2)), (3, .int (v3))] [.int (w0)] σ := by
  unfold s_Mo_voidNext_62 at h
  cases h
  exact z_iret rfl rfl d_Mo_voidNext_62
set_option maxRecDepth 100000 in
theorem t_Mo_voidNext_49 {l : Launch} {D : zD} {g : zG} (hG : zGok g D) {q : Int32 × zS}   {v0 : Nat} {v1 : Int32} {v2 : Int32} {v3 : Int32} {σ : zS} (h : s_Mo_voidNext_49 g  v0 v1 v2 v3 σ = some q) : Z l D K_Mo_voidNext 2 42 (.returned (some (.int q.1)), q.2) 49 [(0, .ref (v0)), (1, .int (v1)), (2, .int (v2)), (3, .int (v3))] [] σ := by
  unfold s_Mo_voidNext_49 at h
  refine z_aload_n 0 d_Mo_voidNext_49 rfl rfl ?_
  replace h := Option.bind_eq_some_iff.mp h; obtain ⟨x1, e2, h⟩ := h
  refine z_getI wF_NumberOfficeModel_120_14 d_Mo_voidNext_50 e2 ?_
  refine z_iconst (v := 1) d_Mo_voidNext_53 rfl ?_
  refine z_icmp_ne (tgt := 61) d_Mo_voidNext_54 rfl (fun c3 => ?_) (fun c3 => ?_)
  · rw [if_neg c3] at h
    refine z_iconst (v := (-1)) d_Mo_voidNext_61 rfl ?_
    refine z_lv (lv' := [(0, .ref (v0)), (1, .int (v1)), (2, .int (v2)), (3, .int (v3))]) [0, 1, 2, 3] rfl ?_
    exact t_Mo_voidNext_62 hG   h
  · rw [if_pos c3] at h
    refine z_iconst (v := 0) d_Mo_voidNext_57 rfl ?_
    refine z_goto (tgt := 62) d_Mo_voidNext_58 rfl ?_
    refine z_lv (lv' := [(0, .ref (v0)), (1, .int (v1)), (2, .int (v2)), (3, .int (v3))]) [0, 1, 2, 3] rfl ?_
    exact t_Mo_voidNext_62 hG   h
set_option maxRecDepth 100000 in
theorem t_Mo_voidNext {l : Launch} {D : zD} {g : zG} (hG : zGok g D) {v0 : Nat} {v1 : Int32} {v2 : Int32} {v3 : Int32} {σ : zS} {q : Int32 × zS} (h : s_Mo_voidNext g v0 v1 v2 v3 σ = some q) : zMet l D Y_Mo_voidNext K_Mo_voidNext 2 42 [.ref (v0), .int (v1), .int (v2), .int (v3)] σ (.returned (some (.int q.1)), q.2) := by
  refine zMet.ofZ (by decide) rfl (fun q => by cases q) (Nat.le_of_ble_eq_true rfl) ?_
  show Z _ _ _ _ _ _ 0 [(0, .ref (v0)), (1, .int (v1)), (2, .int (v2)), (3, .int (v3))] [] _
  unfold s_Mo_voidNext at h
  refine z_aload_n 0 d_Mo_voidNext_0 rfl rfl ?_
  refine z_iload_n 1 d_Mo_voidNext_1 rfl rfl ?_
  replace h := Option.bind_eq_some_iff.mp h; obtain ⟨_, e55, h⟩ := h
  obtain ⟨b56, f57, e55⟩ := zcls_at (zis_at e55)
  replace h := Option.bind_eq_some_iff.mp h; obtain ⟨⟨x3, σ1⟩, e2, h⟩ := h
  dsimp only at h
  refine z_callV (av := [.int (v1)]) (st := []) wV_NumberOfficeModel_166 e55 (t_Mo_there hG e2) (by decide) (by decide) d_Mo_voidNext_2 (by simp [z_rfc, z_ci, z_cl, z_cr, z_cn]) ?_
  show Z _ _ _ _ _ _ 5 [(0, .ref (v0)), (1, .int (v1)), (2, .int (v2)), (3, .int (v3))] [.int (x3)] _
  refine z_if_eq (tgt := 49) d_Mo_voidNext_5 rfl (fun c4 => ?_) (fun c4 => ?_)
  · rw [if_pos c4] at h
    refine z_lv (lv' := [(0, .ref (v0)), (1, .int (v1)), (2, .int (v2)), (3, .int (v3))]) [0, 1, 2, 3] rfl ?_
    exact t_Mo_voidNext_49 hG   h
  · rw [if_neg c4] at h
    refine z_iload_n 2 d_Mo_voidNext_8 rfl rfl ?_
    replace h := Option.bind_eq_some_iff.mp h; obtain ⟨⟨x7, σ5⟩, e6, h⟩ := h
    dsimp only at h
    refine z_callS (av := [.int (v2)]) (st := []) wS_NumberOfficeModel_144 (t_Mo_isSeries hG e6) (by decide) (by decide) d_Mo_voidNext_9 (by simp [z_rfc, z_ci, z_cl, z_cr, z_cn]) ?_
    show Z _ _ _ _ _ _ 12 [(0, .ref (v0)), (1, .int (v1)), (2, .int (v2)), (3, .int (v3))] [.int (x7)] _
    refine z_if_eq (tgt := 49) d_Mo_voidNext_12 rfl (fun c8 => ?_) (fun c8 => ?_)
    · rw [if_pos c8] at h
      refine z_lv (lv' := [(0, .ref (v0)), (1, .int (v1)), (2, .int (v2)), (3, .int (v3))]) [0, 1, 2, 3] rfl ?_
      exact t_Mo_voidNext_49 hG   h
    · rw [if_neg c8] at h
      refine z_aload_n 0 d_Mo_voidNext_15 rfl rfl ?_
      replace h := Option.bind_eq_some_iff.mp h; obtain ⟨x9, e10, h⟩ := h
      refine z_getR wF_NumberOfficeModel_17_14 d_Mo_voidNext_16 e10 ?_
      refine z_iconst (v := 3) d_Mo_voidNext_19 rfl ?_
      refine z_iload_n 1 d_Mo_voidNext_20 rfl rfl ?_
      refine z_imul d_Mo_voidNext_21 ?_
      refine z_iload_n 2 d_Mo_voidNext_22 rfl rfl ?_
      refine z_iadd d_Mo_voidNext_23 ?_
      replace h := Option.bind_eq_some_iff.mp h; obtain ⟨a11, rfl, h⟩ := h
      replace h := Option.bind_eq_some_iff.mp h; obtain ⟨x12, e13, h⟩ := h
      refine z_iaload rfl d_Mo_voidNext_24 e13 ?_
      refine z_aload_n 0 d_Mo_voidNext_25 rfl rfl ?_
      replace h := Option.bind_eq_some_iff.mp h; obtain ⟨x14, e15, h⟩ := h
      refine z_getR wF_NumberOfficeModel_13_14 d_Mo_voidNext_26 e15 ?_
      refine z_iconst (v := 3) d_Mo_voidNext_29 rfl ?_
      refine z_iload_n 1 d_Mo_voidNext_30 rfl rfl ?_
      refine z_imul d_Mo_voidNext_31 ?_
      refine z_iload_n 2 d_Mo_voidNext_32 rfl rfl ?_
      refine z_iadd d_Mo_voidNext_33 ?_
      replace h := Option.bind_eq_some_iff.mp h; obtain ⟨a16, rfl, h⟩ := h
      replace h := Option.bind_eq_some_iff.mp h; obtain ⟨x17, e18, h⟩ := h
      refine z_iaload rfl d_Mo_voidNext_34 e18 ?_
      refine z_icmp_eq (tgt := 49) d_Mo_voidNext_35 rfl (fun c19 => ?_) (fun c19 => ?_)
      · rw [if_pos c19] at h
        refine z_lv (lv' := [(0, .ref (v0)), (1, .int (v1)), (2, .int (v2)), (3, .int (v3))]) [0, 1, 2, 3] rfl ?_
        exact t_Mo_voidNext_49 hG   h
      · rw [if_neg c19] at h
        refine z_iload_n 3 d_Mo_voidNext_38 rfl rfl ?_
        refine z_iconst (v := 1) d_Mo_voidNext_39 rfl ?_
        refine z_icmp_lt (tgt := 49) d_Mo_voidNext_40 rfl (fun c20 => ?_) (fun c20 => ?_)
        · rw [if_pos c20] at h
          refine z_lv (lv' := [(0, .ref (v0)), (1, .int (v1)), (2, .int (v2)), (3, .int (v3))]) [0, 1, 2, 3] rfl ?_
          exact t_Mo_voidNext_49 hG   h
        · rw [if_neg c20] at h
          refine z_iload_n 3 d_Mo_voidNext_43 rfl rfl ?_
          refine z_bipush (v := 99) d_Mo_voidNext_44 rfl ?_
          refine z_icmp_le (tgt := 63) d_Mo_voidNext_46 rfl (fun c21 => ?_) (fun c21 => ?_)
          · rw [if_pos c21] at h
            refine z_iconst (v := 3) d_Mo_voidNext_63 rfl ?_
            refine z_iload_n 1 d_Mo_voidNext_64 rfl rfl ?_
            refine z_imul d_Mo_voidNext_65 ?_
            refine z_iload_n 2 d_Mo_voidNext_66 rfl rfl ?_
            refine z_iadd d_Mo_voidNext_67 ?_
            refine z_istore (j := 4) (lv' := [(4, .int ((3 * v1) + v2)), (0, .ref (v0)), (1, .int (v1)), (2, .int (v2)), (3, .int (v3))]) d_Mo_voidNext_68 (by decide) rfl ?_
            refine z_aload_n 1 d_Mo_voidNext_70 rfl rfl ?_
            replace h := Option.bind_eq_some_iff.mp h; obtain ⟨x22, e23, h⟩ := h
            refine z_getR wF_NumberOfficeModel_17_14 d_Mo_voidNext_71 e23 ?_
            refine z_iload 0 d_Mo_voidNext_74 rfl ?_
            replace h := Option.bind_eq_some_iff.mp h; obtain ⟨a24, rfl, h⟩ := h
            replace h := Option.bind_eq_some_iff.mp h; obtain ⟨x25, e26, h⟩ := h
            refine z_iaload rfl d_Mo_voidNext_76 e26 ?_
            refine z_istore (j := 5) (lv' := [(5, .int (x25)), (4, .int ((3 * v1) + v2)), (0, .ref (v0)), (1, .int (v1)), (2, .int (v2)), (3, .int (v3))]) d_Mo_voidNext_77 (by decide) rfl ?_
            refine z_aload_n 2 d_Mo_voidNext_79 rfl rfl ?_
            replace h := Option.bind_eq_some_iff.mp h; obtain ⟨x27, e28, h⟩ := h
            refine z_getR wF_NumberOfficeModel_40_14 d_Mo_voidNext_80 e28 ?_
            refine z_sipush (v := 300) d_Mo_voidNext_83 rfl ?_
            refine z_iload 1 d_Mo_voidNext_86 rfl ?_
            refine z_imul d_Mo_voidNext_88 ?_
            refine z_iload 0 d_Mo_voidNext_89 rfl ?_
            refine z_iadd d_Mo_voidNext_91 ?_
            refine z_lconst (v := 0) d_Mo_voidNext_92 rfl ?_
            replace h := Option.bind_eq_some_iff.mp h; obtain ⟨a29, rfl, h⟩ := h
            replace h := Option.bind_eq_some_iff.mp h; obtain ⟨σ30, e31, h⟩ := h
            refine z_lastore rfl d_Mo_voidNext_93 e31 ?_
            refine z_aload_n 2 d_Mo_voidNext_94 rfl rfl ?_
            replace h := Option.bind_eq_some_iff.mp h; obtain ⟨x32, e33, h⟩ := h
            refine z_getR wF_NumberOfficeModel_47_14 d_Mo_voidNext_95 e33 ?_
            refine z_sipush (v := 300) d_Mo_voidNext_98 rfl ?_
            refine z_iload 1 d_Mo_voidNext_101 rfl ?_
            refine z_imul d_Mo_voidNext_103 ?_
            refine z_iload 0 d_Mo_voidNext_104 rfl ?_
            refine z_iadd d_Mo_voidNext_106 ?_
            refine z_iload_n 5 d_Mo_voidNext_107 rfl rfl ?_
            refine z_i2b d_Mo_voidNext_108 ?_
            replace h := Option.bind_eq_some_iff.mp h; obtain ⟨a34, rfl, h⟩ := h
            replace h := Option.bind_eq_some_iff.mp h; obtain ⟨σ35, e36, h⟩ := h
            refine z_bastore rfl d_Mo_voidNext_109 e36 ?_
            refine z_aload_n 2 d_Mo_voidNext_110 rfl rfl ?_
            replace h := Option.bind_eq_some_iff.mp h; obtain ⟨x37, e38, h⟩ := h
            refine z_getR wF_NumberOfficeModel_17_14 d_Mo_voidNext_111 e38 ?_
            refine z_iload 1 d_Mo_voidNext_114 rfl ?_
            refine z_dup2 d_Mo_voidNext_116 rfl (z_rfc _) ?_
            replace h := Option.bind_eq_some_iff.mp h; obtain ⟨a39, rfl, h⟩ := h
            replace h := Option.bind_eq_some_iff.mp h; obtain ⟨x40, e41, h⟩ := h
            refine z_iaload rfl d_Mo_voidNext_117 e41 ?_
            refine z_iconst (v := 1) d_Mo_voidNext_118 rfl ?_
            refine z_iadd d_Mo_voidNext_119 ?_
            replace h := Option.bind_eq_some_iff.mp h; obtain ⟨σ42, e43, h⟩ := h
            refine z_iastore rfl d_Mo_voidNext_120 e43 ?_
            refine z_aload_n 2 d_Mo_voidNext_121 rfl rfl ?_
            refine z_iload 1 d_Mo_voidNext_122 rfl ?_
            refine z_iload 0 d_Mo_voidNext_124 rfl ?_
            refine z_iconst (v := 1) d_Mo_voidNext_126 rfl ?_
            replace h := Option.bind_eq_some_iff.mp h; obtain ⟨_, e52, h⟩ := h
            obtain ⟨b53, f54, e52⟩ := zcls_at (zis_at e52)
            replace h := Option.bind_eq_some_iff.mp h; obtain ⟨σ44, e45, h⟩ := h
            refine z_callV (av := [.int ((3 * v1) + v2), .int (x25), .int (1)]) (st := []) wV_NumberOfficeModel_182 e52 (t_Mo_happens hG e45) (by decide) (by decide) d_Mo_voidNext_127 (by simp [z_rfc, z_ci, z_cl, z_cr, z_cn]) ?_
            show Z _ _ _ _ _ _ 130 [(5, .int (x25)), (4, .int ((3 * v1) + v2)), (0, .ref (v0)), (1, .int (v1)), (2, .int (v2)), (3, .int (v3))] [] _
            refine z_aload_n 2 d_Mo_voidNext_130 rfl rfl ?_
            replace h := Option.bind_eq_some_iff.mp h; obtain ⟨x47, e48, h⟩ := h
            refine z_getR wF_NumberOfficeModel_29_14 d_Mo_voidNext_131 e48 ?_
            refine z_sipush (v := 300) d_Mo_voidNext_134 rfl ?_
            refine z_iload 1 d_Mo_voidNext_137 rfl ?_
            refine z_imul d_Mo_voidNext_139 ?_
            refine z_iload 0 d_Mo_voidNext_140 rfl ?_
            refine z_iadd d_Mo_voidNext_142 ?_
            replace h := Option.bind_eq_some_iff.mp h; obtain ⟨a49, rfl, h⟩ := h
            replace h := Option.bind_eq_some_iff.mp h; obtain ⟨x50, e51, h⟩ := h
            refine z_saload rfl d_Mo_voidNext_143 e51 ?_
            cases h
            exact z_iret rfl rfl d_Mo_voidNext_144
          · rw [if_neg c21] at h
            refine z_lv (lv' := [(0, .ref (v0)), (1, .int (v1)), (2, .int (v2)), (3, .int (v3))]) [0, 1, 2, 3] rfl ?_
            exact t_Mo_voidNext_49 hG   h

def s_Mo_voidUsed_28 (g : zG)  (v0 : Nat) (v1 : Int32) (v2 : Int32) (v3 : Int32) (v4 : Int32) (σ : zS) : Option (Int32 × zS) := some (0, σ)
def s_Mo_voidUsed_70 (g : zG)  (v0 : Nat) (v1 : Int32) (v2 : Int32) (v3 : Int32) (v4 : Int32) (v5 : Int32) (v6 : Int32) (σ : zS) : Option (Int32 × zS) := some (0, σ)
def s_Mo_voidUsed (g : zG) (v0 : Nat) (v1 : Int32) (v2 : Int32) (v3 : Int32) (v4 : Int32) (σ : zS) : Option (Int32 × zS) := (zis σ v0 14).bind fun _ => (s_Mo_there g v0 v1 σ).bind fun (x3, σ1) => if x3 = 0 then s_Mo_voidUsed_28 g  (v0) (v1) (v2) (v3) (v4) σ1 else (s_Mo_isSeries g v2 σ1).bind fun (x7, σ5) => if x7 = 0 then s_Mo_voidUsed_28 g  (v0) (v1) (v2) (v3) (v4) σ5 else if v4 < 1 then s_Mo_voidUsed_28 g  (v0) (v1) (v2) (v3) (v4) σ5 else if v4 ≤ 99 then (zis σ5 v0 14).bind fun _ => (s_Mo_find g v0 ((3 * v1) + v2) v3 σ5).bind fun (x13, σ11) => if x13 = ((-1)) then s_Mo_voidUsed_70 g  (v0) (v1) (v2) (v3) (v4) ((3 * v1) + v2) (x13) σ11 else (zgR σ11 v0 14 10).bind fun x15 => (x15).bind fun a17 => (zaI σ11 a17 2 ((300 * ((3 * v1) + v2)) + x13)).bind fun x18 => if x18 = 2 then (zgR σ11 v0 14 13).bind fun x21 => (x21).bind fun a23 => (zsI σ11 a23 2 ((300 * ((3 * v1) + v2)) + x13) (vp_nar .byte (v4.toInt8.toInt32))).bind fun σ24 => (zis σ24 v0 14).bind fun _ => (s_Mo_happens g v0 ((3 * v1) + v2) x13 1 σ24).bind fun σ26 => some (1, σ26) else s_Mo_voidUsed_70 g  (v0) (v1) (v2) (v3) (v4) ((3 * v1) + v2) (x13) σ11 else s_Mo_voidUsed_28 g  (v0) (v1) (v2) (v3) (v4) σ5
set_option maxRecDepth 100000 in
theorem t_Mo_voidUsed_28 {l : Launch} {D : zD} {g : zG} (hG : zGok g D) {q : Int32 × zS}   {v0 : Nat} {v1 : Int32} {v2 : Int32} {v3 : Int32} {v4 : Int32} {σ : zS} (h : s_Mo_voidUsed_28 g  v0 v1 v2 v3 v4 σ = some q) : Z l D K_Mo_voidUsed 2 42 (.returned (some (.int q.1)), q.2) 28 [(0, .ref (v0)), (1, .int (v1)), (2, .int (v2)), (3, .int (v3)), (4, .int (v4))] [] σ := by
  unfold s_Mo_voidUsed_28 at h
  refine z_iconst (v := 0) d_Mo_voidUsed_28 rfl ?_
  cases h
  exact z_zret rfl rfl rfl d_Mo_voidUsed_29
set_option maxRecDepth 100000 in
theorem t_Mo_voidUsed_70 {l : Launch} {D : zD} {g : zG} (hG : zGok g D) {q : Int32 × zS}   {v0 : Nat} {v1 : Int32} {v2 : Int32} {v3 : Int32} {v4 : Int32} {v5 : Int32} {v6 : Int32} {σ : zS} (h : s_Mo_voidUsed_70 g  v0 v1 v2 v3 v4 v5 v6 σ = some q) : Z l D K_Mo_voidUsed 2 42 (.returned (some (.int q.1)), q.2) 70 [(0, .ref (v0)), (1, .int (v1)), (2, .int (v2)), (3, .int (v3)), (4, .int (v4)), (5, .int (v5)), (6, .int (v6))] [] σ := by
  unfold s_Mo_voidUsed_70 at h
  refine z_iconst (v := 0) d_Mo_voidUsed_70 rfl ?_
  cases h
  exact z_zret rfl rfl rfl d_Mo_voidUsed_71
set_option maxRecDepth 100000 in
theorem t_Mo_voidUsed {l : Launch} {D : zD} {g : zG} (hG : zGok g D) {v0 : Nat} {v1 : Int32} {v2 : Int32} {v3 : Int32} {v4 : Int32} {σ : zS} {q : Int32 × zS} (h : s_Mo_voidUsed g v0 v1 v2 v3 v4 σ = some q) : zMet l D Y_Mo_voidUsed K_Mo_voidUsed 2 42 [.ref (v0), .int (v1), .int (v2), .int (v3), .int (v4)] σ (.returned (some (.int q.1)), q.2) := by
  refine zMet.ofZ (by decide) rfl (fun q => by cases q) (Nat.le_of_ble_eq_true rfl) ?_
  show Z _ _ _ _ _ _ 0 [(0, .ref (v0)), (1, .int (v1)), (2, .int (v2)), (3, .int (v3)), (4, .int (v4))] [] _
  unfold s_Mo_voidUsed at h
  refine z_aload_n 0 d_Mo_voidUsed_0 rfl rfl ?_
  refine z_iload_n 1 d_Mo_voidUsed_1 rfl rfl ?_
  replace h := Option.bind_eq_some_iff.mp h; obtain ⟨_, e35, h⟩ := h
  obtain ⟨b36, f37, e35⟩ := zcls_at (zis_at e35)
  replace h := Option.bind_eq_some_iff.mp h; obtain ⟨⟨x3, σ1⟩, e2, h⟩ := h
  dsimp only at h
  refine z_callV (av := [.int (v1)]) (st := []) wV_NumberOfficeModel_166 e35 (t_Mo_there hG e2) (by decide) (by decide) d_Mo_voidUsed_2 (by simp [z_rfc, z_ci, z_cl, z_cr, z_cn]) ?_
  show Z _ _ _ _ _ _ 5 [(0, .ref (v0)), (1, .int (v1)), (2, .int (v2)), (3, .int (v3)), (4, .int (v4))] [.int (x3)] _
  refine z_if_eq (tgt := 28) d_Mo_voidUsed_5 rfl (fun c4 => ?_) (fun c4 => ?_)
  · rw [if_pos c4] at h
    refine z_lv (lv' := [(0, .ref (v0)), (1, .int (v1)), (2, .int (v2)), (3, .int (v3)), (4, .int (v4))]) [0, 1, 2, 3, 4] rfl ?_
    exact t_Mo_voidUsed_28 hG   h
  · rw [if_neg c4] at h
    refine z_iload_n 2 d_Mo_voidUsed_8 rfl rfl ?_
    replace h := Option.bind_eq_some_iff.mp h; obtain ⟨⟨x7, σ5⟩, e6, h⟩ := h
    dsimp only at h
    refine z_callS (av := [.int (v2)]) (st := []) wS_NumberOfficeModel_144 (t_Mo_isSeries hG e6) (by decide) (by decide) d_Mo_voidUsed_9 (by simp [z_rfc, z_ci, z_cl, z_cr, z_cn]) ?_
    show Z _ _ _ _ _ _ 12 [(0, .ref (v0)), (1, .int (v1)), (2, .int (v2)), (3, .int (v3)), (4, .int (v4))] [.int (x7)] _
    refine z_if_eq (tgt := 28) d_Mo_voidUsed_12 rfl (fun c8 => ?_) (fun c8 => ?_)
    · rw [if_pos c8] at h
      refine z_lv (lv' := [(0, .ref (v0)), (1, .int (v1)), (2, .int (v2)), (3, .int (v3)), (4, .int (v4))]) [0, 1, 2, 3, 4] rfl ?_
      exact t_Mo_voidUsed_28 hG   h
    · rw [if_neg c8] at h
      refine z_iload 4 d_Mo_voidUsed_15 rfl ?_
      refine z_iconst (v := 1) d_Mo_voidUsed_17 rfl ?_
      refine z_icmp_lt (tgt := 28) d_Mo_voidUsed_18 rfl (fun c9 => ?_) (fun c9 => ?_)
      · rw [if_pos c9] at h
        refine z_lv (lv' := [(0, .ref (v0)), (1, .int (v1)), (2, .int (v2)), (3, .int (v3)), (4, .int (v4))]) [0, 1, 2, 3, 4] rfl ?_
        exact t_Mo_voidUsed_28 hG   h
      · rw [if_neg c9] at h
        refine z_iload 4 d_Mo_voidUsed_21 rfl ?_
        refine z_bipush (v := 99) d_Mo_voidUsed_23 rfl ?_
        refine z_icmp_le (tgt := 30) d_Mo_voidUsed_25 rfl (fun c10 => ?_) (fun c10 => ?_)
        · rw [if_pos c10] at h
          refine z_iconst (v := 3) d_Mo_voidUsed_30 rfl ?_
          refine z_iload_n 1 d_Mo_voidUsed_31 rfl rfl ?_
          refine z_imul d_Mo_voidUsed_32 ?_
          refine z_iload_n 2 d_Mo_voidUsed_33 rfl rfl ?_
          refine z_iadd d_Mo_voidUsed_34 ?_
          refine z_istore (j := 5) (lv' := [(5, .int ((3 * v1) + v2)), (0, .ref (v0)), (1, .int (v1)), (2, .int (v2)), (3, .int (v3)), (4, .int (v4))]) d_Mo_voidUsed_35 (by decide) rfl ?_
          refine z_aload_n 1 d_Mo_voidUsed_37 rfl rfl ?_
          refine z_iload 0 d_Mo_voidUsed_38 rfl ?_
          refine z_iload_n 4 d_Mo_voidUsed_40 rfl rfl ?_
          replace h := Option.bind_eq_some_iff.mp h; obtain ⟨_, e32, h⟩ := h
          obtain ⟨b33, f34, e32⟩ := zcls_at (zis_at e32)
          replace h := Option.bind_eq_some_iff.mp h; obtain ⟨⟨x13, σ11⟩, e12, h⟩ := h
          dsimp only at h
          refine z_callV (av := [.int ((3 * v1) + v2), .int (v3)]) (st := []) wV_NumberOfficeModel_186 e32 (t_Mo_find hG e12) (by decide) (by decide) d_Mo_voidUsed_41 (by simp [z_rfc, z_ci, z_cl, z_cr, z_cn]) ?_
          show Z _ _ _ _ _ _ 44 [(5, .int ((3 * v1) + v2)), (0, .ref (v0)), (1, .int (v1)), (2, .int (v2)), (3, .int (v3)), (4, .int (v4))] [.int (x13)] _
          refine z_istore (j := 6) (lv' := [(6, .int (x13)), (5, .int ((3 * v1) + v2)), (0, .ref (v0)), (1, .int (v1)), (2, .int (v2)), (3, .int (v3)), (4, .int (v4))]) d_Mo_voidUsed_44 (by decide) rfl ?_
          refine z_iload 0 d_Mo_voidUsed_46 rfl ?_
          refine z_iconst (v := (-1)) d_Mo_voidUsed_48 rfl ?_
          refine z_icmp_eq (tgt := 70) d_Mo_voidUsed_49 rfl (fun c14 => ?_) (fun c14 => ?_)
          · rw [if_pos c14] at h
            refine z_lv (lv' := [(0, .ref (v0)), (1, .int (v1)), (2, .int (v2)), (3, .int (v3)), (4, .int (v4)), (5, .int ((3 * v1) + v2)), (6, .int (x13))]) [2, 3, 4, 5, 6, 1, 0] rfl ?_
            exact t_Mo_voidUsed_70 hG   h
          · rw [if_neg c14] at h
            refine z_aload_n 2 d_Mo_voidUsed_52 rfl rfl ?_
            replace h := Option.bind_eq_some_iff.mp h; obtain ⟨x15, e16, h⟩ := h
            refine z_getR wF_NumberOfficeModel_36_14 d_Mo_voidUsed_53 e16 ?_
            refine z_sipush (v := 300) d_Mo_voidUsed_56 rfl ?_
            refine z_iload 1 d_Mo_voidUsed_59 rfl ?_
            refine z_imul d_Mo_voidUsed_61 ?_
            refine z_iload 0 d_Mo_voidUsed_62 rfl ?_
            refine z_iadd d_Mo_voidUsed_64 ?_
            replace h := Option.bind_eq_some_iff.mp h; obtain ⟨a17, rfl, h⟩ := h
            replace h := Option.bind_eq_some_iff.mp h; obtain ⟨x18, e19, h⟩ := h
            refine z_baload rfl d_Mo_voidUsed_65 e19 ?_
            refine z_iconst (v := 2) d_Mo_voidUsed_66 rfl ?_
            refine z_icmp_eq (tgt := 72) d_Mo_voidUsed_67 rfl (fun c20 => ?_) (fun c20 => ?_)
            · rw [if_pos c20] at h
              refine z_aload_n 2 d_Mo_voidUsed_72 rfl rfl ?_
              replace h := Option.bind_eq_some_iff.mp h; obtain ⟨x21, e22, h⟩ := h
              refine z_getR wF_NumberOfficeModel_47_14 d_Mo_voidUsed_73 e22 ?_
              refine z_sipush (v := 300) d_Mo_voidUsed_76 rfl ?_
              refine z_iload 1 d_Mo_voidUsed_79 rfl ?_
              refine z_imul d_Mo_voidUsed_81 ?_
              refine z_iload 0 d_Mo_voidUsed_82 rfl ?_
              refine z_iadd d_Mo_voidUsed_84 ?_
              refine z_iload 6 d_Mo_voidUsed_85 rfl ?_
              refine z_i2b d_Mo_voidUsed_87 ?_
              replace h := Option.bind_eq_some_iff.mp h; obtain ⟨a23, rfl, h⟩ := h
              replace h := Option.bind_eq_some_iff.mp h; obtain ⟨σ24, e25, h⟩ := h
              refine z_bastore rfl d_Mo_voidUsed_88 e25 ?_
              refine z_aload_n 2 d_Mo_voidUsed_89 rfl rfl ?_
              refine z_iload 1 d_Mo_voidUsed_90 rfl ?_
              refine z_iload 0 d_Mo_voidUsed_92 rfl ?_
              refine z_iconst (v := 1) d_Mo_voidUsed_94 rfl ?_
              replace h := Option.bind_eq_some_iff.mp h; obtain ⟨_, e29, h⟩ := h
              obtain ⟨b30, f31, e29⟩ := zcls_at (zis_at e29)
              replace h := Option.bind_eq_some_iff.mp h; obtain ⟨σ26, e27, h⟩ := h
              refine z_callV (av := [.int ((3 * v1) + v2), .int (x13), .int (1)]) (st := []) wV_NumberOfficeModel_182 e29 (t_Mo_happens hG e27) (by decide) (by decide) d_Mo_voidUsed_95 (by simp [z_rfc, z_ci, z_cl, z_cr, z_cn]) ?_
              show Z _ _ _ _ _ _ 98 [(6, .int (x13)), (5, .int ((3 * v1) + v2)), (0, .ref (v0)), (1, .int (v1)), (2, .int (v2)), (3, .int (v3)), (4, .int (v4))] [] _
              refine z_iconst (v := 1) d_Mo_voidUsed_98 rfl ?_
              cases h
              exact z_zret rfl rfl rfl d_Mo_voidUsed_99
            · rw [if_neg c20] at h
              refine z_lv (lv' := [(0, .ref (v0)), (1, .int (v1)), (2, .int (v2)), (3, .int (v3)), (4, .int (v4)), (5, .int ((3 * v1) + v2)), (6, .int (x13))]) [2, 3, 4, 5, 6, 1, 0] rfl ?_
              exact t_Mo_voidUsed_70 hG   h
        · rw [if_neg c10] at h
          refine z_lv (lv' := [(0, .ref (v0)), (1, .int (v1)), (2, .int (v2)), (3, .int (v3)), (4, .int (v4))]) [0, 1, 2, 3, 4] rfl ?_
          exact t_Mo_voidUsed_28 hG   h

def s_Mo_crash_22 (g : zG)  (v0 : Nat) (v1 : Int32) (σ : zS) : Option (Int32 × zS) := some (0, σ)
def s_Mo_crash (g : zG) (v0 : Nat) (v1 : Int32) (σ : zS) : Option (Int32 × zS) := (zpF σ v0 14 0 (.int (0))).bind fun σ1 => (zis σ1 v0 14).bind fun _ => (s_Mo_isSide g v0 v1 σ1).bind fun (x5, σ3) => if x5 = 0 then s_Mo_crash_22 g  (v0) (v1) σ3 else (zgR σ3 v0 14 2).bind fun x7 => (x7).bind fun a9 => (zaI σ3 a9 3 (v1)).bind fun x10 => if x10 = 0 then (zgR σ3 v0 14 2).bind fun x13 => (x13).bind fun a15 => (zsI σ3 a15 3 (v1) (vp_nar .boolean 1)).bind fun σ16 => some (1, σ16) else s_Mo_crash_22 g  (v0) (v1) σ3
set_option maxRecDepth 100000 in
theorem t_Mo_crash_22 {l : Launch} {D : zD} {g : zG} (hG : zGok g D) {q : Int32 × zS}   {v0 : Nat} {v1 : Int32} {σ : zS} (h : s_Mo_crash_22 g  v0 v1 σ = some q) : Z l D K_Mo_crash 1 21 (.returned (some (.int q.1)), q.2) 22 [(0, .ref (v0)), (1, .int (v1))] [] σ := by
  unfold s_Mo_crash_22 at h
  refine z_iconst (v := 0) d_Mo_crash_22 rfl ?_
  cases h
  exact z_zret rfl rfl rfl d_Mo_crash_23
set_option maxRecDepth 100000 in
theorem t_Mo_crash {l : Launch} {D : zD} {g : zG} (hG : zGok g D) {v0 : Nat} {v1 : Int32} {σ : zS} {q : Int32 × zS} (h : s_Mo_crash g v0 v1 σ = some q) : zMet l D Y_Mo_crash K_Mo_crash 1 21 [.ref (v0), .int (v1)] σ (.returned (some (.int q.1)), q.2) := by
  refine zMet.ofZ (by decide) rfl (fun q => by cases q) (Nat.le_of_ble_eq_true rfl) ?_
  show Z _ _ _ _ _ _ 0 [(0, .ref (v0)), (1, .int (v1))] [] _
  unfold s_Mo_crash at h
  refine z_aload_n 0 d_Mo_crash_0 rfl rfl ?_
  refine z_iconst (v := 0) d_Mo_crash_1 rfl ?_
  replace h := Option.bind_eq_some_iff.mp h; obtain ⟨σ1, e2, h⟩ := h
  refine z_put wP_NumberOfficeModel_120_14 (fun q => by cases q) d_Mo_crash_2 rfl rfl e2 ?_
  refine z_aload_n 0 d_Mo_crash_5 rfl rfl ?_
  refine z_iload_n 1 d_Mo_crash_6 rfl rfl ?_
  replace h := Option.bind_eq_some_iff.mp h; obtain ⟨_, e18, h⟩ := h
  obtain ⟨b19, f20, e18⟩ := zcls_at (zis_at e18)
  replace h := Option.bind_eq_some_iff.mp h; obtain ⟨⟨x5, σ3⟩, e4, h⟩ := h
  dsimp only at h
  refine z_callV (av := [.int (v1)]) (st := []) wV_NumberOfficeModel_189 e18 (t_Mo_isSide hG e4) (by decide) (by decide) d_Mo_crash_7 (by simp [z_rfc, z_ci, z_cl, z_cr, z_cn]) ?_
  show Z _ _ _ _ _ _ 10 [(0, .ref (v0)), (1, .int (v1))] [.int (x5)] _
  refine z_if_eq (tgt := 22) d_Mo_crash_10 rfl (fun c6 => ?_) (fun c6 => ?_)
  · rw [if_pos c6] at h
    refine z_lv (lv' := [(0, .ref (v0)), (1, .int (v1))]) [0, 1] rfl ?_
    exact t_Mo_crash_22 hG   h
  · rw [if_neg c6] at h
    refine z_aload_n 0 d_Mo_crash_13 rfl rfl ?_
    replace h := Option.bind_eq_some_iff.mp h; obtain ⟨x7, e8, h⟩ := h
    refine z_getR wF_NumberOfficeModel_7_14 d_Mo_crash_14 e8 ?_
    refine z_iload_n 1 d_Mo_crash_17 rfl rfl ?_
    replace h := Option.bind_eq_some_iff.mp h; obtain ⟨a9, rfl, h⟩ := h
    replace h := Option.bind_eq_some_iff.mp h; obtain ⟨x10, e11, h⟩ := h
    refine z_zaload rfl d_Mo_crash_18 e11 ?_
    refine z_if_eq (tgt := 24) d_Mo_crash_19 rfl (fun c12 => ?_) (fun c12 => ?_)
    · rw [if_pos c12] at h
      refine z_aload_n 0 d_Mo_crash_24 rfl rfl ?_
      replace h := Option.bind_eq_some_iff.mp h; obtain ⟨x13, e14, h⟩ := h
      refine z_getR wF_NumberOfficeModel_7_14 d_Mo_crash_25 e14 ?_
      refine z_iload_n 1 d_Mo_crash_28 rfl rfl ?_
      refine z_iconst (v := 1) d_Mo_crash_29 rfl ?_
      replace h := Option.bind_eq_some_iff.mp h; obtain ⟨a15, rfl, h⟩ := h
      replace h := Option.bind_eq_some_iff.mp h; obtain ⟨σ16, e17, h⟩ := h
      refine z_zastore rfl d_Mo_crash_30 e17 ?_
      refine z_iconst (v := 1) d_Mo_crash_31 rfl ?_
      cases h
      exact z_zret rfl rfl rfl d_Mo_crash_32
    · rw [if_neg c12] at h
      refine z_lv (lv' := [(0, .ref (v0)), (1, .int (v1))]) [0, 1] rfl ?_
      exact t_Mo_crash_22 hG   h

def s_Mo_mount_22 (g : zG)  (v0 : Nat) (v1 : Int32) (σ : zS) : Option (Int32 × zS) := some (0, σ)
def s_Mo_mount_57 (g : zG)  (v0 : Nat) (v1 : Int32) (σ : zS) : Option (Int32 × zS) := some (1, σ)
def s_Mo_mount (g : zG) (v0 : Nat) (v1 : Int32) (σ : zS) : Option (Int32 × zS) := (zpF σ v0 14 0 (.int (0))).bind fun σ1 => (zis σ1 v0 14).bind fun _ => (s_Mo_isSide g v0 v1 σ1).bind fun (x5, σ3) => if x5 = 0 then s_Mo_mount_22 g  (v0) (v1) σ3 else (zgR σ3 v0 14 2).bind fun x7 => (x7).bind fun a9 => (zaI σ3 a9 3 (v1)).bind fun x10 => if x10 = 0 then s_Mo_mount_22 g  (v0) (v1) σ3 else (zgR σ3 v0 14 2).bind fun x13 => (x13).bind fun a15 => (zsI σ3 a15 3 (v1) (vp_nar .boolean 0)).bind fun σ16 => (zgI σ16 v0 14 1).bind fun x18 => if v1 = x18 then (zis σ16 v0 14).bind fun _ => (s_Mo_copyOffice g v0 1 0 σ16).bind fun σ27 => s_Mo_mount_57 g  (v0) (v1) σ27 else (zis σ16 v0 14).bind fun _ => (s_Mo_copyBranch g v0 (v1 + 6) v1 σ16).bind fun σ21 => s_Mo_mount_57 g  (v0) (v1) σ21
set_option maxRecDepth 100000 in
theorem t_Mo_mount_22 {l : Launch} {D : zD} {g : zG} (hG : zGok g D) {q : Int32 × zS}   {v0 : Nat} {v1 : Int32} {σ : zS} (h : s_Mo_mount_22 g  v0 v1 σ = some q) : Z l D K_Mo_mount 2 46 (.returned (some (.int q.1)), q.2) 22 [(0, .ref (v0)), (1, .int (v1))] [] σ := by
  unfold s_Mo_mount_22 at h
  refine z_iconst (v := 0) d_Mo_mount_22 rfl ?_
  cases h
  exact z_zret rfl rfl rfl d_Mo_mount_23
set_option maxRecDepth 100000 in
theorem t_Mo_mount_57 {l : Launch} {D : zD} {g : zG} (hG : zGok g D) {q : Int32 × zS}   {v0 : Nat} {v1 : Int32} {σ : zS} (h : s_Mo_mount_57 g  v0 v1 σ = some q) : Z l D K_Mo_mount 2 46 (.returned (some (.int q.1)), q.2) 57 [(0, .ref (v0)), (1, .int (v1))] [] σ := by
  unfold s_Mo_mount_57 at h
  refine z_iconst (v := 1) d_Mo_mount_57 rfl ?_
  cases h
  exact z_zret rfl rfl rfl d_Mo_mount_58
set_option maxRecDepth 100000 in
theorem t_Mo_mount {l : Launch} {D : zD} {g : zG} (hG : zGok g D) {v0 : Nat} {v1 : Int32} {σ : zS} {q : Int32 × zS} (h : s_Mo_mount g v0 v1 σ = some q) : zMet l D Y_Mo_mount K_Mo_mount 2 46 [.ref (v0), .int (v1)] σ (.returned (some (.int q.1)), q.2) := by
  refine zMet.ofZ (by decide) rfl (fun q => by cases q) (Nat.le_of_ble_eq_true rfl) ?_
  show Z _ _ _ _ _ _ 0 [(0, .ref (v0)), (1, .int (v1))] [] _
  unfold s_Mo_mount at h
  refine z_aload_n 0 d_Mo_mount_0 rfl rfl ?_
  refine z_iconst (v := 0) d_Mo_mount_1 rfl ?_
  replace h := Option.bind_eq_some_iff.mp h; obtain ⟨σ1, e2, h⟩ := h
  refine z_put wP_NumberOfficeModel_120_14 (fun q => by cases q) d_Mo_mount_2 rfl rfl e2 ?_
  refine z_aload_n 0 d_Mo_mount_5 rfl rfl ?_
  refine z_iload_n 1 d_Mo_mount_6 rfl rfl ?_
  replace h := Option.bind_eq_some_iff.mp h; obtain ⟨_, e33, h⟩ := h
  obtain ⟨b34, f35, e33⟩ := zcls_at (zis_at e33)
  replace h := Option.bind_eq_some_iff.mp h; obtain ⟨⟨x5, σ3⟩, e4, h⟩ := h
  dsimp only at h
  refine z_callV (av := [.int (v1)]) (st := []) wV_NumberOfficeModel_189 e33 (t_Mo_isSide hG e4) (by decide) (by decide) d_Mo_mount_7 (by simp [z_rfc, z_ci, z_cl, z_cr, z_cn]) ?_
  show Z _ _ _ _ _ _ 10 [(0, .ref (v0)), (1, .int (v1))] [.int (x5)] _
  refine z_if_eq (tgt := 22) d_Mo_mount_10 rfl (fun c6 => ?_) (fun c6 => ?_)
  · rw [if_pos c6] at h
    refine z_lv (lv' := [(0, .ref (v0)), (1, .int (v1))]) [0, 1] rfl ?_
    exact t_Mo_mount_22 hG   h
  · rw [if_neg c6] at h
    refine z_aload_n 0 d_Mo_mount_13 rfl rfl ?_
    replace h := Option.bind_eq_some_iff.mp h; obtain ⟨x7, e8, h⟩ := h
    refine z_getR wF_NumberOfficeModel_7_14 d_Mo_mount_14 e8 ?_
    refine z_iload_n 1 d_Mo_mount_17 rfl rfl ?_
    replace h := Option.bind_eq_some_iff.mp h; obtain ⟨a9, rfl, h⟩ := h
    replace h := Option.bind_eq_some_iff.mp h; obtain ⟨x10, e11, h⟩ := h
    refine z_zaload rfl d_Mo_mount_18 e11 ?_
    refine z_if_ne (tgt := 24) d_Mo_mount_19 rfl (fun c12 => ?_) (fun c12 => ?_)
    · rw [if_neg c12] at h
      refine z_aload_n 0 d_Mo_mount_24 rfl rfl ?_
      replace h := Option.bind_eq_some_iff.mp h; obtain ⟨x13, e14, h⟩ := h
      refine z_getR wF_NumberOfficeModel_7_14 d_Mo_mount_25 e14 ?_
      refine z_iload_n 1 d_Mo_mount_28 rfl rfl ?_
      refine z_iconst (v := 0) d_Mo_mount_29 rfl ?_
      replace h := Option.bind_eq_some_iff.mp h; obtain ⟨a15, rfl, h⟩ := h
      replace h := Option.bind_eq_some_iff.mp h; obtain ⟨σ16, e17, h⟩ := h
      refine z_zastore rfl d_Mo_mount_30 e17 ?_
      refine z_iload_n 1 d_Mo_mount_31 rfl rfl ?_
      refine z_aload_n 0 d_Mo_mount_32 rfl rfl ?_
      replace h := Option.bind_eq_some_iff.mp h; obtain ⟨x18, e19, h⟩ := h
      refine z_getI wF_NumberOfficeModel_116_14 d_Mo_mount_33 e19 ?_
      refine z_icmp_ne (tgt := 48) d_Mo_mount_36 rfl (fun c20 => ?_) (fun c20 => ?_)
      · rw [if_neg c20] at h
        refine z_aload_n 0 d_Mo_mount_48 rfl rfl ?_
        refine z_iload_n 1 d_Mo_mount_49 rfl rfl ?_
        refine z_bipush (v := 6) d_Mo_mount_50 rfl ?_
        refine z_iadd d_Mo_mount_52 ?_
        refine z_iload_n 1 d_Mo_mount_53 rfl rfl ?_
        replace h := Option.bind_eq_some_iff.mp h; obtain ⟨_, e24, h⟩ := h
        obtain ⟨b25, f26, e24⟩ := zcls_at (zis_at e24)
        replace h := Option.bind_eq_some_iff.mp h; obtain ⟨σ21, e22, h⟩ := h
        refine z_callV (av := [.int (v1 + 6), .int (v1)]) (st := []) wV_NumberOfficeModel_130 e24 (t_Mo_copyBranch hG e22) (by decide) (by decide) d_Mo_mount_54 (by simp [z_rfc, z_ci, z_cl, z_cr, z_cn]) ?_
        show Z _ _ _ _ _ _ 57 [(0, .ref (v0)), (1, .int (v1))] [] _
        refine z_lv (lv' := [(0, .ref (v0)), (1, .int (v1))]) [0, 1] rfl ?_
        exact t_Mo_mount_57 hG   h
      · rw [if_pos c20] at h
        refine z_aload_n 0 d_Mo_mount_39 rfl rfl ?_
        refine z_iconst (v := 1) d_Mo_mount_40 rfl ?_
        refine z_iconst (v := 0) d_Mo_mount_41 rfl ?_
        replace h := Option.bind_eq_some_iff.mp h; obtain ⟨_, e30, h⟩ := h
        obtain ⟨b31, f32, e30⟩ := zcls_at (zis_at e30)
        replace h := Option.bind_eq_some_iff.mp h; obtain ⟨σ27, e28, h⟩ := h
        refine z_callV (av := [.int (1), .int (0)]) (st := []) wV_NumberOfficeModel_127 e30 (t_Mo_copyOffice hG e28) (by decide) (by decide) d_Mo_mount_42 (by simp [z_rfc, z_ci, z_cl, z_cr, z_cn]) ?_
        show Z _ _ _ _ _ _ 45 [(0, .ref (v0)), (1, .int (v1))] [] _
        refine z_goto (tgt := 57) d_Mo_mount_45 rfl ?_
        refine z_lv (lv' := [(0, .ref (v0)), (1, .int (v1))]) [0, 1] rfl ?_
        exact t_Mo_mount_57 hG   h
    · rw [if_pos c12] at h
      refine z_lv (lv' := [(0, .ref (v0)), (1, .int (v1))]) [0, 1] rfl ?_
      exact t_Mo_mount_22 hG   h

def s_Mo_letter_37 (g : zG)  (v0 : Nat) (v1 : Int32) (v2 : Int32) (w0 : Int32) (σ : zS) : Option (Int32 × zS) := some (w0, σ)
def s_Mo_letter_36 (g : zG)  (v0 : Nat) (v1 : Int32) (v2 : Int32) (σ : zS) : Option (Int32 × zS) := s_Mo_letter_37 g  (v0) (v1) (v2) ((-1)) σ
def s_Mo_letter (g : zG) (v0 : Nat) (v1 : Int32) (v2 : Int32) (σ : zS) : Option (Int32 × zS) := (zpF σ v0 14 0 (.int (0))).bind fun σ1 => (zis σ1 v0 14).bind fun _ => (s_Mo_isLetter g v0 v1 σ1).bind fun (x5, σ3) => if x5 = 0 then s_Mo_letter_36 g  (v0) (v1) (v2) σ3 else if v2 < 0 then s_Mo_letter_36 g  (v0) (v1) (v2) σ3 else if 3 ≤ v2 then s_Mo_letter_36 g  (v0) (v1) (v2) σ3 else (zgR σ3 v0 14 35).bind fun x9 => (x9).bind fun a11 => (zaI σ3 a11 0 ((8 * v1) + v2)).bind fun x12 => s_Mo_letter_37 g  (v0) (v1) (v2) (x12) σ3
set_option maxRecDepth 100000 in
theorem t_Mo_letter_37 {l : Launch} {D : zD} {g : zG} (hG : zGok g D) {q : Int32 × zS}   {v0 : Nat} {v1 : Int32} {v2 : Int32} {w0 : Int32} {σ : zS} (h : s_Mo_letter_37 g  v0 v1 v2 w0 σ = some q) : Z l D K_Mo_letter 1 21 (.returned (some (.int q.1)), q.2) 37 [(0, .ref (v0)), (1, .int (v1)), (2, .int (v2))] [.int (w0)] σ := by
  unfold s_Mo_letter_37 at h
  cases h
  exact z_iret rfl rfl d_Mo_letter_37
set_option maxRecDepth 100000 in
theorem t_Mo_letter_36 {l : Launch} {D : zD} {g : zG} (hG : zGok g D) {q : Int32 × zS}   {v0 : Nat} {v1 : Int32} {v2 : Int32} {σ : zS} (h : s_Mo_letter_36 g  v0 v1 v2 σ = some q) : Z l D K_Mo_letter 1 21 (.returned (some (.int q.1)), q.2) 36 [(0, .ref (v0)), (1, .int (v1)), (2, .int (v2))] [] σ := by
  unfold s_Mo_letter_36 at h
  refine z_iconst (v := (-1)) d_Mo_letter_36 rfl ?_
  refine z_lv (lv' := [(0, .ref (v0)), (1, .int (v1)), (2, .int (v2))]) [0, 1, 2] rfl ?_
  exact t_Mo_letter_37 hG   h
set_option maxRecDepth 100000 in
theorem t_Mo_letter {l : Launch} {D : zD} {g : zG} (hG : zGok g D) {v0 : Nat} {v1 : Int32} {v2 : Int32} {σ : zS} {q : Int32 × zS} (h : s_Mo_letter g v0 v1 v2 σ = some q) : zMet l D Y_Mo_letter K_Mo_letter 1 21 [.ref (v0), .int (v1), .int (v2)] σ (.returned (some (.int q.1)), q.2) := by
  refine zMet.ofZ (by decide) rfl (fun q => by cases q) (Nat.le_of_ble_eq_true rfl) ?_
  show Z _ _ _ _ _ _ 0 [(0, .ref (v0)), (1, .int (v1)), (2, .int (v2))] [] _
  unfold s_Mo_letter at h
  refine z_aload_n 0 d_Mo_letter_0 rfl rfl ?_
  refine z_iconst (v := 0) d_Mo_letter_1 rfl ?_
  replace h := Option.bind_eq_some_iff.mp h; obtain ⟨σ1, e2, h⟩ := h
  refine z_put wP_NumberOfficeModel_120_14 (fun q => by cases q) d_Mo_letter_2 rfl rfl e2 ?_
  refine z_aload_n 0 d_Mo_letter_5 rfl rfl ?_
  refine z_iload_n 1 d_Mo_letter_6 rfl rfl ?_
  replace h := Option.bind_eq_some_iff.mp h; obtain ⟨_, e14, h⟩ := h
  obtain ⟨b15, f16, e14⟩ := zcls_at (zis_at e14)
  replace h := Option.bind_eq_some_iff.mp h; obtain ⟨⟨x5, σ3⟩, e4, h⟩ := h
  dsimp only at h
  refine z_callV (av := [.int (v1)]) (st := []) wV_NumberOfficeModel_192 e14 (t_Mo_isLetter hG e4) (by decide) (by decide) d_Mo_letter_7 (by simp [z_rfc, z_ci, z_cl, z_cr, z_cn]) ?_
  show Z _ _ _ _ _ _ 10 [(0, .ref (v0)), (1, .int (v1)), (2, .int (v2))] [.int (x5)] _
  refine z_if_eq (tgt := 36) d_Mo_letter_10 rfl (fun c6 => ?_) (fun c6 => ?_)
  · rw [if_pos c6] at h
    refine z_lv (lv' := [(0, .ref (v0)), (1, .int (v1)), (2, .int (v2))]) [0, 1, 2] rfl ?_
    exact t_Mo_letter_36 hG   h
  · rw [if_neg c6] at h
    refine z_iload_n 2 d_Mo_letter_13 rfl rfl ?_
    refine z_if_lt (tgt := 36) d_Mo_letter_14 rfl (fun c7 => ?_) (fun c7 => ?_)
    · rw [if_pos c7] at h
      refine z_lv (lv' := [(0, .ref (v0)), (1, .int (v1)), (2, .int (v2))]) [0, 1, 2] rfl ?_
      exact t_Mo_letter_36 hG   h
    · rw [if_neg c7] at h
      refine z_iload_n 2 d_Mo_letter_17 rfl rfl ?_
      refine z_iconst (v := 3) d_Mo_letter_18 rfl ?_
      refine z_icmp_ge (tgt := 36) d_Mo_letter_19 rfl (fun c8 => ?_) (fun c8 => ?_)
      · rw [if_pos c8] at h
        refine z_lv (lv' := [(0, .ref (v0)), (1, .int (v1)), (2, .int (v2))]) [0, 1, 2] rfl ?_
        exact t_Mo_letter_36 hG   h
      · rw [if_neg c8] at h
        refine z_aload_n 0 d_Mo_letter_22 rfl rfl ?_
        replace h := Option.bind_eq_some_iff.mp h; obtain ⟨x9, e10, h⟩ := h
        refine z_getR wF_NumberOfficeModel_110_14 d_Mo_letter_23 e10 ?_
        refine z_bipush (v := 8) d_Mo_letter_26 rfl ?_
        refine z_iload_n 1 d_Mo_letter_28 rfl rfl ?_
        refine z_imul d_Mo_letter_29 ?_
        refine z_iload_n 2 d_Mo_letter_30 rfl rfl ?_
        refine z_iadd d_Mo_letter_31 ?_
        replace h := Option.bind_eq_some_iff.mp h; obtain ⟨a11, rfl, h⟩ := h
        replace h := Option.bind_eq_some_iff.mp h; obtain ⟨x12, e13, h⟩ := h
        refine z_iaload rfl d_Mo_letter_32 e13 ?_
        refine z_goto (tgt := 37) d_Mo_letter_33 rfl ?_
        refine z_lv (lv' := [(0, .ref (v0)), (1, .int (v1)), (2, .int (v2))]) [0, 1, 2] rfl ?_
        exact t_Mo_letter_37 hG   h

def s_Mo_fate_52 (g : zG)  (v0 : Nat) (v1 : Int32) (v2 : Int32) (w0 : Int32) (σ : zS) : Option (Int32 × zS) := some (w0, σ)
def s_Mo_fate_51 (g : zG)  (v0 : Nat) (v1 : Int32) (v2 : Int32) (σ : zS) : Option (Int32 × zS) := s_Mo_fate_52 g  (v0) (v1) (v2) (0) σ
def s_Mo_fate_18 (g : zG)  (v0 : Nat) (v1 : Int32) (v2 : Int32) (w0 : Int32) (w1 : Option Nat) (σ : zS) : Option (Int32 × zS) := (w1).bind fun a1 => (zpF σ a1 14 0 (.int (w0))).bind fun σ2 => (zgI σ2 v0 14 0).bind fun x4 => if x4 = 0 then (zis σ2 v0 14).bind fun _ => (s_Mo_isGiven g v0 v1 v2 σ2).bind fun (x9, σ7) => if x9 = 0 then s_Mo_fate_51 g  (v0) (v1) (v2) σ7 else (zgR σ7 v0 14 24).bind fun x11 => (zis σ7 v0 14).bind fun _ => (s_Mo_at g v0 v1 v2 σ7).bind fun (x15, σ13) => (x11).bind fun a16 => (zaI σ13 a16 2 (x15)).bind fun x17 => s_Mo_fate_52 g  (v0) (v1) (v2) (x17) σ13 else s_Mo_fate_51 g  (v0) (v1) (v2) σ2
def s_Mo_fate (g : zG) (v0 : Nat) (v1 : Int32) (v2 : Int32) (σ : zS) : Option (Int32 × zS) := (zgR σ v0 14 2).bind fun x1 => (zgI σ v0 14 1).bind fun x3 => (x1).bind fun a5 => (zaI σ a5 3 (x3)).bind fun x6 => if x6 = 0 then s_Mo_fate_18 g  (v0) (v1) (v2) (0) (some (v0)) σ else s_Mo_fate_18 g  (v0) (v1) (v2) (1) (some (v0)) σ
set_option maxRecDepth 100000 in
theorem t_Mo_fate_52 {l : Launch} {D : zD} {g : zG} (hG : zGok g D) {q : Int32 × zS}   {v0 : Nat} {v1 : Int32} {v2 : Int32} {w0 : Int32} {σ : zS} (h : s_Mo_fate_52 g  v0 v1 v2 w0 σ = some q) : Z l D K_Mo_fate 2 42 (.returned (some (.int q.1)), q.2) 52 [(0, .ref (v0)), (1, .int (v1)), (2, .int (v2))] [.int (w0)] σ := by
  unfold s_Mo_fate_52 at h
  cases h
  exact z_iret rfl rfl d_Mo_fate_52
set_option maxRecDepth 100000 in
theorem t_Mo_fate_51 {l : Launch} {D : zD} {g : zG} (hG : zGok g D) {q : Int32 × zS}   {v0 : Nat} {v1 : Int32} {v2 : Int32} {σ : zS} (h : s_Mo_fate_51 g  v0 v1 v2 σ = some q) : Z l D K_Mo_fate 2 42 (.returned (some (.int q.1)), q.2) 51 [(0, .ref (v0)), (1, .int (v1)), (2, .int (v2))] [] σ := by
  unfold s_Mo_fate_51 at h
  refine z_iconst (v := 0) d_Mo_fate_51 rfl ?_
  refine z_lv (lv' := [(0, .ref (v0)), (1, .int (v1)), (2, .int (v2))]) [0, 1, 2] rfl ?_
  exact t_Mo_fate_52 hG   h
set_option maxRecDepth 100000 in
theorem t_Mo_fate_18 {l : Launch} {D : zD} {g : zG} (hG : zGok g D) {q : Int32 × zS}   {v0 : Nat} {v1 : Int32} {v2 : Int32} {w0 : Int32} {w1 : Option Nat} {σ : zS} (h : s_Mo_fate_18 g  v0 v1 v2 w0 w1 σ = some q) : Z l D K_Mo_fate 2 42 (.returned (some (.int q.1)), q.2) 18 [(0, .ref (v0)), (1, .int (v1)), (2, .int (v2))] [.int (w0), va_rf (w1)] σ := by
  unfold s_Mo_fate_18 at h
  replace h := Option.bind_eq_some_iff.mp h; obtain ⟨a1, rfl, h⟩ := h
  replace h := Option.bind_eq_some_iff.mp h; obtain ⟨σ2, e3, h⟩ := h
  refine z_put wP_NumberOfficeModel_120_14 (fun q => by cases q) d_Mo_fate_18 rfl rfl e3 ?_
  refine z_aload_n 0 d_Mo_fate_21 rfl rfl ?_
  replace h := Option.bind_eq_some_iff.mp h; obtain ⟨x4, e5, h⟩ := h
  refine z_getI wF_NumberOfficeModel_120_14 d_Mo_fate_22 e5 ?_
  refine z_if_ne (tgt := 51) d_Mo_fate_25 rfl (fun c6 => ?_) (fun c6 => ?_)
  · rw [if_neg c6] at h
    refine z_lv (lv' := [(0, .ref (v0)), (1, .int (v1)), (2, .int (v2))]) [0, 1, 2] rfl ?_
    exact t_Mo_fate_51 hG   h
  · rw [if_pos c6] at h
    refine z_aload_n 0 d_Mo_fate_28 rfl rfl ?_
    refine z_iload_n 1 d_Mo_fate_29 rfl rfl ?_
    refine z_iload_n 2 d_Mo_fate_30 rfl rfl ?_
    replace h := Option.bind_eq_some_iff.mp h; obtain ⟨_, e22, h⟩ := h
    obtain ⟨b23, f24, e22⟩ := zcls_at (zis_at e22)
    replace h := Option.bind_eq_some_iff.mp h; obtain ⟨⟨x9, σ7⟩, e8, h⟩ := h
    dsimp only at h
    refine z_callV (av := [.int (v1), .int (v2)]) (st := []) wV_NumberOfficeModel_205 e22 (t_Mo_isGiven hG e8) (by decide) (by decide) d_Mo_fate_31 (by simp [z_rfc, z_ci, z_cl, z_cr, z_cn]) ?_
    show Z _ _ _ _ _ _ 34 [(0, .ref (v0)), (1, .int (v1)), (2, .int (v2))] [.int (x9)] _
    refine z_if_eq (tgt := 51) d_Mo_fate_34 rfl (fun c10 => ?_) (fun c10 => ?_)
    · rw [if_pos c10] at h
      refine z_lv (lv' := [(0, .ref (v0)), (1, .int (v1)), (2, .int (v2))]) [0, 1, 2] rfl ?_
      exact t_Mo_fate_51 hG   h
    · rw [if_neg c10] at h
      refine z_aload_n 0 d_Mo_fate_37 rfl rfl ?_
      replace h := Option.bind_eq_some_iff.mp h; obtain ⟨x11, e12, h⟩ := h
      refine z_getR wF_NumberOfficeModel_80_14 d_Mo_fate_38 e12 ?_
      refine z_aload_n 0 d_Mo_fate_41 rfl rfl ?_
      refine z_iload_n 1 d_Mo_fate_42 rfl rfl ?_
      refine z_iload_n 2 d_Mo_fate_43 rfl rfl ?_
      replace h := Option.bind_eq_some_iff.mp h; obtain ⟨_, e19, h⟩ := h
      obtain ⟨b20, f21, e19⟩ := zcls_at (zis_at e19)
      replace h := Option.bind_eq_some_iff.mp h; obtain ⟨⟨x15, σ13⟩, e14, h⟩ := h
      dsimp only at h
      refine z_callV (av := [.int (v1), .int (v2)]) (st := [va_rf (x11)]) wV_NumberOfficeModel_148 e19 (t_Mo_at hG e14) (by decide) (by decide) d_Mo_fate_44 (by simp [z_rfc, z_ci, z_cl, z_cr, z_cn]) ?_
      show Z _ _ _ _ _ _ 47 [(0, .ref (v0)), (1, .int (v1)), (2, .int (v2))] [.int (x15), va_rf (x11)] _
      replace h := Option.bind_eq_some_iff.mp h; obtain ⟨a16, rfl, h⟩ := h
      replace h := Option.bind_eq_some_iff.mp h; obtain ⟨x17, e18, h⟩ := h
      refine z_baload rfl d_Mo_fate_47 e18 ?_
      refine z_goto (tgt := 52) d_Mo_fate_48 rfl ?_
      refine z_lv (lv' := [(0, .ref (v0)), (1, .int (v1)), (2, .int (v2))]) [0, 1, 2] rfl ?_
      exact t_Mo_fate_52 hG   h
set_option maxRecDepth 100000 in
theorem t_Mo_fate {l : Launch} {D : zD} {g : zG} (hG : zGok g D) {v0 : Nat} {v1 : Int32} {v2 : Int32} {σ : zS} {q : Int32 × zS} (h : s_Mo_fate g v0 v1 v2 σ = some q) : zMet l D Y_Mo_fate K_Mo_fate 2 42 [.ref (v0), .int (v1), .int (v2)] σ (.returned (some (.int q.1)), q.2) := by
  refine zMet.ofZ (by decide) rfl (fun q => by cases q) (Nat.le_of_ble_eq_true rfl) ?_
  show Z _ _ _ _ _ _ 0 [(0, .ref (v0)), (1, .int (v1)), (2, .int (v2))] [] _
  unfold s_Mo_fate at h
  refine z_aload_n 0 d_Mo_fate_0 rfl rfl ?_
  refine z_aload_n 0 d_Mo_fate_1 rfl rfl ?_
  replace h := Option.bind_eq_some_iff.mp h; obtain ⟨x1, e2, h⟩ := h
  refine z_getR wF_NumberOfficeModel_7_14 d_Mo_fate_2 e2 ?_
  refine z_aload_n 0 d_Mo_fate_5 rfl rfl ?_
  replace h := Option.bind_eq_some_iff.mp h; obtain ⟨x3, e4, h⟩ := h
  refine z_getI wF_NumberOfficeModel_116_14 d_Mo_fate_6 e4 ?_
  replace h := Option.bind_eq_some_iff.mp h; obtain ⟨a5, rfl, h⟩ := h
  replace h := Option.bind_eq_some_iff.mp h; obtain ⟨x6, e7, h⟩ := h
  refine z_zaload rfl d_Mo_fate_9 e7 ?_
  refine z_if_eq (tgt := 17) d_Mo_fate_10 rfl (fun c8 => ?_) (fun c8 => ?_)
  · rw [if_pos c8] at h
    refine z_iconst (v := 0) d_Mo_fate_17 rfl ?_
    refine z_lv (lv' := [(0, .ref (v0)), (1, .int (v1)), (2, .int (v2))]) [0, 1, 2] rfl ?_
    exact t_Mo_fate_18 hG   h
  · rw [if_neg c8] at h
    refine z_iconst (v := 1) d_Mo_fate_13 rfl ?_
    refine z_goto (tgt := 18) d_Mo_fate_14 rfl ?_
    refine z_lv (lv' := [(0, .ref (v0)), (1, .int (v1)), (2, .int (v2))]) [0, 1, 2] rfl ?_
    exact t_Mo_fate_18 hG   h

def s_Mo_total_53 (g : zG)  (v0 : Nat) (v1 : Int32) (v2 : Int32) (w0 : Int64) (σ : zS) : Option (Int64 × zS) := some (w0, σ)
def s_Mo_total_52 (g : zG)  (v0 : Nat) (v1 : Int32) (v2 : Int32) (σ : zS) : Option (Int64 × zS) := s_Mo_total_53 g  (v0) (v1) (v2) (0) σ
def s_Mo_total_18 (g : zG)  (v0 : Nat) (v1 : Int32) (v2 : Int32) (w0 : Int32) (w1 : Option Nat) (σ : zS) : Option (Int64 × zS) := (w1).bind fun a1 => (zpF σ a1 14 0 (.int (w0))).bind fun σ2 => (zgI σ2 v0 14 0).bind fun x4 => if x4 = 0 then (s_Mo_isSeries g v1 σ2).bind fun (x9, σ7) => if x9 = 0 then s_Mo_total_52 g  (v0) (v1) (v2) σ7 else (zis σ7 v0 14).bind fun _ => (s_Mo_isBranch g v0 v2 σ7).bind fun (x13, σ11) => if x13 = 0 then s_Mo_total_52 g  (v0) (v1) (v2) σ11 else (zis σ11 v0 14).bind fun _ => (s_Mo_sum g v0 v1 v2 σ11).bind fun (x17, σ15) => s_Mo_total_53 g  (v0) (v1) (v2) (x17) σ15 else s_Mo_total_52 g  (v0) (v1) (v2) σ2
def s_Mo_total (g : zG) (v0 : Nat) (v1 : Int32) (v2 : Int32) (σ : zS) : Option (Int64 × zS) := (zgR σ v0 14 2).bind fun x1 => (zgI σ v0 14 1).bind fun x3 => (x1).bind fun a5 => (zaI σ a5 3 (x3)).bind fun x6 => if x6 = 0 then s_Mo_total_18 g  (v0) (v1) (v2) (0) (some (v0)) σ else s_Mo_total_18 g  (v0) (v1) (v2) (1) (some (v0)) σ
set_option maxRecDepth 100000 in
theorem t_Mo_total_53 {l : Launch} {D : zD} {g : zG} (hG : zGok g D) {q : Int64 × zS}   {v0 : Nat} {v1 : Int32} {v2 : Int32} {w0 : Int64} {σ : zS} (h : s_Mo_total_53 g  v0 v1 v2 w0 σ = some q) : Z l D K_Mo_total 2 48 (.returned (some (.long q.1)), q.2) 53 [(0, .ref (v0)), (1, .int (v1)), (2, .int (v2))] [.long (w0)] σ := by
  unfold s_Mo_total_53 at h
  cases h
  exact z_lret rfl rfl d_Mo_total_53
set_option maxRecDepth 100000 in
theorem t_Mo_total_52 {l : Launch} {D : zD} {g : zG} (hG : zGok g D) {q : Int64 × zS}   {v0 : Nat} {v1 : Int32} {v2 : Int32} {σ : zS} (h : s_Mo_total_52 g  v0 v1 v2 σ = some q) : Z l D K_Mo_total 2 48 (.returned (some (.long q.1)), q.2) 52 [(0, .ref (v0)), (1, .int (v1)), (2, .int (v2))] [] σ := by
  unfold s_Mo_total_52 at h
  refine z_lconst (v := 0) d_Mo_total_52 rfl ?_
  refine z_lv (lv' := [(0, .ref (v0)), (1, .int (v1)), (2, .int (v2))]) [0, 1, 2] rfl ?_
  exact t_Mo_total_53 hG   h
set_option maxRecDepth 100000 in
theorem t_Mo_total_18 {l : Launch} {D : zD} {g : zG} (hG : zGok g D) {q : Int64 × zS}   {v0 : Nat} {v1 : Int32} {v2 : Int32} {w0 : Int32} {w1 : Option Nat} {σ : zS} (h : s_Mo_total_18 g  v0 v1 v2 w0 w1 σ = some q) : Z l D K_Mo_total 2 48 (.returned (some (.long q.1)), q.2) 18 [(0, .ref (v0)), (1, .int (v1)), (2, .int (v2))] [.int (w0), va_rf (w1)] σ := by
  unfold s_Mo_total_18 at h
  replace h := Option.bind_eq_some_iff.mp h; obtain ⟨a1, rfl, h⟩ := h
  replace h := Option.bind_eq_some_iff.mp h; obtain ⟨σ2, e3, h⟩ := h
  refine z_put wP_NumberOfficeModel_120_14 (fun q => by cases q) d_Mo_total_18 rfl rfl e3 ?_
  refine z_aload_n 0 d_Mo_total_21 rfl rfl ?_
  replace h := Option.bind_eq_some_iff.mp h; obtain ⟨x4, e5, h⟩ := h
  refine z_getI wF_NumberOfficeModel_120_14 d_Mo_total_22 e5 ?_
  refine z_if_ne (tgt := 52) d_Mo_total_25 rfl (fun c6 => ?_) (fun c6 => ?_)
  · rw [if_neg c6] at h
    refine z_lv (lv' := [(0, .ref (v0)), (1, .int (v1)), (2, .int (v2))]) [0, 1, 2] rfl ?_
    exact t_Mo_total_52 hG   h
  · rw [if_pos c6] at h
    refine z_iload_n 1 d_Mo_total_28 rfl rfl ?_
    replace h := Option.bind_eq_some_iff.mp h; obtain ⟨⟨x9, σ7⟩, e8, h⟩ := h
    dsimp only at h
    refine z_callS (av := [.int (v1)]) (st := []) wS_NumberOfficeModel_144 (t_Mo_isSeries hG e8) (by decide) (by decide) d_Mo_total_29 (by simp [z_rfc, z_ci, z_cl, z_cr, z_cn]) ?_
    show Z _ _ _ _ _ _ 32 [(0, .ref (v0)), (1, .int (v1)), (2, .int (v2))] [.int (x9)] _
    refine z_if_eq (tgt := 52) d_Mo_total_32 rfl (fun c10 => ?_) (fun c10 => ?_)
    · rw [if_pos c10] at h
      refine z_lv (lv' := [(0, .ref (v0)), (1, .int (v1)), (2, .int (v2))]) [0, 1, 2] rfl ?_
      exact t_Mo_total_52 hG   h
    · rw [if_neg c10] at h
      refine z_aload_n 0 d_Mo_total_35 rfl rfl ?_
      refine z_iload_n 2 d_Mo_total_36 rfl rfl ?_
      replace h := Option.bind_eq_some_iff.mp h; obtain ⟨_, e21, h⟩ := h
      obtain ⟨b22, f23, e21⟩ := zcls_at (zis_at e21)
      replace h := Option.bind_eq_some_iff.mp h; obtain ⟨⟨x13, σ11⟩, e12, h⟩ := h
      dsimp only at h
      refine z_callV (av := [.int (v2)]) (st := []) wV_NumberOfficeModel_163 e21 (t_Mo_isBranch hG e12) (by decide) (by decide) d_Mo_total_37 (by simp [z_rfc, z_ci, z_cl, z_cr, z_cn]) ?_
      show Z _ _ _ _ _ _ 40 [(0, .ref (v0)), (1, .int (v1)), (2, .int (v2))] [.int (x13)] _
      refine z_if_eq (tgt := 52) d_Mo_total_40 rfl (fun c14 => ?_) (fun c14 => ?_)
      · rw [if_pos c14] at h
        refine z_lv (lv' := [(0, .ref (v0)), (1, .int (v1)), (2, .int (v2))]) [0, 1, 2] rfl ?_
        exact t_Mo_total_52 hG   h
      · rw [if_neg c14] at h
        refine z_aload_n 0 d_Mo_total_43 rfl rfl ?_
        refine z_iload_n 1 d_Mo_total_44 rfl rfl ?_
        refine z_iload_n 2 d_Mo_total_45 rfl rfl ?_
        replace h := Option.bind_eq_some_iff.mp h; obtain ⟨_, e18, h⟩ := h
        obtain ⟨b19, f20, e18⟩ := zcls_at (zis_at e18)
        replace h := Option.bind_eq_some_iff.mp h; obtain ⟨⟨x17, σ15⟩, e16, h⟩ := h
        dsimp only at h
        refine z_callV (av := [.int (v1), .int (v2)]) (st := []) wV_NumberOfficeModel_210 e18 (t_Mo_sum hG e16) (by decide) (by decide) d_Mo_total_46 (by simp [z_rfc, z_ci, z_cl, z_cr, z_cn]) ?_
        show Z _ _ _ _ _ _ 49 [(0, .ref (v0)), (1, .int (v1)), (2, .int (v2))] [.long (x17)] _
        refine z_goto (tgt := 53) d_Mo_total_49 rfl ?_
        refine z_lv (lv' := [(0, .ref (v0)), (1, .int (v1)), (2, .int (v2))]) [0, 1, 2] rfl ?_
        exact t_Mo_total_53 hG   h
set_option maxRecDepth 100000 in
theorem t_Mo_total {l : Launch} {D : zD} {g : zG} (hG : zGok g D) {v0 : Nat} {v1 : Int32} {v2 : Int32} {σ : zS} {q : Int64 × zS} (h : s_Mo_total g v0 v1 v2 σ = some q) : zMet l D Y_Mo_total K_Mo_total 2 48 [.ref (v0), .int (v1), .int (v2)] σ (.returned (some (.long q.1)), q.2) := by
  refine zMet.ofZ (by decide) rfl (fun q => by cases q) (Nat.le_of_ble_eq_true rfl) ?_
  show Z _ _ _ _ _ _ 0 [(0, .ref (v0)), (1, .int (v1)), (2, .int (v2))] [] _
  unfold s_Mo_total at h
  refine z_aload_n 0 d_Mo_total_0 rfl rfl ?_
  refine z_aload_n 0 d_Mo_total_1 rfl rfl ?_
  replace h := Option.bind_eq_some_iff.mp h; obtain ⟨x1, e2, h⟩ := h
  refine z_getR wF_NumberOfficeModel_7_14 d_Mo_total_2 e2 ?_
  refine z_aload_n 0 d_Mo_total_5 rfl rfl ?_
  replace h := Option.bind_eq_some_iff.mp h; obtain ⟨x3, e4, h⟩ := h
  refine z_getI wF_NumberOfficeModel_116_14 d_Mo_total_6 e4 ?_
  replace h := Option.bind_eq_some_iff.mp h; obtain ⟨a5, rfl, h⟩ := h
  replace h := Option.bind_eq_some_iff.mp h; obtain ⟨x6, e7, h⟩ := h
  refine z_zaload rfl d_Mo_total_9 e7 ?_
  refine z_if_eq (tgt := 17) d_Mo_total_10 rfl (fun c8 => ?_) (fun c8 => ?_)
  · rw [if_pos c8] at h
    refine z_iconst (v := 0) d_Mo_total_17 rfl ?_
    refine z_lv (lv' := [(0, .ref (v0)), (1, .int (v1)), (2, .int (v2))]) [0, 1, 2] rfl ?_
    exact t_Mo_total_18 hG   h
  · rw [if_neg c8] at h
    refine z_iconst (v := 1) d_Mo_total_13 rfl ?_
    refine z_goto (tgt := 18) d_Mo_total_14 rfl ?_
    refine z_lv (lv' := [(0, .ref (v0)), (1, .int (v1)), (2, .int (v2))]) [0, 1, 2] rfl ?_
    exact t_Mo_total_18 hG   h

def s_Mo_digits_50 (g : zG)  : Nat → Nat → Int64 → Int64 → Int64 → zS → Option (zS)
  | 0, _, _, _, _, _ => none
  | n + 1, v0, v1, v3, v5, σ => if (lg_cmp v5 0) ≤ 0 then some σ else if v5 = 0 then none else (zis σ v0 14).bind fun _ => (s_Mo_put g v0 ((48 + ((v3 / v5) - (v3 / v5) / 10 * 10) : Int64).toInt32) σ).bind fun σ4 => s_Mo_digits_50 g  n (v0) (v1) (v3) (v5 / 10) σ4
def s_Mo_digits_28 (g : zG)  : Nat → Nat → Int64 → Int64 → Int64 → zS → Option (zS)
  | 0, _, _, _, _, _ => none
  | n + 1, v0, v1, v3, v5, σ => if v5 = 0 then none else if (lg_cmp (v3 / v5) 9) ≤ 0 then s_Mo_digits_50 g  zfuel (v0) (v1) (v3) (v5) σ else s_Mo_digits_28 g  n (v0) (v1) (v3) (v5 * 10) σ
def s_Mo_digits_24 (g : zG)  (v0 : Nat) (v1 : Int64) (w0 : Int64) (σ : zS) : Option (zS) := s_Mo_digits_28 g  zfuel (v0) (v1) (w0) (1) σ
def s_Mo_digits_12 (g : zG)  (v0 : Nat) (v1 : Int64) (σ : zS) : Option (zS) := if 0 ≤ (lg_cmp v1 0) then s_Mo_digits_24 g  (v0) (v1) (v1) σ else s_Mo_digits_24 g  (v0) (v1) (-v1) σ
def s_Mo_digits (g : zG) (v0 : Nat) (v1 : Int64) (σ : zS) : Option (zS) := if 0 ≤ (lg_cmp v1 0) then s_Mo_digits_12 g  (v0) (v1) σ else (zis σ v0 14).bind fun _ => (s_Mo_put g v0 45 σ).bind fun σ2 => s_Mo_digits_12 g  (v0) (v1) σ2
set_option maxRecDepth 100000 in
theorem t_Mo_digits_50 {l : Launch} {D : zD} {g : zG} (hG : zGok g D) {q : zS}   : ∀ (n : Nat) {v0 : Nat} {v1 : Int64} {v3 : Int64} {v5 : Int64} {σ : zS}, s_Mo_digits_50 g  n v0 v1 v3 v5 σ = some q → Z l D K_Mo_digits 1 21 (.returned none, q) 50 [(0, .ref (v0)), (1, .long (v1)), (3, .long (v3)), (5, .long (v5))] [] σ := by
  intro n
  induction n with
  | zero =>
    intro v0 v1 v3 v5 σ h
    cases h
  | succ n ih =>
    intro v0 v1 v3 v5 σ h
    first | rw [s_Mo_digits_50] at h | (unfold s_Mo_digits_50 at h; dsimp only at h)
    refine z_lload 3 d_Mo_digits_50 rfl ?_
    refine z_lconst (v := 0) d_Mo_digits_52 rfl ?_
    refine z_lcmp d_Mo_digits_53 ?_
    refine z_if_le (tgt := 85) d_Mo_digits_54 rfl (fun c1 => ?_) (fun c1 => ?_)
    · rw [if_pos c1] at h
      cases h
      exact z_vret rfl rfl d_Mo_digits_85
    · rw [if_neg c1] at h
      refine z_aload_n 0 d_Mo_digits_57 rfl rfl ?_
      refine z_ldc2 (v := 48) wC_NumberOfficeModel_230 d_Mo_digits_58 ?_
      refine z_lload_n 2 d_Mo_digits_61 rfl rfl ?_
      refine z_lload 3 d_Mo_digits_62 rfl ?_
      by_cases c2 : v5 = 0
      · rw [if_pos c2] at h; cases h
      rw [if_neg c2] at h
      refine z_ldiv d_Mo_digits_64 c2 ?_
      refine z_ldc2 (v := 10) wC_NumberOfficeModel_228 d_Mo_digits_65 ?_
      refine z_lrem d_Mo_digits_68 (by decide) ?_
      refine z_ladd d_Mo_digits_69 ?_
      refine z_l2i d_Mo_digits_70 ?_
      replace h := Option.bind_eq_some_iff.mp h; obtain ⟨_, e8, h⟩ := h
      obtain ⟨b9, f10, e8⟩ := zcls_at (zis_at e8)
      replace h := Option.bind_eq_some_iff.mp h; obtain ⟨σ4, e5, h⟩ := h
      refine z_callV (av := [.int ((48 + ((v3 / v5) - (v3 / v5) / 10 * 10) : Int64).toInt32)]) (st := []) wV_NumberOfficeModel_223 e8 (t_Mo_put hG e5) (by decide) (by decide) d_Mo_digits_71 (by simp [z_rfc, z_ci, z_cl, z_cr, z_cn]) ?_
      show Z _ _ _ _ _ _ 74 [(0, .ref (v0)), (1, .long (v1)), (3, .long (v3)), (5, .long (v5))] [] _
      refine z_lload 3 d_Mo_digits_74 rfl ?_
      refine z_ldc2 (v := 10) wC_NumberOfficeModel_228 d_Mo_digits_76 ?_
      refine z_ldiv d_Mo_digits_79 (by decide) ?_
      refine z_lstore (j := 5) (lv' := [(5, .long (v5 / 10)), (0, .ref (v0)), (1, .long (v1)), (3, .long (v3))]) d_Mo_digits_80 (by decide) rfl ?_
      refine z_goto (tgt := 50) d_Mo_digits_82 rfl ?_
      refine z_lv (lv' := [(0, .ref (v0)), (1, .long (v1)), (3, .long (v3)), (5, .long (v5 / 10))]) [1, 2, 3, 0] rfl ?_
      exact ih h
set_option maxRecDepth 100000 in
theorem t_Mo_digits_28 {l : Launch} {D : zD} {g : zG} (hG : zGok g D) {q : zS}   : ∀ (n : Nat) {v0 : Nat} {v1 : Int64} {v3 : Int64} {v5 : Int64} {σ : zS}, s_Mo_digits_28 g  n v0 v1 v3 v5 σ = some q → Z l D K_Mo_digits 1 21 (.returned none, q) 28 [(0, .ref (v0)), (1, .long (v1)), (3, .long (v3)), (5, .long (v5))] [] σ := by
  intro n
  induction n with
  | zero =>
    intro v0 v1 v3 v5 σ h
    cases h
  | succ n ih =>
    intro v0 v1 v3 v5 σ h
    first | rw [s_Mo_digits_28] at h | (unfold s_Mo_digits_28 at h; dsimp only at h)
    refine z_lload_n 2 d_Mo_digits_28 rfl rfl ?_
    refine z_lload 3 d_Mo_digits_29 rfl ?_
    by_cases c1 : v5 = 0
    · rw [if_pos c1] at h; cases h
    rw [if_neg c1] at h
    refine z_ldiv d_Mo_digits_31 c1 ?_
    refine z_ldc2 (v := 9) wC_NumberOfficeModel_226 d_Mo_digits_32 ?_
    refine z_lcmp d_Mo_digits_35 ?_
    refine z_if_le (tgt := 50) d_Mo_digits_36 rfl (fun c2 => ?_) (fun c2 => ?_)
    · rw [if_pos c2] at h
      refine z_lv (lv' := [(0, .ref (v0)), (1, .long (v1)), (3, .long (v3)), (5, .long (v5))]) [0, 1, 2, 3] rfl ?_
      exact t_Mo_digits_50 hG   zfuel h
    · rw [if_neg c2] at h
      refine z_lload 3 d_Mo_digits_39 rfl ?_
      refine z_ldc2 (v := 10) wC_NumberOfficeModel_228 d_Mo_digits_41 ?_
      refine z_lmul d_Mo_digits_44 ?_
      refine z_lstore (j := 5) (lv' := [(5, .long (v5 * 10)), (0, .ref (v0)), (1, .long (v1)), (3, .long (v3))]) d_Mo_digits_45 (by decide) rfl ?_
      refine z_goto (tgt := 28) d_Mo_digits_47 rfl ?_
      refine z_lv (lv' := [(0, .ref (v0)), (1, .long (v1)), (3, .long (v3)), (5, .long (v5 * 10))]) [1, 2, 3, 0] rfl ?_
      exact ih h
set_option maxRecDepth 100000 in
theorem t_Mo_digits_24 {l : Launch} {D : zD} {g : zG} (hG : zGok g D) {q : zS}   {v0 : Nat} {v1 : Int64} {w0 : Int64} {σ : zS} (h : s_Mo_digits_24 g  v0 v1 w0 σ = some q) : Z l D K_Mo_digits 1 21 (.returned none, q) 24 [(0, .ref (v0)), (1, .long (v1))] [.long (w0)] σ := by
  unfold s_Mo_digits_24 at h
  refine z_lstore_n (j := 3) (lv' := [(3, .long (w0)), (0, .ref (v0)), (1, .long (v1))]) d_Mo_digits_24 rfl (by decide) rfl ?_
  refine z_lconst (v := 1) d_Mo_digits_25 rfl ?_
  refine z_lstore (j := 5) (lv' := [(5, .long (1)), (3, .long (w0)), (0, .ref (v0)), (1, .long (v1))]) d_Mo_digits_26 (by decide) rfl ?_
  refine z_lv (lv' := [(0, .ref (v0)), (1, .long (v1)), (3, .long (w0)), (5, .long (1))]) [2, 3, 1, 0] rfl ?_
  exact t_Mo_digits_28 hG   zfuel h
set_option maxRecDepth 100000 in
theorem t_Mo_digits_12 {l : Launch} {D : zD} {g : zG} (hG : zGok g D) {q : zS}   {v0 : Nat} {v1 : Int64} {σ : zS} (h : s_Mo_digits_12 g  v0 v1 σ = some q) : Z l D K_Mo_digits 1 21 (.returned none, q) 12 [(0, .ref (v0)), (1, .long (v1))] [] σ := by
  unfold s_Mo_digits_12 at h
  refine z_lload_n 1 d_Mo_digits_12 rfl rfl ?_
  refine z_lconst (v := 0) d_Mo_digits_13 rfl ?_
  refine z_lcmp d_Mo_digits_14 ?_
  refine z_if_ge (tgt := 23) d_Mo_digits_15 rfl (fun c1 => ?_) (fun c1 => ?_)
  · rw [if_pos c1] at h
    refine z_lload_n 1 d_Mo_digits_23 rfl rfl ?_
    refine z_lv (lv' := [(0, .ref (v0)), (1, .long (v1))]) [0, 1] rfl ?_
    exact t_Mo_digits_24 hG   h
  · rw [if_neg c1] at h
    refine z_lload_n 1 d_Mo_digits_18 rfl rfl ?_
    refine z_lneg d_Mo_digits_19 ?_
    refine z_goto (tgt := 24) d_Mo_digits_20 rfl ?_
    refine z_lv (lv' := [(0, .ref (v0)), (1, .long (v1))]) [0, 1] rfl ?_
    exact t_Mo_digits_24 hG   h
set_option maxRecDepth 100000 in
theorem t_Mo_digits {l : Launch} {D : zD} {g : zG} (hG : zGok g D) {v0 : Nat} {v1 : Int64} {σ : zS} {q : zS} (h : s_Mo_digits g v0 v1 σ = some q) : zMet l D Y_Mo_digits K_Mo_digits 1 21 [.ref (v0), .long (v1)] σ (.returned none, q) := by
  refine zMet.ofZ (by decide) rfl (fun q => by cases q) (Nat.le_of_ble_eq_true rfl) ?_
  show Z _ _ _ _ _ _ 0 [(0, .ref (v0)), (1, .long (v1))] [] _
  unfold s_Mo_digits at h
  refine z_lload_n 1 d_Mo_digits_0 rfl rfl ?_
  refine z_lconst (v := 0) d_Mo_digits_1 rfl ?_
  refine z_lcmp d_Mo_digits_2 ?_
  refine z_if_ge (tgt := 12) d_Mo_digits_3 rfl (fun c1 => ?_) (fun c1 => ?_)
  · rw [if_pos c1] at h
    refine z_lv (lv' := [(0, .ref (v0)), (1, .long (v1))]) [0, 1] rfl ?_
    exact t_Mo_digits_12 hG   h
  · rw [if_neg c1] at h
    refine z_aload_n 0 d_Mo_digits_6 rfl rfl ?_
    refine z_bipush (v := 45) d_Mo_digits_7 rfl ?_
    replace h := Option.bind_eq_some_iff.mp h; obtain ⟨_, e5, h⟩ := h
    obtain ⟨b6, f7, e5⟩ := zcls_at (zis_at e5)
    replace h := Option.bind_eq_some_iff.mp h; obtain ⟨σ2, e3, h⟩ := h
    refine z_callV (av := [.int (45)]) (st := []) wV_NumberOfficeModel_223 e5 (t_Mo_put hG e3) (by decide) (by decide) d_Mo_digits_9 (by simp [z_rfc, z_ci, z_cl, z_cr, z_cn]) ?_
    show Z _ _ _ _ _ _ 12 [(0, .ref (v0)), (1, .long (v1))] [] _
    refine z_lv (lv' := [(0, .ref (v0)), (1, .long (v1))]) [0, 1] rfl ?_
    exact t_Mo_digits_12 hG   h

def s_Mo_money (g : zG) (v0 : Nat) (v1 : Int64) (σ : zS) : Option (zS) := (zis σ v0 14).bind fun _ => (s_Mo_digits g v0 (v1 / 100) σ).bind fun σ2 => (zis σ2 v0 14).bind fun _ => (s_Mo_put g v0 46 σ2).bind fun σ5 => (zis σ5 v0 14).bind fun _ => (s_Mo_put g v0 ((48 + ((v1 / 10) - (v1 / 10) / 10 * 10) : Int64).toInt32) σ5).bind fun σ10 => (zis σ10 v0 14).bind fun _ => (s_Mo_put g v0 ((48 + (v1 - v1 / 10 * 10) : Int64).toInt32) σ10).bind fun σ14 => (zis σ14 v0 14).bind fun _ => (s_Mo_put g v0 32 σ14).bind fun σ17 => some σ17
set_option maxRecDepth 100000 in
theorem t_Mo_money {l : Launch} {D : zD} {g : zG} (hG : zGok g D) {v0 : Nat} {v1 : Int64} {σ : zS} {q : zS} (h : s_Mo_money g v0 v1 σ = some q) : zMet l D Y_Mo_money K_Mo_money 2 47 [.ref (v0), .long (v1)] σ (.returned none, q) := by
  refine zMet.ofZ (by decide) rfl (fun q => by cases q) (Nat.le_of_ble_eq_true rfl) ?_
  show Z _ _ _ _ _ _ 0 [(0, .ref (v0)), (1, .long (v1))] [] _
  unfold s_Mo_money at h
  refine z_aload_n 0 d_Mo_money_0 rfl rfl ?_
  refine z_lload_n 1 d_Mo_money_1 rfl rfl ?_
  refine z_ldc2 (v := 100) wC_NumberOfficeModel_232 d_Mo_money_2 ?_
  refine z_ldiv d_Mo_money_5 (by decide) ?_
  replace h := Option.bind_eq_some_iff.mp h; obtain ⟨_, e32, h⟩ := h
  obtain ⟨b33, f34, e32⟩ := zcls_at (zis_at e32)
  replace h := Option.bind_eq_some_iff.mp h; obtain ⟨σ2, e3, h⟩ := h
  refine z_callV (av := [.long (v1 / 100)]) (st := []) wV_NumberOfficeModel_234 e32 (t_Mo_digits hG e3) (by decide) (by decide) d_Mo_money_6 (by simp [z_rfc, z_ci, z_cl, z_cr, z_cn]) ?_
  show Z _ _ _ _ _ _ 9 [(0, .ref (v0)), (1, .long (v1))] [] _
  refine z_aload_n 0 d_Mo_money_9 rfl rfl ?_
  refine z_bipush (v := 46) d_Mo_money_10 rfl ?_
  replace h := Option.bind_eq_some_iff.mp h; obtain ⟨_, e29, h⟩ := h
  obtain ⟨b30, f31, e29⟩ := zcls_at (zis_at e29)
  replace h := Option.bind_eq_some_iff.mp h; obtain ⟨σ5, e6, h⟩ := h
  refine z_callV (av := [.int (46)]) (st := []) wV_NumberOfficeModel_223 e29 (t_Mo_put hG e6) (by decide) (by decide) d_Mo_money_12 (by simp [z_rfc, z_ci, z_cl, z_cr, z_cn]) ?_
  show Z _ _ _ _ _ _ 15 [(0, .ref (v0)), (1, .long (v1))] [] _
  refine z_aload_n 0 d_Mo_money_15 rfl rfl ?_
  refine z_ldc2 (v := 48) wC_NumberOfficeModel_230 d_Mo_money_16 ?_
  refine z_lload_n 1 d_Mo_money_19 rfl rfl ?_
  refine z_ldc2 (v := 10) wC_NumberOfficeModel_228 d_Mo_money_20 ?_
  refine z_ldiv d_Mo_money_23 (by decide) ?_
  refine z_ldc2 (v := 10) wC_NumberOfficeModel_228 d_Mo_money_24 ?_
  refine z_lrem d_Mo_money_27 (by decide) ?_
  refine z_ladd d_Mo_money_28 ?_
  refine z_l2i d_Mo_money_29 ?_
  replace h := Option.bind_eq_some_iff.mp h; obtain ⟨_, e26, h⟩ := h
  obtain ⟨b27, f28, e26⟩ := zcls_at (zis_at e26)
  replace h := Option.bind_eq_some_iff.mp h; obtain ⟨σ10, e11, h⟩ := h
  refine z_callV (av := [.int ((48 + ((v1 / 10) - (v1 / 10) / 10 * 10) : Int64).toInt32)]) (st := []) wV_NumberOfficeModel_223 e26 (t_Mo_put hG e11) (by decide) (by decide) d_Mo_money_30 (by simp [z_rfc, z_ci, z_cl, z_cr, z_cn]) ?_
  show Z _ _ _ _ _ _ 33 [(0, .ref (v0)), (1, .long (v1))] [] _
  refine z_aload_n 0 d_Mo_money_33 rfl rfl ?_
  refine z_ldc2 (v := 48) wC_NumberOfficeModel_230 d_Mo_money_34 ?_
  refine z_lload_n 1 d_Mo_money_37 rfl rfl ?_
  refine z_ldc2 (v := 10) wC_NumberOfficeModel_228 d_Mo_money_38 ?_
  refine z_lrem d_Mo_money_41 (by decide) ?_
  refine z_ladd d_Mo_money_42 ?_
  refine z_l2i d_Mo_money_43 ?_
  replace h := Option.bind_eq_some_iff.mp h; obtain ⟨_, e23, h⟩ := h
  obtain ⟨b24, f25, e23⟩ := zcls_at (zis_at e23)
  replace h := Option.bind_eq_some_iff.mp h; obtain ⟨σ14, e15, h⟩ := h
  refine z_callV (av := [.int ((48 + (v1 - v1 / 10 * 10) : Int64).toInt32)]) (st := []) wV_NumberOfficeModel_223 e23 (t_Mo_put hG e15) (by decide) (by decide) d_Mo_money_44 (by simp [z_rfc, z_ci, z_cl, z_cr, z_cn]) ?_
  show Z _ _ _ _ _ _ 47 [(0, .ref (v0)), (1, .long (v1))] [] _
  refine z_aload_n 0 d_Mo_money_47 rfl rfl ?_
  refine z_bipush (v := 32) d_Mo_money_48 rfl ?_
  replace h := Option.bind_eq_some_iff.mp h; obtain ⟨_, e20, h⟩ := h
  obtain ⟨b21, f22, e20⟩ := zcls_at (zis_at e20)
  replace h := Option.bind_eq_some_iff.mp h; obtain ⟨σ17, e18, h⟩ := h
  refine z_callV (av := [.int (32)]) (st := []) wV_NumberOfficeModel_223 e20 (t_Mo_put hG e18) (by decide) (by decide) d_Mo_money_50 (by simp [z_rfc, z_ci, z_cl, z_cr, z_cn]) ?_
  show Z _ _ _ _ _ _ 53 [(0, .ref (v0)), (1, .long (v1))] [] _
  cases h
  exact z_vret rfl rfl d_Mo_money_53

def s_Mo_safe_26 (g : zG)  (v0 : Nat) (v1 : Int32) (σ : zS) : Option (zS) := some σ
def s_Mo_safe (g : zG) (v0 : Nat) (v1 : Int32) (σ : zS) : Option (zS) := (zgI σ v0 14 1).bind fun x1 => if v1 = x1 then (zis σ v0 14).bind fun _ => (s_Mo_copyOffice g v0 0 1 σ).bind fun σ10 => s_Mo_safe_26 g  (v0) (v1) σ10 else (zis σ v0 14).bind fun _ => (s_Mo_copyBranch g v0 v1 (v1 + 6) σ).bind fun σ4 => s_Mo_safe_26 g  (v0) (v1) σ4
set_option maxRecDepth 100000 in
theorem t_Mo_safe_26 {l : Launch} {D : zD} {g : zG} (hG : zGok g D) {q : zS}   {v0 : Nat} {v1 : Int32} {σ : zS} (h : s_Mo_safe_26 g  v0 v1 σ = some q) : Z l D K_Mo_safe 2 46 (.returned none, q) 26 [(0, .ref (v0)), (1, .int (v1))] [] σ := by
  unfold s_Mo_safe_26 at h
  cases h
  exact z_vret rfl rfl d_Mo_safe_26
set_option maxRecDepth 100000 in
theorem t_Mo_safe {l : Launch} {D : zD} {g : zG} (hG : zGok g D) {v0 : Nat} {v1 : Int32} {σ : zS} {q : zS} (h : s_Mo_safe g v0 v1 σ = some q) : zMet l D Y_Mo_safe K_Mo_safe 2 46 [.ref (v0), .int (v1)] σ (.returned none, q) := by
  refine zMet.ofZ (by decide) rfl (fun q => by cases q) (Nat.le_of_ble_eq_true rfl) ?_
  show Z _ _ _ _ _ _ 0 [(0, .ref (v0)), (1, .int (v1))] [] _
  unfold s_Mo_safe at h
  refine z_iload_n 1 d_Mo_safe_0 rfl rfl ?_
  refine z_aload_n 0 d_Mo_safe_1 rfl rfl ?_
  replace h := Option.bind_eq_some_iff.mp h; obtain ⟨x1, e2, h⟩ := h
  refine z_getI wF_NumberOfficeModel_116_14 d_Mo_safe_2 e2 ?_
  refine z_icmp_ne (tgt := 17) d_Mo_safe_5 rfl (fun c3 => ?_) (fun c3 => ?_)
  · rw [if_neg c3] at h
    refine z_aload_n 0 d_Mo_safe_17 rfl rfl ?_
    refine z_iload_n 1 d_Mo_safe_18 rfl rfl ?_
    refine z_iload_n 1 d_Mo_safe_19 rfl rfl ?_
    refine z_bipush (v := 6) d_Mo_safe_20 rfl ?_
    refine z_iadd d_Mo_safe_22 ?_
    replace h := Option.bind_eq_some_iff.mp h; obtain ⟨_, e7, h⟩ := h
    obtain ⟨b8, f9, e7⟩ := zcls_at (zis_at e7)
    replace h := Option.bind_eq_some_iff.mp h; obtain ⟨σ4, e5, h⟩ := h
    refine z_callV (av := [.int (v1), .int (v1 + 6)]) (st := []) wV_NumberOfficeModel_130 e7 (t_Mo_copyBranch hG e5) (by decide) (by decide) d_Mo_safe_23 (by simp [z_rfc, z_ci, z_cl, z_cr, z_cn]) ?_
    show Z _ _ _ _ _ _ 26 [(0, .ref (v0)), (1, .int (v1))] [] _
    refine z_lv (lv' := [(0, .ref (v0)), (1, .int (v1))]) [0, 1] rfl ?_
    exact t_Mo_safe_26 hG   h
  · rw [if_pos c3] at h
    refine z_aload_n 0 d_Mo_safe_8 rfl rfl ?_
    refine z_iconst (v := 0) d_Mo_safe_9 rfl ?_
    refine z_iconst (v := 1) d_Mo_safe_10 rfl ?_
    replace h := Option.bind_eq_some_iff.mp h; obtain ⟨_, e13, h⟩ := h
    obtain ⟨b14, f15, e13⟩ := zcls_at (zis_at e13)
    replace h := Option.bind_eq_some_iff.mp h; obtain ⟨σ10, e11, h⟩ := h
    refine z_callV (av := [.int (0), .int (1)]) (st := []) wV_NumberOfficeModel_127 e13 (t_Mo_copyOffice hG e11) (by decide) (by decide) d_Mo_safe_11 (by simp [z_rfc, z_ci, z_cl, z_cr, z_cn]) ?_
    show Z _ _ _ _ _ _ 14 [(0, .ref (v0)), (1, .int (v1))] [] _
    refine z_goto (tgt := 26) d_Mo_safe_14 rfl ?_
    refine z_lv (lv' := [(0, .ref (v0)), (1, .int (v1))]) [0, 1] rfl ?_
    exact t_Mo_safe_26 hG   h

def s_Mo_invoice_79 (g : zG)  (v0 : Nat) (v1 : Int32) (v2 : Int32) (v3 : Int64) (v5 : Int32) (w0 : Int32) (σ : zS) : Option (Int32 × zS) := some (w0, σ)
def s_Mo_invoice_66 (g : zG)  (v0 : Nat) (v1 : Int32) (v2 : Int32) (v3 : Int64) (v5 : Int32) (σ : zS) : Option (Int32 × zS) := (zgI σ v0 14 0).bind fun x1 => if x1 = 1 then s_Mo_invoice_79 g  (v0) (v1) (v2) (v3) (v5) (0) σ else s_Mo_invoice_79 g  (v0) (v1) (v2) (v3) (v5) ((-1)) σ
def s_Mo_invoice (g : zG) (v0 : Nat) (v1 : Int32) (v2 : Int32) (v3 : Int64) (v5 : Int32) (σ : zS) : Option (Int32 × zS) := (zis σ v0 14).bind fun _ => (s_Mo_there g v0 v1 σ).bind fun (x3, σ1) => if x3 = 0 then s_Mo_invoice_66 g  (v0) (v1) (v2) (v3) (v5) σ1 else (s_Mo_isSeries g v2 σ1).bind fun (x7, σ5) => if x7 = 0 then s_Mo_invoice_66 g  (v0) (v1) (v2) (v3) (v5) σ5 else (zgR σ5 v0 14 4).bind fun x9 => (x9).bind fun a11 => (zaI σ5 a11 0 ((3 * v1) + v2)).bind fun x12 => (zgR σ5 v0 14 3).bind fun x14 => (x14).bind fun a16 => (zaI σ5 a16 0 ((3 * v1) + v2)).bind fun x17 => if x12 = x17 then s_Mo_invoice_66 g  (v0) (v1) (v2) (v3) (v5) σ5 else if (lg_cmp v3 1) < 0 then s_Mo_invoice_66 g  (v0) (v1) (v2) (v3) (v5) σ5 else if 0 < (lg_cmp v3 1000000000000) then s_Mo_invoice_66 g  (v0) (v1) (v2) (v3) (v5) σ5 else (zis σ5 v0 14).bind fun _ => (s_Mo_tooEarly g v0 ((3 * v1) + v2) v5 σ5).bind fun (x24, σ22) => if x24 = 0 then (zgR σ22 v0 14 4).bind fun x26 => (x26).bind fun a28 => (zaI σ22 a28 0 ((3 * v1) + v2)).bind fun x29 => (zgR σ22 v0 14 11).bind fun x31 => (x31).bind fun a33 => (zsL σ22 a33 1 ((300 * ((3 * v1) + v2)) + x29) (v3)).bind fun σ34 => (zgR σ34 v0 14 12).bind fun x36 => (x36).bind fun a38 => (zsI σ34 a38 0 ((300 * ((3 * v1) + v2)) + x29) (v5)).bind fun σ39 => (zgR σ39 v0 14 4).bind fun x41 => (x41).bind fun a43 => (zaI σ39 a43 0 ((3 * v1) + v2)).bind fun x44 => (zsI σ39 a43 0 ((3 * v1) + v2) (x44 + 1)).bind fun σ46 => (zis σ46 v0 14).bind fun _ => (s_Mo_happens g v0 ((3 * v1) + v2) x29 0 σ46).bind fun σ48 => (zis σ48 v0 14).bind fun _ => (s_Mo_safe g v0 v1 σ48).bind fun σ51 => (zgR σ51 v0 14 8).bind fun x54 => (x54).bind fun a56 => (zaI σ51 a56 5 ((300 * ((3 * v1) + v2)) + x29)).bind fun x57 => some (x57, σ51) else s_Mo_invoice_66 g  (v0) (v1) (v2) (v3) (v5) σ22
set_option maxRecDepth 100000 in
theorem t_Mo_invoice_79 {l : Launch} {D : zD} {g : zG} (hG : zGok g D) {q : Int32 × zS}   {v0 : Nat} {v1 : Int32} {v2 : Int32} {v3 : Int64} {v5 : Int32} {w0 : Int32} {σ : zS} (h : s_Mo_invoice_79 g  v0 v1 v2 v3 v5 w0 σ = some q) : Z l D K_Mo_invoice 3 67 (.returned (some (.int q.1)), q.2) 79 [(0, .ref (v0)), (1, .int (v1)), (2, .int (v2)), (3, .long (v3)), (5, .int (v5))] [.int (w0)] σ := by
  unfold s_Mo_invoice_79 at h
  cases h
  exact z_iret rfl rfl d_Mo_invoice_79
set_option maxRecDepth 100000 in
theorem t_Mo_invoice_66 {l : Launch} {D : zD} {g : zG} (hG : zGok g D) {q : Int32 × zS}   {v0 : Nat} {v1 : Int32} {v2 : Int32} {v3 : Int64} {v5 : Int32} {σ : zS} (h : s_Mo_invoice_66 g  v0 v1 v2 v3 v5 σ = some q) : Z l D K_Mo_invoice 3 67 (.returned (some (.int q.1)), q.2) 66 [(0, .ref (v0)), (1, .int (v1)), (2, .int (v2)), (3, .long (v3)), (5, .int (v5))] [] σ := by
  unfold s_Mo_invoice_66 at h
  refine z_aload_n 0 d_Mo_invoice_66 rfl rfl ?_
  replace h := Option.bind_eq_some_iff.mp h; obtain ⟨x1, e2, h⟩ := h
  refine z_getI wF_NumberOfficeModel_120_14 d_Mo_invoice_67 e2 ?_
  refine z_iconst (v := 1) d_Mo_invoice_70 rfl ?_
  refine z_icmp_ne (tgt := 78) d_Mo_invoice_71 rfl (fun c3 => ?_) (fun c3 => ?_)
  · rw [if_neg c3] at h
    refine z_iconst (v := (-1)) d_Mo_invoice_78 rfl ?_
    refine z_lv (lv' := [(0, .ref (v0)), (1, .int (v1)), (2, .int (v2)), (3, .long (v3)), (5, .int (v5))]) [0, 1, 2, 3, 4] rfl ?_
    exact t_Mo_invoice_79 hG   h
  · rw [if_pos c3] at h
    refine z_iconst (v := 0) d_Mo_invoice_74 rfl ?_
    refine z_goto (tgt := 79) d_Mo_invoice_75 rfl ?_
    refine z_lv (lv' := [(0, .ref (v0)), (1, .int (v1)), (2, .int (v2)), (3, .long (v3)), (5, .int (v5))]) [0, 1, 2, 3, 4] rfl ?_
    exact t_Mo_invoice_79 hG   h
set_option maxRecDepth 100000 in
theorem t_Mo_invoice {l : Launch} {D : zD} {g : zG} (hG : zGok g D) {v0 : Nat} {v1 : Int32} {v2 : Int32} {v3 : Int64} {v5 : Int32} {σ : zS} {q : Int32 × zS} (h : s_Mo_invoice g v0 v1 v2 v3 v5 σ = some q) : zMet l D Y_Mo_invoice K_Mo_invoice 3 67 [.ref (v0), .int (v1), .int (v2), .long (v3), .int (v5)] σ (.returned (some (.int q.1)), q.2) := by
  refine zMet.ofZ (by decide) rfl (fun q => by cases q) (Nat.le_of_ble_eq_true rfl) ?_
  show Z _ _ _ _ _ _ 0 [(0, .ref (v0)), (1, .int (v1)), (2, .int (v2)), (3, .long (v3)), (5, .int (v5))] [] _
  unfold s_Mo_invoice at h
  refine z_aload_n 0 d_Mo_invoice_0 rfl rfl ?_
  refine z_iload_n 1 d_Mo_invoice_1 rfl rfl ?_
  replace h := Option.bind_eq_some_iff.mp h; obtain ⟨_, e68, h⟩ := h
  obtain ⟨b69, f70, e68⟩ := zcls_at (zis_at e68)
  replace h := Option.bind_eq_some_iff.mp h; obtain ⟨⟨x3, σ1⟩, e2, h⟩ := h
  dsimp only at h
  refine z_callV (av := [.int (v1)]) (st := []) wV_NumberOfficeModel_166 e68 (t_Mo_there hG e2) (by decide) (by decide) d_Mo_invoice_2 (by simp [z_rfc, z_ci, z_cl, z_cr, z_cn]) ?_
  show Z _ _ _ _ _ _ 5 [(0, .ref (v0)), (1, .int (v1)), (2, .int (v2)), (3, .long (v3)), (5, .int (v5))] [.int (x3)] _
  refine z_if_eq (tgt := 66) d_Mo_invoice_5 rfl (fun c4 => ?_) (fun c4 => ?_)
  · rw [if_pos c4] at h
    refine z_lv (lv' := [(0, .ref (v0)), (1, .int (v1)), (2, .int (v2)), (3, .long (v3)), (5, .int (v5))]) [0, 1, 2, 3, 4] rfl ?_
    exact t_Mo_invoice_66 hG   h
  · rw [if_neg c4] at h
    refine z_iload_n 2 d_Mo_invoice_8 rfl rfl ?_
    replace h := Option.bind_eq_some_iff.mp h; obtain ⟨⟨x7, σ5⟩, e6, h⟩ := h
    dsimp only at h
    refine z_callS (av := [.int (v2)]) (st := []) wS_NumberOfficeModel_144 (t_Mo_isSeries hG e6) (by decide) (by decide) d_Mo_invoice_9 (by simp [z_rfc, z_ci, z_cl, z_cr, z_cn]) ?_
    show Z _ _ _ _ _ _ 12 [(0, .ref (v0)), (1, .int (v1)), (2, .int (v2)), (3, .long (v3)), (5, .int (v5))] [.int (x7)] _
    refine z_if_eq (tgt := 66) d_Mo_invoice_12 rfl (fun c8 => ?_) (fun c8 => ?_)
    · rw [if_pos c8] at h
      refine z_lv (lv' := [(0, .ref (v0)), (1, .int (v1)), (2, .int (v2)), (3, .long (v3)), (5, .int (v5))]) [0, 1, 2, 3, 4] rfl ?_
      exact t_Mo_invoice_66 hG   h
    · rw [if_neg c8] at h
      refine z_aload_n 0 d_Mo_invoice_15 rfl rfl ?_
      replace h := Option.bind_eq_some_iff.mp h; obtain ⟨x9, e10, h⟩ := h
      refine z_getR wF_NumberOfficeModel_17_14 d_Mo_invoice_16 e10 ?_
      refine z_iconst (v := 3) d_Mo_invoice_19 rfl ?_
      refine z_iload_n 1 d_Mo_invoice_20 rfl rfl ?_
      refine z_imul d_Mo_invoice_21 ?_
      refine z_iload_n 2 d_Mo_invoice_22 rfl rfl ?_
      refine z_iadd d_Mo_invoice_23 ?_
      replace h := Option.bind_eq_some_iff.mp h; obtain ⟨a11, rfl, h⟩ := h
      replace h := Option.bind_eq_some_iff.mp h; obtain ⟨x12, e13, h⟩ := h
      refine z_iaload rfl d_Mo_invoice_24 e13 ?_
      refine z_aload_n 0 d_Mo_invoice_25 rfl rfl ?_
      replace h := Option.bind_eq_some_iff.mp h; obtain ⟨x14, e15, h⟩ := h
      refine z_getR wF_NumberOfficeModel_13_14 d_Mo_invoice_26 e15 ?_
      refine z_iconst (v := 3) d_Mo_invoice_29 rfl ?_
      refine z_iload_n 1 d_Mo_invoice_30 rfl rfl ?_
      refine z_imul d_Mo_invoice_31 ?_
      refine z_iload_n 2 d_Mo_invoice_32 rfl rfl ?_
      refine z_iadd d_Mo_invoice_33 ?_
      replace h := Option.bind_eq_some_iff.mp h; obtain ⟨a16, rfl, h⟩ := h
      replace h := Option.bind_eq_some_iff.mp h; obtain ⟨x17, e18, h⟩ := h
      refine z_iaload rfl d_Mo_invoice_34 e18 ?_
      refine z_icmp_eq (tgt := 66) d_Mo_invoice_35 rfl (fun c19 => ?_) (fun c19 => ?_)
      · rw [if_pos c19] at h
        refine z_lv (lv' := [(0, .ref (v0)), (1, .int (v1)), (2, .int (v2)), (3, .long (v3)), (5, .int (v5))]) [0, 1, 2, 3, 4] rfl ?_
        exact t_Mo_invoice_66 hG   h
      · rw [if_neg c19] at h
        refine z_lload_n 3 d_Mo_invoice_38 rfl rfl ?_
        refine z_lconst (v := 1) d_Mo_invoice_39 rfl ?_
        refine z_lcmp d_Mo_invoice_40 ?_
        refine z_if_lt (tgt := 66) d_Mo_invoice_41 rfl (fun c20 => ?_) (fun c20 => ?_)
        · rw [if_pos c20] at h
          refine z_lv (lv' := [(0, .ref (v0)), (1, .int (v1)), (2, .int (v2)), (3, .long (v3)), (5, .int (v5))]) [0, 1, 2, 3, 4] rfl ?_
          exact t_Mo_invoice_66 hG   h
        · rw [if_neg c20] at h
          refine z_lload_n 3 d_Mo_invoice_44 rfl rfl ?_
          refine z_ldc2 (v := 1000000000000) wC_NumberOfficeModel_176 d_Mo_invoice_45 ?_
          refine z_lcmp d_Mo_invoice_48 ?_
          refine z_if_gt (tgt := 66) d_Mo_invoice_49 rfl (fun c21 => ?_) (fun c21 => ?_)
          · rw [if_pos c21] at h
            refine z_lv (lv' := [(0, .ref (v0)), (1, .int (v1)), (2, .int (v2)), (3, .long (v3)), (5, .int (v5))]) [0, 1, 2, 3, 4] rfl ?_
            exact t_Mo_invoice_66 hG   h
          · rw [if_neg c21] at h
            refine z_aload_n 0 d_Mo_invoice_52 rfl rfl ?_
            refine z_iconst (v := 3) d_Mo_invoice_53 rfl ?_
            refine z_iload_n 1 d_Mo_invoice_54 rfl rfl ?_
            refine z_imul d_Mo_invoice_55 ?_
            refine z_iload_n 2 d_Mo_invoice_56 rfl rfl ?_
            refine z_iadd d_Mo_invoice_57 ?_
            refine z_iload 4 d_Mo_invoice_58 rfl ?_
            replace h := Option.bind_eq_some_iff.mp h; obtain ⟨_, e65, h⟩ := h
            obtain ⟨b66, f67, e65⟩ := zcls_at (zis_at e65)
            replace h := Option.bind_eq_some_iff.mp h; obtain ⟨⟨x24, σ22⟩, e23, h⟩ := h
            dsimp only at h
            refine z_callV (av := [.int ((3 * v1) + v2), .int (v5)]) (st := []) wV_NumberOfficeModel_178 e65 (t_Mo_tooEarly hG e23) (by decide) (by decide) d_Mo_invoice_60 (by simp [z_rfc, z_ci, z_cl, z_cr, z_cn]) ?_
            show Z _ _ _ _ _ _ 63 [(0, .ref (v0)), (1, .int (v1)), (2, .int (v2)), (3, .long (v3)), (5, .int (v5))] [.int (x24)] _
            refine z_if_eq (tgt := 80) d_Mo_invoice_63 rfl (fun c25 => ?_) (fun c25 => ?_)
            · rw [if_pos c25] at h
              refine z_iconst (v := 3) d_Mo_invoice_80 rfl ?_
              refine z_iload_n 1 d_Mo_invoice_81 rfl rfl ?_
              refine z_imul d_Mo_invoice_82 ?_
              refine z_iload_n 2 d_Mo_invoice_83 rfl rfl ?_
              refine z_iadd d_Mo_invoice_84 ?_
              refine z_istore (j := 6) (lv' := [(6, .int ((3 * v1) + v2)), (0, .ref (v0)), (1, .int (v1)), (2, .int (v2)), (3, .long (v3)), (5, .int (v5))]) d_Mo_invoice_85 (by decide) rfl ?_
              refine z_aload_n 1 d_Mo_invoice_87 rfl rfl ?_
              replace h := Option.bind_eq_some_iff.mp h; obtain ⟨x26, e27, h⟩ := h
              refine z_getR wF_NumberOfficeModel_17_14 d_Mo_invoice_88 e27 ?_
              refine z_iload 0 d_Mo_invoice_91 rfl ?_
              replace h := Option.bind_eq_some_iff.mp h; obtain ⟨a28, rfl, h⟩ := h
              replace h := Option.bind_eq_some_iff.mp h; obtain ⟨x29, e30, h⟩ := h
              refine z_iaload rfl d_Mo_invoice_93 e30 ?_
              refine z_istore (j := 7) (lv' := [(7, .int (x29)), (6, .int ((3 * v1) + v2)), (0, .ref (v0)), (1, .int (v1)), (2, .int (v2)), (3, .long (v3)), (5, .int (v5))]) d_Mo_invoice_94 (by decide) rfl ?_
              refine z_aload_n 2 d_Mo_invoice_96 rfl rfl ?_
              replace h := Option.bind_eq_some_iff.mp h; obtain ⟨x31, e32, h⟩ := h
              refine z_getR wF_NumberOfficeModel_40_14 d_Mo_invoice_97 e32 ?_
              refine z_sipush (v := 300) d_Mo_invoice_100 rfl ?_
              refine z_iload 1 d_Mo_invoice_103 rfl ?_
              refine z_imul d_Mo_invoice_105 ?_
              refine z_iload 0 d_Mo_invoice_106 rfl ?_
              refine z_iadd d_Mo_invoice_108 ?_
              refine z_lload_n 5 d_Mo_invoice_109 rfl rfl ?_
              replace h := Option.bind_eq_some_iff.mp h; obtain ⟨a33, rfl, h⟩ := h
              replace h := Option.bind_eq_some_iff.mp h; obtain ⟨σ34, e35, h⟩ := h
              refine z_lastore rfl d_Mo_invoice_110 e35 ?_
              refine z_aload_n 2 d_Mo_invoice_111 rfl rfl ?_
              replace h := Option.bind_eq_some_iff.mp h; obtain ⟨x36, e37, h⟩ := h
              refine z_getR wF_NumberOfficeModel_44_14 d_Mo_invoice_112 e37 ?_
              refine z_sipush (v := 300) d_Mo_invoice_115 rfl ?_
              refine z_iload 1 d_Mo_invoice_118 rfl ?_
              refine z_imul d_Mo_invoice_120 ?_
              refine z_iload 0 d_Mo_invoice_121 rfl ?_
              refine z_iadd d_Mo_invoice_123 ?_
              refine z_iload 6 d_Mo_invoice_124 rfl ?_
              replace h := Option.bind_eq_some_iff.mp h; obtain ⟨a38, rfl, h⟩ := h
              replace h := Option.bind_eq_some_iff.mp h; obtain ⟨σ39, e40, h⟩ := h
              refine z_iastore rfl d_Mo_invoice_126 e40 ?_
              refine z_aload_n 2 d_Mo_invoice_127 rfl rfl ?_
              replace h := Option.bind_eq_some_iff.mp h; obtain ⟨x41, e42, h⟩ := h
              refine z_getR wF_NumberOfficeModel_17_14 d_Mo_invoice_128 e42 ?_
              refine z_iload 1 d_Mo_invoice_131 rfl ?_
              refine z_dup2 d_Mo_invoice_133 rfl (z_rfc _) ?_
              replace h := Option.bind_eq_some_iff.mp h; obtain ⟨a43, rfl, h⟩ := h
              replace h := Option.bind_eq_some_iff.mp h; obtain ⟨x44, e45, h⟩ := h
              refine z_iaload rfl d_Mo_invoice_134 e45 ?_
              refine z_iconst (v := 1) d_Mo_invoice_135 rfl ?_
              refine z_iadd d_Mo_invoice_136 ?_
              replace h := Option.bind_eq_some_iff.mp h; obtain ⟨σ46, e47, h⟩ := h
              refine z_iastore rfl d_Mo_invoice_137 e47 ?_
              refine z_aload_n 2 d_Mo_invoice_138 rfl rfl ?_
              refine z_iload 1 d_Mo_invoice_139 rfl ?_
              refine z_iload 0 d_Mo_invoice_141 rfl ?_
              refine z_iconst (v := 0) d_Mo_invoice_143 rfl ?_
              replace h := Option.bind_eq_some_iff.mp h; obtain ⟨_, e62, h⟩ := h
              obtain ⟨b63, f64, e62⟩ := zcls_at (zis_at e62)
              replace h := Option.bind_eq_some_iff.mp h; obtain ⟨σ48, e49, h⟩ := h
              refine z_callV (av := [.int ((3 * v1) + v2), .int (x29), .int (0)]) (st := []) wV_NumberOfficeModel_182 e62 (t_Mo_happens hG e49) (by decide) (by decide) d_Mo_invoice_144 (by simp [z_rfc, z_ci, z_cl, z_cr, z_cn]) ?_
              show Z _ _ _ _ _ _ 147 [(7, .int (x29)), (6, .int ((3 * v1) + v2)), (0, .ref (v0)), (1, .int (v1)), (2, .int (v2)), (3, .long (v3)), (5, .int (v5))] [] _
              refine z_aload_n 2 d_Mo_invoice_147 rfl rfl ?_
              refine z_iload_n 3 d_Mo_invoice_148 rfl rfl ?_
              replace h := Option.bind_eq_some_iff.mp h; obtain ⟨_, e59, h⟩ := h
              obtain ⟨b60, f61, e59⟩ := zcls_at (zis_at e59)
              replace h := Option.bind_eq_some_iff.mp h; obtain ⟨σ51, e52, h⟩ := h
              refine z_callV (av := [.int (v1)]) (st := []) wV_NumberOfficeModel_136 e59 (t_Mo_safe hG e52) (by decide) (by decide) d_Mo_invoice_149 (by simp [z_rfc, z_ci, z_cl, z_cr, z_cn]) ?_
              show Z _ _ _ _ _ _ 152 [(7, .int (x29)), (6, .int ((3 * v1) + v2)), (0, .ref (v0)), (1, .int (v1)), (2, .int (v2)), (3, .long (v3)), (5, .int (v5))] [] _
              refine z_aload_n 2 d_Mo_invoice_152 rfl rfl ?_
              replace h := Option.bind_eq_some_iff.mp h; obtain ⟨x54, e55, h⟩ := h
              refine z_getR wF_NumberOfficeModel_29_14 d_Mo_invoice_153 e55 ?_
              refine z_sipush (v := 300) d_Mo_invoice_156 rfl ?_
              refine z_iload 1 d_Mo_invoice_159 rfl ?_
              refine z_imul d_Mo_invoice_161 ?_
              refine z_iload 0 d_Mo_invoice_162 rfl ?_
              refine z_iadd d_Mo_invoice_164 ?_
              replace h := Option.bind_eq_some_iff.mp h; obtain ⟨a56, rfl, h⟩ := h
              replace h := Option.bind_eq_some_iff.mp h; obtain ⟨x57, e58, h⟩ := h
              refine z_saload rfl d_Mo_invoice_165 e58 ?_
              cases h
              exact z_iret rfl rfl d_Mo_invoice_166
            · rw [if_neg c25] at h
              refine z_lv (lv' := [(0, .ref (v0)), (1, .int (v1)), (2, .int (v2)), (3, .long (v3)), (5, .int (v5))]) [0, 1, 2, 3, 4] rfl ?_
              exact t_Mo_invoice_66 hG   h

def s_Mo_close_59 (g : zG)  (v0 : Nat) (v1 : Int32) (w0 : Int32) (σ : zS) : Option (Int32 × zS) := some (w0, σ)
def s_Mo_close_46 (g : zG)  (v0 : Nat) (v1 : Int32) (σ : zS) : Option (Int32 × zS) := (zgI σ v0 14 0).bind fun x1 => if x1 = 1 then s_Mo_close_59 g  (v0) (v1) (0) σ else s_Mo_close_59 g  (v0) (v1) ((-1)) σ
def s_Mo_close_62 (g : zG)  : Nat → Nat → Int32 → Int32 → zS → Option (Int32 × zS)
  | 0, _, _, _, _ => none
  | n + 1, v0, v1, v2, σ => (zgR σ v0 14 23).bind fun x1 => (x1).bind fun a3 => (zaI σ a3 0 (v1)).bind fun x4 => if x4 < v2 then (zgR σ v0 14 21).bind fun x7 => (x7).bind fun a9 => (zsI σ a9 0 (v1) (2)).bind fun σ10 => (zgI σ10 v0 14 1).bind fun x12 => (zis σ10 v0 14).bind fun _ => (s_Mo_safe g v0 x12 σ10).bind fun σ14 => some (0, σ14) else (zgR σ v0 14 24).bind fun x20 => (zis σ v0 14).bind fun _ => (s_Mo_at g v0 v1 v2 σ).bind fun (x24, σ22) => (x20).bind fun a25 => (zaI σ22 a25 2 (x24)).bind fun x26 => if x26 = 1 then some (v2, σ22) else s_Mo_close_62 g  n (v0) (v1) (v2 + 1) σ22
def s_Mo_close_18 (g : zG)  (v0 : Nat) (v1 : Int32) (w0 : Int32) (w1 : Option Nat) (σ : zS) : Option (Int32 × zS) := (w1).bind fun a1 => (zpF σ a1 14 0 (.int (w0))).bind fun σ2 => (zgI σ2 v0 14 0).bind fun x4 => if x4 = 1 then s_Mo_close_46 g  (v0) (v1) σ2 else (s_Mo_isSeries g v1 σ2).bind fun (x9, σ7) => if x9 = 0 then s_Mo_close_46 g  (v0) (v1) σ7 else (zgR σ7 v0 14 21).bind fun x11 => (x11).bind fun a13 => (zaI σ7 a13 0 (v1)).bind fun x14 => if x14 = 1 then s_Mo_close_62 g  zfuel (v0) (v1) (1) σ7 else s_Mo_close_46 g  (v0) (v1) σ7
def s_Mo_close (g : zG) (v0 : Nat) (v1 : Int32) (σ : zS) : Option (Int32 × zS) := (zgR σ v0 14 2).bind fun x1 => (zgI σ v0 14 1).bind fun x3 => (x1).bind fun a5 => (zaI σ a5 3 (x3)).bind fun x6 => if x6 = 0 then s_Mo_close_18 g  (v0) (v1) (0) (some (v0)) σ else s_Mo_close_18 g  (v0) (v1) (1) (some (v0)) σ
set_option maxRecDepth 100000 in
theorem t_Mo_close_59 {l : Launch} {D : zD} {g : zG} (hG : zGok g D) {q : Int32 × zS}   {v0 : Nat} {v1 : Int32} {w0 : Int32} {σ : zS} (h : s_Mo_close_59 g  v0 v1 w0 σ = some q) : Z l D K_Mo_close 3 67 (.returned (some (.int q.1)), q.2) 59 [(0, .ref (v0)), (1, .int (v1))] [.int (w0)] σ := by
  unfold s_Mo_close_59 at h
  cases h
  exact z_iret rfl rfl d_Mo_close_59
set_option maxRecDepth 100000 in
theorem t_Mo_close_46 {l : Launch} {D : zD} {g : zG} (hG : zGok g D) {q : Int32 × zS}   {v0 : Nat} {v1 : Int32} {σ : zS} (h : s_Mo_close_46 g  v0 v1 σ = some q) : Z l D K_Mo_close 3 67 (.returned (some (.int q.1)), q.2) 46 [(0, .ref (v0)), (1, .int (v1))] [] σ := by
  unfold s_Mo_close_46 at h
  refine z_aload_n 0 d_Mo_close_46 rfl rfl ?_
  replace h := Option.bind_eq_some_iff.mp h; obtain ⟨x1, e2, h⟩ := h
  refine z_getI wF_NumberOfficeModel_120_14 d_Mo_close_47 e2 ?_
  refine z_iconst (v := 1) d_Mo_close_50 rfl ?_
  refine z_icmp_ne (tgt := 58) d_Mo_close_51 rfl (fun c3 => ?_) (fun c3 => ?_)
  · rw [if_neg c3] at h
    refine z_iconst (v := (-1)) d_Mo_close_58 rfl ?_
    refine z_lv (lv' := [(0, .ref (v0)), (1, .int (v1))]) [0, 1] rfl ?_
    exact t_Mo_close_59 hG   h
  · rw [if_pos c3] at h
    refine z_iconst (v := 0) d_Mo_close_54 rfl ?_
    refine z_goto (tgt := 59) d_Mo_close_55 rfl ?_
    refine z_lv (lv' := [(0, .ref (v0)), (1, .int (v1))]) [0, 1] rfl ?_
    exact t_Mo_close_59 hG   h
set_option maxRecDepth 100000 in
theorem t_Mo_close_62 {l : Launch} {D : zD} {g : zG} (hG : zGok g D) {q : Int32 × zS}   : ∀ (n : Nat) {v0 : Nat} {v1 : Int32} {v2 : Int32} {σ : zS}, s_Mo_close_62 g  n v0 v1 v2 σ = some q → Z l D K_Mo_close 3 67 (.returned (some (.int q.1)), q.2) 62 [(0, .ref (v0)), (1, .int (v1)), (2, .int (v2))] [] σ := by
  intro n
  induction n with
  | zero =>
    intro v0 v1 v2 σ h
    cases h
  | succ n ih =>
    intro v0 v1 v2 σ h
    first | rw [s_Mo_close_62] at h | (unfold s_Mo_close_62 at h; dsimp only at h)
    refine z_iload_n 2 d_Mo_close_62 rfl rfl ?_
    refine z_aload_n 0 d_Mo_close_63 rfl rfl ?_
    replace h := Option.bind_eq_some_iff.mp h; obtain ⟨x1, e2, h⟩ := h
    refine z_getR wF_NumberOfficeModel_77_14 d_Mo_close_64 e2 ?_
    refine z_iload_n 1 d_Mo_close_67 rfl rfl ?_
    replace h := Option.bind_eq_some_iff.mp h; obtain ⟨a3, rfl, h⟩ := h
    replace h := Option.bind_eq_some_iff.mp h; obtain ⟨x4, e5, h⟩ := h
    refine z_iaload rfl d_Mo_close_68 e5 ?_
    refine z_icmp_gt (tgt := 95) d_Mo_close_69 rfl (fun c6 => ?_) (fun c6 => ?_)
    · rw [if_pos c6] at h
      refine z_aload_n 0 d_Mo_close_95 rfl rfl ?_
      replace h := Option.bind_eq_some_iff.mp h; obtain ⟨x7, e8, h⟩ := h
      refine z_getR wF_NumberOfficeModel_71_14 d_Mo_close_96 e8 ?_
      refine z_iload_n 1 d_Mo_close_99 rfl rfl ?_
      refine z_iconst (v := 2) d_Mo_close_100 rfl ?_
      replace h := Option.bind_eq_some_iff.mp h; obtain ⟨a9, rfl, h⟩ := h
      replace h := Option.bind_eq_some_iff.mp h; obtain ⟨σ10, e11, h⟩ := h
      refine z_iastore rfl d_Mo_close_101 e11 ?_
      refine z_aload_n 0 d_Mo_close_102 rfl rfl ?_
      refine z_aload_n 0 d_Mo_close_103 rfl rfl ?_
      replace h := Option.bind_eq_some_iff.mp h; obtain ⟨x12, e13, h⟩ := h
      refine z_getI wF_NumberOfficeModel_116_14 d_Mo_close_104 e13 ?_
      replace h := Option.bind_eq_some_iff.mp h; obtain ⟨_, e17, h⟩ := h
      obtain ⟨b18, f19, e17⟩ := zcls_at (zis_at e17)
      replace h := Option.bind_eq_some_iff.mp h; obtain ⟨σ14, e15, h⟩ := h
      refine z_callV (av := [.int (x12)]) (st := []) wV_NumberOfficeModel_136 e17 (t_Mo_safe hG e15) (by decide) (by decide) d_Mo_close_107 (by simp [z_rfc, z_ci, z_cl, z_cr, z_cn]) ?_
      show Z _ _ _ _ _ _ 110 [(0, .ref (v0)), (1, .int (v1)), (2, .int (v2))] [] _
      refine z_iconst (v := 0) d_Mo_close_110 rfl ?_
      cases h
      exact z_iret rfl rfl d_Mo_close_111
    · rw [if_neg c6] at h
      refine z_aload_n 0 d_Mo_close_72 rfl rfl ?_
      replace h := Option.bind_eq_some_iff.mp h; obtain ⟨x20, e21, h⟩ := h
      refine z_getR wF_NumberOfficeModel_80_14 d_Mo_close_73 e21 ?_
      refine z_aload_n 0 d_Mo_close_76 rfl rfl ?_
      refine z_iload_n 1 d_Mo_close_77 rfl rfl ?_
      refine z_iload_n 2 d_Mo_close_78 rfl rfl ?_
      replace h := Option.bind_eq_some_iff.mp h; obtain ⟨_, e29, h⟩ := h
      obtain ⟨b30, f31, e29⟩ := zcls_at (zis_at e29)
      replace h := Option.bind_eq_some_iff.mp h; obtain ⟨⟨x24, σ22⟩, e23, h⟩ := h
      dsimp only at h
      refine z_callV (av := [.int (v1), .int (v2)]) (st := [va_rf (x20)]) wV_NumberOfficeModel_148 e29 (t_Mo_at hG e23) (by decide) (by decide) d_Mo_close_79 (by simp [z_rfc, z_ci, z_cl, z_cr, z_cn]) ?_
      show Z _ _ _ _ _ _ 82 [(0, .ref (v0)), (1, .int (v1)), (2, .int (v2))] [.int (x24), va_rf (x20)] _
      replace h := Option.bind_eq_some_iff.mp h; obtain ⟨a25, rfl, h⟩ := h
      replace h := Option.bind_eq_some_iff.mp h; obtain ⟨x26, e27, h⟩ := h
      refine z_baload rfl d_Mo_close_82 e27 ?_
      refine z_iconst (v := 1) d_Mo_close_83 rfl ?_
      refine z_icmp_ne (tgt := 89) d_Mo_close_84 rfl (fun c28 => ?_) (fun c28 => ?_)
      · rw [if_neg c28] at h
        refine z_iinc (v := v2 + 1) (lv' := [(2, .int (v2 + 1)), (0, .ref (v0)), (1, .int (v1))]) 2 d_Mo_close_89 rfl rfl (by decide) rfl ?_
        refine z_goto (tgt := 62) d_Mo_close_92 rfl ?_
        refine z_lv (lv' := [(0, .ref (v0)), (1, .int (v1)), (2, .int (v2 + 1))]) [1, 2, 0] rfl ?_
        exact ih h
      · rw [if_pos c28] at h
        refine z_iload_n 2 d_Mo_close_87 rfl rfl ?_
        cases h
        exact z_iret rfl rfl d_Mo_close_88
set_option maxRecDepth 100000 in
theorem t_Mo_close_18 {l : Launch} {D : zD} {g : zG} (hG : zGok g D) {q : Int32 × zS}   {v0 : Nat} {v1 : Int32} {w0 : Int32} {w1 : Option Nat} {σ : zS} (h : s_Mo_close_18 g  v0 v1 w0 w1 σ = some q) : Z l D K_Mo_close 3 67 (.returned (some (.int q.1)), q.2) 18 [(0, .ref (v0)), (1, .int (v1))] [.int (w0), va_rf (w1)] σ := by
  unfold s_Mo_close_18 at h
  replace h := Option.bind_eq_some_iff.mp h; obtain ⟨a1, rfl, h⟩ := h
  replace h := Option.bind_eq_some_iff.mp h; obtain ⟨σ2, e3, h⟩ := h
  refine z_put wP_NumberOfficeModel_120_14 (fun q => by cases q) d_Mo_close_18 rfl rfl e3 ?_
  refine z_aload_n 0 d_Mo_close_21 rfl rfl ?_
  replace h := Option.bind_eq_some_iff.mp h; obtain ⟨x4, e5, h⟩ := h
  refine z_getI wF_NumberOfficeModel_120_14 d_Mo_close_22 e5 ?_
  refine z_iconst (v := 1) d_Mo_close_25 rfl ?_
  refine z_icmp_eq (tgt := 46) d_Mo_close_26 rfl (fun c6 => ?_) (fun c6 => ?_)
  · rw [if_pos c6] at h
    refine z_lv (lv' := [(0, .ref (v0)), (1, .int (v1))]) [0, 1] rfl ?_
    exact t_Mo_close_46 hG   h
  · rw [if_neg c6] at h
    refine z_iload_n 1 d_Mo_close_29 rfl rfl ?_
    replace h := Option.bind_eq_some_iff.mp h; obtain ⟨⟨x9, σ7⟩, e8, h⟩ := h
    dsimp only at h
    refine z_callS (av := [.int (v1)]) (st := []) wS_NumberOfficeModel_144 (t_Mo_isSeries hG e8) (by decide) (by decide) d_Mo_close_30 (by simp [z_rfc, z_ci, z_cl, z_cr, z_cn]) ?_
    show Z _ _ _ _ _ _ 33 [(0, .ref (v0)), (1, .int (v1))] [.int (x9)] _
    refine z_if_eq (tgt := 46) d_Mo_close_33 rfl (fun c10 => ?_) (fun c10 => ?_)
    · rw [if_pos c10] at h
      refine z_lv (lv' := [(0, .ref (v0)), (1, .int (v1))]) [0, 1] rfl ?_
      exact t_Mo_close_46 hG   h
    · rw [if_neg c10] at h
      refine z_aload_n 0 d_Mo_close_36 rfl rfl ?_
      replace h := Option.bind_eq_some_iff.mp h; obtain ⟨x11, e12, h⟩ := h
      refine z_getR wF_NumberOfficeModel_71_14 d_Mo_close_37 e12 ?_
      refine z_iload_n 1 d_Mo_close_40 rfl rfl ?_
      replace h := Option.bind_eq_some_iff.mp h; obtain ⟨a13, rfl, h⟩ := h
      replace h := Option.bind_eq_some_iff.mp h; obtain ⟨x14, e15, h⟩ := h
      refine z_iaload rfl d_Mo_close_41 e15 ?_
      refine z_iconst (v := 1) d_Mo_close_42 rfl ?_
      refine z_icmp_eq (tgt := 60) d_Mo_close_43 rfl (fun c16 => ?_) (fun c16 => ?_)
      · rw [if_pos c16] at h
        refine z_iconst (v := 1) d_Mo_close_60 rfl ?_
        refine z_istore_n (j := 2) (lv' := [(2, .int (1)), (0, .ref (v0)), (1, .int (v1))]) d_Mo_close_61 rfl (by decide) rfl ?_
        refine z_lv (lv' := [(0, .ref (v0)), (1, .int (v1)), (2, .int (1))]) [1, 2, 0] rfl ?_
        exact t_Mo_close_62 hG   zfuel h
      · rw [if_neg c16] at h
        refine z_lv (lv' := [(0, .ref (v0)), (1, .int (v1))]) [0, 1] rfl ?_
        exact t_Mo_close_46 hG   h
set_option maxRecDepth 100000 in
theorem t_Mo_close {l : Launch} {D : zD} {g : zG} (hG : zGok g D) {v0 : Nat} {v1 : Int32} {σ : zS} {q : Int32 × zS} (h : s_Mo_close g v0 v1 σ = some q) : zMet l D Y_Mo_close K_Mo_close 3 67 [.ref (v0), .int (v1)] σ (.returned (some (.int q.1)), q.2) := by
  refine zMet.ofZ (by decide) rfl (fun q => by cases q) (Nat.le_of_ble_eq_true rfl) ?_
  show Z _ _ _ _ _ _ 0 [(0, .ref (v0)), (1, .int (v1))] [] _
  unfold s_Mo_close at h
  refine z_aload_n 0 d_Mo_close_0 rfl rfl ?_
  refine z_aload_n 0 d_Mo_close_1 rfl rfl ?_
  replace h := Option.bind_eq_some_iff.mp h; obtain ⟨x1, e2, h⟩ := h
  refine z_getR wF_NumberOfficeModel_7_14 d_Mo_close_2 e2 ?_
  refine z_aload_n 0 d_Mo_close_5 rfl rfl ?_
  replace h := Option.bind_eq_some_iff.mp h; obtain ⟨x3, e4, h⟩ := h
  refine z_getI wF_NumberOfficeModel_116_14 d_Mo_close_6 e4 ?_
  replace h := Option.bind_eq_some_iff.mp h; obtain ⟨a5, rfl, h⟩ := h
  replace h := Option.bind_eq_some_iff.mp h; obtain ⟨x6, e7, h⟩ := h
  refine z_zaload rfl d_Mo_close_9 e7 ?_
  refine z_if_eq (tgt := 17) d_Mo_close_10 rfl (fun c8 => ?_) (fun c8 => ?_)
  · rw [if_pos c8] at h
    refine z_iconst (v := 0) d_Mo_close_17 rfl ?_
    refine z_lv (lv' := [(0, .ref (v0)), (1, .int (v1))]) [0, 1] rfl ?_
    exact t_Mo_close_18 hG   h
  · rw [if_neg c8] at h
    refine z_iconst (v := 1) d_Mo_close_13 rfl ?_
    refine z_goto (tgt := 18) d_Mo_close_14 rfl ?_
    refine z_lv (lv' := [(0, .ref (v0)), (1, .int (v1))]) [0, 1] rfl ?_
    exact t_Mo_close_18 hG   h

def s_Mo_flush_22 (g : zG)  (v0 : Nat) (v1 : Int32) (σ : zS) : Option (Int32 × zS) := some (0, σ)
def s_Mo_flush (g : zG) (v0 : Nat) (v1 : Int32) (σ : zS) : Option (Int32 × zS) := (zpF σ v0 14 0 (.int (0))).bind fun σ1 => (zis σ1 v0 14).bind fun _ => (s_Mo_isSide g v0 v1 σ1).bind fun (x5, σ3) => if x5 = 0 then s_Mo_flush_22 g  (v0) (v1) σ3 else (zgR σ3 v0 14 2).bind fun x7 => (x7).bind fun a9 => (zaI σ3 a9 3 (v1)).bind fun x10 => if x10 = 0 then (zis σ3 v0 14).bind fun _ => (s_Mo_safe g v0 v1 σ3).bind fun σ13 => some (1, σ13) else s_Mo_flush_22 g  (v0) (v1) σ3
set_option maxRecDepth 100000 in
theorem t_Mo_flush_22 {l : Launch} {D : zD} {g : zG} (hG : zGok g D) {q : Int32 × zS}   {v0 : Nat} {v1 : Int32} {σ : zS} (h : s_Mo_flush_22 g  v0 v1 σ = some q) : Z l D K_Mo_flush 3 67 (.returned (some (.int q.1)), q.2) 22 [(0, .ref (v0)), (1, .int (v1))] [] σ := by
  unfold s_Mo_flush_22 at h
  refine z_iconst (v := 0) d_Mo_flush_22 rfl ?_
  cases h
  exact z_zret rfl rfl rfl d_Mo_flush_23
set_option maxRecDepth 100000 in
theorem t_Mo_flush {l : Launch} {D : zD} {g : zG} (hG : zGok g D) {v0 : Nat} {v1 : Int32} {σ : zS} {q : Int32 × zS} (h : s_Mo_flush g v0 v1 σ = some q) : zMet l D Y_Mo_flush K_Mo_flush 3 67 [.ref (v0), .int (v1)] σ (.returned (some (.int q.1)), q.2) := by
  refine zMet.ofZ (by decide) rfl (fun q => by cases q) (Nat.le_of_ble_eq_true rfl) ?_
  show Z _ _ _ _ _ _ 0 [(0, .ref (v0)), (1, .int (v1))] [] _
  unfold s_Mo_flush at h
  refine z_aload_n 0 d_Mo_flush_0 rfl rfl ?_
  refine z_iconst (v := 0) d_Mo_flush_1 rfl ?_
  replace h := Option.bind_eq_some_iff.mp h; obtain ⟨σ1, e2, h⟩ := h
  refine z_put wP_NumberOfficeModel_120_14 (fun q => by cases q) d_Mo_flush_2 rfl rfl e2 ?_
  refine z_aload_n 0 d_Mo_flush_5 rfl rfl ?_
  refine z_iload_n 1 d_Mo_flush_6 rfl rfl ?_
  replace h := Option.bind_eq_some_iff.mp h; obtain ⟨_, e19, h⟩ := h
  obtain ⟨b20, f21, e19⟩ := zcls_at (zis_at e19)
  replace h := Option.bind_eq_some_iff.mp h; obtain ⟨⟨x5, σ3⟩, e4, h⟩ := h
  dsimp only at h
  refine z_callV (av := [.int (v1)]) (st := []) wV_NumberOfficeModel_189 e19 (t_Mo_isSide hG e4) (by decide) (by decide) d_Mo_flush_7 (by simp [z_rfc, z_ci, z_cl, z_cr, z_cn]) ?_
  show Z _ _ _ _ _ _ 10 [(0, .ref (v0)), (1, .int (v1))] [.int (x5)] _
  refine z_if_eq (tgt := 22) d_Mo_flush_10 rfl (fun c6 => ?_) (fun c6 => ?_)
  · rw [if_pos c6] at h
    refine z_lv (lv' := [(0, .ref (v0)), (1, .int (v1))]) [0, 1] rfl ?_
    exact t_Mo_flush_22 hG   h
  · rw [if_neg c6] at h
    refine z_aload_n 0 d_Mo_flush_13 rfl rfl ?_
    replace h := Option.bind_eq_some_iff.mp h; obtain ⟨x7, e8, h⟩ := h
    refine z_getR wF_NumberOfficeModel_7_14 d_Mo_flush_14 e8 ?_
    refine z_iload_n 1 d_Mo_flush_17 rfl rfl ?_
    replace h := Option.bind_eq_some_iff.mp h; obtain ⟨a9, rfl, h⟩ := h
    replace h := Option.bind_eq_some_iff.mp h; obtain ⟨x10, e11, h⟩ := h
    refine z_zaload rfl d_Mo_flush_18 e11 ?_
    refine z_if_eq (tgt := 24) d_Mo_flush_19 rfl (fun c12 => ?_) (fun c12 => ?_)
    · rw [if_pos c12] at h
      refine z_aload_n 0 d_Mo_flush_24 rfl rfl ?_
      refine z_iload_n 1 d_Mo_flush_25 rfl rfl ?_
      replace h := Option.bind_eq_some_iff.mp h; obtain ⟨_, e16, h⟩ := h
      obtain ⟨b17, f18, e16⟩ := zcls_at (zis_at e16)
      replace h := Option.bind_eq_some_iff.mp h; obtain ⟨σ13, e14, h⟩ := h
      refine z_callV (av := [.int (v1)]) (st := []) wV_NumberOfficeModel_136 e16 (t_Mo_safe hG e14) (by decide) (by decide) d_Mo_flush_26 (by simp [z_rfc, z_ci, z_cl, z_cr, z_cn]) ?_
      show Z _ _ _ _ _ _ 29 [(0, .ref (v0)), (1, .int (v1))] [] _
      refine z_iconst (v := 1) d_Mo_flush_29 rfl ?_
      cases h
      exact z_zret rfl rfl rfl d_Mo_flush_30
    · rw [if_neg c12] at h
      refine z_lv (lv' := [(0, .ref (v0)), (1, .int (v1))]) [0, 1] rfl ?_
      exact t_Mo_flush_22 hG   h

def s_Mo_comes_136 (g : zG)  (v0 : Nat) (v1 : Int32) (v2 : Int32) (σ : zS) : Option (zS) := some σ
def s_Mo_comes_105 (g : zG)  (v0 : Nat) (v1 : Int32) (v2 : Int32) (σ : zS) : Option (zS) := (zgI σ v0 14 1).bind fun x1 => (zis σ v0 14).bind fun _ => (s_Mo_safe g v0 x1 σ).bind fun σ3 => (zis σ3 v0 14).bind fun _ => (s_Mo_sendAnswer g v0 v1 σ3).bind fun σ6 => s_Mo_comes_136 g  (v0) (v1) (v2) σ6
def s_Mo_comes (g : zG) (v0 : Nat) (σ : zS) : Option (zS) := (zgR σ v0 14 36).bind fun x1 => (x1).bind fun a3 => (zaI σ a3 0 (1)).bind fun x4 => (zgR σ v0 14 36).bind fun x6 => (x6).bind fun a8 => (zaI σ a8 0 (2)).bind fun x9 => (zgR σ v0 14 30).bind fun x11 => (x11).bind fun a13 => (zaI σ a13 0 (x4)).bind fun x14 => if x9 = (x14 + 1) then (zgR σ v0 14 30).bind fun x29 => (x29).bind fun a31 => (zsI σ a31 0 (x4) (x9)).bind fun σ32 => (zgR σ32 v0 14 29).bind fun x34 => (x34).bind fun a36 => (zaI σ32 a36 3 (x4)).bind fun x37 => if x37 = 0 then (zgR σ32 v0 14 36).bind fun x40 => (x40).bind fun a42 => (zaI σ32 a42 0 (0)).bind fun x43 => if x43 = 1 then (zgR σ32 v0 14 36).bind fun x67 => (x67).bind fun a69 => (zaI σ32 a69 0 (3)).bind fun x70 => (zgR σ32 v0 14 36).bind fun x72 => (x72).bind fun a74 => (zaI σ32 a74 0 (4)).bind fun x75 => (zis σ32 v0 14).bind fun _ => (s_Mo_give g v0 x4 x70 x75 σ32).bind fun σ77 => s_Mo_comes_105 g  (v0) (x4) (x9) σ77 else (zgR σ32 v0 14 36).bind fun x46 => (x46).bind fun a48 => (zaI σ32 a48 0 (3)).bind fun x49 => (zgR σ32 v0 14 36).bind fun x51 => (x51).bind fun a53 => (zaI σ32 a53 0 (5)).bind fun x54 => (zgR σ32 v0 14 36).bind fun x56 => (x56).bind fun a58 => (zaI σ32 a58 0 (4)).bind fun x59 => (zis σ32 v0 14).bind fun _ => (s_Mo_learn g v0 x4 x49 x54 x59 σ32).bind fun σ61 => s_Mo_comes_105 g  (v0) (x4) (x9) σ61 else (zgR σ32 v0 14 31).bind fun x83 => (x83).bind fun a85 => (zsI σ32 a85 0 (x4) (3)).bind fun σ86 => s_Mo_comes_105 g  (v0) (x4) (x9) σ86 else (zgR σ v0 14 30).bind fun x17 => (x17).bind fun a19 => (zaI σ a19 0 (x4)).bind fun x20 => if x9 = x20 then (zis σ v0 14).bind fun _ => (s_Mo_sendAnswer g v0 x4 σ).bind fun σ23 => s_Mo_comes_136 g  (v0) (x4) (x9) σ23 else s_Mo_comes_136 g  (v0) (x4) (x9) σ
set_option maxRecDepth 100000 in
theorem t_Mo_comes_136 {l : Launch} {D : zD} {g : zG} (hG : zGok g D) {q : zS}   {v0 : Nat} {v1 : Int32} {v2 : Int32} {σ : zS} (h : s_Mo_comes_136 g  v0 v1 v2 σ = some q) : Z l D K_Mo_comes 3 67 (.returned none, q) 136 [(0, .ref (v0)), (1, .int (v1)), (2, .int (v2))] [] σ := by
  unfold s_Mo_comes_136 at h
  cases h
  exact z_vret rfl rfl d_Mo_comes_136
set_option maxRecDepth 100000 in
theorem t_Mo_comes_105 {l : Launch} {D : zD} {g : zG} (hG : zGok g D) {q : zS}   {v0 : Nat} {v1 : Int32} {v2 : Int32} {σ : zS} (h : s_Mo_comes_105 g  v0 v1 v2 σ = some q) : Z l D K_Mo_comes 3 67 (.returned none, q) 105 [(0, .ref (v0)), (1, .int (v1)), (2, .int (v2))] [] σ := by
  unfold s_Mo_comes_105 at h
  refine z_aload_n 0 d_Mo_comes_105 rfl rfl ?_
  refine z_aload_n 0 d_Mo_comes_106 rfl rfl ?_
  replace h := Option.bind_eq_some_iff.mp h; obtain ⟨x1, e2, h⟩ := h
  refine z_getI wF_NumberOfficeModel_116_14 d_Mo_comes_107 e2 ?_
  replace h := Option.bind_eq_some_iff.mp h; obtain ⟨_, e12, h⟩ := h
  obtain ⟨b13, f14, e12⟩ := zcls_at (zis_at e12)
  replace h := Option.bind_eq_some_iff.mp h; obtain ⟨σ3, e4, h⟩ := h
  refine z_callV (av := [.int (x1)]) (st := []) wV_NumberOfficeModel_136 e12 (t_Mo_safe hG e4) (by decide) (by decide) d_Mo_comes_110 (by simp [z_rfc, z_ci, z_cl, z_cr, z_cn]) ?_
  show Z _ _ _ _ _ _ 113 [(0, .ref (v0)), (1, .int (v1)), (2, .int (v2))] [] _
  refine z_aload_n 0 d_Mo_comes_113 rfl rfl ?_
  refine z_iload_n 1 d_Mo_comes_114 rfl rfl ?_
  replace h := Option.bind_eq_some_iff.mp h; obtain ⟨_, e9, h⟩ := h
  obtain ⟨b10, f11, e9⟩ := zcls_at (zis_at e9)
  replace h := Option.bind_eq_some_iff.mp h; obtain ⟨σ6, e7, h⟩ := h
  refine z_callV (av := [.int (v1)]) (st := []) wV_NumberOfficeModel_160 e9 (t_Mo_sendAnswer hG e7) (by decide) (by decide) d_Mo_comes_115 (by simp [z_rfc, z_ci, z_cl, z_cr, z_cn]) ?_
  show Z _ _ _ _ _ _ 118 [(0, .ref (v0)), (1, .int (v1)), (2, .int (v2))] [] _
  refine z_goto (tgt := 136) d_Mo_comes_118 rfl ?_
  refine z_lv (lv' := [(0, .ref (v0)), (1, .int (v1)), (2, .int (v2))]) [0, 1, 2] rfl ?_
  exact t_Mo_comes_136 hG   h
set_option maxRecDepth 100000 in
theorem t_Mo_comes {l : Launch} {D : zD} {g : zG} (hG : zGok g D) {v0 : Nat} {σ : zS} {q : zS} (h : s_Mo_comes g v0 σ = some q) : zMet l D Y_Mo_comes K_Mo_comes 3 67 [.ref (v0)] σ (.returned none, q) := by
  refine zMet.ofZ (by decide) rfl (fun q => by cases q) (Nat.le_of_ble_eq_true rfl) ?_
  show Z _ _ _ _ _ _ 0 [(0, .ref (v0))] [] _
  unfold s_Mo_comes at h
  refine z_aload_n 0 d_Mo_comes_0 rfl rfl ?_
  replace h := Option.bind_eq_some_iff.mp h; obtain ⟨x1, e2, h⟩ := h
  refine z_getR wF_NumberOfficeModel_113_14 d_Mo_comes_1 e2 ?_
  refine z_iconst (v := 1) d_Mo_comes_4 rfl ?_
  replace h := Option.bind_eq_some_iff.mp h; obtain ⟨a3, rfl, h⟩ := h
  replace h := Option.bind_eq_some_iff.mp h; obtain ⟨x4, e5, h⟩ := h
  refine z_iaload rfl d_Mo_comes_5 e5 ?_
  refine z_istore_n (j := 1) (lv' := [(1, .int (x4)), (0, .ref (v0))]) d_Mo_comes_6 rfl (by decide) rfl ?_
  refine z_aload_n 1 d_Mo_comes_7 rfl rfl ?_
  replace h := Option.bind_eq_some_iff.mp h; obtain ⟨x6, e7, h⟩ := h
  refine z_getR wF_NumberOfficeModel_113_14 d_Mo_comes_8 e7 ?_
  refine z_iconst (v := 2) d_Mo_comes_11 rfl ?_
  replace h := Option.bind_eq_some_iff.mp h; obtain ⟨a8, rfl, h⟩ := h
  replace h := Option.bind_eq_some_iff.mp h; obtain ⟨x9, e10, h⟩ := h
  refine z_iaload rfl d_Mo_comes_12 e10 ?_
  refine z_istore_n (j := 2) (lv' := [(2, .int (x9)), (1, .int (x4)), (0, .ref (v0))]) d_Mo_comes_13 rfl (by decide) rfl ?_
  refine z_iload_n 0 d_Mo_comes_14 rfl rfl ?_
  refine z_aload_n 2 d_Mo_comes_15 rfl rfl ?_
  replace h := Option.bind_eq_some_iff.mp h; obtain ⟨x11, e12, h⟩ := h
  refine z_getR wF_NumberOfficeModel_98_14 d_Mo_comes_16 e12 ?_
  refine z_iload_n 1 d_Mo_comes_19 rfl rfl ?_
  replace h := Option.bind_eq_some_iff.mp h; obtain ⟨a13, rfl, h⟩ := h
  replace h := Option.bind_eq_some_iff.mp h; obtain ⟨x14, e15, h⟩ := h
  refine z_iaload rfl d_Mo_comes_20 e15 ?_
  refine z_iconst (v := 1) d_Mo_comes_21 rfl ?_
  refine z_iadd d_Mo_comes_22 ?_
  refine z_icmp_ne (tgt := 121) d_Mo_comes_23 rfl (fun c16 => ?_) (fun c16 => ?_)
  · rw [if_neg c16] at h
    refine z_iload_n 0 d_Mo_comes_121 rfl rfl ?_
    refine z_aload_n 2 d_Mo_comes_122 rfl rfl ?_
    replace h := Option.bind_eq_some_iff.mp h; obtain ⟨x17, e18, h⟩ := h
    refine z_getR wF_NumberOfficeModel_98_14 d_Mo_comes_123 e18 ?_
    refine z_iload_n 1 d_Mo_comes_126 rfl rfl ?_
    replace h := Option.bind_eq_some_iff.mp h; obtain ⟨a19, rfl, h⟩ := h
    replace h := Option.bind_eq_some_iff.mp h; obtain ⟨x20, e21, h⟩ := h
    refine z_iaload rfl d_Mo_comes_127 e21 ?_
    refine z_icmp_ne (tgt := 136) d_Mo_comes_128 rfl (fun c22 => ?_) (fun c22 => ?_)
    · rw [if_neg c22] at h
      refine z_lv (lv' := [(0, .ref (v0)), (1, .int (x4)), (2, .int (x9))]) [2, 1, 0] rfl ?_
      exact t_Mo_comes_136 hG   h
    · rw [if_pos c22] at h
      refine z_aload_n 2 d_Mo_comes_131 rfl rfl ?_
      refine z_iload_n 1 d_Mo_comes_132 rfl rfl ?_
      replace h := Option.bind_eq_some_iff.mp h; obtain ⟨_, e26, h⟩ := h
      obtain ⟨b27, f28, e26⟩ := zcls_at (zis_at e26)
      replace h := Option.bind_eq_some_iff.mp h; obtain ⟨σ23, e24, h⟩ := h
      refine z_callV (av := [.int (x4)]) (st := []) wV_NumberOfficeModel_160 e26 (t_Mo_sendAnswer hG e24) (by decide) (by decide) d_Mo_comes_133 (by simp [z_rfc, z_ci, z_cl, z_cr, z_cn]) ?_
      show Z _ _ _ _ _ _ 136 [(2, .int (x9)), (1, .int (x4)), (0, .ref (v0))] [] _
      refine z_lv (lv' := [(0, .ref (v0)), (1, .int (x4)), (2, .int (x9))]) [2, 1, 0] rfl ?_
      exact t_Mo_comes_136 hG   h
  · rw [if_pos c16] at h
    refine z_aload_n 2 d_Mo_comes_26 rfl rfl ?_
    replace h := Option.bind_eq_some_iff.mp h; obtain ⟨x29, e30, h⟩ := h
    refine z_getR wF_NumberOfficeModel_98_14 d_Mo_comes_27 e30 ?_
    refine z_iload_n 1 d_Mo_comes_30 rfl rfl ?_
    refine z_iload_n 0 d_Mo_comes_31 rfl rfl ?_
    replace h := Option.bind_eq_some_iff.mp h; obtain ⟨a31, rfl, h⟩ := h
    replace h := Option.bind_eq_some_iff.mp h; obtain ⟨σ32, e33, h⟩ := h
    refine z_iastore rfl d_Mo_comes_32 e33 ?_
    refine z_aload_n 2 d_Mo_comes_33 rfl rfl ?_
    replace h := Option.bind_eq_some_iff.mp h; obtain ⟨x34, e35, h⟩ := h
    refine z_getR wF_NumberOfficeModel_95_14 d_Mo_comes_34 e35 ?_
    refine z_iload_n 1 d_Mo_comes_37 rfl rfl ?_
    replace h := Option.bind_eq_some_iff.mp h; obtain ⟨a36, rfl, h⟩ := h
    replace h := Option.bind_eq_some_iff.mp h; obtain ⟨x37, e38, h⟩ := h
    refine z_zaload rfl d_Mo_comes_38 e38 ?_
    refine z_if_eq (tgt := 52) d_Mo_comes_39 rfl (fun c39 => ?_) (fun c39 => ?_)
    · rw [if_pos c39] at h
      refine z_aload_n 2 d_Mo_comes_52 rfl rfl ?_
      replace h := Option.bind_eq_some_iff.mp h; obtain ⟨x40, e41, h⟩ := h
      refine z_getR wF_NumberOfficeModel_113_14 d_Mo_comes_53 e41 ?_
      refine z_iconst (v := 0) d_Mo_comes_56 rfl ?_
      replace h := Option.bind_eq_some_iff.mp h; obtain ⟨a42, rfl, h⟩ := h
      replace h := Option.bind_eq_some_iff.mp h; obtain ⟨x43, e44, h⟩ := h
      refine z_iaload rfl d_Mo_comes_57 e44 ?_
      refine z_iconst (v := 1) d_Mo_comes_58 rfl ?_
      refine z_icmp_ne (tgt := 82) d_Mo_comes_59 rfl (fun c45 => ?_) (fun c45 => ?_)
      · rw [if_neg c45] at h
        refine z_aload_n 2 d_Mo_comes_82 rfl rfl ?_
        refine z_iload_n 1 d_Mo_comes_83 rfl rfl ?_
        refine z_aload_n 2 d_Mo_comes_84 rfl rfl ?_
        replace h := Option.bind_eq_some_iff.mp h; obtain ⟨x46, e47, h⟩ := h
        refine z_getR wF_NumberOfficeModel_113_14 d_Mo_comes_85 e47 ?_
        refine z_iconst (v := 3) d_Mo_comes_88 rfl ?_
        replace h := Option.bind_eq_some_iff.mp h; obtain ⟨a48, rfl, h⟩ := h
        replace h := Option.bind_eq_some_iff.mp h; obtain ⟨x49, e50, h⟩ := h
        refine z_iaload rfl d_Mo_comes_89 e50 ?_
        refine z_aload_n 2 d_Mo_comes_90 rfl rfl ?_
        replace h := Option.bind_eq_some_iff.mp h; obtain ⟨x51, e52, h⟩ := h
        refine z_getR wF_NumberOfficeModel_113_14 d_Mo_comes_91 e52 ?_
        refine z_iconst (v := 5) d_Mo_comes_94 rfl ?_
        replace h := Option.bind_eq_some_iff.mp h; obtain ⟨a53, rfl, h⟩ := h
        replace h := Option.bind_eq_some_iff.mp h; obtain ⟨x54, e55, h⟩ := h
        refine z_iaload rfl d_Mo_comes_95 e55 ?_
        refine z_aload_n 2 d_Mo_comes_96 rfl rfl ?_
        replace h := Option.bind_eq_some_iff.mp h; obtain ⟨x56, e57, h⟩ := h
        refine z_getR wF_NumberOfficeModel_113_14 d_Mo_comes_97 e57 ?_
        refine z_iconst (v := 4) d_Mo_comes_100 rfl ?_
        replace h := Option.bind_eq_some_iff.mp h; obtain ⟨a58, rfl, h⟩ := h
        replace h := Option.bind_eq_some_iff.mp h; obtain ⟨x59, e60, h⟩ := h
        refine z_iaload rfl d_Mo_comes_101 e60 ?_
        replace h := Option.bind_eq_some_iff.mp h; obtain ⟨_, e64, h⟩ := h
        obtain ⟨b65, f66, e64⟩ := zcls_at (zis_at e64)
        replace h := Option.bind_eq_some_iff.mp h; obtain ⟨σ61, e62, h⟩ := h
        refine z_callV (av := [.int (x4), .int (x49), .int (x54), .int (x59)]) (st := []) wV_NumberOfficeModel_156 e64 (t_Mo_learn hG e62) (by decide) (by decide) d_Mo_comes_102 (by simp [z_rfc, z_ci, z_cl, z_cr, z_cn]) ?_
        show Z _ _ _ _ _ _ 105 [(2, .int (x9)), (1, .int (x4)), (0, .ref (v0))] [] _
        refine z_lv (lv' := [(0, .ref (v0)), (1, .int (x4)), (2, .int (x9))]) [2, 1, 0] rfl ?_
        exact t_Mo_comes_105 hG   h
      · rw [if_pos c45] at h
        refine z_aload_n 2 d_Mo_comes_62 rfl rfl ?_
        refine z_iload_n 1 d_Mo_comes_63 rfl rfl ?_
        refine z_aload_n 2 d_Mo_comes_64 rfl rfl ?_
        replace h := Option.bind_eq_some_iff.mp h; obtain ⟨x67, e68, h⟩ := h
        refine z_getR wF_NumberOfficeModel_113_14 d_Mo_comes_65 e68 ?_
        refine z_iconst (v := 3) d_Mo_comes_68 rfl ?_
        replace h := Option.bind_eq_some_iff.mp h; obtain ⟨a69, rfl, h⟩ := h
        replace h := Option.bind_eq_some_iff.mp h; obtain ⟨x70, e71, h⟩ := h
        refine z_iaload rfl d_Mo_comes_69 e71 ?_
        refine z_aload_n 2 d_Mo_comes_70 rfl rfl ?_
        replace h := Option.bind_eq_some_iff.mp h; obtain ⟨x72, e73, h⟩ := h
        refine z_getR wF_NumberOfficeModel_113_14 d_Mo_comes_71 e73 ?_
        refine z_iconst (v := 4) d_Mo_comes_74 rfl ?_
        replace h := Option.bind_eq_some_iff.mp h; obtain ⟨a74, rfl, h⟩ := h
        replace h := Option.bind_eq_some_iff.mp h; obtain ⟨x75, e76, h⟩ := h
        refine z_iaload rfl d_Mo_comes_75 e76 ?_
        replace h := Option.bind_eq_some_iff.mp h; obtain ⟨_, e80, h⟩ := h
        obtain ⟨b81, f82, e80⟩ := zcls_at (zis_at e80)
        replace h := Option.bind_eq_some_iff.mp h; obtain ⟨σ77, e78, h⟩ := h
        refine z_callV (av := [.int (x4), .int (x70), .int (x75)]) (st := []) wV_NumberOfficeModel_152 e80 (t_Mo_give hG e78) (by decide) (by decide) d_Mo_comes_76 (by simp [z_rfc, z_ci, z_cl, z_cr, z_cn]) ?_
        show Z _ _ _ _ _ _ 79 [(2, .int (x9)), (1, .int (x4)), (0, .ref (v0))] [] _
        refine z_goto (tgt := 105) d_Mo_comes_79 rfl ?_
        refine z_lv (lv' := [(0, .ref (v0)), (1, .int (x4)), (2, .int (x9))]) [2, 1, 0] rfl ?_
        exact t_Mo_comes_105 hG   h
    · rw [if_neg c39] at h
      refine z_aload_n 2 d_Mo_comes_42 rfl rfl ?_
      replace h := Option.bind_eq_some_iff.mp h; obtain ⟨x83, e84, h⟩ := h
      refine z_getR wF_NumberOfficeModel_101_14 d_Mo_comes_43 e84 ?_
      refine z_iload_n 1 d_Mo_comes_46 rfl rfl ?_
      refine z_iconst (v := 3) d_Mo_comes_47 rfl ?_
      replace h := Option.bind_eq_some_iff.mp h; obtain ⟨a85, rfl, h⟩ := h
      replace h := Option.bind_eq_some_iff.mp h; obtain ⟨σ86, e87, h⟩ := h
      refine z_iastore rfl d_Mo_comes_48 e87 ?_
      refine z_goto (tgt := 105) d_Mo_comes_49 rfl ?_
      refine z_lv (lv' := [(0, .ref (v0)), (1, .int (x4)), (2, .int (x9))]) [2, 1, 0] rfl ?_
      exact t_Mo_comes_105 hG   h

def s_Mo_listByte_63 (g : zG)  (v0 : Nat) (v1 : Int32) (v2 : Int32) (w0 : Int32) (σ : zS) : Option (Int32 × zS) := some (w0, σ)
def s_Mo_listByte_50 (g : zG)  (v0 : Nat) (v1 : Int32) (v2 : Int32) (σ : zS) : Option (Int32 × zS) := (zgI σ v0 14 0).bind fun x1 => if x1 = 1 then s_Mo_listByte_63 g  (v0) (v1) (v2) (0) σ else s_Mo_listByte_63 g  (v0) (v1) (v2) ((-1)) σ
def s_Mo_listByte_218 (g : zG) (k81 : Nat → Int32 → Int32 → Int32 → zS → Option (Int32 × zS)) (v0 : Nat) (v1 : Int32) (v2 : Int32) (v3 : Int32) (v4 : Int32) (σ : zS) : Option (Int32 × zS) := (zis σ v0 14).bind fun _ => (s_Mo_put g v0 10 σ).bind fun σ1 => k81 (v0) (v1) (v2) (v3 + 1) σ1
def s_Mo_listByte_189 (g : zG) (k81 : Nat → Int32 → Int32 → Int32 → zS → Option (Int32 × zS)) (v0 : Nat) (v1 : Int32) (v2 : Int32) (v3 : Int32) (v4 : Int32) (σ : zS) : Option (Int32 × zS) := (zgR σ v0 14 24).bind fun x1 => (x1).bind fun a3 => (zaI σ a3 2 (v4)).bind fun x4 => if x4 = 3 then (zis σ v0 14).bind fun _ => (s_Mo_put g v0 32 σ).bind fun σ7 => (zgR σ7 v0 14 28).bind fun x10 => (x10).bind fun a12 => (zaI σ7 a12 2 (v4)).bind fun x13 => (zis σ7 v0 14).bind fun _ => (s_Mo_digits g v0 (x13.toInt64) σ7).bind fun σ15 => s_Mo_listByte_218 g k81 (v0) (v1) (v2) (v3) (v4) σ15 else s_Mo_listByte_218 g k81 (v0) (v1) (v2) (v3) (v4) σ
def s_Mo_listByte_146 (g : zG) (k81 : Nat → Int32 → Int32 → Int32 → zS → Option (Int32 × zS)) (v0 : Nat) (v1 : Int32) (v2 : Int32) (v3 : Int32) (v4 : Int32) (w0 : Int32) (w1 : Option Nat) (σ : zS) : Option (Int32 × zS) := (w1).bind fun a1 => (zis σ a1 14).bind fun _ => (s_Mo_put g a1 w0 σ).bind fun σ2 => (zgR σ2 v0 14 24).bind fun x5 => (x5).bind fun a7 => (zaI σ2 a7 2 (v4)).bind fun x8 => if x8 = 2 then (zis σ2 v0 14).bind fun _ => (s_Mo_put g v0 32 σ2).bind fun σ11 => (zgR σ11 v0 14 26).bind fun x14 => (x14).bind fun a16 => (zaL σ11 a16 1 (v4)).bind fun x17 => (zis σ11 v0 14).bind fun _ => (s_Mo_money g v0 x17 σ11).bind fun σ19 => (zgR σ19 v0 14 27).bind fun x22 => (x22).bind fun a24 => (zaI σ19 a24 0 (v4)).bind fun x25 => (zis σ19 v0 14).bind fun _ => (s_Mo_digits g v0 (x25.toInt64) σ19).bind fun σ27 => s_Mo_listByte_189 g k81 (v0) (v1) (v2) (v3) (v4) σ27 else s_Mo_listByte_189 g k81 (v0) (v1) (v2) (v3) (v4) σ2
def s_Mo_listByte_81 (g : zG)  : Nat → Nat → Int32 → Int32 → Int32 → zS → Option (Int32 × zS)
  | 0, _, _, _, _, _ => none
  | n + 1, v0, v1, v2, v3, σ => (zgR σ v0 14 23).bind fun x1 => (x1).bind fun a3 => (zaI σ a3 0 (v1)).bind fun x4 => if x4 < v3 then (zis σ v0 14).bind fun _ => (s_Mo_put g v0 84 σ).bind fun σ7 => (zis σ7 v0 14).bind fun _ => (s_Mo_put g v0 32 σ7).bind fun σ10 => (zis σ10 v0 14).bind fun _ => (s_Mo_sum g v0 v1 6 σ10).bind fun (x15, σ13) => (zis σ13 v0 14).bind fun _ => (s_Mo_money g v0 x15 σ13).bind fun σ16 => (zgR σ16 v0 14 22).bind fun x19 => (x19).bind fun a21 => (zaI σ16 a21 0 (v1)).bind fun x22 => (zis σ16 v0 14).bind fun _ => (s_Mo_digits g v0 (x22.toInt64) σ16).bind fun σ24 => (zis σ24 v0 14).bind fun _ => (s_Mo_put g v0 10 σ24).bind fun σ27 => (zgI σ27 v0 14 39).bind fun x30 => some (x30, σ27) else (zis σ v0 14).bind fun _ => (s_Mo_at g v0 v1 v3 σ).bind fun (x52, σ50) => (zis σ50 v0 14).bind fun _ => (s_Mo_digits g v0 (v3.toInt64) σ50).bind fun σ53 => (zis σ53 v0 14).bind fun _ => (s_Mo_put g v0 32 σ53).bind fun σ56 => (zgR σ56 v0 14 24).bind fun x59 => (x59).bind fun a61 => (zaI σ56 a61 2 (x52)).bind fun x62 => if x62 = 2 then s_Mo_listByte_146 g (fun v0 v1 v2 v3 σ => s_Mo_listByte_81 g  n v0 v1 v2 v3 σ) (v0) (v1) (v2) (v3) (x52) (85) (some (v0)) σ56 else (zgR σ56 v0 14 24).bind fun x65 => (x65).bind fun a67 => (zaI σ56 a67 2 (x52)).bind fun x68 => if x68 = 3 then s_Mo_listByte_146 g (fun v0 v1 v2 v3 σ => s_Mo_listByte_81 g  n v0 v1 v2 v3 σ) (v0) (v1) (v2) (v3) (x52) (86) (some (v0)) σ56 else s_Mo_listByte_146 g (fun v0 v1 v2 v3 σ => s_Mo_listByte_81 g  n v0 v1 v2 v3 σ) (v0) (v1) (v2) (v3) (x52) (76) (some (v0)) σ56
def s_Mo_listByte_18 (g : zG)  (v0 : Nat) (v1 : Int32) (v2 : Int32) (w0 : Int32) (w1 : Option Nat) (σ : zS) : Option (Int32 × zS) := (w1).bind fun a1 => (zpF σ a1 14 0 (.int (w0))).bind fun σ2 => (zgI σ2 v0 14 0).bind fun x4 => if x4 = 1 then s_Mo_listByte_50 g  (v0) (v1) (v2) σ2 else (s_Mo_isSeries g v1 σ2).bind fun (x9, σ7) => if x9 = 0 then s_Mo_listByte_50 g  (v0) (v1) (v2) σ7 else (zgR σ7 v0 14 21).bind fun x11 => (x11).bind fun a13 => (zaI σ7 a13 0 (v1)).bind fun x14 => if x14 = 2 then if 0 ≤ v2 then (zpF σ7 v0 14 37 (.int (v2))).bind fun σ18 => (zpF σ18 v0 14 38 (.int (0))).bind fun σ20 => (zpF σ20 v0 14 39 (.int ((-1)))).bind fun σ22 => s_Mo_listByte_81 g  zfuel (v0) (v1) (v2) (1) σ22 else s_Mo_listByte_50 g  (v0) (v1) (v2) σ7 else s_Mo_listByte_50 g  (v0) (v1) (v2) σ7
def s_Mo_listByte (g : zG) (v0 : Nat) (v1 : Int32) (v2 : Int32) (σ : zS) : Option (Int32 × zS) := (zgR σ v0 14 2).bind fun x1 => (zgI σ v0 14 1).bind fun x3 => (x1).bind fun a5 => (zaI σ a5 3 (x3)).bind fun x6 => if x6 = 0 then s_Mo_listByte_18 g  (v0) (v1) (v2) (0) (some (v0)) σ else s_Mo_listByte_18 g  (v0) (v1) (v2) (1) (some (v0)) σ
set_option maxRecDepth 100000 in
theorem t_Mo_listByte_63 {l : Launch} {D : zD} {g : zG} (hG : zGok g D) {q : Int32 × zS}   {v0 : Nat} {v1 : Int32} {v2 : Int32} {w0 : Int32} {σ : zS} (h : s_Mo_listByte_63 g  v0 v1 v2 w0 σ = some q) : Z l D K_Mo_listByte 3 69 (.returned (some (.int q.1)), q.2) 63 [(0, .ref (v0)), (1, .int (v1)), (2, .int (v2))] [.int (w0)] σ := by
  unfold s_Mo_listByte_63 at h
  cases h
  exact z_iret rfl rfl d_Mo_listByte_63
set_option maxRecDepth 100000 in
theorem t_Mo_listByte_50 {l : Launch} {D : zD} {g : zG} (hG : zGok g D) {q : Int32 × zS}   {v0 : Nat} {v1 : Int32} {v2 : Int32} {σ : zS} (h : s_Mo_listByte_50 g  v0 v1 v2 σ = some q) : Z l D K_Mo_listByte 3 69 (.returned (some (.int q.1)), q.2) 50 [(0, .ref (v0)), (1, .int (v1)), (2, .int (v2))] [] σ := by
  unfold s_Mo_listByte_50 at h
  refine z_aload_n 0 d_Mo_listByte_50 rfl rfl ?_
  replace h := Option.bind_eq_some_iff.mp h; obtain ⟨x1, e2, h⟩ := h
  refine z_getI wF_NumberOfficeModel_120_14 d_Mo_listByte_51 e2 ?_
  refine z_iconst (v := 1) d_Mo_listByte_54 rfl ?_
  refine z_icmp_ne (tgt := 62) d_Mo_listByte_55 rfl (fun c3 => ?_) (fun c3 => ?_)
  · rw [if_neg c3] at h
    refine z_iconst (v := (-1)) d_Mo_listByte_62 rfl ?_
    refine z_lv (lv' := [(0, .ref (v0)), (1, .int (v1)), (2, .int (v2))]) [0, 1, 2] rfl ?_
    exact t_Mo_listByte_63 hG   h
  · rw [if_pos c3] at h
    refine z_iconst (v := 0) d_Mo_listByte_58 rfl ?_
    refine z_goto (tgt := 63) d_Mo_listByte_59 rfl ?_
    refine z_lv (lv' := [(0, .ref (v0)), (1, .int (v1)), (2, .int (v2))]) [0, 1, 2] rfl ?_
    exact t_Mo_listByte_63 hG   h
set_option maxRecDepth 100000 in
theorem t_Mo_listByte_218 {l : Launch} {D : zD} {g : zG} (hG : zGok g D) {q : Int32 × zS} (k81 : Nat → Int32 → Int32 → Int32 → zS → Option (Int32 × zS)) (hk81 : ∀ {v0 : Nat} {v1 : Int32} {v2 : Int32} {v3 : Int32} {σ : zS}, k81 v0 v1 v2 v3 σ = some q → Z l D K_Mo_listByte 3 69 (.returned (some (.int q.1)), q.2) 81 [(0, .ref (v0)), (1, .int (v1)), (2, .int (v2)), (3, .int (v3))] [] σ) {v0 : Nat} {v1 : Int32} {v2 : Int32} {v3 : Int32} {v4 : Int32} {σ : zS} (h : s_Mo_listByte_218 g k81 v0 v1 v2 v3 v4 σ = some q) : Z l D K_Mo_listByte 3 69 (.returned (some (.int q.1)), q.2) 218 [(0, .ref (v0)), (1, .int (v1)), (2, .int (v2)), (3, .int (v3)), (4, .int (v4))] [] σ := by
  unfold s_Mo_listByte_218 at h
  refine z_aload_n 0 d_Mo_listByte_218 rfl rfl ?_
  refine z_bipush (v := 10) d_Mo_listByte_219 rfl ?_
  replace h := Option.bind_eq_some_iff.mp h; obtain ⟨_, e4, h⟩ := h
  obtain ⟨b5, f6, e4⟩ := zcls_at (zis_at e4)
  replace h := Option.bind_eq_some_iff.mp h; obtain ⟨σ1, e2, h⟩ := h
  refine z_callV (av := [.int (10)]) (st := []) wV_NumberOfficeModel_223 e4 (t_Mo_put hG e2) (by decide) (by decide) d_Mo_listByte_221 (by simp [z_rfc, z_ci, z_cl, z_cr, z_cn]) ?_
  show Z _ _ _ _ _ _ 224 [(0, .ref (v0)), (1, .int (v1)), (2, .int (v2)), (3, .int (v3)), (4, .int (v4))] [] _
  refine z_iinc (v := v3 + 1) (lv' := [(3, .int (v3 + 1)), (0, .ref (v0)), (1, .int (v1)), (2, .int (v2)), (4, .int (v4))]) 3 d_Mo_listByte_224 rfl rfl (by decide) rfl ?_
  refine z_goto (tgt := 81) d_Mo_listByte_227 rfl ?_
  refine z_lv (lv' := [(0, .ref (v0)), (1, .int (v1)), (2, .int (v2)), (3, .int (v3 + 1))]) [1, 2, 3, 0] rfl ?_
  exact hk81 h
set_option maxRecDepth 100000 in
theorem t_Mo_listByte_189 {l : Launch} {D : zD} {g : zG} (hG : zGok g D) {q : Int32 × zS} (k81 : Nat → Int32 → Int32 → Int32 → zS → Option (Int32 × zS)) (hk81 : ∀ {v0 : Nat} {v1 : Int32} {v2 : Int32} {v3 : Int32} {σ : zS}, k81 v0 v1 v2 v3 σ = some q → Z l D K_Mo_listByte 3 69 (.returned (some (.int q.1)), q.2) 81 [(0, .ref (v0)), (1, .int (v1)), (2, .int (v2)), (3, .int (v3))] [] σ) {v0 : Nat} {v1 : Int32} {v2 : Int32} {v3 : Int32} {v4 : Int32} {σ : zS} (h : s_Mo_listByte_189 g k81 v0 v1 v2 v3 v4 σ = some q) : Z l D K_Mo_listByte 3 69 (.returned (some (.int q.1)), q.2) 189 [(0, .ref (v0)), (1, .int (v1)), (2, .int (v2)), (3, .int (v3)), (4, .int (v4))] [] σ := by
  unfold s_Mo_listByte_189 at h
  refine z_aload_n 0 d_Mo_listByte_189 rfl rfl ?_
  replace h := Option.bind_eq_some_iff.mp h; obtain ⟨x1, e2, h⟩ := h
  refine z_getR wF_NumberOfficeModel_80_14 d_Mo_listByte_190 e2 ?_
  refine z_iload 4 d_Mo_listByte_193 rfl ?_
  replace h := Option.bind_eq_some_iff.mp h; obtain ⟨a3, rfl, h⟩ := h
  replace h := Option.bind_eq_some_iff.mp h; obtain ⟨x4, e5, h⟩ := h
  refine z_baload rfl d_Mo_listByte_195 e5 ?_
  refine z_iconst (v := 3) d_Mo_listByte_196 rfl ?_
  refine z_icmp_ne (tgt := 218) d_Mo_listByte_197 rfl (fun c6 => ?_) (fun c6 => ?_)
  · rw [if_neg c6] at h
    refine z_lv (lv' := [(0, .ref (v0)), (1, .int (v1)), (2, .int (v2)), (3, .int (v3)), (4, .int (v4))]) [0, 1, 2, 3, 4] rfl ?_
    exact t_Mo_listByte_218 hG _ hk81 h
  · rw [if_pos c6] at h
    refine z_aload_n 0 d_Mo_listByte_200 rfl rfl ?_
    refine z_bipush (v := 32) d_Mo_listByte_201 rfl ?_
    replace h := Option.bind_eq_some_iff.mp h; obtain ⟨_, e21, h⟩ := h
    obtain ⟨b22, f23, e21⟩ := zcls_at (zis_at e21)
    replace h := Option.bind_eq_some_iff.mp h; obtain ⟨σ7, e8, h⟩ := h
    refine z_callV (av := [.int (32)]) (st := []) wV_NumberOfficeModel_223 e21 (t_Mo_put hG e8) (by decide) (by decide) d_Mo_listByte_203 (by simp [z_rfc, z_ci, z_cl, z_cr, z_cn]) ?_
    show Z _ _ _ _ _ _ 206 [(0, .ref (v0)), (1, .int (v1)), (2, .int (v2)), (3, .int (v3)), (4, .int (v4))] [] _
    refine z_aload_n 0 d_Mo_listByte_206 rfl rfl ?_
    refine z_aload_n 0 d_Mo_listByte_207 rfl rfl ?_
    replace h := Option.bind_eq_some_iff.mp h; obtain ⟨x10, e11, h⟩ := h
    refine z_getR wF_NumberOfficeModel_92_14 d_Mo_listByte_208 e11 ?_
    refine z_iload 4 d_Mo_listByte_211 rfl ?_
    replace h := Option.bind_eq_some_iff.mp h; obtain ⟨a12, rfl, h⟩ := h
    replace h := Option.bind_eq_some_iff.mp h; obtain ⟨x13, e14, h⟩ := h
    refine z_baload rfl d_Mo_listByte_213 e14 ?_
    refine z_i2l d_Mo_listByte_214 ?_
    replace h := Option.bind_eq_some_iff.mp h; obtain ⟨_, e18, h⟩ := h
    obtain ⟨b19, f20, e18⟩ := zcls_at (zis_at e18)
    replace h := Option.bind_eq_some_iff.mp h; obtain ⟨σ15, e16, h⟩ := h
    refine z_callV (av := [.long (x13.toInt64)]) (st := []) wV_NumberOfficeModel_234 e18 (t_Mo_digits hG e16) (by decide) (by decide) d_Mo_listByte_215 (by simp [z_rfc, z_ci, z_cl, z_cr, z_cn]) ?_
    show Z _ _ _ _ _ _ 218 [(0, .ref (v0)), (1, .int (v1)), (2, .int (v2)), (3, .int (v3)), (4, .int (v4))] [] _
    refine z_lv (lv' := [(0, .ref (v0)), (1, .int (v1)), (2, .int (v2)), (3, .int (v3)), (4, .int (v4))]) [0, 1, 2, 3, 4] rfl ?_
    exact t_Mo_listByte_218 hG _ hk81 h
set_option maxRecDepth 100000 in
theorem t_Mo_listByte_146 {l : Launch} {D : zD} {g : zG} (hG : zGok g D) {q : Int32 × zS} (k81 : Nat → Int32 → Int32 → Int32 → zS → Option (Int32 × zS)) (hk81 : ∀ {v0 : Nat} {v1 : Int32} {v2 : Int32} {v3 : Int32} {σ : zS}, k81 v0 v1 v2 v3 σ = some q → Z l D K_Mo_listByte 3 69 (.returned (some (.int q.1)), q.2) 81 [(0, .ref (v0)), (1, .int (v1)), (2, .int (v2)), (3, .int (v3))] [] σ) {v0 : Nat} {v1 : Int32} {v2 : Int32} {v3 : Int32} {v4 : Int32} {w0 : Int32} {w1 : Option Nat} {σ : zS} (h : s_Mo_listByte_146 g k81 v0 v1 v2 v3 v4 w0 w1 σ = some q) : Z l D K_Mo_listByte 3 69 (.returned (some (.int q.1)), q.2) 146 [(0, .ref (v0)), (1, .int (v1)), (2, .int (v2)), (3, .int (v3)), (4, .int (v4))] [.int (w0), va_rf (w1)] σ := by
  unfold s_Mo_listByte_146 at h
  replace h := Option.bind_eq_some_iff.mp h; obtain ⟨a1, rfl, h⟩ := h
  replace h := Option.bind_eq_some_iff.mp h; obtain ⟨_, e39, h⟩ := h
  obtain ⟨b40, f41, e39⟩ := zcls_at (zis_at e39)
  replace h := Option.bind_eq_some_iff.mp h; obtain ⟨σ2, e3, h⟩ := h
  refine z_callV (av := [.int (w0)]) (st := []) wV_NumberOfficeModel_223 e39 (t_Mo_put hG e3) (by decide) (by decide) d_Mo_listByte_146 (by simp [z_rfc, z_ci, z_cl, z_cr, z_cn]) ?_
  show Z _ _ _ _ _ _ 149 [(0, .ref (v0)), (1, .int (v1)), (2, .int (v2)), (3, .int (v3)), (4, .int (v4))] [] _
  refine z_aload_n 0 d_Mo_listByte_149 rfl rfl ?_
  replace h := Option.bind_eq_some_iff.mp h; obtain ⟨x5, e6, h⟩ := h
  refine z_getR wF_NumberOfficeModel_80_14 d_Mo_listByte_150 e6 ?_
  refine z_iload 4 d_Mo_listByte_153 rfl ?_
  replace h := Option.bind_eq_some_iff.mp h; obtain ⟨a7, rfl, h⟩ := h
  replace h := Option.bind_eq_some_iff.mp h; obtain ⟨x8, e9, h⟩ := h
  refine z_baload rfl d_Mo_listByte_155 e9 ?_
  refine z_iconst (v := 2) d_Mo_listByte_156 rfl ?_
  refine z_icmp_ne (tgt := 189) d_Mo_listByte_157 rfl (fun c10 => ?_) (fun c10 => ?_)
  · rw [if_neg c10] at h
    refine z_lv (lv' := [(0, .ref (v0)), (1, .int (v1)), (2, .int (v2)), (3, .int (v3)), (4, .int (v4))]) [0, 1, 2, 3, 4] rfl ?_
    exact t_Mo_listByte_189 hG _ hk81 h
  · rw [if_pos c10] at h
    refine z_aload_n 0 d_Mo_listByte_160 rfl rfl ?_
    refine z_bipush (v := 32) d_Mo_listByte_161 rfl ?_
    replace h := Option.bind_eq_some_iff.mp h; obtain ⟨_, e36, h⟩ := h
    obtain ⟨b37, f38, e36⟩ := zcls_at (zis_at e36)
    replace h := Option.bind_eq_some_iff.mp h; obtain ⟨σ11, e12, h⟩ := h
    refine z_callV (av := [.int (32)]) (st := []) wV_NumberOfficeModel_223 e36 (t_Mo_put hG e12) (by decide) (by decide) d_Mo_listByte_163 (by simp [z_rfc, z_ci, z_cl, z_cr, z_cn]) ?_
    show Z _ _ _ _ _ _ 166 [(0, .ref (v0)), (1, .int (v1)), (2, .int (v2)), (3, .int (v3)), (4, .int (v4))] [] _
    refine z_aload_n 0 d_Mo_listByte_166 rfl rfl ?_
    refine z_aload_n 0 d_Mo_listByte_167 rfl rfl ?_
    replace h := Option.bind_eq_some_iff.mp h; obtain ⟨x14, e15, h⟩ := h
    refine z_getR wF_NumberOfficeModel_86_14 d_Mo_listByte_168 e15 ?_
    refine z_iload 4 d_Mo_listByte_171 rfl ?_
    replace h := Option.bind_eq_some_iff.mp h; obtain ⟨a16, rfl, h⟩ := h
    replace h := Option.bind_eq_some_iff.mp h; obtain ⟨x17, e18, h⟩ := h
    refine z_laload rfl d_Mo_listByte_173 e18 ?_
    replace h := Option.bind_eq_some_iff.mp h; obtain ⟨_, e33, h⟩ := h
    obtain ⟨b34, f35, e33⟩ := zcls_at (zis_at e33)
    replace h := Option.bind_eq_some_iff.mp h; obtain ⟨σ19, e20, h⟩ := h
    refine z_callV (av := [.long (x17)]) (st := []) wV_NumberOfficeModel_238 e33 (t_Mo_money hG e20) (by decide) (by decide) d_Mo_listByte_174 (by simp [z_rfc, z_ci, z_cl, z_cr, z_cn]) ?_
    show Z _ _ _ _ _ _ 177 [(0, .ref (v0)), (1, .int (v1)), (2, .int (v2)), (3, .int (v3)), (4, .int (v4))] [] _
    refine z_aload_n 0 d_Mo_listByte_177 rfl rfl ?_
    refine z_aload_n 0 d_Mo_listByte_178 rfl rfl ?_
    replace h := Option.bind_eq_some_iff.mp h; obtain ⟨x22, e23, h⟩ := h
    refine z_getR wF_NumberOfficeModel_89_14 d_Mo_listByte_179 e23 ?_
    refine z_iload 4 d_Mo_listByte_182 rfl ?_
    replace h := Option.bind_eq_some_iff.mp h; obtain ⟨a24, rfl, h⟩ := h
    replace h := Option.bind_eq_some_iff.mp h; obtain ⟨x25, e26, h⟩ := h
    refine z_iaload rfl d_Mo_listByte_184 e26 ?_
    refine z_i2l d_Mo_listByte_185 ?_
    replace h := Option.bind_eq_some_iff.mp h; obtain ⟨_, e30, h⟩ := h
    obtain ⟨b31, f32, e30⟩ := zcls_at (zis_at e30)
    replace h := Option.bind_eq_some_iff.mp h; obtain ⟨σ27, e28, h⟩ := h
    refine z_callV (av := [.long (x25.toInt64)]) (st := []) wV_NumberOfficeModel_234 e30 (t_Mo_digits hG e28) (by decide) (by decide) d_Mo_listByte_186 (by simp [z_rfc, z_ci, z_cl, z_cr, z_cn]) ?_
    show Z _ _ _ _ _ _ 189 [(0, .ref (v0)), (1, .int (v1)), (2, .int (v2)), (3, .int (v3)), (4, .int (v4))] [] _
    refine z_lv (lv' := [(0, .ref (v0)), (1, .int (v1)), (2, .int (v2)), (3, .int (v3)), (4, .int (v4))]) [0, 1, 2, 3, 4] rfl ?_
    exact t_Mo_listByte_189 hG _ hk81 h
set_option maxRecDepth 100000 in
theorem t_Mo_listByte_81 {l : Launch} {D : zD} {g : zG} (hG : zGok g D) {q : Int32 × zS}   : ∀ (n : Nat) {v0 : Nat} {v1 : Int32} {v2 : Int32} {v3 : Int32} {σ : zS}, s_Mo_listByte_81 g  n v0 v1 v2 v3 σ = some q → Z l D K_Mo_listByte 3 69 (.returned (some (.int q.1)), q.2) 81 [(0, .ref (v0)), (1, .int (v1)), (2, .int (v2)), (3, .int (v3))] [] σ := by
  intro n
  induction n with
  | zero =>
    intro v0 v1 v2 v3 σ h
    cases h
  | succ n ih =>
    intro v0 v1 v2 v3 σ h
    first | rw [s_Mo_listByte_81] at h | (unfold s_Mo_listByte_81 at h; dsimp only at h)
    refine z_iload_n 3 d_Mo_listByte_81 rfl rfl ?_
    refine z_aload_n 0 d_Mo_listByte_82 rfl rfl ?_
    replace h := Option.bind_eq_some_iff.mp h; obtain ⟨x1, e2, h⟩ := h
    refine z_getR wF_NumberOfficeModel_77_14 d_Mo_listByte_83 e2 ?_
    refine z_iload_n 1 d_Mo_listByte_86 rfl rfl ?_
    replace h := Option.bind_eq_some_iff.mp h; obtain ⟨a3, rfl, h⟩ := h
    replace h := Option.bind_eq_some_iff.mp h; obtain ⟨x4, e5, h⟩ := h
    refine z_iaload rfl d_Mo_listByte_87 e5 ?_
    refine z_icmp_gt (tgt := 230) d_Mo_listByte_88 rfl (fun c6 => ?_) (fun c6 => ?_)
    · rw [if_pos c6] at h
      refine z_aload_n 0 d_Mo_listByte_230 rfl rfl ?_
      refine z_bipush (v := 84) d_Mo_listByte_231 rfl ?_
      replace h := Option.bind_eq_some_iff.mp h; obtain ⟨_, e47, h⟩ := h
      obtain ⟨b48, f49, e47⟩ := zcls_at (zis_at e47)
      replace h := Option.bind_eq_some_iff.mp h; obtain ⟨σ7, e8, h⟩ := h
      refine z_callV (av := [.int (84)]) (st := []) wV_NumberOfficeModel_223 e47 (t_Mo_put hG e8) (by decide) (by decide) d_Mo_listByte_233 (by simp [z_rfc, z_ci, z_cl, z_cr, z_cn]) ?_
      show Z _ _ _ _ _ _ 236 [(0, .ref (v0)), (1, .int (v1)), (2, .int (v2)), (3, .int (v3))] [] _
      refine z_aload_n 0 d_Mo_listByte_236 rfl rfl ?_
      refine z_bipush (v := 32) d_Mo_listByte_237 rfl ?_
      replace h := Option.bind_eq_some_iff.mp h; obtain ⟨_, e44, h⟩ := h
      obtain ⟨b45, f46, e44⟩ := zcls_at (zis_at e44)
      replace h := Option.bind_eq_some_iff.mp h; obtain ⟨σ10, e11, h⟩ := h
      refine z_callV (av := [.int (32)]) (st := []) wV_NumberOfficeModel_223 e44 (t_Mo_put hG e11) (by decide) (by decide) d_Mo_listByte_239 (by simp [z_rfc, z_ci, z_cl, z_cr, z_cn]) ?_
      show Z _ _ _ _ _ _ 242 [(0, .ref (v0)), (1, .int (v1)), (2, .int (v2)), (3, .int (v3))] [] _
      refine z_aload_n 0 d_Mo_listByte_242 rfl rfl ?_
      refine z_aload_n 0 d_Mo_listByte_243 rfl rfl ?_
      refine z_iload_n 1 d_Mo_listByte_244 rfl rfl ?_
      refine z_bipush (v := 6) d_Mo_listByte_245 rfl ?_
      replace h := Option.bind_eq_some_iff.mp h; obtain ⟨_, e41, h⟩ := h
      obtain ⟨b42, f43, e41⟩ := zcls_at (zis_at e41)
      replace h := Option.bind_eq_some_iff.mp h; obtain ⟨⟨x15, σ13⟩, e14, h⟩ := h
      dsimp only at h
      refine z_callV (av := [.int (v1), .int (6)]) (st := [.ref (v0)]) wV_NumberOfficeModel_210 e41 (t_Mo_sum hG e14) (by decide) (by decide) d_Mo_listByte_247 (by simp [z_rfc, z_ci, z_cl, z_cr, z_cn]) ?_
      show Z _ _ _ _ _ _ 250 [(0, .ref (v0)), (1, .int (v1)), (2, .int (v2)), (3, .int (v3))] [.long (x15), .ref (v0)] _
      replace h := Option.bind_eq_some_iff.mp h; obtain ⟨_, e38, h⟩ := h
      obtain ⟨b39, f40, e38⟩ := zcls_at (zis_at e38)
      replace h := Option.bind_eq_some_iff.mp h; obtain ⟨σ16, e17, h⟩ := h
      refine z_callV (av := [.long (x15)]) (st := []) wV_NumberOfficeModel_238 e38 (t_Mo_money hG e17) (by decide) (by decide) d_Mo_listByte_250 (by simp [z_rfc, z_ci, z_cl, z_cr, z_cn]) ?_
      show Z _ _ _ _ _ _ 253 [(0, .ref (v0)), (1, .int (v1)), (2, .int (v2)), (3, .int (v3))] [] _
      refine z_aload_n 0 d_Mo_listByte_253 rfl rfl ?_
      refine z_aload_n 0 d_Mo_listByte_254 rfl rfl ?_
      replace h := Option.bind_eq_some_iff.mp h; obtain ⟨x19, e20, h⟩ := h
      refine z_getR wF_NumberOfficeModel_74_14 d_Mo_listByte_255 e20 ?_
      refine z_iload_n 1 d_Mo_listByte_258 rfl rfl ?_
      replace h := Option.bind_eq_some_iff.mp h; obtain ⟨a21, rfl, h⟩ := h
      replace h := Option.bind_eq_some_iff.mp h; obtain ⟨x22, e23, h⟩ := h
      refine z_iaload rfl d_Mo_listByte_259 e23 ?_
      refine z_i2l d_Mo_listByte_260 ?_
      replace h := Option.bind_eq_some_iff.mp h; obtain ⟨_, e35, h⟩ := h
      obtain ⟨b36, f37, e35⟩ := zcls_at (zis_at e35)
      replace h := Option.bind_eq_some_iff.mp h; obtain ⟨σ24, e25, h⟩ := h
      refine z_callV (av := [.long (x22.toInt64)]) (st := []) wV_NumberOfficeModel_234 e35 (t_Mo_digits hG e25) (by decide) (by decide) d_Mo_listByte_261 (by simp [z_rfc, z_ci, z_cl, z_cr, z_cn]) ?_
      show Z _ _ _ _ _ _ 264 [(0, .ref (v0)), (1, .int (v1)), (2, .int (v2)), (3, .int (v3))] [] _
      refine z_aload_n 0 d_Mo_listByte_264 rfl rfl ?_
      refine z_bipush (v := 10) d_Mo_listByte_265 rfl ?_
      replace h := Option.bind_eq_some_iff.mp h; obtain ⟨_, e32, h⟩ := h
      obtain ⟨b33, f34, e32⟩ := zcls_at (zis_at e32)
      replace h := Option.bind_eq_some_iff.mp h; obtain ⟨σ27, e28, h⟩ := h
      refine z_callV (av := [.int (10)]) (st := []) wV_NumberOfficeModel_223 e32 (t_Mo_put hG e28) (by decide) (by decide) d_Mo_listByte_267 (by simp [z_rfc, z_ci, z_cl, z_cr, z_cn]) ?_
      show Z _ _ _ _ _ _ 270 [(0, .ref (v0)), (1, .int (v1)), (2, .int (v2)), (3, .int (v3))] [] _
      refine z_aload_n 0 d_Mo_listByte_270 rfl rfl ?_
      replace h := Option.bind_eq_some_iff.mp h; obtain ⟨x30, e31, h⟩ := h
      refine z_getI wF_NumberOfficeModel_220_14 d_Mo_listByte_271 e31 ?_
      cases h
      exact z_iret rfl rfl d_Mo_listByte_274
    · rw [if_neg c6] at h
      refine z_aload_n 0 d_Mo_listByte_91 rfl rfl ?_
      refine z_iload_n 1 d_Mo_listByte_92 rfl rfl ?_
      refine z_iload_n 3 d_Mo_listByte_93 rfl rfl ?_
      replace h := Option.bind_eq_some_iff.mp h; obtain ⟨_, e77, h⟩ := h
      obtain ⟨b78, f79, e77⟩ := zcls_at (zis_at e77)
      replace h := Option.bind_eq_some_iff.mp h; obtain ⟨⟨x52, σ50⟩, e51, h⟩ := h
      dsimp only at h
      refine z_callV (av := [.int (v1), .int (v3)]) (st := []) wV_NumberOfficeModel_148 e77 (t_Mo_at hG e51) (by decide) (by decide) d_Mo_listByte_94 (by simp [z_rfc, z_ci, z_cl, z_cr, z_cn]) ?_
      show Z _ _ _ _ _ _ 97 [(0, .ref (v0)), (1, .int (v1)), (2, .int (v2)), (3, .int (v3))] [.int (x52)] _
      refine z_istore (j := 4) (lv' := [(4, .int (x52)), (0, .ref (v0)), (1, .int (v1)), (2, .int (v2)), (3, .int (v3))]) d_Mo_listByte_97 (by decide) rfl ?_
      refine z_aload_n 1 d_Mo_listByte_99 rfl rfl ?_
      refine z_iload_n 4 d_Mo_listByte_100 rfl rfl ?_
      refine z_i2l d_Mo_listByte_101 ?_
      replace h := Option.bind_eq_some_iff.mp h; obtain ⟨_, e74, h⟩ := h
      obtain ⟨b75, f76, e74⟩ := zcls_at (zis_at e74)
      replace h := Option.bind_eq_some_iff.mp h; obtain ⟨σ53, e54, h⟩ := h
      refine z_callV (av := [.long (v3.toInt64)]) (st := []) wV_NumberOfficeModel_234 e74 (t_Mo_digits hG e54) (by decide) (by decide) d_Mo_listByte_102 (by simp [z_rfc, z_ci, z_cl, z_cr, z_cn]) ?_
      show Z _ _ _ _ _ _ 105 [(4, .int (x52)), (0, .ref (v0)), (1, .int (v1)), (2, .int (v2)), (3, .int (v3))] [] _
      refine z_aload_n 1 d_Mo_listByte_105 rfl rfl ?_
      refine z_bipush (v := 32) d_Mo_listByte_106 rfl ?_
      replace h := Option.bind_eq_some_iff.mp h; obtain ⟨_, e71, h⟩ := h
      obtain ⟨b72, f73, e71⟩ := zcls_at (zis_at e71)
      replace h := Option.bind_eq_some_iff.mp h; obtain ⟨σ56, e57, h⟩ := h
      refine z_callV (av := [.int (32)]) (st := []) wV_NumberOfficeModel_223 e71 (t_Mo_put hG e57) (by decide) (by decide) d_Mo_listByte_108 (by simp [z_rfc, z_ci, z_cl, z_cr, z_cn]) ?_
      show Z _ _ _ _ _ _ 111 [(4, .int (x52)), (0, .ref (v0)), (1, .int (v1)), (2, .int (v2)), (3, .int (v3))] [] _
      refine z_aload_n 1 d_Mo_listByte_111 rfl rfl ?_
      refine z_aload_n 1 d_Mo_listByte_112 rfl rfl ?_
      replace h := Option.bind_eq_some_iff.mp h; obtain ⟨x59, e60, h⟩ := h
      refine z_getR wF_NumberOfficeModel_80_14 d_Mo_listByte_113 e60 ?_
      refine z_iload 0 d_Mo_listByte_116 rfl ?_
      replace h := Option.bind_eq_some_iff.mp h; obtain ⟨a61, rfl, h⟩ := h
      replace h := Option.bind_eq_some_iff.mp h; obtain ⟨x62, e63, h⟩ := h
      refine z_baload rfl d_Mo_listByte_118 e63 ?_
      refine z_iconst (v := 2) d_Mo_listByte_119 rfl ?_
      refine z_icmp_ne (tgt := 128) d_Mo_listByte_120 rfl (fun c64 => ?_) (fun c64 => ?_)
      · rw [if_neg c64] at h
        refine z_aload_n 1 d_Mo_listByte_128 rfl rfl ?_
        replace h := Option.bind_eq_some_iff.mp h; obtain ⟨x65, e66, h⟩ := h
        refine z_getR wF_NumberOfficeModel_80_14 d_Mo_listByte_129 e66 ?_
        refine z_iload 0 d_Mo_listByte_132 rfl ?_
        replace h := Option.bind_eq_some_iff.mp h; obtain ⟨a67, rfl, h⟩ := h
        replace h := Option.bind_eq_some_iff.mp h; obtain ⟨x68, e69, h⟩ := h
        refine z_baload rfl d_Mo_listByte_134 e69 ?_
        refine z_iconst (v := 3) d_Mo_listByte_135 rfl ?_
        refine z_icmp_ne (tgt := 144) d_Mo_listByte_136 rfl (fun c70 => ?_) (fun c70 => ?_)
        · rw [if_neg c70] at h
          refine z_bipush (v := 76) d_Mo_listByte_144 rfl ?_
          refine z_lv (lv' := [(0, .ref (v0)), (1, .int (v1)), (2, .int (v2)), (3, .int (v3)), (4, .int (x52))]) [1, 2, 3, 4, 0] rfl ?_
          exact t_Mo_listByte_146 hG _ (fun h => ih h) h
        · rw [if_pos c70] at h
          refine z_bipush (v := 86) d_Mo_listByte_139 rfl ?_
          refine z_goto (tgt := 146) d_Mo_listByte_141 rfl ?_
          refine z_lv (lv' := [(0, .ref (v0)), (1, .int (v1)), (2, .int (v2)), (3, .int (v3)), (4, .int (x52))]) [1, 2, 3, 4, 0] rfl ?_
          exact t_Mo_listByte_146 hG _ (fun h => ih h) h
      · rw [if_pos c64] at h
        refine z_bipush (v := 85) d_Mo_listByte_123 rfl ?_
        refine z_goto (tgt := 146) d_Mo_listByte_125 rfl ?_
        refine z_lv (lv' := [(0, .ref (v0)), (1, .int (v1)), (2, .int (v2)), (3, .int (v3)), (4, .int (x52))]) [1, 2, 3, 4, 0] rfl ?_
        exact t_Mo_listByte_146 hG _ (fun h => ih h) h
set_option maxRecDepth 100000 in
theorem t_Mo_listByte_18 {l : Launch} {D : zD} {g : zG} (hG : zGok g D) {q : Int32 × zS}   {v0 : Nat} {v1 : Int32} {v2 : Int32} {w0 : Int32} {w1 : Option Nat} {σ : zS} (h : s_Mo_listByte_18 g  v0 v1 v2 w0 w1 σ = some q) : Z l D K_Mo_listByte 3 69 (.returned (some (.int q.1)), q.2) 18 [(0, .ref (v0)), (1, .int (v1)), (2, .int (v2))] [.int (w0), va_rf (w1)] σ := by
  unfold s_Mo_listByte_18 at h
  replace h := Option.bind_eq_some_iff.mp h; obtain ⟨a1, rfl, h⟩ := h
  replace h := Option.bind_eq_some_iff.mp h; obtain ⟨σ2, e3, h⟩ := h
  refine z_put wP_NumberOfficeModel_120_14 (fun q => by cases q) d_Mo_listByte_18 rfl rfl e3 ?_
  refine z_aload_n 0 d_Mo_listByte_21 rfl rfl ?_
  replace h := Option.bind_eq_some_iff.mp h; obtain ⟨x4, e5, h⟩ := h
  refine z_getI wF_NumberOfficeModel_120_14 d_Mo_listByte_22 e5 ?_
  refine z_iconst (v := 1) d_Mo_listByte_25 rfl ?_
  refine z_icmp_eq (tgt := 50) d_Mo_listByte_26 rfl (fun c6 => ?_) (fun c6 => ?_)
  · rw [if_pos c6] at h
    refine z_lv (lv' := [(0, .ref (v0)), (1, .int (v1)), (2, .int (v2))]) [0, 1, 2] rfl ?_
    exact t_Mo_listByte_50 hG   h
  · rw [if_neg c6] at h
    refine z_iload_n 1 d_Mo_listByte_29 rfl rfl ?_
    replace h := Option.bind_eq_some_iff.mp h; obtain ⟨⟨x9, σ7⟩, e8, h⟩ := h
    dsimp only at h
    refine z_callS (av := [.int (v1)]) (st := []) wS_NumberOfficeModel_144 (t_Mo_isSeries hG e8) (by decide) (by decide) d_Mo_listByte_30 (by simp [z_rfc, z_ci, z_cl, z_cr, z_cn]) ?_
    show Z _ _ _ _ _ _ 33 [(0, .ref (v0)), (1, .int (v1)), (2, .int (v2))] [.int (x9)] _
    refine z_if_eq (tgt := 50) d_Mo_listByte_33 rfl (fun c10 => ?_) (fun c10 => ?_)
    · rw [if_pos c10] at h
      refine z_lv (lv' := [(0, .ref (v0)), (1, .int (v1)), (2, .int (v2))]) [0, 1, 2] rfl ?_
      exact t_Mo_listByte_50 hG   h
    · rw [if_neg c10] at h
      refine z_aload_n 0 d_Mo_listByte_36 rfl rfl ?_
      replace h := Option.bind_eq_some_iff.mp h; obtain ⟨x11, e12, h⟩ := h
      refine z_getR wF_NumberOfficeModel_71_14 d_Mo_listByte_37 e12 ?_
      refine z_iload_n 1 d_Mo_listByte_40 rfl rfl ?_
      replace h := Option.bind_eq_some_iff.mp h; obtain ⟨a13, rfl, h⟩ := h
      replace h := Option.bind_eq_some_iff.mp h; obtain ⟨x14, e15, h⟩ := h
      refine z_iaload rfl d_Mo_listByte_41 e15 ?_
      refine z_iconst (v := 2) d_Mo_listByte_42 rfl ?_
      refine z_icmp_ne (tgt := 50) d_Mo_listByte_43 rfl (fun c16 => ?_) (fun c16 => ?_)
      · rw [if_neg c16] at h
        refine z_lv (lv' := [(0, .ref (v0)), (1, .int (v1)), (2, .int (v2))]) [0, 1, 2] rfl ?_
        exact t_Mo_listByte_50 hG   h
      · rw [if_pos c16] at h
        refine z_iload_n 2 d_Mo_listByte_46 rfl rfl ?_
        refine z_if_ge (tgt := 64) d_Mo_listByte_47 rfl (fun c17 => ?_) (fun c17 => ?_)
        · rw [if_pos c17] at h
          refine z_aload_n 0 d_Mo_listByte_64 rfl rfl ?_
          refine z_iload_n 2 d_Mo_listByte_65 rfl rfl ?_
          replace h := Option.bind_eq_some_iff.mp h; obtain ⟨σ18, e19, h⟩ := h
          refine z_put wP_NumberOfficeModel_217_14 (fun q => by cases q) d_Mo_listByte_66 rfl rfl e19 ?_
          refine z_aload_n 0 d_Mo_listByte_69 rfl rfl ?_
          refine z_iconst (v := 0) d_Mo_listByte_70 rfl ?_
          replace h := Option.bind_eq_some_iff.mp h; obtain ⟨σ20, e21, h⟩ := h
          refine z_put wP_NumberOfficeModel_214_14 (fun q => by cases q) d_Mo_listByte_71 rfl rfl e21 ?_
          refine z_aload_n 0 d_Mo_listByte_74 rfl rfl ?_
          refine z_iconst (v := (-1)) d_Mo_listByte_75 rfl ?_
          replace h := Option.bind_eq_some_iff.mp h; obtain ⟨σ22, e23, h⟩ := h
          refine z_put wP_NumberOfficeModel_220_14 (fun q => by cases q) d_Mo_listByte_76 rfl rfl e23 ?_
          refine z_iconst (v := 1) d_Mo_listByte_79 rfl ?_
          refine z_istore_n (j := 3) (lv' := [(3, .int (1)), (0, .ref (v0)), (1, .int (v1)), (2, .int (v2))]) d_Mo_listByte_80 rfl (by decide) rfl ?_
          refine z_lv (lv' := [(0, .ref (v0)), (1, .int (v1)), (2, .int (v2)), (3, .int (1))]) [1, 2, 3, 0] rfl ?_
          exact t_Mo_listByte_81 hG   zfuel h
        · rw [if_neg c17] at h
          refine z_lv (lv' := [(0, .ref (v0)), (1, .int (v1)), (2, .int (v2))]) [0, 1, 2] rfl ?_
          exact t_Mo_listByte_50 hG   h
set_option maxRecDepth 100000 in
theorem t_Mo_listByte {l : Launch} {D : zD} {g : zG} (hG : zGok g D) {v0 : Nat} {v1 : Int32} {v2 : Int32} {σ : zS} {q : Int32 × zS} (h : s_Mo_listByte g v0 v1 v2 σ = some q) : zMet l D Y_Mo_listByte K_Mo_listByte 3 69 [.ref (v0), .int (v1), .int (v2)] σ (.returned (some (.int q.1)), q.2) := by
  refine zMet.ofZ (by decide) rfl (fun q => by cases q) (Nat.le_of_ble_eq_true rfl) ?_
  show Z _ _ _ _ _ _ 0 [(0, .ref (v0)), (1, .int (v1)), (2, .int (v2))] [] _
  unfold s_Mo_listByte at h
  refine z_aload_n 0 d_Mo_listByte_0 rfl rfl ?_
  refine z_aload_n 0 d_Mo_listByte_1 rfl rfl ?_
  replace h := Option.bind_eq_some_iff.mp h; obtain ⟨x1, e2, h⟩ := h
  refine z_getR wF_NumberOfficeModel_7_14 d_Mo_listByte_2 e2 ?_
  refine z_aload_n 0 d_Mo_listByte_5 rfl rfl ?_
  replace h := Option.bind_eq_some_iff.mp h; obtain ⟨x3, e4, h⟩ := h
  refine z_getI wF_NumberOfficeModel_116_14 d_Mo_listByte_6 e4 ?_
  replace h := Option.bind_eq_some_iff.mp h; obtain ⟨a5, rfl, h⟩ := h
  replace h := Option.bind_eq_some_iff.mp h; obtain ⟨x6, e7, h⟩ := h
  refine z_zaload rfl d_Mo_listByte_9 e7 ?_
  refine z_if_eq (tgt := 17) d_Mo_listByte_10 rfl (fun c8 => ?_) (fun c8 => ?_)
  · rw [if_pos c8] at h
    refine z_iconst (v := 0) d_Mo_listByte_17 rfl ?_
    refine z_lv (lv' := [(0, .ref (v0)), (1, .int (v1)), (2, .int (v2))]) [0, 1, 2] rfl ?_
    exact t_Mo_listByte_18 hG   h
  · rw [if_neg c8] at h
    refine z_iconst (v := 1) d_Mo_listByte_13 rfl ?_
    refine z_goto (tgt := 18) d_Mo_listByte_14 rfl ?_
    refine z_lv (lv' := [(0, .ref (v0)), (1, .int (v1)), (2, .int (v2))]) [0, 1, 2] rfl ?_
    exact t_Mo_listByte_18 hG   h

def s_Mo_sendLatest (g : zG) (v0 : Nat) (v1 : Int32) (σ : zS) : Option (zS) := (zis σ v0 14).bind fun _ => (s_Mo_safe g v0 v1 σ).bind fun σ1 => (zgR σ1 v0 14 16).bind fun x4 => (x4).bind fun a6 => (zaI σ1 a6 0 (v1)).bind fun x7 => (zgR σ1 v0 14 15).bind fun x9 => (x9).bind fun a11 => (zaI σ1 a11 0 (v1)).bind fun x12 => (zgR σ1 v0 14 17).bind fun x14 => (x14).bind fun a16 => (zaI σ1 a16 0 (v1)).bind fun x17 => (zgR σ1 v0 14 18).bind fun x19 => (x19).bind fun a21 => (zaI σ1 a21 0 (v1)).bind fun x22 => (zgR σ1 v0 14 7).bind fun x24 => (zgR σ1 v0 14 17).bind fun x26 => (x26).bind fun a28 => (zaI σ1 a28 0 (v1)).bind fun x29 => (x24).bind fun a31 => (zaI σ1 a31 0 ((3 * v1) + x29)).bind fun x32 => (zis σ1 v0 14).bind fun _ => (s_Mo_send g v0 x7 v1 x12 x17 x22 x32 0 σ1).bind fun σ34 => some σ34
set_option maxRecDepth 100000 in
theorem t_Mo_sendLatest {l : Launch} {D : zD} {g : zG} (hG : zGok g D) {v0 : Nat} {v1 : Int32} {σ : zS} {q : zS} (h : s_Mo_sendLatest g v0 v1 σ = some q) : zMet l D Y_Mo_sendLatest K_Mo_sendLatest 3 67 [.ref (v0), .int (v1)] σ (.returned none, q) := by
  refine zMet.ofZ (by decide) rfl (fun q => by cases q) (Nat.le_of_ble_eq_true rfl) ?_
  show Z _ _ _ _ _ _ 0 [(0, .ref (v0)), (1, .int (v1))] [] _
  unfold s_Mo_sendLatest at h
  refine z_aload_n 0 d_Mo_sendLatest_0 rfl rfl ?_
  refine z_iload_n 1 d_Mo_sendLatest_1 rfl rfl ?_
  replace h := Option.bind_eq_some_iff.mp h; obtain ⟨_, e40, h⟩ := h
  obtain ⟨b41, f42, e40⟩ := zcls_at (zis_at e40)
  replace h := Option.bind_eq_some_iff.mp h; obtain ⟨σ1, e2, h⟩ := h
  refine z_callV (av := [.int (v1)]) (st := []) wV_NumberOfficeModel_136 e40 (t_Mo_safe hG e2) (by decide) (by decide) d_Mo_sendLatest_2 (by simp [z_rfc, z_ci, z_cl, z_cr, z_cn]) ?_
  show Z _ _ _ _ _ _ 5 [(0, .ref (v0)), (1, .int (v1))] [] _
  refine z_aload_n 0 d_Mo_sendLatest_5 rfl rfl ?_
  refine z_aload_n 0 d_Mo_sendLatest_6 rfl rfl ?_
  replace h := Option.bind_eq_some_iff.mp h; obtain ⟨x4, e5, h⟩ := h
  refine z_getR wF_NumberOfficeModel_56_14 d_Mo_sendLatest_7 e5 ?_
  refine z_iload_n 1 d_Mo_sendLatest_10 rfl rfl ?_
  replace h := Option.bind_eq_some_iff.mp h; obtain ⟨a6, rfl, h⟩ := h
  replace h := Option.bind_eq_some_iff.mp h; obtain ⟨x7, e8, h⟩ := h
  refine z_iaload rfl d_Mo_sendLatest_11 e8 ?_
  refine z_iload_n 1 d_Mo_sendLatest_12 rfl rfl ?_
  refine z_aload_n 0 d_Mo_sendLatest_13 rfl rfl ?_
  replace h := Option.bind_eq_some_iff.mp h; obtain ⟨x9, e10, h⟩ := h
  refine z_getR wF_NumberOfficeModel_53_14 d_Mo_sendLatest_14 e10 ?_
  refine z_iload_n 1 d_Mo_sendLatest_17 rfl rfl ?_
  replace h := Option.bind_eq_some_iff.mp h; obtain ⟨a11, rfl, h⟩ := h
  replace h := Option.bind_eq_some_iff.mp h; obtain ⟨x12, e13, h⟩ := h
  refine z_iaload rfl d_Mo_sendLatest_18 e13 ?_
  refine z_aload_n 0 d_Mo_sendLatest_19 rfl rfl ?_
  replace h := Option.bind_eq_some_iff.mp h; obtain ⟨x14, e15, h⟩ := h
  refine z_getR wF_NumberOfficeModel_59_14 d_Mo_sendLatest_20 e15 ?_
  refine z_iload_n 1 d_Mo_sendLatest_23 rfl rfl ?_
  replace h := Option.bind_eq_some_iff.mp h; obtain ⟨a16, rfl, h⟩ := h
  replace h := Option.bind_eq_some_iff.mp h; obtain ⟨x17, e18, h⟩ := h
  refine z_iaload rfl d_Mo_sendLatest_24 e18 ?_
  refine z_aload_n 0 d_Mo_sendLatest_25 rfl rfl ?_
  replace h := Option.bind_eq_some_iff.mp h; obtain ⟨x19, e20, h⟩ := h
  refine z_getR wF_NumberOfficeModel_62_14 d_Mo_sendLatest_26 e20 ?_
  refine z_iload_n 1 d_Mo_sendLatest_29 rfl rfl ?_
  replace h := Option.bind_eq_some_iff.mp h; obtain ⟨a21, rfl, h⟩ := h
  replace h := Option.bind_eq_some_iff.mp h; obtain ⟨x22, e23, h⟩ := h
  refine z_iaload rfl d_Mo_sendLatest_30 e23 ?_
  refine z_aload_n 0 d_Mo_sendLatest_31 rfl rfl ?_
  replace h := Option.bind_eq_some_iff.mp h; obtain ⟨x24, e25, h⟩ := h
  refine z_getR wF_NumberOfficeModel_26_14 d_Mo_sendLatest_32 e25 ?_
  refine z_iconst (v := 3) d_Mo_sendLatest_35 rfl ?_
  refine z_iload_n 1 d_Mo_sendLatest_36 rfl rfl ?_
  refine z_imul d_Mo_sendLatest_37 ?_
  refine z_aload_n 0 d_Mo_sendLatest_38 rfl rfl ?_
  replace h := Option.bind_eq_some_iff.mp h; obtain ⟨x26, e27, h⟩ := h
  refine z_getR wF_NumberOfficeModel_59_14 d_Mo_sendLatest_39 e27 ?_
  refine z_iload_n 1 d_Mo_sendLatest_42 rfl rfl ?_
  replace h := Option.bind_eq_some_iff.mp h; obtain ⟨a28, rfl, h⟩ := h
  replace h := Option.bind_eq_some_iff.mp h; obtain ⟨x29, e30, h⟩ := h
  refine z_iaload rfl d_Mo_sendLatest_43 e30 ?_
  refine z_iadd d_Mo_sendLatest_44 ?_
  replace h := Option.bind_eq_some_iff.mp h; obtain ⟨a31, rfl, h⟩ := h
  replace h := Option.bind_eq_some_iff.mp h; obtain ⟨x32, e33, h⟩ := h
  refine z_iaload rfl d_Mo_sendLatest_45 e33 ?_
  refine z_iconst (v := 0) d_Mo_sendLatest_46 rfl ?_
  replace h := Option.bind_eq_some_iff.mp h; obtain ⟨_, e37, h⟩ := h
  obtain ⟨b38, f39, e37⟩ := zcls_at (zis_at e37)
  replace h := Option.bind_eq_some_iff.mp h; obtain ⟨σ34, e35, h⟩ := h
  refine z_callV (av := [.int (x7), .int (v1), .int (x12), .int (x17), .int (x22), .int (x32), .int (0)]) (st := []) wV_NumberOfficeModel_140 e37 (t_Mo_send hG e35) (by decide) (by decide) d_Mo_sendLatest_47 (by simp [z_rfc, z_ci, z_cl, z_cr, z_cn]) ?_
  show Z _ _ _ _ _ _ 50 [(0, .ref (v0)), (1, .int (v1))] [] _
  cases h
  exact z_vret rfl rfl d_Mo_sendLatest_50

def s_Mo_report_69 (g : zG)  (v0 : Nat) (v1 : Int32) (v2 : Int32) (w0 : Int32) (σ : zS) : Option (Int32 × zS) := some (w0, σ)
def s_Mo_report_56 (g : zG)  (v0 : Nat) (v1 : Int32) (v2 : Int32) (σ : zS) : Option (Int32 × zS) := (zgI σ v0 14 0).bind fun x1 => if x1 = 1 then s_Mo_report_69 g  (v0) (v1) (v2) (0) σ else s_Mo_report_69 g  (v0) (v1) (v2) ((-1)) σ
def s_Mo_report_133 (g : zG)  (v0 : Nat) (v1 : Int32) (v2 : Int32) (v3 : Int32) (w0 : Int32) (w1 : Int32) (w2 : Option Nat) (σ : zS) : Option (Int32 × zS) := (w2).bind fun a1 => (zsI σ a1 0 (w1) (w0)).bind fun σ2 => (zgR σ2 v0 14 19).bind fun x4 => (x4).bind fun a6 => (zsI σ2 a6 3 (v1) (vp_nar .boolean 1)).bind fun σ7 => (zis σ7 v0 14).bind fun _ => (s_Mo_sendLatest g v0 v1 σ7).bind fun σ9 => (zgR σ9 v0 14 15).bind fun x12 => (x12).bind fun a14 => (zaI σ9 a14 0 (v1)).bind fun x15 => some (x15, σ9)
def s_Mo_report (g : zG) (v0 : Nat) (v1 : Int32) (v2 : Int32) (σ : zS) : Option (Int32 × zS) := (zis σ v0 14).bind fun _ => (s_Mo_there g v0 v1 σ).bind fun (x3, σ1) => if x3 = 0 then s_Mo_report_56 g  (v0) (v1) (v2) σ1 else (s_Mo_isSeries g v2 σ1).bind fun (x7, σ5) => if x7 = 0 then s_Mo_report_56 g  (v0) (v1) (v2) σ5 else (zgR σ5 v0 14 19).bind fun x9 => (x9).bind fun a11 => (zaI σ5 a11 3 (v1)).bind fun x12 => if x12 = 0 then (zgR σ5 v0 14 20).bind fun x15 => (x15).bind fun a17 => (zaI σ5 a17 3 (v1)).bind fun x18 => if x18 = 0 then (zgR σ5 v0 14 7).bind fun x21 => (x21).bind fun a23 => (zaI σ5 a23 0 ((3 * v1) + v2)).bind fun x24 => (zgR σ5 v0 14 6).bind fun x26 => (x26).bind fun a28 => (zaI σ5 a28 0 ((3 * v1) + v2)).bind fun x29 => if x24 = x29 then s_Mo_report_56 g  (v0) (v1) (v2) σ5 else (zgR σ5 v0 14 6).bind fun x32 => (x32).bind fun a34 => (zaI σ5 a34 0 ((3 * v1) + v2)).bind fun x35 => (zgR σ5 v0 14 7).bind fun x37 => (x37).bind fun a39 => (zaI σ5 a39 0 ((3 * v1) + v2)).bind fun x40 => (zgR σ5 v0 14 15).bind fun x42 => (x42).bind fun a44 => (zaI σ5 a44 0 (v1)).bind fun x45 => (zsI σ5 a44 0 (v1) (x45 + 1)).bind fun σ47 => (zgR σ47 v0 14 16).bind fun x49 => (x49).bind fun a51 => (zsI σ47 a51 0 (v1) (2)).bind fun σ52 => (zgR σ52 v0 14 17).bind fun x54 => (x54).bind fun a56 => (zsI σ52 a56 0 (v1) (v2)).bind fun σ57 => (zgR σ57 v0 14 18).bind fun x59 => if 30 ≤ (x35 - x40) then s_Mo_report_133 g  (v0) (v1) (v2) (x35 - x40) (30) (v1) (x59) σ57 else s_Mo_report_133 g  (v0) (v1) (v2) (x35 - x40) (x35 - x40) (v1) (x59) σ57 else s_Mo_report_56 g  (v0) (v1) (v2) σ5 else s_Mo_report_56 g  (v0) (v1) (v2) σ5
set_option maxRecDepth 100000 in
theorem t_Mo_report_69 {l : Launch} {D : zD} {g : zG} (hG : zGok g D) {q : Int32 × zS}   {v0 : Nat} {v1 : Int32} {v2 : Int32} {w0 : Int32} {σ : zS} (h : s_Mo_report_69 g  v0 v1 v2 w0 σ = some q) : Z l D K_Mo_report 4 88 (.returned (some (.int q.1)), q.2) 69 [(0, .ref (v0)), (1, .int (v1)), (2, .int (v2))] [.int (w0)] σ := by
  unfold s_Mo_report_69 at h
  cases h
  exact z_iret rfl rfl d_Mo_report_69
set_option maxRecDepth 100000 in
theorem t_Mo_report_56 {l : Launch} {D : zD} {g : zG} (hG : zGok g D) {q : Int32 × zS}   {v0 : Nat} {v1 : Int32} {v2 : Int32} {σ : zS} (h : s_Mo_report_56 g  v0 v1 v2 σ = some q) : Z l D K_Mo_report 4 88 (.returned (some (.int q.1)), q.2) 56 [(0, .ref (v0)), (1, .int (v1)), (2, .int (v2))] [] σ := by
  unfold s_Mo_report_56 at h
  refine z_aload_n 0 d_Mo_report_56 rfl rfl ?_
  replace h := Option.bind_eq_some_iff.mp h; obtain ⟨x1, e2, h⟩ := h
  refine z_getI wF_NumberOfficeModel_120_14 d_Mo_report_57 e2 ?_
  refine z_iconst (v := 1) d_Mo_report_60 rfl ?_
  refine z_icmp_ne (tgt := 68) d_Mo_report_61 rfl (fun c3 => ?_) (fun c3 => ?_)
  · rw [if_neg c3] at h
    refine z_iconst (v := (-1)) d_Mo_report_68 rfl ?_
    refine z_lv (lv' := [(0, .ref (v0)), (1, .int (v1)), (2, .int (v2))]) [0, 1, 2] rfl ?_
    exact t_Mo_report_69 hG   h
  · rw [if_pos c3] at h
    refine z_iconst (v := 0) d_Mo_report_64 rfl ?_
    refine z_goto (tgt := 69) d_Mo_report_65 rfl ?_
    refine z_lv (lv' := [(0, .ref (v0)), (1, .int (v1)), (2, .int (v2))]) [0, 1, 2] rfl ?_
    exact t_Mo_report_69 hG   h
set_option maxRecDepth 100000 in
theorem t_Mo_report_133 {l : Launch} {D : zD} {g : zG} (hG : zGok g D) {q : Int32 × zS}   {v0 : Nat} {v1 : Int32} {v2 : Int32} {v3 : Int32} {w0 : Int32} {w1 : Int32} {w2 : Option Nat} {σ : zS} (h : s_Mo_report_133 g  v0 v1 v2 v3 w0 w1 w2 σ = some q) : Z l D K_Mo_report 4 88 (.returned (some (.int q.1)), q.2) 133 [(0, .ref (v0)), (1, .int (v1)), (2, .int (v2)), (3, .int (v3))] [.int (w0), .int (w1), va_rf (w2)] σ := by
  unfold s_Mo_report_133 at h
  replace h := Option.bind_eq_some_iff.mp h; obtain ⟨a1, rfl, h⟩ := h
  replace h := Option.bind_eq_some_iff.mp h; obtain ⟨σ2, e3, h⟩ := h
  refine z_iastore rfl d_Mo_report_133 e3 ?_
  refine z_aload_n 0 d_Mo_report_134 rfl rfl ?_
  replace h := Option.bind_eq_some_iff.mp h; obtain ⟨x4, e5, h⟩ := h
  refine z_getR wF_NumberOfficeModel_65_14 d_Mo_report_135 e5 ?_
  refine z_iload_n 1 d_Mo_report_138 rfl rfl ?_
  refine z_iconst (v := 1) d_Mo_report_139 rfl ?_
  replace h := Option.bind_eq_some_iff.mp h; obtain ⟨a6, rfl, h⟩ := h
  replace h := Option.bind_eq_some_iff.mp h; obtain ⟨σ7, e8, h⟩ := h
  refine z_zastore rfl d_Mo_report_140 e8 ?_
  refine z_aload_n 0 d_Mo_report_141 rfl rfl ?_
  refine z_iload_n 1 d_Mo_report_142 rfl rfl ?_
  replace h := Option.bind_eq_some_iff.mp h; obtain ⟨_, e17, h⟩ := h
  obtain ⟨b18, f19, e17⟩ := zcls_at (zis_at e17)
  replace h := Option.bind_eq_some_iff.mp h; obtain ⟨σ9, e10, h⟩ := h
  refine z_callV (av := [.int (v1)]) (st := []) wV_NumberOfficeModel_173 e17 (t_Mo_sendLatest hG e10) (by decide) (by decide) d_Mo_report_143 (by simp [z_rfc, z_ci, z_cl, z_cr, z_cn]) ?_
  show Z _ _ _ _ _ _ 146 [(0, .ref (v0)), (1, .int (v1)), (2, .int (v2)), (3, .int (v3))] [] _
  refine z_aload_n 0 d_Mo_report_146 rfl rfl ?_
  replace h := Option.bind_eq_some_iff.mp h; obtain ⟨x12, e13, h⟩ := h
  refine z_getR wF_NumberOfficeModel_53_14 d_Mo_report_147 e13 ?_
  refine z_iload_n 1 d_Mo_report_150 rfl rfl ?_
  replace h := Option.bind_eq_some_iff.mp h; obtain ⟨a14, rfl, h⟩ := h
  replace h := Option.bind_eq_some_iff.mp h; obtain ⟨x15, e16, h⟩ := h
  refine z_iaload rfl d_Mo_report_151 e16 ?_
  cases h
  exact z_iret rfl rfl d_Mo_report_152
set_option maxRecDepth 100000 in
theorem t_Mo_report {l : Launch} {D : zD} {g : zG} (hG : zGok g D) {v0 : Nat} {v1 : Int32} {v2 : Int32} {σ : zS} {q : Int32 × zS} (h : s_Mo_report g v0 v1 v2 σ = some q) : zMet l D Y_Mo_report K_Mo_report 4 88 [.ref (v0), .int (v1), .int (v2)] σ (.returned (some (.int q.1)), q.2) := by
  refine zMet.ofZ (by decide) rfl (fun q => by cases q) (Nat.le_of_ble_eq_true rfl) ?_
  show Z _ _ _ _ _ _ 0 [(0, .ref (v0)), (1, .int (v1)), (2, .int (v2))] [] _
  unfold s_Mo_report at h
  refine z_aload_n 0 d_Mo_report_0 rfl rfl ?_
  refine z_iload_n 1 d_Mo_report_1 rfl rfl ?_
  replace h := Option.bind_eq_some_iff.mp h; obtain ⟨_, e62, h⟩ := h
  obtain ⟨b63, f64, e62⟩ := zcls_at (zis_at e62)
  replace h := Option.bind_eq_some_iff.mp h; obtain ⟨⟨x3, σ1⟩, e2, h⟩ := h
  dsimp only at h
  refine z_callV (av := [.int (v1)]) (st := []) wV_NumberOfficeModel_166 e62 (t_Mo_there hG e2) (by decide) (by decide) d_Mo_report_2 (by simp [z_rfc, z_ci, z_cl, z_cr, z_cn]) ?_
  show Z _ _ _ _ _ _ 5 [(0, .ref (v0)), (1, .int (v1)), (2, .int (v2))] [.int (x3)] _
  refine z_if_eq (tgt := 56) d_Mo_report_5 rfl (fun c4 => ?_) (fun c4 => ?_)
  · rw [if_pos c4] at h
    refine z_lv (lv' := [(0, .ref (v0)), (1, .int (v1)), (2, .int (v2))]) [0, 1, 2] rfl ?_
    exact t_Mo_report_56 hG   h
  · rw [if_neg c4] at h
    refine z_iload_n 2 d_Mo_report_8 rfl rfl ?_
    replace h := Option.bind_eq_some_iff.mp h; obtain ⟨⟨x7, σ5⟩, e6, h⟩ := h
    dsimp only at h
    refine z_callS (av := [.int (v2)]) (st := []) wS_NumberOfficeModel_144 (t_Mo_isSeries hG e6) (by decide) (by decide) d_Mo_report_9 (by simp [z_rfc, z_ci, z_cl, z_cr, z_cn]) ?_
    show Z _ _ _ _ _ _ 12 [(0, .ref (v0)), (1, .int (v1)), (2, .int (v2))] [.int (x7)] _
    refine z_if_eq (tgt := 56) d_Mo_report_12 rfl (fun c8 => ?_) (fun c8 => ?_)
    · rw [if_pos c8] at h
      refine z_lv (lv' := [(0, .ref (v0)), (1, .int (v1)), (2, .int (v2))]) [0, 1, 2] rfl ?_
      exact t_Mo_report_56 hG   h
    · rw [if_neg c8] at h
      refine z_aload_n 0 d_Mo_report_15 rfl rfl ?_
      replace h := Option.bind_eq_some_iff.mp h; obtain ⟨x9, e10, h⟩ := h
      refine z_getR wF_NumberOfficeModel_65_14 d_Mo_report_16 e10 ?_
      refine z_iload_n 1 d_Mo_report_19 rfl rfl ?_
      replace h := Option.bind_eq_some_iff.mp h; obtain ⟨a11, rfl, h⟩ := h
      replace h := Option.bind_eq_some_iff.mp h; obtain ⟨x12, e13, h⟩ := h
      refine z_zaload rfl d_Mo_report_20 e13 ?_
      refine z_if_ne (tgt := 56) d_Mo_report_21 rfl (fun c14 => ?_) (fun c14 => ?_)
      · rw [if_neg c14] at h
        refine z_lv (lv' := [(0, .ref (v0)), (1, .int (v1)), (2, .int (v2))]) [0, 1, 2] rfl ?_
        exact t_Mo_report_56 hG   h
      · rw [if_pos c14] at h
        refine z_aload_n 0 d_Mo_report_24 rfl rfl ?_
        replace h := Option.bind_eq_some_iff.mp h; obtain ⟨x15, e16, h⟩ := h
        refine z_getR wF_NumberOfficeModel_68_14 d_Mo_report_25 e16 ?_
        refine z_iload_n 1 d_Mo_report_28 rfl rfl ?_
        replace h := Option.bind_eq_some_iff.mp h; obtain ⟨a17, rfl, h⟩ := h
        replace h := Option.bind_eq_some_iff.mp h; obtain ⟨x18, e19, h⟩ := h
        refine z_zaload rfl d_Mo_report_29 e19 ?_
        refine z_if_ne (tgt := 56) d_Mo_report_30 rfl (fun c20 => ?_) (fun c20 => ?_)
        · rw [if_neg c20] at h
          refine z_lv (lv' := [(0, .ref (v0)), (1, .int (v1)), (2, .int (v2))]) [0, 1, 2] rfl ?_
          exact t_Mo_report_56 hG   h
        · rw [if_pos c20] at h
          refine z_aload_n 0 d_Mo_report_33 rfl rfl ?_
          replace h := Option.bind_eq_some_iff.mp h; obtain ⟨x21, e22, h⟩ := h
          refine z_getR wF_NumberOfficeModel_26_14 d_Mo_report_34 e22 ?_
          refine z_iconst (v := 3) d_Mo_report_37 rfl ?_
          refine z_iload_n 1 d_Mo_report_38 rfl rfl ?_
          refine z_imul d_Mo_report_39 ?_
          refine z_iload_n 2 d_Mo_report_40 rfl rfl ?_
          refine z_iadd d_Mo_report_41 ?_
          replace h := Option.bind_eq_some_iff.mp h; obtain ⟨a23, rfl, h⟩ := h
          replace h := Option.bind_eq_some_iff.mp h; obtain ⟨x24, e25, h⟩ := h
          refine z_iaload rfl d_Mo_report_42 e25 ?_
          refine z_aload_n 0 d_Mo_report_43 rfl rfl ?_
          replace h := Option.bind_eq_some_iff.mp h; obtain ⟨x26, e27, h⟩ := h
          refine z_getR wF_NumberOfficeModel_23_14 d_Mo_report_44 e27 ?_
          refine z_iconst (v := 3) d_Mo_report_47 rfl ?_
          refine z_iload_n 1 d_Mo_report_48 rfl rfl ?_
          refine z_imul d_Mo_report_49 ?_
          refine z_iload_n 2 d_Mo_report_50 rfl rfl ?_
          refine z_iadd d_Mo_report_51 ?_
          replace h := Option.bind_eq_some_iff.mp h; obtain ⟨a28, rfl, h⟩ := h
          replace h := Option.bind_eq_some_iff.mp h; obtain ⟨x29, e30, h⟩ := h
          refine z_iaload rfl d_Mo_report_52 e30 ?_
          refine z_icmp_ne (tgt := 70) d_Mo_report_53 rfl (fun c31 => ?_) (fun c31 => ?_)
          · rw [if_neg c31] at h
            refine z_aload_n 0 d_Mo_report_70 rfl rfl ?_
            replace h := Option.bind_eq_some_iff.mp h; obtain ⟨x32, e33, h⟩ := h
            refine z_getR wF_NumberOfficeModel_23_14 d_Mo_report_71 e33 ?_
            refine z_iconst (v := 3) d_Mo_report_74 rfl ?_
            refine z_iload_n 1 d_Mo_report_75 rfl rfl ?_
            refine z_imul d_Mo_report_76 ?_
            refine z_iload_n 2 d_Mo_report_77 rfl rfl ?_
            refine z_iadd d_Mo_report_78 ?_
            replace h := Option.bind_eq_some_iff.mp h; obtain ⟨a34, rfl, h⟩ := h
            replace h := Option.bind_eq_some_iff.mp h; obtain ⟨x35, e36, h⟩ := h
            refine z_iaload rfl d_Mo_report_79 e36 ?_
            refine z_aload_n 0 d_Mo_report_80 rfl rfl ?_
            replace h := Option.bind_eq_some_iff.mp h; obtain ⟨x37, e38, h⟩ := h
            refine z_getR wF_NumberOfficeModel_26_14 d_Mo_report_81 e38 ?_
            refine z_iconst (v := 3) d_Mo_report_84 rfl ?_
            refine z_iload_n 1 d_Mo_report_85 rfl rfl ?_
            refine z_imul d_Mo_report_86 ?_
            refine z_iload_n 2 d_Mo_report_87 rfl rfl ?_
            refine z_iadd d_Mo_report_88 ?_
            replace h := Option.bind_eq_some_iff.mp h; obtain ⟨a39, rfl, h⟩ := h
            replace h := Option.bind_eq_some_iff.mp h; obtain ⟨x40, e41, h⟩ := h
            refine z_iaload rfl d_Mo_report_89 e41 ?_
            refine z_isub d_Mo_report_90 ?_
            refine z_istore_n (j := 3) (lv' := [(3, .int (x35 - x40)), (0, .ref (v0)), (1, .int (v1)), (2, .int (v2))]) d_Mo_report_91 rfl (by decide) rfl ?_
            refine z_aload_n 1 d_Mo_report_92 rfl rfl ?_
            replace h := Option.bind_eq_some_iff.mp h; obtain ⟨x42, e43, h⟩ := h
            refine z_getR wF_NumberOfficeModel_53_14 d_Mo_report_93 e43 ?_
            refine z_iload_n 2 d_Mo_report_96 rfl rfl ?_
            refine z_dup2 d_Mo_report_97 rfl (z_rfc _) ?_
            replace h := Option.bind_eq_some_iff.mp h; obtain ⟨a44, rfl, h⟩ := h
            replace h := Option.bind_eq_some_iff.mp h; obtain ⟨x45, e46, h⟩ := h
            refine z_iaload rfl d_Mo_report_98 e46 ?_
            refine z_iconst (v := 1) d_Mo_report_99 rfl ?_
            refine z_iadd d_Mo_report_100 ?_
            replace h := Option.bind_eq_some_iff.mp h; obtain ⟨σ47, e48, h⟩ := h
            refine z_iastore rfl d_Mo_report_101 e48 ?_
            refine z_aload_n 1 d_Mo_report_102 rfl rfl ?_
            replace h := Option.bind_eq_some_iff.mp h; obtain ⟨x49, e50, h⟩ := h
            refine z_getR wF_NumberOfficeModel_56_14 d_Mo_report_103 e50 ?_
            refine z_iload_n 2 d_Mo_report_106 rfl rfl ?_
            refine z_iconst (v := 2) d_Mo_report_107 rfl ?_
            replace h := Option.bind_eq_some_iff.mp h; obtain ⟨a51, rfl, h⟩ := h
            replace h := Option.bind_eq_some_iff.mp h; obtain ⟨σ52, e53, h⟩ := h
            refine z_iastore rfl d_Mo_report_108 e53 ?_
            refine z_aload_n 1 d_Mo_report_109 rfl rfl ?_
            replace h := Option.bind_eq_some_iff.mp h; obtain ⟨x54, e55, h⟩ := h
            refine z_getR wF_NumberOfficeModel_59_14 d_Mo_report_110 e55 ?_
            refine z_iload_n 2 d_Mo_report_113 rfl rfl ?_
            refine z_iload_n 3 d_Mo_report_114 rfl rfl ?_
            replace h := Option.bind_eq_some_iff.mp h; obtain ⟨a56, rfl, h⟩ := h
            replace h := Option.bind_eq_some_iff.mp h; obtain ⟨σ57, e58, h⟩ := h
            refine z_iastore rfl d_Mo_report_115 e58 ?_
            refine z_aload_n 1 d_Mo_report_116 rfl rfl ?_
            replace h := Option.bind_eq_some_iff.mp h; obtain ⟨x59, e60, h⟩ := h
            refine z_getR wF_NumberOfficeModel_62_14 d_Mo_report_117 e60 ?_
            refine z_iload_n 2 d_Mo_report_120 rfl rfl ?_
            refine z_iload_n 0 d_Mo_report_121 rfl rfl ?_
            refine z_bipush (v := 30) d_Mo_report_122 rfl ?_
            refine z_icmp_ge (tgt := 131) d_Mo_report_124 rfl (fun c61 => ?_) (fun c61 => ?_)
            · rw [if_pos c61] at h
              refine z_bipush (v := 30) d_Mo_report_131 rfl ?_
              refine z_lv (lv' := [(0, .ref (v0)), (1, .int (v1)), (2, .int (v2)), (3, .int (x35 - x40))]) [1, 2, 3, 0] rfl ?_
              exact t_Mo_report_133 hG   h
            · rw [if_neg c61] at h
              refine z_iload_n 0 d_Mo_report_127 rfl rfl ?_
              refine z_goto (tgt := 133) d_Mo_report_128 rfl ?_
              refine z_lv (lv' := [(0, .ref (v0)), (1, .int (v1)), (2, .int (v2)), (3, .int (x35 - x40))]) [1, 2, 3, 0] rfl ?_
              exact t_Mo_report_133 hG   h
          · rw [if_pos c31] at h
            refine z_lv (lv' := [(0, .ref (v0)), (1, .int (v1)), (2, .int (v2))]) [0, 1, 2] rfl ?_
            exact t_Mo_report_56 hG   h

def s_Mo_again_31 (g : zG)  (v0 : Nat) (v1 : Int32) (σ : zS) : Option (Int32 × zS) := some (0, σ)
def s_Mo_again (g : zG) (v0 : Nat) (v1 : Int32) (σ : zS) : Option (Int32 × zS) := (zpF σ v0 14 0 (.int (0))).bind fun σ1 => (zis σ1 v0 14).bind fun _ => (s_Mo_isBranch g v0 v1 σ1).bind fun (x5, σ3) => if x5 = 0 then s_Mo_again_31 g  (v0) (v1) σ3 else (zgR σ3 v0 14 2).bind fun x7 => (x7).bind fun a9 => (zaI σ3 a9 3 (v1)).bind fun x10 => if x10 = 0 then (zgR σ3 v0 14 19).bind fun x13 => (x13).bind fun a15 => (zaI σ3 a15 3 (v1)).bind fun x16 => if x16 = 0 then s_Mo_again_31 g  (v0) (v1) σ3 else (zis σ3 v0 14).bind fun _ => (s_Mo_sendLatest g v0 v1 σ3).bind fun σ19 => some (1, σ19) else s_Mo_again_31 g  (v0) (v1) σ3
set_option maxRecDepth 100000 in
theorem t_Mo_again_31 {l : Launch} {D : zD} {g : zG} (hG : zGok g D) {q : Int32 × zS}   {v0 : Nat} {v1 : Int32} {σ : zS} (h : s_Mo_again_31 g  v0 v1 σ = some q) : Z l D K_Mo_again 4 88 (.returned (some (.int q.1)), q.2) 31 [(0, .ref (v0)), (1, .int (v1))] [] σ := by
  unfold s_Mo_again_31 at h
  refine z_iconst (v := 0) d_Mo_again_31 rfl ?_
  cases h
  exact z_zret rfl rfl rfl d_Mo_again_32
set_option maxRecDepth 100000 in
theorem t_Mo_again {l : Launch} {D : zD} {g : zG} (hG : zGok g D) {v0 : Nat} {v1 : Int32} {σ : zS} {q : Int32 × zS} (h : s_Mo_again g v0 v1 σ = some q) : zMet l D Y_Mo_again K_Mo_again 4 88 [.ref (v0), .int (v1)] σ (.returned (some (.int q.1)), q.2) := by
  refine zMet.ofZ (by decide) rfl (fun q => by cases q) (Nat.le_of_ble_eq_true rfl) ?_
  show Z _ _ _ _ _ _ 0 [(0, .ref (v0)), (1, .int (v1))] [] _
  unfold s_Mo_again at h
  refine z_aload_n 0 d_Mo_again_0 rfl rfl ?_
  refine z_iconst (v := 0) d_Mo_again_1 rfl ?_
  replace h := Option.bind_eq_some_iff.mp h; obtain ⟨σ1, e2, h⟩ := h
  refine z_put wP_NumberOfficeModel_120_14 (fun q => by cases q) d_Mo_again_2 rfl rfl e2 ?_
  refine z_aload_n 0 d_Mo_again_5 rfl rfl ?_
  refine z_iload_n 1 d_Mo_again_6 rfl rfl ?_
  replace h := Option.bind_eq_some_iff.mp h; obtain ⟨_, e25, h⟩ := h
  obtain ⟨b26, f27, e25⟩ := zcls_at (zis_at e25)
  replace h := Option.bind_eq_some_iff.mp h; obtain ⟨⟨x5, σ3⟩, e4, h⟩ := h
  dsimp only at h
  refine z_callV (av := [.int (v1)]) (st := []) wV_NumberOfficeModel_163 e25 (t_Mo_isBranch hG e4) (by decide) (by decide) d_Mo_again_7 (by simp [z_rfc, z_ci, z_cl, z_cr, z_cn]) ?_
  show Z _ _ _ _ _ _ 10 [(0, .ref (v0)), (1, .int (v1))] [.int (x5)] _
  refine z_if_eq (tgt := 31) d_Mo_again_10 rfl (fun c6 => ?_) (fun c6 => ?_)
  · rw [if_pos c6] at h
    refine z_lv (lv' := [(0, .ref (v0)), (1, .int (v1))]) [0, 1] rfl ?_
    exact t_Mo_again_31 hG   h
  · rw [if_neg c6] at h
    refine z_aload_n 0 d_Mo_again_13 rfl rfl ?_
    replace h := Option.bind_eq_some_iff.mp h; obtain ⟨x7, e8, h⟩ := h
    refine z_getR wF_NumberOfficeModel_7_14 d_Mo_again_14 e8 ?_
    refine z_iload_n 1 d_Mo_again_17 rfl rfl ?_
    replace h := Option.bind_eq_some_iff.mp h; obtain ⟨a9, rfl, h⟩ := h
    replace h := Option.bind_eq_some_iff.mp h; obtain ⟨x10, e11, h⟩ := h
    refine z_zaload rfl d_Mo_again_18 e11 ?_
    refine z_if_ne (tgt := 31) d_Mo_again_19 rfl (fun c12 => ?_) (fun c12 => ?_)
    · rw [if_neg c12] at h
      refine z_lv (lv' := [(0, .ref (v0)), (1, .int (v1))]) [0, 1] rfl ?_
      exact t_Mo_again_31 hG   h
    · rw [if_pos c12] at h
      refine z_aload_n 0 d_Mo_again_22 rfl rfl ?_
      replace h := Option.bind_eq_some_iff.mp h; obtain ⟨x13, e14, h⟩ := h
      refine z_getR wF_NumberOfficeModel_65_14 d_Mo_again_23 e14 ?_
      refine z_iload_n 1 d_Mo_again_26 rfl rfl ?_
      replace h := Option.bind_eq_some_iff.mp h; obtain ⟨a15, rfl, h⟩ := h
      replace h := Option.bind_eq_some_iff.mp h; obtain ⟨x16, e17, h⟩ := h
      refine z_zaload rfl d_Mo_again_27 e17 ?_
      refine z_if_ne (tgt := 33) d_Mo_again_28 rfl (fun c18 => ?_) (fun c18 => ?_)
      · rw [if_neg c18] at h
        refine z_aload_n 0 d_Mo_again_33 rfl rfl ?_
        refine z_iload_n 1 d_Mo_again_34 rfl rfl ?_
        replace h := Option.bind_eq_some_iff.mp h; obtain ⟨_, e22, h⟩ := h
        obtain ⟨b23, f24, e22⟩ := zcls_at (zis_at e22)
        replace h := Option.bind_eq_some_iff.mp h; obtain ⟨σ19, e20, h⟩ := h
        refine z_callV (av := [.int (v1)]) (st := []) wV_NumberOfficeModel_173 e22 (t_Mo_sendLatest hG e20) (by decide) (by decide) d_Mo_again_35 (by simp [z_rfc, z_ci, z_cl, z_cr, z_cn]) ?_
        show Z _ _ _ _ _ _ 38 [(0, .ref (v0)), (1, .int (v1))] [] _
        refine z_iconst (v := 1) d_Mo_again_38 rfl ?_
        cases h
        exact z_zret rfl rfl rfl d_Mo_again_39
      · rw [if_pos c18] at h
        refine z_lv (lv' := [(0, .ref (v0)), (1, .int (v1))]) [0, 1] rfl ?_
        exact t_Mo_again_31 hG   h

def s_Mo_deliver_128 (g : zG)  (v0 : Nat) (v1 : Int32) (v2 : Int32) (σ : zS) : Option (Int32 × zS) := some (1, σ)
def s_Mo_deliver_17 (g : zG)  : Nat → Nat → Int32 → Int32 → zS → Option (Int32 × zS)
  | 0, _, _, _, _ => none
  | n + 1, v0, v1, v2, σ => if 8 ≤ v2 then (zis σ v0 14).bind fun _ => (s_Mo_remove g v0 v1 σ).bind fun σ2 => (zgR σ2 v0 14 36).bind fun x5 => (x5).bind fun a7 => (zaI σ2 a7 0 (0)).bind fun x8 => if x8 = 3 then (zgR σ2 v0 14 2).bind fun x25 => (zgR σ2 v0 14 36).bind fun x27 => (x27).bind fun a29 => (zaI σ2 a29 0 (1)).bind fun x30 => (x25).bind fun a32 => (zaI σ2 a32 3 (x30)).bind fun x33 => if x33 = 0 then (zgR σ2 v0 14 36).bind fun x36 => (x36).bind fun a38 => (zaI σ2 a38 0 (1)).bind fun x39 => (zgR σ2 v0 14 36).bind fun x41 => (x41).bind fun a43 => (zaI σ2 a43 0 (2)).bind fun x44 => (zgR σ2 v0 14 36).bind fun x46 => (x46).bind fun a48 => (zaI σ2 a48 0 (3)).bind fun x49 => (zgR σ2 v0 14 36).bind fun x51 => (x51).bind fun a53 => (zaI σ2 a53 0 (4)).bind fun x54 => (zgR σ2 v0 14 36).bind fun x56 => (x56).bind fun a58 => (zaI σ2 a58 0 (5)).bind fun x59 => (zis σ2 v0 14).bind fun _ => (s_Mo_answered g v0 x39 x44 x49 x54 x59 σ2).bind fun σ61 => s_Mo_deliver_128 g  (v0) (v1) (v2) σ61 else s_Mo_deliver_128 g  (v0) (v1) (v2) σ2 else (zgR σ2 v0 14 2).bind fun x11 => (zgI σ2 v0 14 1).bind fun x13 => (x11).bind fun a15 => (zaI σ2 a15 3 (x13)).bind fun x16 => if x16 = 0 then (zis σ2 v0 14).bind fun _ => (s_Mo_comes g v0  σ2).bind fun σ19 => s_Mo_deliver_128 g  (v0) (v1) (v2) σ19 else s_Mo_deliver_128 g  (v0) (v1) (v2) σ2 else (zgR σ v0 14 36).bind fun x70 => (zgR σ v0 14 35).bind fun x72 => (x72).bind fun a74 => (zaI σ a74 0 ((8 * v1) + v2)).bind fun x75 => (x70).bind fun a77 => (zsI σ a77 0 (v2) (x75)).bind fun σ78 => s_Mo_deliver_17 g  n (v0) (v1) (v2 + 1) σ78
def s_Mo_deliver (g : zG) (v0 : Nat) (v1 : Int32) (σ : zS) : Option (Int32 × zS) := (zpF σ v0 14 0 (.int (0))).bind fun σ1 => (zis σ1 v0 14).bind fun _ => (s_Mo_isLetter g v0 v1 σ1).bind fun (x5, σ3) => if x5 = 0 then some (0, σ3) else s_Mo_deliver_17 g  zfuel (v0) (v1) (0) σ3
set_option maxRecDepth 100000 in
theorem t_Mo_deliver_128 {l : Launch} {D : zD} {g : zG} (hG : zGok g D) {q : Int32 × zS}   {v0 : Nat} {v1 : Int32} {v2 : Int32} {σ : zS} (h : s_Mo_deliver_128 g  v0 v1 v2 σ = some q) : Z l D K_Mo_deliver 4 89 (.returned (some (.int q.1)), q.2) 128 [(0, .ref (v0)), (1, .int (v1)), (2, .int (v2))] [] σ := by
  unfold s_Mo_deliver_128 at h
  refine z_iconst (v := 1) d_Mo_deliver_128 rfl ?_
  cases h
  exact z_zret rfl rfl rfl d_Mo_deliver_129
set_option maxRecDepth 100000 in
theorem t_Mo_deliver_17 {l : Launch} {D : zD} {g : zG} (hG : zGok g D) {q : Int32 × zS}   : ∀ (n : Nat) {v0 : Nat} {v1 : Int32} {v2 : Int32} {σ : zS}, s_Mo_deliver_17 g  n v0 v1 v2 σ = some q → Z l D K_Mo_deliver 4 89 (.returned (some (.int q.1)), q.2) 17 [(0, .ref (v0)), (1, .int (v1)), (2, .int (v2))] [] σ := by
  intro n
  induction n with
  | zero =>
    intro v0 v1 v2 σ h
    cases h
  | succ n ih =>
    intro v0 v1 v2 σ h
    first | rw [s_Mo_deliver_17] at h | (unfold s_Mo_deliver_17 at h; dsimp only at h)
    refine z_iload_n 2 d_Mo_deliver_17 rfl rfl ?_
    refine z_bipush (v := 8) d_Mo_deliver_18 rfl ?_
    refine z_icmp_ge (tgt := 46) d_Mo_deliver_20 rfl (fun c1 => ?_) (fun c1 => ?_)
    · rw [if_pos c1] at h
      refine z_aload_n 0 d_Mo_deliver_46 rfl rfl ?_
      refine z_iload_n 1 d_Mo_deliver_47 rfl rfl ?_
      replace h := Option.bind_eq_some_iff.mp h; obtain ⟨_, e67, h⟩ := h
      obtain ⟨b68, f69, e67⟩ := zcls_at (zis_at e67)
      replace h := Option.bind_eq_some_iff.mp h; obtain ⟨σ2, e3, h⟩ := h
      refine z_callV (av := [.int (v1)]) (st := []) wV_NumberOfficeModel_195 e67 (t_Mo_remove hG e3) (by decide) (by decide) d_Mo_deliver_48 (by simp [z_rfc, z_ci, z_cl, z_cr, z_cn]) ?_
      show Z _ _ _ _ _ _ 51 [(0, .ref (v0)), (1, .int (v1)), (2, .int (v2))] [] _
      refine z_aload_n 0 d_Mo_deliver_51 rfl rfl ?_
      replace h := Option.bind_eq_some_iff.mp h; obtain ⟨x5, e6, h⟩ := h
      refine z_getR wF_NumberOfficeModel_113_14 d_Mo_deliver_52 e6 ?_
      refine z_iconst (v := 0) d_Mo_deliver_55 rfl ?_
      replace h := Option.bind_eq_some_iff.mp h; obtain ⟨a7, rfl, h⟩ := h
      replace h := Option.bind_eq_some_iff.mp h; obtain ⟨x8, e9, h⟩ := h
      refine z_iaload rfl d_Mo_deliver_56 e9 ?_
      refine z_iconst (v := 3) d_Mo_deliver_57 rfl ?_
      refine z_icmp_ne (tgt := 112) d_Mo_deliver_58 rfl (fun c10 => ?_) (fun c10 => ?_)
      · rw [if_neg c10] at h
        refine z_aload_n 0 d_Mo_deliver_112 rfl rfl ?_
        replace h := Option.bind_eq_some_iff.mp h; obtain ⟨x11, e12, h⟩ := h
        refine z_getR wF_NumberOfficeModel_7_14 d_Mo_deliver_113 e12 ?_
        refine z_aload_n 0 d_Mo_deliver_116 rfl rfl ?_
        replace h := Option.bind_eq_some_iff.mp h; obtain ⟨x13, e14, h⟩ := h
        refine z_getI wF_NumberOfficeModel_116_14 d_Mo_deliver_117 e14 ?_
        replace h := Option.bind_eq_some_iff.mp h; obtain ⟨a15, rfl, h⟩ := h
        replace h := Option.bind_eq_some_iff.mp h; obtain ⟨x16, e17, h⟩ := h
        refine z_zaload rfl d_Mo_deliver_120 e17 ?_
        refine z_if_ne (tgt := 128) d_Mo_deliver_121 rfl (fun c18 => ?_) (fun c18 => ?_)
        · rw [if_neg c18] at h
          refine z_lv (lv' := [(0, .ref (v0)), (1, .int (v1)), (2, .int (v2))]) [0, 1, 2] rfl ?_
          exact t_Mo_deliver_128 hG   h
        · rw [if_pos c18] at h
          refine z_aload_n 0 d_Mo_deliver_124 rfl rfl ?_
          replace h := Option.bind_eq_some_iff.mp h; obtain ⟨_, e22, h⟩ := h
          obtain ⟨b23, f24, e22⟩ := zcls_at (zis_at e22)
          replace h := Option.bind_eq_some_iff.mp h; obtain ⟨σ19, e20, h⟩ := h
          refine z_callV (av := []) (st := []) wV_NumberOfficeModel_202 e22 (t_Mo_comes hG e20) (by decide) (by decide) d_Mo_deliver_125 (by simp [z_rfc, z_ci, z_cl, z_cr, z_cn]) ?_
          show Z _ _ _ _ _ _ 128 [(0, .ref (v0)), (1, .int (v1)), (2, .int (v2))] [] _
          refine z_lv (lv' := [(0, .ref (v0)), (1, .int (v1)), (2, .int (v2))]) [0, 1, 2] rfl ?_
          exact t_Mo_deliver_128 hG   h
      · rw [if_pos c10] at h
        refine z_aload_n 0 d_Mo_deliver_61 rfl rfl ?_
        replace h := Option.bind_eq_some_iff.mp h; obtain ⟨x25, e26, h⟩ := h
        refine z_getR wF_NumberOfficeModel_7_14 d_Mo_deliver_62 e26 ?_
        refine z_aload_n 0 d_Mo_deliver_65 rfl rfl ?_
        replace h := Option.bind_eq_some_iff.mp h; obtain ⟨x27, e28, h⟩ := h
        refine z_getR wF_NumberOfficeModel_113_14 d_Mo_deliver_66 e28 ?_
        refine z_iconst (v := 1) d_Mo_deliver_69 rfl ?_
        replace h := Option.bind_eq_some_iff.mp h; obtain ⟨a29, rfl, h⟩ := h
        replace h := Option.bind_eq_some_iff.mp h; obtain ⟨x30, e31, h⟩ := h
        refine z_iaload rfl d_Mo_deliver_70 e31 ?_
        replace h := Option.bind_eq_some_iff.mp h; obtain ⟨a32, rfl, h⟩ := h
        replace h := Option.bind_eq_some_iff.mp h; obtain ⟨x33, e34, h⟩ := h
        refine z_zaload rfl d_Mo_deliver_71 e34 ?_
        refine z_if_ne (tgt := 128) d_Mo_deliver_72 rfl (fun c35 => ?_) (fun c35 => ?_)
        · rw [if_neg c35] at h
          refine z_lv (lv' := [(0, .ref (v0)), (1, .int (v1)), (2, .int (v2))]) [0, 1, 2] rfl ?_
          exact t_Mo_deliver_128 hG   h
        · rw [if_pos c35] at h
          refine z_aload_n 0 d_Mo_deliver_75 rfl rfl ?_
          refine z_aload_n 0 d_Mo_deliver_76 rfl rfl ?_
          replace h := Option.bind_eq_some_iff.mp h; obtain ⟨x36, e37, h⟩ := h
          refine z_getR wF_NumberOfficeModel_113_14 d_Mo_deliver_77 e37 ?_
          refine z_iconst (v := 1) d_Mo_deliver_80 rfl ?_
          replace h := Option.bind_eq_some_iff.mp h; obtain ⟨a38, rfl, h⟩ := h
          replace h := Option.bind_eq_some_iff.mp h; obtain ⟨x39, e40, h⟩ := h
          refine z_iaload rfl d_Mo_deliver_81 e40 ?_
          refine z_aload_n 0 d_Mo_deliver_82 rfl rfl ?_
          replace h := Option.bind_eq_some_iff.mp h; obtain ⟨x41, e42, h⟩ := h
          refine z_getR wF_NumberOfficeModel_113_14 d_Mo_deliver_83 e42 ?_
          refine z_iconst (v := 2) d_Mo_deliver_86 rfl ?_
          replace h := Option.bind_eq_some_iff.mp h; obtain ⟨a43, rfl, h⟩ := h
          replace h := Option.bind_eq_some_iff.mp h; obtain ⟨x44, e45, h⟩ := h
          refine z_iaload rfl d_Mo_deliver_87 e45 ?_
          refine z_aload_n 0 d_Mo_deliver_88 rfl rfl ?_
          replace h := Option.bind_eq_some_iff.mp h; obtain ⟨x46, e47, h⟩ := h
          refine z_getR wF_NumberOfficeModel_113_14 d_Mo_deliver_89 e47 ?_
          refine z_iconst (v := 3) d_Mo_deliver_92 rfl ?_
          replace h := Option.bind_eq_some_iff.mp h; obtain ⟨a48, rfl, h⟩ := h
          replace h := Option.bind_eq_some_iff.mp h; obtain ⟨x49, e50, h⟩ := h
          refine z_iaload rfl d_Mo_deliver_93 e50 ?_
          refine z_aload_n 0 d_Mo_deliver_94 rfl rfl ?_
          replace h := Option.bind_eq_some_iff.mp h; obtain ⟨x51, e52, h⟩ := h
          refine z_getR wF_NumberOfficeModel_113_14 d_Mo_deliver_95 e52 ?_
          refine z_iconst (v := 4) d_Mo_deliver_98 rfl ?_
          replace h := Option.bind_eq_some_iff.mp h; obtain ⟨a53, rfl, h⟩ := h
          replace h := Option.bind_eq_some_iff.mp h; obtain ⟨x54, e55, h⟩ := h
          refine z_iaload rfl d_Mo_deliver_99 e55 ?_
          refine z_aload_n 0 d_Mo_deliver_100 rfl rfl ?_
          replace h := Option.bind_eq_some_iff.mp h; obtain ⟨x56, e57, h⟩ := h
          refine z_getR wF_NumberOfficeModel_113_14 d_Mo_deliver_101 e57 ?_
          refine z_iconst (v := 5) d_Mo_deliver_104 rfl ?_
          replace h := Option.bind_eq_some_iff.mp h; obtain ⟨a58, rfl, h⟩ := h
          replace h := Option.bind_eq_some_iff.mp h; obtain ⟨x59, e60, h⟩ := h
          refine z_iaload rfl d_Mo_deliver_105 e60 ?_
          replace h := Option.bind_eq_some_iff.mp h; obtain ⟨_, e64, h⟩ := h
          obtain ⟨b65, f66, e64⟩ := zcls_at (zis_at e64)
          replace h := Option.bind_eq_some_iff.mp h; obtain ⟨σ61, e62, h⟩ := h
          refine z_callV (av := [.int (x39), .int (x44), .int (x49), .int (x54), .int (x59)]) (st := []) wV_NumberOfficeModel_198 e64 (t_Mo_answered hG e62) (by decide) (by decide) d_Mo_deliver_106 (by simp [z_rfc, z_ci, z_cl, z_cr, z_cn]) ?_
          show Z _ _ _ _ _ _ 109 [(0, .ref (v0)), (1, .int (v1)), (2, .int (v2))] [] _
          refine z_goto (tgt := 128) d_Mo_deliver_109 rfl ?_
          refine z_lv (lv' := [(0, .ref (v0)), (1, .int (v1)), (2, .int (v2))]) [0, 1, 2] rfl ?_
          exact t_Mo_deliver_128 hG   h
    · rw [if_neg c1] at h
      refine z_aload_n 0 d_Mo_deliver_23 rfl rfl ?_
      replace h := Option.bind_eq_some_iff.mp h; obtain ⟨x70, e71, h⟩ := h
      refine z_getR wF_NumberOfficeModel_113_14 d_Mo_deliver_24 e71 ?_
      refine z_iload_n 2 d_Mo_deliver_27 rfl rfl ?_
      refine z_aload_n 0 d_Mo_deliver_28 rfl rfl ?_
      replace h := Option.bind_eq_some_iff.mp h; obtain ⟨x72, e73, h⟩ := h
      refine z_getR wF_NumberOfficeModel_110_14 d_Mo_deliver_29 e73 ?_
      refine z_bipush (v := 8) d_Mo_deliver_32 rfl ?_
      refine z_iload_n 1 d_Mo_deliver_34 rfl rfl ?_
      refine z_imul d_Mo_deliver_35 ?_
      refine z_iload_n 2 d_Mo_deliver_36 rfl rfl ?_
      refine z_iadd d_Mo_deliver_37 ?_
      replace h := Option.bind_eq_some_iff.mp h; obtain ⟨a74, rfl, h⟩ := h
      replace h := Option.bind_eq_some_iff.mp h; obtain ⟨x75, e76, h⟩ := h
      refine z_iaload rfl d_Mo_deliver_38 e76 ?_
      replace h := Option.bind_eq_some_iff.mp h; obtain ⟨a77, rfl, h⟩ := h
      replace h := Option.bind_eq_some_iff.mp h; obtain ⟨σ78, e79, h⟩ := h
      refine z_iastore rfl d_Mo_deliver_39 e79 ?_
      refine z_iinc (v := v2 + 1) (lv' := [(2, .int (v2 + 1)), (0, .ref (v0)), (1, .int (v1))]) 2 d_Mo_deliver_40 rfl rfl (by decide) rfl ?_
      refine z_goto (tgt := 17) d_Mo_deliver_43 rfl ?_
      refine z_lv (lv' := [(0, .ref (v0)), (1, .int (v1)), (2, .int (v2 + 1))]) [1, 2, 0] rfl ?_
      exact ih h
set_option maxRecDepth 100000 in
theorem t_Mo_deliver {l : Launch} {D : zD} {g : zG} (hG : zGok g D) {v0 : Nat} {v1 : Int32} {σ : zS} {q : Int32 × zS} (h : s_Mo_deliver g v0 v1 σ = some q) : zMet l D Y_Mo_deliver K_Mo_deliver 4 89 [.ref (v0), .int (v1)] σ (.returned (some (.int q.1)), q.2) := by
  refine zMet.ofZ (by decide) rfl (fun q => by cases q) (Nat.le_of_ble_eq_true rfl) ?_
  show Z _ _ _ _ _ _ 0 [(0, .ref (v0)), (1, .int (v1))] [] _
  unfold s_Mo_deliver at h
  refine z_aload_n 0 d_Mo_deliver_0 rfl rfl ?_
  refine z_iconst (v := 0) d_Mo_deliver_1 rfl ?_
  replace h := Option.bind_eq_some_iff.mp h; obtain ⟨σ1, e2, h⟩ := h
  refine z_put wP_NumberOfficeModel_120_14 (fun q => by cases q) d_Mo_deliver_2 rfl rfl e2 ?_
  refine z_aload_n 0 d_Mo_deliver_5 rfl rfl ?_
  refine z_iload_n 1 d_Mo_deliver_6 rfl rfl ?_
  replace h := Option.bind_eq_some_iff.mp h; obtain ⟨_, e7, h⟩ := h
  obtain ⟨b8, f9, e7⟩ := zcls_at (zis_at e7)
  replace h := Option.bind_eq_some_iff.mp h; obtain ⟨⟨x5, σ3⟩, e4, h⟩ := h
  dsimp only at h
  refine z_callV (av := [.int (v1)]) (st := []) wV_NumberOfficeModel_192 e7 (t_Mo_isLetter hG e4) (by decide) (by decide) d_Mo_deliver_7 (by simp [z_rfc, z_ci, z_cl, z_cr, z_cn]) ?_
  show Z _ _ _ _ _ _ 10 [(0, .ref (v0)), (1, .int (v1))] [.int (x5)] _
  refine z_if_ne (tgt := 15) d_Mo_deliver_10 rfl (fun c6 => ?_) (fun c6 => ?_)
  · rw [if_neg c6] at h
    refine z_iconst (v := 0) d_Mo_deliver_15 rfl ?_
    refine z_istore_n (j := 2) (lv' := [(2, .int (0)), (0, .ref (v0)), (1, .int (v1))]) d_Mo_deliver_16 rfl (by decide) rfl ?_
    refine z_lv (lv' := [(0, .ref (v0)), (1, .int (v1)), (2, .int (0))]) [1, 2, 0] rfl ?_
    exact t_Mo_deliver_17 hG   zfuel h
  · rw [if_pos c6] at h
    refine z_iconst (v := 0) d_Mo_deliver_13 rfl ?_
    cases h
    exact z_zret rfl rfl rfl d_Mo_deliver_14

def s_Mo_request_70 (g : zG)  (v0 : Nat) (v1 : Int32) (v2 : Int32) (v3 : Int32) (w0 : Int32) (σ : zS) : Option (Int32 × zS) := some (w0, σ)
def s_Mo_request_57 (g : zG)  (v0 : Nat) (v1 : Int32) (v2 : Int32) (v3 : Int32) (σ : zS) : Option (Int32 × zS) := (zgI σ v0 14 0).bind fun x1 => if x1 = 1 then s_Mo_request_70 g  (v0) (v1) (v2) (v3) (0) σ else s_Mo_request_70 g  (v0) (v1) (v2) (v3) ((-1)) σ
def s_Mo_request (g : zG) (v0 : Nat) (v1 : Int32) (v2 : Int32) (v3 : Int32) (σ : zS) : Option (Int32 × zS) := (zis σ v0 14).bind fun _ => (s_Mo_there g v0 v1 σ).bind fun (x3, σ1) => if x3 = 0 then s_Mo_request_57 g  (v0) (v1) (v2) (v3) σ1 else (s_Mo_isSeries g v2 σ1).bind fun (x7, σ5) => if x7 = 0 then s_Mo_request_57 g  (v0) (v1) (v2) (v3) σ5 else if v3 < 1 then s_Mo_request_57 g  (v0) (v1) (v2) (v3) σ5 else if 100 < v3 then s_Mo_request_57 g  (v0) (v1) (v2) (v3) σ5 else (zgR σ5 v0 14 19).bind fun x11 => (x11).bind fun a13 => (zaI σ5 a13 3 (v1)).bind fun x14 => if x14 = 0 then (zgR σ5 v0 14 20).bind fun x17 => (x17).bind fun a19 => (zaI σ5 a19 3 (v1)).bind fun x20 => if x20 = 0 then (zis σ5 v0 14).bind fun _ => (s_Mo_openBlocks g v0 ((3 * v1) + v2) σ5).bind fun (x25, σ23) => if x25 < 2 then (zgR σ23 v0 14 15).bind fun x27 => (x27).bind fun a29 => (zaI σ23 a29 0 (v1)).bind fun x30 => (zsI σ23 a29 0 (v1) (x30 + 1)).bind fun σ32 => (zgR σ32 v0 14 16).bind fun x34 => (x34).bind fun a36 => (zsI σ32 a36 0 (v1) (1)).bind fun σ37 => (zgR σ37 v0 14 17).bind fun x39 => (x39).bind fun a41 => (zsI σ37 a41 0 (v1) (v2)).bind fun σ42 => (zgR σ42 v0 14 18).bind fun x44 => (x44).bind fun a46 => (zsI σ42 a46 0 (v1) (v3)).bind fun σ47 => (zgR σ47 v0 14 19).bind fun x49 => (x49).bind fun a51 => (zsI σ47 a51 3 (v1) (vp_nar .boolean 1)).bind fun σ52 => (zis σ52 v0 14).bind fun _ => (s_Mo_sendLatest g v0 v1 σ52).bind fun σ54 => (zgR σ54 v0 14 15).bind fun x57 => (x57).bind fun a59 => (zaI σ54 a59 0 (v1)).bind fun x60 => some (x60, σ54) else s_Mo_request_57 g  (v0) (v1) (v2) (v3) σ23 else s_Mo_request_57 g  (v0) (v1) (v2) (v3) σ5 else s_Mo_request_57 g  (v0) (v1) (v2) (v3) σ5
set_option maxRecDepth 100000 in
theorem t_Mo_request_70 {l : Launch} {D : zD} {g : zG} (hG : zGok g D) {q : Int32 × zS}   {v0 : Nat} {v1 : Int32} {v2 : Int32} {v3 : Int32} {w0 : Int32} {σ : zS} (h : s_Mo_request_70 g  v0 v1 v2 v3 w0 σ = some q) : Z l D K_Mo_request 4 88 (.returned (some (.int q.1)), q.2) 70 [(0, .ref (v0)), (1, .int (v1)), (2, .int (v2)), (3, .int (v3))] [.int (w0)] σ := by
  unfold s_Mo_request_70 at h
  cases h
  exact z_iret rfl rfl d_Mo_request_70
set_option maxRecDepth 100000 in
theorem t_Mo_request_57 {l : Launch} {D : zD} {g : zG} (hG : zGok g D) {q : Int32 × zS}   {v0 : Nat} {v1 : Int32} {v2 : Int32} {v3 : Int32} {σ : zS} (h : s_Mo_request_57 g  v0 v1 v2 v3 σ = some q) : Z l D K_Mo_request 4 88 (.returned (some (.int q.1)), q.2) 57 [(0, .ref (v0)), (1, .int (v1)), (2, .int (v2)), (3, .int (v3))] [] σ := by
  unfold s_Mo_request_57 at h
  refine z_aload_n 0 d_Mo_request_57 rfl rfl ?_
  replace h := Option.bind_eq_some_iff.mp h; obtain ⟨x1, e2, h⟩ := h
  refine z_getI wF_NumberOfficeModel_120_14 d_Mo_request_58 e2 ?_
  refine z_iconst (v := 1) d_Mo_request_61 rfl ?_
  refine z_icmp_ne (tgt := 69) d_Mo_request_62 rfl (fun c3 => ?_) (fun c3 => ?_)
  · rw [if_neg c3] at h
    refine z_iconst (v := (-1)) d_Mo_request_69 rfl ?_
    refine z_lv (lv' := [(0, .ref (v0)), (1, .int (v1)), (2, .int (v2)), (3, .int (v3))]) [0, 1, 2, 3] rfl ?_
    exact t_Mo_request_70 hG   h
  · rw [if_pos c3] at h
    refine z_iconst (v := 0) d_Mo_request_65 rfl ?_
    refine z_goto (tgt := 70) d_Mo_request_66 rfl ?_
    refine z_lv (lv' := [(0, .ref (v0)), (1, .int (v1)), (2, .int (v2)), (3, .int (v3))]) [0, 1, 2, 3] rfl ?_
    exact t_Mo_request_70 hG   h
set_option maxRecDepth 100000 in
theorem t_Mo_request {l : Launch} {D : zD} {g : zG} (hG : zGok g D) {v0 : Nat} {v1 : Int32} {v2 : Int32} {v3 : Int32} {σ : zS} {q : Int32 × zS} (h : s_Mo_request g v0 v1 v2 v3 σ = some q) : zMet l D Y_Mo_request K_Mo_request 4 88 [.ref (v0), .int (v1), .int (v2), .int (v3)] σ (.returned (some (.int q.1)), q.2) := by
  refine zMet.ofZ (by decide) rfl (fun q => by cases q) (Nat.le_of_ble_eq_true rfl) ?_
  show Z _ _ _ _ _ _ 0 [(0, .ref (v0)), (1, .int (v1)), (2, .int (v2)), (3, .int (v3))] [] _
  unfold s_Mo_request at h
  refine z_aload_n 0 d_Mo_request_0 rfl rfl ?_
  refine z_iload_n 1 d_Mo_request_1 rfl rfl ?_
  replace h := Option.bind_eq_some_iff.mp h; obtain ⟨_, e68, h⟩ := h
  obtain ⟨b69, f70, e68⟩ := zcls_at (zis_at e68)
  replace h := Option.bind_eq_some_iff.mp h; obtain ⟨⟨x3, σ1⟩, e2, h⟩ := h
  dsimp only at h
  refine z_callV (av := [.int (v1)]) (st := []) wV_NumberOfficeModel_166 e68 (t_Mo_there hG e2) (by decide) (by decide) d_Mo_request_2 (by simp [z_rfc, z_ci, z_cl, z_cr, z_cn]) ?_
  show Z _ _ _ _ _ _ 5 [(0, .ref (v0)), (1, .int (v1)), (2, .int (v2)), (3, .int (v3))] [.int (x3)] _
  refine z_if_eq (tgt := 57) d_Mo_request_5 rfl (fun c4 => ?_) (fun c4 => ?_)
  · rw [if_pos c4] at h
    refine z_lv (lv' := [(0, .ref (v0)), (1, .int (v1)), (2, .int (v2)), (3, .int (v3))]) [0, 1, 2, 3] rfl ?_
    exact t_Mo_request_57 hG   h
  · rw [if_neg c4] at h
    refine z_iload_n 2 d_Mo_request_8 rfl rfl ?_
    replace h := Option.bind_eq_some_iff.mp h; obtain ⟨⟨x7, σ5⟩, e6, h⟩ := h
    dsimp only at h
    refine z_callS (av := [.int (v2)]) (st := []) wS_NumberOfficeModel_144 (t_Mo_isSeries hG e6) (by decide) (by decide) d_Mo_request_9 (by simp [z_rfc, z_ci, z_cl, z_cr, z_cn]) ?_
    show Z _ _ _ _ _ _ 12 [(0, .ref (v0)), (1, .int (v1)), (2, .int (v2)), (3, .int (v3))] [.int (x7)] _
    refine z_if_eq (tgt := 57) d_Mo_request_12 rfl (fun c8 => ?_) (fun c8 => ?_)
    · rw [if_pos c8] at h
      refine z_lv (lv' := [(0, .ref (v0)), (1, .int (v1)), (2, .int (v2)), (3, .int (v3))]) [0, 1, 2, 3] rfl ?_
      exact t_Mo_request_57 hG   h
    · rw [if_neg c8] at h
      refine z_iload_n 3 d_Mo_request_15 rfl rfl ?_
      refine z_iconst (v := 1) d_Mo_request_16 rfl ?_
      refine z_icmp_lt (tgt := 57) d_Mo_request_17 rfl (fun c9 => ?_) (fun c9 => ?_)
      · rw [if_pos c9] at h
        refine z_lv (lv' := [(0, .ref (v0)), (1, .int (v1)), (2, .int (v2)), (3, .int (v3))]) [0, 1, 2, 3] rfl ?_
        exact t_Mo_request_57 hG   h
      · rw [if_neg c9] at h
        refine z_iload_n 3 d_Mo_request_20 rfl rfl ?_
        refine z_bipush (v := 100) d_Mo_request_21 rfl ?_
        refine z_icmp_gt (tgt := 57) d_Mo_request_23 rfl (fun c10 => ?_) (fun c10 => ?_)
        · rw [if_pos c10] at h
          refine z_lv (lv' := [(0, .ref (v0)), (1, .int (v1)), (2, .int (v2)), (3, .int (v3))]) [0, 1, 2, 3] rfl ?_
          exact t_Mo_request_57 hG   h
        · rw [if_neg c10] at h
          refine z_aload_n 0 d_Mo_request_26 rfl rfl ?_
          replace h := Option.bind_eq_some_iff.mp h; obtain ⟨x11, e12, h⟩ := h
          refine z_getR wF_NumberOfficeModel_65_14 d_Mo_request_27 e12 ?_
          refine z_iload_n 1 d_Mo_request_30 rfl rfl ?_
          replace h := Option.bind_eq_some_iff.mp h; obtain ⟨a13, rfl, h⟩ := h
          replace h := Option.bind_eq_some_iff.mp h; obtain ⟨x14, e15, h⟩ := h
          refine z_zaload rfl d_Mo_request_31 e15 ?_
          refine z_if_ne (tgt := 57) d_Mo_request_32 rfl (fun c16 => ?_) (fun c16 => ?_)
          · rw [if_neg c16] at h
            refine z_lv (lv' := [(0, .ref (v0)), (1, .int (v1)), (2, .int (v2)), (3, .int (v3))]) [0, 1, 2, 3] rfl ?_
            exact t_Mo_request_57 hG   h
          · rw [if_pos c16] at h
            refine z_aload_n 0 d_Mo_request_35 rfl rfl ?_
            replace h := Option.bind_eq_some_iff.mp h; obtain ⟨x17, e18, h⟩ := h
            refine z_getR wF_NumberOfficeModel_68_14 d_Mo_request_36 e18 ?_
            refine z_iload_n 1 d_Mo_request_39 rfl rfl ?_
            replace h := Option.bind_eq_some_iff.mp h; obtain ⟨a19, rfl, h⟩ := h
            replace h := Option.bind_eq_some_iff.mp h; obtain ⟨x20, e21, h⟩ := h
            refine z_zaload rfl d_Mo_request_40 e21 ?_
            refine z_if_ne (tgt := 57) d_Mo_request_41 rfl (fun c22 => ?_) (fun c22 => ?_)
            · rw [if_neg c22] at h
              refine z_lv (lv' := [(0, .ref (v0)), (1, .int (v1)), (2, .int (v2)), (3, .int (v3))]) [0, 1, 2, 3] rfl ?_
              exact t_Mo_request_57 hG   h
            · rw [if_pos c22] at h
              refine z_aload_n 0 d_Mo_request_44 rfl rfl ?_
              refine z_iconst (v := 3) d_Mo_request_45 rfl ?_
              refine z_iload_n 1 d_Mo_request_46 rfl rfl ?_
              refine z_imul d_Mo_request_47 ?_
              refine z_iload_n 2 d_Mo_request_48 rfl rfl ?_
              refine z_iadd d_Mo_request_49 ?_
              replace h := Option.bind_eq_some_iff.mp h; obtain ⟨_, e65, h⟩ := h
              obtain ⟨b66, f67, e65⟩ := zcls_at (zis_at e65)
              replace h := Option.bind_eq_some_iff.mp h; obtain ⟨⟨x25, σ23⟩, e24, h⟩ := h
              dsimp only at h
              refine z_callV (av := [.int ((3 * v1) + v2)]) (st := []) wV_NumberOfficeModel_169 e65 (t_Mo_openBlocks hG e24) (by decide) (by decide) d_Mo_request_50 (by simp [z_rfc, z_ci, z_cl, z_cr, z_cn]) ?_
              show Z _ _ _ _ _ _ 53 [(0, .ref (v0)), (1, .int (v1)), (2, .int (v2)), (3, .int (v3))] [.int (x25)] _
              refine z_iconst (v := 2) d_Mo_request_53 rfl ?_
              refine z_icmp_lt (tgt := 71) d_Mo_request_54 rfl (fun c26 => ?_) (fun c26 => ?_)
              · rw [if_pos c26] at h
                refine z_aload_n 0 d_Mo_request_71 rfl rfl ?_
                replace h := Option.bind_eq_some_iff.mp h; obtain ⟨x27, e28, h⟩ := h
                refine z_getR wF_NumberOfficeModel_53_14 d_Mo_request_72 e28 ?_
                refine z_iload_n 1 d_Mo_request_75 rfl rfl ?_
                refine z_dup2 d_Mo_request_76 rfl (z_rfc _) ?_
                replace h := Option.bind_eq_some_iff.mp h; obtain ⟨a29, rfl, h⟩ := h
                replace h := Option.bind_eq_some_iff.mp h; obtain ⟨x30, e31, h⟩ := h
                refine z_iaload rfl d_Mo_request_77 e31 ?_
                refine z_iconst (v := 1) d_Mo_request_78 rfl ?_
                refine z_iadd d_Mo_request_79 ?_
                replace h := Option.bind_eq_some_iff.mp h; obtain ⟨σ32, e33, h⟩ := h
                refine z_iastore rfl d_Mo_request_80 e33 ?_
                refine z_aload_n 0 d_Mo_request_81 rfl rfl ?_
                replace h := Option.bind_eq_some_iff.mp h; obtain ⟨x34, e35, h⟩ := h
                refine z_getR wF_NumberOfficeModel_56_14 d_Mo_request_82 e35 ?_
                refine z_iload_n 1 d_Mo_request_85 rfl rfl ?_
                refine z_iconst (v := 1) d_Mo_request_86 rfl ?_
                replace h := Option.bind_eq_some_iff.mp h; obtain ⟨a36, rfl, h⟩ := h
                replace h := Option.bind_eq_some_iff.mp h; obtain ⟨σ37, e38, h⟩ := h
                refine z_iastore rfl d_Mo_request_87 e38 ?_
                refine z_aload_n 0 d_Mo_request_88 rfl rfl ?_
                replace h := Option.bind_eq_some_iff.mp h; obtain ⟨x39, e40, h⟩ := h
                refine z_getR wF_NumberOfficeModel_59_14 d_Mo_request_89 e40 ?_
                refine z_iload_n 1 d_Mo_request_92 rfl rfl ?_
                refine z_iload_n 2 d_Mo_request_93 rfl rfl ?_
                replace h := Option.bind_eq_some_iff.mp h; obtain ⟨a41, rfl, h⟩ := h
                replace h := Option.bind_eq_some_iff.mp h; obtain ⟨σ42, e43, h⟩ := h
                refine z_iastore rfl d_Mo_request_94 e43 ?_
                refine z_aload_n 0 d_Mo_request_95 rfl rfl ?_
                replace h := Option.bind_eq_some_iff.mp h; obtain ⟨x44, e45, h⟩ := h
                refine z_getR wF_NumberOfficeModel_62_14 d_Mo_request_96 e45 ?_
                refine z_iload_n 1 d_Mo_request_99 rfl rfl ?_
                refine z_iload_n 3 d_Mo_request_100 rfl rfl ?_
                replace h := Option.bind_eq_some_iff.mp h; obtain ⟨a46, rfl, h⟩ := h
                replace h := Option.bind_eq_some_iff.mp h; obtain ⟨σ47, e48, h⟩ := h
                refine z_iastore rfl d_Mo_request_101 e48 ?_
                refine z_aload_n 0 d_Mo_request_102 rfl rfl ?_
                replace h := Option.bind_eq_some_iff.mp h; obtain ⟨x49, e50, h⟩ := h
                refine z_getR wF_NumberOfficeModel_65_14 d_Mo_request_103 e50 ?_
                refine z_iload_n 1 d_Mo_request_106 rfl rfl ?_
                refine z_iconst (v := 1) d_Mo_request_107 rfl ?_
                replace h := Option.bind_eq_some_iff.mp h; obtain ⟨a51, rfl, h⟩ := h
                replace h := Option.bind_eq_some_iff.mp h; obtain ⟨σ52, e53, h⟩ := h
                refine z_zastore rfl d_Mo_request_108 e53 ?_
                refine z_aload_n 0 d_Mo_request_109 rfl rfl ?_
                refine z_iload_n 1 d_Mo_request_110 rfl rfl ?_
                replace h := Option.bind_eq_some_iff.mp h; obtain ⟨_, e62, h⟩ := h
                obtain ⟨b63, f64, e62⟩ := zcls_at (zis_at e62)
                replace h := Option.bind_eq_some_iff.mp h; obtain ⟨σ54, e55, h⟩ := h
                refine z_callV (av := [.int (v1)]) (st := []) wV_NumberOfficeModel_173 e62 (t_Mo_sendLatest hG e55) (by decide) (by decide) d_Mo_request_111 (by simp [z_rfc, z_ci, z_cl, z_cr, z_cn]) ?_
                show Z _ _ _ _ _ _ 114 [(0, .ref (v0)), (1, .int (v1)), (2, .int (v2)), (3, .int (v3))] [] _
                refine z_aload_n 0 d_Mo_request_114 rfl rfl ?_
                replace h := Option.bind_eq_some_iff.mp h; obtain ⟨x57, e58, h⟩ := h
                refine z_getR wF_NumberOfficeModel_53_14 d_Mo_request_115 e58 ?_
                refine z_iload_n 1 d_Mo_request_118 rfl rfl ?_
                replace h := Option.bind_eq_some_iff.mp h; obtain ⟨a59, rfl, h⟩ := h
                replace h := Option.bind_eq_some_iff.mp h; obtain ⟨x60, e61, h⟩ := h
                refine z_iaload rfl d_Mo_request_119 e61 ?_
                cases h
                exact z_iret rfl rfl d_Mo_request_120
              · rw [if_neg c26] at h
                refine z_lv (lv' := [(0, .ref (v0)), (1, .int (v1)), (2, .int (v2)), (3, .int (v3))]) [0, 1, 2, 3] rfl ?_
                exact t_Mo_request_57 hG   h

