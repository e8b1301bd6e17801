def zfuel : Nat := 1048576
theorem z_nb {e : Int32} (h : e = 0 ∨ e = 1) : narrow .boolean (.int e) = .int e := by rcases h with rfl | rfl <;> rfl
theorem z_fb {e : Int32} (h : e = 0 ∨ e = 1) : fits .boolean (.int e) = true := by rcases h with rfl | rfl <;> rfl
theorem z_nr (C : String) (r : Option Nat) : narrow (.object C) (va_rf r) = va_rf r := by cases r <;> rfl
theorem z_fr (C : String) (r : Option Nat) : fits (.object C) (va_rf r) = true := by cases r <;> rfl
theorem z_nra (C : FieldType) (r : Option Nat) : narrow (.array C) (va_rf r) = va_rf r := by cases r <;> rfl
theorem z_fra (C : FieldType) (r : Option Nat) : fits (.array C) (va_rf r) = true := by cases r <;> rfl
def zis (σ : zS) (a ci : Nat) : Option Unit := if zcls σ a = some ci then some () else none
theorem zis_at {σ : zS} {a ci : Nat} {u : Unit} (h : zis σ a ci = some u) : zcls σ a = some ci := by
  unfold zis at h
  split at h
  · assumption
  · cases h
section ZGEN
variable {l : Launch} {D : zD} {K : zM} {fr lo : Nat} {out : Outcome × zS} {pc pc' : Nat} {lv lv' : List (Nat × Value)} {st st' : List Value} {σ σ' : zS}
theorem z_lv (ks : List Nat) (hl : lv_pick lv ks = lv') (k : Z l D K fr lo out pc lv' st σ) : Z l D K fr lo out pc lv st σ :=
  ⟨k.1, fun p e R s m args below meth c C f1 f2 hK A ls H locs cells slots b1 b2 b3 b4 b5 b6 b7 => k.2 p e R s m args below meth c C f1 f2 hK A ls H locs cells slots b1 b2 b3 b4 (lv_sub b5 ks hl) b6 b7⟩
theorem z_callS {y : MethodName} {K' : zM} {fr' lo' ix : Nat} {av : List Value} {v : Option Value} {σ1 : zS} (w : zSl K.2.2.1 ix y K' av.length) (hM : zMet l D y K' fr' lo' av σ (.returned v, σ1)) (hfr : fr' + 1 ≤ fr) (hlo : 8 + (K'.2.1 + 11) + lo' ≤ lo) (d : decode K.1 pc = .ok (.invokestatic ix, 3)) (hst : (st.map fun v => v.category).sum ≤ 8) (k : Z l D K fr lo out (pc + 3) lv (v.toList ++ st) σ1) : Z l D K fr lo out pc lv (av.reverse ++ st) σ :=
  z_callS' w hM hfr hlo d hst (fun v' hv => by cases hv; exact k) (fun a ha => by cases ha)
theorem z_callV {y : MethodName} {K' : zM} {fr' lo' ix ci b : Nat} {ow : Bool} {fs : List Value} {av : List Value} {v : Option Value} {σ1 : zS} (w : zVl K.2.2.1 ix ci y K' av.length) (hb : σ.2.2 b = some (ow, .inr (ci, fs))) (hM : zMet l D y K' fr' lo' (.ref b :: av) σ (.returned v, σ1)) (hfr : fr' + 1 ≤ fr) (hlo : 8 + (K'.2.1 + 11) + lo' ≤ lo) (d : decode K.1 pc = .ok (.invokevirtual ix, 3)) (hst : (st.map fun v => v.category).sum ≤ 8) (k : Z l D K fr lo out (pc + 3) lv (v.toList ++ st) σ1) : Z l D K fr lo out pc lv (av.reverse ++ .ref b :: st) σ :=
  z_callV' w hb hM hfr hlo d hst (fun v' hv => by cases hv; exact k) (fun a ha => by cases ha)
theorem z_callI {y : MethodName} {K' : zM} {fr' lo' ix b : Nat} {av : List Value} {v : Option Value} {σ1 : zS} (w : zIl K.2.2.1 ix y K' av.length) (hM : zMet l D y K' fr' lo' (.ref b :: av) σ (.returned v, σ1)) (hfr : fr' + 1 ≤ fr) (hlo : 8 + (K'.2.1 + 11) + lo' ≤ lo) (d : decode K.1 pc = .ok (.invokespecial ix, 3)) (hst : (st.map fun v => v.category).sum ≤ 8) (k : Z l D K fr lo out (pc + 3) lv (v.toList ++ st) σ1) : Z l D K fr lo out pc lv (av.reverse ++ .ref b :: st) σ :=
  z_callI' w hM hfr hlo d hst (fun v' hv => by cases hv; exact k) (fun a ha => by cases ha)
end ZGEN
theorem wOi : Cond.instanceMethod objectInit ∈ ztb := ztb_of 80 (by decide +kernel) rfl
theorem wOc : Cond.code objectInit ⟨#[0xb1]⟩ 1 none ∈ ztb := ztb_of 81 (by decide +kernel) rfl
abbrev Y_ArrayList_size : MethodName := ⟨"java/util/ArrayList", "size", "()I"⟩
abbrev K_ArrayList_size : zM := (prog_31_method_8_code, 1, "java/util/ArrayList", (some .int), false, [])
theorem d_ArrayList_size_0 : decode prog_31_method_8_code 0 = .ok (.aload_n 0, 1) := by decide +kernel
theorem d_ArrayList_size_1 : decode prog_31_method_8_code 1 = .ok (.getfield 48, 3) := by decide +kernel
theorem wF_java_util_ArrayList_48_3 : zFl "java/util/ArrayList" 48 3 1 := ⟨"java/util/ArrayList", zR_ArrayList, zF_ArrayList, 3, rfl, zin_ArrayList, by decide, ztb_of 120 (by decide +kernel) rfl, Or.inl rfl⟩
theorem d_ArrayList_size_4 : decode prog_31_method_8_code 4 = .ok (.ireturn, 1) := by decide +kernel
theorem wV_NumberOffice_BranchSeries_21 : zVl "NumberOffice$BranchSeries" 21 3 Y_ArrayList_size K_ArrayList_size 0 := ⟨zR_ArrayList, zF_ArrayList, 3, rfl, ztb_of 300 (by decide +kernel) rfl, ztb_of 301 (by decide +kernel) rfl, ztb_of 302 (by decide +kernel) rfl, ztb_of 50 (by decide +kernel) rfl, ztb_of 303 (by decide +kernel) rfl, by decide, by decide +kernel⟩
theorem wF_NumberOffice_BranchSeries_18_2 : zFl "NumberOffice$BranchSeries" 18 2 1 := ⟨"NumberOffice$BranchSeries", zR_BranchSeries, zF_BranchSeries, 10, rfl, zin_BranchSeries, by decide, ztb_of 133 (by decide +kernel) rfl, Or.inl rfl⟩
theorem wF_NumberOffice_SeriesBook_38_5 : zFl "NumberOffice$SeriesBook" 38 5 2 := ⟨"NumberOffice$SeriesBook", zR_SeriesBook, zF_SeriesBook, 8, rfl, zin_SeriesBook, by decide, ztb_of 219 (by decide +kernel) rfl, Or.inl rfl⟩
abbrev Y_Block_init : MethodName := ⟨"NumberOffice$Block", "<init>", "(II)V"⟩
abbrev K_Block_init : zM := (prog_3_method_1_code, 3, "NumberOffice$Block", none, true, [])
theorem d_Block_init_0 : decode prog_3_method_1_code 0 = .ok (.aload_n 0, 1) := by decide +kernel
theorem d_Block_init_1 : decode prog_3_method_1_code 1 = .ok (.invokespecial 1, 3) := by decide +kernel
theorem wO_NumberOffice_Block_1 : Cond.methodLink "NumberOffice$Block" 1 objectInit ∈ ztb := ztb_of 525 (by decide +kernel) rfl
theorem d_Block_init_4 : decode prog_3_method_1_code 4 = .ok (.aload_n 0, 1) := by decide +kernel
theorem d_Block_init_5 : decode prog_3_method_1_code 5 = .ok (.iload_n 1, 1) := by decide +kernel
theorem d_Block_init_6 : decode prog_3_method_1_code 6 = .ok (.putfield 7, 3) := by decide +kernel
theorem wP_NumberOffice_Block_7_7 : zPl "NumberOffice$Block" 7 7 0 (.int) true := ⟨"NumberOffice$Block", zR_Block, zF_Block, 2, zY_Block, rfl, zin_Block, by decide, ztb_of 526 (by decide +kernel) rfl, Or.inl rfl, zYok_Block, zN_Block, rfl, fun _ => rfl, by decide +kernel⟩
theorem d_Block_init_9 : decode prog_3_method_1_code 9 = .ok (.aload_n 0, 1) := by decide +kernel
theorem d_Block_init_10 : decode prog_3_method_1_code 10 = .ok (.iload_n 2, 1) := by decide +kernel
theorem d_Block_init_11 : decode prog_3_method_1_code 11 = .ok (.putfield 13, 3) := by decide +kernel
theorem wP_NumberOffice_Block_13_7 : zPl "NumberOffice$Block" 13 7 1 (.int) true := ⟨"NumberOffice$Block", zR_Block, zF_Block, 2, zY_Block, rfl, zin_Block, by decide, ztb_of 528 (by decide +kernel) rfl, Or.inl rfl, zYok_Block, zN_Block, rfl, fun _ => rfl, by decide +kernel⟩
theorem d_Block_init_14 : decode prog_3_method_1_code 14 = .ok (.return_, 1) := by decide +kernel
abbrev Y_SeriesBook_fateOf : MethodName := ⟨"NumberOffice$SeriesBook", "fateOf", "(I)I"⟩
abbrev K_SeriesBook_fateOf : zM := (prog_11_method_7_code, 2, "NumberOffice$SeriesBook", (some .int), false, [])
theorem d_SeriesBook_fateOf_0 : decode prog_11_method_7_code 0 = .ok (.aload_n 0, 1) := by decide +kernel
theorem d_SeriesBook_fateOf_1 : decode prog_11_method_7_code 1 = .ok (.iload_n 1, 1) := by decide +kernel
theorem d_SeriesBook_fateOf_2 : decode prog_11_method_7_code 2 = .ok (.invokevirtual 54, 3) := by decide +kernel
abbrev Y_SeriesBook_isGiven : MethodName := ⟨"NumberOffice$SeriesBook", "isGiven", "(I)Z"⟩
abbrev K_SeriesBook_isGiven : zM := (prog_11_method_6_code, 2, "NumberOffice$SeriesBook", (some .boolean), false, [])
theorem d_SeriesBook_isGiven_0 : decode prog_11_method_6_code 0 = .ok (.iload_n 1, 1) := by decide +kernel
theorem d_SeriesBook_isGiven_1 : decode prog_11_method_6_code 1 = .ok (.iconst 1, 1) := by decide +kernel
theorem d_SeriesBook_isGiven_2 : decode prog_11_method_6_code 2 = .ok (.if_icmp .lt 22, 3) := by decide +kernel
theorem d_SeriesBook_isGiven_5 : decode prog_11_method_6_code 5 = .ok (.iload_n 1, 1) := by decide +kernel
theorem d_SeriesBook_isGiven_6 : decode prog_11_method_6_code 6 = .ok (.aload_n 0, 1) := by decide +kernel
theorem d_SeriesBook_isGiven_7 : decode prog_11_method_6_code 7 = .ok (.getfield 38, 3) := by decide +kernel
theorem d_SeriesBook_isGiven_10 : decode prog_11_method_6_code 10 = .ok (.if_icmp .gt 14, 3) := by decide +kernel
theorem d_SeriesBook_isGiven_13 : decode prog_11_method_6_code 13 = .ok (.iload_n 1, 1) := by decide +kernel
theorem d_SeriesBook_isGiven_14 : decode prog_11_method_6_code 14 = .ok (.sipush 300, 3) := by decide +kernel
theorem d_SeriesBook_isGiven_17 : decode prog_11_method_6_code 17 = .ok (.if_icmp .gt 7, 3) := by decide +kernel
theorem d_SeriesBook_isGiven_20 : decode prog_11_method_6_code 20 = .ok (.iconst 1, 1) := by decide +kernel
theorem d_SeriesBook_isGiven_21 : decode prog_11_method_6_code 21 = .ok (.goto 4, 3) := by decide +kernel
theorem d_SeriesBook_isGiven_24 : decode prog_11_method_6_code 24 = .ok (.iconst 0, 1) := by decide +kernel
theorem d_SeriesBook_isGiven_25 : decode prog_11_method_6_code 25 = .ok (.ireturn, 1) := by decide +kernel
abbrev Y_Block_holds : MethodName := ⟨"NumberOffice$Block", "holds", "(I)Z"⟩
abbrev K_Block_holds : zM := (prog_3_method_2_code, 2, "NumberOffice$Block", (some .boolean), false, [])
theorem d_Block_holds_0 : decode prog_3_method_2_code 0 = .ok (.iload_n 1, 1) := by decide +kernel
theorem d_Block_holds_1 : decode prog_3_method_2_code 1 = .ok (.aload_n 0, 1) := by decide +kernel
theorem d_Block_holds_2 : decode prog_3_method_2_code 2 = .ok (.getfield 7, 3) := by decide +kernel
theorem wF_NumberOffice_Block_7_7 : zFl "NumberOffice$Block" 7 7 0 := ⟨"NumberOffice$Block", zR_Block, zF_Block, 2, rfl, zin_Block, by decide, ztb_of 526 (by decide +kernel) rfl, Or.inl rfl⟩
theorem d_Block_holds_5 : decode prog_3_method_2_code 5 = .ok (.if_icmp .lt 20, 3) := by decide +kernel
theorem d_Block_holds_8 : decode prog_3_method_2_code 8 = .ok (.iload_n 1, 1) := by decide +kernel
theorem d_Block_holds_9 : decode prog_3_method_2_code 9 = .ok (.aload_n 0, 1) := by decide +kernel
theorem d_Block_holds_10 : decode prog_3_method_2_code 10 = .ok (.getfield 7, 3) := by decide +kernel
theorem d_Block_holds_13 : decode prog_3_method_2_code 13 = .ok (.aload_n 0, 1) := by decide +kernel
theorem d_Block_holds_14 : decode prog_3_method_2_code 14 = .ok (.getfield 13, 3) := by decide +kernel
theorem wF_NumberOffice_Block_13_7 : zFl "NumberOffice$Block" 13 7 1 := ⟨"NumberOffice$Block", zR_Block, zF_Block, 2, rfl, zin_Block, by decide, ztb_of 528 (by decide +kernel) rfl, Or.inl rfl⟩
theorem d_Block_holds_17 : decode prog_3_method_2_code 17 = .ok (.iadd, 1) := by decide +kernel
theorem d_Block_holds_18 : decode prog_3_method_2_code 18 = .ok (.if_icmp .ge 7, 3) := by decide +kernel
theorem d_Block_holds_21 : decode prog_3_method_2_code 21 = .ok (.iconst 1, 1) := by decide +kernel
theorem d_Block_holds_22 : decode prog_3_method_2_code 22 = .ok (.goto 4, 3) := by decide +kernel
theorem d_Block_holds_25 : decode prog_3_method_2_code 25 = .ok (.iconst 0, 1) := by decide +kernel
theorem d_Block_holds_26 : decode prog_3_method_2_code 26 = .ok (.ireturn, 1) := by decide +kernel
abbrev Y_BranchSeries_unreported : MethodName := ⟨"NumberOffice$BranchSeries", "unreported", "()I"⟩
abbrev K_BranchSeries_unreported : zM := (prog_5_method_5_code, 1, "NumberOffice$BranchSeries", (some .int), false, [])
theorem d_BranchSeries_unreported_0 : decode prog_5_method_5_code 0 = .ok (.aload_n 0, 1) := by decide +kernel
theorem d_BranchSeries_unreported_1 : decode prog_5_method_5_code 1 = .ok (.getfield 18, 3) := by decide +kernel
theorem d_BranchSeries_unreported_4 : decode prog_5_method_5_code 4 = .ok (.invokevirtual 21, 3) := by decide +kernel
theorem d_BranchSeries_unreported_7 : decode prog_5_method_5_code 7 = .ok (.aload_n 0, 1) := by decide +kernel
theorem d_BranchSeries_unreported_8 : decode prog_5_method_5_code 8 = .ok (.getfield 44, 3) := by decide +kernel
theorem wF_NumberOffice_BranchSeries_44_2 : zFl "NumberOffice$BranchSeries" 44 2 4 := ⟨"NumberOffice$BranchSeries", zR_BranchSeries, zF_BranchSeries, 10, rfl, zin_BranchSeries, by decide, ztb_of 136 (by decide +kernel) rfl, Or.inl rfl⟩
theorem d_BranchSeries_unreported_11 : decode prog_5_method_5_code 11 = .ok (.isub, 1) := by decide +kernel
theorem d_BranchSeries_unreported_12 : decode prog_5_method_5_code 12 = .ok (.ireturn, 1) := by decide +kernel
theorem wF_NumberOffice_SeriesBook_19_5 : zFl "NumberOffice$SeriesBook" 19 5 4 := ⟨"NumberOffice$SeriesBook", zR_SeriesBook, zF_SeriesBook, 8, rfl, zin_SeriesBook, by decide, ztb_of 221 (by decide +kernel) rfl, Or.inl rfl⟩
abbrev Y_SeriesBook_leastOut : MethodName := ⟨"NumberOffice$SeriesBook", "leastOut", "()I"⟩
abbrev K_SeriesBook_leastOut : zM := (prog_11_method_11_code, 2, "NumberOffice$SeriesBook", (some .int), false, [])
theorem d_SeriesBook_leastOut_0 : decode prog_11_method_11_code 0 = .ok (.iconst 0, 1) := by decide +kernel
theorem d_SeriesBook_leastOut_1 : decode prog_11_method_11_code 1 = .ok (.istore_n 1, 1) := by decide +kernel
theorem d_SeriesBook_leastOut_2 : decode prog_11_method_11_code 2 = .ok (.iload_n 1, 1) := by decide +kernel
theorem d_SeriesBook_leastOut_3 : decode prog_11_method_11_code 3 = .ok (.aload_n 0, 1) := by decide +kernel
theorem d_SeriesBook_leastOut_4 : decode prog_11_method_11_code 4 = .ok (.getfield 38, 3) := by decide +kernel
theorem d_SeriesBook_leastOut_7 : decode prog_11_method_11_code 7 = .ok (.if_icmp .ge 23, 3) := by decide +kernel
theorem d_SeriesBook_leastOut_30 : decode prog_11_method_11_code 30 = .ok (.iconst 0, 1) := by decide +kernel
theorem d_SeriesBook_leastOut_31 : decode prog_11_method_11_code 31 = .ok (.ireturn, 1) := by decide +kernel
theorem d_SeriesBook_leastOut_10 : decode prog_11_method_11_code 10 = .ok (.aload_n 0, 1) := by decide +kernel
theorem d_SeriesBook_leastOut_11 : decode prog_11_method_11_code 11 = .ok (.getfield 19, 3) := by decide +kernel
theorem d_SeriesBook_leastOut_14 : decode prog_11_method_11_code 14 = .ok (.iload_n 1, 1) := by decide +kernel
theorem d_SeriesBook_leastOut_15 : decode prog_11_method_11_code 15 = .ok (.iaload, 1) := by decide +kernel
theorem d_SeriesBook_leastOut_16 : decode prog_11_method_11_code 16 = .ok (.iconst 1, 1) := by decide +kernel
theorem d_SeriesBook_leastOut_17 : decode prog_11_method_11_code 17 = .ok (.if_icmp .ne 7, 3) := by decide +kernel
theorem d_SeriesBook_leastOut_24 : decode prog_11_method_11_code 24 = .ok (.iinc 1 1, 3) := by decide +kernel
theorem d_SeriesBook_leastOut_27 : decode prog_11_method_11_code 27 = .ok (.goto (-25), 3) := by decide +kernel
theorem d_SeriesBook_leastOut_20 : decode prog_11_method_11_code 20 = .ok (.iload_n 1, 1) := by decide +kernel
theorem d_SeriesBook_leastOut_21 : decode prog_11_method_11_code 21 = .ok (.iconst 1, 1) := by decide +kernel
theorem d_SeriesBook_leastOut_22 : decode prog_11_method_11_code 22 = .ok (.iadd, 1) := by decide +kernel
theorem d_SeriesBook_leastOut_23 : decode prog_11_method_11_code 23 = .ok (.ireturn, 1) := by decide +kernel
abbrev Y_Mo_thrown : MethodName := ⟨"NumberOfficeModel", "thrown", "()I"⟩
abbrev K_Mo_thrown : zM := (prog_14_method_2_code, 1, "NumberOfficeModel", (some .int), false, [])
theorem d_Mo_thrown_0 : decode prog_14_method_2_code 0 = .ok (.aload_n 0, 1) := by decide +kernel
theorem d_Mo_thrown_1 : decode prog_14_method_2_code 1 = .ok (.getfield 120, 3) := by decide +kernel
theorem wF_NumberOfficeModel_120_14 : zFl "NumberOfficeModel" 120 14 0 := ⟨"NumberOfficeModel", zR_NumberOfficeModel, zF_NumberOfficeModel, 40, rfl, zin_NumberOfficeModel, by decide, ztb_of 1171 (by decide +kernel) rfl, Or.inl rfl⟩
theorem d_Mo_thrown_4 : decode prog_14_method_2_code 4 = .ok (.ireturn, 1) := by decide +kernel
abbrev Y_Mo_at : MethodName := ⟨"NumberOfficeModel", "at", "(II)I"⟩
abbrev K_Mo_at : zM := (prog_14_method_14_code, 3, "NumberOfficeModel", (some .int), false, [])
theorem d_Mo_at_0 : decode prog_14_method_14_code 0 = .ok (.sipush 300, 3) := by decide +kernel
theorem d_Mo_at_3 : decode prog_14_method_14_code 3 = .ok (.iload_n 1, 1) := by decide +kernel
theorem d_Mo_at_4 : decode prog_14_method_14_code 4 = .ok (.imul, 1) := by decide +kernel
theorem d_Mo_at_5 : decode prog_14_method_14_code 5 = .ok (.iload_n 2, 1) := by decide +kernel
theorem d_Mo_at_6 : decode prog_14_method_14_code 6 = .ok (.iadd, 1) := by decide +kernel
theorem d_Mo_at_7 : decode prog_14_method_14_code 7 = .ok (.iconst 1, 1) := by decide +kernel
theorem d_Mo_at_8 : decode prog_14_method_14_code 8 = .ok (.isub, 1) := by decide +kernel
theorem d_Mo_at_9 : decode prog_14_method_14_code 9 = .ok (.ireturn, 1) := by decide +kernel
theorem wV_NumberOffice_SeriesBook_54 : zVl "NumberOffice$SeriesBook" 54 5 Y_SeriesBook_isGiven K_SeriesBook_isGiven 1 := ⟨zR_SeriesBook, zF_SeriesBook, 8, rfl, ztb_of 543 (by decide +kernel) rfl, ztb_of 544 (by decide +kernel) rfl, ztb_of 545 (by decide +kernel) rfl, ztb_of 52 (by decide +kernel) rfl, ztb_of 546 (by decide +kernel) rfl, by decide, by decide +kernel⟩
theorem d_SeriesBook_fateOf_5 : decode prog_11_method_7_code 5 = .ok (.ifCond .eq 14, 3) := by decide +kernel
theorem d_SeriesBook_fateOf_19 : decode prog_11_method_7_code 19 = .ok (.iconst 0, 1) := by decide +kernel
theorem d_SeriesBook_fateOf_8 : decode prog_11_method_7_code 8 = .ok (.aload_n 0, 1) := by decide +kernel
theorem d_SeriesBook_fateOf_9 : decode prog_11_method_7_code 9 = .ok (.getfield 19, 3) := by decide +kernel
theorem d_SeriesBook_fateOf_12 : decode prog_11_method_7_code 12 = .ok (.iload_n 1, 1) := by decide +kernel
theorem d_SeriesBook_fateOf_13 : decode prog_11_method_7_code 13 = .ok (.iconst 1, 1) := by decide +kernel
theorem d_SeriesBook_fateOf_14 : decode prog_11_method_7_code 14 = .ok (.isub, 1) := by decide +kernel
theorem d_SeriesBook_fateOf_15 : decode prog_11_method_7_code 15 = .ok (.iaload, 1) := by decide +kernel
theorem d_SeriesBook_fateOf_16 : decode prog_11_method_7_code 16 = .ok (.goto 4, 3) := by decide +kernel
theorem d_SeriesBook_fateOf_20 : decode prog_11_method_7_code 20 = .ok (.ireturn, 1) := by decide +kernel
def s_ArrayList_size (v0 : Nat) (σ : zS) : Option (Int32 × zS) := (zgI σ v0 3 1).bind fun x1 => some (x1, σ)
set_option maxRecDepth 100000 in
theorem t_ArrayList_size {l : Launch} {D : zD} {v0 : Nat} {σ : zS} {q : Int32 × zS} (h : s_ArrayList_size v0 σ = some q) : zMet l D Y_ArrayList_size K_ArrayList_size 0 0 [.ref (v0)] σ (.returned (some (.int q.1)), q.2) := by
  refine zMet.ofZ (by decide) rfl (fun q => by cases q) (Nat.le_of_ble_eq_true rfl) ?_
  show Z _ _ _ _ _ _ 0 [(0, .ref (v0))] [] _
  unfold s_ArrayList_size at h
  refine z_aload_n 0 d_ArrayList_size_0 rfl rfl ?_
  replace h := Option.bind_eq_some_iff.mp h; obtain ⟨x1, e2, h⟩ := h
  refine z_getI wF_java_util_ArrayList_48_3 d_ArrayList_size_1 e2 ?_
  cases h
  exact z_iret rfl rfl d_ArrayList_size_4

def s_Block_init (v0 : Nat) (v1 : Int32) (v2 : Int32) (σ : zS) : Option (zS) := (zpF σ v0 7 0 (.int (v1))).bind fun σ1 => (zpF σ1 v0 7 1 (.int (v2))).bind fun σ3 => some σ3
set_option maxRecDepth 100000 in
theorem t_Block_init {l : Launch} {D : zD} {v0 : Nat} {v1 : Int32} {v2 : Int32} {σ : zS} {q : zS} (h : s_Block_init v0 v1 v2 σ = some q) : zMet l D Y_Block_init K_Block_init 1 12 [.ref (v0), .int (v1), .int (v2)] σ (.returned none, q) := by
  refine zMet.ofZ (by decide) rfl (fun q => rfl) (Nat.le_of_ble_eq_true rfl) ?_
  show Z _ _ _ _ _ _ 0 [(0, .ref (v0)), (1, .int (v1)), (2, .int (v2))] [] _
  unfold s_Block_init at h
  refine z_aload_n 0 d_Block_init_0 rfl rfl ?_
  refine z_objInit wO_NumberOffice_Block_1 wOi wOc (by decide) (by decide) d_Block_init_1 ?_
  refine z_aload_n 0 d_Block_init_4 rfl rfl ?_
  refine z_iload_n 1 d_Block_init_5 rfl rfl ?_
  replace h := Option.bind_eq_some_iff.mp h; obtain ⟨σ1, e2, h⟩ := h
  refine z_put wP_NumberOffice_Block_7_7 (fun _ => rfl) d_Block_init_6 rfl rfl e2 ?_
  refine z_aload_n 0 d_Block_init_9 rfl rfl ?_
  refine z_iload_n 2 d_Block_init_10 rfl rfl ?_
  replace h := Option.bind_eq_some_iff.mp h; obtain ⟨σ3, e4, h⟩ := h
  refine z_put wP_NumberOffice_Block_13_7 (fun _ => rfl) d_Block_init_11 rfl rfl e4 ?_
  cases h
  exact z_vret rfl rfl d_Block_init_14

def s_SeriesBook_isGiven_25  (v0 : Nat) (v1 : Int32) (w0 : Int32) (σ : zS) : Option (Int32 × zS) := if w0 = 0 ∨ w0 = 1 then some (w0, σ) else none
def s_SeriesBook_isGiven_24  (v0 : Nat) (v1 : Int32) (σ : zS) : Option (Int32 × zS) := s_SeriesBook_isGiven_25  (v0) (v1) (0) σ
def s_SeriesBook_isGiven (v0 : Nat) (v1 : Int32) (σ : zS) : Option (Int32 × zS) := if v1 < 1 then s_SeriesBook_isGiven_24  (v0) (v1) σ else (zgI σ v0 5 2).bind fun x2 => if x2 < v1 then s_SeriesBook_isGiven_24  (v0) (v1) σ else if 300 < v1 then s_SeriesBook_isGiven_24  (v0) (v1) σ else s_SeriesBook_isGiven_25  (v0) (v1) (1) σ
set_option maxRecDepth 100000 in
theorem t_SeriesBook_isGiven_25 {l : Launch} {D : zD} {q : Int32 × zS}   {v0 : Nat} {v1 : Int32} {w0 : Int32} {σ : zS} (h : s_SeriesBook_isGiven_25  v0 v1 w0 σ = some q) : Z l D K_SeriesBook_isGiven 0 0 (.returned (some (.int q.1)), q.2) 25 [(0, .ref (v0)), (1, .int (v1))] [.int (w0)] σ := by
  unfold s_SeriesBook_isGiven_25 at h
  by_cases c1 : w0 = 0 ∨ w0 = 1
  rotate_left
  · rw [if_neg c1] at h; cases h
  rw [if_pos c1] at h
  cases h
  exact z_zret rfl (z_nb c1) rfl d_SeriesBook_isGiven_25
set_option maxRecDepth 100000 in
theorem t_SeriesBook_isGiven_24 {l : Launch} {D : zD} {q : Int32 × zS}   {v0 : Nat} {v1 : Int32} {σ : zS} (h : s_SeriesBook_isGiven_24  v0 v1 σ = some q) : Z l D K_SeriesBook_isGiven 0 0 (.returned (some (.int q.1)), q.2) 24 [(0, .ref (v0)), (1, .int (v1))] [] σ := by
  unfold s_SeriesBook_isGiven_24 at h
  refine z_iconst (v := 0) d_SeriesBook_isGiven_24 rfl ?_
  refine z_lv (lv' := [(0, .ref (v0)), (1, .int (v1))]) [0, 1] rfl ?_
  exact t_SeriesBook_isGiven_25   h
set_option maxRecDepth 100000 in
theorem t_SeriesBook_isGiven {l : Launch} {D : zD} {v0 : Nat} {v1 : Int32} {σ : zS} {q : Int32 × zS} (h : s_SeriesBook_isGiven v0 v1 σ = some q) : zMet l D Y_SeriesBook_isGiven K_SeriesBook_isGiven 0 0 [.ref (v0), .int (v1)] σ (.returned (some (.int q.1)), q.2) := by
  refine zMet.ofZ (by decide) rfl (fun q => by cases q) (Nat.le_of_ble_eq_true rfl) ?_
  show Z _ _ _ _ _ _ 0 [(0, .ref (v0)), (1, .int (v1))] [] _
  unfold s_SeriesBook_isGiven at h
  refine z_iload_n 1 d_SeriesBook_isGiven_0 rfl rfl ?_
  refine z_iconst (v := 1) d_SeriesBook_isGiven_1 rfl ?_
  refine z_icmp_lt (tgt := 24) d_SeriesBook_isGiven_2 rfl (fun c1 => ?_) (fun c1 => ?_)
  · rw [if_pos c1] at h
    refine z_lv (lv' := [(0, .ref (v0)), (1, .int (v1))]) [0, 1] rfl ?_
    exact t_SeriesBook_isGiven_24   h
  · rw [if_neg c1] at h
    refine z_iload_n 1 d_SeriesBook_isGiven_5 rfl rfl ?_
    refine z_aload_n 0 d_SeriesBook_isGiven_6 rfl rfl ?_
    replace h := Option.bind_eq_some_iff.mp h; obtain ⟨x2, e3, h⟩ := h
    refine z_getI wF_NumberOffice_SeriesBook_38_5 d_SeriesBook_isGiven_7 e3 ?_
    refine z_icmp_gt (tgt := 24) d_SeriesBook_isGiven_10 rfl (fun c4 => ?_) (fun c4 => ?_)
    · rw [if_pos c4] at h
      refine z_lv (lv' := [(0, .ref (v0)), (1, .int (v1))]) [0, 1] rfl ?_
      exact t_SeriesBook_isGiven_24   h
    · rw [if_neg c4] at h
      refine z_iload_n 1 d_SeriesBook_isGiven_13 rfl rfl ?_
      refine z_sipush (v := 300) d_SeriesBook_isGiven_14 rfl ?_
      refine z_icmp_gt (tgt := 24) d_SeriesBook_isGiven_17 rfl (fun c5 => ?_) (fun c5 => ?_)
      · rw [if_pos c5] at h
        refine z_lv (lv' := [(0, .ref (v0)), (1, .int (v1))]) [0, 1] rfl ?_
        exact t_SeriesBook_isGiven_24   h
      · rw [if_neg c5] at h
        refine z_iconst (v := 1) d_SeriesBook_isGiven_20 rfl ?_
        refine z_goto (tgt := 25) d_SeriesBook_isGiven_21 rfl ?_
        refine z_lv (lv' := [(0, .ref (v0)), (1, .int (v1))]) [0, 1] rfl ?_
        exact t_SeriesBook_isGiven_25   h

def s_Block_holds_26  (v0 : Nat) (v1 : Int32) (w0 : Int32) (σ : zS) : Option (Int32 × zS) := if w0 = 0 ∨ w0 = 1 then some (w0, σ) else none
def s_Block_holds_25  (v0 : Nat) (v1 : Int32) (σ : zS) : Option (Int32 × zS) := s_Block_holds_26  (v0) (v1) (0) σ
def s_Block_holds (v0 : Nat) (v1 : Int32) (σ : zS) : Option (Int32 × zS) := (zgI σ v0 7 0).bind fun x1 => if v1 < x1 then s_Block_holds_25  (v0) (v1) σ else (zgI σ v0 7 0).bind fun x4 => (zgI σ v0 7 1).bind fun x6 => if (x4 + x6) ≤ v1 then s_Block_holds_25  (v0) (v1) σ else s_Block_holds_26  (v0) (v1) (1) σ
set_option maxRecDepth 100000 in
theorem t_Block_holds_26 {l : Launch} {D : zD} {q : Int32 × zS}   {v0 : Nat} {v1 : Int32} {w0 : Int32} {σ : zS} (h : s_Block_holds_26  v0 v1 w0 σ = some q) : Z l D K_Block_holds 0 0 (.returned (some (.int q.1)), q.2) 26 [(0, .ref (v0)), (1, .int (v1))] [.int (w0)] σ := by
  unfold s_Block_holds_26 at h
  by_cases c1 : w0 = 0 ∨ w0 = 1
  rotate_left
  · rw [if_neg c1] at h; cases h
  rw [if_pos c1] at h
  cases h
  exact z_zret rfl (z_nb c1) rfl d_Block_holds_26
set_option maxRecDepth 100000 in
theorem t_Block_holds_25 {l : Launch} {D : zD} {q : Int32 × zS}   {v0 : Nat} {v1 : Int32} {σ : zS} (h : s_Block_holds_25  v0 v1 σ = some q) : Z l D K_Block_holds 0 0 (.returned (some (.int q.1)), q.2) 25 [(0, .ref (v0)), (1, .int (v1))] [] σ := by
  unfold s_Block_holds_25 at h
  refine z_iconst (v := 0) d_Block_holds_25 rfl ?_
  refine z_lv (lv' := [(0, .ref (v0)), (1, .int (v1))]) [0, 1] rfl ?_
  exact t_Block_holds_26   h
set_option maxRecDepth 100000 in
theorem t_Block_holds {l : Launch} {D : zD} {v0 : Nat} {v1 : Int32} {σ : zS} {q : Int32 × zS} (h : s_Block_holds v0 v1 σ = some q) : zMet l D Y_Block_holds K_Block_holds 0 0 [.ref (v0), .int (v1)] σ (.returned (some (.int q.1)), q.2) := by
  refine zMet.ofZ (by decide) rfl (fun q => by cases q) (Nat.le_of_ble_eq_true rfl) ?_
  show Z _ _ _ _ _ _ 0 [(0, .ref (v0)), (1, .int (v1))] [] _
  unfold s_Block_holds at h
  refine z_iload_n 1 d_Block_holds_0 rfl rfl ?_
  refine z_aload_n 0 d_Block_holds_1 rfl rfl ?_
  replace h := Option.bind_eq_some_iff.mp h; obtain ⟨x1, e2, h⟩ := h
  refine z_getI wF_NumberOffice_Block_7_7 d_Block_holds_2 e2 ?_
  refine z_icmp_lt (tgt := 25) d_Block_holds_5 rfl (fun c3 => ?_) (fun c3 => ?_)
  · rw [if_pos c3] at h
    refine z_lv (lv' := [(0, .ref (v0)), (1, .int (v1))]) [0, 1] rfl ?_
    exact t_Block_holds_25   h
  · rw [if_neg c3] at h
    refine z_iload_n 1 d_Block_holds_8 rfl rfl ?_
    refine z_aload_n 0 d_Block_holds_9 rfl rfl ?_
    replace h := Option.bind_eq_some_iff.mp h; obtain ⟨x4, e5, h⟩ := h
    refine z_getI wF_NumberOffice_Block_7_7 d_Block_holds_10 e5 ?_
    refine z_aload_n 0 d_Block_holds_13 rfl rfl ?_
    replace h := Option.bind_eq_some_iff.mp h; obtain ⟨x6, e7, h⟩ := h
    refine z_getI wF_NumberOffice_Block_13_7 d_Block_holds_14 e7 ?_
    refine z_iadd d_Block_holds_17 ?_
    refine z_icmp_ge (tgt := 25) d_Block_holds_18 rfl (fun c8 => ?_) (fun c8 => ?_)
    · rw [if_pos c8] at h
      refine z_lv (lv' := [(0, .ref (v0)), (1, .int (v1))]) [0, 1] rfl ?_
      exact t_Block_holds_25   h
    · rw [if_neg c8] at h
      refine z_iconst (v := 1) d_Block_holds_21 rfl ?_
      refine z_goto (tgt := 26) d_Block_holds_22 rfl ?_
      refine z_lv (lv' := [(0, .ref (v0)), (1, .int (v1))]) [0, 1] rfl ?_
      exact t_Block_holds_26   h

def s_BranchSeries_unreported (v0 : Nat) (σ : zS) : Option (Int32 × zS) := (zgR σ v0 2 1).bind fun x1 => (x1).bind fun a3 => (zis σ a3 3).bind fun _ => (s_ArrayList_size a3  σ).bind fun (x6, σ4) => (zgI σ4 v0 2 4).bind fun x7 => some (x6 - x7, σ4)
set_option maxRecDepth 100000 in
theorem t_BranchSeries_unreported {l : Launch} {D : zD} {v0 : Nat} {σ : zS} {q : Int32 × zS} (h : s_BranchSeries_unreported v0 σ = some q) : zMet l D Y_BranchSeries_unreported K_BranchSeries_unreported 1 20 [.ref (v0)] σ (.returned (some (.int q.1)), q.2) := by
  refine zMet.ofZ (by decide) rfl (fun q => by cases q) (Nat.le_of_ble_eq_true rfl) ?_
  show Z _ _ _ _ _ _ 0 [(0, .ref (v0))] [] _
  unfold s_BranchSeries_unreported at h
  refine z_aload_n 0 d_BranchSeries_unreported_0 rfl rfl ?_
  replace h := Option.bind_eq_some_iff.mp h; obtain ⟨x1, e2, h⟩ := h
  refine z_getR wF_NumberOffice_BranchSeries_18_2 d_BranchSeries_unreported_1 e2 ?_
  replace h := Option.bind_eq_some_iff.mp h; obtain ⟨a3, rfl, h⟩ := h
  replace h := Option.bind_eq_some_iff.mp h; obtain ⟨_, e9, h⟩ := h
  obtain ⟨b10, f11, e9⟩ := zcls_at (zis_at e9)
  replace h := Option.bind_eq_some_iff.mp h; obtain ⟨⟨x6, σ4⟩, e5, h⟩ := h
  dsimp only at h
  refine z_callV (av := []) (st := []) wV_NumberOffice_BranchSeries_21 e9 (t_ArrayList_size e5) (by decide) (by decide) d_BranchSeries_unreported_4 (by decide) ?_
  show Z _ _ _ _ _ _ 7 [(0, .ref (v0))] [.int (x6)] _
  refine z_aload_n 0 d_BranchSeries_unreported_7 rfl rfl ?_
  replace h := Option.bind_eq_some_iff.mp h; obtain ⟨x7, e8, h⟩ := h
  refine z_getI wF_NumberOffice_BranchSeries_44_2 d_BranchSeries_unreported_8 e8 ?_
  refine z_isub d_BranchSeries_unreported_11 ?_
  cases h
  exact z_iret rfl rfl d_BranchSeries_unreported_12

def s_SeriesBook_leastOut_2  : Nat → Nat → Int32 → zS → Option (Int32 × zS)
  | 0, _, _, _ => none
  | n + 1, v0, v1, σ => (zgI σ v0 5 2).bind fun x1 => if x1 ≤ v1 then some (0, σ) else (zgR σ v0 5 4).bind fun x4 => (x4).bind fun a6 => (zaI σ a6 0 (v1)).bind fun x7 => if x7 = 1 then some (v1 + 1, σ) else s_SeriesBook_leastOut_2  n (v0) (v1 + 1) σ
def s_SeriesBook_leastOut (v0 : Nat) (σ : zS) : Option (Int32 × zS) := s_SeriesBook_leastOut_2  zfuel (v0) (0) σ
set_option maxRecDepth 100000 in
theorem t_SeriesBook_leastOut_2 {l : Launch} {D : zD} {q : Int32 × zS}   : ∀ (n : Nat) {v0 : Nat} {v1 : Int32} {σ : zS}, s_SeriesBook_leastOut_2  n v0 v1 σ = some q → Z l D K_SeriesBook_leastOut 0 0 (.returned (some (.int q.1)), q.2) 2 [(0, .ref (v0)), (1, .int (v1))] [] σ := by
  intro n
  induction n with
  | zero =>
    intro v0 v1 σ h
    cases h
  | succ n ih =>
    intro v0 v1 σ h
    rw [s_SeriesBook_leastOut_2] at h
    refine z_iload_n 1 d_SeriesBook_leastOut_2 rfl rfl ?_
    refine z_aload_n 0 d_SeriesBook_leastOut_3 rfl rfl ?_
    replace h := Option.bind_eq_some_iff.mp h; obtain ⟨x1, e2, h⟩ := h
    refine z_getI wF_NumberOffice_SeriesBook_38_5 d_SeriesBook_leastOut_4 e2 ?_
    refine z_icmp_ge (tgt := 30) d_SeriesBook_leastOut_7 rfl (fun c3 => ?_) (fun c3 => ?_)
    · rw [if_pos c3] at h
      refine z_iconst (v := 0) d_SeriesBook_leastOut_30 rfl ?_
      cases h
      exact z_iret rfl rfl d_SeriesBook_leastOut_31
    · rw [if_neg c3] at h
      refine z_aload_n 0 d_SeriesBook_leastOut_10 rfl rfl ?_
      replace h := Option.bind_eq_some_iff.mp h; obtain ⟨x4, e5, h⟩ := h
      refine z_getR wF_NumberOffice_SeriesBook_19_5 d_SeriesBook_leastOut_11 e5 ?_
      refine z_iload_n 1 d_SeriesBook_leastOut_14 rfl rfl ?_
      replace h := Option.bind_eq_some_iff.mp h; obtain ⟨a6, rfl, h⟩ := h
      replace h := Option.bind_eq_some_iff.mp h; obtain ⟨x7, e8, h⟩ := h
      refine z_iaload rfl d_SeriesBook_leastOut_15 e8 ?_
      refine z_iconst (v := 1) d_SeriesBook_leastOut_16 rfl ?_
      refine z_icmp_ne (tgt := 24) d_SeriesBook_leastOut_17 rfl (fun c9 => ?_) (fun c9 => ?_)
      · rw [if_neg c9] at h
        refine z_iinc (v := v1 + 1) (lv' := [(1, .int (v1 + 1)), (0, .ref (v0))]) 1 d_SeriesBook_leastOut_24 rfl rfl (by decide) rfl ?_
        refine z_goto (tgt := 2) d_SeriesBook_leastOut_27 rfl ?_
        refine z_lv (lv' := [(0, .ref (v0)), (1, .int (v1 + 1))]) [1, 0] rfl ?_
        exact ih h
      · rw [if_pos c9] at h
        refine z_iload_n 1 d_SeriesBook_leastOut_20 rfl rfl ?_
        refine z_iconst (v := 1) d_SeriesBook_leastOut_21 rfl ?_
        refine z_iadd d_SeriesBook_leastOut_22 ?_
        cases h
        exact z_iret rfl rfl d_SeriesBook_leastOut_23
set_option maxRecDepth 100000 in
theorem t_SeriesBook_leastOut {l : Launch} {D : zD} {v0 : Nat} {σ : zS} {q : Int32 × zS} (h : s_SeriesBook_leastOut v0 σ = some q) : zMet l D Y_SeriesBook_leastOut K_SeriesBook_leastOut 0 0 [.ref (v0)] σ (.returned (some (.int q.1)), q.2) := by
  refine zMet.ofZ (by decide) rfl (fun q => by cases q) (Nat.le_of_ble_eq_true rfl) ?_
  show Z _ _ _ _ _ _ 0 [(0, .ref (v0))] [] _
  unfold s_SeriesBook_leastOut at h
  refine z_iconst (v := 0) d_SeriesBook_leastOut_0 rfl ?_
  refine z_istore_n (lv' := [(1, .int (0)), (0, .ref (v0))]) d_SeriesBook_leastOut_1 rfl (by decide) rfl ?_
  refine z_lv (lv' := [(0, .ref (v0)), (1, .int (0))]) [1, 0] rfl ?_
  exact t_SeriesBook_leastOut_2   zfuel h

def s_Mo_thrown (v0 : Nat) (σ : zS) : Option (Int32 × zS) := (zgI σ v0 14 0).bind fun x1 => some (x1, σ)
set_option maxRecDepth 100000 in
theorem t_Mo_thrown {l : Launch} {D : zD} {v0 : Nat} {σ : zS} {q : Int32 × zS} (h : s_Mo_thrown v0 σ = some q) : zMet l D Y_Mo_thrown K_Mo_thrown 0 0 [.ref (v0)] σ (.returned (some (.int q.1)), q.2) := by
  refine zMet.ofZ (by decide) rfl (fun q => by cases q) (Nat.le_of_ble_eq_true rfl) ?_
  show Z _ _ _ _ _ _ 0 [(0, .ref (v0))] [] _
  unfold s_Mo_thrown at h
  refine z_aload_n 0 d_Mo_thrown_0 rfl rfl ?_
  replace h := Option.bind_eq_some_iff.mp h; obtain ⟨x1, e2, h⟩ := h
  refine z_getI wF_NumberOfficeModel_120_14 d_Mo_thrown_1 e2 ?_
  cases h
  exact z_iret rfl rfl d_Mo_thrown_4

def s_Mo_at (v0 : Nat) (v1 : Int32) (v2 : Int32) (σ : zS) : Option (Int32 × zS) := some (((300 * v1) + v2) - 1, σ)
set_option maxRecDepth 100000 in
theorem t_Mo_at {l : Launch} {D : zD} {v0 : Nat} {v1 : Int32} {v2 : Int32} {σ : zS} {q : Int32 × zS} (h : s_Mo_at v0 v1 v2 σ = some q) : zMet l D Y_Mo_at K_Mo_at 0 0 [.ref (v0), .int (v1), .int (v2)] σ (.returned (some (.int q.1)), q.2) := by
  refine zMet.ofZ (by decide) rfl (fun q => by cases q) (Nat.le_of_ble_eq_true rfl) ?_
  show Z _ _ _ _ _ _ 0 [(0, .ref (v0)), (1, .int (v1)), (2, .int (v2))] [] _
  unfold s_Mo_at at h
  refine z_sipush (v := 300) d_Mo_at_0 rfl ?_
  refine z_iload_n 1 d_Mo_at_3 rfl rfl ?_
  refine z_imul d_Mo_at_4 ?_
  refine z_iload_n 2 d_Mo_at_5 rfl rfl ?_
  refine z_iadd d_Mo_at_6 ?_
  refine z_iconst (v := 1) d_Mo_at_7 rfl ?_
  refine z_isub d_Mo_at_8 ?_
  cases h
  exact z_iret rfl rfl d_Mo_at_9

def s_SeriesBook_fateOf_20  (v0 : Nat) (v1 : Int32) (w0 : Int32) (σ : zS) : Option (Int32 × zS) := some (w0, σ)
def s_SeriesBook_fateOf (v0 : Nat) (v1 : Int32) (σ : zS) : Option (Int32 × zS) := (zis σ v0 5).bind fun _ => (s_SeriesBook_isGiven v0 v1 σ).bind fun (x3, σ1) => if x3 = 0 then s_SeriesBook_fateOf_20  (v0) (v1) (0) σ1 else (zgR σ1 v0 5 4).bind fun x5 => (x5).bind fun a7 => (zaI σ1 a7 0 (v1 - 1)).bind fun x8 => s_SeriesBook_fateOf_20  (v0) (v1) (x8) σ1
set_option maxRecDepth 100000 in
theorem t_SeriesBook_fateOf_20 {l : Launch} {D : zD} {q : Int32 × zS}   {v0 : Nat} {v1 : Int32} {w0 : Int32} {σ : zS} (h : s_SeriesBook_fateOf_20  v0 v1 w0 σ = some q) : Z l D K_SeriesBook_fateOf 1 21 (.returned (some (.int q.1)), q.2) 20 [(0, .ref (v0)), (1, .int (v1))] [.int (w0)] σ := by
  unfold s_SeriesBook_fateOf_20 at h
  cases h
  exact z_iret rfl rfl d_SeriesBook_fateOf_20
set_option maxRecDepth 100000 in
theorem t_SeriesBook_fateOf {l : Launch} {D : zD} {v0 : Nat} {v1 : Int32} {σ : zS} {q : Int32 × zS} (h : s_SeriesBook_fateOf v0 v1 σ = some q) : zMet l D Y_SeriesBook_fateOf K_SeriesBook_fateOf 1 21 [.ref (v0), .int (v1)] σ (.returned (some (.int q.1)), q.2) := by
  refine zMet.ofZ (by decide) rfl (fun q => by cases q) (Nat.le_of_ble_eq_true rfl) ?_
  show Z _ _ _ _ _ _ 0 [(0, .ref (v0)), (1, .int (v1))] [] _
  unfold s_SeriesBook_fateOf at h
  refine z_aload_n 0 d_SeriesBook_fateOf_0 rfl rfl ?_
  refine z_iload_n 1 d_SeriesBook_fateOf_1 rfl rfl ?_
  replace h := Option.bind_eq_some_iff.mp h; obtain ⟨_, e10, h⟩ := h
  obtain ⟨b11, f12, e10⟩ := zcls_at (zis_at e10)
  replace h := Option.bind_eq_some_iff.mp h; obtain ⟨⟨x3, σ1⟩, e2, h⟩ := h
  dsimp only at h
  refine z_callV (av := [.int (v1)]) (st := []) wV_NumberOffice_SeriesBook_54 e10 (t_SeriesBook_isGiven e2) (by decide) (by decide) d_SeriesBook_fateOf_2 (by decide) ?_
  show Z _ _ _ _ _ _ 5 [(0, .ref (v0)), (1, .int (v1))] [.int (x3)] _
  refine z_if_eq (tgt := 19) d_SeriesBook_fateOf_5 rfl (fun c4 => ?_) (fun c4 => ?_)
  · rw [if_pos c4] at h
    refine z_iconst (v := 0) d_SeriesBook_fateOf_19 rfl ?_
    refine z_lv (lv' := [(0, .ref (v0)), (1, .int (v1))]) [0, 1] rfl ?_
    exact t_SeriesBook_fateOf_20   h
  · rw [if_neg c4] at h
    refine z_aload_n 0 d_SeriesBook_fateOf_8 rfl rfl ?_
    replace h := Option.bind_eq_some_iff.mp h; obtain ⟨x5, e6, h⟩ := h
    refine z_getR wF_NumberOffice_SeriesBook_19_5 d_SeriesBook_fateOf_9 e6 ?_
    refine z_iload_n 1 d_SeriesBook_fateOf_12 rfl rfl ?_
    refine z_iconst (v := 1) d_SeriesBook_fateOf_13 rfl ?_
    refine z_isub d_SeriesBook_fateOf_14 ?_
    replace h := Option.bind_eq_some_iff.mp h; obtain ⟨a7, rfl, h⟩ := h
    replace h := Option.bind_eq_some_iff.mp h; obtain ⟨x8, e9, h⟩ := h
    refine z_iaload rfl d_SeriesBook_fateOf_15 e9 ?_
    refine z_goto (tgt := 20) d_SeriesBook_fateOf_16 rfl ?_
    refine z_lv (lv' := [(0, .ref (v0)), (1, .int (v1))]) [0, 1] rfl ?_
    exact t_SeriesBook_fateOf_20   h

