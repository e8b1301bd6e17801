abbrev Y_No_init : MethodName := ⟨"NumberOffice", "<init>", "(I)V"⟩
abbrev K_No_init : zM := (prog_1_method_1_code, 4, "NumberOffice", none, true, [])
theorem d_No_init_0 : decode prog_1_method_1_code 0 = .ok (.aload_n 0, 1) := by decide +kernel
theorem d_No_init_1 : decode prog_1_method_1_code 1 = .ok (.invokespecial 1, 3) := by decide +kernel
theorem wO_NumberOffice_1 : Cond.methodLink "NumberOffice" 1 objectInit ∈ ztb := ztb_of 79 (by decide +kernel) rfl
theorem wOi : Cond.instanceMethod objectInit ∈ ztb := ztb_of 80 (by decide +kernel) rfl
theorem wOc : Cond.code objectInit ⟨#[0xb1]⟩ 1 none ∈ ztb := ztb_of 81 (by decide +kernel) rfl
theorem d_No_init_4 : decode prog_1_method_1_code 4 = .ok (.iconst 1, 1) := by decide +kernel
theorem d_No_init_5 : decode prog_1_method_1_code 5 = .ok (.bipush 6, 2) := by decide +kernel
theorem d_No_init_7 : decode prog_1_method_1_code 7 = .ok (.iload_n 1, 1) := by decide +kernel
theorem d_No_init_8 : decode prog_1_method_1_code 8 = .ok (.invokestatic 9, 3) := by decide +kernel
theorem wM_NumberOffice_9 : Cond.methodLink "NumberOffice" 9 Lib.Math.min.name ∈ ztb := ztb_of 82 (by decide +kernel) rfl
theorem wMs_min : Cond.static Lib.Math.min.name ∈ ztb := ztb_of 83 (by decide +kernel) rfl
theorem wMi : Cond.initialized "java/lang/Math" ∈ ztb := ztb_of 44 (by decide +kernel) rfl
theorem wMc_min : Cond.code Lib.Math.min.name Lib.Math.min.code 2 (some .int) ∈ ztb := ztb_of 84 (by decide +kernel) rfl
theorem d_No_init_11 : decode prog_1_method_1_code 11 = .ok (.invokestatic 15, 3) := by decide +kernel
theorem wM_NumberOffice_15 : Cond.methodLink "NumberOffice" 15 Lib.Math.max.name ∈ ztb := ztb_of 85 (by decide +kernel) rfl
theorem wMs_max : Cond.static Lib.Math.max.name ∈ ztb := ztb_of 86 (by decide +kernel) rfl
theorem wMc_max : Cond.code Lib.Math.max.name Lib.Math.max.code 2 (some .int) ∈ ztb := ztb_of 87 (by decide +kernel) rfl
theorem d_No_init_14 : decode prog_1_method_1_code 14 = .ok (.istore_n 2, 1) := by decide +kernel
theorem d_No_init_15 : decode prog_1_method_1_code 15 = .ok (.aload_n 0, 1) := by decide +kernel
theorem d_No_init_16 : decode prog_1_method_1_code 16 = .ok (.iload_n 2, 1) := by decide +kernel
theorem d_No_init_17 : decode prog_1_method_1_code 17 = .ok (.anewarray 18, 3) := by decide +kernel
theorem wAo_NumberOffice_Branch : Cond.arrayOver (.object "NumberOffice$Branch") ∈ ztb := ztb_of 89 (by decide +kernel) rfl
theorem wL_NumberOffice_18 : Cond.classLink "NumberOffice" 18 "NumberOffice$Branch" ∈ ztb := ztb_of 88 (by decide +kernel) rfl
theorem d_No_init_20 : decode prog_1_method_1_code 20 = .ok (.putfield 20, 3) := by decide +kernel
theorem wP_NumberOffice_20_0 : zPl "NumberOffice" 20 0 0 (.array (.object "NumberOffice$Branch")) true := ⟨"NumberOffice", zR_NumberOffice, zF_NumberOffice, 3, zY_NumberOffice, rfl, zin_NumberOffice, by decide, ztb_of 270 (by decide +kernel) rfl, Or.inl rfl, zYok_NumberOffice, zN_NumberOffice, rfl, fun _ => rfl, by decide +kernel⟩
theorem d_No_init_23 : decode prog_1_method_1_code 23 = .ok (.iconst 0, 1) := by decide +kernel
theorem d_No_init_24 : decode prog_1_method_1_code 24 = .ok (.istore_n 3, 1) := by decide +kernel
theorem d_No_init_25 : decode prog_1_method_1_code 25 = .ok (.iload_n 3, 1) := by decide +kernel
theorem d_No_init_26 : decode prog_1_method_1_code 26 = .ok (.iload_n 2, 1) := by decide +kernel
theorem d_No_init_27 : decode prog_1_method_1_code 27 = .ok (.if_icmp .ge 23, 3) := by decide +kernel
theorem d_No_init_50 : decode prog_1_method_1_code 50 = .ok (.aload_n 0, 1) := by decide +kernel
theorem d_No_init_51 : decode prog_1_method_1_code 51 = .ok (.new 27, 3) := by decide +kernel
theorem wN_NumberOffice_27 : zNl "NumberOffice" 27 4 7 [.null, .null, .null, .null, .null, .null, .int 0] := ⟨zR_Office, zF_Office, zY_Office, rfl, zin_Office, zYok_Office, ztb_of 201 (by decide +kernel) rfl, ztb_of 202 (by decide +kernel) rfl, ztb_of 51 (by decide +kernel) rfl, by decide⟩
theorem d_No_init_54 : decode prog_1_method_1_code 54 = .ok (.dup, 1) := by decide +kernel
theorem d_No_init_55 : decode prog_1_method_1_code 55 = .ok (.iload_n 2, 1) := by decide +kernel
theorem d_No_init_56 : decode prog_1_method_1_code 56 = .ok (.invokespecial 29, 3) := by decide +kernel
abbrev Y_Branch_init : MethodName := ⟨"NumberOffice$Branch", "<init>", "(I)V"⟩
abbrev K_Branch_init : zM := (prog_4_method_1_code, 3, "NumberOffice$Branch", none, true, [])
theorem d_Branch_init_0 : decode prog_4_method_1_code 0 = .ok (.aload_n 0, 1) := by decide +kernel
theorem d_Branch_init_1 : decode prog_4_method_1_code 1 = .ok (.invokespecial 3, 3) := by decide +kernel
abbrev Y_Side_init : MethodName := ⟨"NumberOffice$Side", "<init>", "()V"⟩
abbrev K_Side_init : zM := (prog_12_method_1_code, 1, "NumberOffice$Side", none, true, [])
theorem d_Side_init_0 : decode prog_12_method_1_code 0 = .ok (.aload_n 0, 1) := by decide +kernel
theorem d_Side_init_1 : decode prog_12_method_1_code 1 = .ok (.invokespecial 1, 3) := by decide +kernel
theorem wO_NumberOffice_Side_1 : Cond.methodLink "NumberOffice$Side" 1 objectInit ∈ ztb := ztb_of 97 (by decide +kernel) rfl
theorem d_Side_init_4 : decode prog_12_method_1_code 4 = .ok (.aload_n 0, 1) := by decide +kernel
theorem d_Side_init_5 : decode prog_12_method_1_code 5 = .ok (.iconst 1, 1) := by decide +kernel
theorem d_Side_init_6 : decode prog_12_method_1_code 6 = .ok (.putfield 7, 3) := by decide +kernel
theorem wP_NumberOffice_Side_7_1 : zPl "NumberOffice$Side" 7 1 8 (.boolean) false := ⟨"NumberOffice$Side", zR_Branch, zF_Branch, 9, zY_Branch, rfl, zin_Branch, by decide, ztb_of 176 (by decide +kernel) rfl, Or.inl rfl, zYok_Branch, zN_Branch, rfl, (fun h => by cases h), by decide +kernel⟩
theorem wP_NumberOffice_Side_7_4 : zPl "NumberOffice$Side" 7 4 6 (.boolean) false := ⟨"NumberOffice$Side", zR_Office, zF_Office, 7, zY_Office, rfl, zin_Office, by decide, ztb_of 176 (by decide +kernel) rfl, Or.inl rfl, zYok_Office, zN_Office, rfl, (fun h => by cases h), by decide +kernel⟩
theorem d_Side_init_9 : decode prog_12_method_1_code 9 = .ok (.return_, 1) := by decide +kernel
abbrev Y_BranchSeries_init : MethodName := ⟨"NumberOffice$BranchSeries", "<init>", "()V"⟩
abbrev K_BranchSeries_init : zM := (prog_5_method_1_code, 1, "NumberOffice$BranchSeries", none, true, [])
theorem d_BranchSeries_init_0 : decode prog_5_method_1_code 0 = .ok (.aload_n 0, 1) := by decide +kernel
theorem d_BranchSeries_init_1 : decode prog_5_method_1_code 1 = .ok (.invokespecial 3, 3) := by decide +kernel
theorem wO_NumberOffice_BranchSeries_3 : Cond.methodLink "NumberOffice$BranchSeries" 3 objectInit ∈ ztb := ztb_of 104 (by decide +kernel) rfl
theorem d_BranchSeries_init_4 : decode prog_5_method_1_code 4 = .ok (.aload_n 0, 1) := by decide +kernel
theorem d_BranchSeries_init_5 : decode prog_5_method_1_code 5 = .ok (.new 9, 3) := by decide +kernel
theorem wN_NumberOffice_BranchSeries_9 : zNl "NumberOffice$BranchSeries" 9 3 3 [.null, .int 0, .int 0] := ⟨zR_ArrayList, zF_ArrayList, zY_ArrayList, rfl, zin_ArrayList, zYok_ArrayList, ztb_of 105 (by decide +kernel) rfl, ztb_of 106 (by decide +kernel) rfl, ztb_of 50 (by decide +kernel) rfl, by decide⟩
theorem d_BranchSeries_init_8 : decode prog_5_method_1_code 8 = .ok (.dup, 1) := by decide +kernel
theorem d_BranchSeries_init_9 : decode prog_5_method_1_code 9 = .ok (.invokespecial 11, 3) := by decide +kernel
abbrev Y_ArrayList_init : MethodName := ⟨"java/util/ArrayList", "<init>", "()V"⟩
abbrev K_ArrayList_init : zM := (prog_31_method_2_code, 1, "java/util/ArrayList", none, true, [])
theorem d_ArrayList_init_0 : decode prog_31_method_2_code 0 = .ok (.aload_n 0, 1) := by decide +kernel
theorem d_ArrayList_init_1 : decode prog_31_method_2_code 1 = .ok (.invokespecial 1, 3) := by decide +kernel
abbrev Y_AbstractList_init : MethodName := ⟨"java/util/AbstractList", "<init>", "()V"⟩
abbrev K_AbstractList_init : zM := (prog_30_method_1_code, 1, "java/util/AbstractList", none, true, [])
theorem d_AbstractList_init_0 : decode prog_30_method_1_code 0 = .ok (.aload_n 0, 1) := by decide +kernel
theorem d_AbstractList_init_1 : decode prog_30_method_1_code 1 = .ok (.invokespecial 1, 3) := by decide +kernel
abbrev Y_AbstractCollection_init : MethodName := ⟨"java/util/AbstractCollection", "<init>", "()V"⟩
abbrev K_AbstractCollection_init : zM := (prog_29_method_1_code, 1, "java/util/AbstractCollection", none, true, [])
theorem d_AbstractCollection_init_0 : decode prog_29_method_1_code 0 = .ok (.aload_n 0, 1) := by decide +kernel
theorem d_AbstractCollection_init_1 : decode prog_29_method_1_code 1 = .ok (.invokespecial 1, 3) := by decide +kernel
theorem wO_java_util_AbstractCollection_1 : Cond.methodLink "java/util/AbstractCollection" 1 objectInit ∈ ztb := ztb_of 116 (by decide +kernel) rfl
theorem d_AbstractCollection_init_4 : decode prog_29_method_1_code 4 = .ok (.return_, 1) := by decide +kernel
abbrev Y_Office_init : MethodName := ⟨"NumberOffice$Office", "<init>", "(I)V"⟩
abbrev K_Office_init : zM := (prog_10_method_1_code, 3, "NumberOffice$Office", none, true, [])
theorem d_Office_init_0 : decode prog_10_method_1_code 0 = .ok (.aload_n 0, 1) := by decide +kernel
theorem d_Office_init_1 : decode prog_10_method_1_code 1 = .ok (.invokespecial 3, 3) := by decide +kernel
theorem wX_NumberOffice_Office_3 : zNi "NumberOffice$Office" 3 Y_Side_init K_Side_init 0 := ⟨"NumberOffice", rfl, ztb_of 206 (by decide +kernel) rfl, ztb_of 95 (by decide +kernel) rfl, ztb_of 45 (by decide +kernel) rfl, rfl, rfl, ztb_of 96 (by decide +kernel) rfl, by decide, by decide +kernel⟩
theorem d_Office_init_4 : decode prog_10_method_1_code 4 = .ok (.aload_n 0, 1) := by decide +kernel
theorem d_Office_init_5 : decode prog_10_method_1_code 5 = .ok (.iconst 3, 1) := by decide +kernel
theorem d_Office_init_6 : decode prog_10_method_1_code 6 = .ok (.anewarray 9, 3) := by decide +kernel
theorem wAo_NumberOffice_SeriesBook : Cond.arrayOver (.object "NumberOffice$SeriesBook") ∈ ztb := ztb_of 208 (by decide +kernel) rfl
theorem wL_NumberOffice_Office_9 : Cond.classLink "NumberOffice$Office" 9 "NumberOffice$SeriesBook" ∈ ztb := ztb_of 207 (by decide +kernel) rfl
theorem d_Office_init_9 : decode prog_10_method_1_code 9 = .ok (.putfield 11, 3) := by decide +kernel
theorem wP_NumberOffice_Office_11_4 : zPl "NumberOffice$Office" 11 4 0 (.array (.object "NumberOffice$SeriesBook")) true := ⟨"NumberOffice$Office", zR_Office, zF_Office, 7, zY_Office, rfl, zin_Office, by decide, ztb_of 247 (by decide +kernel) rfl, Or.inl rfl, zYok_Office, zN_Office, rfl, fun _ => rfl, by decide +kernel⟩
theorem d_Office_init_12 : decode prog_10_method_1_code 12 = .ok (.aload_n 0, 1) := by decide +kernel
theorem d_Office_init_13 : decode prog_10_method_1_code 13 = .ok (.iconst 3, 1) := by decide +kernel
theorem d_Office_init_14 : decode prog_10_method_1_code 14 = .ok (.anewarray 9, 3) := by decide +kernel
theorem d_Office_init_17 : decode prog_10_method_1_code 17 = .ok (.putfield 17, 3) := by decide +kernel
theorem wP_NumberOffice_Office_17_4 : zPl "NumberOffice$Office" 17 4 1 (.array (.object "NumberOffice$SeriesBook")) true := ⟨"NumberOffice$Office", zR_Office, zF_Office, 7, zY_Office, rfl, zin_Office, by decide, ztb_of 248 (by decide +kernel) rfl, Or.inl rfl, zYok_Office, zN_Office, rfl, fun _ => rfl, by decide +kernel⟩
theorem d_Office_init_20 : decode prog_10_method_1_code 20 = .ok (.iconst 0, 1) := by decide +kernel
theorem d_Office_init_21 : decode prog_10_method_1_code 21 = .ok (.istore_n 2, 1) := by decide +kernel
theorem d_Office_init_22 : decode prog_10_method_1_code 22 = .ok (.iload_n 2, 1) := by decide +kernel
theorem d_Office_init_23 : decode prog_10_method_1_code 23 = .ok (.iconst 3, 1) := by decide +kernel
theorem d_Office_init_24 : decode prog_10_method_1_code 24 = .ok (.if_icmp .ge 35, 3) := by decide +kernel
theorem d_Office_init_59 : decode prog_10_method_1_code 59 = .ok (.aload_n 0, 1) := by decide +kernel
theorem d_Office_init_60 : decode prog_10_method_1_code 60 = .ok (.iload_n 1, 1) := by decide +kernel
theorem d_Office_init_61 : decode prog_10_method_1_code 61 = .ok (.newarray .boolean, 2) := by decide +kernel
theorem wA_boolean : Cond.arrayClass .boolean ∈ ztb := ztb_of 267 (by decide +kernel) rfl
theorem d_Office_init_63 : decode prog_10_method_1_code 63 = .ok (.putfield 21, 3) := by decide +kernel
theorem wP_NumberOffice_Office_21_4 : zPl "NumberOffice$Office" 21 4 2 (.array (.boolean)) true := ⟨"NumberOffice$Office", zR_Office, zF_Office, 7, zY_Office, rfl, zin_Office, by decide, ztb_of 249 (by decide +kernel) rfl, Or.inl rfl, zYok_Office, zN_Office, rfl, fun _ => rfl, by decide +kernel⟩
theorem d_Office_init_66 : decode prog_10_method_1_code 66 = .ok (.aload_n 0, 1) := by decide +kernel
theorem d_Office_init_67 : decode prog_10_method_1_code 67 = .ok (.iload_n 1, 1) := by decide +kernel
theorem d_Office_init_68 : decode prog_10_method_1_code 68 = .ok (.newarray .boolean, 2) := by decide +kernel
theorem d_Office_init_70 : decode prog_10_method_1_code 70 = .ok (.putfield 25, 3) := by decide +kernel
theorem wP_NumberOffice_Office_25_4 : zPl "NumberOffice$Office" 25 4 3 (.array (.boolean)) true := ⟨"NumberOffice$Office", zR_Office, zF_Office, 7, zY_Office, rfl, zin_Office, by decide, ztb_of 250 (by decide +kernel) rfl, Or.inl rfl, zYok_Office, zN_Office, rfl, fun _ => rfl, by decide +kernel⟩
theorem d_Office_init_73 : decode prog_10_method_1_code 73 = .ok (.aload_n 0, 1) := by decide +kernel
theorem d_Office_init_74 : decode prog_10_method_1_code 74 = .ok (.iload_n 1, 1) := by decide +kernel
theorem d_Office_init_75 : decode prog_10_method_1_code 75 = .ok (.anewarray 28, 3) := by decide +kernel
theorem wAo_NumberOffice_Answer : Cond.arrayOver (.object "NumberOffice$Answer") ∈ ztb := ztb_of 246 (by decide +kernel) rfl
theorem wL_NumberOffice_Office_28 : Cond.classLink "NumberOffice$Office" 28 "NumberOffice$Answer" ∈ ztb := ztb_of 245 (by decide +kernel) rfl
theorem d_Office_init_78 : decode prog_10_method_1_code 78 = .ok (.putfield 30, 3) := by decide +kernel
theorem wP_NumberOffice_Office_30_4 : zPl "NumberOffice$Office" 30 4 4 (.array (.object "NumberOffice$Answer")) true := ⟨"NumberOffice$Office", zR_Office, zF_Office, 7, zY_Office, rfl, zin_Office, by decide, ztb_of 251 (by decide +kernel) rfl, Or.inl rfl, zYok_Office, zN_Office, rfl, fun _ => rfl, by decide +kernel⟩
theorem d_Office_init_81 : decode prog_10_method_1_code 81 = .ok (.aload_n 0, 1) := by decide +kernel
theorem d_Office_init_82 : decode prog_10_method_1_code 82 = .ok (.iload_n 1, 1) := by decide +kernel
theorem d_Office_init_83 : decode prog_10_method_1_code 83 = .ok (.anewarray 28, 3) := by decide +kernel
theorem d_Office_init_86 : decode prog_10_method_1_code 86 = .ok (.putfield 34, 3) := by decide +kernel
theorem wP_NumberOffice_Office_34_4 : zPl "NumberOffice$Office" 34 4 5 (.array (.object "NumberOffice$Answer")) true := ⟨"NumberOffice$Office", zR_Office, zF_Office, 7, zY_Office, rfl, zin_Office, by decide, ztb_of 252 (by decide +kernel) rfl, Or.inl rfl, zYok_Office, zN_Office, rfl, fun _ => rfl, by decide +kernel⟩
theorem d_Office_init_89 : decode prog_10_method_1_code 89 = .ok (.return_, 1) := by decide +kernel
theorem d_Office_init_27 : decode prog_10_method_1_code 27 = .ok (.aload_n 0, 1) := by decide +kernel
theorem d_Office_init_28 : decode prog_10_method_1_code 28 = .ok (.getfield 11, 3) := by decide +kernel
theorem wF_NumberOffice_Office_11_4 : zFl "NumberOffice$Office" 11 4 0 := ⟨"NumberOffice$Office", zR_Office, zF_Office, 7, rfl, zin_Office, by decide, ztb_of 247 (by decide +kernel) rfl, Or.inl rfl⟩
theorem d_Office_init_31 : decode prog_10_method_1_code 31 = .ok (.iload_n 2, 1) := by decide +kernel
theorem d_Office_init_32 : decode prog_10_method_1_code 32 = .ok (.new 9, 3) := by decide +kernel
theorem wN_NumberOffice_Office_9 : zNl "NumberOffice$Office" 9 5 8 [.int 0, .int 0, .int 0, .null, .null, .null, .null, .null] := ⟨zR_SeriesBook, zF_SeriesBook, zY_SeriesBook, rfl, zin_SeriesBook, zYok_SeriesBook, ztb_of 207 (by decide +kernel) rfl, ztb_of 209 (by decide +kernel) rfl, ztb_of 52 (by decide +kernel) rfl, by decide⟩
theorem d_Office_init_35 : decode prog_10_method_1_code 35 = .ok (.dup, 1) := by decide +kernel
theorem d_Office_init_36 : decode prog_10_method_1_code 36 = .ok (.invokespecial 20, 3) := by decide +kernel
abbrev Y_SeriesBook_init : MethodName := ⟨"NumberOffice$SeriesBook", "<init>", "()V"⟩
abbrev K_SeriesBook_init : zM := (prog_11_method_1_code, 1, "NumberOffice$SeriesBook", none, true, [])
theorem d_SeriesBook_init_0 : decode prog_11_method_1_code 0 = .ok (.aload_n 0, 1) := by decide +kernel
theorem d_SeriesBook_init_1 : decode prog_11_method_1_code 1 = .ok (.invokespecial 3, 3) := by decide +kernel
theorem wO_NumberOffice_SeriesBook_3 : Cond.methodLink "NumberOffice$SeriesBook" 3 objectInit ∈ ztb := ztb_of 213 (by decide +kernel) rfl
theorem d_SeriesBook_init_4 : decode prog_11_method_1_code 4 = .ok (.aload_n 0, 1) := by decide +kernel
theorem d_SeriesBook_init_5 : decode prog_11_method_1_code 5 = .ok (.iconst 0, 1) := by decide +kernel
theorem d_SeriesBook_init_6 : decode prog_11_method_1_code 6 = .ok (.putfield 11, 3) := by decide +kernel
theorem wP_NumberOffice_SeriesBook_11_5 : zPl "NumberOffice$SeriesBook" 11 5 0 (.int) false := ⟨"NumberOffice$SeriesBook", zR_SeriesBook, zF_SeriesBook, 8, zY_SeriesBook, rfl, zin_SeriesBook, by decide, ztb_of 215 (by decide +kernel) rfl, Or.inl rfl, zYok_SeriesBook, zN_SeriesBook, rfl, (fun h => by cases h), by decide +kernel⟩
theorem d_SeriesBook_init_9 : decode prog_11_method_1_code 9 = .ok (.aload_n 0, 1) := by decide +kernel
theorem d_SeriesBook_init_10 : decode prog_11_method_1_code 10 = .ok (.sipush 300, 3) := by decide +kernel
theorem d_SeriesBook_init_13 : decode prog_11_method_1_code 13 = .ok (.newarray .int, 2) := by decide +kernel
theorem wA_int : Cond.arrayClass .int ∈ ztb := ztb_of 242 (by decide +kernel) rfl
theorem d_SeriesBook_init_15 : decode prog_11_method_1_code 15 = .ok (.putfield 15, 3) := by decide +kernel
theorem wP_NumberOffice_SeriesBook_15_5 : zPl "NumberOffice$SeriesBook" 15 5 3 (.array (.int)) true := ⟨"NumberOffice$SeriesBook", zR_SeriesBook, zF_SeriesBook, 8, zY_SeriesBook, rfl, zin_SeriesBook, by decide, ztb_of 220 (by decide +kernel) rfl, Or.inl rfl, zYok_SeriesBook, zN_SeriesBook, rfl, fun _ => rfl, by decide +kernel⟩
theorem d_SeriesBook_init_18 : decode prog_11_method_1_code 18 = .ok (.aload_n 0, 1) := by decide +kernel
theorem d_SeriesBook_init_19 : decode prog_11_method_1_code 19 = .ok (.sipush 300, 3) := by decide +kernel
theorem d_SeriesBook_init_22 : decode prog_11_method_1_code 22 = .ok (.newarray .int, 2) := by decide +kernel
theorem d_SeriesBook_init_24 : decode prog_11_method_1_code 24 = .ok (.putfield 19, 3) := by decide +kernel
theorem wP_NumberOffice_SeriesBook_19_5 : zPl "NumberOffice$SeriesBook" 19 5 4 (.array (.int)) true := ⟨"NumberOffice$SeriesBook", zR_SeriesBook, zF_SeriesBook, 8, zY_SeriesBook, rfl, zin_SeriesBook, by decide, ztb_of 221 (by decide +kernel) rfl, Or.inl rfl, zYok_SeriesBook, zN_SeriesBook, rfl, fun _ => rfl, by decide +kernel⟩
theorem d_SeriesBook_init_27 : decode prog_11_method_1_code 27 = .ok (.aload_n 0, 1) := by decide +kernel
theorem d_SeriesBook_init_28 : decode prog_11_method_1_code 28 = .ok (.sipush 300, 3) := by decide +kernel
theorem d_SeriesBook_init_31 : decode prog_11_method_1_code 31 = .ok (.newarray .long, 2) := by decide +kernel
theorem wA_long : Cond.arrayClass .long ∈ ztb := ztb_of 243 (by decide +kernel) rfl
theorem d_SeriesBook_init_33 : decode prog_11_method_1_code 33 = .ok (.putfield 22, 3) := by decide +kernel
theorem wP_NumberOffice_SeriesBook_22_5 : zPl "NumberOffice$SeriesBook" 22 5 5 (.array (.long)) true := ⟨"NumberOffice$SeriesBook", zR_SeriesBook, zF_SeriesBook, 8, zY_SeriesBook, rfl, zin_SeriesBook, by decide, ztb_of 222 (by decide +kernel) rfl, Or.inl rfl, zYok_SeriesBook, zN_SeriesBook, rfl, fun _ => rfl, by decide +kernel⟩
theorem d_SeriesBook_init_36 : decode prog_11_method_1_code 36 = .ok (.aload_n 0, 1) := by decide +kernel
theorem d_SeriesBook_init_37 : decode prog_11_method_1_code 37 = .ok (.sipush 300, 3) := by decide +kernel
theorem d_SeriesBook_init_40 : decode prog_11_method_1_code 40 = .ok (.newarray .int, 2) := by decide +kernel
theorem d_SeriesBook_init_42 : decode prog_11_method_1_code 42 = .ok (.putfield 26, 3) := by decide +kernel
theorem wP_NumberOffice_SeriesBook_26_5 : zPl "NumberOffice$SeriesBook" 26 5 6 (.array (.int)) true := ⟨"NumberOffice$SeriesBook", zR_SeriesBook, zF_SeriesBook, 8, zY_SeriesBook, rfl, zin_SeriesBook, by decide, ztb_of 223 (by decide +kernel) rfl, Or.inl rfl, zYok_SeriesBook, zN_SeriesBook, rfl, fun _ => rfl, by decide +kernel⟩
theorem d_SeriesBook_init_45 : decode prog_11_method_1_code 45 = .ok (.aload_n 0, 1) := by decide +kernel
theorem d_SeriesBook_init_46 : decode prog_11_method_1_code 46 = .ok (.ldc 29, 2) := by decide +kernel
theorem d_SeriesBook_init_48 : decode prog_11_method_1_code 48 = .ok (.putfield 31, 3) := by decide +kernel
theorem wP_NumberOffice_SeriesBook_31_5 : zPl "NumberOffice$SeriesBook" 31 5 7 (.object "java/lang/String") false := ⟨"NumberOffice$SeriesBook", zR_SeriesBook, zF_SeriesBook, 8, zY_SeriesBook, rfl, zin_SeriesBook, by decide, ztb_of 224 (by decide +kernel) rfl, Or.inl rfl, zYok_SeriesBook, zN_SeriesBook, rfl, (fun h => by cases h), by decide +kernel⟩
theorem d_SeriesBook_init_51 : decode prog_11_method_1_code 51 = .ok (.return_, 1) := by decide +kernel
abbrev Y_No_branchAt : MethodName := ⟨"NumberOffice", "branchAt", "(I)LNumberOffice$Branch;"⟩
abbrev K_No_branchAt : zM := (prog_1_method_27_code, 2, "NumberOffice", (some (.object "NumberOffice$Branch")), false, [])
theorem d_No_branchAt_0 : decode prog_1_method_27_code 0 = .ok (.iload_n 1, 1) := by decide +kernel
theorem d_No_branchAt_1 : decode prog_1_method_27_code 1 = .ok (.ifCond .lt 21, 3) := by decide +kernel
theorem d_No_branchAt_4 : decode prog_1_method_27_code 4 = .ok (.iload_n 1, 1) := by decide +kernel
theorem d_No_branchAt_5 : decode prog_1_method_27_code 5 = .ok (.aload_n 0, 1) := by decide +kernel
theorem d_No_branchAt_6 : decode prog_1_method_27_code 6 = .ok (.getfield 20, 3) := by decide +kernel
theorem wF_NumberOffice_20_0 : zFl "NumberOffice" 20 0 0 := ⟨"NumberOffice", zR_NumberOffice, zF_NumberOffice, 3, rfl, zin_NumberOffice, by decide, ztb_of 270 (by decide +kernel) rfl, Or.inl rfl⟩
theorem d_No_branchAt_9 : decode prog_1_method_27_code 9 = .ok (.arraylength, 1) := by decide +kernel
theorem d_No_branchAt_10 : decode prog_1_method_27_code 10 = .ok (.if_icmp .ge 12, 3) := by decide +kernel
theorem d_No_branchAt_13 : decode prog_1_method_27_code 13 = .ok (.aload_n 0, 1) := by decide +kernel
theorem d_No_branchAt_14 : decode prog_1_method_27_code 14 = .ok (.getfield 20, 3) := by decide +kernel
theorem d_No_branchAt_17 : decode prog_1_method_27_code 17 = .ok (.iload_n 1, 1) := by decide +kernel
theorem d_No_branchAt_18 : decode prog_1_method_27_code 18 = .ok (.aaload, 1) := by decide +kernel
theorem d_No_branchAt_19 : decode prog_1_method_27_code 19 = .ok (.goto 4, 3) := by decide +kernel
theorem d_No_branchAt_22 : decode prog_1_method_27_code 22 = .ok (.aconst_null, 1) := by decide +kernel
theorem d_No_branchAt_23 : decode prog_1_method_27_code 23 = .ok (.areturn, 1) := by decide +kernel
abbrev Y_Branch_unanswered : MethodName := ⟨"NumberOffice$Branch", "unanswered", "()LNumberOffice$Letter;"⟩
abbrev K_Branch_unanswered : zM := (prog_4_method_7_code, 1, "NumberOffice$Branch", (some (.object "NumberOffice$Letter")), false, [])
theorem d_Branch_unanswered_0 : decode prog_4_method_7_code 0 = .ok (.aload_n 0, 1) := by decide +kernel
theorem d_Branch_unanswered_1 : decode prog_4_method_7_code 1 = .ok (.getfield 32, 3) := by decide +kernel
theorem wF_NumberOffice_Branch_32_1 : zFl "NumberOffice$Branch" 32 1 3 := ⟨"NumberOffice$Branch", zR_Branch, zF_Branch, 9, rfl, zin_Branch, by decide, ztb_of 169 (by decide +kernel) rfl, Or.inl rfl⟩
theorem d_Branch_unanswered_4 : decode prog_4_method_7_code 4 = .ok (.ifCond .eq 10, 3) := by decide +kernel
theorem d_Branch_unanswered_14 : decode prog_4_method_7_code 14 = .ok (.aconst_null, 1) := by decide +kernel
theorem d_Branch_unanswered_7 : decode prog_4_method_7_code 7 = .ok (.aload_n 0, 1) := by decide +kernel
theorem d_Branch_unanswered_8 : decode prog_4_method_7_code 8 = .ok (.getfield 25, 3) := by decide +kernel
theorem wF_NumberOffice_Branch_25_1 : zFl "NumberOffice$Branch" 25 1 2 := ⟨"NumberOffice$Branch", zR_Branch, zF_Branch, 9, rfl, zin_Branch, by decide, ztb_of 167 (by decide +kernel) rfl, Or.inl rfl⟩
theorem d_Branch_unanswered_11 : decode prog_4_method_7_code 11 = .ok (.goto 4, 3) := by decide +kernel
theorem d_Branch_unanswered_15 : decode prog_4_method_7_code 15 = .ok (.areturn, 1) := by decide +kernel
abbrev Y_Branch_save : MethodName := ⟨"NumberOffice$Branch", "save", "()V"⟩
abbrev K_Branch_save : zM := (prog_4_method_2_code, 2, "NumberOffice$Branch", none, false, [])
theorem d_Branch_save_0 : decode prog_4_method_2_code 0 = .ok (.iconst 0, 1) := by decide +kernel
theorem d_Branch_save_1 : decode prog_4_method_2_code 1 = .ok (.istore_n 1, 1) := by decide +kernel
theorem d_Branch_save_2 : decode prog_4_method_2_code 2 = .ok (.iload_n 1, 1) := by decide +kernel
theorem d_Branch_save_3 : decode prog_4_method_2_code 3 = .ok (.iconst 3, 1) := by decide +kernel
theorem d_Branch_save_4 : decode prog_4_method_2_code 4 = .ok (.if_icmp .ge 18, 3) := by decide +kernel
theorem d_Branch_save_22 : decode prog_4_method_2_code 22 = .ok (.aload_n 0, 1) := by decide +kernel
theorem d_Branch_save_23 : decode prog_4_method_2_code 23 = .ok (.aload_n 0, 1) := by decide +kernel
theorem d_Branch_save_24 : decode prog_4_method_2_code 24 = .ok (.getfield 25, 3) := by decide +kernel
theorem d_Branch_save_27 : decode prog_4_method_2_code 27 = .ok (.putfield 29, 3) := by decide +kernel
theorem wP_NumberOffice_Branch_29_1 : zPl "NumberOffice$Branch" 29 1 5 (.object "NumberOffice$Letter") false := ⟨"NumberOffice$Branch", zR_Branch, zF_Branch, 9, zY_Branch, rfl, zin_Branch, by decide, ztb_of 173 (by decide +kernel) rfl, Or.inl rfl, zYok_Branch, zN_Branch, rfl, (fun h => by cases h), by decide +kernel⟩
theorem d_Branch_save_30 : decode prog_4_method_2_code 30 = .ok (.aload_n 0, 1) := by decide +kernel
theorem d_Branch_save_31 : decode prog_4_method_2_code 31 = .ok (.aload_n 0, 1) := by decide +kernel
theorem d_Branch_save_32 : decode prog_4_method_2_code 32 = .ok (.getfield 32, 3) := by decide +kernel
theorem d_Branch_save_35 : decode prog_4_method_2_code 35 = .ok (.putfield 36, 3) := by decide +kernel
theorem wP_NumberOffice_Branch_36_1 : zPl "NumberOffice$Branch" 36 1 6 (.boolean) false := ⟨"NumberOffice$Branch", zR_Branch, zF_Branch, 9, zY_Branch, rfl, zin_Branch, by decide, ztb_of 174 (by decide +kernel) rfl, Or.inl rfl, zYok_Branch, zN_Branch, rfl, (fun h => by cases h), by decide +kernel⟩
theorem d_Branch_save_38 : decode prog_4_method_2_code 38 = .ok (.aload_n 0, 1) := by decide +kernel
theorem d_Branch_save_39 : decode prog_4_method_2_code 39 = .ok (.aload_n 0, 1) := by decide +kernel
theorem d_Branch_save_40 : decode prog_4_method_2_code 40 = .ok (.getfield 39, 3) := by decide +kernel
theorem wF_NumberOffice_Branch_39_1 : zFl "NumberOffice$Branch" 39 1 4 := ⟨"NumberOffice$Branch", zR_Branch, zF_Branch, 9, rfl, zin_Branch, by decide, ztb_of 171 (by decide +kernel) rfl, Or.inl rfl⟩
theorem d_Branch_save_43 : decode prog_4_method_2_code 43 = .ok (.putfield 42, 3) := by decide +kernel
theorem wP_NumberOffice_Branch_42_1 : zPl "NumberOffice$Branch" 42 1 7 (.boolean) false := ⟨"NumberOffice$Branch", zR_Branch, zF_Branch, 9, zY_Branch, rfl, zin_Branch, by decide, ztb_of 175 (by decide +kernel) rfl, Or.inl rfl, zYok_Branch, zN_Branch, rfl, (fun h => by cases h), by decide +kernel⟩
theorem d_Branch_save_46 : decode prog_4_method_2_code 46 = .ok (.return_, 1) := by decide +kernel
theorem d_Branch_save_7 : decode prog_4_method_2_code 7 = .ok (.aload_n 0, 1) := by decide +kernel
theorem d_Branch_save_8 : decode prog_4_method_2_code 8 = .ok (.getfield 11, 3) := by decide +kernel
theorem wF_NumberOffice_Branch_11_1 : zFl "NumberOffice$Branch" 11 1 1 := ⟨"NumberOffice$Branch", zR_Branch, zF_Branch, 9, rfl, zin_Branch, by decide, ztb_of 166 (by decide +kernel) rfl, Or.inl rfl⟩
theorem d_Branch_save_11 : decode prog_4_method_2_code 11 = .ok (.iload_n 1, 1) := by decide +kernel
theorem d_Branch_save_12 : decode prog_4_method_2_code 12 = .ok (.aaload, 1) := by decide +kernel
theorem d_Branch_save_13 : decode prog_4_method_2_code 13 = .ok (.invokevirtual 22, 3) := by decide +kernel
abbrev Y_BranchSeries_save : MethodName := ⟨"NumberOffice$BranchSeries", "save", "()V"⟩
abbrev K_BranchSeries_save : zM := (prog_5_method_2_code, 1, "NumberOffice$BranchSeries", none, false, [])
theorem d_BranchSeries_save_0 : decode prog_5_method_2_code 0 = .ok (.aload_n 0, 1) := by decide +kernel
theorem d_BranchSeries_save_1 : decode prog_5_method_2_code 1 = .ok (.aload_n 0, 1) := by decide +kernel
theorem d_BranchSeries_save_2 : decode prog_5_method_2_code 2 = .ok (.getfield 12, 3) := by decide +kernel
theorem wF_NumberOffice_BranchSeries_12_2 : zFl "NumberOffice$BranchSeries" 12 2 0 := ⟨"NumberOffice$BranchSeries", zR_BranchSeries, zF_BranchSeries, 10, rfl, zin_BranchSeries, by decide, ztb_of 131 (by decide +kernel) rfl, Or.inl rfl⟩
theorem d_BranchSeries_save_5 : decode prog_5_method_2_code 5 = .ok (.invokevirtual 21, 3) := by decide +kernel
abbrev Y_ArrayList_size : MethodName := ⟨"java/util/ArrayList", "size", "()I"⟩
abbrev K_ArrayList_size : zM := (prog_31_method_8_code, 1, "java/util/ArrayList", (some .int), false, [])
theorem d_ArrayList_size_0 : decode prog_31_method_8_code 0 = .ok (.aload_n 0, 1) := by decide +kernel
theorem d_ArrayList_size_1 : decode prog_31_method_8_code 1 = .ok (.getfield 48, 3) := by decide +kernel
theorem wF_java_util_ArrayList_48_3 : zFl "java/util/ArrayList" 48 3 1 := ⟨"java/util/ArrayList", zR_ArrayList, zF_ArrayList, 3, rfl, zin_ArrayList, by decide, ztb_of 120 (by decide +kernel) rfl, Or.inl rfl⟩
theorem d_ArrayList_size_4 : decode prog_31_method_8_code 4 = .ok (.ireturn, 1) := by decide +kernel
theorem wF_NumberOffice_37_0 : zFl "NumberOffice" 37 0 2 := ⟨"NumberOffice", zR_NumberOffice, zF_NumberOffice, 3, rfl, zin_NumberOffice, by decide, ztb_of 272 (by decide +kernel) rfl, Or.inl rfl⟩
theorem wV_NumberOffice_149 : zVl "NumberOffice" 149 3 Y_ArrayList_size K_ArrayList_size 0 := ⟨zR_ArrayList, zF_ArrayList, 3, rfl, ztb_of 308 (by decide +kernel) rfl, ztb_of 301 (by decide +kernel) rfl, ztb_of 302 (by decide +kernel) rfl, ztb_of 50 (by decide +kernel) rfl, ztb_of 303 (by decide +kernel) rfl, by decide, by decide +kernel⟩
theorem wF_java_util_ArrayList_9_3 : zFl "java/util/ArrayList" 9 3 0 := ⟨"java/util/ArrayList", zR_ArrayList, zF_ArrayList, 3, rfl, zin_ArrayList, by decide, ztb_of 119 (by decide +kernel) rfl, Or.inl rfl⟩
theorem wG_java_util_ArrayList_39 : Cond.fieldLink "java/util/ArrayList" 39 "java/util/ArrayList" "DEFAULTCAPACITY_EMPTY_ELEMENTDATA" "[Ljava/lang/Object;" ∈ ztb := ztb_of 117 (by decide +kernel) rfl
theorem wP_java_util_ArrayList_9_3 : zPl "java/util/ArrayList" 9 3 0 (.array (.object "java/lang/Object")) false := ⟨"java/util/ArrayList", zR_ArrayList, zF_ArrayList, 3, zY_ArrayList, rfl, zin_ArrayList, by decide, ztb_of 119 (by decide +kernel) rfl, Or.inl rfl, zYok_ArrayList, zN_ArrayList, rfl, (fun h => by cases h), by decide +kernel⟩
abbrev Y_ArraysSupport_newLength : MethodName := ⟨"jdk/internal/util/ArraysSupport", "newLength", "(III)I"⟩
abbrev K_ArraysSupport_newLength : zM := (prog_38_method_27_code, 4, "jdk/internal/util/ArraysSupport", (some .int), false, [])
theorem d_ArraysSupport_newLength_0 : decode prog_38_method_27_code 0 = .ok (.iload_n 0, 1) := by decide +kernel
theorem d_ArraysSupport_newLength_1 : decode prog_38_method_27_code 1 = .ok (.iload_n 1, 1) := by decide +kernel
theorem d_ArraysSupport_newLength_2 : decode prog_38_method_27_code 2 = .ok (.iload_n 2, 1) := by decide +kernel
theorem d_ArraysSupport_newLength_3 : decode prog_38_method_27_code 3 = .ok (.invokestatic 194, 3) := by decide +kernel
theorem wM_jdk_internal_util_ArraysSupport_194 : Cond.methodLink "jdk/internal/util/ArraysSupport" 194 Lib.Math.max.name ∈ ztb := ztb_of 328 (by decide +kernel) rfl
theorem d_ArraysSupport_newLength_6 : decode prog_38_method_27_code 6 = .ok (.iadd, 1) := by decide +kernel
theorem d_ArraysSupport_newLength_7 : decode prog_38_method_27_code 7 = .ok (.istore_n 3, 1) := by decide +kernel
theorem d_ArraysSupport_newLength_8 : decode prog_38_method_27_code 8 = .ok (.iconst 0, 1) := by decide +kernel
theorem d_ArraysSupport_newLength_9 : decode prog_38_method_27_code 9 = .ok (.iload_n 3, 1) := by decide +kernel
theorem d_ArraysSupport_newLength_10 : decode prog_38_method_27_code 10 = .ok (.if_icmp .ge 11, 3) := by decide +kernel
theorem d_ArraysSupport_newLength_13 : decode prog_38_method_27_code 13 = .ok (.iload_n 3, 1) := by decide +kernel
theorem d_ArraysSupport_newLength_14 : decode prog_38_method_27_code 14 = .ok (.ldc 200, 2) := by decide +kernel
theorem wC_jdk_internal_util_ArraysSupport_200 : Cond.constant "jdk/internal/util/ArraysSupport" 200 2147483639 ∈ ztb := ztb_of 329 (by decide +kernel) rfl
theorem d_ArraysSupport_newLength_16 : decode prog_38_method_27_code 16 = .ok (.if_icmp .gt 5, 3) := by decide +kernel
theorem d_ArraysSupport_newLength_19 : decode prog_38_method_27_code 19 = .ok (.iload_n 3, 1) := by decide +kernel
theorem d_ArraysSupport_newLength_20 : decode prog_38_method_27_code 20 = .ok (.ireturn, 1) := by decide +kernel
theorem d_ArraysSupport_newLength_21 : decode prog_38_method_27_code 21 = .ok (.iload_n 0, 1) := by decide +kernel
theorem d_ArraysSupport_newLength_22 : decode prog_38_method_27_code 22 = .ok (.iload_n 1, 1) := by decide +kernel
theorem d_ArraysSupport_newLength_23 : decode prog_38_method_27_code 23 = .ok (.invokestatic 201, 3) := by decide +kernel
abbrev Y_ArraysSupport_hugeLength : MethodName := ⟨"jdk/internal/util/ArraysSupport", "hugeLength", "(II)I"⟩
abbrev K_ArraysSupport_hugeLength : zM := (prog_38_method_28_code, 3, "jdk/internal/util/ArraysSupport", (some .int), false, [])
theorem d_ArraysSupport_hugeLength_0 : decode prog_38_method_28_code 0 = .ok (.iload_n 0, 1) := by decide +kernel
theorem d_ArraysSupport_hugeLength_1 : decode prog_38_method_28_code 1 = .ok (.iload_n 1, 1) := by decide +kernel
theorem d_ArraysSupport_hugeLength_2 : decode prog_38_method_28_code 2 = .ok (.iadd, 1) := by decide +kernel
theorem d_ArraysSupport_hugeLength_3 : decode prog_38_method_28_code 3 = .ok (.istore_n 2, 1) := by decide +kernel
theorem d_ArraysSupport_hugeLength_4 : decode prog_38_method_28_code 4 = .ok (.iload_n 2, 1) := by decide +kernel
theorem d_ArraysSupport_hugeLength_5 : decode prog_38_method_28_code 5 = .ok (.ifCond .ge 44, 3) := by decide +kernel
theorem d_ArraysSupport_hugeLength_49 : decode prog_38_method_28_code 49 = .ok (.iload_n 2, 1) := by decide +kernel
theorem d_ArraysSupport_hugeLength_50 : decode prog_38_method_28_code 50 = .ok (.ldc 200, 2) := by decide +kernel
theorem d_ArraysSupport_hugeLength_52 : decode prog_38_method_28_code 52 = .ok (.if_icmp .gt 6, 3) := by decide +kernel
theorem d_ArraysSupport_hugeLength_58 : decode prog_38_method_28_code 58 = .ok (.iload_n 2, 1) := by decide +kernel
theorem d_ArraysSupport_hugeLength_59 : decode prog_38_method_28_code 59 = .ok (.ireturn, 1) := by decide +kernel
theorem d_ArraysSupport_hugeLength_55 : decode prog_38_method_28_code 55 = .ok (.ldc 200, 2) := by decide +kernel
theorem d_ArraysSupport_hugeLength_57 : decode prog_38_method_28_code 57 = .ok (.ireturn, 1) := by decide +kernel
abbrev Y_No_sideAt : MethodName := ⟨"NumberOffice", "sideAt", "(I)LNumberOffice$Side;"⟩
abbrev K_No_sideAt : zM := (prog_1_method_28_code, 2, "NumberOffice", (some (.object "NumberOffice$Side")), false, [])
theorem d_No_sideAt_0 : decode prog_1_method_28_code 0 = .ok (.iload_n 1, 1) := by decide +kernel
theorem d_No_sideAt_1 : decode prog_1_method_28_code 1 = .ok (.aload_n 0, 1) := by decide +kernel
theorem d_No_sideAt_2 : decode prog_1_method_28_code 2 = .ok (.getfield 20, 3) := by decide +kernel
theorem d_No_sideAt_5 : decode prog_1_method_28_code 5 = .ok (.arraylength, 1) := by decide +kernel
theorem d_No_sideAt_6 : decode prog_1_method_28_code 6 = .ok (.if_icmp .ne 10, 3) := by decide +kernel
theorem d_No_sideAt_16 : decode prog_1_method_28_code 16 = .ok (.aload_n 0, 1) := by decide +kernel
theorem d_No_sideAt_17 : decode prog_1_method_28_code 17 = .ok (.iload_n 1, 1) := by decide +kernel
theorem d_No_sideAt_18 : decode prog_1_method_28_code 18 = .ok (.invokevirtual 55, 3) := by decide +kernel
theorem wV_NumberOffice_55 : zVl "NumberOffice" 55 0 Y_No_branchAt K_No_branchAt 1 := ⟨zR_NumberOffice, zF_NumberOffice, 3, rfl, ztb_of 284 (by decide +kernel) rfl, ztb_of 286 (by decide +kernel) rfl, ztb_of 0 (by decide +kernel) rfl, ztb_of 43 (by decide +kernel) rfl, ztb_of 287 (by decide +kernel) rfl, by decide, by decide +kernel⟩
theorem d_No_sideAt_9 : decode prog_1_method_28_code 9 = .ok (.aload_n 0, 1) := by decide +kernel
theorem d_No_sideAt_10 : decode prog_1_method_28_code 10 = .ok (.getfield 30, 3) := by decide +kernel
theorem wF_NumberOffice_30_0 : zFl "NumberOffice" 30 0 1 := ⟨"NumberOffice", zR_NumberOffice, zF_NumberOffice, 3, rfl, zin_NumberOffice, by decide, ztb_of 271 (by decide +kernel) rfl, Or.inl rfl⟩
theorem d_No_sideAt_13 : decode prog_1_method_28_code 13 = .ok (.goto 8, 3) := by decide +kernel
theorem d_No_sideAt_21 : decode prog_1_method_28_code 21 = .ok (.areturn, 1) := by decide +kernel
theorem wV_NumberOffice_BranchSeries_21 : zVl "NumberOffice$BranchSeries" 21 3 Y_ArrayList_size K_ArrayList_size 0 := ⟨zR_ArrayList, zF_ArrayList, 3, rfl, ztb_of 300 (by decide +kernel) rfl, ztb_of 301 (by decide +kernel) rfl, ztb_of 302 (by decide +kernel) rfl, ztb_of 50 (by decide +kernel) rfl, ztb_of 303 (by decide +kernel) rfl, by decide, by decide +kernel⟩
theorem wF_NumberOffice_BranchSeries_18_2 : zFl "NumberOffice$BranchSeries" 18 2 1 := ⟨"NumberOffice$BranchSeries", zR_BranchSeries, zF_BranchSeries, 10, rfl, zin_BranchSeries, by decide, ztb_of 133 (by decide +kernel) rfl, Or.inl rfl⟩
abbrev Y_Objects_checkIndex : MethodName := ⟨"java/util/Objects", "checkIndex", "(II)I"⟩
abbrev K_Objects_checkIndex : zM := (prog_35_method_17_code, 2, "java/util/Objects", (some .int), false, [])
theorem d_Objects_checkIndex_0 : decode prog_35_method_17_code 0 = .ok (.iload_n 0, 1) := by decide +kernel
theorem d_Objects_checkIndex_1 : decode prog_35_method_17_code 1 = .ok (.iload_n 1, 1) := by decide +kernel
theorem d_Objects_checkIndex_2 : decode prog_35_method_17_code 2 = .ok (.aconst_null, 1) := by decide +kernel
theorem d_Objects_checkIndex_3 : decode prog_35_method_17_code 3 = .ok (.invokestatic 105, 3) := by decide +kernel
abbrev Y_Preconditions_checkIndex : MethodName := ⟨"jdk/internal/util/Preconditions", "checkIndex", "(IILjava/util/function/BiFunction;)I"⟩
abbrev K_Preconditions_checkIndex : zM := (prog_39_method_11_code, 3, "jdk/internal/util/Preconditions", (some .int), false, [])
theorem d_Preconditions_checkIndex_0 : decode prog_39_method_11_code 0 = .ok (.iload_n 0, 1) := by decide +kernel
theorem d_Preconditions_checkIndex_1 : decode prog_39_method_11_code 1 = .ok (.ifCond .lt 8, 3) := by decide +kernel
theorem d_Preconditions_checkIndex_4 : decode prog_39_method_11_code 4 = .ok (.iload_n 0, 1) := by decide +kernel
theorem d_Preconditions_checkIndex_5 : decode prog_39_method_11_code 5 = .ok (.iload_n 1, 1) := by decide +kernel
theorem d_Preconditions_checkIndex_6 : decode prog_39_method_11_code 6 = .ok (.if_icmp .lt 10, 3) := by decide +kernel
theorem d_Preconditions_checkIndex_16 : decode prog_39_method_11_code 16 = .ok (.iload_n 0, 1) := by decide +kernel
theorem d_Preconditions_checkIndex_17 : decode prog_39_method_11_code 17 = .ok (.ireturn, 1) := by decide +kernel
theorem d_Preconditions_checkIndex_9 : decode prog_39_method_11_code 9 = .ok (.aload_n 2, 1) := by decide +kernel
theorem d_Preconditions_checkIndex_10 : decode prog_39_method_11_code 10 = .ok (.iload_n 0, 1) := by decide +kernel
theorem d_Preconditions_checkIndex_11 : decode prog_39_method_11_code 11 = .ok (.iload_n 1, 1) := by decide +kernel
theorem wF_NumberOffice_Office_17_4 : zFl "NumberOffice$Office" 17 4 1 := ⟨"NumberOffice$Office", zR_Office, zF_Office, 7, rfl, zin_Office, by decide, ztb_of 248 (by decide +kernel) rfl, Or.inl rfl⟩
theorem wF_NumberOffice_SeriesBook_11_5 : zFl "NumberOffice$SeriesBook" 11 5 0 := ⟨"NumberOffice$SeriesBook", zR_SeriesBook, zF_SeriesBook, 8, rfl, zin_SeriesBook, by decide, ztb_of 215 (by decide +kernel) rfl, Or.inl rfl⟩
theorem wP_NumberOffice_SeriesBook_35_5 : zPl "NumberOffice$SeriesBook" 35 5 1 (.int) false := ⟨"NumberOffice$SeriesBook", zR_SeriesBook, zF_SeriesBook, 8, zY_SeriesBook, rfl, zin_SeriesBook, by decide, ztb_of 216 (by decide +kernel) rfl, Or.inl rfl, zYok_SeriesBook, zN_SeriesBook, rfl, (fun h => by cases h), by decide +kernel⟩
theorem wF_NumberOffice_SeriesBook_38_5 : zFl "NumberOffice$SeriesBook" 38 5 2 := ⟨"NumberOffice$SeriesBook", zR_SeriesBook, zF_SeriesBook, 8, rfl, zin_SeriesBook, by decide, ztb_of 219 (by decide +kernel) rfl, Or.inl rfl⟩
theorem wP_NumberOffice_SeriesBook_38_5 : zPl "NumberOffice$SeriesBook" 38 5 2 (.int) false := ⟨"NumberOffice$SeriesBook", zR_SeriesBook, zF_SeriesBook, 8, zY_SeriesBook, rfl, zin_SeriesBook, by decide, ztb_of 219 (by decide +kernel) rfl, Or.inl rfl, zYok_SeriesBook, zN_SeriesBook, rfl, (fun h => by cases h), by decide +kernel⟩
theorem wF_NumberOffice_SeriesBook_15_5 : zFl "NumberOffice$SeriesBook" 15 5 3 := ⟨"NumberOffice$SeriesBook", zR_SeriesBook, zF_SeriesBook, 8, rfl, zin_SeriesBook, by decide, ztb_of 220 (by decide +kernel) rfl, Or.inl rfl⟩
abbrev Y_No_mount : MethodName := ⟨"NumberOffice", "mount", "(I)Z"⟩
abbrev K_No_mount : zM := (prog_1_method_12_code, 3, "NumberOffice", (some .boolean), false, [])
theorem d_No_mount_0 : decode prog_1_method_12_code 0 = .ok (.aload_n 0, 1) := by decide +kernel
theorem d_No_mount_1 : decode prog_1_method_12_code 1 = .ok (.iload_n 1, 1) := by decide +kernel
theorem d_No_mount_2 : decode prog_1_method_12_code 2 = .ok (.invokevirtual 138, 3) := by decide +kernel
theorem wV_NumberOffice_138 : zVl "NumberOffice" 138 0 Y_No_sideAt K_No_sideAt 1 := ⟨zR_NumberOffice, zF_NumberOffice, 3, rfl, ztb_of 371 (by decide +kernel) rfl, ztb_of 373 (by decide +kernel) rfl, ztb_of 5 (by decide +kernel) rfl, ztb_of 43 (by decide +kernel) rfl, ztb_of 374 (by decide +kernel) rfl, by decide, by decide +kernel⟩
theorem d_No_mount_5 : decode prog_1_method_12_code 5 = .ok (.astore_n 2, 1) := by decide +kernel
theorem d_No_mount_6 : decode prog_1_method_12_code 6 = .ok (.aload_n 2, 1) := by decide +kernel
theorem d_No_mount_7 : decode prog_1_method_12_code 7 = .ok (.ifnull 10, 3) := by decide +kernel
theorem d_No_mount_10 : decode prog_1_method_12_code 10 = .ok (.aload_n 2, 1) := by decide +kernel
theorem d_No_mount_11 : decode prog_1_method_12_code 11 = .ok (.getfield 142, 3) := by decide +kernel
theorem wF_NumberOffice_142_1 : zFl "NumberOffice" 142 1 8 := ⟨"NumberOffice$Side", zR_Branch, zF_Branch, 9, rfl, zin_Branch, by decide, ztb_of 179 (by decide +kernel) rfl, Or.inl rfl⟩
theorem wF_NumberOffice_142_4 : zFl "NumberOffice" 142 4 6 := ⟨"NumberOffice$Side", zR_Office, zF_Office, 7, rfl, zin_Office, by decide, ztb_of 179 (by decide +kernel) rfl, Or.inl rfl⟩
theorem d_No_mount_14 : decode prog_1_method_12_code 14 = .ok (.ifCond .eq 5, 3) := by decide +kernel
theorem d_No_mount_19 : decode prog_1_method_12_code 19 = .ok (.aload_n 2, 1) := by decide +kernel
theorem d_No_mount_20 : decode prog_1_method_12_code 20 = .ok (.iconst 1, 1) := by decide +kernel
theorem d_No_mount_21 : decode prog_1_method_12_code 21 = .ok (.putfield 142, 3) := by decide +kernel
theorem wP_NumberOffice_142_1 : zPl "NumberOffice" 142 1 8 (.boolean) false := ⟨"NumberOffice$Side", zR_Branch, zF_Branch, 9, zY_Branch, rfl, zin_Branch, by decide, ztb_of 179 (by decide +kernel) rfl, Or.inl rfl, zYok_Branch, zN_Branch, rfl, (fun h => by cases h), by decide +kernel⟩
theorem wP_NumberOffice_142_4 : zPl "NumberOffice" 142 4 6 (.boolean) false := ⟨"NumberOffice$Side", zR_Office, zF_Office, 7, zY_Office, rfl, zin_Office, by decide, ztb_of 179 (by decide +kernel) rfl, Or.inl rfl, zYok_Office, zN_Office, rfl, (fun h => by cases h), by decide +kernel⟩
theorem d_No_mount_24 : decode prog_1_method_12_code 24 = .ok (.iconst 1, 1) := by decide +kernel
theorem d_No_mount_25 : decode prog_1_method_12_code 25 = .ok (.ireturn, 1) := by decide +kernel
theorem d_No_mount_17 : decode prog_1_method_12_code 17 = .ok (.iconst 0, 1) := by decide +kernel
theorem d_No_mount_18 : decode prog_1_method_12_code 18 = .ok (.ireturn, 1) := by decide +kernel
abbrev Y_No_letters : MethodName := ⟨"NumberOffice", "letters", "()I"⟩
abbrev K_No_letters : zM := (prog_1_method_14_code, 1, "NumberOffice", (some .int), false, [])
theorem d_No_letters_0 : decode prog_1_method_14_code 0 = .ok (.aload_n 0, 1) := by decide +kernel
theorem d_No_letters_1 : decode prog_1_method_14_code 1 = .ok (.getfield 37, 3) := by decide +kernel
theorem d_No_letters_4 : decode prog_1_method_14_code 4 = .ok (.invokevirtual 149, 3) := by decide +kernel
theorem d_No_letters_7 : decode prog_1_method_14_code 7 = .ok (.ireturn, 1) := by decide +kernel
abbrev Y_No_letter : MethodName := ⟨"NumberOffice", "letter", "(II)I"⟩
abbrev K_No_letter : zM := (prog_1_method_15_code, 4, "NumberOffice", (some .int), false, [])
theorem d_No_letter_0 : decode prog_1_method_15_code 0 = .ok (.aload_n 0, 1) := by decide +kernel
theorem d_No_letter_1 : decode prog_1_method_15_code 1 = .ok (.iload_n 1, 1) := by decide +kernel
theorem d_No_letter_2 : decode prog_1_method_15_code 2 = .ok (.invokevirtual 152, 3) := by decide +kernel
abbrev Y_No_mailAt : MethodName := ⟨"NumberOffice", "mailAt", "(I)LNumberOffice$Mail;"⟩
abbrev K_No_mailAt : zM := (prog_1_method_29_code, 2, "NumberOffice", (some (.object "NumberOffice$Mail")), false, [])
theorem d_No_mailAt_0 : decode prog_1_method_29_code 0 = .ok (.iload_n 1, 1) := by decide +kernel
theorem d_No_mailAt_1 : decode prog_1_method_29_code 1 = .ok (.ifCond .lt 28, 3) := by decide +kernel
theorem d_No_mailAt_4 : decode prog_1_method_29_code 4 = .ok (.iload_n 1, 1) := by decide +kernel
theorem d_No_mailAt_5 : decode prog_1_method_29_code 5 = .ok (.aload_n 0, 1) := by decide +kernel
theorem d_No_mailAt_6 : decode prog_1_method_29_code 6 = .ok (.getfield 37, 3) := by decide +kernel
theorem d_No_mailAt_9 : decode prog_1_method_29_code 9 = .ok (.invokevirtual 149, 3) := by decide +kernel
theorem d_No_mailAt_12 : decode prog_1_method_29_code 12 = .ok (.if_icmp .ge 17, 3) := by decide +kernel
theorem d_No_mailAt_15 : decode prog_1_method_29_code 15 = .ok (.aload_n 0, 1) := by decide +kernel
theorem d_No_mailAt_16 : decode prog_1_method_29_code 16 = .ok (.getfield 37, 3) := by decide +kernel
theorem d_No_mailAt_19 : decode prog_1_method_29_code 19 = .ok (.iload_n 1, 1) := by decide +kernel
theorem d_No_mailAt_20 : decode prog_1_method_29_code 20 = .ok (.invokevirtual 212, 3) := by decide +kernel
abbrev Y_ArrayList_get : MethodName := ⟨"java/util/ArrayList", "get", "(I)Ljava/lang/Object;"⟩
abbrev K_ArrayList_get : zM := (prog_31_method_20_code, 2, "java/util/ArrayList", (some (.object "java/lang/Object")), false, [])
theorem d_ArrayList_get_0 : decode prog_31_method_20_code 0 = .ok (.iload_n 1, 1) := by decide +kernel
theorem d_ArrayList_get_1 : decode prog_31_method_20_code 1 = .ok (.aload_n 0, 1) := by decide +kernel
theorem d_ArrayList_get_2 : decode prog_31_method_20_code 2 = .ok (.getfield 48, 3) := by decide +kernel
theorem d_ArrayList_get_5 : decode prog_31_method_20_code 5 = .ok (.invokestatic 118, 3) := by decide +kernel
abbrev Y_ArrayList_elementData : MethodName := ⟨"java/util/ArrayList", "elementData", "(I)Ljava/lang/Object;"⟩
abbrev K_ArrayList_elementData : zM := (prog_31_method_18_code, 2, "java/util/ArrayList", (some (.object "java/lang/Object")), false, [])
theorem d_ArrayList_elementData_0 : decode prog_31_method_18_code 0 = .ok (.aload_n 0, 1) := by decide +kernel
theorem d_ArrayList_elementData_1 : decode prog_31_method_18_code 1 = .ok (.getfield 9, 3) := by decide +kernel
theorem d_ArrayList_elementData_4 : decode prog_31_method_18_code 4 = .ok (.iload_n 1, 1) := by decide +kernel
theorem d_ArrayList_elementData_5 : decode prog_31_method_18_code 5 = .ok (.aaload, 1) := by decide +kernel
theorem d_ArrayList_elementData_6 : decode prog_31_method_18_code 6 = .ok (.areturn, 1) := by decide +kernel
theorem wF_NumberOffice_Office_49_9 : zFl "NumberOffice$Office" 49 9 4 := ⟨"NumberOffice$Letter", zR_Letter, zF_Letter, 6, rfl, zin_Letter, by decide, ztb_of 490 (by decide +kernel) rfl, Or.inr (ztb_of 488 (by decide +kernel) rfl)⟩
abbrev Y_Office_knows : MethodName := ⟨"NumberOffice$Office", "knows", "(I)Z"⟩
abbrev K_Office_knows : zM := (prog_10_method_5_code, 2, "NumberOffice$Office", (some .boolean), false, [])
theorem d_Office_knows_0 : decode prog_10_method_5_code 0 = .ok (.iload_n 1, 1) := by decide +kernel
theorem d_Office_knows_1 : decode prog_10_method_5_code 1 = .ok (.ifCond .lt 16, 3) := by decide +kernel
theorem d_Office_knows_4 : decode prog_10_method_5_code 4 = .ok (.iload_n 1, 1) := by decide +kernel
theorem d_Office_knows_5 : decode prog_10_method_5_code 5 = .ok (.aload_n 0, 1) := by decide +kernel
theorem d_Office_knows_6 : decode prog_10_method_5_code 6 = .ok (.getfield 21, 3) := by decide +kernel
theorem wF_NumberOffice_Office_21_4 : zFl "NumberOffice$Office" 21 4 2 := ⟨"NumberOffice$Office", zR_Office, zF_Office, 7, rfl, zin_Office, by decide, ztb_of 249 (by decide +kernel) rfl, Or.inl rfl⟩
theorem d_Office_knows_9 : decode prog_10_method_5_code 9 = .ok (.arraylength, 1) := by decide +kernel
theorem d_Office_knows_10 : decode prog_10_method_5_code 10 = .ok (.if_icmp .ge 7, 3) := by decide +kernel
theorem d_Office_knows_13 : decode prog_10_method_5_code 13 = .ok (.iconst 1, 1) := by decide +kernel
theorem d_Office_knows_14 : decode prog_10_method_5_code 14 = .ok (.goto 4, 3) := by decide +kernel
theorem d_Office_knows_17 : decode prog_10_method_5_code 17 = .ok (.iconst 0, 1) := by decide +kernel
theorem d_Office_knows_18 : decode prog_10_method_5_code 18 = .ok (.ireturn, 1) := by decide +kernel
abbrev Y_Office_take : MethodName := ⟨"NumberOffice$Office", "take", "(LNumberOffice$Letter;)LNumberOffice$Answer;"⟩
abbrev K_Office_take : zM := (prog_10_method_8_code, 5, "NumberOffice$Office", (some (.object "NumberOffice$Answer")), false, [])
theorem d_Office_take_0 : decode prog_10_method_8_code 0 = .ok (.aload_n 0, 1) := by decide +kernel
theorem d_Office_take_1 : decode prog_10_method_8_code 1 = .ok (.aload_n 1, 1) := by decide +kernel
theorem d_Office_take_2 : decode prog_10_method_8_code 2 = .ok (.getfield 66, 3) := by decide +kernel
theorem wF_NumberOffice_Office_66_9 : zFl "NumberOffice$Office" 66 9 0 := ⟨"NumberOffice$Letter", zR_Letter, zF_Letter, 6, rfl, zin_Letter, by decide, ztb_of 707 (by decide +kernel) rfl, Or.inl rfl⟩
theorem d_Office_take_5 : decode prog_10_method_8_code 5 = .ok (.invokevirtual 69, 3) := by decide +kernel
abbrev Y_Office_bookAt : MethodName := ⟨"NumberOffice$Office", "bookAt", "(I)LNumberOffice$SeriesBook;"⟩
abbrev K_Office_bookAt : zM := (prog_10_method_4_code, 2, "NumberOffice$Office", (some (.object "NumberOffice$SeriesBook")), false, [])
theorem d_Office_bookAt_0 : decode prog_10_method_4_code 0 = .ok (.iload_n 1, 1) := by decide +kernel
theorem d_Office_bookAt_1 : decode prog_10_method_4_code 1 = .ok (.ifCond .lt 17, 3) := by decide +kernel
theorem d_Office_bookAt_4 : decode prog_10_method_4_code 4 = .ok (.iload_n 1, 1) := by decide +kernel
theorem d_Office_bookAt_5 : decode prog_10_method_4_code 5 = .ok (.iconst 3, 1) := by decide +kernel
theorem d_Office_bookAt_6 : decode prog_10_method_4_code 6 = .ok (.if_icmp .ge 12, 3) := by decide +kernel
theorem d_Office_bookAt_9 : decode prog_10_method_4_code 9 = .ok (.aload_n 0, 1) := by decide +kernel
theorem d_Office_bookAt_10 : decode prog_10_method_4_code 10 = .ok (.getfield 11, 3) := by decide +kernel
theorem d_Office_bookAt_13 : decode prog_10_method_4_code 13 = .ok (.iload_n 1, 1) := by decide +kernel
theorem d_Office_bookAt_14 : decode prog_10_method_4_code 14 = .ok (.aaload, 1) := by decide +kernel
theorem d_Office_bookAt_15 : decode prog_10_method_4_code 15 = .ok (.goto 4, 3) := by decide +kernel
theorem d_Office_bookAt_18 : decode prog_10_method_4_code 18 = .ok (.aconst_null, 1) := by decide +kernel
theorem d_Office_bookAt_19 : decode prog_10_method_4_code 19 = .ok (.areturn, 1) := by decide +kernel
abbrev Y_Answer_init : MethodName := ⟨"NumberOffice$Answer", "<init>", "(LNumberOffice$Letter;ZLNumberOffice$Block;)V"⟩
abbrev K_Answer_init : zM := (prog_2_method_1_code, 4, "NumberOffice$Answer", none, true, [])
theorem d_Answer_init_0 : decode prog_2_method_1_code 0 = .ok (.aload_n 0, 1) := by decide +kernel
theorem d_Answer_init_1 : decode prog_2_method_1_code 1 = .ok (.iconst 3, 1) := by decide +kernel
theorem d_Answer_init_2 : decode prog_2_method_1_code 2 = .ok (.aload_n 1, 1) := by decide +kernel
theorem d_Answer_init_3 : decode prog_2_method_1_code 3 = .ok (.getfield 3, 3) := by decide +kernel
theorem wF_NumberOffice_Answer_3_9 : zFl "NumberOffice$Answer" 3 9 4 := ⟨"NumberOffice$Letter", zR_Letter, zF_Letter, 6, rfl, zin_Letter, by decide, ztb_of 487 (by decide +kernel) rfl, Or.inr (ztb_of 488 (by decide +kernel) rfl)⟩
theorem d_Answer_init_6 : decode prog_2_method_1_code 6 = .ok (.aload_n 1, 1) := by decide +kernel
theorem d_Answer_init_7 : decode prog_2_method_1_code 7 = .ok (.getfield 9, 3) := by decide +kernel
theorem wF_NumberOffice_Answer_9_9 : zFl "NumberOffice$Answer" 9 9 5 := ⟨"NumberOffice$Letter", zR_Letter, zF_Letter, 6, rfl, zin_Letter, by decide, ztb_of 494 (by decide +kernel) rfl, Or.inr (ztb_of 495 (by decide +kernel) rfl)⟩
theorem d_Answer_init_10 : decode prog_2_method_1_code 10 = .ok (.invokespecial 12, 3) := by decide +kernel
abbrev Y_Mail_init : MethodName := ⟨"NumberOffice$Mail", "<init>", "(III)V"⟩
abbrev K_Mail_init : zM := (prog_9_method_1_code, 4, "NumberOffice$Mail", none, true, [])
theorem d_Mail_init_0 : decode prog_9_method_1_code 0 = .ok (.aload_n 0, 1) := by decide +kernel
theorem d_Mail_init_1 : decode prog_9_method_1_code 1 = .ok (.invokespecial 1, 3) := by decide +kernel
theorem wO_NumberOffice_Mail_1 : Cond.methodLink "NumberOffice$Mail" 1 objectInit ∈ ztb := ztb_of 477 (by decide +kernel) rfl
theorem d_Mail_init_4 : decode prog_9_method_1_code 4 = .ok (.aload_n 0, 1) := by decide +kernel
theorem d_Mail_init_5 : decode prog_9_method_1_code 5 = .ok (.iload_n 1, 1) := by decide +kernel
theorem d_Mail_init_6 : decode prog_9_method_1_code 6 = .ok (.putfield 7, 3) := by decide +kernel
theorem wP_NumberOffice_Mail_7_9 : zPl "NumberOffice$Mail" 7 9 3 (.int) true := ⟨"NumberOffice$Mail", zR_Letter, zF_Letter, 6, zY_Letter, rfl, zin_Letter, by decide, ztb_of 482 (by decide +kernel) rfl, Or.inl rfl, zYok_Letter, zN_Letter, rfl, fun _ => rfl, by decide +kernel⟩
theorem wP_NumberOffice_Mail_7_6 : zPl "NumberOffice$Mail" 7 6 2 (.int) true := ⟨"NumberOffice$Mail", zR_Answer, zF_Answer, 5, zY_Answer, rfl, zin_Answer, by decide, ztb_of 482 (by decide +kernel) rfl, Or.inl rfl, zYok_Answer, zN_Answer, rfl, fun _ => rfl, by decide +kernel⟩
theorem d_Mail_init_9 : decode prog_9_method_1_code 9 = .ok (.aload_n 0, 1) := by decide +kernel
theorem d_Mail_init_10 : decode prog_9_method_1_code 10 = .ok (.iload_n 2, 1) := by decide +kernel
theorem d_Mail_init_11 : decode prog_9_method_1_code 11 = .ok (.putfield 13, 3) := by decide +kernel
theorem wP_NumberOffice_Mail_13_9 : zPl "NumberOffice$Mail" 13 9 4 (.int) true := ⟨"NumberOffice$Mail", zR_Letter, zF_Letter, 6, zY_Letter, rfl, zin_Letter, by decide, ztb_of 489 (by decide +kernel) rfl, Or.inl rfl, zYok_Letter, zN_Letter, rfl, fun _ => rfl, by decide +kernel⟩
theorem wP_NumberOffice_Mail_13_6 : zPl "NumberOffice$Mail" 13 6 3 (.int) true := ⟨"NumberOffice$Mail", zR_Answer, zF_Answer, 5, zY_Answer, rfl, zin_Answer, by decide, ztb_of 489 (by decide +kernel) rfl, Or.inl rfl, zYok_Answer, zN_Answer, rfl, fun _ => rfl, by decide +kernel⟩
theorem d_Mail_init_14 : decode prog_9_method_1_code 14 = .ok (.aload_n 0, 1) := by decide +kernel
theorem d_Mail_init_15 : decode prog_9_method_1_code 15 = .ok (.iload_n 3, 1) := by decide +kernel
theorem d_Mail_init_16 : decode prog_9_method_1_code 16 = .ok (.putfield 16, 3) := by decide +kernel
theorem wP_NumberOffice_Mail_16_9 : zPl "NumberOffice$Mail" 16 9 5 (.int) true := ⟨"NumberOffice$Mail", zR_Letter, zF_Letter, 6, zY_Letter, rfl, zin_Letter, by decide, ztb_of 496 (by decide +kernel) rfl, Or.inl rfl, zYok_Letter, zN_Letter, rfl, fun _ => rfl, by decide +kernel⟩
theorem wP_NumberOffice_Mail_16_6 : zPl "NumberOffice$Mail" 16 6 4 (.int) true := ⟨"NumberOffice$Mail", zR_Answer, zF_Answer, 5, zY_Answer, rfl, zin_Answer, by decide, ztb_of 496 (by decide +kernel) rfl, Or.inl rfl, zYok_Answer, zN_Answer, rfl, fun _ => rfl, by decide +kernel⟩
theorem d_Mail_init_19 : decode prog_9_method_1_code 19 = .ok (.return_, 1) := by decide +kernel
abbrev Y_SeriesBook_give : MethodName := ⟨"NumberOffice$SeriesBook", "give", "(II)LNumberOffice$Block;"⟩
abbrev K_SeriesBook_give : zM := (prog_11_method_8_code, 6, "NumberOffice$SeriesBook", (some (.object "NumberOffice$Block")), false, [])
theorem d_SeriesBook_give_0 : decode prog_11_method_8_code 0 = .ok (.aload_n 0, 1) := by decide +kernel
theorem d_SeriesBook_give_1 : decode prog_11_method_8_code 1 = .ok (.getfield 11, 3) := by decide +kernel
theorem d_SeriesBook_give_4 : decode prog_11_method_8_code 4 = .ok (.iconst 1, 1) := by decide +kernel
theorem d_SeriesBook_give_5 : decode prog_11_method_8_code 5 = .ok (.if_icmp .ne 18, 3) := by decide +kernel
theorem d_SeriesBook_give_23 : decode prog_11_method_8_code 23 = .ok (.iconst 0, 1) := by decide +kernel
theorem d_SeriesBook_give_8 : decode prog_11_method_8_code 8 = .ok (.iload_n 2, 1) := by decide +kernel
theorem d_SeriesBook_give_9 : decode prog_11_method_8_code 9 = .ok (.sipush 300, 3) := by decide +kernel
theorem d_SeriesBook_give_12 : decode prog_11_method_8_code 12 = .ok (.aload_n 0, 1) := by decide +kernel
theorem d_SeriesBook_give_13 : decode prog_11_method_8_code 13 = .ok (.getfield 38, 3) := by decide +kernel
theorem d_SeriesBook_give_16 : decode prog_11_method_8_code 16 = .ok (.isub, 1) := by decide +kernel
theorem d_SeriesBook_give_17 : decode prog_11_method_8_code 17 = .ok (.invokestatic 58, 3) := by decide +kernel
theorem wM_NumberOffice_SeriesBook_58 : Cond.methodLink "NumberOffice$SeriesBook" 58 Lib.Math.min.name ∈ ztb := ztb_of 519 (by decide +kernel) rfl
theorem d_SeriesBook_give_20 : decode prog_11_method_8_code 20 = .ok (.goto 4, 3) := by decide +kernel
theorem d_SeriesBook_give_24 : decode prog_11_method_8_code 24 = .ok (.istore_n 3, 1) := by decide +kernel
theorem d_SeriesBook_give_25 : decode prog_11_method_8_code 25 = .ok (.iload_n 3, 1) := by decide +kernel
theorem d_SeriesBook_give_26 : decode prog_11_method_8_code 26 = .ok (.iconst 1, 1) := by decide +kernel
theorem d_SeriesBook_give_27 : decode prog_11_method_8_code 27 = .ok (.if_icmp .ge 5, 3) := by decide +kernel
theorem d_SeriesBook_give_32 : decode prog_11_method_8_code 32 = .ok (.new 64, 3) := by decide +kernel
theorem wN_NumberOffice_SeriesBook_64 : zNl "NumberOffice$SeriesBook" 64 7 2 [.int 0, .int 0] := ⟨zR_Block, zF_Block, zY_Block, rfl, zin_Block, zYok_Block, ztb_of 520 (by decide +kernel) rfl, ztb_of 521 (by decide +kernel) rfl, ztb_of 73 (by decide +kernel) rfl, by decide⟩
theorem d_SeriesBook_give_35 : decode prog_11_method_8_code 35 = .ok (.dup, 1) := by decide +kernel
theorem d_SeriesBook_give_36 : decode prog_11_method_8_code 36 = .ok (.aload_n 0, 1) := by decide +kernel
theorem d_SeriesBook_give_37 : decode prog_11_method_8_code 37 = .ok (.getfield 38, 3) := by decide +kernel
theorem d_SeriesBook_give_40 : decode prog_11_method_8_code 40 = .ok (.iconst 1, 1) := by decide +kernel
theorem d_SeriesBook_give_41 : decode prog_11_method_8_code 41 = .ok (.iadd, 1) := by decide +kernel
theorem d_SeriesBook_give_42 : decode prog_11_method_8_code 42 = .ok (.iload_n 3, 1) := by decide +kernel
theorem d_SeriesBook_give_43 : decode prog_11_method_8_code 43 = .ok (.invokespecial 66, 3) := by decide +kernel
abbrev Y_Block_init : MethodName := ⟨"NumberOffice$Block", "<init>", "(II)V"⟩
abbrev K_Block_init : zM := (prog_3_method_1_code, 3, "NumberOffice$Block", none, true, [])
theorem d_Block_init_0 : decode prog_3_method_1_code 0 = .ok (.aload_n 0, 1) := by decide +kernel
theorem d_Block_init_1 : decode prog_3_method_1_code 1 = .ok (.invokespecial 1, 3) := by decide +kernel
theorem wO_NumberOffice_Block_1 : Cond.methodLink "NumberOffice$Block" 1 objectInit ∈ ztb := ztb_of 525 (by decide +kernel) rfl
theorem d_Block_init_4 : decode prog_3_method_1_code 4 = .ok (.aload_n 0, 1) := by decide +kernel
theorem d_Block_init_5 : decode prog_3_method_1_code 5 = .ok (.iload_n 1, 1) := by decide +kernel
theorem d_Block_init_6 : decode prog_3_method_1_code 6 = .ok (.putfield 7, 3) := by decide +kernel
theorem wP_NumberOffice_Block_7_7 : zPl "NumberOffice$Block" 7 7 0 (.int) true := ⟨"NumberOffice$Block", zR_Block, zF_Block, 2, zY_Block, rfl, zin_Block, by decide, ztb_of 526 (by decide +kernel) rfl, Or.inl rfl, zYok_Block, zN_Block, rfl, fun _ => rfl, by decide +kernel⟩
theorem d_Block_init_9 : decode prog_3_method_1_code 9 = .ok (.aload_n 0, 1) := by decide +kernel
theorem d_Block_init_10 : decode prog_3_method_1_code 10 = .ok (.iload_n 2, 1) := by decide +kernel
theorem d_Block_init_11 : decode prog_3_method_1_code 11 = .ok (.putfield 13, 3) := by decide +kernel
theorem wP_NumberOffice_Block_13_7 : zPl "NumberOffice$Block" 13 7 1 (.int) true := ⟨"NumberOffice$Block", zR_Block, zF_Block, 2, zY_Block, rfl, zin_Block, by decide, ztb_of 528 (by decide +kernel) rfl, Or.inl rfl, zYok_Block, zN_Block, rfl, fun _ => rfl, by decide +kernel⟩
theorem d_Block_init_14 : decode prog_3_method_1_code 14 = .ok (.return_, 1) := by decide +kernel
abbrev Y_SeriesBook_enter : MethodName := ⟨"NumberOffice$SeriesBook", "enter", "(LNumberOffice$Event;)V"⟩
abbrev K_SeriesBook_enter : zM := (prog_11_method_9_code, 5, "NumberOffice$SeriesBook", none, false, [])
theorem d_SeriesBook_enter_0 : decode prog_11_method_9_code 0 = .ok (.aload_n 0, 1) := by decide +kernel
theorem d_SeriesBook_enter_1 : decode prog_11_method_9_code 1 = .ok (.aload_n 1, 1) := by decide +kernel
theorem d_SeriesBook_enter_2 : decode prog_11_method_9_code 2 = .ok (.getfield 69, 3) := by decide +kernel
theorem wF_NumberOffice_SeriesBook_69_10 : zFl "NumberOffice$SeriesBook" 69 10 0 := ⟨"NumberOffice$Event", zR_Event, zF_Event, 4, rfl, zin_Event, by decide, ztb_of 772 (by decide +kernel) rfl, Or.inl rfl⟩
theorem d_SeriesBook_enter_5 : decode prog_11_method_9_code 5 = .ok (.invokevirtual 74, 3) := by decide +kernel
abbrev Y_SeriesBook_fateOf : MethodName := ⟨"NumberOffice$SeriesBook", "fateOf", "(I)I"⟩
abbrev K_SeriesBook_fateOf : zM := (prog_11_method_7_code, 2, "NumberOffice$SeriesBook", (some .int), false, [])
theorem d_SeriesBook_fateOf_0 : decode prog_11_method_7_code 0 = .ok (.aload_n 0, 1) := by decide +kernel
theorem d_SeriesBook_fateOf_1 : decode prog_11_method_7_code 1 = .ok (.iload_n 1, 1) := by decide +kernel
theorem d_SeriesBook_fateOf_2 : decode prog_11_method_7_code 2 = .ok (.invokevirtual 54, 3) := by decide +kernel
abbrev Y_SeriesBook_isGiven : MethodName := ⟨"NumberOffice$SeriesBook", "isGiven", "(I)Z"⟩
abbrev K_SeriesBook_isGiven : zM := (prog_11_method_6_code, 2, "NumberOffice$SeriesBook", (some .boolean), false, [])
theorem d_SeriesBook_isGiven_0 : decode prog_11_method_6_code 0 = .ok (.iload_n 1, 1) := by decide +kernel
theorem d_SeriesBook_isGiven_1 : decode prog_11_method_6_code 1 = .ok (.iconst 1, 1) := by decide +kernel
theorem d_SeriesBook_isGiven_2 : decode prog_11_method_6_code 2 = .ok (.if_icmp .lt 22, 3) := by decide +kernel
theorem d_SeriesBook_isGiven_5 : decode prog_11_method_6_code 5 = .ok (.iload_n 1, 1) := by decide +kernel
theorem d_SeriesBook_isGiven_6 : decode prog_11_method_6_code 6 = .ok (.aload_n 0, 1) := by decide +kernel
theorem d_SeriesBook_isGiven_7 : decode prog_11_method_6_code 7 = .ok (.getfield 38, 3) := by decide +kernel
theorem d_SeriesBook_isGiven_10 : decode prog_11_method_6_code 10 = .ok (.if_icmp .gt 14, 3) := by decide +kernel
theorem d_SeriesBook_isGiven_13 : decode prog_11_method_6_code 13 = .ok (.iload_n 1, 1) := by decide +kernel
theorem d_SeriesBook_isGiven_14 : decode prog_11_method_6_code 14 = .ok (.sipush 300, 3) := by decide +kernel
theorem d_SeriesBook_isGiven_17 : decode prog_11_method_6_code 17 = .ok (.if_icmp .gt 7, 3) := by decide +kernel
theorem d_SeriesBook_isGiven_20 : decode prog_11_method_6_code 20 = .ok (.iconst 1, 1) := by decide +kernel
theorem d_SeriesBook_isGiven_21 : decode prog_11_method_6_code 21 = .ok (.goto 4, 3) := by decide +kernel
theorem d_SeriesBook_isGiven_24 : decode prog_11_method_6_code 24 = .ok (.iconst 0, 1) := by decide +kernel
theorem d_SeriesBook_isGiven_25 : decode prog_11_method_6_code 25 = .ok (.ireturn, 1) := by decide +kernel
theorem wF_NumberOffice_90_1 : zFl "NumberOffice" 90 1 8 := ⟨"NumberOffice$Branch", zR_Branch, zF_Branch, 9, rfl, zin_Branch, by decide, ztb_of 177 (by decide +kernel) rfl, Or.inr (ztb_of 178 (by decide +kernel) rfl)⟩
theorem wF_NumberOffice_Branch_48_9 : zFl "NumberOffice$Branch" 48 9 5 := ⟨"NumberOffice$Letter", zR_Letter, zF_Letter, 6, rfl, zin_Letter, by decide, ztb_of 497 (by decide +kernel) rfl, Or.inr (ztb_of 495 (by decide +kernel) rfl)⟩
abbrev Y_Branch_bookAt : MethodName := ⟨"NumberOffice$Branch", "bookAt", "(I)LNumberOffice$BranchSeries;"⟩
abbrev K_Branch_bookAt : zM := (prog_4_method_4_code, 2, "NumberOffice$Branch", (some (.object "NumberOffice$BranchSeries")), false, [])
theorem d_Branch_bookAt_0 : decode prog_4_method_4_code 0 = .ok (.iload_n 1, 1) := by decide +kernel
theorem d_Branch_bookAt_1 : decode prog_4_method_4_code 1 = .ok (.ifCond .lt 17, 3) := by decide +kernel
theorem d_Branch_bookAt_4 : decode prog_4_method_4_code 4 = .ok (.iload_n 1, 1) := by decide +kernel
theorem d_Branch_bookAt_5 : decode prog_4_method_4_code 5 = .ok (.iconst 3, 1) := by decide +kernel
theorem d_Branch_bookAt_6 : decode prog_4_method_4_code 6 = .ok (.if_icmp .ge 12, 3) := by decide +kernel
theorem d_Branch_bookAt_9 : decode prog_4_method_4_code 9 = .ok (.aload_n 0, 1) := by decide +kernel
theorem d_Branch_bookAt_10 : decode prog_4_method_4_code 10 = .ok (.getfield 11, 3) := by decide +kernel
theorem d_Branch_bookAt_13 : decode prog_4_method_4_code 13 = .ok (.iload_n 1, 1) := by decide +kernel
theorem d_Branch_bookAt_14 : decode prog_4_method_4_code 14 = .ok (.aaload, 1) := by decide +kernel
theorem d_Branch_bookAt_15 : decode prog_4_method_4_code 15 = .ok (.goto 4, 3) := by decide +kernel
theorem d_Branch_bookAt_18 : decode prog_4_method_4_code 18 = .ok (.aconst_null, 1) := by decide +kernel
theorem d_Branch_bookAt_19 : decode prog_4_method_4_code 19 = .ok (.areturn, 1) := by decide +kernel
abbrev Y_No_branchFate : MethodName := ⟨"NumberOffice", "branchFate", "(III)I"⟩
abbrev K_No_branchFate : zM := (prog_1_method_22_code, 6, "NumberOffice", (some .int), false, [])
theorem d_No_branchFate_0 : decode prog_1_method_22_code 0 = .ok (.aload_n 0, 1) := by decide +kernel
theorem d_No_branchFate_1 : decode prog_1_method_22_code 1 = .ok (.iload_n 1, 1) := by decide +kernel
theorem d_No_branchFate_2 : decode prog_1_method_22_code 2 = .ok (.invokevirtual 55, 3) := by decide +kernel
theorem d_No_branchFate_5 : decode prog_1_method_22_code 5 = .ok (.astore 4, 2) := by decide +kernel
theorem d_No_branchFate_7 : decode prog_1_method_22_code 7 = .ok (.aload 4, 2) := by decide +kernel
theorem d_No_branchFate_9 : decode prog_1_method_22_code 9 = .ok (.ifnull 11, 3) := by decide +kernel
theorem d_No_branchFate_12 : decode prog_1_method_22_code 12 = .ok (.aload 4, 2) := by decide +kernel
theorem d_No_branchFate_14 : decode prog_1_method_22_code 14 = .ok (.getfield 90, 3) := by decide +kernel
theorem d_No_branchFate_17 : decode prog_1_method_22_code 17 = .ok (.ifCond .ne 5, 3) := by decide +kernel
theorem d_No_branchFate_22 : decode prog_1_method_22_code 22 = .ok (.aload 4, 2) := by decide +kernel
theorem d_No_branchFate_24 : decode prog_1_method_22_code 24 = .ok (.iload_n 2, 1) := by decide +kernel
theorem d_No_branchFate_25 : decode prog_1_method_22_code 25 = .ok (.invokevirtual 59, 3) := by decide +kernel
theorem wV_NumberOffice_59 : zVl "NumberOffice" 59 1 Y_Branch_bookAt K_Branch_bookAt 1 := ⟨zR_Branch, zF_Branch, 9, rfl, ztb_of 575 (by decide +kernel) rfl, ztb_of 559 (by decide +kernel) rfl, ztb_of 560 (by decide +kernel) rfl, ztb_of 46 (by decide +kernel) rfl, ztb_of 561 (by decide +kernel) rfl, by decide, by decide +kernel⟩
theorem d_No_branchFate_28 : decode prog_1_method_22_code 28 = .ok (.astore 5, 2) := by decide +kernel
theorem d_No_branchFate_30 : decode prog_1_method_22_code 30 = .ok (.aload 5, 2) := by decide +kernel
theorem d_No_branchFate_32 : decode prog_1_method_22_code 32 = .ok (.ifnonnull 7, 3) := by decide +kernel
theorem d_No_branchFate_35 : decode prog_1_method_22_code 35 = .ok (.iconst (-1), 1) := by decide +kernel
theorem d_No_branchFate_36 : decode prog_1_method_22_code 36 = .ok (.goto 9, 3) := by decide +kernel
theorem d_No_branchFate_39 : decode prog_1_method_22_code 39 = .ok (.aload 5, 2) := by decide +kernel
theorem d_No_branchFate_41 : decode prog_1_method_22_code 41 = .ok (.iload_n 3, 1) := by decide +kernel
theorem d_No_branchFate_42 : decode prog_1_method_22_code 42 = .ok (.invokevirtual 117, 3) := by decide +kernel
abbrev Y_BranchSeries_fateOf : MethodName := ⟨"NumberOffice$BranchSeries", "fateOf", "(I)I"⟩
abbrev K_BranchSeries_fateOf : zM := (prog_5_method_11_code, 4, "NumberOffice$BranchSeries", (some .int), false, [])
theorem d_BranchSeries_fateOf_0 : decode prog_5_method_11_code 0 = .ok (.aload_n 0, 1) := by decide +kernel
theorem d_BranchSeries_fateOf_1 : decode prog_5_method_11_code 1 = .ok (.getfield 18, 3) := by decide +kernel
theorem d_BranchSeries_fateOf_4 : decode prog_5_method_11_code 4 = .ok (.invokevirtual 21, 3) := by decide +kernel
theorem d_BranchSeries_fateOf_7 : decode prog_5_method_11_code 7 = .ok (.iconst 1, 1) := by decide +kernel
theorem d_BranchSeries_fateOf_8 : decode prog_5_method_11_code 8 = .ok (.isub, 1) := by decide +kernel
theorem d_BranchSeries_fateOf_9 : decode prog_5_method_11_code 9 = .ok (.istore_n 2, 1) := by decide +kernel
theorem d_BranchSeries_fateOf_10 : decode prog_5_method_11_code 10 = .ok (.iload_n 2, 1) := by decide +kernel
theorem d_BranchSeries_fateOf_11 : decode prog_5_method_11_code 11 = .ok (.ifCond .lt 42, 3) := by decide +kernel
theorem d_BranchSeries_fateOf_53 : decode prog_5_method_11_code 53 = .ok (.iconst 0, 1) := by decide +kernel
theorem d_BranchSeries_fateOf_54 : decode prog_5_method_11_code 54 = .ok (.istore_n 2, 1) := by decide +kernel
theorem d_BranchSeries_fateOf_14 : decode prog_5_method_11_code 14 = .ok (.aload_n 0, 1) := by decide +kernel
theorem d_BranchSeries_fateOf_15 : decode prog_5_method_11_code 15 = .ok (.getfield 18, 3) := by decide +kernel
theorem d_BranchSeries_fateOf_18 : decode prog_5_method_11_code 18 = .ok (.iload_n 2, 1) := by decide +kernel
theorem d_BranchSeries_fateOf_19 : decode prog_5_method_11_code 19 = .ok (.invokevirtual 63, 3) := by decide +kernel
abbrev Y_Block_holds : MethodName := ⟨"NumberOffice$Block", "holds", "(I)Z"⟩
abbrev K_Block_holds : zM := (prog_3_method_2_code, 2, "NumberOffice$Block", (some .boolean), false, [])
theorem d_Block_holds_0 : decode prog_3_method_2_code 0 = .ok (.iload_n 1, 1) := by decide +kernel
theorem d_Block_holds_1 : decode prog_3_method_2_code 1 = .ok (.aload_n 0, 1) := by decide +kernel
theorem d_Block_holds_2 : decode prog_3_method_2_code 2 = .ok (.getfield 7, 3) := by decide +kernel
theorem wF_NumberOffice_Block_7_7 : zFl "NumberOffice$Block" 7 7 0 := ⟨"NumberOffice$Block", zR_Block, zF_Block, 2, rfl, zin_Block, by decide, ztb_of 526 (by decide +kernel) rfl, Or.inl rfl⟩
theorem d_Block_holds_5 : decode prog_3_method_2_code 5 = .ok (.if_icmp .lt 20, 3) := by decide +kernel
theorem d_Block_holds_8 : decode prog_3_method_2_code 8 = .ok (.iload_n 1, 1) := by decide +kernel
theorem d_Block_holds_9 : decode prog_3_method_2_code 9 = .ok (.aload_n 0, 1) := by decide +kernel
theorem d_Block_holds_10 : decode prog_3_method_2_code 10 = .ok (.getfield 7, 3) := by decide +kernel
theorem d_Block_holds_13 : decode prog_3_method_2_code 13 = .ok (.aload_n 0, 1) := by decide +kernel
theorem d_Block_holds_14 : decode prog_3_method_2_code 14 = .ok (.getfield 13, 3) := by decide +kernel
theorem wF_NumberOffice_Block_13_7 : zFl "NumberOffice$Block" 13 7 1 := ⟨"NumberOffice$Block", zR_Block, zF_Block, 2, rfl, zin_Block, by decide, ztb_of 528 (by decide +kernel) rfl, Or.inl rfl⟩
theorem d_Block_holds_17 : decode prog_3_method_2_code 17 = .ok (.iadd, 1) := by decide +kernel
theorem d_Block_holds_18 : decode prog_3_method_2_code 18 = .ok (.if_icmp .ge 7, 3) := by decide +kernel
theorem d_Block_holds_21 : decode prog_3_method_2_code 21 = .ok (.iconst 1, 1) := by decide +kernel
theorem d_Block_holds_22 : decode prog_3_method_2_code 22 = .ok (.goto 4, 3) := by decide +kernel
theorem d_Block_holds_25 : decode prog_3_method_2_code 25 = .ok (.iconst 0, 1) := by decide +kernel
theorem d_Block_holds_26 : decode prog_3_method_2_code 26 = .ok (.ireturn, 1) := by decide +kernel
abbrev Y_No_branch : MethodName := ⟨"NumberOffice", "branch", "(II)I"⟩
abbrev K_No_branch : zM := (prog_1_method_23_code, 5, "NumberOffice", (some .int), false, [])
theorem d_No_branch_0 : decode prog_1_method_23_code 0 = .ok (.aload_n 0, 1) := by decide +kernel
theorem d_No_branch_1 : decode prog_1_method_23_code 1 = .ok (.iload_n 1, 1) := by decide +kernel
theorem d_No_branch_2 : decode prog_1_method_23_code 2 = .ok (.invokevirtual 55, 3) := by decide +kernel
theorem d_No_branch_5 : decode prog_1_method_23_code 5 = .ok (.astore_n 3, 1) := by decide +kernel
theorem d_No_branch_6 : decode prog_1_method_23_code 6 = .ok (.aload_n 3, 1) := by decide +kernel
theorem d_No_branch_7 : decode prog_1_method_23_code 7 = .ok (.ifnull 10, 3) := by decide +kernel
theorem d_No_branch_10 : decode prog_1_method_23_code 10 = .ok (.aload_n 3, 1) := by decide +kernel
theorem d_No_branch_11 : decode prog_1_method_23_code 11 = .ok (.getfield 90, 3) := by decide +kernel
theorem d_No_branch_14 : decode prog_1_method_23_code 14 = .ok (.ifCond .ne 5, 3) := by decide +kernel
theorem d_No_branch_19 : decode prog_1_method_23_code 19 = .ok (.iload_n 2, 1) := by decide +kernel
theorem d_No_branch_20 : decode prog_1_method_23_code 20 = .ok (.tableswitch 95 0 5 #[40, 53, 58, 71, 71, 71], 40) := by decide +kernel
theorem d_No_branch_115 : decode prog_1_method_23_code 115 = .ok (.iconst (-1), 1) := by decide +kernel
theorem d_No_branch_116 : decode prog_1_method_23_code 116 = .ok (.ireturn, 1) := by decide +kernel
theorem d_No_branch_78 : decode prog_1_method_23_code 78 = .ok (.aload_n 3, 1) := by decide +kernel
theorem d_No_branch_79 : decode prog_1_method_23_code 79 = .ok (.getfield 199, 3) := by decide +kernel
theorem wF_NumberOffice_199_1 : zFl "NumberOffice" 199 1 4 := ⟨"NumberOffice$Branch", zR_Branch, zF_Branch, 9, rfl, zin_Branch, by decide, ztb_of 172 (by decide +kernel) rfl, Or.inl rfl⟩
theorem d_No_branch_82 : decode prog_1_method_23_code 82 = .ok (.ifCond .eq 7, 3) := by decide +kernel
theorem d_No_branch_89 : decode prog_1_method_23_code 89 = .ok (.iconst 0, 1) := by decide +kernel
theorem d_No_branch_85 : decode prog_1_method_23_code 85 = .ok (.iconst 1, 1) := by decide +kernel
theorem d_No_branch_86 : decode prog_1_method_23_code 86 = .ok (.goto 4, 3) := by decide +kernel
theorem d_No_branch_73 : decode prog_1_method_23_code 73 = .ok (.aload_n 3, 1) := by decide +kernel
theorem d_No_branch_74 : decode prog_1_method_23_code 74 = .ok (.invokevirtual 196, 3) := by decide +kernel
abbrev Y_Branch_latestNumber : MethodName := ⟨"NumberOffice$Branch", "latestNumber", "()I"⟩
abbrev K_Branch_latestNumber : zM := (prog_4_method_5_code, 1, "NumberOffice$Branch", (some .int), false, [])
theorem d_Branch_latestNumber_0 : decode prog_4_method_5_code 0 = .ok (.aload_n 0, 1) := by decide +kernel
theorem d_Branch_latestNumber_1 : decode prog_4_method_5_code 1 = .ok (.getfield 25, 3) := by decide +kernel
theorem d_Branch_latestNumber_4 : decode prog_4_method_5_code 4 = .ok (.ifnonnull 7, 3) := by decide +kernel
theorem d_Branch_latestNumber_7 : decode prog_4_method_5_code 7 = .ok (.iconst 0, 1) := by decide +kernel
theorem d_Branch_latestNumber_8 : decode prog_4_method_5_code 8 = .ok (.goto 10, 3) := by decide +kernel
theorem d_Branch_latestNumber_11 : decode prog_4_method_5_code 11 = .ok (.aload_n 0, 1) := by decide +kernel
theorem d_Branch_latestNumber_12 : decode prog_4_method_5_code 12 = .ok (.getfield 25, 3) := by decide +kernel
theorem d_Branch_latestNumber_15 : decode prog_4_method_5_code 15 = .ok (.getfield 48, 3) := by decide +kernel
theorem d_Branch_latestNumber_18 : decode prog_4_method_5_code 18 = .ok (.ireturn, 1) := by decide +kernel
abbrev Y_BranchSeries_unreported : MethodName := ⟨"NumberOffice$BranchSeries", "unreported", "()I"⟩
abbrev K_BranchSeries_unreported : zM := (prog_5_method_5_code, 1, "NumberOffice$BranchSeries", (some .int), false, [])
theorem d_BranchSeries_unreported_0 : decode prog_5_method_5_code 0 = .ok (.aload_n 0, 1) := by decide +kernel
theorem d_BranchSeries_unreported_1 : decode prog_5_method_5_code 1 = .ok (.getfield 18, 3) := by decide +kernel
theorem d_BranchSeries_unreported_4 : decode prog_5_method_5_code 4 = .ok (.invokevirtual 21, 3) := by decide +kernel
theorem d_BranchSeries_unreported_7 : decode prog_5_method_5_code 7 = .ok (.aload_n 0, 1) := by decide +kernel
theorem d_BranchSeries_unreported_8 : decode prog_5_method_5_code 8 = .ok (.getfield 44, 3) := by decide +kernel
theorem wF_NumberOffice_BranchSeries_44_2 : zFl "NumberOffice$BranchSeries" 44 2 4 := ⟨"NumberOffice$BranchSeries", zR_BranchSeries, zF_BranchSeries, 10, rfl, zin_BranchSeries, by decide, ztb_of 136 (by decide +kernel) rfl, Or.inl rfl⟩
theorem d_BranchSeries_unreported_11 : decode prog_5_method_5_code 11 = .ok (.isub, 1) := by decide +kernel
theorem d_BranchSeries_unreported_12 : decode prog_5_method_5_code 12 = .ok (.ireturn, 1) := by decide +kernel
abbrev Y_Law_cell : MethodName := ⟨"NumberOfficeLaw", "cell", "([II)I"⟩
abbrev K_Law_cell : zM := (method_2_code, 2, "NumberOfficeLaw", (some .int), false, [])
theorem d_Law_cell_0 : decode method_2_code 0 = .ok (.iload_n 1, 1) := by decide +kernel
theorem d_Law_cell_1 : decode method_2_code 1 = .ok (.aload_n 0, 1) := by decide +kernel
theorem d_Law_cell_2 : decode method_2_code 2 = .ok (.arraylength, 1) := by decide +kernel
theorem d_Law_cell_3 : decode method_2_code 3 = .ok (.if_icmp .ge 9, 3) := by decide +kernel
theorem d_Law_cell_12 : decode method_2_code 12 = .ok (.iconst 0, 1) := by decide +kernel
theorem d_Law_cell_6 : decode method_2_code 6 = .ok (.aload_n 0, 1) := by decide +kernel
theorem d_Law_cell_7 : decode method_2_code 7 = .ok (.iload_n 1, 1) := by decide +kernel
theorem d_Law_cell_8 : decode method_2_code 8 = .ok (.iaload, 1) := by decide +kernel
theorem d_Law_cell_9 : decode method_2_code 9 = .ok (.goto 4, 3) := by decide +kernel
theorem d_Law_cell_13 : decode method_2_code 13 = .ok (.ireturn, 1) := by decide +kernel
abbrev Y_SeriesBook_openFor : MethodName := ⟨"NumberOffice$SeriesBook", "openFor", "(I)Z"⟩
abbrev K_SeriesBook_openFor : zM := (prog_11_method_3_code, 2, "NumberOffice$SeriesBook", (some .boolean), false, [])
theorem d_SeriesBook_openFor_0 : decode prog_11_method_3_code 0 = .ok (.aload_n 0, 1) := by decide +kernel
theorem d_SeriesBook_openFor_1 : decode prog_11_method_3_code 1 = .ok (.getfield 11, 3) := by decide +kernel
theorem d_SeriesBook_openFor_4 : decode prog_11_method_3_code 4 = .ok (.ifCond .eq 5, 3) := by decide +kernel
theorem d_SeriesBook_openFor_9 : decode prog_11_method_3_code 9 = .ok (.aload_n 0, 1) := by decide +kernel
theorem d_SeriesBook_openFor_10 : decode prog_11_method_3_code 10 = .ok (.iconst 1, 1) := by decide +kernel
theorem d_SeriesBook_openFor_11 : decode prog_11_method_3_code 11 = .ok (.putfield 11, 3) := by decide +kernel
theorem d_SeriesBook_openFor_14 : decode prog_11_method_3_code 14 = .ok (.aload_n 0, 1) := by decide +kernel
theorem d_SeriesBook_openFor_15 : decode prog_11_method_3_code 15 = .ok (.iload_n 1, 1) := by decide +kernel
theorem d_SeriesBook_openFor_16 : decode prog_11_method_3_code 16 = .ok (.putfield 35, 3) := by decide +kernel
theorem d_SeriesBook_openFor_19 : decode prog_11_method_3_code 19 = .ok (.iconst 1, 1) := by decide +kernel
theorem d_SeriesBook_openFor_20 : decode prog_11_method_3_code 20 = .ok (.ireturn, 1) := by decide +kernel
theorem d_SeriesBook_openFor_7 : decode prog_11_method_3_code 7 = .ok (.iconst 0, 1) := by decide +kernel
theorem d_SeriesBook_openFor_8 : decode prog_11_method_3_code 8 = .ok (.ireturn, 1) := by decide +kernel
abbrev Y_Branch_mayWrite : MethodName := ⟨"NumberOffice$Branch", "mayWrite", "()Z"⟩
abbrev K_Branch_mayWrite : zM := (prog_4_method_6_code, 1, "NumberOffice$Branch", (some .boolean), false, [])
theorem d_Branch_mayWrite_0 : decode prog_4_method_6_code 0 = .ok (.aload_n 0, 1) := by decide +kernel
theorem d_Branch_mayWrite_1 : decode prog_4_method_6_code 1 = .ok (.getfield 32, 3) := by decide +kernel
theorem d_Branch_mayWrite_4 : decode prog_4_method_6_code 4 = .ok (.ifCond .ne 14, 3) := by decide +kernel
theorem d_Branch_mayWrite_7 : decode prog_4_method_6_code 7 = .ok (.aload_n 0, 1) := by decide +kernel
theorem d_Branch_mayWrite_8 : decode prog_4_method_6_code 8 = .ok (.getfield 39, 3) := by decide +kernel
theorem d_Branch_mayWrite_11 : decode prog_4_method_6_code 11 = .ok (.ifCond .ne 7, 3) := by decide +kernel
theorem d_Branch_mayWrite_14 : decode prog_4_method_6_code 14 = .ok (.iconst 1, 1) := by decide +kernel
theorem d_Branch_mayWrite_15 : decode prog_4_method_6_code 15 = .ok (.goto 4, 3) := by decide +kernel
theorem d_Branch_mayWrite_18 : decode prog_4_method_6_code 18 = .ok (.iconst 0, 1) := by decide +kernel
theorem d_Branch_mayWrite_19 : decode prog_4_method_6_code 19 = .ok (.ireturn, 1) := by decide +kernel
abbrev Y_BranchSeries_openBlocks : MethodName := ⟨"NumberOffice$BranchSeries", "openBlocks", "()I"⟩
abbrev K_BranchSeries_openBlocks : zM := (prog_5_method_4_code, 1, "NumberOffice$BranchSeries", (some .int), false, [])
theorem d_BranchSeries_openBlocks_0 : decode prog_5_method_4_code 0 = .ok (.aload_n 0, 1) := by decide +kernel
theorem d_BranchSeries_openBlocks_1 : decode prog_5_method_4_code 1 = .ok (.getfield 12, 3) := by decide +kernel
theorem d_BranchSeries_openBlocks_4 : decode prog_5_method_4_code 4 = .ok (.invokevirtual 21, 3) := by decide +kernel
theorem d_BranchSeries_openBlocks_7 : decode prog_5_method_4_code 7 = .ok (.aload_n 0, 1) := by decide +kernel
theorem d_BranchSeries_openBlocks_8 : decode prog_5_method_4_code 8 = .ok (.getfield 32, 3) := by decide +kernel
theorem wF_NumberOffice_BranchSeries_32_2 : zFl "NumberOffice$BranchSeries" 32 2 2 := ⟨"NumberOffice$BranchSeries", zR_BranchSeries, zF_BranchSeries, 10, rfl, zin_BranchSeries, by decide, ztb_of 134 (by decide +kernel) rfl, Or.inl rfl⟩
theorem d_BranchSeries_openBlocks_11 : decode prog_5_method_4_code 11 = .ok (.isub, 1) := by decide +kernel
theorem d_BranchSeries_openBlocks_12 : decode prog_5_method_4_code 12 = .ok (.ireturn, 1) := by decide +kernel
abbrev Y_Letter_init : MethodName := ⟨"NumberOffice$Letter", "<init>", "(LNumberOffice$Branch;III[LNumberOffice$Event;)V"⟩
abbrev K_Letter_init : zM := (prog_7_method_1_code, 6, "NumberOffice$Letter", none, true, [])
theorem d_Letter_init_0 : decode prog_7_method_1_code 0 = .ok (.aload_n 0, 1) := by decide +kernel
theorem d_Letter_init_1 : decode prog_7_method_1_code 1 = .ok (.iload_n 2, 1) := by decide +kernel
theorem d_Letter_init_2 : decode prog_7_method_1_code 2 = .ok (.aload_n 1, 1) := by decide +kernel
theorem d_Letter_init_3 : decode prog_7_method_1_code 3 = .ok (.getfield 1, 3) := by decide +kernel
theorem wF_NumberOffice_Letter_1_1 : zFl "NumberOffice$Letter" 1 1 0 := ⟨"NumberOffice$Branch", zR_Branch, zF_Branch, 9, rfl, zin_Branch, by decide, ztb_of 164 (by decide +kernel) rfl, Or.inl rfl⟩
theorem d_Letter_init_6 : decode prog_7_method_1_code 6 = .ok (.aload_n 1, 1) := by decide +kernel
theorem d_Letter_init_7 : decode prog_7_method_1_code 7 = .ok (.invokevirtual 7, 3) := by decide +kernel
theorem wV_NumberOffice_Letter_7 : zVl "NumberOffice$Letter" 7 1 Y_Branch_latestNumber K_Branch_latestNumber 0 := ⟨zR_Branch, zF_Branch, 9, rfl, ztb_of 704 (by decide +kernel) rfl, ztb_of 592 (by decide +kernel) rfl, ztb_of 593 (by decide +kernel) rfl, ztb_of 46 (by decide +kernel) rfl, ztb_of 594 (by decide +kernel) rfl, by decide, by decide +kernel⟩
theorem d_Letter_init_10 : decode prog_7_method_1_code 10 = .ok (.iconst 1, 1) := by decide +kernel
theorem d_Letter_init_11 : decode prog_7_method_1_code 11 = .ok (.iadd, 1) := by decide +kernel
theorem d_Letter_init_12 : decode prog_7_method_1_code 12 = .ok (.invokespecial 11, 3) := by decide +kernel
theorem wI_NumberOffice_Letter_11 : zIl "NumberOffice$Letter" 11 Y_Mail_init K_Mail_init 3 := ⟨rfl, ztb_of 705 (by decide +kernel) rfl, ztb_of 475 (by decide +kernel) rfl, ztb_of 58 (by decide +kernel) rfl, rfl, rfl, ztb_of 476 (by decide +kernel) rfl, by decide, by decide +kernel⟩
theorem d_Letter_init_15 : decode prog_7_method_1_code 15 = .ok (.aload_n 0, 1) := by decide +kernel
theorem d_Letter_init_16 : decode prog_7_method_1_code 16 = .ok (.iload_n 3, 1) := by decide +kernel
theorem d_Letter_init_17 : decode prog_7_method_1_code 17 = .ok (.putfield 17, 3) := by decide +kernel
theorem wP_NumberOffice_Letter_17_9 : zPl "NumberOffice$Letter" 17 9 0 (.int) true := ⟨"NumberOffice$Letter", zR_Letter, zF_Letter, 6, zY_Letter, rfl, zin_Letter, by decide, ztb_of 706 (by decide +kernel) rfl, Or.inl rfl, zYok_Letter, zN_Letter, rfl, fun _ => rfl, by decide +kernel⟩
theorem d_Letter_init_20 : decode prog_7_method_1_code 20 = .ok (.aload_n 0, 1) := by decide +kernel
theorem d_Letter_init_21 : decode prog_7_method_1_code 21 = .ok (.iload 4, 2) := by decide +kernel
theorem d_Letter_init_23 : decode prog_7_method_1_code 23 = .ok (.putfield 22, 3) := by decide +kernel
theorem wP_NumberOffice_Letter_22_9 : zPl "NumberOffice$Letter" 22 9 1 (.int) true := ⟨"NumberOffice$Letter", zR_Letter, zF_Letter, 6, zY_Letter, rfl, zin_Letter, by decide, ztb_of 709 (by decide +kernel) rfl, Or.inl rfl, zYok_Letter, zN_Letter, rfl, fun _ => rfl, by decide +kernel⟩
theorem d_Letter_init_26 : decode prog_7_method_1_code 26 = .ok (.aload_n 0, 1) := by decide +kernel
theorem d_Letter_init_27 : decode prog_7_method_1_code 27 = .ok (.aload 5, 2) := by decide +kernel
theorem d_Letter_init_29 : decode prog_7_method_1_code 29 = .ok (.putfield 25, 3) := by decide +kernel
theorem wP_NumberOffice_Letter_25_9 : zPl "NumberOffice$Letter" 25 9 2 (.array (.object "NumberOffice$Event")) true := ⟨"NumberOffice$Letter", zR_Letter, zF_Letter, 6, zY_Letter, rfl, zin_Letter, by decide, ztb_of 711 (by decide +kernel) rfl, Or.inl rfl, zYok_Letter, zN_Letter, rfl, fun _ => rfl, by decide +kernel⟩
theorem d_Letter_init_32 : decode prog_7_method_1_code 32 = .ok (.return_, 1) := by decide +kernel
abbrev Y_BranchSeries_eventsForLetter : MethodName := ⟨"NumberOffice$BranchSeries", "eventsForLetter", "()[LNumberOffice$Event;"⟩
abbrev K_BranchSeries_eventsForLetter : zM := (prog_5_method_10_code, 4, "NumberOffice$BranchSeries", (some (.array (.object "NumberOffice$Event"))), false, [])
theorem d_BranchSeries_eventsForLetter_0 : decode prog_5_method_10_code 0 = .ok (.iconst 0, 1) := by decide +kernel
theorem d_BranchSeries_eventsForLetter_1 : decode prog_5_method_10_code 1 = .ok (.bipush 30, 2) := by decide +kernel
theorem d_BranchSeries_eventsForLetter_3 : decode prog_5_method_10_code 3 = .ok (.aload_n 0, 1) := by decide +kernel
theorem d_BranchSeries_eventsForLetter_4 : decode prog_5_method_10_code 4 = .ok (.invokevirtual 95, 3) := by decide +kernel
theorem wV_NumberOffice_BranchSeries_95 : zVl "NumberOffice$BranchSeries" 95 2 Y_BranchSeries_unreported K_BranchSeries_unreported 0 := ⟨zR_BranchSeries, zF_BranchSeries, 10, rfl, ztb_of 739 (by decide +kernel) rfl, ztb_of 596 (by decide +kernel) rfl, ztb_of 597 (by decide +kernel) rfl, ztb_of 47 (by decide +kernel) rfl, ztb_of 598 (by decide +kernel) rfl, by decide, by decide +kernel⟩
theorem d_BranchSeries_eventsForLetter_7 : decode prog_5_method_10_code 7 = .ok (.invokestatic 98, 3) := by decide +kernel
theorem wM_NumberOffice_BranchSeries_98 : Cond.methodLink "NumberOffice$BranchSeries" 98 Lib.Math.min.name ∈ ztb := ztb_of 740 (by decide +kernel) rfl
theorem d_BranchSeries_eventsForLetter_10 : decode prog_5_method_10_code 10 = .ok (.invokestatic 104, 3) := by decide +kernel
theorem wM_NumberOffice_BranchSeries_104 : Cond.methodLink "NumberOffice$BranchSeries" 104 Lib.Math.max.name ∈ ztb := ztb_of 741 (by decide +kernel) rfl
theorem d_BranchSeries_eventsForLetter_13 : decode prog_5_method_10_code 13 = .ok (.istore_n 1, 1) := by decide +kernel
theorem d_BranchSeries_eventsForLetter_14 : decode prog_5_method_10_code 14 = .ok (.iload_n 1, 1) := by decide +kernel
theorem d_BranchSeries_eventsForLetter_15 : decode prog_5_method_10_code 15 = .ok (.anewarray 54, 3) := by decide +kernel
theorem wAo_NumberOffice_Event : Cond.arrayOver (.object "NumberOffice$Event") ∈ ztb := ztb_of 700 (by decide +kernel) rfl
theorem wL_NumberOffice_BranchSeries_54 : Cond.classLink "NumberOffice$BranchSeries" 54 "NumberOffice$Event" ∈ ztb := ztb_of 581 (by decide +kernel) rfl
theorem d_BranchSeries_eventsForLetter_18 : decode prog_5_method_10_code 18 = .ok (.astore_n 2, 1) := by decide +kernel
theorem d_BranchSeries_eventsForLetter_19 : decode prog_5_method_10_code 19 = .ok (.iconst 0, 1) := by decide +kernel
theorem d_BranchSeries_eventsForLetter_20 : decode prog_5_method_10_code 20 = .ok (.istore_n 3, 1) := by decide +kernel
theorem d_BranchSeries_eventsForLetter_21 : decode prog_5_method_10_code 21 = .ok (.iload_n 3, 1) := by decide +kernel
theorem d_BranchSeries_eventsForLetter_22 : decode prog_5_method_10_code 22 = .ok (.iload_n 1, 1) := by decide +kernel
theorem d_BranchSeries_eventsForLetter_23 : decode prog_5_method_10_code 23 = .ok (.if_icmp .ge 28, 3) := by decide +kernel
theorem d_BranchSeries_eventsForLetter_51 : decode prog_5_method_10_code 51 = .ok (.aload_n 2, 1) := by decide +kernel
theorem d_BranchSeries_eventsForLetter_52 : decode prog_5_method_10_code 52 = .ok (.areturn, 1) := by decide +kernel
theorem d_BranchSeries_eventsForLetter_26 : decode prog_5_method_10_code 26 = .ok (.aload_n 2, 1) := by decide +kernel
theorem d_BranchSeries_eventsForLetter_27 : decode prog_5_method_10_code 27 = .ok (.iload_n 3, 1) := by decide +kernel
theorem d_BranchSeries_eventsForLetter_28 : decode prog_5_method_10_code 28 = .ok (.aload_n 0, 1) := by decide +kernel
theorem d_BranchSeries_eventsForLetter_29 : decode prog_5_method_10_code 29 = .ok (.getfield 18, 3) := by decide +kernel
theorem d_BranchSeries_eventsForLetter_32 : decode prog_5_method_10_code 32 = .ok (.aload_n 0, 1) := by decide +kernel
theorem d_BranchSeries_eventsForLetter_33 : decode prog_5_method_10_code 33 = .ok (.getfield 44, 3) := by decide +kernel
theorem d_BranchSeries_eventsForLetter_36 : decode prog_5_method_10_code 36 = .ok (.iload_n 3, 1) := by decide +kernel
theorem d_BranchSeries_eventsForLetter_37 : decode prog_5_method_10_code 37 = .ok (.iadd, 1) := by decide +kernel
theorem d_BranchSeries_eventsForLetter_38 : decode prog_5_method_10_code 38 = .ok (.invokevirtual 63, 3) := by decide +kernel
abbrev Y_BranchSeries_dateFits : MethodName := ⟨"NumberOffice$BranchSeries", "dateFits", "(I)Z"⟩
abbrev K_BranchSeries_dateFits : zM := (prog_5_method_9_code, 5, "NumberOffice$BranchSeries", (some .boolean), false, [])
theorem d_BranchSeries_dateFits_0 : decode prog_5_method_9_code 0 = .ok (.aload_n 0, 1) := by decide +kernel
theorem d_BranchSeries_dateFits_1 : decode prog_5_method_9_code 1 = .ok (.invokevirtual 68, 3) := by decide +kernel
abbrev Y_BranchSeries_nextBlock : MethodName := ⟨"NumberOffice$BranchSeries", "nextBlock", "()LNumberOffice$Block;"⟩
abbrev K_BranchSeries_nextBlock : zM := (prog_5_method_7_code, 1, "NumberOffice$BranchSeries", (some (.object "NumberOffice$Block")), false, [])
theorem d_BranchSeries_nextBlock_0 : decode prog_5_method_7_code 0 = .ok (.aload_n 0, 1) := by decide +kernel
theorem d_BranchSeries_nextBlock_1 : decode prog_5_method_7_code 1 = .ok (.getfield 32, 3) := by decide +kernel
theorem d_BranchSeries_nextBlock_4 : decode prog_5_method_7_code 4 = .ok (.aload_n 0, 1) := by decide +kernel
theorem d_BranchSeries_nextBlock_5 : decode prog_5_method_7_code 5 = .ok (.getfield 12, 3) := by decide +kernel
theorem d_BranchSeries_nextBlock_8 : decode prog_5_method_7_code 8 = .ok (.invokevirtual 21, 3) := by decide +kernel
theorem d_BranchSeries_nextBlock_11 : decode prog_5_method_7_code 11 = .ok (.if_icmp .ge 20, 3) := by decide +kernel
theorem d_BranchSeries_nextBlock_31 : decode prog_5_method_7_code 31 = .ok (.aconst_null, 1) := by decide +kernel
theorem d_BranchSeries_nextBlock_14 : decode prog_5_method_7_code 14 = .ok (.aload_n 0, 1) := by decide +kernel
theorem d_BranchSeries_nextBlock_15 : decode prog_5_method_7_code 15 = .ok (.getfield 12, 3) := by decide +kernel
theorem d_BranchSeries_nextBlock_18 : decode prog_5_method_7_code 18 = .ok (.aload_n 0, 1) := by decide +kernel
theorem d_BranchSeries_nextBlock_19 : decode prog_5_method_7_code 19 = .ok (.getfield 32, 3) := by decide +kernel
theorem d_BranchSeries_nextBlock_22 : decode prog_5_method_7_code 22 = .ok (.invokevirtual 63, 3) := by decide +kernel
abbrev Y_Event_init : MethodName := ⟨"NumberOffice$Event", "<init>", "(IZJI)V"⟩
abbrev K_Event_init : zM := (prog_6_method_1_code, 6, "NumberOffice$Event", none, true, [])
theorem d_Event_init_0 : decode prog_6_method_1_code 0 = .ok (.aload_n 0, 1) := by decide +kernel
theorem d_Event_init_1 : decode prog_6_method_1_code 1 = .ok (.invokespecial 1, 3) := by decide +kernel
theorem wO_NumberOffice_Event_1 : Cond.methodLink "NumberOffice$Event" 1 objectInit ∈ ztb := ztb_of 770 (by decide +kernel) rfl
theorem d_Event_init_4 : decode prog_6_method_1_code 4 = .ok (.aload_n 0, 1) := by decide +kernel
theorem d_Event_init_5 : decode prog_6_method_1_code 5 = .ok (.iload_n 1, 1) := by decide +kernel
theorem d_Event_init_6 : decode prog_6_method_1_code 6 = .ok (.putfield 7, 3) := by decide +kernel
theorem wP_NumberOffice_Event_7_10 : zPl "NumberOffice$Event" 7 10 0 (.int) true := ⟨"NumberOffice$Event", zR_Event, zF_Event, 4, zY_Event, rfl, zin_Event, by decide, ztb_of 771 (by decide +kernel) rfl, Or.inl rfl, zYok_Event, zN_Event, rfl, fun _ => rfl, by decide +kernel⟩
theorem d_Event_init_9 : decode prog_6_method_1_code 9 = .ok (.aload_n 0, 1) := by decide +kernel
theorem d_Event_init_10 : decode prog_6_method_1_code 10 = .ok (.iload_n 2, 1) := by decide +kernel
theorem d_Event_init_11 : decode prog_6_method_1_code 11 = .ok (.putfield 13, 3) := by decide +kernel
theorem wP_NumberOffice_Event_13_10 : zPl "NumberOffice$Event" 13 10 1 (.boolean) true := ⟨"NumberOffice$Event", zR_Event, zF_Event, 4, zY_Event, rfl, zin_Event, by decide, ztb_of 774 (by decide +kernel) rfl, Or.inl rfl, zYok_Event, zN_Event, rfl, fun _ => rfl, by decide +kernel⟩
theorem d_Event_init_14 : decode prog_6_method_1_code 14 = .ok (.aload_n 0, 1) := by decide +kernel
theorem d_Event_init_15 : decode prog_6_method_1_code 15 = .ok (.lload_n 3, 1) := by decide +kernel
theorem d_Event_init_16 : decode prog_6_method_1_code 16 = .ok (.putfield 17, 3) := by decide +kernel
theorem wP_NumberOffice_Event_17_10 : zPl "NumberOffice$Event" 17 10 2 (.long) true := ⟨"NumberOffice$Event", zR_Event, zF_Event, 4, zY_Event, rfl, zin_Event, by decide, ztb_of 777 (by decide +kernel) rfl, Or.inl rfl, zYok_Event, zN_Event, rfl, fun _ => rfl, by decide +kernel⟩
theorem d_Event_init_19 : decode prog_6_method_1_code 19 = .ok (.aload_n 0, 1) := by decide +kernel
theorem d_Event_init_20 : decode prog_6_method_1_code 20 = .ok (.iload 5, 2) := by decide +kernel
theorem d_Event_init_22 : decode prog_6_method_1_code 22 = .ok (.putfield 21, 3) := by decide +kernel
theorem wP_NumberOffice_Event_21_10 : zPl "NumberOffice$Event" 21 10 3 (.int) true := ⟨"NumberOffice$Event", zR_Event, zF_Event, 4, zY_Event, rfl, zin_Event, by decide, ztb_of 779 (by decide +kernel) rfl, Or.inl rfl, zYok_Event, zN_Event, rfl, fun _ => rfl, by decide +kernel⟩
theorem d_Event_init_25 : decode prog_6_method_1_code 25 = .ok (.return_, 1) := by decide +kernel
abbrev Y_No_isReason : MethodName := ⟨"NumberOffice", "isReason", "(I)Z"⟩
abbrev K_No_isReason : zM := (prog_1_method_26_code, 1, "NumberOffice", (some .boolean), false, [])
theorem d_No_isReason_0 : decode prog_1_method_26_code 0 = .ok (.iload_n 0, 1) := by decide +kernel
theorem d_No_isReason_1 : decode prog_1_method_26_code 1 = .ok (.iconst 1, 1) := by decide +kernel
theorem d_No_isReason_2 : decode prog_1_method_26_code 2 = .ok (.if_icmp .lt 13, 3) := by decide +kernel
theorem d_No_isReason_5 : decode prog_1_method_26_code 5 = .ok (.iload_n 0, 1) := by decide +kernel
theorem d_No_isReason_6 : decode prog_1_method_26_code 6 = .ok (.bipush 99, 2) := by decide +kernel
theorem d_No_isReason_8 : decode prog_1_method_26_code 8 = .ok (.if_icmp .gt 7, 3) := by decide +kernel
theorem d_No_isReason_11 : decode prog_1_method_26_code 11 = .ok (.iconst 1, 1) := by decide +kernel
theorem d_No_isReason_12 : decode prog_1_method_26_code 12 = .ok (.goto 4, 3) := by decide +kernel
theorem d_No_isReason_15 : decode prog_1_method_26_code 15 = .ok (.iconst 0, 1) := by decide +kernel
theorem d_No_isReason_16 : decode prog_1_method_26_code 16 = .ok (.ireturn, 1) := by decide +kernel
abbrev Y_Office_strikeOut : MethodName := ⟨"NumberOffice$Office", "strikeOut", "(I)I"⟩
abbrev K_Office_strikeOut : zM := (prog_10_method_6_code, 4, "NumberOffice$Office", (some .int), false, [])
theorem d_Office_strikeOut_0 : decode prog_10_method_6_code 0 = .ok (.aload_n 0, 1) := by decide +kernel
theorem d_Office_strikeOut_1 : decode prog_10_method_6_code 1 = .ok (.iload_n 1, 1) := by decide +kernel
theorem d_Office_strikeOut_2 : decode prog_10_method_6_code 2 = .ok (.invokevirtual 41, 3) := by decide +kernel
theorem wV_NumberOffice_Office_41 : zVl "NumberOffice$Office" 41 4 Y_Office_knows K_Office_knows 1 := ⟨zR_Office, zF_Office, 7, rfl, ztb_of 458 (by decide +kernel) rfl, ztb_of 459 (by decide +kernel) rfl, ztb_of 460 (by decide +kernel) rfl, ztb_of 51 (by decide +kernel) rfl, ztb_of 461 (by decide +kernel) rfl, by decide, by decide +kernel⟩
theorem d_Office_strikeOut_5 : decode prog_10_method_6_code 5 = .ok (.ifCond .eq 12, 3) := by decide +kernel
theorem d_Office_strikeOut_8 : decode prog_10_method_6_code 8 = .ok (.aload_n 0, 1) := by decide +kernel
theorem d_Office_strikeOut_9 : decode prog_10_method_6_code 9 = .ok (.getfield 21, 3) := by decide +kernel
theorem d_Office_strikeOut_12 : decode prog_10_method_6_code 12 = .ok (.iload_n 1, 1) := by decide +kernel
theorem d_Office_strikeOut_13 : decode prog_10_method_6_code 13 = .ok (.baload, 1) := by decide +kernel
theorem d_Office_strikeOut_14 : decode prog_10_method_6_code 14 = .ok (.ifCond .eq 5, 3) := by decide +kernel
theorem d_Office_strikeOut_19 : decode prog_10_method_6_code 19 = .ok (.aload_n 0, 1) := by decide +kernel
theorem d_Office_strikeOut_20 : decode prog_10_method_6_code 20 = .ok (.getfield 21, 3) := by decide +kernel
theorem d_Office_strikeOut_23 : decode prog_10_method_6_code 23 = .ok (.iload_n 1, 1) := by decide +kernel
theorem d_Office_strikeOut_24 : decode prog_10_method_6_code 24 = .ok (.iconst 1, 1) := by decide +kernel
theorem d_Office_strikeOut_25 : decode prog_10_method_6_code 25 = .ok (.bastore, 1) := by decide +kernel
theorem d_Office_strikeOut_26 : decode prog_10_method_6_code 26 = .ok (.iconst 0, 1) := by decide +kernel
theorem d_Office_strikeOut_27 : decode prog_10_method_6_code 27 = .ok (.istore_n 2, 1) := by decide +kernel
theorem d_Office_strikeOut_28 : decode prog_10_method_6_code 28 = .ok (.iconst 0, 1) := by decide +kernel
theorem d_Office_strikeOut_29 : decode prog_10_method_6_code 29 = .ok (.istore_n 3, 1) := by decide +kernel
theorem d_Office_strikeOut_17 : decode prog_10_method_6_code 17 = .ok (.iconst (-1), 1) := by decide +kernel
theorem d_Office_strikeOut_18 : decode prog_10_method_6_code 18 = .ok (.ireturn, 1) := by decide +kernel
theorem d_Office_strikeOut_30 : decode prog_10_method_6_code 30 = .ok (.iload_n 3, 1) := by decide +kernel
theorem d_Office_strikeOut_31 : decode prog_10_method_6_code 31 = .ok (.iconst 3, 1) := by decide +kernel
theorem d_Office_strikeOut_32 : decode prog_10_method_6_code 32 = .ok (.if_icmp .ge 22, 3) := by decide +kernel
theorem d_Office_strikeOut_54 : decode prog_10_method_6_code 54 = .ok (.iload_n 2, 1) := by decide +kernel
theorem d_Office_strikeOut_55 : decode prog_10_method_6_code 55 = .ok (.ireturn, 1) := by decide +kernel
theorem d_Office_strikeOut_35 : decode prog_10_method_6_code 35 = .ok (.iload_n 2, 1) := by decide +kernel
theorem d_Office_strikeOut_36 : decode prog_10_method_6_code 36 = .ok (.aload_n 0, 1) := by decide +kernel
theorem d_Office_strikeOut_37 : decode prog_10_method_6_code 37 = .ok (.getfield 11, 3) := by decide +kernel
theorem d_Office_strikeOut_40 : decode prog_10_method_6_code 40 = .ok (.iload_n 3, 1) := by decide +kernel
theorem d_Office_strikeOut_41 : decode prog_10_method_6_code 41 = .ok (.aaload, 1) := by decide +kernel
theorem d_Office_strikeOut_42 : decode prog_10_method_6_code 42 = .ok (.iload_n 1, 1) := by decide +kernel
theorem d_Office_strikeOut_43 : decode prog_10_method_6_code 43 = .ok (.invokevirtual 45, 3) := by decide +kernel
abbrev Y_SeriesBook_loseNumbersOf : MethodName := ⟨"NumberOffice$SeriesBook", "loseNumbersOf", "(I)I"⟩
abbrev K_SeriesBook_loseNumbersOf : zM := (prog_11_method_10_code, 4, "NumberOffice$SeriesBook", (some .int), false, [])
theorem d_SeriesBook_loseNumbersOf_0 : decode prog_11_method_10_code 0 = .ok (.iconst 0, 1) := by decide +kernel
theorem d_SeriesBook_loseNumbersOf_1 : decode prog_11_method_10_code 1 = .ok (.istore_n 2, 1) := by decide +kernel
theorem d_SeriesBook_loseNumbersOf_2 : decode prog_11_method_10_code 2 = .ok (.iconst 0, 1) := by decide +kernel
theorem d_SeriesBook_loseNumbersOf_3 : decode prog_11_method_10_code 3 = .ok (.istore_n 3, 1) := by decide +kernel
theorem d_SeriesBook_loseNumbersOf_4 : decode prog_11_method_10_code 4 = .ok (.iload_n 3, 1) := by decide +kernel
theorem d_SeriesBook_loseNumbersOf_5 : decode prog_11_method_10_code 5 = .ok (.aload_n 0, 1) := by decide +kernel
theorem d_SeriesBook_loseNumbersOf_6 : decode prog_11_method_10_code 6 = .ok (.getfield 38, 3) := by decide +kernel
theorem d_SeriesBook_loseNumbersOf_9 : decode prog_11_method_10_code 9 = .ok (.if_icmp .ge 39, 3) := by decide +kernel
theorem d_SeriesBook_loseNumbersOf_48 : decode prog_11_method_10_code 48 = .ok (.iload_n 2, 1) := by decide +kernel
theorem d_SeriesBook_loseNumbersOf_49 : decode prog_11_method_10_code 49 = .ok (.ireturn, 1) := by decide +kernel
theorem d_SeriesBook_loseNumbersOf_12 : decode prog_11_method_10_code 12 = .ok (.aload_n 0, 1) := by decide +kernel
theorem d_SeriesBook_loseNumbersOf_13 : decode prog_11_method_10_code 13 = .ok (.getfield 15, 3) := by decide +kernel
theorem d_SeriesBook_loseNumbersOf_16 : decode prog_11_method_10_code 16 = .ok (.iload_n 3, 1) := by decide +kernel
theorem d_SeriesBook_loseNumbersOf_17 : decode prog_11_method_10_code 17 = .ok (.iaload, 1) := by decide +kernel
theorem d_SeriesBook_loseNumbersOf_18 : decode prog_11_method_10_code 18 = .ok (.iload_n 1, 1) := by decide +kernel
theorem d_SeriesBook_loseNumbersOf_19 : decode prog_11_method_10_code 19 = .ok (.if_icmp .ne 23, 3) := by decide +kernel
theorem d_SeriesBook_loseNumbersOf_22 : decode prog_11_method_10_code 22 = .ok (.aload_n 0, 1) := by decide +kernel
theorem d_SeriesBook_loseNumbersOf_23 : decode prog_11_method_10_code 23 = .ok (.getfield 19, 3) := by decide +kernel
theorem wF_NumberOffice_SeriesBook_19_5 : zFl "NumberOffice$SeriesBook" 19 5 4 := ⟨"NumberOffice$SeriesBook", zR_SeriesBook, zF_SeriesBook, 8, rfl, zin_SeriesBook, by decide, ztb_of 221 (by decide +kernel) rfl, Or.inl rfl⟩
theorem d_SeriesBook_loseNumbersOf_26 : decode prog_11_method_10_code 26 = .ok (.iload_n 3, 1) := by decide +kernel
theorem d_SeriesBook_loseNumbersOf_27 : decode prog_11_method_10_code 27 = .ok (.iaload, 1) := by decide +kernel
theorem d_SeriesBook_loseNumbersOf_28 : decode prog_11_method_10_code 28 = .ok (.iconst 1, 1) := by decide +kernel
theorem d_SeriesBook_loseNumbersOf_29 : decode prog_11_method_10_code 29 = .ok (.if_icmp .ne 13, 3) := by decide +kernel
theorem d_SeriesBook_loseNumbersOf_32 : decode prog_11_method_10_code 32 = .ok (.aload_n 0, 1) := by decide +kernel
theorem d_SeriesBook_loseNumbersOf_33 : decode prog_11_method_10_code 33 = .ok (.getfield 19, 3) := by decide +kernel
theorem d_SeriesBook_loseNumbersOf_36 : decode prog_11_method_10_code 36 = .ok (.iload_n 3, 1) := by decide +kernel
theorem d_SeriesBook_loseNumbersOf_37 : decode prog_11_method_10_code 37 = .ok (.iconst 4, 1) := by decide +kernel
theorem d_SeriesBook_loseNumbersOf_38 : decode prog_11_method_10_code 38 = .ok (.iastore, 1) := by decide +kernel
theorem d_SeriesBook_loseNumbersOf_39 : decode prog_11_method_10_code 39 = .ok (.iinc 2 1, 3) := by decide +kernel
theorem d_SeriesBook_loseNumbersOf_42 : decode prog_11_method_10_code 42 = .ok (.iinc 3 1, 3) := by decide +kernel
theorem d_SeriesBook_loseNumbersOf_45 : decode prog_11_method_10_code 45 = .ok (.goto (-41), 3) := by decide +kernel
abbrev Y_SeriesBook_isOpen : MethodName := ⟨"NumberOffice$SeriesBook", "isOpen", "()Z"⟩
abbrev K_SeriesBook_isOpen : zM := (prog_11_method_4_code, 1, "NumberOffice$SeriesBook", (some .boolean), false, [])
theorem d_SeriesBook_isOpen_0 : decode prog_11_method_4_code 0 = .ok (.aload_n 0, 1) := by decide +kernel
theorem d_SeriesBook_isOpen_1 : decode prog_11_method_4_code 1 = .ok (.getfield 11, 3) := by decide +kernel
theorem d_SeriesBook_isOpen_4 : decode prog_11_method_4_code 4 = .ok (.iconst 1, 1) := by decide +kernel
theorem d_SeriesBook_isOpen_5 : decode prog_11_method_4_code 5 = .ok (.if_icmp .ne 7, 3) := by decide +kernel
theorem d_SeriesBook_isOpen_12 : decode prog_11_method_4_code 12 = .ok (.iconst 0, 1) := by decide +kernel
theorem d_SeriesBook_isOpen_8 : decode prog_11_method_4_code 8 = .ok (.iconst 1, 1) := by decide +kernel
theorem d_SeriesBook_isOpen_9 : decode prog_11_method_4_code 9 = .ok (.goto 4, 3) := by decide +kernel
theorem d_SeriesBook_isOpen_13 : decode prog_11_method_4_code 13 = .ok (.ireturn, 1) := by decide +kernel
abbrev Y_SeriesBook_leastOut : MethodName := ⟨"NumberOffice$SeriesBook", "leastOut", "()I"⟩
abbrev K_SeriesBook_leastOut : zM := (prog_11_method_11_code, 2, "NumberOffice$SeriesBook", (some .int), false, [])
theorem d_SeriesBook_leastOut_0 : decode prog_11_method_11_code 0 = .ok (.iconst 0, 1) := by decide +kernel
theorem d_SeriesBook_leastOut_1 : decode prog_11_method_11_code 1 = .ok (.istore_n 1, 1) := by decide +kernel
theorem d_SeriesBook_leastOut_2 : decode prog_11_method_11_code 2 = .ok (.iload_n 1, 1) := by decide +kernel
theorem d_SeriesBook_leastOut_3 : decode prog_11_method_11_code 3 = .ok (.aload_n 0, 1) := by decide +kernel
theorem d_SeriesBook_leastOut_4 : decode prog_11_method_11_code 4 = .ok (.getfield 38, 3) := by decide +kernel
theorem d_SeriesBook_leastOut_7 : decode prog_11_method_11_code 7 = .ok (.if_icmp .ge 23, 3) := by decide +kernel
theorem d_SeriesBook_leastOut_30 : decode prog_11_method_11_code 30 = .ok (.iconst 0, 1) := by decide +kernel
theorem d_SeriesBook_leastOut_31 : decode prog_11_method_11_code 31 = .ok (.ireturn, 1) := by decide +kernel
theorem d_SeriesBook_leastOut_10 : decode prog_11_method_11_code 10 = .ok (.aload_n 0, 1) := by decide +kernel
theorem d_SeriesBook_leastOut_11 : decode prog_11_method_11_code 11 = .ok (.getfield 19, 3) := by decide +kernel
theorem d_SeriesBook_leastOut_14 : decode prog_11_method_11_code 14 = .ok (.iload_n 1, 1) := by decide +kernel
theorem d_SeriesBook_leastOut_15 : decode prog_11_method_11_code 15 = .ok (.iaload, 1) := by decide +kernel
theorem d_SeriesBook_leastOut_16 : decode prog_11_method_11_code 16 = .ok (.iconst 1, 1) := by decide +kernel
theorem d_SeriesBook_leastOut_17 : decode prog_11_method_11_code 17 = .ok (.if_icmp .ne 7, 3) := by decide +kernel
theorem d_SeriesBook_leastOut_24 : decode prog_11_method_11_code 24 = .ok (.iinc 1 1, 3) := by decide +kernel
theorem d_SeriesBook_leastOut_27 : decode prog_11_method_11_code 27 = .ok (.goto (-25), 3) := by decide +kernel
theorem d_SeriesBook_leastOut_20 : decode prog_11_method_11_code 20 = .ok (.iload_n 1, 1) := by decide +kernel
theorem d_SeriesBook_leastOut_21 : decode prog_11_method_11_code 21 = .ok (.iconst 1, 1) := by decide +kernel
theorem d_SeriesBook_leastOut_22 : decode prog_11_method_11_code 22 = .ok (.iadd, 1) := by decide +kernel
theorem d_SeriesBook_leastOut_23 : decode prog_11_method_11_code 23 = .ok (.ireturn, 1) := by decide +kernel
abbrev Y_ListText_init : MethodName := ⟨"NumberOffice$ListText", "<init>", "()V"⟩
abbrev K_ListText_init : zM := (prog_8_method_1_code, 1, "NumberOffice$ListText", none, true, [])
theorem d_ListText_init_0 : decode prog_8_method_1_code 0 = .ok (.aload_n 0, 1) := by decide +kernel
theorem d_ListText_init_1 : decode prog_8_method_1_code 1 = .ok (.invokespecial 3, 3) := by decide +kernel
theorem wO_NumberOffice_ListText_3 : Cond.methodLink "NumberOffice$ListText" 3 objectInit ∈ ztb := ztb_of 849 (by decide +kernel) rfl
theorem d_ListText_init_4 : decode prog_8_method_1_code 4 = .ok (.aload_n 0, 1) := by decide +kernel
theorem d_ListText_init_5 : decode prog_8_method_1_code 5 = .ok (.new 9, 3) := by decide +kernel
theorem wN_NumberOffice_ListText_9 : zNl "NumberOffice$ListText" 9 12 4 [.null, .int 0, .int 0, .int 0] := ⟨zR_StringBuilder, zF_StringBuilder, zY_StringBuilder, rfl, zin_StringBuilder, zYok_StringBuilder, ztb_of 850 (by decide +kernel) rfl, ztb_of 851 (by decide +kernel) rfl, ztb_of 68 (by decide +kernel) rfl, by decide⟩
theorem d_ListText_init_8 : decode prog_8_method_1_code 8 = .ok (.dup, 1) := by decide +kernel
theorem d_ListText_init_9 : decode prog_8_method_1_code 9 = .ok (.invokespecial 11, 3) := by decide +kernel
abbrev Y_StringBuilder_init : MethodName := ⟨"java/lang/StringBuilder", "<init>", "()V"⟩
abbrev K_StringBuilder_init : zM := (prog_24_method_1_code, 1, "java/lang/StringBuilder", none, true, [])
theorem d_StringBuilder_init_0 : decode prog_24_method_1_code 0 = .ok (.aload_n 0, 1) := by decide +kernel
theorem d_StringBuilder_init_1 : decode prog_24_method_1_code 1 = .ok (.bipush 16, 2) := by decide +kernel
theorem d_StringBuilder_init_3 : decode prog_24_method_1_code 3 = .ok (.invokespecial 1, 3) := by decide +kernel
abbrev Y_AbstractStringBuilder_init : MethodName := ⟨"java/lang/AbstractStringBuilder", "<init>", "(I)V"⟩
abbrev K_AbstractStringBuilder_init : zM := (prog_16_method_2_code, 2, "java/lang/AbstractStringBuilder", none, true, [])
theorem d_AbstractStringBuilder_init_0 : decode prog_16_method_2_code 0 = .ok (.aload_n 0, 1) := by decide +kernel
theorem d_AbstractStringBuilder_init_1 : decode prog_16_method_2_code 1 = .ok (.invokespecial 3, 3) := by decide +kernel
theorem wO_java_lang_AbstractStringBuilder_3 : Cond.methodLink "java/lang/AbstractStringBuilder" 3 objectInit ∈ ztb := ztb_of 858 (by decide +kernel) rfl
theorem d_AbstractStringBuilder_init_4 : decode prog_16_method_2_code 4 = .ok (.getstatic 18, 3) := by decide +kernel
theorem wG_java_lang_AbstractStringBuilder_18 : Cond.fieldLink "java/lang/AbstractStringBuilder" 18 "java/lang/String" "COMPACT_STRINGS" "Z" ∈ ztb := ztb_of 859 (by decide +kernel) rfl
theorem d_AbstractStringBuilder_init_7 : decode prog_16_method_2_code 7 = .ok (.ifCond .eq 18, 3) := by decide +kernel
theorem d_AbstractStringBuilder_init_10 : decode prog_16_method_2_code 10 = .ok (.aload_n 0, 1) := by decide +kernel
theorem d_AbstractStringBuilder_init_11 : decode prog_16_method_2_code 11 = .ok (.iload_n 1, 1) := by decide +kernel
theorem d_AbstractStringBuilder_init_12 : decode prog_16_method_2_code 12 = .ok (.newarray .byte, 2) := by decide +kernel
theorem wA_byte : Cond.arrayClass .byte ∈ ztb := ztb_of 244 (by decide +kernel) rfl
theorem d_AbstractStringBuilder_init_14 : decode prog_16_method_2_code 14 = .ok (.putfield 15, 3) := by decide +kernel
theorem wP_java_lang_AbstractStringBuilder_15_12 : zPl "java/lang/AbstractStringBuilder" 15 12 0 (.array (.byte)) false := ⟨"java/lang/AbstractStringBuilder", zR_StringBuilder, zF_StringBuilder, 4, zY_StringBuilder, rfl, zin_StringBuilder, by decide, ztb_of 868 (by decide +kernel) rfl, Or.inl rfl, zYok_StringBuilder, zN_StringBuilder, rfl, (fun h => by cases h), by decide +kernel⟩
theorem d_AbstractStringBuilder_init_17 : decode prog_16_method_2_code 17 = .ok (.aload_n 0, 1) := by decide +kernel
theorem d_AbstractStringBuilder_init_18 : decode prog_16_method_2_code 18 = .ok (.iconst 0, 1) := by decide +kernel
theorem d_AbstractStringBuilder_init_19 : decode prog_16_method_2_code 19 = .ok (.putfield 22, 3) := by decide +kernel
theorem wP_java_lang_AbstractStringBuilder_22_12 : zPl "java/lang/AbstractStringBuilder" 22 12 1 (.byte) false := ⟨"java/lang/AbstractStringBuilder", zR_StringBuilder, zF_StringBuilder, 4, zY_StringBuilder, rfl, zin_StringBuilder, by decide, ztb_of 869 (by decide +kernel) rfl, Or.inl rfl, zYok_StringBuilder, zN_StringBuilder, rfl, (fun h => by cases h), by decide +kernel⟩
theorem d_AbstractStringBuilder_init_22 : decode prog_16_method_2_code 22 = .ok (.goto 16, 3) := by decide +kernel
theorem d_AbstractStringBuilder_init_38 : decode prog_16_method_2_code 38 = .ok (.return_, 1) := by decide +kernel
abbrev Y_StringUTF16_newBytesFor : MethodName := ⟨"java/lang/StringUTF16", "newBytesFor", "(I)[B"⟩
abbrev K_StringUTF16_newBytesFor : zM := (prog_26_method_2_code, 1, "java/lang/StringUTF16", (some (.array (.byte))), false, [])
theorem d_StringUTF16_newBytesFor_0 : decode prog_26_method_2_code 0 = .ok (.iload_n 0, 1) := by decide +kernel
theorem d_StringUTF16_newBytesFor_1 : decode prog_26_method_2_code 1 = .ok (.invokestatic 11, 3) := by decide +kernel
abbrev Y_StringUTF16_newBytesLength : MethodName := ⟨"java/lang/StringUTF16", "newBytesLength", "(I)I"⟩
abbrev K_StringUTF16_newBytesLength : zM := (prog_26_method_3_code, 1, "java/lang/StringUTF16", (some .int), false, [])
theorem d_StringUTF16_newBytesLength_0 : decode prog_26_method_3_code 0 = .ok (.iload_n 0, 1) := by decide +kernel
theorem d_StringUTF16_newBytesLength_1 : decode prog_26_method_3_code 1 = .ok (.ifCond .ge 11, 3) := by decide +kernel
theorem d_StringUTF16_newBytesLength_12 : decode prog_26_method_3_code 12 = .ok (.iload_n 0, 1) := by decide +kernel
theorem d_StringUTF16_newBytesLength_13 : decode prog_26_method_3_code 13 = .ok (.ldc 20, 2) := by decide +kernel
theorem wC_java_lang_StringUTF16_20 : Cond.constant "java/lang/StringUTF16" 20 1073741823 ∈ ztb := ztb_of 867 (by decide +kernel) rfl
theorem d_StringUTF16_newBytesLength_15 : decode prog_26_method_3_code 15 = .ok (.if_icmp .lt 40, 3) := by decide +kernel
theorem d_StringUTF16_newBytesLength_55 : decode prog_26_method_3_code 55 = .ok (.iload_n 0, 1) := by decide +kernel
theorem d_StringUTF16_newBytesLength_56 : decode prog_26_method_3_code 56 = .ok (.iconst 1, 1) := by decide +kernel
theorem d_StringUTF16_newBytesLength_57 : decode prog_26_method_3_code 57 = .ok (.ishl, 1) := by decide +kernel
theorem d_StringUTF16_newBytesLength_58 : decode prog_26_method_3_code 58 = .ok (.ireturn, 1) := by decide +kernel
theorem wF_java_lang_AbstractStringBuilder_79_12 : zFl "java/lang/AbstractStringBuilder" 79 12 3 := ⟨"java/lang/AbstractStringBuilder", zR_StringBuilder, zF_StringBuilder, 4, rfl, zin_StringBuilder, by decide, ztb_of 871 (by decide +kernel) rfl, Or.inl rfl⟩
theorem wF_java_lang_AbstractStringBuilder_15_12 : zFl "java/lang/AbstractStringBuilder" 15 12 0 := ⟨"java/lang/AbstractStringBuilder", zR_StringBuilder, zF_StringBuilder, 4, rfl, zin_StringBuilder, by decide, ztb_of 868 (by decide +kernel) rfl, Or.inl rfl⟩
theorem wF_java_lang_AbstractStringBuilder_22_12 : zFl "java/lang/AbstractStringBuilder" 22 12 1 := ⟨"java/lang/AbstractStringBuilder", zR_StringBuilder, zF_StringBuilder, 4, rfl, zin_StringBuilder, by decide, ztb_of 869 (by decide +kernel) rfl, Or.inl rfl⟩
abbrev Y_AbstractStringBuilder_newCapacity : MethodName := ⟨"java/lang/AbstractStringBuilder", "newCapacity", "(I)I"⟩
abbrev K_AbstractStringBuilder_newCapacity : zM := (prog_16_method_10_code, 6, "java/lang/AbstractStringBuilder", (some .int), false, [])
theorem d_AbstractStringBuilder_newCapacity_0 : decode prog_16_method_10_code 0 = .ok (.aload_n 0, 1) := by decide +kernel
theorem d_AbstractStringBuilder_newCapacity_1 : decode prog_16_method_10_code 1 = .ok (.getfield 15, 3) := by decide +kernel
theorem d_AbstractStringBuilder_newCapacity_4 : decode prog_16_method_10_code 4 = .ok (.arraylength, 1) := by decide +kernel
theorem d_AbstractStringBuilder_newCapacity_5 : decode prog_16_method_10_code 5 = .ok (.istore_n 2, 1) := by decide +kernel
theorem d_AbstractStringBuilder_newCapacity_6 : decode prog_16_method_10_code 6 = .ok (.iload_n 1, 1) := by decide +kernel
theorem d_AbstractStringBuilder_newCapacity_7 : decode prog_16_method_10_code 7 = .ok (.aload_n 0, 1) := by decide +kernel
theorem d_AbstractStringBuilder_newCapacity_8 : decode prog_16_method_10_code 8 = .ok (.getfield 22, 3) := by decide +kernel
theorem d_AbstractStringBuilder_newCapacity_11 : decode prog_16_method_10_code 11 = .ok (.ishl, 1) := by decide +kernel
theorem d_AbstractStringBuilder_newCapacity_12 : decode prog_16_method_10_code 12 = .ok (.istore_n 3, 1) := by decide +kernel
theorem d_AbstractStringBuilder_newCapacity_13 : decode prog_16_method_10_code 13 = .ok (.iload_n 3, 1) := by decide +kernel
theorem d_AbstractStringBuilder_newCapacity_14 : decode prog_16_method_10_code 14 = .ok (.iload_n 2, 1) := by decide +kernel
theorem d_AbstractStringBuilder_newCapacity_15 : decode prog_16_method_10_code 15 = .ok (.isub, 1) := by decide +kernel
theorem d_AbstractStringBuilder_newCapacity_16 : decode prog_16_method_10_code 16 = .ok (.istore 4, 2) := by decide +kernel
theorem d_AbstractStringBuilder_newCapacity_18 : decode prog_16_method_10_code 18 = .ok (.iload_n 2, 1) := by decide +kernel
theorem d_AbstractStringBuilder_newCapacity_19 : decode prog_16_method_10_code 19 = .ok (.iload 4, 2) := by decide +kernel
theorem d_AbstractStringBuilder_newCapacity_21 : decode prog_16_method_10_code 21 = .ok (.iload_n 2, 1) := by decide +kernel
theorem d_AbstractStringBuilder_newCapacity_22 : decode prog_16_method_10_code 22 = .ok (.iconst 2, 1) := by decide +kernel
theorem d_AbstractStringBuilder_newCapacity_23 : decode prog_16_method_10_code 23 = .ok (.aload_n 0, 1) := by decide +kernel
theorem d_AbstractStringBuilder_newCapacity_24 : decode prog_16_method_10_code 24 = .ok (.getfield 22, 3) := by decide +kernel
theorem d_AbstractStringBuilder_newCapacity_27 : decode prog_16_method_10_code 27 = .ok (.ishl, 1) := by decide +kernel
theorem d_AbstractStringBuilder_newCapacity_28 : decode prog_16_method_10_code 28 = .ok (.iadd, 1) := by decide +kernel
theorem d_AbstractStringBuilder_newCapacity_29 : decode prog_16_method_10_code 29 = .ok (.invokestatic 114, 3) := by decide +kernel
abbrev Y_AbstractStringBuilder_isLatin1 : MethodName := ⟨"java/lang/AbstractStringBuilder", "isLatin1", "()Z"⟩
abbrev K_AbstractStringBuilder_isLatin1 : zM := (prog_16_method_68_code, 1, "java/lang/AbstractStringBuilder", (some .boolean), false, [])
theorem d_AbstractStringBuilder_isLatin1_0 : decode prog_16_method_68_code 0 = .ok (.getstatic 18, 3) := by decide +kernel
theorem d_AbstractStringBuilder_isLatin1_3 : decode prog_16_method_68_code 3 = .ok (.ifCond .eq 14, 3) := by decide +kernel
theorem d_AbstractStringBuilder_isLatin1_6 : decode prog_16_method_68_code 6 = .ok (.aload_n 0, 1) := by decide +kernel
theorem d_AbstractStringBuilder_isLatin1_7 : decode prog_16_method_68_code 7 = .ok (.getfield 22, 3) := by decide +kernel
theorem d_AbstractStringBuilder_isLatin1_10 : decode prog_16_method_68_code 10 = .ok (.ifCond .ne 7, 3) := by decide +kernel
theorem d_AbstractStringBuilder_isLatin1_13 : decode prog_16_method_68_code 13 = .ok (.iconst 1, 1) := by decide +kernel
theorem d_AbstractStringBuilder_isLatin1_14 : decode prog_16_method_68_code 14 = .ok (.goto 4, 3) := by decide +kernel
theorem d_AbstractStringBuilder_isLatin1_17 : decode prog_16_method_68_code 17 = .ok (.iconst 0, 1) := by decide +kernel
theorem d_AbstractStringBuilder_isLatin1_18 : decode prog_16_method_68_code 18 = .ok (.ireturn, 1) := by decide +kernel
abbrev Y_StringLatin1_canEncode : MethodName := ⟨"java/lang/StringLatin1", "canEncode", "(C)Z"⟩
abbrev K_StringLatin1_canEncode : zM := (prog_25_method_3_code, 1, "java/lang/StringLatin1", (some .boolean), false, [])
theorem d_StringLatin1_canEncode_0 : decode prog_25_method_3_code 0 = .ok (.iload_n 0, 1) := by decide +kernel
theorem d_StringLatin1_canEncode_1 : decode prog_25_method_3_code 1 = .ok (.sipush 255, 3) := by decide +kernel
theorem d_StringLatin1_canEncode_4 : decode prog_25_method_3_code 4 = .ok (.if_icmp .gt 7, 3) := by decide +kernel
theorem d_StringLatin1_canEncode_11 : decode prog_25_method_3_code 11 = .ok (.iconst 0, 1) := by decide +kernel
theorem d_StringLatin1_canEncode_7 : decode prog_25_method_3_code 7 = .ok (.iconst 1, 1) := by decide +kernel
theorem d_StringLatin1_canEncode_8 : decode prog_25_method_3_code 8 = .ok (.goto 4, 3) := by decide +kernel
theorem d_StringLatin1_canEncode_12 : decode prog_25_method_3_code 12 = .ok (.ireturn, 1) := by decide +kernel
abbrev Y_AbstractStringBuilder_inflate : MethodName := ⟨"java/lang/AbstractStringBuilder", "inflate", "()V"⟩
abbrev K_AbstractStringBuilder_inflate : zM := (prog_16_method_11_code, 2, "java/lang/AbstractStringBuilder", none, false, [])
theorem d_AbstractStringBuilder_inflate_0 : decode prog_16_method_11_code 0 = .ok (.aload_n 0, 1) := by decide +kernel
theorem d_AbstractStringBuilder_inflate_1 : decode prog_16_method_11_code 1 = .ok (.invokevirtual 83, 3) := by decide +kernel
theorem wX_java_lang_AbstractStringBuilder_83_12 : zUl "java/lang/AbstractStringBuilder" 83 12 ⟨"java/lang/AbstractStringBuilder", "isLatin1", "()Z"⟩ Y_AbstractStringBuilder_isLatin1 K_AbstractStringBuilder_isLatin1 0 := ⟨zR_StringBuilder, "java/lang/AbstractStringBuilder", zF_StringBuilder, 4, rfl, ztb_of 928 (by decide +kernel) rfl, ztb_of 930 (by decide +kernel) rfl, Or.inl ⟨ztb_of 929 (by decide +kernel) rfl, K_AbstractStringBuilder_isLatin1, ztb_of 932 (by decide +kernel) rfl⟩, by decide, ztb_of 931 (by decide +kernel) rfl, ztb_of 929 (by decide +kernel) rfl, ztb_of 67 (by decide +kernel) rfl, ztb_of 932 (by decide +kernel) rfl, by decide +kernel⟩
theorem d_AbstractStringBuilder_inflate_4 : decode prog_16_method_11_code 4 = .ok (.ifCond .ne 4, 3) := by decide +kernel
theorem d_AbstractStringBuilder_inflate_8 : decode prog_16_method_11_code 8 = .ok (.aload_n 0, 1) := by decide +kernel
theorem d_AbstractStringBuilder_inflate_9 : decode prog_16_method_11_code 9 = .ok (.getfield 15, 3) := by decide +kernel
theorem d_AbstractStringBuilder_inflate_12 : decode prog_16_method_11_code 12 = .ok (.arraylength, 1) := by decide +kernel
theorem d_AbstractStringBuilder_inflate_13 : decode prog_16_method_11_code 13 = .ok (.invokestatic 26, 3) := by decide +kernel
abbrev Y_StringLatin1_inflate : MethodName := ⟨"java/lang/StringLatin1", "inflate", "([BI[BII)V"⟩
abbrev K_StringLatin1_inflate : zM := (prog_25_method_50_code, 5, "java/lang/StringLatin1", none, false, [])
theorem d_StringLatin1_inflate_0 : decode prog_25_method_50_code 0 = .ok (.aload_n 0, 1) := by decide +kernel
theorem d_StringLatin1_inflate_1 : decode prog_25_method_50_code 1 = .ok (.iload_n 1, 1) := by decide +kernel
theorem d_StringLatin1_inflate_2 : decode prog_25_method_50_code 2 = .ok (.aload_n 2, 1) := by decide +kernel
theorem d_StringLatin1_inflate_3 : decode prog_25_method_50_code 3 = .ok (.iload_n 3, 1) := by decide +kernel
theorem d_StringLatin1_inflate_4 : decode prog_25_method_50_code 4 = .ok (.iload 4, 2) := by decide +kernel
theorem d_StringLatin1_inflate_6 : decode prog_25_method_50_code 6 = .ok (.invokestatic 240, 3) := by decide +kernel
abbrev Y_StringUTF16_inflate : MethodName := ⟨"java/lang/StringUTF16", "inflate", "([BI[BII)V"⟩
abbrev K_StringUTF16_inflate : zM := (prog_26_method_86_code, 6, "java/lang/StringUTF16", none, false, [])
theorem d_StringUTF16_inflate_0 : decode prog_26_method_86_code 0 = .ok (.iload_n 3, 1) := by decide +kernel
theorem d_StringUTF16_inflate_1 : decode prog_26_method_86_code 1 = .ok (.iload 4, 2) := by decide +kernel
theorem d_StringUTF16_inflate_3 : decode prog_26_method_86_code 3 = .ok (.aload_n 2, 1) := by decide +kernel
theorem d_StringUTF16_inflate_4 : decode prog_26_method_86_code 4 = .ok (.invokestatic 173, 3) := by decide +kernel
abbrev Y_StringUTF16_checkBoundsOffCount : MethodName := ⟨"java/lang/StringUTF16", "checkBoundsOffCount", "(II[B)V"⟩
abbrev K_StringUTF16_checkBoundsOffCount : zM := (prog_26_method_94_code, 3, "java/lang/StringUTF16", none, false, [])
theorem d_StringUTF16_checkBoundsOffCount_0 : decode prog_26_method_94_code 0 = .ok (.iload_n 0, 1) := by decide +kernel
theorem d_StringUTF16_checkBoundsOffCount_1 : decode prog_26_method_94_code 1 = .ok (.iload_n 1, 1) := by decide +kernel
theorem d_StringUTF16_checkBoundsOffCount_2 : decode prog_26_method_94_code 2 = .ok (.aload_n 2, 1) := by decide +kernel
theorem d_StringUTF16_checkBoundsOffCount_3 : decode prog_26_method_94_code 3 = .ok (.invokestatic 48, 3) := by decide +kernel
abbrev Y_StringUTF16_length : MethodName := ⟨"java/lang/StringUTF16", "length", "([B)I"⟩
abbrev K_StringUTF16_length : zM := (prog_26_method_6_code, 1, "java/lang/StringUTF16", (some .int), false, [])
theorem d_StringUTF16_length_0 : decode prog_26_method_6_code 0 = .ok (.aload_n 0, 1) := by decide +kernel
theorem d_StringUTF16_length_1 : decode prog_26_method_6_code 1 = .ok (.arraylength, 1) := by decide +kernel
theorem d_StringUTF16_length_2 : decode prog_26_method_6_code 2 = .ok (.iconst 1, 1) := by decide +kernel
theorem d_StringUTF16_length_3 : decode prog_26_method_6_code 3 = .ok (.ishr, 1) := by decide +kernel
theorem d_StringUTF16_length_4 : decode prog_26_method_6_code 4 = .ok (.ireturn, 1) := by decide +kernel
abbrev Y_String_checkBoundsOffCount : MethodName := ⟨"java/lang/String", "checkBoundsOffCount", "(III)I"⟩
abbrev K_String_checkBoundsOffCount : zM := (prog_23_method_157_code, 3, "java/lang/String", (some .int), false, [])
theorem d_String_checkBoundsOffCount_0 : decode prog_23_method_157_code 0 = .ok (.iload_n 0, 1) := by decide +kernel
theorem d_String_checkBoundsOffCount_1 : decode prog_23_method_157_code 1 = .ok (.iload_n 1, 1) := by decide +kernel
theorem d_String_checkBoundsOffCount_2 : decode prog_23_method_157_code 2 = .ok (.iload_n 2, 1) := by decide +kernel
theorem d_String_checkBoundsOffCount_3 : decode prog_23_method_157_code 3 = .ok (.getstatic 1053, 3) := by decide +kernel
theorem wG_java_lang_String_1053 : Cond.fieldLink "java/lang/String" 1053 "jdk/internal/util/Preconditions" "SIOOBE_FORMATTER" "Ljava/util/function/BiFunction;" ∈ ztb := ztb_of 955 (by decide +kernel) rfl
theorem d_String_checkBoundsOffCount_6 : decode prog_23_method_157_code 6 = .ok (.invokestatic 1065, 3) := by decide +kernel
abbrev Y_Preconditions_checkFromIndexSize : MethodName := ⟨"jdk/internal/util/Preconditions", "checkFromIndexSize", "(IIILjava/util/function/BiFunction;)I"⟩
abbrev K_Preconditions_checkFromIndexSize : zM := (prog_39_method_13_code, 4, "jdk/internal/util/Preconditions", (some .int), false, [])
theorem d_Preconditions_checkFromIndexSize_0 : decode prog_39_method_13_code 0 = .ok (.iload_n 2, 1) := by decide +kernel
theorem d_Preconditions_checkFromIndexSize_1 : decode prog_39_method_13_code 1 = .ok (.iload_n 0, 1) := by decide +kernel
theorem d_Preconditions_checkFromIndexSize_2 : decode prog_39_method_13_code 2 = .ok (.ior, 1) := by decide +kernel
theorem d_Preconditions_checkFromIndexSize_3 : decode prog_39_method_13_code 3 = .ok (.iload_n 1, 1) := by decide +kernel
theorem d_Preconditions_checkFromIndexSize_4 : decode prog_39_method_13_code 4 = .ok (.ior, 1) := by decide +kernel
theorem d_Preconditions_checkFromIndexSize_5 : decode prog_39_method_13_code 5 = .ok (.ifCond .lt 10, 3) := by decide +kernel
theorem d_Preconditions_checkFromIndexSize_8 : decode prog_39_method_13_code 8 = .ok (.iload_n 1, 1) := by decide +kernel
theorem d_Preconditions_checkFromIndexSize_9 : decode prog_39_method_13_code 9 = .ok (.iload_n 2, 1) := by decide +kernel
theorem d_Preconditions_checkFromIndexSize_10 : decode prog_39_method_13_code 10 = .ok (.iload_n 0, 1) := by decide +kernel
theorem d_Preconditions_checkFromIndexSize_11 : decode prog_39_method_13_code 11 = .ok (.isub, 1) := by decide +kernel
theorem d_Preconditions_checkFromIndexSize_12 : decode prog_39_method_13_code 12 = .ok (.if_icmp .le 11, 3) := by decide +kernel
theorem d_Preconditions_checkFromIndexSize_23 : decode prog_39_method_13_code 23 = .ok (.iload_n 0, 1) := by decide +kernel
theorem d_Preconditions_checkFromIndexSize_24 : decode prog_39_method_13_code 24 = .ok (.ireturn, 1) := by decide +kernel
theorem d_Preconditions_checkFromIndexSize_15 : decode prog_39_method_13_code 15 = .ok (.aload_n 3, 1) := by decide +kernel
theorem d_Preconditions_checkFromIndexSize_16 : decode prog_39_method_13_code 16 = .ok (.iload_n 0, 1) := by decide +kernel
theorem d_Preconditions_checkFromIndexSize_17 : decode prog_39_method_13_code 17 = .ok (.iload_n 1, 1) := by decide +kernel
theorem d_Preconditions_checkFromIndexSize_18 : decode prog_39_method_13_code 18 = .ok (.iload_n 2, 1) := by decide +kernel
abbrev Y_StringUTF16_putChar : MethodName := ⟨"java/lang/StringUTF16", "putChar", "([BII)V"⟩
abbrev K_StringUTF16_putChar : zM := (prog_26_method_4_code, 3, "java/lang/StringUTF16", none, false, [])
theorem d_StringUTF16_putChar_0 : decode prog_26_method_4_code 0 = .ok (.getstatic 44, 3) := by decide +kernel
theorem wG_java_lang_StringUTF16_44 : Cond.fieldLink "java/lang/StringUTF16" 44 "java/lang/StringUTF16" "$assertionsDisabled" "Z" ∈ ztb := ztb_of 963 (by decide +kernel) rfl
theorem d_StringUTF16_putChar_3 : decode prog_26_method_4_code 3 = .ok (.ifCond .ne 25, 3) := by decide +kernel
theorem d_StringUTF16_putChar_28 : decode prog_26_method_4_code 28 = .ok (.iload_n 1, 1) := by decide +kernel
theorem d_StringUTF16_putChar_29 : decode prog_26_method_4_code 29 = .ok (.iconst 1, 1) := by decide +kernel
theorem d_StringUTF16_putChar_30 : decode prog_26_method_4_code 30 = .ok (.ishl, 1) := by decide +kernel
theorem d_StringUTF16_putChar_31 : decode prog_26_method_4_code 31 = .ok (.istore_n 1, 1) := by decide +kernel
theorem d_StringUTF16_putChar_32 : decode prog_26_method_4_code 32 = .ok (.aload_n 0, 1) := by decide +kernel
theorem d_StringUTF16_putChar_33 : decode prog_26_method_4_code 33 = .ok (.iload_n 1, 1) := by decide +kernel
theorem d_StringUTF16_putChar_34 : decode prog_26_method_4_code 34 = .ok (.iinc 1 1, 3) := by decide +kernel
theorem d_StringUTF16_putChar_37 : decode prog_26_method_4_code 37 = .ok (.iload_n 2, 1) := by decide +kernel
theorem d_StringUTF16_putChar_38 : decode prog_26_method_4_code 38 = .ok (.getstatic 59, 3) := by decide +kernel
theorem wG_java_lang_StringUTF16_59 : Cond.fieldLink "java/lang/StringUTF16" 59 "java/lang/StringUTF16" "HI_BYTE_SHIFT" "I" ∈ ztb := ztb_of 965 (by decide +kernel) rfl
theorem d_StringUTF16_putChar_41 : decode prog_26_method_4_code 41 = .ok (.ishr, 1) := by decide +kernel
theorem d_StringUTF16_putChar_42 : decode prog_26_method_4_code 42 = .ok (.i2b, 1) := by decide +kernel
theorem d_StringUTF16_putChar_43 : decode prog_26_method_4_code 43 = .ok (.bastore, 1) := by decide +kernel
theorem d_StringUTF16_putChar_44 : decode prog_26_method_4_code 44 = .ok (.aload_n 0, 1) := by decide +kernel
theorem d_StringUTF16_putChar_45 : decode prog_26_method_4_code 45 = .ok (.iload_n 1, 1) := by decide +kernel
theorem d_StringUTF16_putChar_46 : decode prog_26_method_4_code 46 = .ok (.iload_n 2, 1) := by decide +kernel
theorem d_StringUTF16_putChar_47 : decode prog_26_method_4_code 47 = .ok (.getstatic 63, 3) := by decide +kernel
theorem wG_java_lang_StringUTF16_63 : Cond.fieldLink "java/lang/StringUTF16" 63 "java/lang/StringUTF16" "LO_BYTE_SHIFT" "I" ∈ ztb := ztb_of 967 (by decide +kernel) rfl
theorem d_StringUTF16_putChar_50 : decode prog_26_method_4_code 50 = .ok (.ishr, 1) := by decide +kernel
theorem d_StringUTF16_putChar_51 : decode prog_26_method_4_code 51 = .ok (.i2b, 1) := by decide +kernel
theorem d_StringUTF16_putChar_52 : decode prog_26_method_4_code 52 = .ok (.bastore, 1) := by decide +kernel
theorem d_StringUTF16_putChar_53 : decode prog_26_method_4_code 53 = .ok (.return_, 1) := by decide +kernel
abbrev Y_StringUTF16_putCharSB : MethodName := ⟨"java/lang/StringUTF16", "putCharSB", "([BII)V"⟩
abbrev K_StringUTF16_putCharSB : zM := (prog_26_method_71_code, 3, "java/lang/StringUTF16", none, false, [])
theorem d_StringUTF16_putCharSB_0 : decode prog_26_method_71_code 0 = .ok (.iload_n 1, 1) := by decide +kernel
theorem d_StringUTF16_putCharSB_1 : decode prog_26_method_71_code 1 = .ok (.aload_n 0, 1) := by decide +kernel
theorem d_StringUTF16_putCharSB_2 : decode prog_26_method_71_code 2 = .ok (.invokestatic 67, 3) := by decide +kernel
abbrev Y_StringUTF16_checkIndex : MethodName := ⟨"java/lang/StringUTF16", "checkIndex", "(I[B)V"⟩
abbrev K_StringUTF16_checkIndex : zM := (prog_26_method_91_code, 2, "java/lang/StringUTF16", none, false, [])
theorem d_StringUTF16_checkIndex_0 : decode prog_26_method_91_code 0 = .ok (.iload_n 0, 1) := by decide +kernel
theorem d_StringUTF16_checkIndex_1 : decode prog_26_method_91_code 1 = .ok (.aload_n 1, 1) := by decide +kernel
theorem d_StringUTF16_checkIndex_2 : decode prog_26_method_91_code 2 = .ok (.invokestatic 48, 3) := by decide +kernel
theorem wS_java_lang_StringUTF16_48 : zSl "java/lang/StringUTF16" 48 Y_StringUTF16_length K_StringUTF16_length 1 := ⟨ztb_of 949 (by decide +kernel) rfl, ztb_of 950 (by decide +kernel) rfl, ztb_of 70 (by decide +kernel) rfl, ztb_of 951 (by decide +kernel) rfl, by decide, by decide +kernel⟩
theorem d_StringUTF16_checkIndex_5 : decode prog_26_method_91_code 5 = .ok (.invokestatic 414, 3) := by decide +kernel
abbrev Y_String_checkIndex : MethodName := ⟨"java/lang/String", "checkIndex", "(II)V"⟩
abbrev K_String_checkIndex : zM := (prog_23_method_155_code, 2, "java/lang/String", none, false, [])
theorem d_String_checkIndex_0 : decode prog_23_method_155_code 0 = .ok (.iload_n 0, 1) := by decide +kernel
theorem d_String_checkIndex_1 : decode prog_23_method_155_code 1 = .ok (.iload_n 1, 1) := by decide +kernel
theorem d_String_checkIndex_2 : decode prog_23_method_155_code 2 = .ok (.getstatic 1053, 3) := by decide +kernel
theorem d_String_checkIndex_5 : decode prog_23_method_155_code 5 = .ok (.invokestatic 1059, 3) := by decide +kernel
theorem wS_java_lang_String_1059 : zSl "java/lang/String" 1059 Y_Preconditions_checkIndex K_Preconditions_checkIndex 3 := ⟨ztb_of 978 (by decide +kernel) rfl, ztb_of 393 (by decide +kernel) rfl, ztb_of 64 (by decide +kernel) rfl, ztb_of 394 (by decide +kernel) rfl, by decide, by decide +kernel⟩
theorem d_String_checkIndex_8 : decode prog_23_method_155_code 8 = .ok (.pop, 1) := by decide +kernel
theorem d_String_checkIndex_9 : decode prog_23_method_155_code 9 = .ok (.return_, 1) := by decide +kernel
abbrev Y_ListText_digit : MethodName := ⟨"NumberOffice$ListText", "digit", "(J)C"⟩
abbrev K_ListText_digit : zM := (prog_8_method_6_code, 2, "NumberOffice$ListText", (some .char), false, [])
theorem d_ListText_digit_0 : decode prog_8_method_6_code 0 = .ok (.ldc2_w 83, 3) := by decide +kernel
theorem wC_NumberOffice_ListText_83 : Cond.constantLong "NumberOffice$ListText" 83 48 ∈ ztb := ztb_of 985 (by decide +kernel) rfl
theorem d_ListText_digit_3 : decode prog_8_method_6_code 3 = .ok (.lload_n 0, 1) := by decide +kernel
theorem d_ListText_digit_4 : decode prog_8_method_6_code 4 = .ok (.ldc2_w 71, 3) := by decide +kernel
theorem wC_NumberOffice_ListText_71 : Cond.constantLong "NumberOffice$ListText" 71 10 ∈ ztb := ztb_of 986 (by decide +kernel) rfl
theorem d_ListText_digit_7 : decode prog_8_method_6_code 7 = .ok (.lrem, 1) := by decide +kernel
theorem d_ListText_digit_8 : decode prog_8_method_6_code 8 = .ok (.ladd, 1) := by decide +kernel
theorem d_ListText_digit_9 : decode prog_8_method_6_code 9 = .ok (.l2i, 1) := by decide +kernel
theorem d_ListText_digit_10 : decode prog_8_method_6_code 10 = .ok (.i2c, 1) := by decide +kernel
theorem d_ListText_digit_11 : decode prog_8_method_6_code 11 = .ok (.ireturn, 1) := by decide +kernel
abbrev Y_StringUTF16_putCharsAt : MethodName := ⟨"java/lang/StringUTF16", "putCharsAt", "([BICCCC)I"⟩
abbrev K_StringUTF16_putCharsAt : zM := (prog_26_method_81_code, 7, "java/lang/StringUTF16", (some .int), false, [])
theorem d_StringUTF16_putCharsAt_0 : decode prog_26_method_81_code 0 = .ok (.iload_n 1, 1) := by decide +kernel
theorem d_StringUTF16_putCharsAt_1 : decode prog_26_method_81_code 1 = .ok (.iconst 4, 1) := by decide +kernel
theorem d_StringUTF16_putCharsAt_2 : decode prog_26_method_81_code 2 = .ok (.iadd, 1) := by decide +kernel
theorem d_StringUTF16_putCharsAt_3 : decode prog_26_method_81_code 3 = .ok (.istore 6, 2) := by decide +kernel
theorem d_StringUTF16_putCharsAt_5 : decode prog_26_method_81_code 5 = .ok (.iload_n 1, 1) := by decide +kernel
theorem d_StringUTF16_putCharsAt_6 : decode prog_26_method_81_code 6 = .ok (.iload 6, 2) := by decide +kernel
theorem d_StringUTF16_putCharsAt_8 : decode prog_26_method_81_code 8 = .ok (.aload_n 0, 1) := by decide +kernel
theorem d_StringUTF16_putCharsAt_9 : decode prog_26_method_81_code 9 = .ok (.invokestatic 96, 3) := by decide +kernel
abbrev Y_StringUTF16_checkBoundsBeginEnd : MethodName := ⟨"java/lang/StringUTF16", "checkBoundsBeginEnd", "(II[B)V"⟩
abbrev K_StringUTF16_checkBoundsBeginEnd : zM := (prog_26_method_93_code, 3, "java/lang/StringUTF16", none, false, [])
theorem d_StringUTF16_checkBoundsBeginEnd_0 : decode prog_26_method_93_code 0 = .ok (.iload_n 0, 1) := by decide +kernel
theorem d_StringUTF16_checkBoundsBeginEnd_1 : decode prog_26_method_93_code 1 = .ok (.iload_n 1, 1) := by decide +kernel
theorem d_StringUTF16_checkBoundsBeginEnd_2 : decode prog_26_method_93_code 2 = .ok (.aload_n 2, 1) := by decide +kernel
theorem d_StringUTF16_checkBoundsBeginEnd_3 : decode prog_26_method_93_code 3 = .ok (.invokestatic 48, 3) := by decide +kernel
theorem d_StringUTF16_checkBoundsBeginEnd_6 : decode prog_26_method_93_code 6 = .ok (.invokestatic 241, 3) := by decide +kernel
abbrev Y_String_checkBoundsBeginEnd : MethodName := ⟨"java/lang/String", "checkBoundsBeginEnd", "(III)V"⟩
abbrev K_String_checkBoundsBeginEnd : zM := (prog_23_method_158_code, 3, "java/lang/String", none, false, [])
theorem d_String_checkBoundsBeginEnd_0 : decode prog_23_method_158_code 0 = .ok (.iload_n 0, 1) := by decide +kernel
theorem d_String_checkBoundsBeginEnd_1 : decode prog_23_method_158_code 1 = .ok (.iload_n 1, 1) := by decide +kernel
theorem d_String_checkBoundsBeginEnd_2 : decode prog_23_method_158_code 2 = .ok (.iload_n 2, 1) := by decide +kernel
theorem d_String_checkBoundsBeginEnd_3 : decode prog_23_method_158_code 3 = .ok (.getstatic 1053, 3) := by decide +kernel
theorem d_String_checkBoundsBeginEnd_6 : decode prog_23_method_158_code 6 = .ok (.invokestatic 1062, 3) := by decide +kernel
abbrev Y_Preconditions_checkFromToIndex : MethodName := ⟨"jdk/internal/util/Preconditions", "checkFromToIndex", "(IIILjava/util/function/BiFunction;)I"⟩
abbrev K_Preconditions_checkFromToIndex : zM := (prog_39_method_12_code, 4, "jdk/internal/util/Preconditions", (some .int), false, [])
theorem d_Preconditions_checkFromToIndex_0 : decode prog_39_method_12_code 0 = .ok (.iload_n 0, 1) := by decide +kernel
theorem d_Preconditions_checkFromToIndex_1 : decode prog_39_method_12_code 1 = .ok (.ifCond .lt 13, 3) := by decide +kernel
theorem d_Preconditions_checkFromToIndex_4 : decode prog_39_method_12_code 4 = .ok (.iload_n 0, 1) := by decide +kernel
theorem d_Preconditions_checkFromToIndex_5 : decode prog_39_method_12_code 5 = .ok (.iload_n 1, 1) := by decide +kernel
theorem d_Preconditions_checkFromToIndex_6 : decode prog_39_method_12_code 6 = .ok (.if_icmp .gt 8, 3) := by decide +kernel
theorem d_Preconditions_checkFromToIndex_9 : decode prog_39_method_12_code 9 = .ok (.iload_n 1, 1) := by decide +kernel
theorem d_Preconditions_checkFromToIndex_10 : decode prog_39_method_12_code 10 = .ok (.iload_n 2, 1) := by decide +kernel
theorem d_Preconditions_checkFromToIndex_11 : decode prog_39_method_12_code 11 = .ok (.if_icmp .le 11, 3) := by decide +kernel
theorem d_Preconditions_checkFromToIndex_22 : decode prog_39_method_12_code 22 = .ok (.iload_n 0, 1) := by decide +kernel
theorem d_Preconditions_checkFromToIndex_23 : decode prog_39_method_12_code 23 = .ok (.ireturn, 1) := by decide +kernel
theorem d_Preconditions_checkFromToIndex_14 : decode prog_39_method_12_code 14 = .ok (.aload_n 3, 1) := by decide +kernel
theorem d_Preconditions_checkFromToIndex_15 : decode prog_39_method_12_code 15 = .ok (.iload_n 0, 1) := by decide +kernel
theorem d_Preconditions_checkFromToIndex_16 : decode prog_39_method_12_code 16 = .ok (.iload_n 1, 1) := by decide +kernel
theorem d_Preconditions_checkFromToIndex_17 : decode prog_39_method_12_code 17 = .ok (.iload_n 2, 1) := by decide +kernel
abbrev Y_String_length : MethodName := ⟨"java/lang/String", "length", "()I"⟩
abbrev K_String_length : zM := (prog_23_method_54_code, 1, "java/lang/String", (some .int), false, [])
theorem d_String_length_0 : decode prog_23_method_54_code 0 = .ok (.aload_n 0, 1) := by decide +kernel
theorem d_String_length_1 : decode prog_23_method_54_code 1 = .ok (.getfield 9, 3) := by decide +kernel
theorem wF_java_lang_String_9_13 : zFl "java/lang/String" 9 13 0 := ⟨"java/lang/String", zR_String, zF_String, 4, rfl, zin_String, by decide, ztb_of 1098 (by decide +kernel) rfl, Or.inl rfl⟩
theorem d_String_length_4 : decode prog_23_method_54_code 4 = .ok (.arraylength, 1) := by decide +kernel
theorem d_String_length_5 : decode prog_23_method_54_code 5 = .ok (.aload_n 0, 1) := by decide +kernel
theorem d_String_length_6 : decode prog_23_method_54_code 6 = .ok (.invokevirtual 335, 3) := by decide +kernel
abbrev Y_String_coder : MethodName := ⟨"java/lang/String", "coder", "()B"⟩
abbrev K_String_coder : zM := (prog_23_method_152_code, 1, "java/lang/String", (some .byte), false, [])
theorem d_String_coder_0 : decode prog_23_method_152_code 0 = .ok (.getstatic 38, 3) := by decide +kernel
theorem wG_java_lang_String_38 : Cond.fieldLink "java/lang/String" 38 "java/lang/String" "COMPACT_STRINGS" "Z" ∈ ztb := ztb_of 1020 (by decide +kernel) rfl
theorem d_String_coder_3 : decode prog_23_method_152_code 3 = .ok (.ifCond .eq 10, 3) := by decide +kernel
theorem d_String_coder_6 : decode prog_23_method_152_code 6 = .ok (.aload_n 0, 1) := by decide +kernel
theorem d_String_coder_7 : decode prog_23_method_152_code 7 = .ok (.getfield 15, 3) := by decide +kernel
theorem wF_java_lang_String_15_13 : zFl "java/lang/String" 15 13 1 := ⟨"java/lang/String", zR_String, zF_String, 4, rfl, zin_String, by decide, ztb_of 1099 (by decide +kernel) rfl, Or.inl rfl⟩
theorem d_String_coder_10 : decode prog_23_method_152_code 10 = .ok (.goto 4, 3) := by decide +kernel
theorem d_String_coder_14 : decode prog_23_method_152_code 14 = .ok (.ireturn, 1) := by decide +kernel
theorem wV_java_lang_String_335 : zVl "java/lang/String" 335 13 Y_String_coder K_String_coder 0 := ⟨zR_String, zF_String, 4, rfl, ztb_of 1016 (by decide +kernel) rfl, ztb_of 1017 (by decide +kernel) rfl, ztb_of 1018 (by decide +kernel) rfl, ztb_of 69 (by decide +kernel) rfl, ztb_of 1019 (by decide +kernel) rfl, by decide, by decide +kernel⟩
abbrev Y_SeriesBook_fieldOf : MethodName := ⟨"NumberOffice$SeriesBook", "fieldOf", "(II)J"⟩
abbrev K_SeriesBook_fieldOf : zM := (prog_11_method_12_code, 5, "NumberOffice$SeriesBook", (some .long), false, [])
theorem d_SeriesBook_fieldOf_0 : decode prog_11_method_12_code 0 = .ok (.aload_n 0, 1) := by decide +kernel
theorem d_SeriesBook_fieldOf_1 : decode prog_11_method_12_code 1 = .ok (.iload_n 1, 1) := by decide +kernel
theorem d_SeriesBook_fieldOf_2 : decode prog_11_method_12_code 2 = .ok (.invokevirtual 74, 3) := by decide +kernel
abbrev Y_AbstractStringBuilder_getValue : MethodName := ⟨"java/lang/AbstractStringBuilder", "getValue", "()[B"⟩
abbrev K_AbstractStringBuilder_getValue : zM := (prog_16_method_64_code, 1, "java/lang/AbstractStringBuilder", (some (.array (.byte))), false, [])
theorem d_AbstractStringBuilder_getValue_0 : decode prog_16_method_64_code 0 = .ok (.aload_n 0, 1) := by decide +kernel
theorem d_AbstractStringBuilder_getValue_1 : decode prog_16_method_64_code 1 = .ok (.getfield 15, 3) := by decide +kernel
theorem d_AbstractStringBuilder_getValue_4 : decode prog_16_method_64_code 4 = .ok (.areturn, 1) := by decide +kernel
abbrev Y_StringBuilder_length : MethodName := ⟨"java/lang/StringBuilder", "length", "()I"⟩
abbrev K_StringBuilder_length : zM := (prog_24_method_93_code, 1, "java/lang/StringBuilder", (some .int), false, [])
theorem d_StringBuilder_length_0 : decode prog_24_method_93_code 0 = .ok (.aload_n 0, 1) := by decide +kernel
theorem d_StringBuilder_length_1 : decode prog_24_method_93_code 1 = .ok (.invokespecial 343, 3) := by decide +kernel
abbrev Y_AbstractStringBuilder_length : MethodName := ⟨"java/lang/AbstractStringBuilder", "length", "()I"⟩
abbrev K_AbstractStringBuilder_length : zM := (prog_16_method_6_code, 1, "java/lang/AbstractStringBuilder", (some .int), false, [])
theorem d_AbstractStringBuilder_length_0 : decode prog_16_method_6_code 0 = .ok (.aload_n 0, 1) := by decide +kernel
theorem d_AbstractStringBuilder_length_1 : decode prog_16_method_6_code 1 = .ok (.getfield 79, 3) := by decide +kernel
theorem d_AbstractStringBuilder_length_4 : decode prog_16_method_6_code 4 = .ok (.ireturn, 1) := by decide +kernel
abbrev Y_Arrays_checkLength : MethodName := ⟨"java/util/Arrays", "checkLength", "(II)V"⟩
abbrev K_Arrays_checkLength : zM := (prog_32_method_131_code, 2, "java/util/Arrays", none, false, [])
theorem d_Arrays_checkLength_0 : decode prog_32_method_131_code 0 = .ok (.iload_n 1, 1) := by decide +kernel
theorem d_Arrays_checkLength_1 : decode prog_32_method_131_code 1 = .ok (.iload_n 0, 1) := by decide +kernel
theorem d_Arrays_checkLength_2 : decode prog_32_method_131_code 2 = .ok (.if_icmp .ge 35, 3) := by decide +kernel
theorem d_Arrays_checkLength_37 : decode prog_32_method_131_code 37 = .ok (.return_, 1) := by decide +kernel
abbrev Y_StringUTF16_compress2 : MethodName := ⟨"java/lang/StringUTF16", "compress", "([BI[BII)I"⟩
abbrev K_StringUTF16_compress2 : zM := (prog_26_method_22_code, 7, "java/lang/StringUTF16", (some .int), false, [])
theorem d_StringUTF16_compress2_0 : decode prog_26_method_22_code 0 = .ok (.iload_n 1, 1) := by decide +kernel
theorem d_StringUTF16_compress2_1 : decode prog_26_method_22_code 1 = .ok (.iload 4, 2) := by decide +kernel
theorem d_StringUTF16_compress2_3 : decode prog_26_method_22_code 3 = .ok (.aload_n 0, 1) := by decide +kernel
theorem d_StringUTF16_compress2_4 : decode prog_26_method_22_code 4 = .ok (.invokestatic 173, 3) := by decide +kernel
abbrev Y_StringUTF16_getChar : MethodName := ⟨"java/lang/StringUTF16", "getChar", "([BI)C"⟩
abbrev K_StringUTF16_getChar : zM := (prog_26_method_5_code, 2, "java/lang/StringUTF16", (some .char), false, [])
theorem d_StringUTF16_getChar_0 : decode prog_26_method_5_code 0 = .ok (.getstatic 44, 3) := by decide +kernel
theorem d_StringUTF16_getChar_3 : decode prog_26_method_5_code 3 = .ok (.ifCond .ne 25, 3) := by decide +kernel
theorem d_StringUTF16_getChar_28 : decode prog_26_method_5_code 28 = .ok (.iload_n 1, 1) := by decide +kernel
theorem d_StringUTF16_getChar_29 : decode prog_26_method_5_code 29 = .ok (.iconst 1, 1) := by decide +kernel
theorem d_StringUTF16_getChar_30 : decode prog_26_method_5_code 30 = .ok (.ishl, 1) := by decide +kernel
theorem d_StringUTF16_getChar_31 : decode prog_26_method_5_code 31 = .ok (.istore_n 1, 1) := by decide +kernel
theorem d_StringUTF16_getChar_32 : decode prog_26_method_5_code 32 = .ok (.aload_n 0, 1) := by decide +kernel
theorem d_StringUTF16_getChar_33 : decode prog_26_method_5_code 33 = .ok (.iload_n 1, 1) := by decide +kernel
theorem d_StringUTF16_getChar_34 : decode prog_26_method_5_code 34 = .ok (.iinc 1 1, 3) := by decide +kernel
theorem d_StringUTF16_getChar_37 : decode prog_26_method_5_code 37 = .ok (.baload, 1) := by decide +kernel
theorem d_StringUTF16_getChar_38 : decode prog_26_method_5_code 38 = .ok (.sipush 255, 3) := by decide +kernel
theorem d_StringUTF16_getChar_41 : decode prog_26_method_5_code 41 = .ok (.iand, 1) := by decide +kernel
theorem d_StringUTF16_getChar_42 : decode prog_26_method_5_code 42 = .ok (.getstatic 59, 3) := by decide +kernel
theorem d_StringUTF16_getChar_45 : decode prog_26_method_5_code 45 = .ok (.ishl, 1) := by decide +kernel
theorem d_StringUTF16_getChar_46 : decode prog_26_method_5_code 46 = .ok (.aload_n 0, 1) := by decide +kernel
theorem d_StringUTF16_getChar_47 : decode prog_26_method_5_code 47 = .ok (.iload_n 1, 1) := by decide +kernel
theorem d_StringUTF16_getChar_48 : decode prog_26_method_5_code 48 = .ok (.baload, 1) := by decide +kernel
theorem d_StringUTF16_getChar_49 : decode prog_26_method_5_code 49 = .ok (.sipush 255, 3) := by decide +kernel
theorem d_StringUTF16_getChar_52 : decode prog_26_method_5_code 52 = .ok (.iand, 1) := by decide +kernel
theorem d_StringUTF16_getChar_53 : decode prog_26_method_5_code 53 = .ok (.getstatic 63, 3) := by decide +kernel
theorem d_StringUTF16_getChar_56 : decode prog_26_method_5_code 56 = .ok (.ishl, 1) := by decide +kernel
theorem d_StringUTF16_getChar_57 : decode prog_26_method_5_code 57 = .ok (.ior, 1) := by decide +kernel
theorem d_StringUTF16_getChar_58 : decode prog_26_method_5_code 58 = .ok (.i2c, 1) := by decide +kernel
theorem d_StringUTF16_getChar_59 : decode prog_26_method_5_code 59 = .ok (.ireturn, 1) := by decide +kernel
abbrev Y_StringUTF16_coderFromArrayLen : MethodName := ⟨"java/lang/StringUTF16", "coderFromArrayLen", "([BI)B"⟩
abbrev K_StringUTF16_coderFromArrayLen : zM := (prog_26_method_15_code, 2, "java/lang/StringUTF16", (some .byte), false, [])
theorem d_StringUTF16_coderFromArrayLen_0 : decode prog_26_method_15_code 0 = .ok (.iload_n 1, 1) := by decide +kernel
theorem d_StringUTF16_coderFromArrayLen_1 : decode prog_26_method_15_code 1 = .ok (.aload_n 0, 1) := by decide +kernel
theorem d_StringUTF16_coderFromArrayLen_2 : decode prog_26_method_15_code 2 = .ok (.arraylength, 1) := by decide +kernel
theorem d_StringUTF16_coderFromArrayLen_3 : decode prog_26_method_15_code 3 = .ok (.isub, 1) := by decide +kernel
theorem d_StringUTF16_coderFromArrayLen_4 : decode prog_26_method_15_code 4 = .ok (.bipush 31, 2) := by decide +kernel
theorem d_StringUTF16_coderFromArrayLen_6 : decode prog_26_method_15_code 6 = .ok (.iushr, 1) := by decide +kernel
theorem d_StringUTF16_coderFromArrayLen_7 : decode prog_26_method_15_code 7 = .ok (.i2b, 1) := by decide +kernel
theorem d_StringUTF16_coderFromArrayLen_8 : decode prog_26_method_15_code 8 = .ok (.ireturn, 1) := by decide +kernel
abbrev Y_SeriesBook_centsOf : MethodName := ⟨"NumberOffice$SeriesBook", "centsOf", "(I)J"⟩
abbrev K_SeriesBook_centsOf : zM := (prog_11_method_13_code, 5, "NumberOffice$SeriesBook", (some .long), false, [])
theorem d_SeriesBook_centsOf_0 : decode prog_11_method_13_code 0 = .ok (.lconst 0, 1) := by decide +kernel
theorem d_SeriesBook_centsOf_1 : decode prog_11_method_13_code 1 = .ok (.lstore_n 2, 1) := by decide +kernel
theorem d_SeriesBook_centsOf_2 : decode prog_11_method_13_code 2 = .ok (.iconst 0, 1) := by decide +kernel
theorem d_SeriesBook_centsOf_3 : decode prog_11_method_13_code 3 = .ok (.istore 4, 2) := by decide +kernel
theorem d_SeriesBook_centsOf_5 : decode prog_11_method_13_code 5 = .ok (.iload 4, 2) := by decide +kernel
theorem d_SeriesBook_centsOf_7 : decode prog_11_method_13_code 7 = .ok (.aload_n 0, 1) := by decide +kernel
theorem d_SeriesBook_centsOf_8 : decode prog_11_method_13_code 8 = .ok (.getfield 38, 3) := by decide +kernel
theorem d_SeriesBook_centsOf_11 : decode prog_11_method_13_code 11 = .ok (.if_icmp .ge 41, 3) := by decide +kernel
theorem d_SeriesBook_centsOf_52 : decode prog_11_method_13_code 52 = .ok (.lload_n 2, 1) := by decide +kernel
theorem d_SeriesBook_centsOf_53 : decode prog_11_method_13_code 53 = .ok (.lreturn, 1) := by decide +kernel
theorem d_SeriesBook_centsOf_14 : decode prog_11_method_13_code 14 = .ok (.aload_n 0, 1) := by decide +kernel
theorem d_SeriesBook_centsOf_15 : decode prog_11_method_13_code 15 = .ok (.getfield 15, 3) := by decide +kernel
theorem d_SeriesBook_centsOf_18 : decode prog_11_method_13_code 18 = .ok (.iload 4, 2) := by decide +kernel
theorem d_SeriesBook_centsOf_20 : decode prog_11_method_13_code 20 = .ok (.iaload, 1) := by decide +kernel
theorem d_SeriesBook_centsOf_21 : decode prog_11_method_13_code 21 = .ok (.iload_n 1, 1) := by decide +kernel
theorem d_SeriesBook_centsOf_22 : decode prog_11_method_13_code 22 = .ok (.if_icmp .ne 24, 3) := by decide +kernel
theorem d_SeriesBook_centsOf_25 : decode prog_11_method_13_code 25 = .ok (.aload_n 0, 1) := by decide +kernel
theorem d_SeriesBook_centsOf_26 : decode prog_11_method_13_code 26 = .ok (.getfield 19, 3) := by decide +kernel
theorem d_SeriesBook_centsOf_29 : decode prog_11_method_13_code 29 = .ok (.iload 4, 2) := by decide +kernel
theorem d_SeriesBook_centsOf_31 : decode prog_11_method_13_code 31 = .ok (.iaload, 1) := by decide +kernel
theorem d_SeriesBook_centsOf_32 : decode prog_11_method_13_code 32 = .ok (.iconst 2, 1) := by decide +kernel
theorem d_SeriesBook_centsOf_33 : decode prog_11_method_13_code 33 = .ok (.if_icmp .ne 13, 3) := by decide +kernel
theorem d_SeriesBook_centsOf_36 : decode prog_11_method_13_code 36 = .ok (.lload_n 2, 1) := by decide +kernel
theorem d_SeriesBook_centsOf_37 : decode prog_11_method_13_code 37 = .ok (.aload_n 0, 1) := by decide +kernel
theorem d_SeriesBook_centsOf_38 : decode prog_11_method_13_code 38 = .ok (.getfield 22, 3) := by decide +kernel
theorem wF_NumberOffice_SeriesBook_22_5 : zFl "NumberOffice$SeriesBook" 22 5 5 := ⟨"NumberOffice$SeriesBook", zR_SeriesBook, zF_SeriesBook, 8, rfl, zin_SeriesBook, by decide, ztb_of 222 (by decide +kernel) rfl, Or.inl rfl⟩
theorem d_SeriesBook_centsOf_41 : decode prog_11_method_13_code 41 = .ok (.iload 4, 2) := by decide +kernel
theorem d_SeriesBook_centsOf_43 : decode prog_11_method_13_code 43 = .ok (.laload, 1) := by decide +kernel
theorem d_SeriesBook_centsOf_44 : decode prog_11_method_13_code 44 = .ok (.ladd, 1) := by decide +kernel
theorem d_SeriesBook_centsOf_45 : decode prog_11_method_13_code 45 = .ok (.lstore_n 2, 1) := by decide +kernel
theorem d_SeriesBook_centsOf_46 : decode prog_11_method_13_code 46 = .ok (.iinc 4 1, 3) := by decide +kernel
theorem d_SeriesBook_centsOf_49 : decode prog_11_method_13_code 49 = .ok (.goto (-44), 3) := by decide +kernel
abbrev Y_SeriesBook_listByteAt : MethodName := ⟨"NumberOffice$SeriesBook", "listByteAt", "(I)I"⟩
abbrev K_SeriesBook_listByteAt : zM := (prog_11_method_14_code, 2, "NumberOffice$SeriesBook", (some .int), false, [])
theorem d_SeriesBook_listByteAt_0 : decode prog_11_method_14_code 0 = .ok (.iload_n 1, 1) := by decide +kernel
theorem d_SeriesBook_listByteAt_1 : decode prog_11_method_14_code 1 = .ok (.ifCond .lt 25, 3) := by decide +kernel
theorem d_SeriesBook_listByteAt_4 : decode prog_11_method_14_code 4 = .ok (.iload_n 1, 1) := by decide +kernel
theorem d_SeriesBook_listByteAt_5 : decode prog_11_method_14_code 5 = .ok (.aload_n 0, 1) := by decide +kernel
theorem d_SeriesBook_listByteAt_6 : decode prog_11_method_14_code 6 = .ok (.getfield 31, 3) := by decide +kernel
theorem wF_NumberOffice_SeriesBook_31_5 : zFl "NumberOffice$SeriesBook" 31 5 7 := ⟨"NumberOffice$SeriesBook", zR_SeriesBook, zF_SeriesBook, 8, rfl, zin_SeriesBook, by decide, ztb_of 224 (by decide +kernel) rfl, Or.inl rfl⟩
theorem d_SeriesBook_listByteAt_9 : decode prog_11_method_14_code 9 = .ok (.invokevirtual 90, 3) := by decide +kernel
abbrev Y_String_charAt : MethodName := ⟨"java/lang/String", "charAt", "(I)C"⟩
abbrev K_String_charAt : zM := (prog_23_method_56_code, 2, "java/lang/String", (some .char), false, [])
theorem d_String_charAt_0 : decode prog_23_method_56_code 0 = .ok (.aload_n 0, 1) := by decide +kernel
theorem d_String_charAt_1 : decode prog_23_method_56_code 1 = .ok (.invokevirtual 492, 3) := by decide +kernel
abbrev Y_String_isLatin1 : MethodName := ⟨"java/lang/String", "isLatin1", "()Z"⟩
abbrev K_String_isLatin1 : zM := (prog_23_method_154_code, 1, "java/lang/String", (some .boolean), false, [])
theorem d_String_isLatin1_0 : decode prog_23_method_154_code 0 = .ok (.getstatic 38, 3) := by decide +kernel
theorem d_String_isLatin1_3 : decode prog_23_method_154_code 3 = .ok (.ifCond .eq 14, 3) := by decide +kernel
theorem d_String_isLatin1_6 : decode prog_23_method_154_code 6 = .ok (.aload_n 0, 1) := by decide +kernel
theorem d_String_isLatin1_7 : decode prog_23_method_154_code 7 = .ok (.getfield 15, 3) := by decide +kernel
theorem d_String_isLatin1_10 : decode prog_23_method_154_code 10 = .ok (.ifCond .ne 7, 3) := by decide +kernel
theorem d_String_isLatin1_13 : decode prog_23_method_154_code 13 = .ok (.iconst 1, 1) := by decide +kernel
theorem d_String_isLatin1_14 : decode prog_23_method_154_code 14 = .ok (.goto 4, 3) := by decide +kernel
theorem d_String_isLatin1_17 : decode prog_23_method_154_code 17 = .ok (.iconst 0, 1) := by decide +kernel
theorem d_String_isLatin1_18 : decode prog_23_method_154_code 18 = .ok (.ireturn, 1) := by decide +kernel
abbrev Y_StringLatin1_charAt : MethodName := ⟨"java/lang/StringLatin1", "charAt", "([BI)C"⟩
abbrev K_StringLatin1_charAt : zM := (prog_25_method_2_code, 2, "java/lang/StringLatin1", (some .char), false, [])
theorem d_StringLatin1_charAt_0 : decode prog_25_method_2_code 0 = .ok (.iload_n 1, 1) := by decide +kernel
theorem d_StringLatin1_charAt_1 : decode prog_25_method_2_code 1 = .ok (.aload_n 0, 1) := by decide +kernel
theorem d_StringLatin1_charAt_2 : decode prog_25_method_2_code 2 = .ok (.arraylength, 1) := by decide +kernel
theorem d_StringLatin1_charAt_3 : decode prog_25_method_2_code 3 = .ok (.invokestatic 9, 3) := by decide +kernel
theorem wS_java_lang_StringLatin1_9 : zSl "java/lang/StringLatin1" 9 Y_String_checkIndex K_String_checkIndex 2 := ⟨ztb_of 1161 (by decide +kernel) rfl, ztb_of 976 (by decide +kernel) rfl, ztb_of 69 (by decide +kernel) rfl, ztb_of 977 (by decide +kernel) rfl, by decide, by decide +kernel⟩
theorem d_StringLatin1_charAt_6 : decode prog_25_method_2_code 6 = .ok (.aload_n 0, 1) := by decide +kernel
theorem d_StringLatin1_charAt_7 : decode prog_25_method_2_code 7 = .ok (.iload_n 1, 1) := by decide +kernel
theorem d_StringLatin1_charAt_8 : decode prog_25_method_2_code 8 = .ok (.baload, 1) := by decide +kernel
theorem d_StringLatin1_charAt_9 : decode prog_25_method_2_code 9 = .ok (.sipush 255, 3) := by decide +kernel
theorem d_StringLatin1_charAt_12 : decode prog_25_method_2_code 12 = .ok (.iand, 1) := by decide +kernel
theorem d_StringLatin1_charAt_13 : decode prog_25_method_2_code 13 = .ok (.i2c, 1) := by decide +kernel
theorem d_StringLatin1_charAt_14 : decode prog_25_method_2_code 14 = .ok (.ireturn, 1) := by decide +kernel
abbrev Y_StringUTF16_charAt : MethodName := ⟨"java/lang/StringUTF16", "charAt", "([BI)C"⟩
abbrev K_StringUTF16_charAt : zM := (prog_26_method_83_code, 2, "java/lang/StringUTF16", (some .char), false, [])
theorem d_StringUTF16_charAt_0 : decode prog_26_method_83_code 0 = .ok (.iload_n 1, 1) := by decide +kernel
theorem d_StringUTF16_charAt_1 : decode prog_26_method_83_code 1 = .ok (.aload_n 0, 1) := by decide +kernel
theorem d_StringUTF16_charAt_2 : decode prog_26_method_83_code 2 = .ok (.invokestatic 67, 3) := by decide +kernel
abbrev Y_Mo_init : MethodName := ⟨"NumberOfficeModel", "<init>", "(I)V"⟩
abbrev K_Mo_init : zM := (prog_14_method_1_code, 2, "NumberOfficeModel", none, true, [])
theorem d_Mo_init_0 : decode prog_14_method_1_code 0 = .ok (.aload_n 0, 1) := by decide +kernel
theorem d_Mo_init_1 : decode prog_14_method_1_code 1 = .ok (.invokespecial 1, 3) := by decide +kernel
theorem wO_NumberOfficeModel_1 : Cond.methodLink "NumberOfficeModel" 1 objectInit ∈ ztb := ztb_of 1170 (by decide +kernel) rfl
theorem d_Mo_init_4 : decode prog_14_method_1_code 4 = .ok (.aload_n 0, 1) := by decide +kernel
theorem d_Mo_init_5 : decode prog_14_method_1_code 5 = .ok (.bipush 7, 2) := by decide +kernel
theorem d_Mo_init_7 : decode prog_14_method_1_code 7 = .ok (.newarray .boolean, 2) := by decide +kernel
theorem d_Mo_init_9 : decode prog_14_method_1_code 9 = .ok (.putfield 7, 3) := by decide +kernel
theorem wP_NumberOfficeModel_7_14 : zPl "NumberOfficeModel" 7 14 2 (.array (.boolean)) true := ⟨"NumberOfficeModel", zR_NumberOfficeModel, zF_NumberOfficeModel, 40, zY_NumberOfficeModel, rfl, zin_NumberOfficeModel, by decide, ztb_of 1173 (by decide +kernel) rfl, Or.inl rfl, zYok_NumberOfficeModel, zN_NumberOfficeModel, rfl, fun _ => rfl, by decide +kernel⟩
theorem d_Mo_init_12 : decode prog_14_method_1_code 12 = .ok (.aload_n 0, 1) := by decide +kernel
theorem d_Mo_init_13 : decode prog_14_method_1_code 13 = .ok (.bipush 36, 2) := by decide +kernel
theorem d_Mo_init_15 : decode prog_14_method_1_code 15 = .ok (.newarray .int, 2) := by decide +kernel
theorem d_Mo_init_17 : decode prog_14_method_1_code 17 = .ok (.putfield 13, 3) := by decide +kernel
theorem wP_NumberOfficeModel_13_14 : zPl "NumberOfficeModel" 13 14 3 (.array (.int)) true := ⟨"NumberOfficeModel", zR_NumberOfficeModel, zF_NumberOfficeModel, 40, zY_NumberOfficeModel, rfl, zin_NumberOfficeModel, by decide, ztb_of 1174 (by decide +kernel) rfl, Or.inl rfl, zYok_NumberOfficeModel, zN_NumberOfficeModel, rfl, fun _ => rfl, by decide +kernel⟩
theorem d_Mo_init_20 : decode prog_14_method_1_code 20 = .ok (.aload_n 0, 1) := by decide +kernel
theorem d_Mo_init_21 : decode prog_14_method_1_code 21 = .ok (.bipush 36, 2) := by decide +kernel
theorem d_Mo_init_23 : decode prog_14_method_1_code 23 = .ok (.newarray .int, 2) := by decide +kernel
theorem d_Mo_init_25 : decode prog_14_method_1_code 25 = .ok (.putfield 17, 3) := by decide +kernel
theorem wP_NumberOfficeModel_17_14 : zPl "NumberOfficeModel" 17 14 4 (.array (.int)) true := ⟨"NumberOfficeModel", zR_NumberOfficeModel, zF_NumberOfficeModel, 40, zY_NumberOfficeModel, rfl, zin_NumberOfficeModel, by decide, ztb_of 1175 (by decide +kernel) rfl, Or.inl rfl, zYok_NumberOfficeModel, zN_NumberOfficeModel, rfl, fun _ => rfl, by decide +kernel⟩
theorem d_Mo_init_28 : decode prog_14_method_1_code 28 = .ok (.aload_n 0, 1) := by decide +kernel
theorem d_Mo_init_29 : decode prog_14_method_1_code 29 = .ok (.bipush 36, 2) := by decide +kernel
theorem d_Mo_init_31 : decode prog_14_method_1_code 31 = .ok (.newarray .int, 2) := by decide +kernel
theorem d_Mo_init_33 : decode prog_14_method_1_code 33 = .ok (.putfield 20, 3) := by decide +kernel
theorem wP_NumberOfficeModel_20_14 : zPl "NumberOfficeModel" 20 14 5 (.array (.int)) true := ⟨"NumberOfficeModel", zR_NumberOfficeModel, zF_NumberOfficeModel, 40, zY_NumberOfficeModel, rfl, zin_NumberOfficeModel, by decide, ztb_of 1176 (by decide +kernel) rfl, Or.inl rfl, zYok_NumberOfficeModel, zN_NumberOfficeModel, rfl, fun _ => rfl, by decide +kernel⟩
theorem d_Mo_init_36 : decode prog_14_method_1_code 36 = .ok (.aload_n 0, 1) := by decide +kernel
theorem d_Mo_init_37 : decode prog_14_method_1_code 37 = .ok (.bipush 36, 2) := by decide +kernel
theorem d_Mo_init_39 : decode prog_14_method_1_code 39 = .ok (.newarray .int, 2) := by decide +kernel
theorem d_Mo_init_41 : decode prog_14_method_1_code 41 = .ok (.putfield 23, 3) := by decide +kernel
theorem wP_NumberOfficeModel_23_14 : zPl "NumberOfficeModel" 23 14 6 (.array (.int)) true := ⟨"NumberOfficeModel", zR_NumberOfficeModel, zF_NumberOfficeModel, 40, zY_NumberOfficeModel, rfl, zin_NumberOfficeModel, by decide, ztb_of 1177 (by decide +kernel) rfl, Or.inl rfl, zYok_NumberOfficeModel, zN_NumberOfficeModel, rfl, fun _ => rfl, by decide +kernel⟩
theorem d_Mo_init_44 : decode prog_14_method_1_code 44 = .ok (.aload_n 0, 1) := by decide +kernel
theorem d_Mo_init_45 : decode prog_14_method_1_code 45 = .ok (.bipush 36, 2) := by decide +kernel
theorem d_Mo_init_47 : decode prog_14_method_1_code 47 = .ok (.newarray .int, 2) := by decide +kernel
theorem d_Mo_init_49 : decode prog_14_method_1_code 49 = .ok (.putfield 26, 3) := by decide +kernel
theorem wP_NumberOfficeModel_26_14 : zPl "NumberOfficeModel" 26 14 7 (.array (.int)) true := ⟨"NumberOfficeModel", zR_NumberOfficeModel, zF_NumberOfficeModel, 40, zY_NumberOfficeModel, rfl, zin_NumberOfficeModel, by decide, ztb_of 1178 (by decide +kernel) rfl, Or.inl rfl, zYok_NumberOfficeModel, zN_NumberOfficeModel, rfl, fun _ => rfl, by decide +kernel⟩
theorem d_Mo_init_52 : decode prog_14_method_1_code 52 = .ok (.aload_n 0, 1) := by decide +kernel
theorem d_Mo_init_53 : decode prog_14_method_1_code 53 = .ok (.sipush 10800, 3) := by decide +kernel
theorem d_Mo_init_56 : decode prog_14_method_1_code 56 = .ok (.newarray .short, 2) := by decide +kernel
theorem wA_short : Cond.arrayClass .short ∈ ztb := ztb_of 1292 (by decide +kernel) rfl
theorem d_Mo_init_58 : decode prog_14_method_1_code 58 = .ok (.putfield 29, 3) := by decide +kernel
theorem wP_NumberOfficeModel_29_14 : zPl "NumberOfficeModel" 29 14 8 (.array (.short)) true := ⟨"NumberOfficeModel", zR_NumberOfficeModel, zF_NumberOfficeModel, 40, zY_NumberOfficeModel, rfl, zin_NumberOfficeModel, by decide, ztb_of 1179 (by decide +kernel) rfl, Or.inl rfl, zYok_NumberOfficeModel, zN_NumberOfficeModel, rfl, fun _ => rfl, by decide +kernel⟩
theorem d_Mo_init_61 : decode prog_14_method_1_code 61 = .ok (.aload_n 0, 1) := by decide +kernel
theorem d_Mo_init_62 : decode prog_14_method_1_code 62 = .ok (.sipush 10800, 3) := by decide +kernel
theorem d_Mo_init_65 : decode prog_14_method_1_code 65 = .ok (.newarray .short, 2) := by decide +kernel
theorem d_Mo_init_67 : decode prog_14_method_1_code 67 = .ok (.putfield 33, 3) := by decide +kernel
theorem wP_NumberOfficeModel_33_14 : zPl "NumberOfficeModel" 33 14 9 (.array (.short)) true := ⟨"NumberOfficeModel", zR_NumberOfficeModel, zF_NumberOfficeModel, 40, zY_NumberOfficeModel, rfl, zin_NumberOfficeModel, by decide, ztb_of 1180 (by decide +kernel) rfl, Or.inl rfl, zYok_NumberOfficeModel, zN_NumberOfficeModel, rfl, fun _ => rfl, by decide +kernel⟩
theorem d_Mo_init_70 : decode prog_14_method_1_code 70 = .ok (.aload_n 0, 1) := by decide +kernel
theorem d_Mo_init_71 : decode prog_14_method_1_code 71 = .ok (.sipush 10800, 3) := by decide +kernel
theorem d_Mo_init_74 : decode prog_14_method_1_code 74 = .ok (.newarray .byte, 2) := by decide +kernel
theorem d_Mo_init_76 : decode prog_14_method_1_code 76 = .ok (.putfield 36, 3) := by decide +kernel
theorem wP_NumberOfficeModel_36_14 : zPl "NumberOfficeModel" 36 14 10 (.array (.byte)) true := ⟨"NumberOfficeModel", zR_NumberOfficeModel, zF_NumberOfficeModel, 40, zY_NumberOfficeModel, rfl, zin_NumberOfficeModel, by decide, ztb_of 1181 (by decide +kernel) rfl, Or.inl rfl, zYok_NumberOfficeModel, zN_NumberOfficeModel, rfl, fun _ => rfl, by decide +kernel⟩
theorem d_Mo_init_79 : decode prog_14_method_1_code 79 = .ok (.aload_n 0, 1) := by decide +kernel
theorem d_Mo_init_80 : decode prog_14_method_1_code 80 = .ok (.sipush 10800, 3) := by decide +kernel
theorem d_Mo_init_83 : decode prog_14_method_1_code 83 = .ok (.newarray .long, 2) := by decide +kernel
theorem d_Mo_init_85 : decode prog_14_method_1_code 85 = .ok (.putfield 40, 3) := by decide +kernel
theorem wP_NumberOfficeModel_40_14 : zPl "NumberOfficeModel" 40 14 11 (.array (.long)) true := ⟨"NumberOfficeModel", zR_NumberOfficeModel, zF_NumberOfficeModel, 40, zY_NumberOfficeModel, rfl, zin_NumberOfficeModel, by decide, ztb_of 1182 (by decide +kernel) rfl, Or.inl rfl, zYok_NumberOfficeModel, zN_NumberOfficeModel, rfl, fun _ => rfl, by decide +kernel⟩
theorem d_Mo_init_88 : decode prog_14_method_1_code 88 = .ok (.aload_n 0, 1) := by decide +kernel
theorem d_Mo_init_89 : decode prog_14_method_1_code 89 = .ok (.sipush 10800, 3) := by decide +kernel
theorem d_Mo_init_92 : decode prog_14_method_1_code 92 = .ok (.newarray .int, 2) := by decide +kernel
theorem d_Mo_init_94 : decode prog_14_method_1_code 94 = .ok (.putfield 44, 3) := by decide +kernel
theorem wP_NumberOfficeModel_44_14 : zPl "NumberOfficeModel" 44 14 12 (.array (.int)) true := ⟨"NumberOfficeModel", zR_NumberOfficeModel, zF_NumberOfficeModel, 40, zY_NumberOfficeModel, rfl, zin_NumberOfficeModel, by decide, ztb_of 1183 (by decide +kernel) rfl, Or.inl rfl, zYok_NumberOfficeModel, zN_NumberOfficeModel, rfl, fun _ => rfl, by decide +kernel⟩
theorem d_Mo_init_97 : decode prog_14_method_1_code 97 = .ok (.aload_n 0, 1) := by decide +kernel
theorem d_Mo_init_98 : decode prog_14_method_1_code 98 = .ok (.sipush 10800, 3) := by decide +kernel
theorem d_Mo_init_101 : decode prog_14_method_1_code 101 = .ok (.newarray .byte, 2) := by decide +kernel
theorem d_Mo_init_103 : decode prog_14_method_1_code 103 = .ok (.putfield 47, 3) := by decide +kernel
theorem wP_NumberOfficeModel_47_14 : zPl "NumberOfficeModel" 47 14 13 (.array (.byte)) true := ⟨"NumberOfficeModel", zR_NumberOfficeModel, zF_NumberOfficeModel, 40, zY_NumberOfficeModel, rfl, zin_NumberOfficeModel, by decide, ztb_of 1184 (by decide +kernel) rfl, Or.inl rfl, zYok_NumberOfficeModel, zN_NumberOfficeModel, rfl, fun _ => rfl, by decide +kernel⟩
theorem d_Mo_init_106 : decode prog_14_method_1_code 106 = .ok (.aload_n 0, 1) := by decide +kernel
theorem d_Mo_init_107 : decode prog_14_method_1_code 107 = .ok (.sipush 21600, 3) := by decide +kernel
theorem d_Mo_init_110 : decode prog_14_method_1_code 110 = .ok (.newarray .short, 2) := by decide +kernel
theorem d_Mo_init_112 : decode prog_14_method_1_code 112 = .ok (.putfield 50, 3) := by decide +kernel
theorem wP_NumberOfficeModel_50_14 : zPl "NumberOfficeModel" 50 14 14 (.array (.short)) true := ⟨"NumberOfficeModel", zR_NumberOfficeModel, zF_NumberOfficeModel, 40, zY_NumberOfficeModel, rfl, zin_NumberOfficeModel, by decide, ztb_of 1185 (by decide +kernel) rfl, Or.inl rfl, zYok_NumberOfficeModel, zN_NumberOfficeModel, rfl, fun _ => rfl, by decide +kernel⟩
theorem d_Mo_init_115 : decode prog_14_method_1_code 115 = .ok (.aload_n 0, 1) := by decide +kernel
theorem d_Mo_init_116 : decode prog_14_method_1_code 116 = .ok (.bipush 12, 2) := by decide +kernel
theorem d_Mo_init_118 : decode prog_14_method_1_code 118 = .ok (.newarray .int, 2) := by decide +kernel
theorem d_Mo_init_120 : decode prog_14_method_1_code 120 = .ok (.putfield 53, 3) := by decide +kernel
theorem wP_NumberOfficeModel_53_14 : zPl "NumberOfficeModel" 53 14 15 (.array (.int)) true := ⟨"NumberOfficeModel", zR_NumberOfficeModel, zF_NumberOfficeModel, 40, zY_NumberOfficeModel, rfl, zin_NumberOfficeModel, by decide, ztb_of 1186 (by decide +kernel) rfl, Or.inl rfl, zYok_NumberOfficeModel, zN_NumberOfficeModel, rfl, fun _ => rfl, by decide +kernel⟩
theorem d_Mo_init_123 : decode prog_14_method_1_code 123 = .ok (.aload_n 0, 1) := by decide +kernel
theorem d_Mo_init_124 : decode prog_14_method_1_code 124 = .ok (.bipush 12, 2) := by decide +kernel
theorem d_Mo_init_126 : decode prog_14_method_1_code 126 = .ok (.newarray .int, 2) := by decide +kernel
theorem d_Mo_init_128 : decode prog_14_method_1_code 128 = .ok (.putfield 56, 3) := by decide +kernel
theorem wP_NumberOfficeModel_56_14 : zPl "NumberOfficeModel" 56 14 16 (.array (.int)) true := ⟨"NumberOfficeModel", zR_NumberOfficeModel, zF_NumberOfficeModel, 40, zY_NumberOfficeModel, rfl, zin_NumberOfficeModel, by decide, ztb_of 1187 (by decide +kernel) rfl, Or.inl rfl, zYok_NumberOfficeModel, zN_NumberOfficeModel, rfl, fun _ => rfl, by decide +kernel⟩
theorem d_Mo_init_131 : decode prog_14_method_1_code 131 = .ok (.aload_n 0, 1) := by decide +kernel
theorem d_Mo_init_132 : decode prog_14_method_1_code 132 = .ok (.bipush 12, 2) := by decide +kernel
theorem d_Mo_init_134 : decode prog_14_method_1_code 134 = .ok (.newarray .int, 2) := by decide +kernel
theorem d_Mo_init_136 : decode prog_14_method_1_code 136 = .ok (.putfield 59, 3) := by decide +kernel
theorem wP_NumberOfficeModel_59_14 : zPl "NumberOfficeModel" 59 14 17 (.array (.int)) true := ⟨"NumberOfficeModel", zR_NumberOfficeModel, zF_NumberOfficeModel, 40, zY_NumberOfficeModel, rfl, zin_NumberOfficeModel, by decide, ztb_of 1188 (by decide +kernel) rfl, Or.inl rfl, zYok_NumberOfficeModel, zN_NumberOfficeModel, rfl, fun _ => rfl, by decide +kernel⟩
theorem d_Mo_init_139 : decode prog_14_method_1_code 139 = .ok (.aload_n 0, 1) := by decide +kernel
theorem d_Mo_init_140 : decode prog_14_method_1_code 140 = .ok (.bipush 12, 2) := by decide +kernel
theorem d_Mo_init_142 : decode prog_14_method_1_code 142 = .ok (.newarray .int, 2) := by decide +kernel
theorem d_Mo_init_144 : decode prog_14_method_1_code 144 = .ok (.putfield 62, 3) := by decide +kernel
theorem wP_NumberOfficeModel_62_14 : zPl "NumberOfficeModel" 62 14 18 (.array (.int)) true := ⟨"NumberOfficeModel", zR_NumberOfficeModel, zF_NumberOfficeModel, 40, zY_NumberOfficeModel, rfl, zin_NumberOfficeModel, by decide, ztb_of 1189 (by decide +kernel) rfl, Or.inl rfl, zYok_NumberOfficeModel, zN_NumberOfficeModel, rfl, fun _ => rfl, by decide +kernel⟩
theorem d_Mo_init_147 : decode prog_14_method_1_code 147 = .ok (.aload_n 0, 1) := by decide +kernel
theorem d_Mo_init_148 : decode prog_14_method_1_code 148 = .ok (.bipush 12, 2) := by decide +kernel
theorem d_Mo_init_150 : decode prog_14_method_1_code 150 = .ok (.newarray .boolean, 2) := by decide +kernel
theorem d_Mo_init_152 : decode prog_14_method_1_code 152 = .ok (.putfield 65, 3) := by decide +kernel
theorem wP_NumberOfficeModel_65_14 : zPl "NumberOfficeModel" 65 14 19 (.array (.boolean)) true := ⟨"NumberOfficeModel", zR_NumberOfficeModel, zF_NumberOfficeModel, 40, zY_NumberOfficeModel, rfl, zin_NumberOfficeModel, by decide, ztb_of 1190 (by decide +kernel) rfl, Or.inl rfl, zYok_NumberOfficeModel, zN_NumberOfficeModel, rfl, fun _ => rfl, by decide +kernel⟩
theorem d_Mo_init_155 : decode prog_14_method_1_code 155 = .ok (.aload_n 0, 1) := by decide +kernel
theorem d_Mo_init_156 : decode prog_14_method_1_code 156 = .ok (.bipush 12, 2) := by decide +kernel
theorem d_Mo_init_158 : decode prog_14_method_1_code 158 = .ok (.newarray .boolean, 2) := by decide +kernel
theorem d_Mo_init_160 : decode prog_14_method_1_code 160 = .ok (.putfield 68, 3) := by decide +kernel
theorem wP_NumberOfficeModel_68_14 : zPl "NumberOfficeModel" 68 14 20 (.array (.boolean)) true := ⟨"NumberOfficeModel", zR_NumberOfficeModel, zF_NumberOfficeModel, 40, zY_NumberOfficeModel, rfl, zin_NumberOfficeModel, by decide, ztb_of 1191 (by decide +kernel) rfl, Or.inl rfl, zYok_NumberOfficeModel, zN_NumberOfficeModel, rfl, fun _ => rfl, by decide +kernel⟩
theorem d_Mo_init_163 : decode prog_14_method_1_code 163 = .ok (.aload_n 0, 1) := by decide +kernel
theorem d_Mo_init_164 : decode prog_14_method_1_code 164 = .ok (.bipush 6, 2) := by decide +kernel
theorem d_Mo_init_166 : decode prog_14_method_1_code 166 = .ok (.newarray .int, 2) := by decide +kernel
theorem d_Mo_init_168 : decode prog_14_method_1_code 168 = .ok (.putfield 71, 3) := by decide +kernel
theorem wP_NumberOfficeModel_71_14 : zPl "NumberOfficeModel" 71 14 21 (.array (.int)) true := ⟨"NumberOfficeModel", zR_NumberOfficeModel, zF_NumberOfficeModel, 40, zY_NumberOfficeModel, rfl, zin_NumberOfficeModel, by decide, ztb_of 1192 (by decide +kernel) rfl, Or.inl rfl, zYok_NumberOfficeModel, zN_NumberOfficeModel, rfl, fun _ => rfl, by decide +kernel⟩
theorem d_Mo_init_171 : decode prog_14_method_1_code 171 = .ok (.aload_n 0, 1) := by decide +kernel
theorem d_Mo_init_172 : decode prog_14_method_1_code 172 = .ok (.bipush 6, 2) := by decide +kernel
theorem d_Mo_init_174 : decode prog_14_method_1_code 174 = .ok (.newarray .int, 2) := by decide +kernel
theorem d_Mo_init_176 : decode prog_14_method_1_code 176 = .ok (.putfield 74, 3) := by decide +kernel
theorem wP_NumberOfficeModel_74_14 : zPl "NumberOfficeModel" 74 14 22 (.array (.int)) true := ⟨"NumberOfficeModel", zR_NumberOfficeModel, zF_NumberOfficeModel, 40, zY_NumberOfficeModel, rfl, zin_NumberOfficeModel, by decide, ztb_of 1193 (by decide +kernel) rfl, Or.inl rfl, zYok_NumberOfficeModel, zN_NumberOfficeModel, rfl, fun _ => rfl, by decide +kernel⟩
theorem d_Mo_init_179 : decode prog_14_method_1_code 179 = .ok (.aload_n 0, 1) := by decide +kernel
theorem d_Mo_init_180 : decode prog_14_method_1_code 180 = .ok (.bipush 6, 2) := by decide +kernel
theorem d_Mo_init_182 : decode prog_14_method_1_code 182 = .ok (.newarray .int, 2) := by decide +kernel
theorem d_Mo_init_184 : decode prog_14_method_1_code 184 = .ok (.putfield 77, 3) := by decide +kernel
theorem wP_NumberOfficeModel_77_14 : zPl "NumberOfficeModel" 77 14 23 (.array (.int)) true := ⟨"NumberOfficeModel", zR_NumberOfficeModel, zF_NumberOfficeModel, 40, zY_NumberOfficeModel, rfl, zin_NumberOfficeModel, by decide, ztb_of 1194 (by decide +kernel) rfl, Or.inl rfl, zYok_NumberOfficeModel, zN_NumberOfficeModel, rfl, fun _ => rfl, by decide +kernel⟩
theorem d_Mo_init_187 : decode prog_14_method_1_code 187 = .ok (.aload_n 0, 1) := by decide +kernel
theorem d_Mo_init_188 : decode prog_14_method_1_code 188 = .ok (.sipush 1800, 3) := by decide +kernel
theorem d_Mo_init_191 : decode prog_14_method_1_code 191 = .ok (.newarray .byte, 2) := by decide +kernel
theorem d_Mo_init_193 : decode prog_14_method_1_code 193 = .ok (.putfield 80, 3) := by decide +kernel
theorem wP_NumberOfficeModel_80_14 : zPl "NumberOfficeModel" 80 14 24 (.array (.byte)) true := ⟨"NumberOfficeModel", zR_NumberOfficeModel, zF_NumberOfficeModel, 40, zY_NumberOfficeModel, rfl, zin_NumberOfficeModel, by decide, ztb_of 1195 (by decide +kernel) rfl, Or.inl rfl, zYok_NumberOfficeModel, zN_NumberOfficeModel, rfl, fun _ => rfl, by decide +kernel⟩
theorem d_Mo_init_196 : decode prog_14_method_1_code 196 = .ok (.aload_n 0, 1) := by decide +kernel
theorem d_Mo_init_197 : decode prog_14_method_1_code 197 = .ok (.sipush 1800, 3) := by decide +kernel
theorem d_Mo_init_200 : decode prog_14_method_1_code 200 = .ok (.newarray .byte, 2) := by decide +kernel
theorem d_Mo_init_202 : decode prog_14_method_1_code 202 = .ok (.putfield 83, 3) := by decide +kernel
theorem wP_NumberOfficeModel_83_14 : zPl "NumberOfficeModel" 83 14 25 (.array (.byte)) true := ⟨"NumberOfficeModel", zR_NumberOfficeModel, zF_NumberOfficeModel, 40, zY_NumberOfficeModel, rfl, zin_NumberOfficeModel, by decide, ztb_of 1196 (by decide +kernel) rfl, Or.inl rfl, zYok_NumberOfficeModel, zN_NumberOfficeModel, rfl, fun _ => rfl, by decide +kernel⟩
theorem d_Mo_init_205 : decode prog_14_method_1_code 205 = .ok (.aload_n 0, 1) := by decide +kernel
theorem d_Mo_init_206 : decode prog_14_method_1_code 206 = .ok (.sipush 1800, 3) := by decide +kernel
theorem d_Mo_init_209 : decode prog_14_method_1_code 209 = .ok (.newarray .long, 2) := by decide +kernel
theorem d_Mo_init_211 : decode prog_14_method_1_code 211 = .ok (.putfield 86, 3) := by decide +kernel
theorem wP_NumberOfficeModel_86_14 : zPl "NumberOfficeModel" 86 14 26 (.array (.long)) true := ⟨"NumberOfficeModel", zR_NumberOfficeModel, zF_NumberOfficeModel, 40, zY_NumberOfficeModel, rfl, zin_NumberOfficeModel, by decide, ztb_of 1197 (by decide +kernel) rfl, Or.inl rfl, zYok_NumberOfficeModel, zN_NumberOfficeModel, rfl, fun _ => rfl, by decide +kernel⟩
theorem d_Mo_init_214 : decode prog_14_method_1_code 214 = .ok (.aload_n 0, 1) := by decide +kernel
theorem d_Mo_init_215 : decode prog_14_method_1_code 215 = .ok (.sipush 1800, 3) := by decide +kernel
theorem d_Mo_init_218 : decode prog_14_method_1_code 218 = .ok (.newarray .int, 2) := by decide +kernel
theorem d_Mo_init_220 : decode prog_14_method_1_code 220 = .ok (.putfield 89, 3) := by decide +kernel
theorem wP_NumberOfficeModel_89_14 : zPl "NumberOfficeModel" 89 14 27 (.array (.int)) true := ⟨"NumberOfficeModel", zR_NumberOfficeModel, zF_NumberOfficeModel, 40, zY_NumberOfficeModel, rfl, zin_NumberOfficeModel, by decide, ztb_of 1198 (by decide +kernel) rfl, Or.inl rfl, zYok_NumberOfficeModel, zN_NumberOfficeModel, rfl, fun _ => rfl, by decide +kernel⟩
theorem d_Mo_init_223 : decode prog_14_method_1_code 223 = .ok (.aload_n 0, 1) := by decide +kernel
theorem d_Mo_init_224 : decode prog_14_method_1_code 224 = .ok (.sipush 1800, 3) := by decide +kernel
theorem d_Mo_init_227 : decode prog_14_method_1_code 227 = .ok (.newarray .byte, 2) := by decide +kernel
theorem d_Mo_init_229 : decode prog_14_method_1_code 229 = .ok (.putfield 92, 3) := by decide +kernel
theorem wP_NumberOfficeModel_92_14 : zPl "NumberOfficeModel" 92 14 28 (.array (.byte)) true := ⟨"NumberOfficeModel", zR_NumberOfficeModel, zF_NumberOfficeModel, 40, zY_NumberOfficeModel, rfl, zin_NumberOfficeModel, by decide, ztb_of 1199 (by decide +kernel) rfl, Or.inl rfl, zYok_NumberOfficeModel, zN_NumberOfficeModel, rfl, fun _ => rfl, by decide +kernel⟩
theorem d_Mo_init_232 : decode prog_14_method_1_code 232 = .ok (.aload_n 0, 1) := by decide +kernel
theorem d_Mo_init_233 : decode prog_14_method_1_code 233 = .ok (.bipush 12, 2) := by decide +kernel
theorem d_Mo_init_235 : decode prog_14_method_1_code 235 = .ok (.newarray .boolean, 2) := by decide +kernel
theorem d_Mo_init_237 : decode prog_14_method_1_code 237 = .ok (.putfield 95, 3) := by decide +kernel
theorem wP_NumberOfficeModel_95_14 : zPl "NumberOfficeModel" 95 14 29 (.array (.boolean)) true := ⟨"NumberOfficeModel", zR_NumberOfficeModel, zF_NumberOfficeModel, 40, zY_NumberOfficeModel, rfl, zin_NumberOfficeModel, by decide, ztb_of 1200 (by decide +kernel) rfl, Or.inl rfl, zYok_NumberOfficeModel, zN_NumberOfficeModel, rfl, fun _ => rfl, by decide +kernel⟩
theorem d_Mo_init_240 : decode prog_14_method_1_code 240 = .ok (.aload_n 0, 1) := by decide +kernel
theorem d_Mo_init_241 : decode prog_14_method_1_code 241 = .ok (.bipush 12, 2) := by decide +kernel
theorem d_Mo_init_243 : decode prog_14_method_1_code 243 = .ok (.newarray .int, 2) := by decide +kernel
theorem d_Mo_init_245 : decode prog_14_method_1_code 245 = .ok (.putfield 98, 3) := by decide +kernel
theorem wP_NumberOfficeModel_98_14 : zPl "NumberOfficeModel" 98 14 30 (.array (.int)) true := ⟨"NumberOfficeModel", zR_NumberOfficeModel, zF_NumberOfficeModel, 40, zY_NumberOfficeModel, rfl, zin_NumberOfficeModel, by decide, ztb_of 1201 (by decide +kernel) rfl, Or.inl rfl, zYok_NumberOfficeModel, zN_NumberOfficeModel, rfl, fun _ => rfl, by decide +kernel⟩
theorem d_Mo_init_248 : decode prog_14_method_1_code 248 = .ok (.aload_n 0, 1) := by decide +kernel
theorem d_Mo_init_249 : decode prog_14_method_1_code 249 = .ok (.bipush 12, 2) := by decide +kernel
theorem d_Mo_init_251 : decode prog_14_method_1_code 251 = .ok (.newarray .int, 2) := by decide +kernel
theorem d_Mo_init_253 : decode prog_14_method_1_code 253 = .ok (.putfield 101, 3) := by decide +kernel
theorem wP_NumberOfficeModel_101_14 : zPl "NumberOfficeModel" 101 14 31 (.array (.int)) true := ⟨"NumberOfficeModel", zR_NumberOfficeModel, zF_NumberOfficeModel, 40, zY_NumberOfficeModel, rfl, zin_NumberOfficeModel, by decide, ztb_of 1202 (by decide +kernel) rfl, Or.inl rfl, zYok_NumberOfficeModel, zN_NumberOfficeModel, rfl, fun _ => rfl, by decide +kernel⟩
theorem d_Mo_init_256 : decode prog_14_method_1_code 256 = .ok (.aload_n 0, 1) := by decide +kernel
theorem d_Mo_init_257 : decode prog_14_method_1_code 257 = .ok (.bipush 12, 2) := by decide +kernel
theorem d_Mo_init_259 : decode prog_14_method_1_code 259 = .ok (.newarray .int, 2) := by decide +kernel
theorem d_Mo_init_261 : decode prog_14_method_1_code 261 = .ok (.putfield 104, 3) := by decide +kernel
theorem wP_NumberOfficeModel_104_14 : zPl "NumberOfficeModel" 104 14 32 (.array (.int)) true := ⟨"NumberOfficeModel", zR_NumberOfficeModel, zF_NumberOfficeModel, 40, zY_NumberOfficeModel, rfl, zin_NumberOfficeModel, by decide, ztb_of 1203 (by decide +kernel) rfl, Or.inl rfl, zYok_NumberOfficeModel, zN_NumberOfficeModel, rfl, fun _ => rfl, by decide +kernel⟩
theorem d_Mo_init_264 : decode prog_14_method_1_code 264 = .ok (.aload_n 0, 1) := by decide +kernel
theorem d_Mo_init_265 : decode prog_14_method_1_code 265 = .ok (.bipush 12, 2) := by decide +kernel
theorem d_Mo_init_267 : decode prog_14_method_1_code 267 = .ok (.newarray .int, 2) := by decide +kernel
theorem d_Mo_init_269 : decode prog_14_method_1_code 269 = .ok (.putfield 107, 3) := by decide +kernel
theorem wP_NumberOfficeModel_107_14 : zPl "NumberOfficeModel" 107 14 33 (.array (.int)) true := ⟨"NumberOfficeModel", zR_NumberOfficeModel, zF_NumberOfficeModel, 40, zY_NumberOfficeModel, rfl, zin_NumberOfficeModel, by decide, ztb_of 1204 (by decide +kernel) rfl, Or.inl rfl, zYok_NumberOfficeModel, zN_NumberOfficeModel, rfl, fun _ => rfl, by decide +kernel⟩
theorem d_Mo_init_272 : decode prog_14_method_1_code 272 = .ok (.aload_n 0, 1) := by decide +kernel
theorem d_Mo_init_273 : decode prog_14_method_1_code 273 = .ok (.sipush 512, 3) := by decide +kernel
theorem d_Mo_init_276 : decode prog_14_method_1_code 276 = .ok (.newarray .int, 2) := by decide +kernel
theorem d_Mo_init_278 : decode prog_14_method_1_code 278 = .ok (.putfield 110, 3) := by decide +kernel
theorem wP_NumberOfficeModel_110_14 : zPl "NumberOfficeModel" 110 14 35 (.array (.int)) true := ⟨"NumberOfficeModel", zR_NumberOfficeModel, zF_NumberOfficeModel, 40, zY_NumberOfficeModel, rfl, zin_NumberOfficeModel, by decide, ztb_of 1206 (by decide +kernel) rfl, Or.inl rfl, zYok_NumberOfficeModel, zN_NumberOfficeModel, rfl, fun _ => rfl, by decide +kernel⟩
theorem d_Mo_init_281 : decode prog_14_method_1_code 281 = .ok (.aload_n 0, 1) := by decide +kernel
theorem d_Mo_init_282 : decode prog_14_method_1_code 282 = .ok (.bipush 8, 2) := by decide +kernel
theorem d_Mo_init_284 : decode prog_14_method_1_code 284 = .ok (.newarray .int, 2) := by decide +kernel
theorem d_Mo_init_286 : decode prog_14_method_1_code 286 = .ok (.putfield 113, 3) := by decide +kernel
theorem wP_NumberOfficeModel_113_14 : zPl "NumberOfficeModel" 113 14 36 (.array (.int)) true := ⟨"NumberOfficeModel", zR_NumberOfficeModel, zF_NumberOfficeModel, 40, zY_NumberOfficeModel, rfl, zin_NumberOfficeModel, by decide, ztb_of 1207 (by decide +kernel) rfl, Or.inl rfl, zYok_NumberOfficeModel, zN_NumberOfficeModel, rfl, fun _ => rfl, by decide +kernel⟩
theorem d_Mo_init_289 : decode prog_14_method_1_code 289 = .ok (.aload_n 0, 1) := by decide +kernel
theorem d_Mo_init_290 : decode prog_14_method_1_code 290 = .ok (.iload_n 1, 1) := by decide +kernel
theorem d_Mo_init_291 : decode prog_14_method_1_code 291 = .ok (.iconst 1, 1) := by decide +kernel
theorem d_Mo_init_292 : decode prog_14_method_1_code 292 = .ok (.if_icmp .ge 7, 3) := by decide +kernel
theorem d_Mo_init_299 : decode prog_14_method_1_code 299 = .ok (.iload_n 1, 1) := by decide +kernel
theorem d_Mo_init_300 : decode prog_14_method_1_code 300 = .ok (.bipush 6, 2) := by decide +kernel
theorem d_Mo_init_302 : decode prog_14_method_1_code 302 = .ok (.if_icmp .le 8, 3) := by decide +kernel
theorem d_Mo_init_310 : decode prog_14_method_1_code 310 = .ok (.iload_n 1, 1) := by decide +kernel
theorem d_Mo_init_305 : decode prog_14_method_1_code 305 = .ok (.bipush 6, 2) := by decide +kernel
theorem d_Mo_init_307 : decode prog_14_method_1_code 307 = .ok (.goto 4, 3) := by decide +kernel
theorem d_Mo_init_295 : decode prog_14_method_1_code 295 = .ok (.iconst 1, 1) := by decide +kernel
theorem d_Mo_init_296 : decode prog_14_method_1_code 296 = .ok (.goto 15, 3) := by decide +kernel
theorem d_Mo_init_311 : decode prog_14_method_1_code 311 = .ok (.putfield 116, 3) := by decide +kernel
theorem wP_NumberOfficeModel_116_14 : zPl "NumberOfficeModel" 116 14 1 (.int) true := ⟨"NumberOfficeModel", zR_NumberOfficeModel, zF_NumberOfficeModel, 40, zY_NumberOfficeModel, rfl, zin_NumberOfficeModel, by decide, ztb_of 1172 (by decide +kernel) rfl, Or.inl rfl, zYok_NumberOfficeModel, zN_NumberOfficeModel, rfl, fun _ => rfl, by decide +kernel⟩
theorem d_Mo_init_314 : decode prog_14_method_1_code 314 = .ok (.return_, 1) := by decide +kernel
abbrev Y_Mo_thrown : MethodName := ⟨"NumberOfficeModel", "thrown", "()I"⟩
abbrev K_Mo_thrown : zM := (prog_14_method_2_code, 1, "NumberOfficeModel", (some .int), false, [])
theorem d_Mo_thrown_0 : decode prog_14_method_2_code 0 = .ok (.aload_n 0, 1) := by decide +kernel
theorem d_Mo_thrown_1 : decode prog_14_method_2_code 1 = .ok (.getfield 120, 3) := by decide +kernel
theorem wF_NumberOfficeModel_120_14 : zFl "NumberOfficeModel" 120 14 0 := ⟨"NumberOfficeModel", zR_NumberOfficeModel, zF_NumberOfficeModel, 40, rfl, zin_NumberOfficeModel, by decide, ztb_of 1171 (by decide +kernel) rfl, Or.inl rfl⟩
theorem d_Mo_thrown_4 : decode prog_14_method_2_code 4 = .ok (.ireturn, 1) := by decide +kernel
abbrev Y_Mo_series : MethodName := ⟨"NumberOfficeModel", "series", "(II)Z"⟩
abbrev K_Mo_series : zM := (prog_14_method_13_code, 3, "NumberOfficeModel", (some .boolean), false, [])
theorem d_Mo_series_0 : decode prog_14_method_13_code 0 = .ok (.aload_n 0, 1) := by decide +kernel
theorem d_Mo_series_1 : decode prog_14_method_13_code 1 = .ok (.aload_n 0, 1) := by decide +kernel
theorem d_Mo_series_2 : decode prog_14_method_13_code 2 = .ok (.getfield 7, 3) := by decide +kernel
theorem wF_NumberOfficeModel_7_14 : zFl "NumberOfficeModel" 7 14 2 := ⟨"NumberOfficeModel", zR_NumberOfficeModel, zF_NumberOfficeModel, 40, rfl, zin_NumberOfficeModel, by decide, ztb_of 1173 (by decide +kernel) rfl, Or.inl rfl⟩
theorem d_Mo_series_5 : decode prog_14_method_13_code 5 = .ok (.aload_n 0, 1) := by decide +kernel
theorem d_Mo_series_6 : decode prog_14_method_13_code 6 = .ok (.getfield 116, 3) := by decide +kernel
theorem wF_NumberOfficeModel_116_14 : zFl "NumberOfficeModel" 116 14 1 := ⟨"NumberOfficeModel", zR_NumberOfficeModel, zF_NumberOfficeModel, 40, rfl, zin_NumberOfficeModel, by decide, ztb_of 1172 (by decide +kernel) rfl, Or.inl rfl⟩
theorem d_Mo_series_9 : decode prog_14_method_13_code 9 = .ok (.baload, 1) := by decide +kernel
theorem d_Mo_series_10 : decode prog_14_method_13_code 10 = .ok (.ifCond .eq 7, 3) := by decide +kernel
theorem d_Mo_series_17 : decode prog_14_method_13_code 17 = .ok (.iconst 0, 1) := by decide +kernel
theorem d_Mo_series_13 : decode prog_14_method_13_code 13 = .ok (.iconst 1, 1) := by decide +kernel
theorem d_Mo_series_14 : decode prog_14_method_13_code 14 = .ok (.goto 4, 3) := by decide +kernel
theorem d_Mo_series_18 : decode prog_14_method_13_code 18 = .ok (.putfield 120, 3) := by decide +kernel
theorem wP_NumberOfficeModel_120_14 : zPl "NumberOfficeModel" 120 14 0 (.int) false := ⟨"NumberOfficeModel", zR_NumberOfficeModel, zF_NumberOfficeModel, 40, zY_NumberOfficeModel, rfl, zin_NumberOfficeModel, by decide, ztb_of 1171 (by decide +kernel) rfl, Or.inl rfl, zYok_NumberOfficeModel, zN_NumberOfficeModel, rfl, (fun h => by cases h), by decide +kernel⟩
theorem d_Mo_series_21 : decode prog_14_method_13_code 21 = .ok (.aload_n 0, 1) := by decide +kernel
theorem d_Mo_series_22 : decode prog_14_method_13_code 22 = .ok (.getfield 120, 3) := by decide +kernel
theorem d_Mo_series_25 : decode prog_14_method_13_code 25 = .ok (.iconst 1, 1) := by decide +kernel
theorem d_Mo_series_26 : decode prog_14_method_13_code 26 = .ok (.if_icmp .eq 31, 3) := by decide +kernel
theorem d_Mo_series_29 : decode prog_14_method_13_code 29 = .ok (.iload_n 1, 1) := by decide +kernel
theorem d_Mo_series_30 : decode prog_14_method_13_code 30 = .ok (.invokestatic 144, 3) := by decide +kernel
abbrev Y_Mo_isSeries : MethodName := ⟨"NumberOfficeModel", "isSeries", "(I)Z"⟩
abbrev K_Mo_isSeries : zM := (prog_14_method_4_code, 1, "NumberOfficeModel", (some .boolean), false, [])
theorem d_Mo_isSeries_0 : decode prog_14_method_4_code 0 = .ok (.iload_n 0, 1) := by decide +kernel
theorem d_Mo_isSeries_1 : decode prog_14_method_4_code 1 = .ok (.ifCond .lt 12, 3) := by decide +kernel
theorem d_Mo_isSeries_4 : decode prog_14_method_4_code 4 = .ok (.iload_n 0, 1) := by decide +kernel
theorem d_Mo_isSeries_5 : decode prog_14_method_4_code 5 = .ok (.iconst 3, 1) := by decide +kernel
theorem d_Mo_isSeries_6 : decode prog_14_method_4_code 6 = .ok (.if_icmp .ge 7, 3) := by decide +kernel
theorem d_Mo_isSeries_9 : decode prog_14_method_4_code 9 = .ok (.iconst 1, 1) := by decide +kernel
theorem d_Mo_isSeries_10 : decode prog_14_method_4_code 10 = .ok (.goto 4, 3) := by decide +kernel
theorem d_Mo_isSeries_13 : decode prog_14_method_4_code 13 = .ok (.iconst 0, 1) := by decide +kernel
theorem d_Mo_isSeries_14 : decode prog_14_method_4_code 14 = .ok (.ireturn, 1) := by decide +kernel
abbrev Y_Mo_request : MethodName := ⟨"NumberOfficeModel", "request", "(III)I"⟩
abbrev K_Mo_request : zM := (prog_14_method_21_code, 4, "NumberOfficeModel", (some .int), false, [])
theorem d_Mo_request_0 : decode prog_14_method_21_code 0 = .ok (.aload_n 0, 1) := by decide +kernel
theorem d_Mo_request_1 : decode prog_14_method_21_code 1 = .ok (.iload_n 1, 1) := by decide +kernel
theorem d_Mo_request_2 : decode prog_14_method_21_code 2 = .ok (.invokevirtual 166, 3) := by decide +kernel
abbrev Y_Mo_there : MethodName := ⟨"NumberOfficeModel", "there", "(I)Z"⟩
abbrev K_Mo_there : zM := (prog_14_method_19_code, 2, "NumberOfficeModel", (some .boolean), false, [])
theorem d_Mo_there_0 : decode prog_14_method_19_code 0 = .ok (.aload_n 0, 1) := by decide +kernel
theorem d_Mo_there_1 : decode prog_14_method_19_code 1 = .ok (.aload_n 0, 1) := by decide +kernel
theorem d_Mo_there_2 : decode prog_14_method_19_code 2 = .ok (.iload_n 1, 1) := by decide +kernel
theorem d_Mo_there_3 : decode prog_14_method_19_code 3 = .ok (.invokevirtual 163, 3) := by decide +kernel
abbrev Y_Mo_isBranch : MethodName := ⟨"NumberOfficeModel", "isBranch", "(I)Z"⟩
abbrev K_Mo_isBranch : zM := (prog_14_method_3_code, 2, "NumberOfficeModel", (some .boolean), false, [])
theorem d_Mo_isBranch_0 : decode prog_14_method_3_code 0 = .ok (.iload_n 1, 1) := by decide +kernel
theorem d_Mo_isBranch_1 : decode prog_14_method_3_code 1 = .ok (.ifCond .lt 15, 3) := by decide +kernel
theorem d_Mo_isBranch_4 : decode prog_14_method_3_code 4 = .ok (.iload_n 1, 1) := by decide +kernel
theorem d_Mo_isBranch_5 : decode prog_14_method_3_code 5 = .ok (.aload_n 0, 1) := by decide +kernel
theorem d_Mo_isBranch_6 : decode prog_14_method_3_code 6 = .ok (.getfield 116, 3) := by decide +kernel
theorem d_Mo_isBranch_9 : decode prog_14_method_3_code 9 = .ok (.if_icmp .ge 7, 3) := by decide +kernel
theorem d_Mo_isBranch_12 : decode prog_14_method_3_code 12 = .ok (.iconst 1, 1) := by decide +kernel
theorem d_Mo_isBranch_13 : decode prog_14_method_3_code 13 = .ok (.goto 4, 3) := by decide +kernel
theorem d_Mo_isBranch_16 : decode prog_14_method_3_code 16 = .ok (.iconst 0, 1) := by decide +kernel
theorem d_Mo_isBranch_17 : decode prog_14_method_3_code 17 = .ok (.ireturn, 1) := by decide +kernel
abbrev Y_Mo_openBlocks : MethodName := ⟨"NumberOfficeModel", "openBlocks", "(I)I"⟩
abbrev K_Mo_openBlocks : zM := (prog_14_method_20_code, 2, "NumberOfficeModel", (some .int), false, [])
theorem d_Mo_openBlocks_0 : decode prog_14_method_20_code 0 = .ok (.aload_n 0, 1) := by decide +kernel
theorem d_Mo_openBlocks_1 : decode prog_14_method_20_code 1 = .ok (.getfield 17, 3) := by decide +kernel
theorem wF_NumberOfficeModel_17_14 : zFl "NumberOfficeModel" 17 14 4 := ⟨"NumberOfficeModel", zR_NumberOfficeModel, zF_NumberOfficeModel, 40, rfl, zin_NumberOfficeModel, by decide, ztb_of 1175 (by decide +kernel) rfl, Or.inl rfl⟩
theorem d_Mo_openBlocks_4 : decode prog_14_method_20_code 4 = .ok (.iload_n 1, 1) := by decide +kernel
theorem d_Mo_openBlocks_5 : decode prog_14_method_20_code 5 = .ok (.iaload, 1) := by decide +kernel
theorem d_Mo_openBlocks_6 : decode prog_14_method_20_code 6 = .ok (.aload_n 0, 1) := by decide +kernel
theorem d_Mo_openBlocks_7 : decode prog_14_method_20_code 7 = .ok (.getfield 13, 3) := by decide +kernel
theorem wF_NumberOfficeModel_13_14 : zFl "NumberOfficeModel" 13 14 3 := ⟨"NumberOfficeModel", zR_NumberOfficeModel, zF_NumberOfficeModel, 40, rfl, zin_NumberOfficeModel, by decide, ztb_of 1174 (by decide +kernel) rfl, Or.inl rfl⟩
theorem d_Mo_openBlocks_10 : decode prog_14_method_20_code 10 = .ok (.iload_n 1, 1) := by decide +kernel
theorem d_Mo_openBlocks_11 : decode prog_14_method_20_code 11 = .ok (.iaload, 1) := by decide +kernel
theorem d_Mo_openBlocks_12 : decode prog_14_method_20_code 12 = .ok (.if_icmp .ne 7, 3) := by decide +kernel
theorem d_Mo_openBlocks_19 : decode prog_14_method_20_code 19 = .ok (.aload_n 0, 1) := by decide +kernel
theorem d_Mo_openBlocks_20 : decode prog_14_method_20_code 20 = .ok (.getfield 20, 3) := by decide +kernel
theorem wF_NumberOfficeModel_20_14 : zFl "NumberOfficeModel" 20 14 5 := ⟨"NumberOfficeModel", zR_NumberOfficeModel, zF_NumberOfficeModel, 40, rfl, zin_NumberOfficeModel, by decide, ztb_of 1176 (by decide +kernel) rfl, Or.inl rfl⟩
theorem d_Mo_openBlocks_23 : decode prog_14_method_20_code 23 = .ok (.iload_n 1, 1) := by decide +kernel
theorem d_Mo_openBlocks_24 : decode prog_14_method_20_code 24 = .ok (.iaload, 1) := by decide +kernel
theorem d_Mo_openBlocks_25 : decode prog_14_method_20_code 25 = .ok (.aload_n 0, 1) := by decide +kernel
theorem d_Mo_openBlocks_26 : decode prog_14_method_20_code 26 = .ok (.getfield 33, 3) := by decide +kernel
theorem wF_NumberOfficeModel_33_14 : zFl "NumberOfficeModel" 33 14 9 := ⟨"NumberOfficeModel", zR_NumberOfficeModel, zF_NumberOfficeModel, 40, rfl, zin_NumberOfficeModel, by decide, ztb_of 1180 (by decide +kernel) rfl, Or.inl rfl⟩
theorem d_Mo_openBlocks_29 : decode prog_14_method_20_code 29 = .ok (.sipush 300, 3) := by decide +kernel
theorem d_Mo_openBlocks_32 : decode prog_14_method_20_code 32 = .ok (.iload_n 1, 1) := by decide +kernel
theorem d_Mo_openBlocks_33 : decode prog_14_method_20_code 33 = .ok (.imul, 1) := by decide +kernel
theorem d_Mo_openBlocks_34 : decode prog_14_method_20_code 34 = .ok (.aload_n 0, 1) := by decide +kernel
theorem d_Mo_openBlocks_35 : decode prog_14_method_20_code 35 = .ok (.getfield 17, 3) := by decide +kernel
theorem d_Mo_openBlocks_38 : decode prog_14_method_20_code 38 = .ok (.iload_n 1, 1) := by decide +kernel
theorem d_Mo_openBlocks_39 : decode prog_14_method_20_code 39 = .ok (.iaload, 1) := by decide +kernel
theorem d_Mo_openBlocks_40 : decode prog_14_method_20_code 40 = .ok (.iadd, 1) := by decide +kernel
theorem d_Mo_openBlocks_41 : decode prog_14_method_20_code 41 = .ok (.saload, 1) := by decide +kernel
theorem d_Mo_openBlocks_42 : decode prog_14_method_20_code 42 = .ok (.isub, 1) := by decide +kernel
theorem d_Mo_openBlocks_15 : decode prog_14_method_20_code 15 = .ok (.iconst 0, 1) := by decide +kernel
theorem d_Mo_openBlocks_16 : decode prog_14_method_20_code 16 = .ok (.goto 27, 3) := by decide +kernel
theorem d_Mo_openBlocks_43 : decode prog_14_method_20_code 43 = .ok (.ireturn, 1) := by decide +kernel
abbrev Y_Mo_sendLatest : MethodName := ⟨"NumberOfficeModel", "sendLatest", "(I)V"⟩
abbrev K_Mo_sendLatest : zM := (prog_14_method_11_code, 2, "NumberOfficeModel", none, false, [])
theorem d_Mo_sendLatest_0 : decode prog_14_method_11_code 0 = .ok (.aload_n 0, 1) := by decide +kernel
theorem d_Mo_sendLatest_1 : decode prog_14_method_11_code 1 = .ok (.iload_n 1, 1) := by decide +kernel
theorem d_Mo_sendLatest_2 : decode prog_14_method_11_code 2 = .ok (.invokevirtual 136, 3) := by decide +kernel
abbrev Y_Mo_safe : MethodName := ⟨"NumberOfficeModel", "safe", "(I)V"⟩
abbrev K_Mo_safe : zM := (prog_14_method_8_code, 2, "NumberOfficeModel", none, false, [])
theorem d_Mo_safe_0 : decode prog_14_method_8_code 0 = .ok (.iload_n 1, 1) := by decide +kernel
theorem d_Mo_safe_1 : decode prog_14_method_8_code 1 = .ok (.aload_n 0, 1) := by decide +kernel
theorem d_Mo_safe_2 : decode prog_14_method_8_code 2 = .ok (.getfield 116, 3) := by decide +kernel
theorem d_Mo_safe_5 : decode prog_14_method_8_code 5 = .ok (.if_icmp .ne 12, 3) := by decide +kernel
theorem d_Mo_safe_17 : decode prog_14_method_8_code 17 = .ok (.aload_n 0, 1) := by decide +kernel
theorem d_Mo_safe_18 : decode prog_14_method_8_code 18 = .ok (.iload_n 1, 1) := by decide +kernel
theorem d_Mo_safe_19 : decode prog_14_method_8_code 19 = .ok (.iload_n 1, 1) := by decide +kernel
theorem d_Mo_safe_20 : decode prog_14_method_8_code 20 = .ok (.bipush 6, 2) := by decide +kernel
theorem d_Mo_safe_22 : decode prog_14_method_8_code 22 = .ok (.iadd, 1) := by decide +kernel
theorem d_Mo_safe_23 : decode prog_14_method_8_code 23 = .ok (.invokevirtual 130, 3) := by decide +kernel
abbrev Y_Mo_copyOffice : MethodName := ⟨"NumberOfficeModel", "copyOffice", "(II)V"⟩
abbrev K_Mo_copyOffice : zM := (prog_14_method_7_code, 4, "NumberOfficeModel", none, false, [])
theorem d_Mo_copyOffice_0 : decode prog_14_method_7_code 0 = .ok (.iconst 0, 1) := by decide +kernel
theorem d_Mo_copyOffice_1 : decode prog_14_method_7_code 1 = .ok (.istore_n 3, 1) := by decide +kernel
theorem d_Mo_copyOffice_2 : decode prog_14_method_7_code 2 = .ok (.iload_n 3, 1) := by decide +kernel
theorem d_Mo_copyOffice_3 : decode prog_14_method_7_code 3 = .ok (.iconst 3, 1) := by decide +kernel
theorem d_Mo_copyOffice_4 : decode prog_14_method_7_code 4 = .ok (.if_icmp .ge 69, 3) := by decide +kernel
theorem d_Mo_copyOffice_73 : decode prog_14_method_7_code 73 = .ok (.iconst 0, 1) := by decide +kernel
theorem d_Mo_copyOffice_74 : decode prog_14_method_7_code 74 = .ok (.istore_n 3, 1) := by decide +kernel
theorem d_Mo_copyOffice_7 : decode prog_14_method_7_code 7 = .ok (.aload_n 0, 1) := by decide +kernel
theorem d_Mo_copyOffice_8 : decode prog_14_method_7_code 8 = .ok (.getfield 71, 3) := by decide +kernel
theorem wF_NumberOfficeModel_71_14 : zFl "NumberOfficeModel" 71 14 21 := ⟨"NumberOfficeModel", zR_NumberOfficeModel, zF_NumberOfficeModel, 40, rfl, zin_NumberOfficeModel, by decide, ztb_of 1192 (by decide +kernel) rfl, Or.inl rfl⟩
theorem d_Mo_copyOffice_11 : decode prog_14_method_7_code 11 = .ok (.iconst 3, 1) := by decide +kernel
theorem d_Mo_copyOffice_12 : decode prog_14_method_7_code 12 = .ok (.iload_n 2, 1) := by decide +kernel
theorem d_Mo_copyOffice_13 : decode prog_14_method_7_code 13 = .ok (.imul, 1) := by decide +kernel
theorem d_Mo_copyOffice_14 : decode prog_14_method_7_code 14 = .ok (.iload_n 3, 1) := by decide +kernel
theorem d_Mo_copyOffice_15 : decode prog_14_method_7_code 15 = .ok (.iadd, 1) := by decide +kernel
theorem d_Mo_copyOffice_16 : decode prog_14_method_7_code 16 = .ok (.aload_n 0, 1) := by decide +kernel
theorem d_Mo_copyOffice_17 : decode prog_14_method_7_code 17 = .ok (.getfield 71, 3) := by decide +kernel
theorem d_Mo_copyOffice_20 : decode prog_14_method_7_code 20 = .ok (.iconst 3, 1) := by decide +kernel
theorem d_Mo_copyOffice_21 : decode prog_14_method_7_code 21 = .ok (.iload_n 1, 1) := by decide +kernel
theorem d_Mo_copyOffice_22 : decode prog_14_method_7_code 22 = .ok (.imul, 1) := by decide +kernel
theorem d_Mo_copyOffice_23 : decode prog_14_method_7_code 23 = .ok (.iload_n 3, 1) := by decide +kernel
theorem d_Mo_copyOffice_24 : decode prog_14_method_7_code 24 = .ok (.iadd, 1) := by decide +kernel
theorem d_Mo_copyOffice_25 : decode prog_14_method_7_code 25 = .ok (.iaload, 1) := by decide +kernel
theorem d_Mo_copyOffice_26 : decode prog_14_method_7_code 26 = .ok (.iastore, 1) := by decide +kernel
theorem d_Mo_copyOffice_27 : decode prog_14_method_7_code 27 = .ok (.aload_n 0, 1) := by decide +kernel
theorem d_Mo_copyOffice_28 : decode prog_14_method_7_code 28 = .ok (.getfield 74, 3) := by decide +kernel
theorem wF_NumberOfficeModel_74_14 : zFl "NumberOfficeModel" 74 14 22 := ⟨"NumberOfficeModel", zR_NumberOfficeModel, zF_NumberOfficeModel, 40, rfl, zin_NumberOfficeModel, by decide, ztb_of 1193 (by decide +kernel) rfl, Or.inl rfl⟩
theorem d_Mo_copyOffice_31 : decode prog_14_method_7_code 31 = .ok (.iconst 3, 1) := by decide +kernel
theorem d_Mo_copyOffice_32 : decode prog_14_method_7_code 32 = .ok (.iload_n 2, 1) := by decide +kernel
theorem d_Mo_copyOffice_33 : decode prog_14_method_7_code 33 = .ok (.imul, 1) := by decide +kernel
theorem d_Mo_copyOffice_34 : decode prog_14_method_7_code 34 = .ok (.iload_n 3, 1) := by decide +kernel
theorem d_Mo_copyOffice_35 : decode prog_14_method_7_code 35 = .ok (.iadd, 1) := by decide +kernel
theorem d_Mo_copyOffice_36 : decode prog_14_method_7_code 36 = .ok (.aload_n 0, 1) := by decide +kernel
theorem d_Mo_copyOffice_37 : decode prog_14_method_7_code 37 = .ok (.getfield 74, 3) := by decide +kernel
theorem d_Mo_copyOffice_40 : decode prog_14_method_7_code 40 = .ok (.iconst 3, 1) := by decide +kernel
theorem d_Mo_copyOffice_41 : decode prog_14_method_7_code 41 = .ok (.iload_n 1, 1) := by decide +kernel
theorem d_Mo_copyOffice_42 : decode prog_14_method_7_code 42 = .ok (.imul, 1) := by decide +kernel
theorem d_Mo_copyOffice_43 : decode prog_14_method_7_code 43 = .ok (.iload_n 3, 1) := by decide +kernel
theorem d_Mo_copyOffice_44 : decode prog_14_method_7_code 44 = .ok (.iadd, 1) := by decide +kernel
theorem d_Mo_copyOffice_45 : decode prog_14_method_7_code 45 = .ok (.iaload, 1) := by decide +kernel
theorem d_Mo_copyOffice_46 : decode prog_14_method_7_code 46 = .ok (.iastore, 1) := by decide +kernel
theorem d_Mo_copyOffice_47 : decode prog_14_method_7_code 47 = .ok (.aload_n 0, 1) := by decide +kernel
theorem d_Mo_copyOffice_48 : decode prog_14_method_7_code 48 = .ok (.getfield 77, 3) := by decide +kernel
theorem wF_NumberOfficeModel_77_14 : zFl "NumberOfficeModel" 77 14 23 := ⟨"NumberOfficeModel", zR_NumberOfficeModel, zF_NumberOfficeModel, 40, rfl, zin_NumberOfficeModel, by decide, ztb_of 1194 (by decide +kernel) rfl, Or.inl rfl⟩
theorem d_Mo_copyOffice_51 : decode prog_14_method_7_code 51 = .ok (.iconst 3, 1) := by decide +kernel
theorem d_Mo_copyOffice_52 : decode prog_14_method_7_code 52 = .ok (.iload_n 2, 1) := by decide +kernel
theorem d_Mo_copyOffice_53 : decode prog_14_method_7_code 53 = .ok (.imul, 1) := by decide +kernel
theorem d_Mo_copyOffice_54 : decode prog_14_method_7_code 54 = .ok (.iload_n 3, 1) := by decide +kernel
theorem d_Mo_copyOffice_55 : decode prog_14_method_7_code 55 = .ok (.iadd, 1) := by decide +kernel
theorem d_Mo_copyOffice_56 : decode prog_14_method_7_code 56 = .ok (.aload_n 0, 1) := by decide +kernel
theorem d_Mo_copyOffice_57 : decode prog_14_method_7_code 57 = .ok (.getfield 77, 3) := by decide +kernel
theorem d_Mo_copyOffice_60 : decode prog_14_method_7_code 60 = .ok (.iconst 3, 1) := by decide +kernel
theorem d_Mo_copyOffice_61 : decode prog_14_method_7_code 61 = .ok (.iload_n 1, 1) := by decide +kernel
theorem d_Mo_copyOffice_62 : decode prog_14_method_7_code 62 = .ok (.imul, 1) := by decide +kernel
theorem d_Mo_copyOffice_63 : decode prog_14_method_7_code 63 = .ok (.iload_n 3, 1) := by decide +kernel
theorem d_Mo_copyOffice_64 : decode prog_14_method_7_code 64 = .ok (.iadd, 1) := by decide +kernel
theorem d_Mo_copyOffice_65 : decode prog_14_method_7_code 65 = .ok (.iaload, 1) := by decide +kernel
theorem d_Mo_copyOffice_66 : decode prog_14_method_7_code 66 = .ok (.iastore, 1) := by decide +kernel
theorem d_Mo_copyOffice_67 : decode prog_14_method_7_code 67 = .ok (.iinc 3 1, 3) := by decide +kernel
theorem d_Mo_copyOffice_70 : decode prog_14_method_7_code 70 = .ok (.goto (-68), 3) := by decide +kernel
theorem d_Mo_copyOffice_75 : decode prog_14_method_7_code 75 = .ok (.iload_n 3, 1) := by decide +kernel
theorem d_Mo_copyOffice_76 : decode prog_14_method_7_code 76 = .ok (.sipush 900, 3) := by decide +kernel
theorem d_Mo_copyOffice_79 : decode prog_14_method_7_code 79 = .ok (.if_icmp .ge 129, 3) := by decide +kernel
theorem d_Mo_copyOffice_208 : decode prog_14_method_7_code 208 = .ok (.iconst 0, 1) := by decide +kernel
theorem d_Mo_copyOffice_209 : decode prog_14_method_7_code 209 = .ok (.istore_n 3, 1) := by decide +kernel
theorem d_Mo_copyOffice_82 : decode prog_14_method_7_code 82 = .ok (.aload_n 0, 1) := by decide +kernel
theorem d_Mo_copyOffice_83 : decode prog_14_method_7_code 83 = .ok (.getfield 80, 3) := by decide +kernel
theorem wF_NumberOfficeModel_80_14 : zFl "NumberOfficeModel" 80 14 24 := ⟨"NumberOfficeModel", zR_NumberOfficeModel, zF_NumberOfficeModel, 40, rfl, zin_NumberOfficeModel, by decide, ztb_of 1195 (by decide +kernel) rfl, Or.inl rfl⟩
theorem d_Mo_copyOffice_86 : decode prog_14_method_7_code 86 = .ok (.sipush 900, 3) := by decide +kernel
theorem d_Mo_copyOffice_89 : decode prog_14_method_7_code 89 = .ok (.iload_n 2, 1) := by decide +kernel
theorem d_Mo_copyOffice_90 : decode prog_14_method_7_code 90 = .ok (.imul, 1) := by decide +kernel
theorem d_Mo_copyOffice_91 : decode prog_14_method_7_code 91 = .ok (.iload_n 3, 1) := by decide +kernel
theorem d_Mo_copyOffice_92 : decode prog_14_method_7_code 92 = .ok (.iadd, 1) := by decide +kernel
theorem d_Mo_copyOffice_93 : decode prog_14_method_7_code 93 = .ok (.aload_n 0, 1) := by decide +kernel
theorem d_Mo_copyOffice_94 : decode prog_14_method_7_code 94 = .ok (.getfield 80, 3) := by decide +kernel
theorem d_Mo_copyOffice_97 : decode prog_14_method_7_code 97 = .ok (.sipush 900, 3) := by decide +kernel
theorem d_Mo_copyOffice_100 : decode prog_14_method_7_code 100 = .ok (.iload_n 1, 1) := by decide +kernel
theorem d_Mo_copyOffice_101 : decode prog_14_method_7_code 101 = .ok (.imul, 1) := by decide +kernel
theorem d_Mo_copyOffice_102 : decode prog_14_method_7_code 102 = .ok (.iload_n 3, 1) := by decide +kernel
theorem d_Mo_copyOffice_103 : decode prog_14_method_7_code 103 = .ok (.iadd, 1) := by decide +kernel
theorem d_Mo_copyOffice_104 : decode prog_14_method_7_code 104 = .ok (.baload, 1) := by decide +kernel
theorem d_Mo_copyOffice_105 : decode prog_14_method_7_code 105 = .ok (.bastore, 1) := by decide +kernel
theorem d_Mo_copyOffice_106 : decode prog_14_method_7_code 106 = .ok (.aload_n 0, 1) := by decide +kernel
theorem d_Mo_copyOffice_107 : decode prog_14_method_7_code 107 = .ok (.getfield 83, 3) := by decide +kernel
theorem wF_NumberOfficeModel_83_14 : zFl "NumberOfficeModel" 83 14 25 := ⟨"NumberOfficeModel", zR_NumberOfficeModel, zF_NumberOfficeModel, 40, rfl, zin_NumberOfficeModel, by decide, ztb_of 1196 (by decide +kernel) rfl, Or.inl rfl⟩
theorem d_Mo_copyOffice_110 : decode prog_14_method_7_code 110 = .ok (.sipush 900, 3) := by decide +kernel
theorem d_Mo_copyOffice_113 : decode prog_14_method_7_code 113 = .ok (.iload_n 2, 1) := by decide +kernel
theorem d_Mo_copyOffice_114 : decode prog_14_method_7_code 114 = .ok (.imul, 1) := by decide +kernel
theorem d_Mo_copyOffice_115 : decode prog_14_method_7_code 115 = .ok (.iload_n 3, 1) := by decide +kernel
theorem d_Mo_copyOffice_116 : decode prog_14_method_7_code 116 = .ok (.iadd, 1) := by decide +kernel
theorem d_Mo_copyOffice_117 : decode prog_14_method_7_code 117 = .ok (.aload_n 0, 1) := by decide +kernel
theorem d_Mo_copyOffice_118 : decode prog_14_method_7_code 118 = .ok (.getfield 83, 3) := by decide +kernel
theorem d_Mo_copyOffice_121 : decode prog_14_method_7_code 121 = .ok (.sipush 900, 3) := by decide +kernel
theorem d_Mo_copyOffice_124 : decode prog_14_method_7_code 124 = .ok (.iload_n 1, 1) := by decide +kernel
theorem d_Mo_copyOffice_125 : decode prog_14_method_7_code 125 = .ok (.imul, 1) := by decide +kernel
theorem d_Mo_copyOffice_126 : decode prog_14_method_7_code 126 = .ok (.iload_n 3, 1) := by decide +kernel
theorem d_Mo_copyOffice_127 : decode prog_14_method_7_code 127 = .ok (.iadd, 1) := by decide +kernel
theorem d_Mo_copyOffice_128 : decode prog_14_method_7_code 128 = .ok (.baload, 1) := by decide +kernel
theorem d_Mo_copyOffice_129 : decode prog_14_method_7_code 129 = .ok (.bastore, 1) := by decide +kernel
theorem d_Mo_copyOffice_130 : decode prog_14_method_7_code 130 = .ok (.aload_n 0, 1) := by decide +kernel
theorem d_Mo_copyOffice_131 : decode prog_14_method_7_code 131 = .ok (.getfield 86, 3) := by decide +kernel
theorem wF_NumberOfficeModel_86_14 : zFl "NumberOfficeModel" 86 14 26 := ⟨"NumberOfficeModel", zR_NumberOfficeModel, zF_NumberOfficeModel, 40, rfl, zin_NumberOfficeModel, by decide, ztb_of 1197 (by decide +kernel) rfl, Or.inl rfl⟩
theorem d_Mo_copyOffice_134 : decode prog_14_method_7_code 134 = .ok (.sipush 900, 3) := by decide +kernel
theorem d_Mo_copyOffice_137 : decode prog_14_method_7_code 137 = .ok (.iload_n 2, 1) := by decide +kernel
theorem d_Mo_copyOffice_138 : decode prog_14_method_7_code 138 = .ok (.imul, 1) := by decide +kernel
theorem d_Mo_copyOffice_139 : decode prog_14_method_7_code 139 = .ok (.iload_n 3, 1) := by decide +kernel
theorem d_Mo_copyOffice_140 : decode prog_14_method_7_code 140 = .ok (.iadd, 1) := by decide +kernel
theorem d_Mo_copyOffice_141 : decode prog_14_method_7_code 141 = .ok (.aload_n 0, 1) := by decide +kernel
theorem d_Mo_copyOffice_142 : decode prog_14_method_7_code 142 = .ok (.getfield 86, 3) := by decide +kernel
theorem d_Mo_copyOffice_145 : decode prog_14_method_7_code 145 = .ok (.sipush 900, 3) := by decide +kernel
theorem d_Mo_copyOffice_148 : decode prog_14_method_7_code 148 = .ok (.iload_n 1, 1) := by decide +kernel
theorem d_Mo_copyOffice_149 : decode prog_14_method_7_code 149 = .ok (.imul, 1) := by decide +kernel
theorem d_Mo_copyOffice_150 : decode prog_14_method_7_code 150 = .ok (.iload_n 3, 1) := by decide +kernel
theorem d_Mo_copyOffice_151 : decode prog_14_method_7_code 151 = .ok (.iadd, 1) := by decide +kernel
theorem d_Mo_copyOffice_152 : decode prog_14_method_7_code 152 = .ok (.laload, 1) := by decide +kernel
theorem d_Mo_copyOffice_153 : decode prog_14_method_7_code 153 = .ok (.lastore, 1) := by decide +kernel
theorem d_Mo_copyOffice_154 : decode prog_14_method_7_code 154 = .ok (.aload_n 0, 1) := by decide +kernel
theorem d_Mo_copyOffice_155 : decode prog_14_method_7_code 155 = .ok (.getfield 89, 3) := by decide +kernel
theorem wF_NumberOfficeModel_89_14 : zFl "NumberOfficeModel" 89 14 27 := ⟨"NumberOfficeModel", zR_NumberOfficeModel, zF_NumberOfficeModel, 40, rfl, zin_NumberOfficeModel, by decide, ztb_of 1198 (by decide +kernel) rfl, Or.inl rfl⟩
theorem d_Mo_copyOffice_158 : decode prog_14_method_7_code 158 = .ok (.sipush 900, 3) := by decide +kernel
theorem d_Mo_copyOffice_161 : decode prog_14_method_7_code 161 = .ok (.iload_n 2, 1) := by decide +kernel
theorem d_Mo_copyOffice_162 : decode prog_14_method_7_code 162 = .ok (.imul, 1) := by decide +kernel
theorem d_Mo_copyOffice_163 : decode prog_14_method_7_code 163 = .ok (.iload_n 3, 1) := by decide +kernel
theorem d_Mo_copyOffice_164 : decode prog_14_method_7_code 164 = .ok (.iadd, 1) := by decide +kernel
theorem d_Mo_copyOffice_165 : decode prog_14_method_7_code 165 = .ok (.aload_n 0, 1) := by decide +kernel
theorem d_Mo_copyOffice_166 : decode prog_14_method_7_code 166 = .ok (.getfield 89, 3) := by decide +kernel
theorem d_Mo_copyOffice_169 : decode prog_14_method_7_code 169 = .ok (.sipush 900, 3) := by decide +kernel
theorem d_Mo_copyOffice_172 : decode prog_14_method_7_code 172 = .ok (.iload_n 1, 1) := by decide +kernel
theorem d_Mo_copyOffice_173 : decode prog_14_method_7_code 173 = .ok (.imul, 1) := by decide +kernel
theorem d_Mo_copyOffice_174 : decode prog_14_method_7_code 174 = .ok (.iload_n 3, 1) := by decide +kernel
theorem d_Mo_copyOffice_175 : decode prog_14_method_7_code 175 = .ok (.iadd, 1) := by decide +kernel
theorem d_Mo_copyOffice_176 : decode prog_14_method_7_code 176 = .ok (.iaload, 1) := by decide +kernel
theorem d_Mo_copyOffice_177 : decode prog_14_method_7_code 177 = .ok (.iastore, 1) := by decide +kernel
theorem d_Mo_copyOffice_178 : decode prog_14_method_7_code 178 = .ok (.aload_n 0, 1) := by decide +kernel
theorem d_Mo_copyOffice_179 : decode prog_14_method_7_code 179 = .ok (.getfield 92, 3) := by decide +kernel
theorem wF_NumberOfficeModel_92_14 : zFl "NumberOfficeModel" 92 14 28 := ⟨"NumberOfficeModel", zR_NumberOfficeModel, zF_NumberOfficeModel, 40, rfl, zin_NumberOfficeModel, by decide, ztb_of 1199 (by decide +kernel) rfl, Or.inl rfl⟩
theorem d_Mo_copyOffice_182 : decode prog_14_method_7_code 182 = .ok (.sipush 900, 3) := by decide +kernel
theorem d_Mo_copyOffice_185 : decode prog_14_method_7_code 185 = .ok (.iload_n 2, 1) := by decide +kernel
theorem d_Mo_copyOffice_186 : decode prog_14_method_7_code 186 = .ok (.imul, 1) := by decide +kernel
theorem d_Mo_copyOffice_187 : decode prog_14_method_7_code 187 = .ok (.iload_n 3, 1) := by decide +kernel
theorem d_Mo_copyOffice_188 : decode prog_14_method_7_code 188 = .ok (.iadd, 1) := by decide +kernel
theorem d_Mo_copyOffice_189 : decode prog_14_method_7_code 189 = .ok (.aload_n 0, 1) := by decide +kernel
theorem d_Mo_copyOffice_190 : decode prog_14_method_7_code 190 = .ok (.getfield 92, 3) := by decide +kernel
theorem d_Mo_copyOffice_193 : decode prog_14_method_7_code 193 = .ok (.sipush 900, 3) := by decide +kernel
theorem d_Mo_copyOffice_196 : decode prog_14_method_7_code 196 = .ok (.iload_n 1, 1) := by decide +kernel
theorem d_Mo_copyOffice_197 : decode prog_14_method_7_code 197 = .ok (.imul, 1) := by decide +kernel
theorem d_Mo_copyOffice_198 : decode prog_14_method_7_code 198 = .ok (.iload_n 3, 1) := by decide +kernel
theorem d_Mo_copyOffice_199 : decode prog_14_method_7_code 199 = .ok (.iadd, 1) := by decide +kernel
theorem d_Mo_copyOffice_200 : decode prog_14_method_7_code 200 = .ok (.baload, 1) := by decide +kernel
theorem d_Mo_copyOffice_201 : decode prog_14_method_7_code 201 = .ok (.bastore, 1) := by decide +kernel
theorem d_Mo_copyOffice_202 : decode prog_14_method_7_code 202 = .ok (.iinc 3 1, 3) := by decide +kernel
theorem d_Mo_copyOffice_205 : decode prog_14_method_7_code 205 = .ok (.goto (-130), 3) := by decide +kernel
theorem d_Mo_copyOffice_210 : decode prog_14_method_7_code 210 = .ok (.iload_n 3, 1) := by decide +kernel
theorem d_Mo_copyOffice_211 : decode prog_14_method_7_code 211 = .ok (.bipush 6, 2) := by decide +kernel
theorem d_Mo_copyOffice_213 : decode prog_14_method_7_code 213 = .ok (.if_icmp .ge 119, 3) := by decide +kernel
theorem d_Mo_copyOffice_332 : decode prog_14_method_7_code 332 = .ok (.return_, 1) := by decide +kernel
theorem d_Mo_copyOffice_216 : decode prog_14_method_7_code 216 = .ok (.aload_n 0, 1) := by decide +kernel
theorem d_Mo_copyOffice_217 : decode prog_14_method_7_code 217 = .ok (.getfield 95, 3) := by decide +kernel
theorem wF_NumberOfficeModel_95_14 : zFl "NumberOfficeModel" 95 14 29 := ⟨"NumberOfficeModel", zR_NumberOfficeModel, zF_NumberOfficeModel, 40, rfl, zin_NumberOfficeModel, by decide, ztb_of 1200 (by decide +kernel) rfl, Or.inl rfl⟩
theorem d_Mo_copyOffice_220 : decode prog_14_method_7_code 220 = .ok (.bipush 6, 2) := by decide +kernel
theorem d_Mo_copyOffice_222 : decode prog_14_method_7_code 222 = .ok (.iload_n 2, 1) := by decide +kernel
theorem d_Mo_copyOffice_223 : decode prog_14_method_7_code 223 = .ok (.imul, 1) := by decide +kernel
theorem d_Mo_copyOffice_224 : decode prog_14_method_7_code 224 = .ok (.iload_n 3, 1) := by decide +kernel
theorem d_Mo_copyOffice_225 : decode prog_14_method_7_code 225 = .ok (.iadd, 1) := by decide +kernel
theorem d_Mo_copyOffice_226 : decode prog_14_method_7_code 226 = .ok (.aload_n 0, 1) := by decide +kernel
theorem d_Mo_copyOffice_227 : decode prog_14_method_7_code 227 = .ok (.getfield 95, 3) := by decide +kernel
theorem d_Mo_copyOffice_230 : decode prog_14_method_7_code 230 = .ok (.bipush 6, 2) := by decide +kernel
theorem d_Mo_copyOffice_232 : decode prog_14_method_7_code 232 = .ok (.iload_n 1, 1) := by decide +kernel
theorem d_Mo_copyOffice_233 : decode prog_14_method_7_code 233 = .ok (.imul, 1) := by decide +kernel
theorem d_Mo_copyOffice_234 : decode prog_14_method_7_code 234 = .ok (.iload_n 3, 1) := by decide +kernel
theorem d_Mo_copyOffice_235 : decode prog_14_method_7_code 235 = .ok (.iadd, 1) := by decide +kernel
theorem d_Mo_copyOffice_236 : decode prog_14_method_7_code 236 = .ok (.baload, 1) := by decide +kernel
theorem d_Mo_copyOffice_237 : decode prog_14_method_7_code 237 = .ok (.bastore, 1) := by decide +kernel
theorem d_Mo_copyOffice_238 : decode prog_14_method_7_code 238 = .ok (.aload_n 0, 1) := by decide +kernel
theorem d_Mo_copyOffice_239 : decode prog_14_method_7_code 239 = .ok (.getfield 98, 3) := by decide +kernel
theorem wF_NumberOfficeModel_98_14 : zFl "NumberOfficeModel" 98 14 30 := ⟨"NumberOfficeModel", zR_NumberOfficeModel, zF_NumberOfficeModel, 40, rfl, zin_NumberOfficeModel, by decide, ztb_of 1201 (by decide +kernel) rfl, Or.inl rfl⟩
theorem d_Mo_copyOffice_242 : decode prog_14_method_7_code 242 = .ok (.bipush 6, 2) := by decide +kernel
theorem d_Mo_copyOffice_244 : decode prog_14_method_7_code 244 = .ok (.iload_n 2, 1) := by decide +kernel
theorem d_Mo_copyOffice_245 : decode prog_14_method_7_code 245 = .ok (.imul, 1) := by decide +kernel
theorem d_Mo_copyOffice_246 : decode prog_14_method_7_code 246 = .ok (.iload_n 3, 1) := by decide +kernel
theorem d_Mo_copyOffice_247 : decode prog_14_method_7_code 247 = .ok (.iadd, 1) := by decide +kernel
theorem d_Mo_copyOffice_248 : decode prog_14_method_7_code 248 = .ok (.aload_n 0, 1) := by decide +kernel
theorem d_Mo_copyOffice_249 : decode prog_14_method_7_code 249 = .ok (.getfield 98, 3) := by decide +kernel
theorem d_Mo_copyOffice_252 : decode prog_14_method_7_code 252 = .ok (.bipush 6, 2) := by decide +kernel
theorem d_Mo_copyOffice_254 : decode prog_14_method_7_code 254 = .ok (.iload_n 1, 1) := by decide +kernel
theorem d_Mo_copyOffice_255 : decode prog_14_method_7_code 255 = .ok (.imul, 1) := by decide +kernel
theorem d_Mo_copyOffice_256 : decode prog_14_method_7_code 256 = .ok (.iload_n 3, 1) := by decide +kernel
theorem d_Mo_copyOffice_257 : decode prog_14_method_7_code 257 = .ok (.iadd, 1) := by decide +kernel
theorem d_Mo_copyOffice_258 : decode prog_14_method_7_code 258 = .ok (.iaload, 1) := by decide +kernel
theorem d_Mo_copyOffice_259 : decode prog_14_method_7_code 259 = .ok (.iastore, 1) := by decide +kernel
theorem d_Mo_copyOffice_260 : decode prog_14_method_7_code 260 = .ok (.aload_n 0, 1) := by decide +kernel
theorem d_Mo_copyOffice_261 : decode prog_14_method_7_code 261 = .ok (.getfield 101, 3) := by decide +kernel
theorem wF_NumberOfficeModel_101_14 : zFl "NumberOfficeModel" 101 14 31 := ⟨"NumberOfficeModel", zR_NumberOfficeModel, zF_NumberOfficeModel, 40, rfl, zin_NumberOfficeModel, by decide, ztb_of 1202 (by decide +kernel) rfl, Or.inl rfl⟩
theorem d_Mo_copyOffice_264 : decode prog_14_method_7_code 264 = .ok (.bipush 6, 2) := by decide +kernel
theorem d_Mo_copyOffice_266 : decode prog_14_method_7_code 266 = .ok (.iload_n 2, 1) := by decide +kernel
theorem d_Mo_copyOffice_267 : decode prog_14_method_7_code 267 = .ok (.imul, 1) := by decide +kernel
theorem d_Mo_copyOffice_268 : decode prog_14_method_7_code 268 = .ok (.iload_n 3, 1) := by decide +kernel
theorem d_Mo_copyOffice_269 : decode prog_14_method_7_code 269 = .ok (.iadd, 1) := by decide +kernel
theorem d_Mo_copyOffice_270 : decode prog_14_method_7_code 270 = .ok (.aload_n 0, 1) := by decide +kernel
theorem d_Mo_copyOffice_271 : decode prog_14_method_7_code 271 = .ok (.getfield 101, 3) := by decide +kernel
theorem d_Mo_copyOffice_274 : decode prog_14_method_7_code 274 = .ok (.bipush 6, 2) := by decide +kernel
theorem d_Mo_copyOffice_276 : decode prog_14_method_7_code 276 = .ok (.iload_n 1, 1) := by decide +kernel
theorem d_Mo_copyOffice_277 : decode prog_14_method_7_code 277 = .ok (.imul, 1) := by decide +kernel
theorem d_Mo_copyOffice_278 : decode prog_14_method_7_code 278 = .ok (.iload_n 3, 1) := by decide +kernel
theorem d_Mo_copyOffice_279 : decode prog_14_method_7_code 279 = .ok (.iadd, 1) := by decide +kernel
theorem d_Mo_copyOffice_280 : decode prog_14_method_7_code 280 = .ok (.iaload, 1) := by decide +kernel
theorem d_Mo_copyOffice_281 : decode prog_14_method_7_code 281 = .ok (.iastore, 1) := by decide +kernel
theorem d_Mo_copyOffice_282 : decode prog_14_method_7_code 282 = .ok (.aload_n 0, 1) := by decide +kernel
theorem d_Mo_copyOffice_283 : decode prog_14_method_7_code 283 = .ok (.getfield 104, 3) := by decide +kernel
theorem wF_NumberOfficeModel_104_14 : zFl "NumberOfficeModel" 104 14 32 := ⟨"NumberOfficeModel", zR_NumberOfficeModel, zF_NumberOfficeModel, 40, rfl, zin_NumberOfficeModel, by decide, ztb_of 1203 (by decide +kernel) rfl, Or.inl rfl⟩
theorem d_Mo_copyOffice_286 : decode prog_14_method_7_code 286 = .ok (.bipush 6, 2) := by decide +kernel
theorem d_Mo_copyOffice_288 : decode prog_14_method_7_code 288 = .ok (.iload_n 2, 1) := by decide +kernel
theorem d_Mo_copyOffice_289 : decode prog_14_method_7_code 289 = .ok (.imul, 1) := by decide +kernel
theorem d_Mo_copyOffice_290 : decode prog_14_method_7_code 290 = .ok (.iload_n 3, 1) := by decide +kernel
theorem d_Mo_copyOffice_291 : decode prog_14_method_7_code 291 = .ok (.iadd, 1) := by decide +kernel
theorem d_Mo_copyOffice_292 : decode prog_14_method_7_code 292 = .ok (.aload_n 0, 1) := by decide +kernel
theorem d_Mo_copyOffice_293 : decode prog_14_method_7_code 293 = .ok (.getfield 104, 3) := by decide +kernel
theorem d_Mo_copyOffice_296 : decode prog_14_method_7_code 296 = .ok (.bipush 6, 2) := by decide +kernel
theorem d_Mo_copyOffice_298 : decode prog_14_method_7_code 298 = .ok (.iload_n 1, 1) := by decide +kernel
theorem d_Mo_copyOffice_299 : decode prog_14_method_7_code 299 = .ok (.imul, 1) := by decide +kernel
theorem d_Mo_copyOffice_300 : decode prog_14_method_7_code 300 = .ok (.iload_n 3, 1) := by decide +kernel
theorem d_Mo_copyOffice_301 : decode prog_14_method_7_code 301 = .ok (.iadd, 1) := by decide +kernel
theorem d_Mo_copyOffice_302 : decode prog_14_method_7_code 302 = .ok (.iaload, 1) := by decide +kernel
theorem d_Mo_copyOffice_303 : decode prog_14_method_7_code 303 = .ok (.iastore, 1) := by decide +kernel
theorem d_Mo_copyOffice_304 : decode prog_14_method_7_code 304 = .ok (.aload_n 0, 1) := by decide +kernel
theorem d_Mo_copyOffice_305 : decode prog_14_method_7_code 305 = .ok (.getfield 107, 3) := by decide +kernel
theorem wF_NumberOfficeModel_107_14 : zFl "NumberOfficeModel" 107 14 33 := ⟨"NumberOfficeModel", zR_NumberOfficeModel, zF_NumberOfficeModel, 40, rfl, zin_NumberOfficeModel, by decide, ztb_of 1204 (by decide +kernel) rfl, Or.inl rfl⟩
theorem d_Mo_copyOffice_308 : decode prog_14_method_7_code 308 = .ok (.bipush 6, 2) := by decide +kernel
theorem d_Mo_copyOffice_310 : decode prog_14_method_7_code 310 = .ok (.iload_n 2, 1) := by decide +kernel
theorem d_Mo_copyOffice_311 : decode prog_14_method_7_code 311 = .ok (.imul, 1) := by decide +kernel
theorem d_Mo_copyOffice_312 : decode prog_14_method_7_code 312 = .ok (.iload_n 3, 1) := by decide +kernel
theorem d_Mo_copyOffice_313 : decode prog_14_method_7_code 313 = .ok (.iadd, 1) := by decide +kernel
theorem d_Mo_copyOffice_314 : decode prog_14_method_7_code 314 = .ok (.aload_n 0, 1) := by decide +kernel
theorem d_Mo_copyOffice_315 : decode prog_14_method_7_code 315 = .ok (.getfield 107, 3) := by decide +kernel
theorem d_Mo_copyOffice_318 : decode prog_14_method_7_code 318 = .ok (.bipush 6, 2) := by decide +kernel
theorem d_Mo_copyOffice_320 : decode prog_14_method_7_code 320 = .ok (.iload_n 1, 1) := by decide +kernel
theorem d_Mo_copyOffice_321 : decode prog_14_method_7_code 321 = .ok (.imul, 1) := by decide +kernel
theorem d_Mo_copyOffice_322 : decode prog_14_method_7_code 322 = .ok (.iload_n 3, 1) := by decide +kernel
theorem d_Mo_copyOffice_323 : decode prog_14_method_7_code 323 = .ok (.iadd, 1) := by decide +kernel
theorem d_Mo_copyOffice_324 : decode prog_14_method_7_code 324 = .ok (.iaload, 1) := by decide +kernel
theorem d_Mo_copyOffice_325 : decode prog_14_method_7_code 325 = .ok (.iastore, 1) := by decide +kernel
theorem d_Mo_copyOffice_326 : decode prog_14_method_7_code 326 = .ok (.iinc 3 1, 3) := by decide +kernel
theorem d_Mo_copyOffice_329 : decode prog_14_method_7_code 329 = .ok (.goto (-119), 3) := by decide +kernel
abbrev Y_Mo_copyBranch : MethodName := ⟨"NumberOfficeModel", "copyBranch", "(II)V"⟩
abbrev K_Mo_copyBranch : zM := (prog_14_method_6_code, 4, "NumberOfficeModel", none, false, [])
theorem d_Mo_copyBranch_0 : decode prog_14_method_6_code 0 = .ok (.aload_n 0, 1) := by decide +kernel
theorem d_Mo_copyBranch_1 : decode prog_14_method_6_code 1 = .ok (.getfield 53, 3) := by decide +kernel
theorem wF_NumberOfficeModel_53_14 : zFl "NumberOfficeModel" 53 14 15 := ⟨"NumberOfficeModel", zR_NumberOfficeModel, zF_NumberOfficeModel, 40, rfl, zin_NumberOfficeModel, by decide, ztb_of 1186 (by decide +kernel) rfl, Or.inl rfl⟩
theorem d_Mo_copyBranch_4 : decode prog_14_method_6_code 4 = .ok (.iload_n 2, 1) := by decide +kernel
theorem d_Mo_copyBranch_5 : decode prog_14_method_6_code 5 = .ok (.aload_n 0, 1) := by decide +kernel
theorem d_Mo_copyBranch_6 : decode prog_14_method_6_code 6 = .ok (.getfield 53, 3) := by decide +kernel
theorem d_Mo_copyBranch_9 : decode prog_14_method_6_code 9 = .ok (.iload_n 1, 1) := by decide +kernel
theorem d_Mo_copyBranch_10 : decode prog_14_method_6_code 10 = .ok (.iaload, 1) := by decide +kernel
theorem d_Mo_copyBranch_11 : decode prog_14_method_6_code 11 = .ok (.iastore, 1) := by decide +kernel
theorem d_Mo_copyBranch_12 : decode prog_14_method_6_code 12 = .ok (.aload_n 0, 1) := by decide +kernel
theorem d_Mo_copyBranch_13 : decode prog_14_method_6_code 13 = .ok (.getfield 56, 3) := by decide +kernel
theorem wF_NumberOfficeModel_56_14 : zFl "NumberOfficeModel" 56 14 16 := ⟨"NumberOfficeModel", zR_NumberOfficeModel, zF_NumberOfficeModel, 40, rfl, zin_NumberOfficeModel, by decide, ztb_of 1187 (by decide +kernel) rfl, Or.inl rfl⟩
theorem d_Mo_copyBranch_16 : decode prog_14_method_6_code 16 = .ok (.iload_n 2, 1) := by decide +kernel
theorem d_Mo_copyBranch_17 : decode prog_14_method_6_code 17 = .ok (.aload_n 0, 1) := by decide +kernel
theorem d_Mo_copyBranch_18 : decode prog_14_method_6_code 18 = .ok (.getfield 56, 3) := by decide +kernel
theorem d_Mo_copyBranch_21 : decode prog_14_method_6_code 21 = .ok (.iload_n 1, 1) := by decide +kernel
theorem d_Mo_copyBranch_22 : decode prog_14_method_6_code 22 = .ok (.iaload, 1) := by decide +kernel
theorem d_Mo_copyBranch_23 : decode prog_14_method_6_code 23 = .ok (.iastore, 1) := by decide +kernel
theorem d_Mo_copyBranch_24 : decode prog_14_method_6_code 24 = .ok (.aload_n 0, 1) := by decide +kernel
theorem d_Mo_copyBranch_25 : decode prog_14_method_6_code 25 = .ok (.getfield 59, 3) := by decide +kernel
theorem wF_NumberOfficeModel_59_14 : zFl "NumberOfficeModel" 59 14 17 := ⟨"NumberOfficeModel", zR_NumberOfficeModel, zF_NumberOfficeModel, 40, rfl, zin_NumberOfficeModel, by decide, ztb_of 1188 (by decide +kernel) rfl, Or.inl rfl⟩
theorem d_Mo_copyBranch_28 : decode prog_14_method_6_code 28 = .ok (.iload_n 2, 1) := by decide +kernel
theorem d_Mo_copyBranch_29 : decode prog_14_method_6_code 29 = .ok (.aload_n 0, 1) := by decide +kernel
theorem d_Mo_copyBranch_30 : decode prog_14_method_6_code 30 = .ok (.getfield 59, 3) := by decide +kernel
theorem d_Mo_copyBranch_33 : decode prog_14_method_6_code 33 = .ok (.iload_n 1, 1) := by decide +kernel
theorem d_Mo_copyBranch_34 : decode prog_14_method_6_code 34 = .ok (.iaload, 1) := by decide +kernel
theorem d_Mo_copyBranch_35 : decode prog_14_method_6_code 35 = .ok (.iastore, 1) := by decide +kernel
theorem d_Mo_copyBranch_36 : decode prog_14_method_6_code 36 = .ok (.aload_n 0, 1) := by decide +kernel
theorem d_Mo_copyBranch_37 : decode prog_14_method_6_code 37 = .ok (.getfield 62, 3) := by decide +kernel
theorem wF_NumberOfficeModel_62_14 : zFl "NumberOfficeModel" 62 14 18 := ⟨"NumberOfficeModel", zR_NumberOfficeModel, zF_NumberOfficeModel, 40, rfl, zin_NumberOfficeModel, by decide, ztb_of 1189 (by decide +kernel) rfl, Or.inl rfl⟩
theorem d_Mo_copyBranch_40 : decode prog_14_method_6_code 40 = .ok (.iload_n 2, 1) := by decide +kernel
theorem d_Mo_copyBranch_41 : decode prog_14_method_6_code 41 = .ok (.aload_n 0, 1) := by decide +kernel
theorem d_Mo_copyBranch_42 : decode prog_14_method_6_code 42 = .ok (.getfield 62, 3) := by decide +kernel
theorem d_Mo_copyBranch_45 : decode prog_14_method_6_code 45 = .ok (.iload_n 1, 1) := by decide +kernel
theorem d_Mo_copyBranch_46 : decode prog_14_method_6_code 46 = .ok (.iaload, 1) := by decide +kernel
theorem d_Mo_copyBranch_47 : decode prog_14_method_6_code 47 = .ok (.iastore, 1) := by decide +kernel
theorem d_Mo_copyBranch_48 : decode prog_14_method_6_code 48 = .ok (.aload_n 0, 1) := by decide +kernel
theorem d_Mo_copyBranch_49 : decode prog_14_method_6_code 49 = .ok (.getfield 65, 3) := by decide +kernel
theorem wF_NumberOfficeModel_65_14 : zFl "NumberOfficeModel" 65 14 19 := ⟨"NumberOfficeModel", zR_NumberOfficeModel, zF_NumberOfficeModel, 40, rfl, zin_NumberOfficeModel, by decide, ztb_of 1190 (by decide +kernel) rfl, Or.inl rfl⟩
theorem d_Mo_copyBranch_52 : decode prog_14_method_6_code 52 = .ok (.iload_n 2, 1) := by decide +kernel
theorem d_Mo_copyBranch_53 : decode prog_14_method_6_code 53 = .ok (.aload_n 0, 1) := by decide +kernel
theorem d_Mo_copyBranch_54 : decode prog_14_method_6_code 54 = .ok (.getfield 65, 3) := by decide +kernel
theorem d_Mo_copyBranch_57 : decode prog_14_method_6_code 57 = .ok (.iload_n 1, 1) := by decide +kernel
theorem d_Mo_copyBranch_58 : decode prog_14_method_6_code 58 = .ok (.baload, 1) := by decide +kernel
theorem d_Mo_copyBranch_59 : decode prog_14_method_6_code 59 = .ok (.bastore, 1) := by decide +kernel
theorem d_Mo_copyBranch_60 : decode prog_14_method_6_code 60 = .ok (.aload_n 0, 1) := by decide +kernel
theorem d_Mo_copyBranch_61 : decode prog_14_method_6_code 61 = .ok (.getfield 68, 3) := by decide +kernel
theorem wF_NumberOfficeModel_68_14 : zFl "NumberOfficeModel" 68 14 20 := ⟨"NumberOfficeModel", zR_NumberOfficeModel, zF_NumberOfficeModel, 40, rfl, zin_NumberOfficeModel, by decide, ztb_of 1191 (by decide +kernel) rfl, Or.inl rfl⟩
theorem d_Mo_copyBranch_64 : decode prog_14_method_6_code 64 = .ok (.iload_n 2, 1) := by decide +kernel
theorem d_Mo_copyBranch_65 : decode prog_14_method_6_code 65 = .ok (.aload_n 0, 1) := by decide +kernel
theorem d_Mo_copyBranch_66 : decode prog_14_method_6_code 66 = .ok (.getfield 68, 3) := by decide +kernel
theorem d_Mo_copyBranch_69 : decode prog_14_method_6_code 69 = .ok (.iload_n 1, 1) := by decide +kernel
theorem d_Mo_copyBranch_70 : decode prog_14_method_6_code 70 = .ok (.baload, 1) := by decide +kernel
theorem d_Mo_copyBranch_71 : decode prog_14_method_6_code 71 = .ok (.bastore, 1) := by decide +kernel
theorem d_Mo_copyBranch_72 : decode prog_14_method_6_code 72 = .ok (.iconst 0, 1) := by decide +kernel
theorem d_Mo_copyBranch_73 : decode prog_14_method_6_code 73 = .ok (.istore_n 3, 1) := by decide +kernel
theorem d_Mo_copyBranch_74 : decode prog_14_method_6_code 74 = .ok (.iload_n 3, 1) := by decide +kernel
theorem d_Mo_copyBranch_75 : decode prog_14_method_6_code 75 = .ok (.iconst 3, 1) := by decide +kernel
theorem d_Mo_copyBranch_76 : decode prog_14_method_6_code 76 = .ok (.if_icmp .ge 23, 3) := by decide +kernel
theorem d_Mo_copyBranch_99 : decode prog_14_method_6_code 99 = .ok (.return_, 1) := by decide +kernel
theorem d_Mo_copyBranch_79 : decode prog_14_method_6_code 79 = .ok (.aload_n 0, 1) := by decide +kernel
theorem d_Mo_copyBranch_80 : decode prog_14_method_6_code 80 = .ok (.iconst 3, 1) := by decide +kernel
theorem d_Mo_copyBranch_81 : decode prog_14_method_6_code 81 = .ok (.iload_n 1, 1) := by decide +kernel
theorem d_Mo_copyBranch_82 : decode prog_14_method_6_code 82 = .ok (.imul, 1) := by decide +kernel
theorem d_Mo_copyBranch_83 : decode prog_14_method_6_code 83 = .ok (.iload_n 3, 1) := by decide +kernel
theorem d_Mo_copyBranch_84 : decode prog_14_method_6_code 84 = .ok (.iadd, 1) := by decide +kernel
theorem d_Mo_copyBranch_85 : decode prog_14_method_6_code 85 = .ok (.iconst 3, 1) := by decide +kernel
theorem d_Mo_copyBranch_86 : decode prog_14_method_6_code 86 = .ok (.iload_n 2, 1) := by decide +kernel
theorem d_Mo_copyBranch_87 : decode prog_14_method_6_code 87 = .ok (.imul, 1) := by decide +kernel
theorem d_Mo_copyBranch_88 : decode prog_14_method_6_code 88 = .ok (.iload_n 3, 1) := by decide +kernel
theorem d_Mo_copyBranch_89 : decode prog_14_method_6_code 89 = .ok (.iadd, 1) := by decide +kernel
theorem d_Mo_copyBranch_90 : decode prog_14_method_6_code 90 = .ok (.invokevirtual 123, 3) := by decide +kernel
abbrev Y_Mo_copyBook : MethodName := ⟨"NumberOfficeModel", "copyBook", "(II)V"⟩
abbrev K_Mo_copyBook : zM := (prog_14_method_5_code, 4, "NumberOfficeModel", none, false, [])
theorem d_Mo_copyBook_0 : decode prog_14_method_5_code 0 = .ok (.aload_n 0, 1) := by decide +kernel
theorem d_Mo_copyBook_1 : decode prog_14_method_5_code 1 = .ok (.getfield 13, 3) := by decide +kernel
theorem d_Mo_copyBook_4 : decode prog_14_method_5_code 4 = .ok (.iload_n 2, 1) := by decide +kernel
theorem d_Mo_copyBook_5 : decode prog_14_method_5_code 5 = .ok (.aload_n 0, 1) := by decide +kernel
theorem d_Mo_copyBook_6 : decode prog_14_method_5_code 6 = .ok (.getfield 13, 3) := by decide +kernel
theorem d_Mo_copyBook_9 : decode prog_14_method_5_code 9 = .ok (.iload_n 1, 1) := by decide +kernel
theorem d_Mo_copyBook_10 : decode prog_14_method_5_code 10 = .ok (.iaload, 1) := by decide +kernel
theorem d_Mo_copyBook_11 : decode prog_14_method_5_code 11 = .ok (.iastore, 1) := by decide +kernel
theorem d_Mo_copyBook_12 : decode prog_14_method_5_code 12 = .ok (.aload_n 0, 1) := by decide +kernel
theorem d_Mo_copyBook_13 : decode prog_14_method_5_code 13 = .ok (.getfield 17, 3) := by decide +kernel
theorem d_Mo_copyBook_16 : decode prog_14_method_5_code 16 = .ok (.iload_n 2, 1) := by decide +kernel
theorem d_Mo_copyBook_17 : decode prog_14_method_5_code 17 = .ok (.aload_n 0, 1) := by decide +kernel
theorem d_Mo_copyBook_18 : decode prog_14_method_5_code 18 = .ok (.getfield 17, 3) := by decide +kernel
theorem d_Mo_copyBook_21 : decode prog_14_method_5_code 21 = .ok (.iload_n 1, 1) := by decide +kernel
theorem d_Mo_copyBook_22 : decode prog_14_method_5_code 22 = .ok (.iaload, 1) := by decide +kernel
theorem d_Mo_copyBook_23 : decode prog_14_method_5_code 23 = .ok (.iastore, 1) := by decide +kernel
theorem d_Mo_copyBook_24 : decode prog_14_method_5_code 24 = .ok (.aload_n 0, 1) := by decide +kernel
theorem d_Mo_copyBook_25 : decode prog_14_method_5_code 25 = .ok (.getfield 20, 3) := by decide +kernel
theorem d_Mo_copyBook_28 : decode prog_14_method_5_code 28 = .ok (.iload_n 2, 1) := by decide +kernel
theorem d_Mo_copyBook_29 : decode prog_14_method_5_code 29 = .ok (.aload_n 0, 1) := by decide +kernel
theorem d_Mo_copyBook_30 : decode prog_14_method_5_code 30 = .ok (.getfield 20, 3) := by decide +kernel
theorem d_Mo_copyBook_33 : decode prog_14_method_5_code 33 = .ok (.iload_n 1, 1) := by decide +kernel
theorem d_Mo_copyBook_34 : decode prog_14_method_5_code 34 = .ok (.iaload, 1) := by decide +kernel
theorem d_Mo_copyBook_35 : decode prog_14_method_5_code 35 = .ok (.iastore, 1) := by decide +kernel
theorem d_Mo_copyBook_36 : decode prog_14_method_5_code 36 = .ok (.aload_n 0, 1) := by decide +kernel
theorem d_Mo_copyBook_37 : decode prog_14_method_5_code 37 = .ok (.getfield 23, 3) := by decide +kernel
theorem wF_NumberOfficeModel_23_14 : zFl "NumberOfficeModel" 23 14 6 := ⟨"NumberOfficeModel", zR_NumberOfficeModel, zF_NumberOfficeModel, 40, rfl, zin_NumberOfficeModel, by decide, ztb_of 1177 (by decide +kernel) rfl, Or.inl rfl⟩
theorem d_Mo_copyBook_40 : decode prog_14_method_5_code 40 = .ok (.iload_n 2, 1) := by decide +kernel
theorem d_Mo_copyBook_41 : decode prog_14_method_5_code 41 = .ok (.aload_n 0, 1) := by decide +kernel
theorem d_Mo_copyBook_42 : decode prog_14_method_5_code 42 = .ok (.getfield 23, 3) := by decide +kernel
theorem d_Mo_copyBook_45 : decode prog_14_method_5_code 45 = .ok (.iload_n 1, 1) := by decide +kernel
theorem d_Mo_copyBook_46 : decode prog_14_method_5_code 46 = .ok (.iaload, 1) := by decide +kernel
theorem d_Mo_copyBook_47 : decode prog_14_method_5_code 47 = .ok (.iastore, 1) := by decide +kernel
theorem d_Mo_copyBook_48 : decode prog_14_method_5_code 48 = .ok (.aload_n 0, 1) := by decide +kernel
theorem d_Mo_copyBook_49 : decode prog_14_method_5_code 49 = .ok (.getfield 26, 3) := by decide +kernel
theorem wF_NumberOfficeModel_26_14 : zFl "NumberOfficeModel" 26 14 7 := ⟨"NumberOfficeModel", zR_NumberOfficeModel, zF_NumberOfficeModel, 40, rfl, zin_NumberOfficeModel, by decide, ztb_of 1178 (by decide +kernel) rfl, Or.inl rfl⟩
theorem d_Mo_copyBook_52 : decode prog_14_method_5_code 52 = .ok (.iload_n 2, 1) := by decide +kernel
theorem d_Mo_copyBook_53 : decode prog_14_method_5_code 53 = .ok (.aload_n 0, 1) := by decide +kernel
theorem d_Mo_copyBook_54 : decode prog_14_method_5_code 54 = .ok (.getfield 26, 3) := by decide +kernel
theorem d_Mo_copyBook_57 : decode prog_14_method_5_code 57 = .ok (.iload_n 1, 1) := by decide +kernel
theorem d_Mo_copyBook_58 : decode prog_14_method_5_code 58 = .ok (.iaload, 1) := by decide +kernel
theorem d_Mo_copyBook_59 : decode prog_14_method_5_code 59 = .ok (.iastore, 1) := by decide +kernel
theorem d_Mo_copyBook_60 : decode prog_14_method_5_code 60 = .ok (.iconst 0, 1) := by decide +kernel
theorem d_Mo_copyBook_61 : decode prog_14_method_5_code 61 = .ok (.istore_n 3, 1) := by decide +kernel
theorem d_Mo_copyBook_62 : decode prog_14_method_5_code 62 = .ok (.iload_n 3, 1) := by decide +kernel
theorem d_Mo_copyBook_63 : decode prog_14_method_5_code 63 = .ok (.aload_n 0, 1) := by decide +kernel
theorem d_Mo_copyBook_64 : decode prog_14_method_5_code 64 = .ok (.getfield 13, 3) := by decide +kernel
theorem d_Mo_copyBook_67 : decode prog_14_method_5_code 67 = .ok (.iload_n 1, 1) := by decide +kernel
theorem d_Mo_copyBook_68 : decode prog_14_method_5_code 68 = .ok (.iaload, 1) := by decide +kernel
theorem d_Mo_copyBook_69 : decode prog_14_method_5_code 69 = .ok (.if_icmp .ge 153, 3) := by decide +kernel
theorem d_Mo_copyBook_222 : decode prog_14_method_5_code 222 = .ok (.iconst 0, 1) := by decide +kernel
theorem d_Mo_copyBook_223 : decode prog_14_method_5_code 223 = .ok (.istore_n 3, 1) := by decide +kernel
theorem d_Mo_copyBook_72 : decode prog_14_method_5_code 72 = .ok (.aload_n 0, 1) := by decide +kernel
theorem d_Mo_copyBook_73 : decode prog_14_method_5_code 73 = .ok (.getfield 29, 3) := by decide +kernel
theorem wF_NumberOfficeModel_29_14 : zFl "NumberOfficeModel" 29 14 8 := ⟨"NumberOfficeModel", zR_NumberOfficeModel, zF_NumberOfficeModel, 40, rfl, zin_NumberOfficeModel, by decide, ztb_of 1179 (by decide +kernel) rfl, Or.inl rfl⟩
theorem d_Mo_copyBook_76 : decode prog_14_method_5_code 76 = .ok (.sipush 300, 3) := by decide +kernel
theorem d_Mo_copyBook_79 : decode prog_14_method_5_code 79 = .ok (.iload_n 2, 1) := by decide +kernel
theorem d_Mo_copyBook_80 : decode prog_14_method_5_code 80 = .ok (.imul, 1) := by decide +kernel
theorem d_Mo_copyBook_81 : decode prog_14_method_5_code 81 = .ok (.iload_n 3, 1) := by decide +kernel
theorem d_Mo_copyBook_82 : decode prog_14_method_5_code 82 = .ok (.iadd, 1) := by decide +kernel
theorem d_Mo_copyBook_83 : decode prog_14_method_5_code 83 = .ok (.aload_n 0, 1) := by decide +kernel
theorem d_Mo_copyBook_84 : decode prog_14_method_5_code 84 = .ok (.getfield 29, 3) := by decide +kernel
theorem d_Mo_copyBook_87 : decode prog_14_method_5_code 87 = .ok (.sipush 300, 3) := by decide +kernel
theorem d_Mo_copyBook_90 : decode prog_14_method_5_code 90 = .ok (.iload_n 1, 1) := by decide +kernel
theorem d_Mo_copyBook_91 : decode prog_14_method_5_code 91 = .ok (.imul, 1) := by decide +kernel
theorem d_Mo_copyBook_92 : decode prog_14_method_5_code 92 = .ok (.iload_n 3, 1) := by decide +kernel
theorem d_Mo_copyBook_93 : decode prog_14_method_5_code 93 = .ok (.iadd, 1) := by decide +kernel
theorem d_Mo_copyBook_94 : decode prog_14_method_5_code 94 = .ok (.saload, 1) := by decide +kernel
theorem d_Mo_copyBook_95 : decode prog_14_method_5_code 95 = .ok (.sastore, 1) := by decide +kernel
theorem d_Mo_copyBook_96 : decode prog_14_method_5_code 96 = .ok (.aload_n 0, 1) := by decide +kernel
theorem d_Mo_copyBook_97 : decode prog_14_method_5_code 97 = .ok (.getfield 33, 3) := by decide +kernel
theorem d_Mo_copyBook_100 : decode prog_14_method_5_code 100 = .ok (.sipush 300, 3) := by decide +kernel
theorem d_Mo_copyBook_103 : decode prog_14_method_5_code 103 = .ok (.iload_n 2, 1) := by decide +kernel
theorem d_Mo_copyBook_104 : decode prog_14_method_5_code 104 = .ok (.imul, 1) := by decide +kernel
theorem d_Mo_copyBook_105 : decode prog_14_method_5_code 105 = .ok (.iload_n 3, 1) := by decide +kernel
theorem d_Mo_copyBook_106 : decode prog_14_method_5_code 106 = .ok (.iadd, 1) := by decide +kernel
theorem d_Mo_copyBook_107 : decode prog_14_method_5_code 107 = .ok (.aload_n 0, 1) := by decide +kernel
theorem d_Mo_copyBook_108 : decode prog_14_method_5_code 108 = .ok (.getfield 33, 3) := by decide +kernel
theorem d_Mo_copyBook_111 : decode prog_14_method_5_code 111 = .ok (.sipush 300, 3) := by decide +kernel
theorem d_Mo_copyBook_114 : decode prog_14_method_5_code 114 = .ok (.iload_n 1, 1) := by decide +kernel
theorem d_Mo_copyBook_115 : decode prog_14_method_5_code 115 = .ok (.imul, 1) := by decide +kernel
theorem d_Mo_copyBook_116 : decode prog_14_method_5_code 116 = .ok (.iload_n 3, 1) := by decide +kernel
theorem d_Mo_copyBook_117 : decode prog_14_method_5_code 117 = .ok (.iadd, 1) := by decide +kernel
theorem d_Mo_copyBook_118 : decode prog_14_method_5_code 118 = .ok (.saload, 1) := by decide +kernel
theorem d_Mo_copyBook_119 : decode prog_14_method_5_code 119 = .ok (.sastore, 1) := by decide +kernel
theorem d_Mo_copyBook_120 : decode prog_14_method_5_code 120 = .ok (.aload_n 0, 1) := by decide +kernel
theorem d_Mo_copyBook_121 : decode prog_14_method_5_code 121 = .ok (.getfield 36, 3) := by decide +kernel
theorem wF_NumberOfficeModel_36_14 : zFl "NumberOfficeModel" 36 14 10 := ⟨"NumberOfficeModel", zR_NumberOfficeModel, zF_NumberOfficeModel, 40, rfl, zin_NumberOfficeModel, by decide, ztb_of 1181 (by decide +kernel) rfl, Or.inl rfl⟩
theorem d_Mo_copyBook_124 : decode prog_14_method_5_code 124 = .ok (.sipush 300, 3) := by decide +kernel
theorem d_Mo_copyBook_127 : decode prog_14_method_5_code 127 = .ok (.iload_n 2, 1) := by decide +kernel
theorem d_Mo_copyBook_128 : decode prog_14_method_5_code 128 = .ok (.imul, 1) := by decide +kernel
theorem d_Mo_copyBook_129 : decode prog_14_method_5_code 129 = .ok (.iload_n 3, 1) := by decide +kernel
theorem d_Mo_copyBook_130 : decode prog_14_method_5_code 130 = .ok (.iadd, 1) := by decide +kernel
theorem d_Mo_copyBook_131 : decode prog_14_method_5_code 131 = .ok (.aload_n 0, 1) := by decide +kernel
theorem d_Mo_copyBook_132 : decode prog_14_method_5_code 132 = .ok (.getfield 36, 3) := by decide +kernel
theorem d_Mo_copyBook_135 : decode prog_14_method_5_code 135 = .ok (.sipush 300, 3) := by decide +kernel
theorem d_Mo_copyBook_138 : decode prog_14_method_5_code 138 = .ok (.iload_n 1, 1) := by decide +kernel
theorem d_Mo_copyBook_139 : decode prog_14_method_5_code 139 = .ok (.imul, 1) := by decide +kernel
theorem d_Mo_copyBook_140 : decode prog_14_method_5_code 140 = .ok (.iload_n 3, 1) := by decide +kernel
theorem d_Mo_copyBook_141 : decode prog_14_method_5_code 141 = .ok (.iadd, 1) := by decide +kernel
theorem d_Mo_copyBook_142 : decode prog_14_method_5_code 142 = .ok (.baload, 1) := by decide +kernel
theorem d_Mo_copyBook_143 : decode prog_14_method_5_code 143 = .ok (.bastore, 1) := by decide +kernel
theorem d_Mo_copyBook_144 : decode prog_14_method_5_code 144 = .ok (.aload_n 0, 1) := by decide +kernel
theorem d_Mo_copyBook_145 : decode prog_14_method_5_code 145 = .ok (.getfield 40, 3) := by decide +kernel
theorem wF_NumberOfficeModel_40_14 : zFl "NumberOfficeModel" 40 14 11 := ⟨"NumberOfficeModel", zR_NumberOfficeModel, zF_NumberOfficeModel, 40, rfl, zin_NumberOfficeModel, by decide, ztb_of 1182 (by decide +kernel) rfl, Or.inl rfl⟩
theorem d_Mo_copyBook_148 : decode prog_14_method_5_code 148 = .ok (.sipush 300, 3) := by decide +kernel
theorem d_Mo_copyBook_151 : decode prog_14_method_5_code 151 = .ok (.iload_n 2, 1) := by decide +kernel
theorem d_Mo_copyBook_152 : decode prog_14_method_5_code 152 = .ok (.imul, 1) := by decide +kernel
theorem d_Mo_copyBook_153 : decode prog_14_method_5_code 153 = .ok (.iload_n 3, 1) := by decide +kernel
theorem d_Mo_copyBook_154 : decode prog_14_method_5_code 154 = .ok (.iadd, 1) := by decide +kernel
theorem d_Mo_copyBook_155 : decode prog_14_method_5_code 155 = .ok (.aload_n 0, 1) := by decide +kernel
theorem d_Mo_copyBook_156 : decode prog_14_method_5_code 156 = .ok (.getfield 40, 3) := by decide +kernel
theorem d_Mo_copyBook_159 : decode prog_14_method_5_code 159 = .ok (.sipush 300, 3) := by decide +kernel
theorem d_Mo_copyBook_162 : decode prog_14_method_5_code 162 = .ok (.iload_n 1, 1) := by decide +kernel
theorem d_Mo_copyBook_163 : decode prog_14_method_5_code 163 = .ok (.imul, 1) := by decide +kernel
theorem d_Mo_copyBook_164 : decode prog_14_method_5_code 164 = .ok (.iload_n 3, 1) := by decide +kernel
theorem d_Mo_copyBook_165 : decode prog_14_method_5_code 165 = .ok (.iadd, 1) := by decide +kernel
theorem d_Mo_copyBook_166 : decode prog_14_method_5_code 166 = .ok (.laload, 1) := by decide +kernel
theorem d_Mo_copyBook_167 : decode prog_14_method_5_code 167 = .ok (.lastore, 1) := by decide +kernel
theorem d_Mo_copyBook_168 : decode prog_14_method_5_code 168 = .ok (.aload_n 0, 1) := by decide +kernel
theorem d_Mo_copyBook_169 : decode prog_14_method_5_code 169 = .ok (.getfield 44, 3) := by decide +kernel
theorem wF_NumberOfficeModel_44_14 : zFl "NumberOfficeModel" 44 14 12 := ⟨"NumberOfficeModel", zR_NumberOfficeModel, zF_NumberOfficeModel, 40, rfl, zin_NumberOfficeModel, by decide, ztb_of 1183 (by decide +kernel) rfl, Or.inl rfl⟩
theorem d_Mo_copyBook_172 : decode prog_14_method_5_code 172 = .ok (.sipush 300, 3) := by decide +kernel
theorem d_Mo_copyBook_175 : decode prog_14_method_5_code 175 = .ok (.iload_n 2, 1) := by decide +kernel
theorem d_Mo_copyBook_176 : decode prog_14_method_5_code 176 = .ok (.imul, 1) := by decide +kernel
theorem d_Mo_copyBook_177 : decode prog_14_method_5_code 177 = .ok (.iload_n 3, 1) := by decide +kernel
theorem d_Mo_copyBook_178 : decode prog_14_method_5_code 178 = .ok (.iadd, 1) := by decide +kernel
theorem d_Mo_copyBook_179 : decode prog_14_method_5_code 179 = .ok (.aload_n 0, 1) := by decide +kernel
theorem d_Mo_copyBook_180 : decode prog_14_method_5_code 180 = .ok (.getfield 44, 3) := by decide +kernel
theorem d_Mo_copyBook_183 : decode prog_14_method_5_code 183 = .ok (.sipush 300, 3) := by decide +kernel
theorem d_Mo_copyBook_186 : decode prog_14_method_5_code 186 = .ok (.iload_n 1, 1) := by decide +kernel
theorem d_Mo_copyBook_187 : decode prog_14_method_5_code 187 = .ok (.imul, 1) := by decide +kernel
theorem d_Mo_copyBook_188 : decode prog_14_method_5_code 188 = .ok (.iload_n 3, 1) := by decide +kernel
theorem d_Mo_copyBook_189 : decode prog_14_method_5_code 189 = .ok (.iadd, 1) := by decide +kernel
theorem d_Mo_copyBook_190 : decode prog_14_method_5_code 190 = .ok (.iaload, 1) := by decide +kernel
theorem d_Mo_copyBook_191 : decode prog_14_method_5_code 191 = .ok (.iastore, 1) := by decide +kernel
theorem d_Mo_copyBook_192 : decode prog_14_method_5_code 192 = .ok (.aload_n 0, 1) := by decide +kernel
theorem d_Mo_copyBook_193 : decode prog_14_method_5_code 193 = .ok (.getfield 47, 3) := by decide +kernel
theorem wF_NumberOfficeModel_47_14 : zFl "NumberOfficeModel" 47 14 13 := ⟨"NumberOfficeModel", zR_NumberOfficeModel, zF_NumberOfficeModel, 40, rfl, zin_NumberOfficeModel, by decide, ztb_of 1184 (by decide +kernel) rfl, Or.inl rfl⟩
theorem d_Mo_copyBook_196 : decode prog_14_method_5_code 196 = .ok (.sipush 300, 3) := by decide +kernel
theorem d_Mo_copyBook_199 : decode prog_14_method_5_code 199 = .ok (.iload_n 2, 1) := by decide +kernel
theorem d_Mo_copyBook_200 : decode prog_14_method_5_code 200 = .ok (.imul, 1) := by decide +kernel
theorem d_Mo_copyBook_201 : decode prog_14_method_5_code 201 = .ok (.iload_n 3, 1) := by decide +kernel
theorem d_Mo_copyBook_202 : decode prog_14_method_5_code 202 = .ok (.iadd, 1) := by decide +kernel
theorem d_Mo_copyBook_203 : decode prog_14_method_5_code 203 = .ok (.aload_n 0, 1) := by decide +kernel
theorem d_Mo_copyBook_204 : decode prog_14_method_5_code 204 = .ok (.getfield 47, 3) := by decide +kernel
theorem d_Mo_copyBook_207 : decode prog_14_method_5_code 207 = .ok (.sipush 300, 3) := by decide +kernel
theorem d_Mo_copyBook_210 : decode prog_14_method_5_code 210 = .ok (.iload_n 1, 1) := by decide +kernel
theorem d_Mo_copyBook_211 : decode prog_14_method_5_code 211 = .ok (.imul, 1) := by decide +kernel
theorem d_Mo_copyBook_212 : decode prog_14_method_5_code 212 = .ok (.iload_n 3, 1) := by decide +kernel
theorem d_Mo_copyBook_213 : decode prog_14_method_5_code 213 = .ok (.iadd, 1) := by decide +kernel
theorem d_Mo_copyBook_214 : decode prog_14_method_5_code 214 = .ok (.baload, 1) := by decide +kernel
theorem d_Mo_copyBook_215 : decode prog_14_method_5_code 215 = .ok (.bastore, 1) := by decide +kernel
theorem d_Mo_copyBook_216 : decode prog_14_method_5_code 216 = .ok (.iinc 3 1, 3) := by decide +kernel
theorem d_Mo_copyBook_219 : decode prog_14_method_5_code 219 = .ok (.goto (-157), 3) := by decide +kernel
theorem d_Mo_copyBook_224 : decode prog_14_method_5_code 224 = .ok (.iload_n 3, 1) := by decide +kernel
theorem d_Mo_copyBook_225 : decode prog_14_method_5_code 225 = .ok (.aload_n 0, 1) := by decide +kernel
theorem d_Mo_copyBook_226 : decode prog_14_method_5_code 226 = .ok (.getfield 23, 3) := by decide +kernel
theorem d_Mo_copyBook_229 : decode prog_14_method_5_code 229 = .ok (.iload_n 1, 1) := by decide +kernel
theorem d_Mo_copyBook_230 : decode prog_14_method_5_code 230 = .ok (.iaload, 1) := by decide +kernel
theorem d_Mo_copyBook_231 : decode prog_14_method_5_code 231 = .ok (.if_icmp .ge 33, 3) := by decide +kernel
theorem d_Mo_copyBook_264 : decode prog_14_method_5_code 264 = .ok (.return_, 1) := by decide +kernel
theorem d_Mo_copyBook_234 : decode prog_14_method_5_code 234 = .ok (.aload_n 0, 1) := by decide +kernel
theorem d_Mo_copyBook_235 : decode prog_14_method_5_code 235 = .ok (.getfield 50, 3) := by decide +kernel
theorem wF_NumberOfficeModel_50_14 : zFl "NumberOfficeModel" 50 14 14 := ⟨"NumberOfficeModel", zR_NumberOfficeModel, zF_NumberOfficeModel, 40, rfl, zin_NumberOfficeModel, by decide, ztb_of 1185 (by decide +kernel) rfl, Or.inl rfl⟩
theorem d_Mo_copyBook_238 : decode prog_14_method_5_code 238 = .ok (.sipush 600, 3) := by decide +kernel
theorem d_Mo_copyBook_241 : decode prog_14_method_5_code 241 = .ok (.iload_n 2, 1) := by decide +kernel
theorem d_Mo_copyBook_242 : decode prog_14_method_5_code 242 = .ok (.imul, 1) := by decide +kernel
theorem d_Mo_copyBook_243 : decode prog_14_method_5_code 243 = .ok (.iload_n 3, 1) := by decide +kernel
theorem d_Mo_copyBook_244 : decode prog_14_method_5_code 244 = .ok (.iadd, 1) := by decide +kernel
theorem d_Mo_copyBook_245 : decode prog_14_method_5_code 245 = .ok (.aload_n 0, 1) := by decide +kernel
theorem d_Mo_copyBook_246 : decode prog_14_method_5_code 246 = .ok (.getfield 50, 3) := by decide +kernel
theorem d_Mo_copyBook_249 : decode prog_14_method_5_code 249 = .ok (.sipush 600, 3) := by decide +kernel
theorem d_Mo_copyBook_252 : decode prog_14_method_5_code 252 = .ok (.iload_n 1, 1) := by decide +kernel
theorem d_Mo_copyBook_253 : decode prog_14_method_5_code 253 = .ok (.imul, 1) := by decide +kernel
theorem d_Mo_copyBook_254 : decode prog_14_method_5_code 254 = .ok (.iload_n 3, 1) := by decide +kernel
theorem d_Mo_copyBook_255 : decode prog_14_method_5_code 255 = .ok (.iadd, 1) := by decide +kernel
theorem d_Mo_copyBook_256 : decode prog_14_method_5_code 256 = .ok (.saload, 1) := by decide +kernel
theorem d_Mo_copyBook_257 : decode prog_14_method_5_code 257 = .ok (.sastore, 1) := by decide +kernel
theorem d_Mo_copyBook_258 : decode prog_14_method_5_code 258 = .ok (.iinc 3 1, 3) := by decide +kernel
theorem d_Mo_copyBook_261 : decode prog_14_method_5_code 261 = .ok (.goto (-37), 3) := by decide +kernel
abbrev Y_Mo_send : MethodName := ⟨"NumberOfficeModel", "send", "(IIIIIII)V"⟩
abbrev K_Mo_send : zM := (prog_14_method_9_code, 8, "NumberOfficeModel", none, false, [])
theorem d_Mo_send_0 : decode prog_14_method_9_code 0 = .ok (.aload_n 0, 1) := by decide +kernel
theorem d_Mo_send_1 : decode prog_14_method_9_code 1 = .ok (.getfield 133, 3) := by decide +kernel
theorem wF_NumberOfficeModel_133_14 : zFl "NumberOfficeModel" 133 14 34 := ⟨"NumberOfficeModel", zR_NumberOfficeModel, zF_NumberOfficeModel, 40, rfl, zin_NumberOfficeModel, by decide, ztb_of 1205 (by decide +kernel) rfl, Or.inl rfl⟩
theorem d_Mo_send_4 : decode prog_14_method_9_code 4 = .ok (.bipush 64, 2) := by decide +kernel
theorem d_Mo_send_6 : decode prog_14_method_9_code 6 = .ok (.if_icmp .ge 121, 3) := by decide +kernel
theorem d_Mo_send_9 : decode prog_14_method_9_code 9 = .ok (.aload_n 0, 1) := by decide +kernel
theorem d_Mo_send_10 : decode prog_14_method_9_code 10 = .ok (.getfield 110, 3) := by decide +kernel
theorem wF_NumberOfficeModel_110_14 : zFl "NumberOfficeModel" 110 14 35 := ⟨"NumberOfficeModel", zR_NumberOfficeModel, zF_NumberOfficeModel, 40, rfl, zin_NumberOfficeModel, by decide, ztb_of 1206 (by decide +kernel) rfl, Or.inl rfl⟩
theorem d_Mo_send_13 : decode prog_14_method_9_code 13 = .ok (.bipush 8, 2) := by decide +kernel
theorem d_Mo_send_15 : decode prog_14_method_9_code 15 = .ok (.aload_n 0, 1) := by decide +kernel
theorem d_Mo_send_16 : decode prog_14_method_9_code 16 = .ok (.getfield 133, 3) := by decide +kernel
theorem d_Mo_send_19 : decode prog_14_method_9_code 19 = .ok (.imul, 1) := by decide +kernel
theorem d_Mo_send_20 : decode prog_14_method_9_code 20 = .ok (.iload_n 1, 1) := by decide +kernel
theorem d_Mo_send_21 : decode prog_14_method_9_code 21 = .ok (.iastore, 1) := by decide +kernel
theorem d_Mo_send_22 : decode prog_14_method_9_code 22 = .ok (.aload_n 0, 1) := by decide +kernel
theorem d_Mo_send_23 : decode prog_14_method_9_code 23 = .ok (.getfield 110, 3) := by decide +kernel
theorem d_Mo_send_26 : decode prog_14_method_9_code 26 = .ok (.bipush 8, 2) := by decide +kernel
theorem d_Mo_send_28 : decode prog_14_method_9_code 28 = .ok (.aload_n 0, 1) := by decide +kernel
theorem d_Mo_send_29 : decode prog_14_method_9_code 29 = .ok (.getfield 133, 3) := by decide +kernel
theorem d_Mo_send_32 : decode prog_14_method_9_code 32 = .ok (.imul, 1) := by decide +kernel
theorem d_Mo_send_33 : decode prog_14_method_9_code 33 = .ok (.iconst 1, 1) := by decide +kernel
theorem d_Mo_send_34 : decode prog_14_method_9_code 34 = .ok (.iadd, 1) := by decide +kernel
theorem d_Mo_send_35 : decode prog_14_method_9_code 35 = .ok (.iload_n 2, 1) := by decide +kernel
theorem d_Mo_send_36 : decode prog_14_method_9_code 36 = .ok (.iastore, 1) := by decide +kernel
theorem d_Mo_send_37 : decode prog_14_method_9_code 37 = .ok (.aload_n 0, 1) := by decide +kernel
theorem d_Mo_send_38 : decode prog_14_method_9_code 38 = .ok (.getfield 110, 3) := by decide +kernel
theorem d_Mo_send_41 : decode prog_14_method_9_code 41 = .ok (.bipush 8, 2) := by decide +kernel
theorem d_Mo_send_43 : decode prog_14_method_9_code 43 = .ok (.aload_n 0, 1) := by decide +kernel
theorem d_Mo_send_44 : decode prog_14_method_9_code 44 = .ok (.getfield 133, 3) := by decide +kernel
theorem d_Mo_send_47 : decode prog_14_method_9_code 47 = .ok (.imul, 1) := by decide +kernel
theorem d_Mo_send_48 : decode prog_14_method_9_code 48 = .ok (.iconst 2, 1) := by decide +kernel
theorem d_Mo_send_49 : decode prog_14_method_9_code 49 = .ok (.iadd, 1) := by decide +kernel
theorem d_Mo_send_50 : decode prog_14_method_9_code 50 = .ok (.iload_n 3, 1) := by decide +kernel
theorem d_Mo_send_51 : decode prog_14_method_9_code 51 = .ok (.iastore, 1) := by decide +kernel
theorem d_Mo_send_52 : decode prog_14_method_9_code 52 = .ok (.aload_n 0, 1) := by decide +kernel
theorem d_Mo_send_53 : decode prog_14_method_9_code 53 = .ok (.getfield 110, 3) := by decide +kernel
theorem d_Mo_send_56 : decode prog_14_method_9_code 56 = .ok (.bipush 8, 2) := by decide +kernel
theorem d_Mo_send_58 : decode prog_14_method_9_code 58 = .ok (.aload_n 0, 1) := by decide +kernel
theorem d_Mo_send_59 : decode prog_14_method_9_code 59 = .ok (.getfield 133, 3) := by decide +kernel
theorem d_Mo_send_62 : decode prog_14_method_9_code 62 = .ok (.imul, 1) := by decide +kernel
theorem d_Mo_send_63 : decode prog_14_method_9_code 63 = .ok (.iconst 3, 1) := by decide +kernel
theorem d_Mo_send_64 : decode prog_14_method_9_code 64 = .ok (.iadd, 1) := by decide +kernel
theorem d_Mo_send_65 : decode prog_14_method_9_code 65 = .ok (.iload 4, 2) := by decide +kernel
theorem d_Mo_send_67 : decode prog_14_method_9_code 67 = .ok (.iastore, 1) := by decide +kernel
theorem d_Mo_send_68 : decode prog_14_method_9_code 68 = .ok (.aload_n 0, 1) := by decide +kernel
theorem d_Mo_send_69 : decode prog_14_method_9_code 69 = .ok (.getfield 110, 3) := by decide +kernel
theorem d_Mo_send_72 : decode prog_14_method_9_code 72 = .ok (.bipush 8, 2) := by decide +kernel
theorem d_Mo_send_74 : decode prog_14_method_9_code 74 = .ok (.aload_n 0, 1) := by decide +kernel
theorem d_Mo_send_75 : decode prog_14_method_9_code 75 = .ok (.getfield 133, 3) := by decide +kernel
theorem d_Mo_send_78 : decode prog_14_method_9_code 78 = .ok (.imul, 1) := by decide +kernel
theorem d_Mo_send_79 : decode prog_14_method_9_code 79 = .ok (.iconst 4, 1) := by decide +kernel
theorem d_Mo_send_80 : decode prog_14_method_9_code 80 = .ok (.iadd, 1) := by decide +kernel
theorem d_Mo_send_81 : decode prog_14_method_9_code 81 = .ok (.iload 5, 2) := by decide +kernel
theorem d_Mo_send_83 : decode prog_14_method_9_code 83 = .ok (.iastore, 1) := by decide +kernel
theorem d_Mo_send_84 : decode prog_14_method_9_code 84 = .ok (.aload_n 0, 1) := by decide +kernel
theorem d_Mo_send_85 : decode prog_14_method_9_code 85 = .ok (.getfield 110, 3) := by decide +kernel
theorem d_Mo_send_88 : decode prog_14_method_9_code 88 = .ok (.bipush 8, 2) := by decide +kernel
theorem d_Mo_send_90 : decode prog_14_method_9_code 90 = .ok (.aload_n 0, 1) := by decide +kernel
theorem d_Mo_send_91 : decode prog_14_method_9_code 91 = .ok (.getfield 133, 3) := by decide +kernel
theorem d_Mo_send_94 : decode prog_14_method_9_code 94 = .ok (.imul, 1) := by decide +kernel
theorem d_Mo_send_95 : decode prog_14_method_9_code 95 = .ok (.iconst 5, 1) := by decide +kernel
theorem d_Mo_send_96 : decode prog_14_method_9_code 96 = .ok (.iadd, 1) := by decide +kernel
theorem d_Mo_send_97 : decode prog_14_method_9_code 97 = .ok (.iload 6, 2) := by decide +kernel
theorem d_Mo_send_99 : decode prog_14_method_9_code 99 = .ok (.iastore, 1) := by decide +kernel
theorem d_Mo_send_100 : decode prog_14_method_9_code 100 = .ok (.aload_n 0, 1) := by decide +kernel
theorem d_Mo_send_101 : decode prog_14_method_9_code 101 = .ok (.getfield 110, 3) := by decide +kernel
theorem d_Mo_send_104 : decode prog_14_method_9_code 104 = .ok (.bipush 8, 2) := by decide +kernel
theorem d_Mo_send_106 : decode prog_14_method_9_code 106 = .ok (.aload_n 0, 1) := by decide +kernel
theorem d_Mo_send_107 : decode prog_14_method_9_code 107 = .ok (.getfield 133, 3) := by decide +kernel
theorem d_Mo_send_110 : decode prog_14_method_9_code 110 = .ok (.imul, 1) := by decide +kernel
theorem d_Mo_send_111 : decode prog_14_method_9_code 111 = .ok (.bipush 6, 2) := by decide +kernel
theorem d_Mo_send_113 : decode prog_14_method_9_code 113 = .ok (.iadd, 1) := by decide +kernel
theorem d_Mo_send_114 : decode prog_14_method_9_code 114 = .ok (.iload 7, 2) := by decide +kernel
theorem d_Mo_send_116 : decode prog_14_method_9_code 116 = .ok (.iastore, 1) := by decide +kernel
theorem d_Mo_send_117 : decode prog_14_method_9_code 117 = .ok (.aload_n 0, 1) := by decide +kernel
theorem d_Mo_send_118 : decode prog_14_method_9_code 118 = .ok (.dup, 1) := by decide +kernel
theorem d_Mo_send_119 : decode prog_14_method_9_code 119 = .ok (.getfield 133, 3) := by decide +kernel
theorem d_Mo_send_122 : decode prog_14_method_9_code 122 = .ok (.iconst 1, 1) := by decide +kernel
theorem d_Mo_send_123 : decode prog_14_method_9_code 123 = .ok (.iadd, 1) := by decide +kernel
theorem d_Mo_send_124 : decode prog_14_method_9_code 124 = .ok (.putfield 133, 3) := by decide +kernel
theorem wP_NumberOfficeModel_133_14 : zPl "NumberOfficeModel" 133 14 34 (.int) false := ⟨"NumberOfficeModel", zR_NumberOfficeModel, zF_NumberOfficeModel, 40, zY_NumberOfficeModel, rfl, zin_NumberOfficeModel, by decide, ztb_of 1205 (by decide +kernel) rfl, Or.inl rfl, zYok_NumberOfficeModel, zN_NumberOfficeModel, rfl, (fun h => by cases h), by decide +kernel⟩
theorem d_Mo_send_127 : decode prog_14_method_9_code 127 = .ok (.return_, 1) := by decide +kernel
abbrev Y_Mo_report : MethodName := ⟨"NumberOfficeModel", "report", "(II)I"⟩
abbrev K_Mo_report : zM := (prog_14_method_22_code, 4, "NumberOfficeModel", (some .int), false, [])
theorem d_Mo_report_0 : decode prog_14_method_22_code 0 = .ok (.aload_n 0, 1) := by decide +kernel
theorem d_Mo_report_1 : decode prog_14_method_22_code 1 = .ok (.iload_n 1, 1) := by decide +kernel
theorem d_Mo_report_2 : decode prog_14_method_22_code 2 = .ok (.invokevirtual 166, 3) := by decide +kernel
abbrev Y_Mo_again : MethodName := ⟨"NumberOfficeModel", "again", "(I)Z"⟩
abbrev K_Mo_again : zM := (prog_14_method_23_code, 2, "NumberOfficeModel", (some .boolean), false, [])
theorem d_Mo_again_0 : decode prog_14_method_23_code 0 = .ok (.aload_n 0, 1) := by decide +kernel
theorem d_Mo_again_1 : decode prog_14_method_23_code 1 = .ok (.iconst 0, 1) := by decide +kernel
theorem d_Mo_again_2 : decode prog_14_method_23_code 2 = .ok (.putfield 120, 3) := by decide +kernel
theorem d_Mo_again_5 : decode prog_14_method_23_code 5 = .ok (.aload_n 0, 1) := by decide +kernel
theorem d_Mo_again_6 : decode prog_14_method_23_code 6 = .ok (.iload_n 1, 1) := by decide +kernel
theorem d_Mo_again_7 : decode prog_14_method_23_code 7 = .ok (.invokevirtual 163, 3) := by decide +kernel
theorem wV_NumberOfficeModel_163 : zVl "NumberOfficeModel" 163 14 Y_Mo_isBranch K_Mo_isBranch 1 := ⟨zR_NumberOfficeModel, zF_NumberOfficeModel, 40, rfl, ztb_of 1312 (by decide +kernel) rfl, ztb_of 1314 (by decide +kernel) rfl, ztb_of 17 (by decide +kernel) rfl, ztb_of 53 (by decide +kernel) rfl, ztb_of 1315 (by decide +kernel) rfl, by decide, by decide +kernel⟩
theorem d_Mo_again_10 : decode prog_14_method_23_code 10 = .ok (.ifCond .eq 21, 3) := by decide +kernel
theorem d_Mo_again_13 : decode prog_14_method_23_code 13 = .ok (.aload_n 0, 1) := by decide +kernel
theorem d_Mo_again_14 : decode prog_14_method_23_code 14 = .ok (.getfield 7, 3) := by decide +kernel
theorem d_Mo_again_17 : decode prog_14_method_23_code 17 = .ok (.iload_n 1, 1) := by decide +kernel
theorem d_Mo_again_18 : decode prog_14_method_23_code 18 = .ok (.baload, 1) := by decide +kernel
theorem d_Mo_again_19 : decode prog_14_method_23_code 19 = .ok (.ifCond .ne 12, 3) := by decide +kernel
theorem d_Mo_again_22 : decode prog_14_method_23_code 22 = .ok (.aload_n 0, 1) := by decide +kernel
theorem d_Mo_again_23 : decode prog_14_method_23_code 23 = .ok (.getfield 65, 3) := by decide +kernel
theorem d_Mo_again_26 : decode prog_14_method_23_code 26 = .ok (.iload_n 1, 1) := by decide +kernel
theorem d_Mo_again_27 : decode prog_14_method_23_code 27 = .ok (.baload, 1) := by decide +kernel
theorem d_Mo_again_28 : decode prog_14_method_23_code 28 = .ok (.ifCond .ne 5, 3) := by decide +kernel
theorem d_Mo_again_33 : decode prog_14_method_23_code 33 = .ok (.aload_n 0, 1) := by decide +kernel
theorem d_Mo_again_34 : decode prog_14_method_23_code 34 = .ok (.iload_n 1, 1) := by decide +kernel
theorem d_Mo_again_35 : decode prog_14_method_23_code 35 = .ok (.invokevirtual 173, 3) := by decide +kernel
abbrev Y_Mo_invoice : MethodName := ⟨"NumberOfficeModel", "invoice", "(IIJI)I"⟩
abbrev K_Mo_invoice : zM := (prog_14_method_26_code, 8, "NumberOfficeModel", (some .int), false, [])
theorem d_Mo_invoice_0 : decode prog_14_method_26_code 0 = .ok (.aload_n 0, 1) := by decide +kernel
theorem d_Mo_invoice_1 : decode prog_14_method_26_code 1 = .ok (.iload_n 1, 1) := by decide +kernel
theorem d_Mo_invoice_2 : decode prog_14_method_26_code 2 = .ok (.invokevirtual 166, 3) := by decide +kernel
abbrev Y_Mo_tooEarly : MethodName := ⟨"NumberOfficeModel", "tooEarly", "(II)Z"⟩
abbrev K_Mo_tooEarly : zM := (prog_14_method_25_code, 5, "NumberOfficeModel", (some .boolean), false, [])
theorem d_Mo_tooEarly_0 : decode prog_14_method_25_code 0 = .ok (.aload_n 0, 1) := by decide +kernel
theorem d_Mo_tooEarly_1 : decode prog_14_method_25_code 1 = .ok (.getfield 17, 3) := by decide +kernel
theorem d_Mo_tooEarly_4 : decode prog_14_method_25_code 4 = .ok (.iload_n 1, 1) := by decide +kernel
theorem d_Mo_tooEarly_5 : decode prog_14_method_25_code 5 = .ok (.iaload, 1) := by decide +kernel
theorem d_Mo_tooEarly_6 : decode prog_14_method_25_code 6 = .ok (.istore_n 3, 1) := by decide +kernel
theorem d_Mo_tooEarly_7 : decode prog_14_method_25_code 7 = .ok (.iload_n 3, 1) := by decide +kernel
theorem d_Mo_tooEarly_8 : decode prog_14_method_25_code 8 = .ok (.iconst 1, 1) := by decide +kernel
theorem d_Mo_tooEarly_9 : decode prog_14_method_25_code 9 = .ok (.isub, 1) := by decide +kernel
theorem d_Mo_tooEarly_10 : decode prog_14_method_25_code 10 = .ok (.istore 4, 2) := by decide +kernel
theorem d_Mo_tooEarly_12 : decode prog_14_method_25_code 12 = .ok (.iload 4, 2) := by decide +kernel
theorem d_Mo_tooEarly_14 : decode prog_14_method_25_code 14 = .ok (.ifCond .lt 55, 3) := by decide +kernel
theorem d_Mo_tooEarly_17 : decode prog_14_method_25_code 17 = .ok (.aload_n 0, 1) := by decide +kernel
theorem d_Mo_tooEarly_18 : decode prog_14_method_25_code 18 = .ok (.getfield 33, 3) := by decide +kernel
theorem d_Mo_tooEarly_21 : decode prog_14_method_25_code 21 = .ok (.sipush 300, 3) := by decide +kernel
theorem d_Mo_tooEarly_24 : decode prog_14_method_25_code 24 = .ok (.iload_n 1, 1) := by decide +kernel
theorem d_Mo_tooEarly_25 : decode prog_14_method_25_code 25 = .ok (.imul, 1) := by decide +kernel
theorem d_Mo_tooEarly_26 : decode prog_14_method_25_code 26 = .ok (.iload 4, 2) := by decide +kernel
theorem d_Mo_tooEarly_28 : decode prog_14_method_25_code 28 = .ok (.iadd, 1) := by decide +kernel
theorem d_Mo_tooEarly_29 : decode prog_14_method_25_code 29 = .ok (.saload, 1) := by decide +kernel
theorem d_Mo_tooEarly_30 : decode prog_14_method_25_code 30 = .ok (.aload_n 0, 1) := by decide +kernel
theorem d_Mo_tooEarly_31 : decode prog_14_method_25_code 31 = .ok (.getfield 33, 3) := by decide +kernel
theorem d_Mo_tooEarly_34 : decode prog_14_method_25_code 34 = .ok (.sipush 300, 3) := by decide +kernel
theorem d_Mo_tooEarly_37 : decode prog_14_method_25_code 37 = .ok (.iload_n 1, 1) := by decide +kernel
theorem d_Mo_tooEarly_38 : decode prog_14_method_25_code 38 = .ok (.imul, 1) := by decide +kernel
theorem d_Mo_tooEarly_39 : decode prog_14_method_25_code 39 = .ok (.iload_n 3, 1) := by decide +kernel
theorem d_Mo_tooEarly_40 : decode prog_14_method_25_code 40 = .ok (.iadd, 1) := by decide +kernel
theorem d_Mo_tooEarly_41 : decode prog_14_method_25_code 41 = .ok (.saload, 1) := by decide +kernel
theorem d_Mo_tooEarly_42 : decode prog_14_method_25_code 42 = .ok (.if_icmp .ne 27, 3) := by decide +kernel
theorem d_Mo_tooEarly_45 : decode prog_14_method_25_code 45 = .ok (.aload_n 0, 1) := by decide +kernel
theorem d_Mo_tooEarly_46 : decode prog_14_method_25_code 46 = .ok (.getfield 40, 3) := by decide +kernel
theorem d_Mo_tooEarly_49 : decode prog_14_method_25_code 49 = .ok (.sipush 300, 3) := by decide +kernel
theorem d_Mo_tooEarly_52 : decode prog_14_method_25_code 52 = .ok (.iload_n 1, 1) := by decide +kernel
theorem d_Mo_tooEarly_53 : decode prog_14_method_25_code 53 = .ok (.imul, 1) := by decide +kernel
theorem d_Mo_tooEarly_54 : decode prog_14_method_25_code 54 = .ok (.iload 4, 2) := by decide +kernel
theorem d_Mo_tooEarly_56 : decode prog_14_method_25_code 56 = .ok (.iadd, 1) := by decide +kernel
theorem d_Mo_tooEarly_57 : decode prog_14_method_25_code 57 = .ok (.laload, 1) := by decide +kernel
theorem d_Mo_tooEarly_58 : decode prog_14_method_25_code 58 = .ok (.lconst 0, 1) := by decide +kernel
theorem d_Mo_tooEarly_59 : decode prog_14_method_25_code 59 = .ok (.lcmp, 1) := by decide +kernel
theorem d_Mo_tooEarly_60 : decode prog_14_method_25_code 60 = .ok (.ifCond .ne 9, 3) := by decide +kernel
theorem d_Mo_tooEarly_63 : decode prog_14_method_25_code 63 = .ok (.iinc 4 (-1), 3) := by decide +kernel
theorem d_Mo_tooEarly_66 : decode prog_14_method_25_code 66 = .ok (.goto (-54), 3) := by decide +kernel
theorem d_Mo_tooEarly_69 : decode prog_14_method_25_code 69 = .ok (.iload 4, 2) := by decide +kernel
theorem d_Mo_tooEarly_71 : decode prog_14_method_25_code 71 = .ok (.ifCond .lt 52, 3) := by decide +kernel
theorem d_Mo_tooEarly_74 : decode prog_14_method_25_code 74 = .ok (.aload_n 0, 1) := by decide +kernel
theorem d_Mo_tooEarly_75 : decode prog_14_method_25_code 75 = .ok (.getfield 33, 3) := by decide +kernel
theorem d_Mo_tooEarly_78 : decode prog_14_method_25_code 78 = .ok (.sipush 300, 3) := by decide +kernel
theorem d_Mo_tooEarly_81 : decode prog_14_method_25_code 81 = .ok (.iload_n 1, 1) := by decide +kernel
theorem d_Mo_tooEarly_82 : decode prog_14_method_25_code 82 = .ok (.imul, 1) := by decide +kernel
theorem d_Mo_tooEarly_83 : decode prog_14_method_25_code 83 = .ok (.iload 4, 2) := by decide +kernel
theorem d_Mo_tooEarly_85 : decode prog_14_method_25_code 85 = .ok (.iadd, 1) := by decide +kernel
theorem d_Mo_tooEarly_86 : decode prog_14_method_25_code 86 = .ok (.saload, 1) := by decide +kernel
theorem d_Mo_tooEarly_87 : decode prog_14_method_25_code 87 = .ok (.aload_n 0, 1) := by decide +kernel
theorem d_Mo_tooEarly_88 : decode prog_14_method_25_code 88 = .ok (.getfield 33, 3) := by decide +kernel
theorem d_Mo_tooEarly_91 : decode prog_14_method_25_code 91 = .ok (.sipush 300, 3) := by decide +kernel
theorem d_Mo_tooEarly_94 : decode prog_14_method_25_code 94 = .ok (.iload_n 1, 1) := by decide +kernel
theorem d_Mo_tooEarly_95 : decode prog_14_method_25_code 95 = .ok (.imul, 1) := by decide +kernel
theorem d_Mo_tooEarly_96 : decode prog_14_method_25_code 96 = .ok (.iload_n 3, 1) := by decide +kernel
theorem d_Mo_tooEarly_97 : decode prog_14_method_25_code 97 = .ok (.iadd, 1) := by decide +kernel
theorem d_Mo_tooEarly_98 : decode prog_14_method_25_code 98 = .ok (.saload, 1) := by decide +kernel
theorem d_Mo_tooEarly_99 : decode prog_14_method_25_code 99 = .ok (.if_icmp .ne 24, 3) := by decide +kernel
theorem d_Mo_tooEarly_102 : decode prog_14_method_25_code 102 = .ok (.iload_n 2, 1) := by decide +kernel
theorem d_Mo_tooEarly_103 : decode prog_14_method_25_code 103 = .ok (.aload_n 0, 1) := by decide +kernel
theorem d_Mo_tooEarly_104 : decode prog_14_method_25_code 104 = .ok (.getfield 44, 3) := by decide +kernel
theorem d_Mo_tooEarly_107 : decode prog_14_method_25_code 107 = .ok (.sipush 300, 3) := by decide +kernel
theorem d_Mo_tooEarly_110 : decode prog_14_method_25_code 110 = .ok (.iload_n 1, 1) := by decide +kernel
theorem d_Mo_tooEarly_111 : decode prog_14_method_25_code 111 = .ok (.imul, 1) := by decide +kernel
theorem d_Mo_tooEarly_112 : decode prog_14_method_25_code 112 = .ok (.iload 4, 2) := by decide +kernel
theorem d_Mo_tooEarly_114 : decode prog_14_method_25_code 114 = .ok (.iadd, 1) := by decide +kernel
theorem d_Mo_tooEarly_115 : decode prog_14_method_25_code 115 = .ok (.iaload, 1) := by decide +kernel
theorem d_Mo_tooEarly_116 : decode prog_14_method_25_code 116 = .ok (.if_icmp .ge 7, 3) := by decide +kernel
theorem d_Mo_tooEarly_119 : decode prog_14_method_25_code 119 = .ok (.iconst 1, 1) := by decide +kernel
theorem d_Mo_tooEarly_120 : decode prog_14_method_25_code 120 = .ok (.goto 4, 3) := by decide +kernel
theorem d_Mo_tooEarly_123 : decode prog_14_method_25_code 123 = .ok (.iconst 0, 1) := by decide +kernel
theorem d_Mo_tooEarly_124 : decode prog_14_method_25_code 124 = .ok (.ireturn, 1) := by decide +kernel
abbrev Y_Mo_happens : MethodName := ⟨"NumberOfficeModel", "happens", "(IIZ)V"⟩
abbrev K_Mo_happens : zM := (prog_14_method_24_code, 4, "NumberOfficeModel", none, false, [])
theorem d_Mo_happens_0 : decode prog_14_method_24_code 0 = .ok (.aload_n 0, 1) := by decide +kernel
theorem d_Mo_happens_1 : decode prog_14_method_24_code 1 = .ok (.getfield 50, 3) := by decide +kernel
theorem d_Mo_happens_4 : decode prog_14_method_24_code 4 = .ok (.sipush 600, 3) := by decide +kernel
theorem d_Mo_happens_7 : decode prog_14_method_24_code 7 = .ok (.iload_n 1, 1) := by decide +kernel
theorem d_Mo_happens_8 : decode prog_14_method_24_code 8 = .ok (.imul, 1) := by decide +kernel
theorem d_Mo_happens_9 : decode prog_14_method_24_code 9 = .ok (.aload_n 0, 1) := by decide +kernel
theorem d_Mo_happens_10 : decode prog_14_method_24_code 10 = .ok (.getfield 23, 3) := by decide +kernel
theorem d_Mo_happens_13 : decode prog_14_method_24_code 13 = .ok (.iload_n 1, 1) := by decide +kernel
theorem d_Mo_happens_14 : decode prog_14_method_24_code 14 = .ok (.iaload, 1) := by decide +kernel
theorem d_Mo_happens_15 : decode prog_14_method_24_code 15 = .ok (.iadd, 1) := by decide +kernel
theorem d_Mo_happens_16 : decode prog_14_method_24_code 16 = .ok (.iconst 2, 1) := by decide +kernel
theorem d_Mo_happens_17 : decode prog_14_method_24_code 17 = .ok (.iload_n 2, 1) := by decide +kernel
theorem d_Mo_happens_18 : decode prog_14_method_24_code 18 = .ok (.imul, 1) := by decide +kernel
theorem d_Mo_happens_19 : decode prog_14_method_24_code 19 = .ok (.iload_n 3, 1) := by decide +kernel
theorem d_Mo_happens_20 : decode prog_14_method_24_code 20 = .ok (.ifCond .eq 7, 3) := by decide +kernel
theorem d_Mo_happens_27 : decode prog_14_method_24_code 27 = .ok (.iconst 0, 1) := by decide +kernel
theorem d_Mo_happens_23 : decode prog_14_method_24_code 23 = .ok (.iconst 1, 1) := by decide +kernel
theorem d_Mo_happens_24 : decode prog_14_method_24_code 24 = .ok (.goto 4, 3) := by decide +kernel
theorem d_Mo_happens_28 : decode prog_14_method_24_code 28 = .ok (.iadd, 1) := by decide +kernel
theorem d_Mo_happens_29 : decode prog_14_method_24_code 29 = .ok (.i2s, 1) := by decide +kernel
theorem d_Mo_happens_30 : decode prog_14_method_24_code 30 = .ok (.sastore, 1) := by decide +kernel
theorem d_Mo_happens_31 : decode prog_14_method_24_code 31 = .ok (.aload_n 0, 1) := by decide +kernel
theorem d_Mo_happens_32 : decode prog_14_method_24_code 32 = .ok (.getfield 23, 3) := by decide +kernel
theorem d_Mo_happens_35 : decode prog_14_method_24_code 35 = .ok (.iload_n 1, 1) := by decide +kernel
theorem d_Mo_happens_36 : decode prog_14_method_24_code 36 = .ok (.dup2, 1) := by decide +kernel
theorem d_Mo_happens_37 : decode prog_14_method_24_code 37 = .ok (.iaload, 1) := by decide +kernel
theorem d_Mo_happens_38 : decode prog_14_method_24_code 38 = .ok (.iconst 1, 1) := by decide +kernel
theorem d_Mo_happens_39 : decode prog_14_method_24_code 39 = .ok (.iadd, 1) := by decide +kernel
theorem d_Mo_happens_40 : decode prog_14_method_24_code 40 = .ok (.iastore, 1) := by decide +kernel
theorem d_Mo_happens_41 : decode prog_14_method_24_code 41 = .ok (.aload_n 0, 1) := by decide +kernel
theorem d_Mo_happens_42 : decode prog_14_method_24_code 42 = .ok (.getfield 36, 3) := by decide +kernel
theorem d_Mo_happens_45 : decode prog_14_method_24_code 45 = .ok (.sipush 300, 3) := by decide +kernel
theorem d_Mo_happens_48 : decode prog_14_method_24_code 48 = .ok (.iload_n 1, 1) := by decide +kernel
theorem d_Mo_happens_49 : decode prog_14_method_24_code 49 = .ok (.imul, 1) := by decide +kernel
theorem d_Mo_happens_50 : decode prog_14_method_24_code 50 = .ok (.iload_n 2, 1) := by decide +kernel
theorem d_Mo_happens_51 : decode prog_14_method_24_code 51 = .ok (.iadd, 1) := by decide +kernel
theorem d_Mo_happens_52 : decode prog_14_method_24_code 52 = .ok (.iload_n 3, 1) := by decide +kernel
theorem d_Mo_happens_53 : decode prog_14_method_24_code 53 = .ok (.ifCond .eq 7, 3) := by decide +kernel
theorem d_Mo_happens_60 : decode prog_14_method_24_code 60 = .ok (.iconst 2, 1) := by decide +kernel
theorem d_Mo_happens_56 : decode prog_14_method_24_code 56 = .ok (.iconst 3, 1) := by decide +kernel
theorem d_Mo_happens_57 : decode prog_14_method_24_code 57 = .ok (.goto 4, 3) := by decide +kernel
theorem d_Mo_happens_61 : decode prog_14_method_24_code 61 = .ok (.i2b, 1) := by decide +kernel
theorem d_Mo_happens_62 : decode prog_14_method_24_code 62 = .ok (.bastore, 1) := by decide +kernel
theorem d_Mo_happens_63 : decode prog_14_method_24_code 63 = .ok (.return_, 1) := by decide +kernel
abbrev Y_Mo_voidNext : MethodName := ⟨"NumberOfficeModel", "voidNext", "(III)I"⟩
abbrev K_Mo_voidNext : zM := (prog_14_method_27_code, 6, "NumberOfficeModel", (some .int), false, [])
theorem d_Mo_voidNext_0 : decode prog_14_method_27_code 0 = .ok (.aload_n 0, 1) := by decide +kernel
theorem d_Mo_voidNext_1 : decode prog_14_method_27_code 1 = .ok (.iload_n 1, 1) := by decide +kernel
theorem d_Mo_voidNext_2 : decode prog_14_method_27_code 2 = .ok (.invokevirtual 166, 3) := by decide +kernel
abbrev Y_Mo_voidUsed : MethodName := ⟨"NumberOfficeModel", "voidUsed", "(IIII)Z"⟩
abbrev K_Mo_voidUsed : zM := (prog_14_method_29_code, 7, "NumberOfficeModel", (some .boolean), false, [])
theorem d_Mo_voidUsed_0 : decode prog_14_method_29_code 0 = .ok (.aload_n 0, 1) := by decide +kernel
theorem d_Mo_voidUsed_1 : decode prog_14_method_29_code 1 = .ok (.iload_n 1, 1) := by decide +kernel
theorem d_Mo_voidUsed_2 : decode prog_14_method_29_code 2 = .ok (.invokevirtual 166, 3) := by decide +kernel
abbrev Y_Mo_find : MethodName := ⟨"NumberOfficeModel", "find", "(II)I"⟩
abbrev K_Mo_find : zM := (prog_14_method_28_code, 4, "NumberOfficeModel", (some .int), false, [])
theorem d_Mo_find_0 : decode prog_14_method_28_code 0 = .ok (.iconst 0, 1) := by decide +kernel
theorem d_Mo_find_1 : decode prog_14_method_28_code 1 = .ok (.istore_n 3, 1) := by decide +kernel
theorem d_Mo_find_2 : decode prog_14_method_28_code 2 = .ok (.iload_n 3, 1) := by decide +kernel
theorem d_Mo_find_3 : decode prog_14_method_28_code 3 = .ok (.aload_n 0, 1) := by decide +kernel
theorem d_Mo_find_4 : decode prog_14_method_28_code 4 = .ok (.getfield 13, 3) := by decide +kernel
theorem d_Mo_find_7 : decode prog_14_method_28_code 7 = .ok (.iload_n 1, 1) := by decide +kernel
theorem d_Mo_find_8 : decode prog_14_method_28_code 8 = .ok (.iaload, 1) := by decide +kernel
theorem d_Mo_find_9 : decode prog_14_method_28_code 9 = .ok (.if_icmp .ge 27, 3) := by decide +kernel
theorem d_Mo_find_36 : decode prog_14_method_28_code 36 = .ok (.iconst (-1), 1) := by decide +kernel
theorem d_Mo_find_37 : decode prog_14_method_28_code 37 = .ok (.ireturn, 1) := by decide +kernel
theorem d_Mo_find_12 : decode prog_14_method_28_code 12 = .ok (.aload_n 0, 1) := by decide +kernel
theorem d_Mo_find_13 : decode prog_14_method_28_code 13 = .ok (.getfield 29, 3) := by decide +kernel
theorem d_Mo_find_16 : decode prog_14_method_28_code 16 = .ok (.sipush 300, 3) := by decide +kernel
theorem d_Mo_find_19 : decode prog_14_method_28_code 19 = .ok (.iload_n 1, 1) := by decide +kernel
theorem d_Mo_find_20 : decode prog_14_method_28_code 20 = .ok (.imul, 1) := by decide +kernel
theorem d_Mo_find_21 : decode prog_14_method_28_code 21 = .ok (.iload_n 3, 1) := by decide +kernel
theorem d_Mo_find_22 : decode prog_14_method_28_code 22 = .ok (.iadd, 1) := by decide +kernel
theorem d_Mo_find_23 : decode prog_14_method_28_code 23 = .ok (.saload, 1) := by decide +kernel
theorem d_Mo_find_24 : decode prog_14_method_28_code 24 = .ok (.iload_n 2, 1) := by decide +kernel
theorem d_Mo_find_25 : decode prog_14_method_28_code 25 = .ok (.if_icmp .ne 5, 3) := by decide +kernel
theorem d_Mo_find_30 : decode prog_14_method_28_code 30 = .ok (.iinc 3 1, 3) := by decide +kernel
theorem d_Mo_find_33 : decode prog_14_method_28_code 33 = .ok (.goto (-31), 3) := by decide +kernel
theorem d_Mo_find_28 : decode prog_14_method_28_code 28 = .ok (.iload_n 3, 1) := by decide +kernel
theorem d_Mo_find_29 : decode prog_14_method_28_code 29 = .ok (.ireturn, 1) := by decide +kernel
abbrev Y_Mo_strike : MethodName := ⟨"NumberOfficeModel", "strike", "(I)I"⟩
abbrev K_Mo_strike : zM := (prog_14_method_30_code, 4, "NumberOfficeModel", (some .int), false, [])
theorem d_Mo_strike_0 : decode prog_14_method_30_code 0 = .ok (.aload_n 0, 1) := by decide +kernel
theorem d_Mo_strike_1 : decode prog_14_method_30_code 1 = .ok (.aload_n 0, 1) := by decide +kernel
theorem d_Mo_strike_2 : decode prog_14_method_30_code 2 = .ok (.getfield 7, 3) := by decide +kernel
theorem d_Mo_strike_5 : decode prog_14_method_30_code 5 = .ok (.aload_n 0, 1) := by decide +kernel
theorem d_Mo_strike_6 : decode prog_14_method_30_code 6 = .ok (.getfield 116, 3) := by decide +kernel
theorem d_Mo_strike_9 : decode prog_14_method_30_code 9 = .ok (.baload, 1) := by decide +kernel
theorem d_Mo_strike_10 : decode prog_14_method_30_code 10 = .ok (.ifCond .eq 7, 3) := by decide +kernel
theorem d_Mo_strike_17 : decode prog_14_method_30_code 17 = .ok (.iconst 0, 1) := by decide +kernel
theorem d_Mo_strike_13 : decode prog_14_method_30_code 13 = .ok (.iconst 1, 1) := by decide +kernel
theorem d_Mo_strike_14 : decode prog_14_method_30_code 14 = .ok (.goto 4, 3) := by decide +kernel
theorem d_Mo_strike_18 : decode prog_14_method_30_code 18 = .ok (.putfield 120, 3) := by decide +kernel
theorem d_Mo_strike_21 : decode prog_14_method_30_code 21 = .ok (.aload_n 0, 1) := by decide +kernel
theorem d_Mo_strike_22 : decode prog_14_method_30_code 22 = .ok (.getfield 120, 3) := by decide +kernel
theorem d_Mo_strike_25 : decode prog_14_method_30_code 25 = .ok (.iconst 1, 1) := by decide +kernel
theorem d_Mo_strike_26 : decode prog_14_method_30_code 26 = .ok (.if_icmp .eq 20, 3) := by decide +kernel
theorem d_Mo_strike_29 : decode prog_14_method_30_code 29 = .ok (.aload_n 0, 1) := by decide +kernel
theorem d_Mo_strike_30 : decode prog_14_method_30_code 30 = .ok (.iload_n 1, 1) := by decide +kernel
theorem d_Mo_strike_31 : decode prog_14_method_30_code 31 = .ok (.invokevirtual 163, 3) := by decide +kernel
theorem d_Mo_strike_34 : decode prog_14_method_30_code 34 = .ok (.ifCond .eq 12, 3) := by decide +kernel
theorem d_Mo_strike_37 : decode prog_14_method_30_code 37 = .ok (.aload_n 0, 1) := by decide +kernel
theorem d_Mo_strike_38 : decode prog_14_method_30_code 38 = .ok (.getfield 95, 3) := by decide +kernel
theorem d_Mo_strike_41 : decode prog_14_method_30_code 41 = .ok (.iload_n 1, 1) := by decide +kernel
theorem d_Mo_strike_42 : decode prog_14_method_30_code 42 = .ok (.baload, 1) := by decide +kernel
theorem d_Mo_strike_43 : decode prog_14_method_30_code 43 = .ok (.ifCond .eq 17, 3) := by decide +kernel
theorem d_Mo_strike_60 : decode prog_14_method_30_code 60 = .ok (.aload_n 0, 1) := by decide +kernel
theorem d_Mo_strike_61 : decode prog_14_method_30_code 61 = .ok (.getfield 95, 3) := by decide +kernel
theorem d_Mo_strike_64 : decode prog_14_method_30_code 64 = .ok (.iload_n 1, 1) := by decide +kernel
theorem d_Mo_strike_65 : decode prog_14_method_30_code 65 = .ok (.iconst 1, 1) := by decide +kernel
theorem d_Mo_strike_66 : decode prog_14_method_30_code 66 = .ok (.bastore, 1) := by decide +kernel
theorem d_Mo_strike_67 : decode prog_14_method_30_code 67 = .ok (.iconst 0, 1) := by decide +kernel
theorem d_Mo_strike_68 : decode prog_14_method_30_code 68 = .ok (.istore_n 2, 1) := by decide +kernel
theorem d_Mo_strike_69 : decode prog_14_method_30_code 69 = .ok (.iconst 0, 1) := by decide +kernel
theorem d_Mo_strike_70 : decode prog_14_method_30_code 70 = .ok (.istore_n 3, 1) := by decide +kernel
theorem d_Mo_strike_46 : decode prog_14_method_30_code 46 = .ok (.aload_n 0, 1) := by decide +kernel
theorem d_Mo_strike_47 : decode prog_14_method_30_code 47 = .ok (.getfield 120, 3) := by decide +kernel
theorem d_Mo_strike_50 : decode prog_14_method_30_code 50 = .ok (.iconst 1, 1) := by decide +kernel
theorem d_Mo_strike_51 : decode prog_14_method_30_code 51 = .ok (.if_icmp .ne 7, 3) := by decide +kernel
theorem d_Mo_strike_58 : decode prog_14_method_30_code 58 = .ok (.iconst (-1), 1) := by decide +kernel
theorem d_Mo_strike_54 : decode prog_14_method_30_code 54 = .ok (.iconst 0, 1) := by decide +kernel
theorem d_Mo_strike_55 : decode prog_14_method_30_code 55 = .ok (.goto 4, 3) := by decide +kernel
theorem d_Mo_strike_71 : decode prog_14_method_30_code 71 = .ok (.iload_n 3, 1) := by decide +kernel
theorem d_Mo_strike_72 : decode prog_14_method_30_code 72 = .ok (.sipush 900, 3) := by decide +kernel
theorem d_Mo_strike_75 : decode prog_14_method_30_code 75 = .ok (.if_icmp .ge 39, 3) := by decide +kernel
theorem d_Mo_strike_114 : decode prog_14_method_30_code 114 = .ok (.iload_n 2, 1) := by decide +kernel
theorem d_Mo_strike_115 : decode prog_14_method_30_code 115 = .ok (.ireturn, 1) := by decide +kernel
theorem d_Mo_strike_78 : decode prog_14_method_30_code 78 = .ok (.aload_n 0, 1) := by decide +kernel
theorem d_Mo_strike_79 : decode prog_14_method_30_code 79 = .ok (.getfield 80, 3) := by decide +kernel
theorem d_Mo_strike_82 : decode prog_14_method_30_code 82 = .ok (.iload_n 3, 1) := by decide +kernel
theorem d_Mo_strike_83 : decode prog_14_method_30_code 83 = .ok (.baload, 1) := by decide +kernel
theorem d_Mo_strike_84 : decode prog_14_method_30_code 84 = .ok (.iconst 1, 1) := by decide +kernel
theorem d_Mo_strike_85 : decode prog_14_method_30_code 85 = .ok (.if_icmp .ne 23, 3) := by decide +kernel
theorem d_Mo_strike_88 : decode prog_14_method_30_code 88 = .ok (.aload_n 0, 1) := by decide +kernel
theorem d_Mo_strike_89 : decode prog_14_method_30_code 89 = .ok (.getfield 83, 3) := by decide +kernel
theorem d_Mo_strike_92 : decode prog_14_method_30_code 92 = .ok (.iload_n 3, 1) := by decide +kernel
theorem d_Mo_strike_93 : decode prog_14_method_30_code 93 = .ok (.baload, 1) := by decide +kernel
theorem d_Mo_strike_94 : decode prog_14_method_30_code 94 = .ok (.iload_n 1, 1) := by decide +kernel
theorem d_Mo_strike_95 : decode prog_14_method_30_code 95 = .ok (.if_icmp .ne 13, 3) := by decide +kernel
theorem d_Mo_strike_98 : decode prog_14_method_30_code 98 = .ok (.aload_n 0, 1) := by decide +kernel
theorem d_Mo_strike_99 : decode prog_14_method_30_code 99 = .ok (.getfield 80, 3) := by decide +kernel
theorem d_Mo_strike_102 : decode prog_14_method_30_code 102 = .ok (.iload_n 3, 1) := by decide +kernel
theorem d_Mo_strike_103 : decode prog_14_method_30_code 103 = .ok (.iconst 4, 1) := by decide +kernel
theorem d_Mo_strike_104 : decode prog_14_method_30_code 104 = .ok (.bastore, 1) := by decide +kernel
theorem d_Mo_strike_105 : decode prog_14_method_30_code 105 = .ok (.iinc 2 1, 3) := by decide +kernel
theorem d_Mo_strike_59 : decode prog_14_method_30_code 59 = .ok (.ireturn, 1) := by decide +kernel
theorem d_Mo_strike_108 : decode prog_14_method_30_code 108 = .ok (.iinc 3 1, 3) := by decide +kernel
theorem d_Mo_strike_111 : decode prog_14_method_30_code 111 = .ok (.goto (-40), 3) := by decide +kernel
abbrev Y_Mo_close : MethodName := ⟨"NumberOfficeModel", "close", "(I)I"⟩
abbrev K_Mo_close : zM := (prog_14_method_31_code, 3, "NumberOfficeModel", (some .int), false, [])
theorem d_Mo_close_0 : decode prog_14_method_31_code 0 = .ok (.aload_n 0, 1) := by decide +kernel
theorem d_Mo_close_1 : decode prog_14_method_31_code 1 = .ok (.aload_n 0, 1) := by decide +kernel
theorem d_Mo_close_2 : decode prog_14_method_31_code 2 = .ok (.getfield 7, 3) := by decide +kernel
theorem d_Mo_close_5 : decode prog_14_method_31_code 5 = .ok (.aload_n 0, 1) := by decide +kernel
theorem d_Mo_close_6 : decode prog_14_method_31_code 6 = .ok (.getfield 116, 3) := by decide +kernel
theorem d_Mo_close_9 : decode prog_14_method_31_code 9 = .ok (.baload, 1) := by decide +kernel
theorem d_Mo_close_10 : decode prog_14_method_31_code 10 = .ok (.ifCond .eq 7, 3) := by decide +kernel
theorem d_Mo_close_17 : decode prog_14_method_31_code 17 = .ok (.iconst 0, 1) := by decide +kernel
theorem d_Mo_close_13 : decode prog_14_method_31_code 13 = .ok (.iconst 1, 1) := by decide +kernel
theorem d_Mo_close_14 : decode prog_14_method_31_code 14 = .ok (.goto 4, 3) := by decide +kernel
theorem d_Mo_close_18 : decode prog_14_method_31_code 18 = .ok (.putfield 120, 3) := by decide +kernel
theorem d_Mo_close_21 : decode prog_14_method_31_code 21 = .ok (.aload_n 0, 1) := by decide +kernel
theorem d_Mo_close_22 : decode prog_14_method_31_code 22 = .ok (.getfield 120, 3) := by decide +kernel
theorem d_Mo_close_25 : decode prog_14_method_31_code 25 = .ok (.iconst 1, 1) := by decide +kernel
theorem d_Mo_close_26 : decode prog_14_method_31_code 26 = .ok (.if_icmp .eq 20, 3) := by decide +kernel
theorem d_Mo_close_29 : decode prog_14_method_31_code 29 = .ok (.iload_n 1, 1) := by decide +kernel
theorem d_Mo_close_30 : decode prog_14_method_31_code 30 = .ok (.invokestatic 144, 3) := by decide +kernel
theorem wS_NumberOfficeModel_144 : zSl "NumberOfficeModel" 144 Y_Mo_isSeries K_Mo_isSeries 1 := ⟨ztb_of 1301 (by decide +kernel) rfl, ztb_of 1302 (by decide +kernel) rfl, ztb_of 53 (by decide +kernel) rfl, ztb_of 1303 (by decide +kernel) rfl, by decide, by decide +kernel⟩
theorem d_Mo_close_33 : decode prog_14_method_31_code 33 = .ok (.ifCond .eq 13, 3) := by decide +kernel
theorem d_Mo_close_36 : decode prog_14_method_31_code 36 = .ok (.aload_n 0, 1) := by decide +kernel
theorem d_Mo_close_37 : decode prog_14_method_31_code 37 = .ok (.getfield 71, 3) := by decide +kernel
theorem d_Mo_close_40 : decode prog_14_method_31_code 40 = .ok (.iload_n 1, 1) := by decide +kernel
theorem d_Mo_close_41 : decode prog_14_method_31_code 41 = .ok (.iaload, 1) := by decide +kernel
theorem d_Mo_close_42 : decode prog_14_method_31_code 42 = .ok (.iconst 1, 1) := by decide +kernel
theorem d_Mo_close_43 : decode prog_14_method_31_code 43 = .ok (.if_icmp .eq 17, 3) := by decide +kernel
theorem d_Mo_close_60 : decode prog_14_method_31_code 60 = .ok (.iconst 1, 1) := by decide +kernel
theorem d_Mo_close_61 : decode prog_14_method_31_code 61 = .ok (.istore_n 2, 1) := by decide +kernel
theorem d_Mo_close_46 : decode prog_14_method_31_code 46 = .ok (.aload_n 0, 1) := by decide +kernel
theorem d_Mo_close_47 : decode prog_14_method_31_code 47 = .ok (.getfield 120, 3) := by decide +kernel
theorem d_Mo_close_50 : decode prog_14_method_31_code 50 = .ok (.iconst 1, 1) := by decide +kernel
theorem d_Mo_close_51 : decode prog_14_method_31_code 51 = .ok (.if_icmp .ne 7, 3) := by decide +kernel
theorem d_Mo_close_58 : decode prog_14_method_31_code 58 = .ok (.iconst (-1), 1) := by decide +kernel
theorem d_Mo_close_54 : decode prog_14_method_31_code 54 = .ok (.iconst 0, 1) := by decide +kernel
theorem d_Mo_close_55 : decode prog_14_method_31_code 55 = .ok (.goto 4, 3) := by decide +kernel
theorem d_Mo_close_62 : decode prog_14_method_31_code 62 = .ok (.iload_n 2, 1) := by decide +kernel
theorem d_Mo_close_63 : decode prog_14_method_31_code 63 = .ok (.aload_n 0, 1) := by decide +kernel
theorem d_Mo_close_64 : decode prog_14_method_31_code 64 = .ok (.getfield 77, 3) := by decide +kernel
theorem d_Mo_close_67 : decode prog_14_method_31_code 67 = .ok (.iload_n 1, 1) := by decide +kernel
theorem d_Mo_close_68 : decode prog_14_method_31_code 68 = .ok (.iaload, 1) := by decide +kernel
theorem d_Mo_close_69 : decode prog_14_method_31_code 69 = .ok (.if_icmp .gt 26, 3) := by decide +kernel
theorem d_Mo_close_95 : decode prog_14_method_31_code 95 = .ok (.aload_n 0, 1) := by decide +kernel
theorem d_Mo_close_96 : decode prog_14_method_31_code 96 = .ok (.getfield 71, 3) := by decide +kernel
theorem d_Mo_close_99 : decode prog_14_method_31_code 99 = .ok (.iload_n 1, 1) := by decide +kernel
theorem d_Mo_close_100 : decode prog_14_method_31_code 100 = .ok (.iconst 2, 1) := by decide +kernel
theorem d_Mo_close_101 : decode prog_14_method_31_code 101 = .ok (.iastore, 1) := by decide +kernel
theorem d_Mo_close_102 : decode prog_14_method_31_code 102 = .ok (.aload_n 0, 1) := by decide +kernel
theorem d_Mo_close_103 : decode prog_14_method_31_code 103 = .ok (.aload_n 0, 1) := by decide +kernel
theorem d_Mo_close_104 : decode prog_14_method_31_code 104 = .ok (.getfield 116, 3) := by decide +kernel
theorem d_Mo_close_107 : decode prog_14_method_31_code 107 = .ok (.invokevirtual 136, 3) := by decide +kernel
abbrev Y_Mo_at : MethodName := ⟨"NumberOfficeModel", "at", "(II)I"⟩
abbrev K_Mo_at : zM := (prog_14_method_14_code, 3, "NumberOfficeModel", (some .int), false, [])
theorem d_Mo_at_0 : decode prog_14_method_14_code 0 = .ok (.sipush 300, 3) := by decide +kernel
theorem d_Mo_at_3 : decode prog_14_method_14_code 3 = .ok (.iload_n 1, 1) := by decide +kernel
theorem d_Mo_at_4 : decode prog_14_method_14_code 4 = .ok (.imul, 1) := by decide +kernel
theorem d_Mo_at_5 : decode prog_14_method_14_code 5 = .ok (.iload_n 2, 1) := by decide +kernel
theorem d_Mo_at_6 : decode prog_14_method_14_code 6 = .ok (.iadd, 1) := by decide +kernel
theorem d_Mo_at_7 : decode prog_14_method_14_code 7 = .ok (.iconst 1, 1) := by decide +kernel
theorem d_Mo_at_8 : decode prog_14_method_14_code 8 = .ok (.isub, 1) := by decide +kernel
theorem d_Mo_at_9 : decode prog_14_method_14_code 9 = .ok (.ireturn, 1) := by decide +kernel
abbrev Y_Mo_crash : MethodName := ⟨"NumberOfficeModel", "crash", "(I)Z"⟩
abbrev K_Mo_crash : zM := (prog_14_method_33_code, 2, "NumberOfficeModel", (some .boolean), false, [])
theorem d_Mo_crash_0 : decode prog_14_method_33_code 0 = .ok (.aload_n 0, 1) := by decide +kernel
theorem d_Mo_crash_1 : decode prog_14_method_33_code 1 = .ok (.iconst 0, 1) := by decide +kernel
theorem d_Mo_crash_2 : decode prog_14_method_33_code 2 = .ok (.putfield 120, 3) := by decide +kernel
theorem d_Mo_crash_5 : decode prog_14_method_33_code 5 = .ok (.aload_n 0, 1) := by decide +kernel
theorem d_Mo_crash_6 : decode prog_14_method_33_code 6 = .ok (.iload_n 1, 1) := by decide +kernel
theorem d_Mo_crash_7 : decode prog_14_method_33_code 7 = .ok (.invokevirtual 189, 3) := by decide +kernel
abbrev Y_Mo_isSide : MethodName := ⟨"NumberOfficeModel", "isSide", "(I)Z"⟩
abbrev K_Mo_isSide : zM := (prog_14_method_32_code, 2, "NumberOfficeModel", (some .boolean), false, [])
theorem d_Mo_isSide_0 : decode prog_14_method_32_code 0 = .ok (.iload_n 1, 1) := by decide +kernel
theorem d_Mo_isSide_1 : decode prog_14_method_32_code 1 = .ok (.ifCond .lt 15, 3) := by decide +kernel
theorem d_Mo_isSide_4 : decode prog_14_method_32_code 4 = .ok (.iload_n 1, 1) := by decide +kernel
theorem d_Mo_isSide_5 : decode prog_14_method_32_code 5 = .ok (.aload_n 0, 1) := by decide +kernel
theorem d_Mo_isSide_6 : decode prog_14_method_32_code 6 = .ok (.getfield 116, 3) := by decide +kernel
theorem d_Mo_isSide_9 : decode prog_14_method_32_code 9 = .ok (.if_icmp .gt 7, 3) := by decide +kernel
theorem d_Mo_isSide_12 : decode prog_14_method_32_code 12 = .ok (.iconst 1, 1) := by decide +kernel
theorem d_Mo_isSide_13 : decode prog_14_method_32_code 13 = .ok (.goto 4, 3) := by decide +kernel
theorem d_Mo_isSide_16 : decode prog_14_method_32_code 16 = .ok (.iconst 0, 1) := by decide +kernel
theorem d_Mo_isSide_17 : decode prog_14_method_32_code 17 = .ok (.ireturn, 1) := by decide +kernel
abbrev Y_Mo_mount : MethodName := ⟨"NumberOfficeModel", "mount", "(I)Z"⟩
abbrev K_Mo_mount : zM := (prog_14_method_34_code, 2, "NumberOfficeModel", (some .boolean), false, [])
theorem d_Mo_mount_0 : decode prog_14_method_34_code 0 = .ok (.aload_n 0, 1) := by decide +kernel
theorem d_Mo_mount_1 : decode prog_14_method_34_code 1 = .ok (.iconst 0, 1) := by decide +kernel
theorem d_Mo_mount_2 : decode prog_14_method_34_code 2 = .ok (.putfield 120, 3) := by decide +kernel
theorem d_Mo_mount_5 : decode prog_14_method_34_code 5 = .ok (.aload_n 0, 1) := by decide +kernel
theorem d_Mo_mount_6 : decode prog_14_method_34_code 6 = .ok (.iload_n 1, 1) := by decide +kernel
theorem d_Mo_mount_7 : decode prog_14_method_34_code 7 = .ok (.invokevirtual 189, 3) := by decide +kernel
theorem wV_NumberOfficeModel_189 : zVl "NumberOfficeModel" 189 14 Y_Mo_isSide K_Mo_isSide 1 := ⟨zR_NumberOfficeModel, zF_NumberOfficeModel, 40, rfl, ztb_of 1393 (by decide +kernel) rfl, ztb_of 1395 (by decide +kernel) rfl, ztb_of 29 (by decide +kernel) rfl, ztb_of 53 (by decide +kernel) rfl, ztb_of 1396 (by decide +kernel) rfl, by decide, by decide +kernel⟩
theorem d_Mo_mount_10 : decode prog_14_method_34_code 10 = .ok (.ifCond .eq 12, 3) := by decide +kernel
theorem d_Mo_mount_13 : decode prog_14_method_34_code 13 = .ok (.aload_n 0, 1) := by decide +kernel
theorem d_Mo_mount_14 : decode prog_14_method_34_code 14 = .ok (.getfield 7, 3) := by decide +kernel
theorem d_Mo_mount_17 : decode prog_14_method_34_code 17 = .ok (.iload_n 1, 1) := by decide +kernel
theorem d_Mo_mount_18 : decode prog_14_method_34_code 18 = .ok (.baload, 1) := by decide +kernel
theorem d_Mo_mount_19 : decode prog_14_method_34_code 19 = .ok (.ifCond .ne 5, 3) := by decide +kernel
theorem d_Mo_mount_24 : decode prog_14_method_34_code 24 = .ok (.aload_n 0, 1) := by decide +kernel
theorem d_Mo_mount_25 : decode prog_14_method_34_code 25 = .ok (.getfield 7, 3) := by decide +kernel
theorem d_Mo_mount_28 : decode prog_14_method_34_code 28 = .ok (.iload_n 1, 1) := by decide +kernel
theorem d_Mo_mount_29 : decode prog_14_method_34_code 29 = .ok (.iconst 0, 1) := by decide +kernel
theorem d_Mo_mount_30 : decode prog_14_method_34_code 30 = .ok (.bastore, 1) := by decide +kernel
theorem d_Mo_mount_31 : decode prog_14_method_34_code 31 = .ok (.iload_n 1, 1) := by decide +kernel
theorem d_Mo_mount_32 : decode prog_14_method_34_code 32 = .ok (.aload_n 0, 1) := by decide +kernel
theorem d_Mo_mount_33 : decode prog_14_method_34_code 33 = .ok (.getfield 116, 3) := by decide +kernel
theorem d_Mo_mount_36 : decode prog_14_method_34_code 36 = .ok (.if_icmp .ne 12, 3) := by decide +kernel
theorem d_Mo_mount_48 : decode prog_14_method_34_code 48 = .ok (.aload_n 0, 1) := by decide +kernel
theorem d_Mo_mount_49 : decode prog_14_method_34_code 49 = .ok (.iload_n 1, 1) := by decide +kernel
theorem d_Mo_mount_50 : decode prog_14_method_34_code 50 = .ok (.bipush 6, 2) := by decide +kernel
theorem d_Mo_mount_52 : decode prog_14_method_34_code 52 = .ok (.iadd, 1) := by decide +kernel
theorem d_Mo_mount_53 : decode prog_14_method_34_code 53 = .ok (.iload_n 1, 1) := by decide +kernel
theorem d_Mo_mount_54 : decode prog_14_method_34_code 54 = .ok (.invokevirtual 130, 3) := by decide +kernel
abbrev Y_Mo_flush : MethodName := ⟨"NumberOfficeModel", "flush", "(I)Z"⟩
abbrev K_Mo_flush : zM := (prog_14_method_35_code, 2, "NumberOfficeModel", (some .boolean), false, [])
theorem d_Mo_flush_0 : decode prog_14_method_35_code 0 = .ok (.aload_n 0, 1) := by decide +kernel
theorem d_Mo_flush_1 : decode prog_14_method_35_code 1 = .ok (.iconst 0, 1) := by decide +kernel
theorem d_Mo_flush_2 : decode prog_14_method_35_code 2 = .ok (.putfield 120, 3) := by decide +kernel
theorem d_Mo_flush_5 : decode prog_14_method_35_code 5 = .ok (.aload_n 0, 1) := by decide +kernel
theorem d_Mo_flush_6 : decode prog_14_method_35_code 6 = .ok (.iload_n 1, 1) := by decide +kernel
theorem d_Mo_flush_7 : decode prog_14_method_35_code 7 = .ok (.invokevirtual 189, 3) := by decide +kernel
theorem d_Mo_flush_10 : decode prog_14_method_35_code 10 = .ok (.ifCond .eq 12, 3) := by decide +kernel
theorem d_Mo_flush_13 : decode prog_14_method_35_code 13 = .ok (.aload_n 0, 1) := by decide +kernel
theorem d_Mo_flush_14 : decode prog_14_method_35_code 14 = .ok (.getfield 7, 3) := by decide +kernel
theorem d_Mo_flush_17 : decode prog_14_method_35_code 17 = .ok (.iload_n 1, 1) := by decide +kernel
theorem d_Mo_flush_18 : decode prog_14_method_35_code 18 = .ok (.baload, 1) := by decide +kernel
theorem d_Mo_flush_19 : decode prog_14_method_35_code 19 = .ok (.ifCond .eq 5, 3) := by decide +kernel
theorem d_Mo_flush_24 : decode prog_14_method_35_code 24 = .ok (.aload_n 0, 1) := by decide +kernel
theorem d_Mo_flush_25 : decode prog_14_method_35_code 25 = .ok (.iload_n 1, 1) := by decide +kernel
theorem d_Mo_flush_26 : decode prog_14_method_35_code 26 = .ok (.invokevirtual 136, 3) := by decide +kernel
abbrev Y_Mo_letters : MethodName := ⟨"NumberOfficeModel", "letters", "()I"⟩
abbrev K_Mo_letters : zM := (prog_14_method_36_code, 1, "NumberOfficeModel", (some .int), false, [])
theorem d_Mo_letters_0 : decode prog_14_method_36_code 0 = .ok (.aload_n 0, 1) := by decide +kernel
theorem d_Mo_letters_1 : decode prog_14_method_36_code 1 = .ok (.iconst 0, 1) := by decide +kernel
theorem d_Mo_letters_2 : decode prog_14_method_36_code 2 = .ok (.putfield 120, 3) := by decide +kernel
theorem d_Mo_letters_5 : decode prog_14_method_36_code 5 = .ok (.aload_n 0, 1) := by decide +kernel
theorem d_Mo_letters_6 : decode prog_14_method_36_code 6 = .ok (.getfield 133, 3) := by decide +kernel
theorem d_Mo_letters_9 : decode prog_14_method_36_code 9 = .ok (.ireturn, 1) := by decide +kernel
abbrev Y_Mo_letter : MethodName := ⟨"NumberOfficeModel", "letter", "(II)I"⟩
abbrev K_Mo_letter : zM := (prog_14_method_38_code, 3, "NumberOfficeModel", (some .int), false, [])
theorem d_Mo_letter_0 : decode prog_14_method_38_code 0 = .ok (.aload_n 0, 1) := by decide +kernel
theorem d_Mo_letter_1 : decode prog_14_method_38_code 1 = .ok (.iconst 0, 1) := by decide +kernel
theorem d_Mo_letter_2 : decode prog_14_method_38_code 2 = .ok (.putfield 120, 3) := by decide +kernel
theorem d_Mo_letter_5 : decode prog_14_method_38_code 5 = .ok (.aload_n 0, 1) := by decide +kernel
theorem d_Mo_letter_6 : decode prog_14_method_38_code 6 = .ok (.iload_n 1, 1) := by decide +kernel
theorem d_Mo_letter_7 : decode prog_14_method_38_code 7 = .ok (.invokevirtual 192, 3) := by decide +kernel
abbrev Y_Mo_isLetter : MethodName := ⟨"NumberOfficeModel", "isLetter", "(I)Z"⟩
abbrev K_Mo_isLetter : zM := (prog_14_method_37_code, 2, "NumberOfficeModel", (some .boolean), false, [])
theorem d_Mo_isLetter_0 : decode prog_14_method_37_code 0 = .ok (.iload_n 1, 1) := by decide +kernel
theorem d_Mo_isLetter_1 : decode prog_14_method_37_code 1 = .ok (.ifCond .lt 15, 3) := by decide +kernel
theorem d_Mo_isLetter_4 : decode prog_14_method_37_code 4 = .ok (.iload_n 1, 1) := by decide +kernel
theorem d_Mo_isLetter_5 : decode prog_14_method_37_code 5 = .ok (.aload_n 0, 1) := by decide +kernel
theorem d_Mo_isLetter_6 : decode prog_14_method_37_code 6 = .ok (.getfield 133, 3) := by decide +kernel
theorem d_Mo_isLetter_9 : decode prog_14_method_37_code 9 = .ok (.if_icmp .ge 7, 3) := by decide +kernel
theorem d_Mo_isLetter_12 : decode prog_14_method_37_code 12 = .ok (.iconst 1, 1) := by decide +kernel
theorem d_Mo_isLetter_13 : decode prog_14_method_37_code 13 = .ok (.goto 4, 3) := by decide +kernel
theorem d_Mo_isLetter_16 : decode prog_14_method_37_code 16 = .ok (.iconst 0, 1) := by decide +kernel
theorem d_Mo_isLetter_17 : decode prog_14_method_37_code 17 = .ok (.ireturn, 1) := by decide +kernel
abbrev Y_Mo_deliver : MethodName := ⟨"NumberOfficeModel", "deliver", "(I)Z"⟩
abbrev K_Mo_deliver : zM := (prog_14_method_39_code, 3, "NumberOfficeModel", (some .boolean), false, [])
theorem d_Mo_deliver_0 : decode prog_14_method_39_code 0 = .ok (.aload_n 0, 1) := by decide +kernel
theorem d_Mo_deliver_1 : decode prog_14_method_39_code 1 = .ok (.iconst 0, 1) := by decide +kernel
theorem d_Mo_deliver_2 : decode prog_14_method_39_code 2 = .ok (.putfield 120, 3) := by decide +kernel
theorem d_Mo_deliver_5 : decode prog_14_method_39_code 5 = .ok (.aload_n 0, 1) := by decide +kernel
theorem d_Mo_deliver_6 : decode prog_14_method_39_code 6 = .ok (.iload_n 1, 1) := by decide +kernel
theorem d_Mo_deliver_7 : decode prog_14_method_39_code 7 = .ok (.invokevirtual 192, 3) := by decide +kernel
theorem wV_NumberOfficeModel_192 : zVl "NumberOfficeModel" 192 14 Y_Mo_isLetter K_Mo_isLetter 1 := ⟨zR_NumberOfficeModel, zF_NumberOfficeModel, 40, rfl, ztb_of 1413 (by decide +kernel) rfl, ztb_of 1415 (by decide +kernel) rfl, ztb_of 30 (by decide +kernel) rfl, ztb_of 53 (by decide +kernel) rfl, ztb_of 1416 (by decide +kernel) rfl, by decide, by decide +kernel⟩
theorem d_Mo_deliver_10 : decode prog_14_method_39_code 10 = .ok (.ifCond .ne 5, 3) := by decide +kernel
theorem d_Mo_deliver_15 : decode prog_14_method_39_code 15 = .ok (.iconst 0, 1) := by decide +kernel
theorem d_Mo_deliver_16 : decode prog_14_method_39_code 16 = .ok (.istore_n 2, 1) := by decide +kernel
theorem d_Mo_deliver_13 : decode prog_14_method_39_code 13 = .ok (.iconst 0, 1) := by decide +kernel
theorem d_Mo_deliver_14 : decode prog_14_method_39_code 14 = .ok (.ireturn, 1) := by decide +kernel
theorem d_Mo_deliver_17 : decode prog_14_method_39_code 17 = .ok (.iload_n 2, 1) := by decide +kernel
theorem d_Mo_deliver_18 : decode prog_14_method_39_code 18 = .ok (.bipush 8, 2) := by decide +kernel
theorem d_Mo_deliver_20 : decode prog_14_method_39_code 20 = .ok (.if_icmp .ge 26, 3) := by decide +kernel
theorem d_Mo_deliver_46 : decode prog_14_method_39_code 46 = .ok (.aload_n 0, 1) := by decide +kernel
theorem d_Mo_deliver_47 : decode prog_14_method_39_code 47 = .ok (.iload_n 1, 1) := by decide +kernel
theorem d_Mo_deliver_48 : decode prog_14_method_39_code 48 = .ok (.invokevirtual 195, 3) := by decide +kernel
abbrev Y_Mo_remove : MethodName := ⟨"NumberOfficeModel", "remove", "(I)V"⟩
abbrev K_Mo_remove : zM := (prog_14_method_10_code, 3, "NumberOfficeModel", none, false, [])
theorem d_Mo_remove_0 : decode prog_14_method_10_code 0 = .ok (.aload_n 0, 1) := by decide +kernel
theorem d_Mo_remove_1 : decode prog_14_method_10_code 1 = .ok (.dup, 1) := by decide +kernel
theorem d_Mo_remove_2 : decode prog_14_method_10_code 2 = .ok (.getfield 133, 3) := by decide +kernel
theorem d_Mo_remove_5 : decode prog_14_method_10_code 5 = .ok (.iconst 1, 1) := by decide +kernel
theorem d_Mo_remove_6 : decode prog_14_method_10_code 6 = .ok (.isub, 1) := by decide +kernel
theorem d_Mo_remove_7 : decode prog_14_method_10_code 7 = .ok (.putfield 133, 3) := by decide +kernel
theorem d_Mo_remove_10 : decode prog_14_method_10_code 10 = .ok (.bipush 8, 2) := by decide +kernel
theorem d_Mo_remove_12 : decode prog_14_method_10_code 12 = .ok (.iload_n 1, 1) := by decide +kernel
theorem d_Mo_remove_13 : decode prog_14_method_10_code 13 = .ok (.imul, 1) := by decide +kernel
theorem d_Mo_remove_14 : decode prog_14_method_10_code 14 = .ok (.istore_n 2, 1) := by decide +kernel
theorem d_Mo_remove_15 : decode prog_14_method_10_code 15 = .ok (.iload_n 2, 1) := by decide +kernel
theorem d_Mo_remove_16 : decode prog_14_method_10_code 16 = .ok (.bipush 8, 2) := by decide +kernel
theorem d_Mo_remove_18 : decode prog_14_method_10_code 18 = .ok (.aload_n 0, 1) := by decide +kernel
theorem d_Mo_remove_19 : decode prog_14_method_10_code 19 = .ok (.getfield 133, 3) := by decide +kernel
theorem d_Mo_remove_22 : decode prog_14_method_10_code 22 = .ok (.imul, 1) := by decide +kernel
theorem d_Mo_remove_23 : decode prog_14_method_10_code 23 = .ok (.if_icmp .ge 24, 3) := by decide +kernel
theorem d_Mo_remove_47 : decode prog_14_method_10_code 47 = .ok (.return_, 1) := by decide +kernel
theorem d_Mo_remove_26 : decode prog_14_method_10_code 26 = .ok (.aload_n 0, 1) := by decide +kernel
theorem d_Mo_remove_27 : decode prog_14_method_10_code 27 = .ok (.getfield 110, 3) := by decide +kernel
theorem d_Mo_remove_30 : decode prog_14_method_10_code 30 = .ok (.iload_n 2, 1) := by decide +kernel
theorem d_Mo_remove_31 : decode prog_14_method_10_code 31 = .ok (.aload_n 0, 1) := by decide +kernel
theorem d_Mo_remove_32 : decode prog_14_method_10_code 32 = .ok (.getfield 110, 3) := by decide +kernel
theorem d_Mo_remove_35 : decode prog_14_method_10_code 35 = .ok (.iload_n 2, 1) := by decide +kernel
theorem d_Mo_remove_36 : decode prog_14_method_10_code 36 = .ok (.bipush 8, 2) := by decide +kernel
theorem d_Mo_remove_38 : decode prog_14_method_10_code 38 = .ok (.iadd, 1) := by decide +kernel
theorem d_Mo_remove_39 : decode prog_14_method_10_code 39 = .ok (.iaload, 1) := by decide +kernel
theorem d_Mo_remove_40 : decode prog_14_method_10_code 40 = .ok (.iastore, 1) := by decide +kernel
theorem d_Mo_remove_41 : decode prog_14_method_10_code 41 = .ok (.iinc 2 1, 3) := by decide +kernel
theorem d_Mo_remove_44 : decode prog_14_method_10_code 44 = .ok (.goto (-29), 3) := by decide +kernel
abbrev Y_Mo_answered : MethodName := ⟨"NumberOfficeModel", "answered", "(IIIII)V"⟩
abbrev K_Mo_answered : zM := (prog_14_method_18_code, 9, "NumberOfficeModel", none, false, [])
theorem d_Mo_answered_0 : decode prog_14_method_18_code 0 = .ok (.aload_n 0, 1) := by decide +kernel
theorem d_Mo_answered_1 : decode prog_14_method_18_code 1 = .ok (.getfield 65, 3) := by decide +kernel
theorem d_Mo_answered_4 : decode prog_14_method_18_code 4 = .ok (.iload_n 1, 1) := by decide +kernel
theorem d_Mo_answered_5 : decode prog_14_method_18_code 5 = .ok (.baload, 1) := by decide +kernel
theorem d_Mo_answered_6 : decode prog_14_method_18_code 6 = .ok (.ifCond .eq 13, 3) := by decide +kernel
theorem d_Mo_answered_9 : decode prog_14_method_18_code 9 = .ok (.aload_n 0, 1) := by decide +kernel
theorem d_Mo_answered_10 : decode prog_14_method_18_code 10 = .ok (.getfield 53, 3) := by decide +kernel
theorem d_Mo_answered_13 : decode prog_14_method_18_code 13 = .ok (.iload_n 1, 1) := by decide +kernel
theorem d_Mo_answered_14 : decode prog_14_method_18_code 14 = .ok (.iaload, 1) := by decide +kernel
theorem d_Mo_answered_15 : decode prog_14_method_18_code 15 = .ok (.iload_n 2, 1) := by decide +kernel
theorem d_Mo_answered_16 : decode prog_14_method_18_code 16 = .ok (.if_icmp .eq 4, 3) := by decide +kernel
theorem d_Mo_answered_20 : decode prog_14_method_18_code 20 = .ok (.aload_n 0, 1) := by decide +kernel
theorem d_Mo_answered_21 : decode prog_14_method_18_code 21 = .ok (.getfield 65, 3) := by decide +kernel
theorem d_Mo_answered_24 : decode prog_14_method_18_code 24 = .ok (.iload_n 1, 1) := by decide +kernel
theorem d_Mo_answered_25 : decode prog_14_method_18_code 25 = .ok (.iconst 0, 1) := by decide +kernel
theorem d_Mo_answered_26 : decode prog_14_method_18_code 26 = .ok (.bastore, 1) := by decide +kernel
theorem d_Mo_answered_27 : decode prog_14_method_18_code 27 = .ok (.iconst 3, 1) := by decide +kernel
theorem d_Mo_answered_28 : decode prog_14_method_18_code 28 = .ok (.iload_n 1, 1) := by decide +kernel
theorem d_Mo_answered_29 : decode prog_14_method_18_code 29 = .ok (.imul, 1) := by decide +kernel
theorem d_Mo_answered_30 : decode prog_14_method_18_code 30 = .ok (.aload_n 0, 1) := by decide +kernel
theorem d_Mo_answered_31 : decode prog_14_method_18_code 31 = .ok (.getfield 59, 3) := by decide +kernel
theorem d_Mo_answered_34 : decode prog_14_method_18_code 34 = .ok (.iload_n 1, 1) := by decide +kernel
theorem d_Mo_answered_35 : decode prog_14_method_18_code 35 = .ok (.iaload, 1) := by decide +kernel
theorem d_Mo_answered_36 : decode prog_14_method_18_code 36 = .ok (.iadd, 1) := by decide +kernel
theorem d_Mo_answered_37 : decode prog_14_method_18_code 37 = .ok (.istore 6, 2) := by decide +kernel
theorem d_Mo_answered_39 : decode prog_14_method_18_code 39 = .ok (.iload_n 3, 1) := by decide +kernel
theorem d_Mo_answered_40 : decode prog_14_method_18_code 40 = .ok (.iconst 1, 1) := by decide +kernel
theorem d_Mo_answered_41 : decode prog_14_method_18_code 41 = .ok (.if_icmp .ne 101, 3) := by decide +kernel
theorem d_Mo_answered_44 : decode prog_14_method_18_code 44 = .ok (.iload 5, 2) := by decide +kernel
theorem d_Mo_answered_46 : decode prog_14_method_18_code 46 = .ok (.ifCond .le 96, 3) := by decide +kernel
theorem d_Mo_answered_49 : decode prog_14_method_18_code 49 = .ok (.iconst 0, 1) := by decide +kernel
theorem d_Mo_answered_50 : decode prog_14_method_18_code 50 = .ok (.istore 7, 2) := by decide +kernel
theorem d_Mo_answered_19 : decode prog_14_method_18_code 19 = .ok (.return_, 1) := by decide +kernel
theorem d_Mo_answered_142 : decode prog_14_method_18_code 142 = .ok (.iload_n 3, 1) := by decide +kernel
theorem d_Mo_answered_143 : decode prog_14_method_18_code 143 = .ok (.iconst 2, 1) := by decide +kernel
theorem d_Mo_answered_144 : decode prog_14_method_18_code 144 = .ok (.if_icmp .ne 22, 3) := by decide +kernel
theorem d_Mo_answered_166 : decode prog_14_method_18_code 166 = .ok (.iload_n 3, 1) := by decide +kernel
theorem d_Mo_answered_167 : decode prog_14_method_18_code 167 = .ok (.iconst 3, 1) := by decide +kernel
theorem d_Mo_answered_168 : decode prog_14_method_18_code 168 = .ok (.if_icmp .ne 10, 3) := by decide +kernel
theorem d_Mo_answered_171 : decode prog_14_method_18_code 171 = .ok (.aload_n 0, 1) := by decide +kernel
theorem d_Mo_answered_172 : decode prog_14_method_18_code 172 = .ok (.getfield 68, 3) := by decide +kernel
theorem d_Mo_answered_175 : decode prog_14_method_18_code 175 = .ok (.iload_n 1, 1) := by decide +kernel
theorem d_Mo_answered_176 : decode prog_14_method_18_code 176 = .ok (.iconst 1, 1) := by decide +kernel
theorem d_Mo_answered_177 : decode prog_14_method_18_code 177 = .ok (.bastore, 1) := by decide +kernel
theorem d_Mo_answered_147 : decode prog_14_method_18_code 147 = .ok (.aload_n 0, 1) := by decide +kernel
theorem d_Mo_answered_148 : decode prog_14_method_18_code 148 = .ok (.getfield 26, 3) := by decide +kernel
theorem d_Mo_answered_151 : decode prog_14_method_18_code 151 = .ok (.iload 6, 2) := by decide +kernel
theorem d_Mo_answered_153 : decode prog_14_method_18_code 153 = .ok (.dup2, 1) := by decide +kernel
theorem d_Mo_answered_154 : decode prog_14_method_18_code 154 = .ok (.iaload, 1) := by decide +kernel
theorem d_Mo_answered_155 : decode prog_14_method_18_code 155 = .ok (.aload_n 0, 1) := by decide +kernel
theorem d_Mo_answered_156 : decode prog_14_method_18_code 156 = .ok (.getfield 62, 3) := by decide +kernel
theorem d_Mo_answered_159 : decode prog_14_method_18_code 159 = .ok (.iload_n 1, 1) := by decide +kernel
theorem d_Mo_answered_160 : decode prog_14_method_18_code 160 = .ok (.iaload, 1) := by decide +kernel
theorem d_Mo_answered_161 : decode prog_14_method_18_code 161 = .ok (.iadd, 1) := by decide +kernel
theorem d_Mo_answered_162 : decode prog_14_method_18_code 162 = .ok (.iastore, 1) := by decide +kernel
theorem d_Mo_answered_163 : decode prog_14_method_18_code 163 = .ok (.goto 15, 3) := by decide +kernel
theorem d_Mo_answered_52 : decode prog_14_method_18_code 52 = .ok (.iload 7, 2) := by decide +kernel
theorem d_Mo_answered_54 : decode prog_14_method_18_code 54 = .ok (.iload 5, 2) := by decide +kernel
theorem d_Mo_answered_56 : decode prog_14_method_18_code 56 = .ok (.if_icmp .ge 72, 3) := by decide +kernel
theorem d_Mo_answered_128 : decode prog_14_method_18_code 128 = .ok (.aload_n 0, 1) := by decide +kernel
theorem d_Mo_answered_129 : decode prog_14_method_18_code 129 = .ok (.getfield 20, 3) := by decide +kernel
theorem d_Mo_answered_132 : decode prog_14_method_18_code 132 = .ok (.iload 6, 2) := by decide +kernel
theorem d_Mo_answered_134 : decode prog_14_method_18_code 134 = .ok (.dup2, 1) := by decide +kernel
theorem d_Mo_answered_135 : decode prog_14_method_18_code 135 = .ok (.iaload, 1) := by decide +kernel
theorem d_Mo_answered_136 : decode prog_14_method_18_code 136 = .ok (.iconst 1, 1) := by decide +kernel
theorem d_Mo_answered_137 : decode prog_14_method_18_code 137 = .ok (.iadd, 1) := by decide +kernel
theorem d_Mo_answered_138 : decode prog_14_method_18_code 138 = .ok (.iastore, 1) := by decide +kernel
theorem d_Mo_answered_139 : decode prog_14_method_18_code 139 = .ok (.goto 39, 3) := by decide +kernel
theorem d_Mo_answered_59 : decode prog_14_method_18_code 59 = .ok (.sipush 300, 3) := by decide +kernel
theorem d_Mo_answered_62 : decode prog_14_method_18_code 62 = .ok (.iload 6, 2) := by decide +kernel
theorem d_Mo_answered_64 : decode prog_14_method_18_code 64 = .ok (.imul, 1) := by decide +kernel
theorem d_Mo_answered_65 : decode prog_14_method_18_code 65 = .ok (.aload_n 0, 1) := by decide +kernel
theorem d_Mo_answered_66 : decode prog_14_method_18_code 66 = .ok (.getfield 13, 3) := by decide +kernel
theorem d_Mo_answered_69 : decode prog_14_method_18_code 69 = .ok (.iload 6, 2) := by decide +kernel
theorem d_Mo_answered_71 : decode prog_14_method_18_code 71 = .ok (.iaload, 1) := by decide +kernel
theorem d_Mo_answered_72 : decode prog_14_method_18_code 72 = .ok (.iadd, 1) := by decide +kernel
theorem d_Mo_answered_73 : decode prog_14_method_18_code 73 = .ok (.istore 8, 2) := by decide +kernel
theorem d_Mo_answered_75 : decode prog_14_method_18_code 75 = .ok (.aload_n 0, 1) := by decide +kernel
theorem d_Mo_answered_76 : decode prog_14_method_18_code 76 = .ok (.getfield 29, 3) := by decide +kernel
theorem d_Mo_answered_79 : decode prog_14_method_18_code 79 = .ok (.iload 8, 2) := by decide +kernel
theorem d_Mo_answered_81 : decode prog_14_method_18_code 81 = .ok (.iload 4, 2) := by decide +kernel
theorem d_Mo_answered_83 : decode prog_14_method_18_code 83 = .ok (.iload 7, 2) := by decide +kernel
theorem d_Mo_answered_85 : decode prog_14_method_18_code 85 = .ok (.iadd, 1) := by decide +kernel
theorem d_Mo_answered_86 : decode prog_14_method_18_code 86 = .ok (.i2s, 1) := by decide +kernel
theorem d_Mo_answered_87 : decode prog_14_method_18_code 87 = .ok (.sastore, 1) := by decide +kernel
theorem d_Mo_answered_88 : decode prog_14_method_18_code 88 = .ok (.aload_n 0, 1) := by decide +kernel
theorem d_Mo_answered_89 : decode prog_14_method_18_code 89 = .ok (.getfield 33, 3) := by decide +kernel
theorem d_Mo_answered_92 : decode prog_14_method_18_code 92 = .ok (.iload 8, 2) := by decide +kernel
theorem d_Mo_answered_94 : decode prog_14_method_18_code 94 = .ok (.aload_n 0, 1) := by decide +kernel
theorem d_Mo_answered_95 : decode prog_14_method_18_code 95 = .ok (.getfield 20, 3) := by decide +kernel
theorem d_Mo_answered_98 : decode prog_14_method_18_code 98 = .ok (.iload 6, 2) := by decide +kernel
theorem d_Mo_answered_100 : decode prog_14_method_18_code 100 = .ok (.iaload, 1) := by decide +kernel
theorem d_Mo_answered_101 : decode prog_14_method_18_code 101 = .ok (.i2s, 1) := by decide +kernel
theorem d_Mo_answered_102 : decode prog_14_method_18_code 102 = .ok (.sastore, 1) := by decide +kernel
theorem d_Mo_answered_103 : decode prog_14_method_18_code 103 = .ok (.aload_n 0, 1) := by decide +kernel
theorem d_Mo_answered_104 : decode prog_14_method_18_code 104 = .ok (.getfield 36, 3) := by decide +kernel
theorem d_Mo_answered_107 : decode prog_14_method_18_code 107 = .ok (.iload 8, 2) := by decide +kernel
theorem d_Mo_answered_109 : decode prog_14_method_18_code 109 = .ok (.iconst 1, 1) := by decide +kernel
theorem d_Mo_answered_110 : decode prog_14_method_18_code 110 = .ok (.bastore, 1) := by decide +kernel
theorem d_Mo_answered_111 : decode prog_14_method_18_code 111 = .ok (.aload_n 0, 1) := by decide +kernel
theorem d_Mo_answered_112 : decode prog_14_method_18_code 112 = .ok (.getfield 13, 3) := by decide +kernel
theorem d_Mo_answered_115 : decode prog_14_method_18_code 115 = .ok (.iload 6, 2) := by decide +kernel
theorem d_Mo_answered_117 : decode prog_14_method_18_code 117 = .ok (.dup2, 1) := by decide +kernel
theorem d_Mo_answered_118 : decode prog_14_method_18_code 118 = .ok (.iaload, 1) := by decide +kernel
theorem d_Mo_answered_119 : decode prog_14_method_18_code 119 = .ok (.iconst 1, 1) := by decide +kernel
theorem d_Mo_answered_120 : decode prog_14_method_18_code 120 = .ok (.iadd, 1) := by decide +kernel
theorem d_Mo_answered_121 : decode prog_14_method_18_code 121 = .ok (.iastore, 1) := by decide +kernel
theorem d_Mo_answered_122 : decode prog_14_method_18_code 122 = .ok (.iinc 7 1, 3) := by decide +kernel
theorem d_Mo_answered_125 : decode prog_14_method_18_code 125 = .ok (.goto (-73), 3) := by decide +kernel
theorem d_Mo_answered_178 : decode prog_14_method_18_code 178 = .ok (.return_, 1) := by decide +kernel
abbrev Y_Mo_comes : MethodName := ⟨"NumberOfficeModel", "comes", "()V"⟩
abbrev K_Mo_comes : zM := (prog_14_method_17_code, 3, "NumberOfficeModel", none, false, [])
theorem d_Mo_comes_0 : decode prog_14_method_17_code 0 = .ok (.aload_n 0, 1) := by decide +kernel
theorem d_Mo_comes_1 : decode prog_14_method_17_code 1 = .ok (.getfield 113, 3) := by decide +kernel
theorem wF_NumberOfficeModel_113_14 : zFl "NumberOfficeModel" 113 14 36 := ⟨"NumberOfficeModel", zR_NumberOfficeModel, zF_NumberOfficeModel, 40, rfl, zin_NumberOfficeModel, by decide, ztb_of 1207 (by decide +kernel) rfl, Or.inl rfl⟩
theorem d_Mo_comes_4 : decode prog_14_method_17_code 4 = .ok (.iconst 1, 1) := by decide +kernel
theorem d_Mo_comes_5 : decode prog_14_method_17_code 5 = .ok (.iaload, 1) := by decide +kernel
theorem d_Mo_comes_6 : decode prog_14_method_17_code 6 = .ok (.istore_n 1, 1) := by decide +kernel
theorem d_Mo_comes_7 : decode prog_14_method_17_code 7 = .ok (.aload_n 0, 1) := by decide +kernel
theorem d_Mo_comes_8 : decode prog_14_method_17_code 8 = .ok (.getfield 113, 3) := by decide +kernel
theorem d_Mo_comes_11 : decode prog_14_method_17_code 11 = .ok (.iconst 2, 1) := by decide +kernel
theorem d_Mo_comes_12 : decode prog_14_method_17_code 12 = .ok (.iaload, 1) := by decide +kernel
theorem d_Mo_comes_13 : decode prog_14_method_17_code 13 = .ok (.istore_n 2, 1) := by decide +kernel
theorem d_Mo_comes_14 : decode prog_14_method_17_code 14 = .ok (.iload_n 2, 1) := by decide +kernel
theorem d_Mo_comes_15 : decode prog_14_method_17_code 15 = .ok (.aload_n 0, 1) := by decide +kernel
theorem d_Mo_comes_16 : decode prog_14_method_17_code 16 = .ok (.getfield 98, 3) := by decide +kernel
theorem d_Mo_comes_19 : decode prog_14_method_17_code 19 = .ok (.iload_n 1, 1) := by decide +kernel
theorem d_Mo_comes_20 : decode prog_14_method_17_code 20 = .ok (.iaload, 1) := by decide +kernel
theorem d_Mo_comes_21 : decode prog_14_method_17_code 21 = .ok (.iconst 1, 1) := by decide +kernel
theorem d_Mo_comes_22 : decode prog_14_method_17_code 22 = .ok (.iadd, 1) := by decide +kernel
theorem d_Mo_comes_23 : decode prog_14_method_17_code 23 = .ok (.if_icmp .ne 98, 3) := by decide +kernel
theorem d_Mo_comes_121 : decode prog_14_method_17_code 121 = .ok (.iload_n 2, 1) := by decide +kernel
theorem d_Mo_comes_122 : decode prog_14_method_17_code 122 = .ok (.aload_n 0, 1) := by decide +kernel
theorem d_Mo_comes_123 : decode prog_14_method_17_code 123 = .ok (.getfield 98, 3) := by decide +kernel
theorem d_Mo_comes_126 : decode prog_14_method_17_code 126 = .ok (.iload_n 1, 1) := by decide +kernel
theorem d_Mo_comes_127 : decode prog_14_method_17_code 127 = .ok (.iaload, 1) := by decide +kernel
theorem d_Mo_comes_128 : decode prog_14_method_17_code 128 = .ok (.if_icmp .ne 8, 3) := by decide +kernel
theorem d_Mo_comes_131 : decode prog_14_method_17_code 131 = .ok (.aload_n 0, 1) := by decide +kernel
theorem d_Mo_comes_132 : decode prog_14_method_17_code 132 = .ok (.iload_n 1, 1) := by decide +kernel
theorem d_Mo_comes_133 : decode prog_14_method_17_code 133 = .ok (.invokevirtual 160, 3) := by decide +kernel
abbrev Y_Mo_give : MethodName := ⟨"NumberOfficeModel", "give", "(III)V"⟩
abbrev K_Mo_give : zM := (prog_14_method_15_code, 7, "NumberOfficeModel", none, false, [])
theorem d_Mo_give_0 : decode prog_14_method_15_code 0 = .ok (.aload_n 0, 1) := by decide +kernel
theorem d_Mo_give_1 : decode prog_14_method_15_code 1 = .ok (.getfield 71, 3) := by decide +kernel
theorem d_Mo_give_4 : decode prog_14_method_15_code 4 = .ok (.iload_n 2, 1) := by decide +kernel
theorem d_Mo_give_5 : decode prog_14_method_15_code 5 = .ok (.iaload, 1) := by decide +kernel
theorem d_Mo_give_6 : decode prog_14_method_15_code 6 = .ok (.iconst 1, 1) := by decide +kernel
theorem d_Mo_give_7 : decode prog_14_method_15_code 7 = .ok (.if_icmp .ne 16, 3) := by decide +kernel
theorem d_Mo_give_23 : decode prog_14_method_15_code 23 = .ok (.iconst 0, 1) := by decide +kernel
theorem d_Mo_give_10 : decode prog_14_method_15_code 10 = .ok (.sipush 300, 3) := by decide +kernel
theorem d_Mo_give_13 : decode prog_14_method_15_code 13 = .ok (.aload_n 0, 1) := by decide +kernel
theorem d_Mo_give_14 : decode prog_14_method_15_code 14 = .ok (.getfield 77, 3) := by decide +kernel
theorem d_Mo_give_17 : decode prog_14_method_15_code 17 = .ok (.iload_n 2, 1) := by decide +kernel
theorem d_Mo_give_18 : decode prog_14_method_15_code 18 = .ok (.iaload, 1) := by decide +kernel
theorem d_Mo_give_19 : decode prog_14_method_15_code 19 = .ok (.isub, 1) := by decide +kernel
theorem d_Mo_give_20 : decode prog_14_method_15_code 20 = .ok (.goto 4, 3) := by decide +kernel
theorem d_Mo_give_24 : decode prog_14_method_15_code 24 = .ok (.istore 4, 2) := by decide +kernel
theorem d_Mo_give_26 : decode prog_14_method_15_code 26 = .ok (.iload_n 3, 1) := by decide +kernel
theorem d_Mo_give_27 : decode prog_14_method_15_code 27 = .ok (.iload 4, 2) := by decide +kernel
theorem d_Mo_give_29 : decode prog_14_method_15_code 29 = .ok (.if_icmp .ge 7, 3) := by decide +kernel
theorem d_Mo_give_36 : decode prog_14_method_15_code 36 = .ok (.iload 4, 2) := by decide +kernel
theorem d_Mo_give_32 : decode prog_14_method_15_code 32 = .ok (.iload_n 3, 1) := by decide +kernel
theorem d_Mo_give_33 : decode prog_14_method_15_code 33 = .ok (.goto 5, 3) := by decide +kernel
theorem d_Mo_give_38 : decode prog_14_method_15_code 38 = .ok (.istore 5, 2) := by decide +kernel
theorem d_Mo_give_40 : decode prog_14_method_15_code 40 = .ok (.aload_n 0, 1) := by decide +kernel
theorem d_Mo_give_41 : decode prog_14_method_15_code 41 = .ok (.getfield 101, 3) := by decide +kernel
theorem d_Mo_give_44 : decode prog_14_method_15_code 44 = .ok (.iload_n 1, 1) := by decide +kernel
theorem d_Mo_give_45 : decode prog_14_method_15_code 45 = .ok (.iconst 1, 1) := by decide +kernel
theorem d_Mo_give_46 : decode prog_14_method_15_code 46 = .ok (.iastore, 1) := by decide +kernel
theorem d_Mo_give_47 : decode prog_14_method_15_code 47 = .ok (.aload_n 0, 1) := by decide +kernel
theorem d_Mo_give_48 : decode prog_14_method_15_code 48 = .ok (.getfield 104, 3) := by decide +kernel
theorem d_Mo_give_51 : decode prog_14_method_15_code 51 = .ok (.iload_n 1, 1) := by decide +kernel
theorem d_Mo_give_52 : decode prog_14_method_15_code 52 = .ok (.aload_n 0, 1) := by decide +kernel
theorem d_Mo_give_53 : decode prog_14_method_15_code 53 = .ok (.getfield 77, 3) := by decide +kernel
theorem d_Mo_give_56 : decode prog_14_method_15_code 56 = .ok (.iload_n 2, 1) := by decide +kernel
theorem d_Mo_give_57 : decode prog_14_method_15_code 57 = .ok (.iaload, 1) := by decide +kernel
theorem d_Mo_give_58 : decode prog_14_method_15_code 58 = .ok (.iconst 1, 1) := by decide +kernel
theorem d_Mo_give_59 : decode prog_14_method_15_code 59 = .ok (.iadd, 1) := by decide +kernel
theorem d_Mo_give_60 : decode prog_14_method_15_code 60 = .ok (.iastore, 1) := by decide +kernel
theorem d_Mo_give_61 : decode prog_14_method_15_code 61 = .ok (.aload_n 0, 1) := by decide +kernel
theorem d_Mo_give_62 : decode prog_14_method_15_code 62 = .ok (.getfield 107, 3) := by decide +kernel
theorem d_Mo_give_65 : decode prog_14_method_15_code 65 = .ok (.iload_n 1, 1) := by decide +kernel
theorem d_Mo_give_66 : decode prog_14_method_15_code 66 = .ok (.iload 5, 2) := by decide +kernel
theorem d_Mo_give_68 : decode prog_14_method_15_code 68 = .ok (.iastore, 1) := by decide +kernel
theorem d_Mo_give_69 : decode prog_14_method_15_code 69 = .ok (.iconst 0, 1) := by decide +kernel
theorem d_Mo_give_70 : decode prog_14_method_15_code 70 = .ok (.istore 6, 2) := by decide +kernel
theorem d_Mo_give_72 : decode prog_14_method_15_code 72 = .ok (.iload 6, 2) := by decide +kernel
theorem d_Mo_give_74 : decode prog_14_method_15_code 74 = .ok (.iload 5, 2) := by decide +kernel
theorem d_Mo_give_76 : decode prog_14_method_15_code 76 = .ok (.if_icmp .ge 54, 3) := by decide +kernel
theorem d_Mo_give_130 : decode prog_14_method_15_code 130 = .ok (.return_, 1) := by decide +kernel
theorem d_Mo_give_79 : decode prog_14_method_15_code 79 = .ok (.aload_n 0, 1) := by decide +kernel
theorem d_Mo_give_80 : decode prog_14_method_15_code 80 = .ok (.getfield 77, 3) := by decide +kernel
theorem d_Mo_give_83 : decode prog_14_method_15_code 83 = .ok (.iload_n 2, 1) := by decide +kernel
theorem d_Mo_give_84 : decode prog_14_method_15_code 84 = .ok (.dup2, 1) := by decide +kernel
theorem d_Mo_give_85 : decode prog_14_method_15_code 85 = .ok (.iaload, 1) := by decide +kernel
theorem d_Mo_give_86 : decode prog_14_method_15_code 86 = .ok (.iconst 1, 1) := by decide +kernel
theorem d_Mo_give_87 : decode prog_14_method_15_code 87 = .ok (.iadd, 1) := by decide +kernel
theorem d_Mo_give_88 : decode prog_14_method_15_code 88 = .ok (.iastore, 1) := by decide +kernel
theorem d_Mo_give_89 : decode prog_14_method_15_code 89 = .ok (.aload_n 0, 1) := by decide +kernel
theorem d_Mo_give_90 : decode prog_14_method_15_code 90 = .ok (.getfield 80, 3) := by decide +kernel
theorem d_Mo_give_93 : decode prog_14_method_15_code 93 = .ok (.aload_n 0, 1) := by decide +kernel
theorem d_Mo_give_94 : decode prog_14_method_15_code 94 = .ok (.iload_n 2, 1) := by decide +kernel
theorem d_Mo_give_95 : decode prog_14_method_15_code 95 = .ok (.aload_n 0, 1) := by decide +kernel
theorem d_Mo_give_96 : decode prog_14_method_15_code 96 = .ok (.getfield 77, 3) := by decide +kernel
theorem d_Mo_give_99 : decode prog_14_method_15_code 99 = .ok (.iload_n 2, 1) := by decide +kernel
theorem d_Mo_give_100 : decode prog_14_method_15_code 100 = .ok (.iaload, 1) := by decide +kernel
theorem d_Mo_give_101 : decode prog_14_method_15_code 101 = .ok (.invokevirtual 148, 3) := by decide +kernel
theorem wV_NumberOfficeModel_148 : zVl "NumberOfficeModel" 148 14 Y_Mo_at K_Mo_at 2 := ⟨zR_NumberOfficeModel, zF_NumberOfficeModel, 40, rfl, ztb_of 1385 (by decide +kernel) rfl, ztb_of 1387 (by decide +kernel) rfl, ztb_of 28 (by decide +kernel) rfl, ztb_of 53 (by decide +kernel) rfl, ztb_of 1388 (by decide +kernel) rfl, by decide, by decide +kernel⟩
theorem d_Mo_give_104 : decode prog_14_method_15_code 104 = .ok (.iconst 1, 1) := by decide +kernel
theorem d_Mo_give_105 : decode prog_14_method_15_code 105 = .ok (.bastore, 1) := by decide +kernel
theorem d_Mo_give_106 : decode prog_14_method_15_code 106 = .ok (.aload_n 0, 1) := by decide +kernel
theorem d_Mo_give_107 : decode prog_14_method_15_code 107 = .ok (.getfield 83, 3) := by decide +kernel
theorem d_Mo_give_110 : decode prog_14_method_15_code 110 = .ok (.aload_n 0, 1) := by decide +kernel
theorem d_Mo_give_111 : decode prog_14_method_15_code 111 = .ok (.iload_n 2, 1) := by decide +kernel
theorem d_Mo_give_112 : decode prog_14_method_15_code 112 = .ok (.aload_n 0, 1) := by decide +kernel
theorem d_Mo_give_113 : decode prog_14_method_15_code 113 = .ok (.getfield 77, 3) := by decide +kernel
theorem d_Mo_give_116 : decode prog_14_method_15_code 116 = .ok (.iload_n 2, 1) := by decide +kernel
theorem d_Mo_give_117 : decode prog_14_method_15_code 117 = .ok (.iaload, 1) := by decide +kernel
theorem d_Mo_give_118 : decode prog_14_method_15_code 118 = .ok (.invokevirtual 148, 3) := by decide +kernel
theorem d_Mo_give_121 : decode prog_14_method_15_code 121 = .ok (.iload_n 1, 1) := by decide +kernel
theorem d_Mo_give_122 : decode prog_14_method_15_code 122 = .ok (.i2b, 1) := by decide +kernel
theorem d_Mo_give_123 : decode prog_14_method_15_code 123 = .ok (.bastore, 1) := by decide +kernel
theorem d_Mo_give_124 : decode prog_14_method_15_code 124 = .ok (.iinc 6 1, 3) := by decide +kernel
theorem d_Mo_give_127 : decode prog_14_method_15_code 127 = .ok (.goto (-55), 3) := by decide +kernel
abbrev Y_Mo_learn : MethodName := ⟨"NumberOfficeModel", "learn", "(IIII)V"⟩
abbrev K_Mo_learn : zM := (prog_14_method_16_code, 10, "NumberOfficeModel", none, false, [])
theorem d_Mo_learn_0 : decode prog_14_method_16_code 0 = .ok (.aload_n 0, 1) := by decide +kernel
theorem d_Mo_learn_1 : decode prog_14_method_16_code 1 = .ok (.getfield 101, 3) := by decide +kernel
theorem d_Mo_learn_4 : decode prog_14_method_16_code 4 = .ok (.iload_n 1, 1) := by decide +kernel
theorem d_Mo_learn_5 : decode prog_14_method_16_code 5 = .ok (.iconst 2, 1) := by decide +kernel
theorem d_Mo_learn_6 : decode prog_14_method_16_code 6 = .ok (.iastore, 1) := by decide +kernel
theorem d_Mo_learn_7 : decode prog_14_method_16_code 7 = .ok (.iconst 3, 1) := by decide +kernel
theorem d_Mo_learn_8 : decode prog_14_method_16_code 8 = .ok (.iload_n 1, 1) := by decide +kernel
theorem d_Mo_learn_9 : decode prog_14_method_16_code 9 = .ok (.bipush 6, 2) := by decide +kernel
theorem d_Mo_learn_11 : decode prog_14_method_16_code 11 = .ok (.iadd, 1) := by decide +kernel
theorem d_Mo_learn_12 : decode prog_14_method_16_code 12 = .ok (.imul, 1) := by decide +kernel
theorem d_Mo_learn_13 : decode prog_14_method_16_code 13 = .ok (.iload_n 2, 1) := by decide +kernel
theorem d_Mo_learn_14 : decode prog_14_method_16_code 14 = .ok (.iadd, 1) := by decide +kernel
theorem d_Mo_learn_15 : decode prog_14_method_16_code 15 = .ok (.istore 5, 2) := by decide +kernel
theorem d_Mo_learn_17 : decode prog_14_method_16_code 17 = .ok (.iload_n 3, 1) := by decide +kernel
theorem d_Mo_learn_18 : decode prog_14_method_16_code 18 = .ok (.istore 6, 2) := by decide +kernel
theorem d_Mo_learn_20 : decode prog_14_method_16_code 20 = .ok (.iload 6, 2) := by decide +kernel
theorem d_Mo_learn_22 : decode prog_14_method_16_code 22 = .ok (.iload_n 3, 1) := by decide +kernel
theorem d_Mo_learn_23 : decode prog_14_method_16_code 23 = .ok (.iload 4, 2) := by decide +kernel
theorem d_Mo_learn_25 : decode prog_14_method_16_code 25 = .ok (.iadd, 1) := by decide +kernel
theorem d_Mo_learn_26 : decode prog_14_method_16_code 26 = .ok (.if_icmp .ge 186, 3) := by decide +kernel
theorem d_Mo_learn_212 : decode prog_14_method_16_code 212 = .ok (.return_, 1) := by decide +kernel
theorem d_Mo_learn_29 : decode prog_14_method_16_code 29 = .ok (.sipush 300, 3) := by decide +kernel
theorem d_Mo_learn_32 : decode prog_14_method_16_code 32 = .ok (.iload 5, 2) := by decide +kernel
theorem d_Mo_learn_34 : decode prog_14_method_16_code 34 = .ok (.imul, 1) := by decide +kernel
theorem d_Mo_learn_35 : decode prog_14_method_16_code 35 = .ok (.aload_n 0, 1) := by decide +kernel
theorem d_Mo_learn_36 : decode prog_14_method_16_code 36 = .ok (.getfield 50, 3) := by decide +kernel
theorem d_Mo_learn_39 : decode prog_14_method_16_code 39 = .ok (.sipush 600, 3) := by decide +kernel
theorem d_Mo_learn_42 : decode prog_14_method_16_code 42 = .ok (.iload 5, 2) := by decide +kernel
theorem d_Mo_learn_44 : decode prog_14_method_16_code 44 = .ok (.imul, 1) := by decide +kernel
theorem d_Mo_learn_45 : decode prog_14_method_16_code 45 = .ok (.iload 6, 2) := by decide +kernel
theorem d_Mo_learn_47 : decode prog_14_method_16_code 47 = .ok (.iadd, 1) := by decide +kernel
theorem d_Mo_learn_48 : decode prog_14_method_16_code 48 = .ok (.saload, 1) := by decide +kernel
theorem d_Mo_learn_49 : decode prog_14_method_16_code 49 = .ok (.iconst 2, 1) := by decide +kernel
theorem d_Mo_learn_50 : decode prog_14_method_16_code 50 = .ok (.idiv, 1) := by decide +kernel
theorem d_Mo_learn_51 : decode prog_14_method_16_code 51 = .ok (.iadd, 1) := by decide +kernel
theorem d_Mo_learn_52 : decode prog_14_method_16_code 52 = .ok (.istore 7, 2) := by decide +kernel
theorem d_Mo_learn_54 : decode prog_14_method_16_code 54 = .ok (.aload_n 0, 1) := by decide +kernel
theorem d_Mo_learn_55 : decode prog_14_method_16_code 55 = .ok (.iload_n 2, 1) := by decide +kernel
theorem d_Mo_learn_56 : decode prog_14_method_16_code 56 = .ok (.aload_n 0, 1) := by decide +kernel
theorem d_Mo_learn_57 : decode prog_14_method_16_code 57 = .ok (.getfield 29, 3) := by decide +kernel
theorem d_Mo_learn_60 : decode prog_14_method_16_code 60 = .ok (.iload 7, 2) := by decide +kernel
theorem d_Mo_learn_62 : decode prog_14_method_16_code 62 = .ok (.saload, 1) := by decide +kernel
theorem d_Mo_learn_63 : decode prog_14_method_16_code 63 = .ok (.invokevirtual 148, 3) := by decide +kernel
theorem d_Mo_learn_66 : decode prog_14_method_16_code 66 = .ok (.istore 8, 2) := by decide +kernel
theorem d_Mo_learn_68 : decode prog_14_method_16_code 68 = .ok (.aload_n 0, 1) := by decide +kernel
theorem d_Mo_learn_69 : decode prog_14_method_16_code 69 = .ok (.getfield 50, 3) := by decide +kernel
theorem d_Mo_learn_72 : decode prog_14_method_16_code 72 = .ok (.sipush 600, 3) := by decide +kernel
theorem d_Mo_learn_75 : decode prog_14_method_16_code 75 = .ok (.iload 5, 2) := by decide +kernel
theorem d_Mo_learn_77 : decode prog_14_method_16_code 77 = .ok (.imul, 1) := by decide +kernel
theorem d_Mo_learn_78 : decode prog_14_method_16_code 78 = .ok (.iload 6, 2) := by decide +kernel
theorem d_Mo_learn_80 : decode prog_14_method_16_code 80 = .ok (.iadd, 1) := by decide +kernel
theorem d_Mo_learn_81 : decode prog_14_method_16_code 81 = .ok (.saload, 1) := by decide +kernel
theorem d_Mo_learn_82 : decode prog_14_method_16_code 82 = .ok (.iconst 2, 1) := by decide +kernel
theorem d_Mo_learn_83 : decode prog_14_method_16_code 83 = .ok (.irem, 1) := by decide +kernel
theorem d_Mo_learn_84 : decode prog_14_method_16_code 84 = .ok (.iconst 1, 1) := by decide +kernel
theorem d_Mo_learn_85 : decode prog_14_method_16_code 85 = .ok (.if_icmp .ne 7, 3) := by decide +kernel
theorem d_Mo_learn_92 : decode prog_14_method_16_code 92 = .ok (.iconst 0, 1) := by decide +kernel
theorem d_Mo_learn_88 : decode prog_14_method_16_code 88 = .ok (.iconst 1, 1) := by decide +kernel
theorem d_Mo_learn_89 : decode prog_14_method_16_code 89 = .ok (.goto 4, 3) := by decide +kernel
theorem d_Mo_learn_93 : decode prog_14_method_16_code 93 = .ok (.istore 9, 2) := by decide +kernel
theorem d_Mo_learn_95 : decode prog_14_method_16_code 95 = .ok (.iload 9, 2) := by decide +kernel
theorem d_Mo_learn_97 : decode prog_14_method_16_code 97 = .ok (.ifCond .ne 50, 3) := by decide +kernel
theorem d_Mo_learn_100 : decode prog_14_method_16_code 100 = .ok (.aload_n 0, 1) := by decide +kernel
theorem d_Mo_learn_101 : decode prog_14_method_16_code 101 = .ok (.getfield 80, 3) := by decide +kernel
theorem d_Mo_learn_104 : decode prog_14_method_16_code 104 = .ok (.iload 8, 2) := by decide +kernel
theorem d_Mo_learn_106 : decode prog_14_method_16_code 106 = .ok (.baload, 1) := by decide +kernel
theorem d_Mo_learn_107 : decode prog_14_method_16_code 107 = .ok (.iconst 1, 1) := by decide +kernel
theorem d_Mo_learn_108 : decode prog_14_method_16_code 108 = .ok (.if_icmp .ne 39, 3) := by decide +kernel
theorem d_Mo_learn_111 : decode prog_14_method_16_code 111 = .ok (.aload_n 0, 1) := by decide +kernel
theorem d_Mo_learn_112 : decode prog_14_method_16_code 112 = .ok (.getfield 80, 3) := by decide +kernel
theorem d_Mo_learn_115 : decode prog_14_method_16_code 115 = .ok (.iload 8, 2) := by decide +kernel
theorem d_Mo_learn_117 : decode prog_14_method_16_code 117 = .ok (.iconst 2, 1) := by decide +kernel
theorem d_Mo_learn_118 : decode prog_14_method_16_code 118 = .ok (.bastore, 1) := by decide +kernel
theorem d_Mo_learn_119 : decode prog_14_method_16_code 119 = .ok (.aload_n 0, 1) := by decide +kernel
theorem d_Mo_learn_120 : decode prog_14_method_16_code 120 = .ok (.getfield 86, 3) := by decide +kernel
theorem d_Mo_learn_123 : decode prog_14_method_16_code 123 = .ok (.iload 8, 2) := by decide +kernel
theorem d_Mo_learn_125 : decode prog_14_method_16_code 125 = .ok (.aload_n 0, 1) := by decide +kernel
theorem d_Mo_learn_126 : decode prog_14_method_16_code 126 = .ok (.getfield 40, 3) := by decide +kernel
theorem d_Mo_learn_129 : decode prog_14_method_16_code 129 = .ok (.iload 7, 2) := by decide +kernel
theorem d_Mo_learn_131 : decode prog_14_method_16_code 131 = .ok (.laload, 1) := by decide +kernel
theorem d_Mo_learn_132 : decode prog_14_method_16_code 132 = .ok (.lastore, 1) := by decide +kernel
theorem d_Mo_learn_133 : decode prog_14_method_16_code 133 = .ok (.aload_n 0, 1) := by decide +kernel
theorem d_Mo_learn_134 : decode prog_14_method_16_code 134 = .ok (.getfield 89, 3) := by decide +kernel
theorem d_Mo_learn_137 : decode prog_14_method_16_code 137 = .ok (.iload 8, 2) := by decide +kernel
theorem d_Mo_learn_139 : decode prog_14_method_16_code 139 = .ok (.aload_n 0, 1) := by decide +kernel
theorem d_Mo_learn_140 : decode prog_14_method_16_code 140 = .ok (.getfield 44, 3) := by decide +kernel
theorem d_Mo_learn_143 : decode prog_14_method_16_code 143 = .ok (.iload 7, 2) := by decide +kernel
theorem d_Mo_learn_145 : decode prog_14_method_16_code 145 = .ok (.iaload, 1) := by decide +kernel
theorem d_Mo_learn_146 : decode prog_14_method_16_code 146 = .ok (.iastore, 1) := by decide +kernel
theorem d_Mo_learn_147 : decode prog_14_method_16_code 147 = .ok (.iload 9, 2) := by decide +kernel
theorem d_Mo_learn_149 : decode prog_14_method_16_code 149 = .ok (.ifCond .eq 57, 3) := by decide +kernel
theorem d_Mo_learn_152 : decode prog_14_method_16_code 152 = .ok (.aload_n 0, 1) := by decide +kernel
theorem d_Mo_learn_153 : decode prog_14_method_16_code 153 = .ok (.getfield 80, 3) := by decide +kernel
theorem d_Mo_learn_156 : decode prog_14_method_16_code 156 = .ok (.iload 8, 2) := by decide +kernel
theorem d_Mo_learn_158 : decode prog_14_method_16_code 158 = .ok (.baload, 1) := by decide +kernel
theorem d_Mo_learn_159 : decode prog_14_method_16_code 159 = .ok (.iconst 1, 1) := by decide +kernel
theorem d_Mo_learn_160 : decode prog_14_method_16_code 160 = .ok (.if_icmp .eq 14, 3) := by decide +kernel
theorem d_Mo_learn_163 : decode prog_14_method_16_code 163 = .ok (.aload_n 0, 1) := by decide +kernel
theorem d_Mo_learn_164 : decode prog_14_method_16_code 164 = .ok (.getfield 80, 3) := by decide +kernel
theorem d_Mo_learn_167 : decode prog_14_method_16_code 167 = .ok (.iload 8, 2) := by decide +kernel
theorem d_Mo_learn_169 : decode prog_14_method_16_code 169 = .ok (.baload, 1) := by decide +kernel
theorem d_Mo_learn_170 : decode prog_14_method_16_code 170 = .ok (.iconst 2, 1) := by decide +kernel
theorem d_Mo_learn_171 : decode prog_14_method_16_code 171 = .ok (.if_icmp .ne 35, 3) := by decide +kernel
theorem d_Mo_learn_206 : decode prog_14_method_16_code 206 = .ok (.iinc 6 1, 3) := by decide +kernel
theorem d_Mo_learn_209 : decode prog_14_method_16_code 209 = .ok (.goto (-189), 3) := by decide +kernel
theorem d_Mo_learn_174 : decode prog_14_method_16_code 174 = .ok (.aload_n 0, 1) := by decide +kernel
theorem d_Mo_learn_175 : decode prog_14_method_16_code 175 = .ok (.getfield 71, 3) := by decide +kernel
theorem d_Mo_learn_178 : decode prog_14_method_16_code 178 = .ok (.iload_n 2, 1) := by decide +kernel
theorem d_Mo_learn_179 : decode prog_14_method_16_code 179 = .ok (.iaload, 1) := by decide +kernel
theorem d_Mo_learn_180 : decode prog_14_method_16_code 180 = .ok (.iconst 2, 1) := by decide +kernel
theorem d_Mo_learn_181 : decode prog_14_method_16_code 181 = .ok (.if_icmp .eq 25, 3) := by decide +kernel
theorem d_Mo_learn_184 : decode prog_14_method_16_code 184 = .ok (.aload_n 0, 1) := by decide +kernel
theorem d_Mo_learn_185 : decode prog_14_method_16_code 185 = .ok (.getfield 80, 3) := by decide +kernel
theorem d_Mo_learn_188 : decode prog_14_method_16_code 188 = .ok (.iload 8, 2) := by decide +kernel
theorem d_Mo_learn_190 : decode prog_14_method_16_code 190 = .ok (.iconst 3, 1) := by decide +kernel
theorem d_Mo_learn_191 : decode prog_14_method_16_code 191 = .ok (.bastore, 1) := by decide +kernel
theorem d_Mo_learn_192 : decode prog_14_method_16_code 192 = .ok (.aload_n 0, 1) := by decide +kernel
theorem d_Mo_learn_193 : decode prog_14_method_16_code 193 = .ok (.getfield 92, 3) := by decide +kernel
theorem d_Mo_learn_196 : decode prog_14_method_16_code 196 = .ok (.iload 8, 2) := by decide +kernel
theorem d_Mo_learn_198 : decode prog_14_method_16_code 198 = .ok (.aload_n 0, 1) := by decide +kernel
theorem d_Mo_learn_199 : decode prog_14_method_16_code 199 = .ok (.getfield 47, 3) := by decide +kernel
theorem d_Mo_learn_202 : decode prog_14_method_16_code 202 = .ok (.iload 7, 2) := by decide +kernel
theorem d_Mo_learn_204 : decode prog_14_method_16_code 204 = .ok (.baload, 1) := by decide +kernel
theorem d_Mo_learn_205 : decode prog_14_method_16_code 205 = .ok (.bastore, 1) := by decide +kernel
abbrev Y_Mo_sendAnswer : MethodName := ⟨"NumberOfficeModel", "sendAnswer", "(I)V"⟩
abbrev K_Mo_sendAnswer : zM := (prog_14_method_12_code, 2, "NumberOfficeModel", none, false, [])
theorem d_Mo_sendAnswer_0 : decode prog_14_method_12_code 0 = .ok (.aload_n 0, 1) := by decide +kernel
theorem d_Mo_sendAnswer_1 : decode prog_14_method_12_code 1 = .ok (.iconst 3, 1) := by decide +kernel
theorem d_Mo_sendAnswer_2 : decode prog_14_method_12_code 2 = .ok (.iload_n 1, 1) := by decide +kernel
theorem d_Mo_sendAnswer_3 : decode prog_14_method_12_code 3 = .ok (.aload_n 0, 1) := by decide +kernel
theorem d_Mo_sendAnswer_4 : decode prog_14_method_12_code 4 = .ok (.getfield 98, 3) := by decide +kernel
theorem d_Mo_sendAnswer_7 : decode prog_14_method_12_code 7 = .ok (.iload_n 1, 1) := by decide +kernel
theorem d_Mo_sendAnswer_8 : decode prog_14_method_12_code 8 = .ok (.iaload, 1) := by decide +kernel
theorem d_Mo_sendAnswer_9 : decode prog_14_method_12_code 9 = .ok (.aload_n 0, 1) := by decide +kernel
theorem d_Mo_sendAnswer_10 : decode prog_14_method_12_code 10 = .ok (.getfield 101, 3) := by decide +kernel
theorem d_Mo_sendAnswer_13 : decode prog_14_method_12_code 13 = .ok (.iload_n 1, 1) := by decide +kernel
theorem d_Mo_sendAnswer_14 : decode prog_14_method_12_code 14 = .ok (.iaload, 1) := by decide +kernel
theorem d_Mo_sendAnswer_15 : decode prog_14_method_12_code 15 = .ok (.aload_n 0, 1) := by decide +kernel
theorem d_Mo_sendAnswer_16 : decode prog_14_method_12_code 16 = .ok (.getfield 104, 3) := by decide +kernel
theorem d_Mo_sendAnswer_19 : decode prog_14_method_12_code 19 = .ok (.iload_n 1, 1) := by decide +kernel
theorem d_Mo_sendAnswer_20 : decode prog_14_method_12_code 20 = .ok (.iaload, 1) := by decide +kernel
theorem d_Mo_sendAnswer_21 : decode prog_14_method_12_code 21 = .ok (.aload_n 0, 1) := by decide +kernel
theorem d_Mo_sendAnswer_22 : decode prog_14_method_12_code 22 = .ok (.getfield 107, 3) := by decide +kernel
theorem d_Mo_sendAnswer_25 : decode prog_14_method_12_code 25 = .ok (.iload_n 1, 1) := by decide +kernel
theorem d_Mo_sendAnswer_26 : decode prog_14_method_12_code 26 = .ok (.iaload, 1) := by decide +kernel
theorem d_Mo_sendAnswer_27 : decode prog_14_method_12_code 27 = .ok (.iconst 0, 1) := by decide +kernel
theorem d_Mo_sendAnswer_28 : decode prog_14_method_12_code 28 = .ok (.invokevirtual 140, 3) := by decide +kernel
theorem wV_NumberOfficeModel_140 : zVl "NumberOfficeModel" 140 14 Y_Mo_send K_Mo_send 7 := ⟨zR_NumberOfficeModel, zF_NumberOfficeModel, 40, rfl, ztb_of 1340 (by decide +kernel) rfl, ztb_of 1342 (by decide +kernel) rfl, ztb_of 24 (by decide +kernel) rfl, ztb_of 53 (by decide +kernel) rfl, ztb_of 1343 (by decide +kernel) rfl, by decide, by decide +kernel⟩
theorem d_Mo_sendAnswer_31 : decode prog_14_method_12_code 31 = .ok (.return_, 1) := by decide +kernel
abbrev Y_Mo_drop : MethodName := ⟨"NumberOfficeModel", "drop", "(I)Z"⟩
abbrev K_Mo_drop : zM := (prog_14_method_40_code, 2, "NumberOfficeModel", (some .boolean), false, [])
theorem d_Mo_drop_0 : decode prog_14_method_40_code 0 = .ok (.aload_n 0, 1) := by decide +kernel
theorem d_Mo_drop_1 : decode prog_14_method_40_code 1 = .ok (.iconst 0, 1) := by decide +kernel
theorem d_Mo_drop_2 : decode prog_14_method_40_code 2 = .ok (.putfield 120, 3) := by decide +kernel
theorem d_Mo_drop_5 : decode prog_14_method_40_code 5 = .ok (.aload_n 0, 1) := by decide +kernel
theorem d_Mo_drop_6 : decode prog_14_method_40_code 6 = .ok (.iload_n 1, 1) := by decide +kernel
theorem d_Mo_drop_7 : decode prog_14_method_40_code 7 = .ok (.invokevirtual 192, 3) := by decide +kernel
theorem d_Mo_drop_10 : decode prog_14_method_40_code 10 = .ok (.ifCond .ne 5, 3) := by decide +kernel
theorem d_Mo_drop_15 : decode prog_14_method_40_code 15 = .ok (.aload_n 0, 1) := by decide +kernel
theorem d_Mo_drop_16 : decode prog_14_method_40_code 16 = .ok (.iload_n 1, 1) := by decide +kernel
theorem d_Mo_drop_17 : decode prog_14_method_40_code 17 = .ok (.invokevirtual 195, 3) := by decide +kernel
theorem wV_NumberOfficeModel_195 : zVl "NumberOfficeModel" 195 14 Y_Mo_remove K_Mo_remove 1 := ⟨zR_NumberOfficeModel, zF_NumberOfficeModel, 40, rfl, ztb_of 1421 (by decide +kernel) rfl, ztb_of 1423 (by decide +kernel) rfl, ztb_of 31 (by decide +kernel) rfl, ztb_of 53 (by decide +kernel) rfl, ztb_of 1424 (by decide +kernel) rfl, by decide, by decide +kernel⟩
theorem d_Mo_drop_20 : decode prog_14_method_40_code 20 = .ok (.iconst 1, 1) := by decide +kernel
theorem d_Mo_drop_21 : decode prog_14_method_40_code 21 = .ok (.ireturn, 1) := by decide +kernel
theorem d_Mo_drop_13 : decode prog_14_method_40_code 13 = .ok (.iconst 0, 1) := by decide +kernel
theorem d_Mo_drop_14 : decode prog_14_method_40_code 14 = .ok (.ireturn, 1) := by decide +kernel
abbrev Y_Mo_twin : MethodName := ⟨"NumberOfficeModel", "twin", "(I)Z"⟩
abbrev K_Mo_twin : zM := (prog_14_method_41_code, 3, "NumberOfficeModel", (some .boolean), false, [])
theorem d_Mo_twin_0 : decode prog_14_method_41_code 0 = .ok (.aload_n 0, 1) := by decide +kernel
theorem d_Mo_twin_1 : decode prog_14_method_41_code 1 = .ok (.iconst 0, 1) := by decide +kernel
theorem d_Mo_twin_2 : decode prog_14_method_41_code 2 = .ok (.putfield 120, 3) := by decide +kernel
theorem d_Mo_twin_5 : decode prog_14_method_41_code 5 = .ok (.aload_n 0, 1) := by decide +kernel
theorem d_Mo_twin_6 : decode prog_14_method_41_code 6 = .ok (.iload_n 1, 1) := by decide +kernel
theorem d_Mo_twin_7 : decode prog_14_method_41_code 7 = .ok (.invokevirtual 192, 3) := by decide +kernel
theorem d_Mo_twin_10 : decode prog_14_method_41_code 10 = .ok (.ifCond .eq 12, 3) := by decide +kernel
theorem d_Mo_twin_13 : decode prog_14_method_41_code 13 = .ok (.aload_n 0, 1) := by decide +kernel
theorem d_Mo_twin_14 : decode prog_14_method_41_code 14 = .ok (.getfield 133, 3) := by decide +kernel
theorem d_Mo_twin_17 : decode prog_14_method_41_code 17 = .ok (.bipush 64, 2) := by decide +kernel
theorem d_Mo_twin_19 : decode prog_14_method_41_code 19 = .ok (.if_icmp .ne 5, 3) := by decide +kernel
theorem d_Mo_twin_24 : decode prog_14_method_41_code 24 = .ok (.iconst 0, 1) := by decide +kernel
theorem d_Mo_twin_25 : decode prog_14_method_41_code 25 = .ok (.istore_n 2, 1) := by decide +kernel
theorem d_Mo_twin_22 : decode prog_14_method_41_code 22 = .ok (.iconst 0, 1) := by decide +kernel
theorem d_Mo_twin_23 : decode prog_14_method_41_code 23 = .ok (.ireturn, 1) := by decide +kernel
theorem d_Mo_twin_26 : decode prog_14_method_41_code 26 = .ok (.iload_n 2, 1) := by decide +kernel
theorem d_Mo_twin_27 : decode prog_14_method_41_code 27 = .ok (.bipush 8, 2) := by decide +kernel
theorem d_Mo_twin_29 : decode prog_14_method_41_code 29 = .ok (.if_icmp .ge 34, 3) := by decide +kernel
theorem d_Mo_twin_63 : decode prog_14_method_41_code 63 = .ok (.aload_n 0, 1) := by decide +kernel
theorem d_Mo_twin_64 : decode prog_14_method_41_code 64 = .ok (.dup, 1) := by decide +kernel
theorem d_Mo_twin_65 : decode prog_14_method_41_code 65 = .ok (.getfield 133, 3) := by decide +kernel
theorem d_Mo_twin_68 : decode prog_14_method_41_code 68 = .ok (.iconst 1, 1) := by decide +kernel
theorem d_Mo_twin_69 : decode prog_14_method_41_code 69 = .ok (.iadd, 1) := by decide +kernel
theorem d_Mo_twin_70 : decode prog_14_method_41_code 70 = .ok (.putfield 133, 3) := by decide +kernel
theorem d_Mo_twin_73 : decode prog_14_method_41_code 73 = .ok (.iconst 1, 1) := by decide +kernel
theorem d_Mo_twin_74 : decode prog_14_method_41_code 74 = .ok (.ireturn, 1) := by decide +kernel
theorem d_Mo_twin_32 : decode prog_14_method_41_code 32 = .ok (.aload_n 0, 1) := by decide +kernel
theorem d_Mo_twin_33 : decode prog_14_method_41_code 33 = .ok (.getfield 110, 3) := by decide +kernel
theorem d_Mo_twin_36 : decode prog_14_method_41_code 36 = .ok (.bipush 8, 2) := by decide +kernel
theorem d_Mo_twin_38 : decode prog_14_method_41_code 38 = .ok (.aload_n 0, 1) := by decide +kernel
theorem d_Mo_twin_39 : decode prog_14_method_41_code 39 = .ok (.getfield 133, 3) := by decide +kernel
theorem d_Mo_twin_42 : decode prog_14_method_41_code 42 = .ok (.imul, 1) := by decide +kernel
theorem d_Mo_twin_43 : decode prog_14_method_41_code 43 = .ok (.iload_n 2, 1) := by decide +kernel
theorem d_Mo_twin_44 : decode prog_14_method_41_code 44 = .ok (.iadd, 1) := by decide +kernel
theorem d_Mo_twin_45 : decode prog_14_method_41_code 45 = .ok (.aload_n 0, 1) := by decide +kernel
theorem d_Mo_twin_46 : decode prog_14_method_41_code 46 = .ok (.getfield 110, 3) := by decide +kernel
theorem d_Mo_twin_49 : decode prog_14_method_41_code 49 = .ok (.bipush 8, 2) := by decide +kernel
theorem d_Mo_twin_51 : decode prog_14_method_41_code 51 = .ok (.iload_n 1, 1) := by decide +kernel
theorem d_Mo_twin_52 : decode prog_14_method_41_code 52 = .ok (.imul, 1) := by decide +kernel
theorem d_Mo_twin_53 : decode prog_14_method_41_code 53 = .ok (.iload_n 2, 1) := by decide +kernel
theorem d_Mo_twin_54 : decode prog_14_method_41_code 54 = .ok (.iadd, 1) := by decide +kernel
theorem d_Mo_twin_55 : decode prog_14_method_41_code 55 = .ok (.iaload, 1) := by decide +kernel
theorem d_Mo_twin_56 : decode prog_14_method_41_code 56 = .ok (.iastore, 1) := by decide +kernel
theorem d_Mo_twin_57 : decode prog_14_method_41_code 57 = .ok (.iinc 2 1, 3) := by decide +kernel
theorem d_Mo_twin_60 : decode prog_14_method_41_code 60 = .ok (.goto (-34), 3) := by decide +kernel
abbrev Y_Mo_fate : MethodName := ⟨"NumberOfficeModel", "fate", "(II)I"⟩
abbrev K_Mo_fate : zM := (prog_14_method_43_code, 3, "NumberOfficeModel", (some .int), false, [])
theorem d_Mo_fate_0 : decode prog_14_method_43_code 0 = .ok (.aload_n 0, 1) := by decide +kernel
theorem d_Mo_fate_1 : decode prog_14_method_43_code 1 = .ok (.aload_n 0, 1) := by decide +kernel
theorem d_Mo_fate_2 : decode prog_14_method_43_code 2 = .ok (.getfield 7, 3) := by decide +kernel
theorem d_Mo_fate_5 : decode prog_14_method_43_code 5 = .ok (.aload_n 0, 1) := by decide +kernel
theorem d_Mo_fate_6 : decode prog_14_method_43_code 6 = .ok (.getfield 116, 3) := by decide +kernel
theorem d_Mo_fate_9 : decode prog_14_method_43_code 9 = .ok (.baload, 1) := by decide +kernel
theorem d_Mo_fate_10 : decode prog_14_method_43_code 10 = .ok (.ifCond .eq 7, 3) := by decide +kernel
theorem d_Mo_fate_17 : decode prog_14_method_43_code 17 = .ok (.iconst 0, 1) := by decide +kernel
theorem d_Mo_fate_13 : decode prog_14_method_43_code 13 = .ok (.iconst 1, 1) := by decide +kernel
theorem d_Mo_fate_14 : decode prog_14_method_43_code 14 = .ok (.goto 4, 3) := by decide +kernel
theorem d_Mo_fate_18 : decode prog_14_method_43_code 18 = .ok (.putfield 120, 3) := by decide +kernel
theorem d_Mo_fate_21 : decode prog_14_method_43_code 21 = .ok (.aload_n 0, 1) := by decide +kernel
theorem d_Mo_fate_22 : decode prog_14_method_43_code 22 = .ok (.getfield 120, 3) := by decide +kernel
theorem d_Mo_fate_25 : decode prog_14_method_43_code 25 = .ok (.ifCond .ne 26, 3) := by decide +kernel
theorem d_Mo_fate_28 : decode prog_14_method_43_code 28 = .ok (.aload_n 0, 1) := by decide +kernel
theorem d_Mo_fate_29 : decode prog_14_method_43_code 29 = .ok (.iload_n 1, 1) := by decide +kernel
theorem d_Mo_fate_30 : decode prog_14_method_43_code 30 = .ok (.iload_n 2, 1) := by decide +kernel
theorem d_Mo_fate_31 : decode prog_14_method_43_code 31 = .ok (.invokevirtual 205, 3) := by decide +kernel
abbrev Y_Mo_isGiven : MethodName := ⟨"NumberOfficeModel", "isGiven", "(II)Z"⟩
abbrev K_Mo_isGiven : zM := (prog_14_method_42_code, 3, "NumberOfficeModel", (some .boolean), false, [])
theorem d_Mo_isGiven_0 : decode prog_14_method_42_code 0 = .ok (.iload_n 1, 1) := by decide +kernel
theorem d_Mo_isGiven_1 : decode prog_14_method_42_code 1 = .ok (.invokestatic 144, 3) := by decide +kernel
theorem d_Mo_isGiven_4 : decode prog_14_method_42_code 4 = .ok (.ifCond .eq 22, 3) := by decide +kernel
theorem d_Mo_isGiven_7 : decode prog_14_method_42_code 7 = .ok (.iload_n 2, 1) := by decide +kernel
theorem d_Mo_isGiven_8 : decode prog_14_method_42_code 8 = .ok (.iconst 1, 1) := by decide +kernel
theorem d_Mo_isGiven_9 : decode prog_14_method_42_code 9 = .ok (.if_icmp .lt 17, 3) := by decide +kernel
theorem d_Mo_isGiven_12 : decode prog_14_method_42_code 12 = .ok (.iload_n 2, 1) := by decide +kernel
theorem d_Mo_isGiven_13 : decode prog_14_method_42_code 13 = .ok (.aload_n 0, 1) := by decide +kernel
theorem d_Mo_isGiven_14 : decode prog_14_method_42_code 14 = .ok (.getfield 77, 3) := by decide +kernel
theorem d_Mo_isGiven_17 : decode prog_14_method_42_code 17 = .ok (.iload_n 1, 1) := by decide +kernel
theorem d_Mo_isGiven_18 : decode prog_14_method_42_code 18 = .ok (.iaload, 1) := by decide +kernel
theorem d_Mo_isGiven_19 : decode prog_14_method_42_code 19 = .ok (.if_icmp .gt 7, 3) := by decide +kernel
theorem d_Mo_isGiven_22 : decode prog_14_method_42_code 22 = .ok (.iconst 1, 1) := by decide +kernel
theorem d_Mo_isGiven_23 : decode prog_14_method_42_code 23 = .ok (.goto 4, 3) := by decide +kernel
theorem d_Mo_isGiven_26 : decode prog_14_method_42_code 26 = .ok (.iconst 0, 1) := by decide +kernel
theorem d_Mo_isGiven_27 : decode prog_14_method_42_code 27 = .ok (.ireturn, 1) := by decide +kernel
abbrev Y_Mo_invoiceOf : MethodName := ⟨"NumberOfficeModel", "invoiceOf", "(III)J"⟩
abbrev K_Mo_invoiceOf : zM := (prog_14_method_44_code, 5, "NumberOfficeModel", (some .long), false, [])
theorem d_Mo_invoiceOf_0 : decode prog_14_method_44_code 0 = .ok (.aload_n 0, 1) := by decide +kernel
theorem d_Mo_invoiceOf_1 : decode prog_14_method_44_code 1 = .ok (.aload_n 0, 1) := by decide +kernel
theorem d_Mo_invoiceOf_2 : decode prog_14_method_44_code 2 = .ok (.getfield 7, 3) := by decide +kernel
theorem d_Mo_invoiceOf_5 : decode prog_14_method_44_code 5 = .ok (.aload_n 0, 1) := by decide +kernel
theorem d_Mo_invoiceOf_6 : decode prog_14_method_44_code 6 = .ok (.getfield 116, 3) := by decide +kernel
theorem d_Mo_invoiceOf_9 : decode prog_14_method_44_code 9 = .ok (.baload, 1) := by decide +kernel
theorem d_Mo_invoiceOf_10 : decode prog_14_method_44_code 10 = .ok (.ifCond .eq 7, 3) := by decide +kernel
theorem d_Mo_invoiceOf_17 : decode prog_14_method_44_code 17 = .ok (.iconst 0, 1) := by decide +kernel
theorem d_Mo_invoiceOf_13 : decode prog_14_method_44_code 13 = .ok (.iconst 1, 1) := by decide +kernel
theorem d_Mo_invoiceOf_14 : decode prog_14_method_44_code 14 = .ok (.goto 4, 3) := by decide +kernel
theorem d_Mo_invoiceOf_18 : decode prog_14_method_44_code 18 = .ok (.putfield 120, 3) := by decide +kernel
theorem d_Mo_invoiceOf_21 : decode prog_14_method_44_code 21 = .ok (.aload_n 0, 1) := by decide +kernel
theorem d_Mo_invoiceOf_22 : decode prog_14_method_44_code 22 = .ok (.getfield 120, 3) := by decide +kernel
theorem d_Mo_invoiceOf_25 : decode prog_14_method_44_code 25 = .ok (.iconst 1, 1) := by decide +kernel
theorem d_Mo_invoiceOf_26 : decode prog_14_method_44_code 26 = .ok (.if_icmp .ne 5, 3) := by decide +kernel
theorem d_Mo_invoiceOf_31 : decode prog_14_method_44_code 31 = .ok (.aload_n 0, 1) := by decide +kernel
theorem d_Mo_invoiceOf_32 : decode prog_14_method_44_code 32 = .ok (.iload_n 1, 1) := by decide +kernel
theorem d_Mo_invoiceOf_33 : decode prog_14_method_44_code 33 = .ok (.iload_n 2, 1) := by decide +kernel
theorem d_Mo_invoiceOf_34 : decode prog_14_method_44_code 34 = .ok (.invokevirtual 205, 3) := by decide +kernel
theorem wV_NumberOfficeModel_205 : zVl "NumberOfficeModel" 205 14 Y_Mo_isGiven K_Mo_isGiven 2 := ⟨zR_NumberOfficeModel, zF_NumberOfficeModel, 40, rfl, ztb_of 1457 (by decide +kernel) rfl, ztb_of 1459 (by decide +kernel) rfl, ztb_of 37 (by decide +kernel) rfl, ztb_of 53 (by decide +kernel) rfl, ztb_of 1460 (by decide +kernel) rfl, by decide, by decide +kernel⟩
theorem d_Mo_invoiceOf_37 : decode prog_14_method_44_code 37 = .ok (.ifCond .ne 7, 3) := by decide +kernel
theorem d_Mo_invoiceOf_44 : decode prog_14_method_44_code 44 = .ok (.aload_n 0, 1) := by decide +kernel
theorem d_Mo_invoiceOf_45 : decode prog_14_method_44_code 45 = .ok (.iload_n 1, 1) := by decide +kernel
theorem d_Mo_invoiceOf_46 : decode prog_14_method_44_code 46 = .ok (.iload_n 2, 1) := by decide +kernel
theorem d_Mo_invoiceOf_47 : decode prog_14_method_44_code 47 = .ok (.invokevirtual 148, 3) := by decide +kernel
theorem d_Mo_invoiceOf_50 : decode prog_14_method_44_code 50 = .ok (.istore 4, 2) := by decide +kernel
theorem d_Mo_invoiceOf_52 : decode prog_14_method_44_code 52 = .ok (.iload_n 3, 1) := by decide +kernel
theorem d_Mo_invoiceOf_53 : decode prog_14_method_44_code 53 = .ok (.tableswitch 117 0 3 #[31, 56, 82, 91], 31) := by decide +kernel
theorem d_Mo_invoiceOf_170 : decode prog_14_method_44_code 170 = .ok (.ldc2_w 208, 3) := by decide +kernel
theorem wC_NumberOfficeModel_208 : Cond.constantLong "NumberOfficeModel" 208 (-1) ∈ ztb := ztb_of 1465 (by decide +kernel) rfl
theorem d_Mo_invoiceOf_173 : decode prog_14_method_44_code 173 = .ok (.lreturn, 1) := by decide +kernel
theorem d_Mo_invoiceOf_144 : decode prog_14_method_44_code 144 = .ok (.aload_n 0, 1) := by decide +kernel
theorem d_Mo_invoiceOf_145 : decode prog_14_method_44_code 145 = .ok (.getfield 80, 3) := by decide +kernel
theorem d_Mo_invoiceOf_148 : decode prog_14_method_44_code 148 = .ok (.iload 4, 2) := by decide +kernel
theorem d_Mo_invoiceOf_150 : decode prog_14_method_44_code 150 = .ok (.baload, 1) := by decide +kernel
theorem d_Mo_invoiceOf_151 : decode prog_14_method_44_code 151 = .ok (.iconst 3, 1) := by decide +kernel
theorem d_Mo_invoiceOf_152 : decode prog_14_method_44_code 152 = .ok (.if_icmp .ne 14, 3) := by decide +kernel
theorem d_Mo_invoiceOf_166 : decode prog_14_method_44_code 166 = .ok (.ldc2_w 208, 3) := by decide +kernel
theorem d_Mo_invoiceOf_155 : decode prog_14_method_44_code 155 = .ok (.aload_n 0, 1) := by decide +kernel
theorem d_Mo_invoiceOf_156 : decode prog_14_method_44_code 156 = .ok (.getfield 92, 3) := by decide +kernel
theorem d_Mo_invoiceOf_159 : decode prog_14_method_44_code 159 = .ok (.iload 4, 2) := by decide +kernel
theorem d_Mo_invoiceOf_161 : decode prog_14_method_44_code 161 = .ok (.baload, 1) := by decide +kernel
theorem d_Mo_invoiceOf_162 : decode prog_14_method_44_code 162 = .ok (.i2l, 1) := by decide +kernel
theorem d_Mo_invoiceOf_163 : decode prog_14_method_44_code 163 = .ok (.goto 6, 3) := by decide +kernel
theorem d_Mo_invoiceOf_135 : decode prog_14_method_44_code 135 = .ok (.aload_n 0, 1) := by decide +kernel
theorem d_Mo_invoiceOf_136 : decode prog_14_method_44_code 136 = .ok (.getfield 83, 3) := by decide +kernel
theorem d_Mo_invoiceOf_139 : decode prog_14_method_44_code 139 = .ok (.iload 4, 2) := by decide +kernel
theorem d_Mo_invoiceOf_141 : decode prog_14_method_44_code 141 = .ok (.baload, 1) := by decide +kernel
theorem d_Mo_invoiceOf_142 : decode prog_14_method_44_code 142 = .ok (.i2l, 1) := by decide +kernel
theorem d_Mo_invoiceOf_143 : decode prog_14_method_44_code 143 = .ok (.lreturn, 1) := by decide +kernel
theorem d_Mo_invoiceOf_109 : decode prog_14_method_44_code 109 = .ok (.aload_n 0, 1) := by decide +kernel
theorem d_Mo_invoiceOf_110 : decode prog_14_method_44_code 110 = .ok (.getfield 80, 3) := by decide +kernel
theorem d_Mo_invoiceOf_113 : decode prog_14_method_44_code 113 = .ok (.iload 4, 2) := by decide +kernel
theorem d_Mo_invoiceOf_115 : decode prog_14_method_44_code 115 = .ok (.baload, 1) := by decide +kernel
theorem d_Mo_invoiceOf_116 : decode prog_14_method_44_code 116 = .ok (.iconst 2, 1) := by decide +kernel
theorem d_Mo_invoiceOf_117 : decode prog_14_method_44_code 117 = .ok (.if_icmp .ne 14, 3) := by decide +kernel
theorem d_Mo_invoiceOf_131 : decode prog_14_method_44_code 131 = .ok (.ldc2_w 208, 3) := by decide +kernel
theorem d_Mo_invoiceOf_120 : decode prog_14_method_44_code 120 = .ok (.aload_n 0, 1) := by decide +kernel
theorem d_Mo_invoiceOf_121 : decode prog_14_method_44_code 121 = .ok (.getfield 89, 3) := by decide +kernel
theorem d_Mo_invoiceOf_124 : decode prog_14_method_44_code 124 = .ok (.iload 4, 2) := by decide +kernel
theorem d_Mo_invoiceOf_126 : decode prog_14_method_44_code 126 = .ok (.iaload, 1) := by decide +kernel
theorem d_Mo_invoiceOf_127 : decode prog_14_method_44_code 127 = .ok (.i2l, 1) := by decide +kernel
theorem d_Mo_invoiceOf_128 : decode prog_14_method_44_code 128 = .ok (.goto 6, 3) := by decide +kernel
theorem d_Mo_invoiceOf_84 : decode prog_14_method_44_code 84 = .ok (.aload_n 0, 1) := by decide +kernel
theorem d_Mo_invoiceOf_85 : decode prog_14_method_44_code 85 = .ok (.getfield 80, 3) := by decide +kernel
theorem d_Mo_invoiceOf_88 : decode prog_14_method_44_code 88 = .ok (.iload 4, 2) := by decide +kernel
theorem d_Mo_invoiceOf_90 : decode prog_14_method_44_code 90 = .ok (.baload, 1) := by decide +kernel
theorem d_Mo_invoiceOf_91 : decode prog_14_method_44_code 91 = .ok (.iconst 2, 1) := by decide +kernel
theorem d_Mo_invoiceOf_92 : decode prog_14_method_44_code 92 = .ok (.if_icmp .ne 13, 3) := by decide +kernel
theorem d_Mo_invoiceOf_105 : decode prog_14_method_44_code 105 = .ok (.ldc2_w 208, 3) := by decide +kernel
theorem d_Mo_invoiceOf_95 : decode prog_14_method_44_code 95 = .ok (.aload_n 0, 1) := by decide +kernel
theorem d_Mo_invoiceOf_96 : decode prog_14_method_44_code 96 = .ok (.getfield 86, 3) := by decide +kernel
theorem d_Mo_invoiceOf_99 : decode prog_14_method_44_code 99 = .ok (.iload 4, 2) := by decide +kernel
theorem d_Mo_invoiceOf_101 : decode prog_14_method_44_code 101 = .ok (.laload, 1) := by decide +kernel
theorem d_Mo_invoiceOf_102 : decode prog_14_method_44_code 102 = .ok (.goto 6, 3) := by decide +kernel
theorem d_Mo_invoiceOf_40 : decode prog_14_method_44_code 40 = .ok (.ldc2_w 208, 3) := by decide +kernel
theorem d_Mo_invoiceOf_43 : decode prog_14_method_44_code 43 = .ok (.lreturn, 1) := by decide +kernel
theorem d_Mo_invoiceOf_29 : decode prog_14_method_44_code 29 = .ok (.lconst 0, 1) := by decide +kernel
theorem d_Mo_invoiceOf_30 : decode prog_14_method_44_code 30 = .ok (.lreturn, 1) := by decide +kernel
theorem d_Mo_invoiceOf_169 : decode prog_14_method_44_code 169 = .ok (.lreturn, 1) := by decide +kernel
theorem d_Mo_invoiceOf_134 : decode prog_14_method_44_code 134 = .ok (.lreturn, 1) := by decide +kernel
theorem d_Mo_invoiceOf_108 : decode prog_14_method_44_code 108 = .ok (.lreturn, 1) := by decide +kernel
abbrev Y_Mo_total : MethodName := ⟨"NumberOfficeModel", "total", "(II)J"⟩
abbrev K_Mo_total : zM := (prog_14_method_46_code, 3, "NumberOfficeModel", (some .long), false, [])
theorem d_Mo_total_0 : decode prog_14_method_46_code 0 = .ok (.aload_n 0, 1) := by decide +kernel
theorem d_Mo_total_1 : decode prog_14_method_46_code 1 = .ok (.aload_n 0, 1) := by decide +kernel
theorem d_Mo_total_2 : decode prog_14_method_46_code 2 = .ok (.getfield 7, 3) := by decide +kernel
theorem d_Mo_total_5 : decode prog_14_method_46_code 5 = .ok (.aload_n 0, 1) := by decide +kernel
theorem d_Mo_total_6 : decode prog_14_method_46_code 6 = .ok (.getfield 116, 3) := by decide +kernel
theorem d_Mo_total_9 : decode prog_14_method_46_code 9 = .ok (.baload, 1) := by decide +kernel
theorem d_Mo_total_10 : decode prog_14_method_46_code 10 = .ok (.ifCond .eq 7, 3) := by decide +kernel
theorem d_Mo_total_17 : decode prog_14_method_46_code 17 = .ok (.iconst 0, 1) := by decide +kernel
theorem d_Mo_total_13 : decode prog_14_method_46_code 13 = .ok (.iconst 1, 1) := by decide +kernel
theorem d_Mo_total_14 : decode prog_14_method_46_code 14 = .ok (.goto 4, 3) := by decide +kernel
theorem d_Mo_total_18 : decode prog_14_method_46_code 18 = .ok (.putfield 120, 3) := by decide +kernel
theorem d_Mo_total_21 : decode prog_14_method_46_code 21 = .ok (.aload_n 0, 1) := by decide +kernel
theorem d_Mo_total_22 : decode prog_14_method_46_code 22 = .ok (.getfield 120, 3) := by decide +kernel
theorem d_Mo_total_25 : decode prog_14_method_46_code 25 = .ok (.ifCond .ne 27, 3) := by decide +kernel
theorem d_Mo_total_28 : decode prog_14_method_46_code 28 = .ok (.iload_n 1, 1) := by decide +kernel
theorem d_Mo_total_29 : decode prog_14_method_46_code 29 = .ok (.invokestatic 144, 3) := by decide +kernel
theorem d_Mo_total_32 : decode prog_14_method_46_code 32 = .ok (.ifCond .eq 20, 3) := by decide +kernel
theorem d_Mo_total_35 : decode prog_14_method_46_code 35 = .ok (.aload_n 0, 1) := by decide +kernel
theorem d_Mo_total_36 : decode prog_14_method_46_code 36 = .ok (.iload_n 2, 1) := by decide +kernel
theorem d_Mo_total_37 : decode prog_14_method_46_code 37 = .ok (.invokevirtual 163, 3) := by decide +kernel
theorem d_Mo_total_40 : decode prog_14_method_46_code 40 = .ok (.ifCond .eq 12, 3) := by decide +kernel
theorem d_Mo_total_43 : decode prog_14_method_46_code 43 = .ok (.aload_n 0, 1) := by decide +kernel
theorem d_Mo_total_44 : decode prog_14_method_46_code 44 = .ok (.iload_n 1, 1) := by decide +kernel
theorem d_Mo_total_45 : decode prog_14_method_46_code 45 = .ok (.iload_n 2, 1) := by decide +kernel
theorem d_Mo_total_46 : decode prog_14_method_46_code 46 = .ok (.invokevirtual 210, 3) := by decide +kernel
abbrev Y_Mo_sum : MethodName := ⟨"NumberOfficeModel", "sum", "(II)J"⟩
abbrev K_Mo_sum : zM := (prog_14_method_45_code, 7, "NumberOfficeModel", (some .long), false, [])
theorem d_Mo_sum_0 : decode prog_14_method_45_code 0 = .ok (.lconst 0, 1) := by decide +kernel
theorem d_Mo_sum_1 : decode prog_14_method_45_code 1 = .ok (.lstore_n 3, 1) := by decide +kernel
theorem d_Mo_sum_2 : decode prog_14_method_45_code 2 = .ok (.iconst 1, 1) := by decide +kernel
theorem d_Mo_sum_3 : decode prog_14_method_45_code 3 = .ok (.istore 5, 2) := by decide +kernel
theorem d_Mo_sum_5 : decode prog_14_method_45_code 5 = .ok (.iload 5, 2) := by decide +kernel
theorem d_Mo_sum_7 : decode prog_14_method_45_code 7 = .ok (.aload_n 0, 1) := by decide +kernel
theorem d_Mo_sum_8 : decode prog_14_method_45_code 8 = .ok (.getfield 77, 3) := by decide +kernel
theorem d_Mo_sum_11 : decode prog_14_method_45_code 11 = .ok (.iload_n 1, 1) := by decide +kernel
theorem d_Mo_sum_12 : decode prog_14_method_45_code 12 = .ok (.iaload, 1) := by decide +kernel
theorem d_Mo_sum_13 : decode prog_14_method_45_code 13 = .ok (.if_icmp .gt 60, 3) := by decide +kernel
theorem d_Mo_sum_73 : decode prog_14_method_45_code 73 = .ok (.lload_n 3, 1) := by decide +kernel
theorem d_Mo_sum_74 : decode prog_14_method_45_code 74 = .ok (.lreturn, 1) := by decide +kernel
theorem d_Mo_sum_16 : decode prog_14_method_45_code 16 = .ok (.aload_n 0, 1) := by decide +kernel
theorem d_Mo_sum_17 : decode prog_14_method_45_code 17 = .ok (.iload_n 1, 1) := by decide +kernel
theorem d_Mo_sum_18 : decode prog_14_method_45_code 18 = .ok (.iload 5, 2) := by decide +kernel
theorem d_Mo_sum_20 : decode prog_14_method_45_code 20 = .ok (.invokevirtual 148, 3) := by decide +kernel
theorem d_Mo_sum_23 : decode prog_14_method_45_code 23 = .ok (.istore 6, 2) := by decide +kernel
theorem d_Mo_sum_25 : decode prog_14_method_45_code 25 = .ok (.lload_n 3, 1) := by decide +kernel
theorem d_Mo_sum_26 : decode prog_14_method_45_code 26 = .ok (.aload_n 0, 1) := by decide +kernel
theorem d_Mo_sum_27 : decode prog_14_method_45_code 27 = .ok (.getfield 80, 3) := by decide +kernel
theorem d_Mo_sum_30 : decode prog_14_method_45_code 30 = .ok (.iload 6, 2) := by decide +kernel
theorem d_Mo_sum_32 : decode prog_14_method_45_code 32 = .ok (.baload, 1) := by decide +kernel
theorem d_Mo_sum_33 : decode prog_14_method_45_code 33 = .ok (.iconst 2, 1) := by decide +kernel
theorem d_Mo_sum_34 : decode prog_14_method_45_code 34 = .ok (.if_icmp .ne 30, 3) := by decide +kernel
theorem d_Mo_sum_37 : decode prog_14_method_45_code 37 = .ok (.iload_n 2, 1) := by decide +kernel
theorem d_Mo_sum_38 : decode prog_14_method_45_code 38 = .ok (.bipush 6, 2) := by decide +kernel
theorem d_Mo_sum_40 : decode prog_14_method_45_code 40 = .ok (.if_icmp .eq 14, 3) := by decide +kernel
theorem d_Mo_sum_43 : decode prog_14_method_45_code 43 = .ok (.aload_n 0, 1) := by decide +kernel
theorem d_Mo_sum_44 : decode prog_14_method_45_code 44 = .ok (.getfield 83, 3) := by decide +kernel
theorem d_Mo_sum_47 : decode prog_14_method_45_code 47 = .ok (.iload 6, 2) := by decide +kernel
theorem d_Mo_sum_49 : decode prog_14_method_45_code 49 = .ok (.baload, 1) := by decide +kernel
theorem d_Mo_sum_50 : decode prog_14_method_45_code 50 = .ok (.iload_n 2, 1) := by decide +kernel
theorem d_Mo_sum_51 : decode prog_14_method_45_code 51 = .ok (.if_icmp .ne 13, 3) := by decide +kernel
theorem d_Mo_sum_64 : decode prog_14_method_45_code 64 = .ok (.lconst 0, 1) := by decide +kernel
theorem d_Mo_sum_54 : decode prog_14_method_45_code 54 = .ok (.aload_n 0, 1) := by decide +kernel
theorem d_Mo_sum_55 : decode prog_14_method_45_code 55 = .ok (.getfield 86, 3) := by decide +kernel
theorem d_Mo_sum_58 : decode prog_14_method_45_code 58 = .ok (.iload 6, 2) := by decide +kernel
theorem d_Mo_sum_60 : decode prog_14_method_45_code 60 = .ok (.laload, 1) := by decide +kernel
theorem d_Mo_sum_61 : decode prog_14_method_45_code 61 = .ok (.goto 4, 3) := by decide +kernel
theorem d_Mo_sum_65 : decode prog_14_method_45_code 65 = .ok (.ladd, 1) := by decide +kernel
theorem d_Mo_sum_66 : decode prog_14_method_45_code 66 = .ok (.lstore_n 3, 1) := by decide +kernel
theorem d_Mo_sum_67 : decode prog_14_method_45_code 67 = .ok (.iinc 5 1, 3) := by decide +kernel
theorem d_Mo_sum_70 : decode prog_14_method_45_code 70 = .ok (.goto (-65), 3) := by decide +kernel
abbrev Y_Mo_branchFate : MethodName := ⟨"NumberOfficeModel", "branchFate", "(III)I"⟩
abbrev K_Mo_branchFate : zM := (prog_14_method_47_code, 5, "NumberOfficeModel", (some .int), false, [])
theorem d_Mo_branchFate_0 : decode prog_14_method_47_code 0 = .ok (.aload_n 0, 1) := by decide +kernel
theorem d_Mo_branchFate_1 : decode prog_14_method_47_code 1 = .ok (.iconst 0, 1) := by decide +kernel
theorem d_Mo_branchFate_2 : decode prog_14_method_47_code 2 = .ok (.putfield 120, 3) := by decide +kernel
theorem d_Mo_branchFate_5 : decode prog_14_method_47_code 5 = .ok (.aload_n 0, 1) := by decide +kernel
theorem d_Mo_branchFate_6 : decode prog_14_method_47_code 6 = .ok (.iload_n 1, 1) := by decide +kernel
theorem d_Mo_branchFate_7 : decode prog_14_method_47_code 7 = .ok (.invokevirtual 163, 3) := by decide +kernel
theorem d_Mo_branchFate_10 : decode prog_14_method_47_code 10 = .ok (.ifCond .eq 19, 3) := by decide +kernel
theorem d_Mo_branchFate_13 : decode prog_14_method_47_code 13 = .ok (.iload_n 2, 1) := by decide +kernel
theorem d_Mo_branchFate_14 : decode prog_14_method_47_code 14 = .ok (.invokestatic 144, 3) := by decide +kernel
theorem d_Mo_branchFate_17 : decode prog_14_method_47_code 17 = .ok (.ifCond .eq 12, 3) := by decide +kernel
theorem d_Mo_branchFate_20 : decode prog_14_method_47_code 20 = .ok (.aload_n 0, 1) := by decide +kernel
theorem d_Mo_branchFate_21 : decode prog_14_method_47_code 21 = .ok (.getfield 7, 3) := by decide +kernel
theorem d_Mo_branchFate_24 : decode prog_14_method_47_code 24 = .ok (.iload_n 1, 1) := by decide +kernel
theorem d_Mo_branchFate_25 : decode prog_14_method_47_code 25 = .ok (.baload, 1) := by decide +kernel
theorem d_Mo_branchFate_26 : decode prog_14_method_47_code 26 = .ok (.ifCond .eq 5, 3) := by decide +kernel
theorem d_Mo_branchFate_31 : decode prog_14_method_47_code 31 = .ok (.aload_n 0, 1) := by decide +kernel
theorem d_Mo_branchFate_32 : decode prog_14_method_47_code 32 = .ok (.iconst 3, 1) := by decide +kernel
theorem d_Mo_branchFate_33 : decode prog_14_method_47_code 33 = .ok (.iload_n 1, 1) := by decide +kernel
theorem d_Mo_branchFate_34 : decode prog_14_method_47_code 34 = .ok (.imul, 1) := by decide +kernel
theorem d_Mo_branchFate_35 : decode prog_14_method_47_code 35 = .ok (.iload_n 2, 1) := by decide +kernel
theorem d_Mo_branchFate_36 : decode prog_14_method_47_code 36 = .ok (.iadd, 1) := by decide +kernel
theorem d_Mo_branchFate_37 : decode prog_14_method_47_code 37 = .ok (.iload_n 3, 1) := by decide +kernel
theorem d_Mo_branchFate_38 : decode prog_14_method_47_code 38 = .ok (.invokevirtual 186, 3) := by decide +kernel
theorem wV_NumberOfficeModel_186 : zVl "NumberOfficeModel" 186 14 Y_Mo_find K_Mo_find 2 := ⟨zR_NumberOfficeModel, zF_NumberOfficeModel, 40, rfl, ztb_of 1373 (by decide +kernel) rfl, ztb_of 1375 (by decide +kernel) rfl, ztb_of 27 (by decide +kernel) rfl, ztb_of 53 (by decide +kernel) rfl, ztb_of 1376 (by decide +kernel) rfl, by decide, by decide +kernel⟩
theorem d_Mo_branchFate_41 : decode prog_14_method_47_code 41 = .ok (.istore 4, 2) := by decide +kernel
theorem d_Mo_branchFate_43 : decode prog_14_method_47_code 43 = .ok (.iload 4, 2) := by decide +kernel
theorem d_Mo_branchFate_45 : decode prog_14_method_47_code 45 = .ok (.iconst (-1), 1) := by decide +kernel
theorem d_Mo_branchFate_46 : decode prog_14_method_47_code 46 = .ok (.if_icmp .ne 7, 3) := by decide +kernel
theorem d_Mo_branchFate_53 : decode prog_14_method_47_code 53 = .ok (.aload_n 0, 1) := by decide +kernel
theorem d_Mo_branchFate_54 : decode prog_14_method_47_code 54 = .ok (.getfield 36, 3) := by decide +kernel
theorem d_Mo_branchFate_57 : decode prog_14_method_47_code 57 = .ok (.sipush 300, 3) := by decide +kernel
theorem d_Mo_branchFate_60 : decode prog_14_method_47_code 60 = .ok (.iconst 3, 1) := by decide +kernel
theorem d_Mo_branchFate_61 : decode prog_14_method_47_code 61 = .ok (.iload_n 1, 1) := by decide +kernel
theorem d_Mo_branchFate_62 : decode prog_14_method_47_code 62 = .ok (.imul, 1) := by decide +kernel
theorem d_Mo_branchFate_63 : decode prog_14_method_47_code 63 = .ok (.iload_n 2, 1) := by decide +kernel
theorem d_Mo_branchFate_64 : decode prog_14_method_47_code 64 = .ok (.iadd, 1) := by decide +kernel
theorem d_Mo_branchFate_65 : decode prog_14_method_47_code 65 = .ok (.imul, 1) := by decide +kernel
theorem d_Mo_branchFate_66 : decode prog_14_method_47_code 66 = .ok (.iload 4, 2) := by decide +kernel
theorem d_Mo_branchFate_68 : decode prog_14_method_47_code 68 = .ok (.iadd, 1) := by decide +kernel
theorem d_Mo_branchFate_69 : decode prog_14_method_47_code 69 = .ok (.baload, 1) := by decide +kernel
theorem d_Mo_branchFate_49 : decode prog_14_method_47_code 49 = .ok (.iconst 0, 1) := by decide +kernel
theorem d_Mo_branchFate_50 : decode prog_14_method_47_code 50 = .ok (.goto 20, 3) := by decide +kernel
theorem d_Mo_branchFate_29 : decode prog_14_method_47_code 29 = .ok (.iconst (-1), 1) := by decide +kernel
theorem d_Mo_branchFate_30 : decode prog_14_method_47_code 30 = .ok (.ireturn, 1) := by decide +kernel
theorem d_Mo_branchFate_70 : decode prog_14_method_47_code 70 = .ok (.ireturn, 1) := by decide +kernel
abbrev Y_Mo_branch : MethodName := ⟨"NumberOfficeModel", "branch", "(II)I"⟩
abbrev K_Mo_branch : zM := (prog_14_method_48_code, 3, "NumberOfficeModel", (some .int), false, [])
theorem d_Mo_branch_0 : decode prog_14_method_48_code 0 = .ok (.aload_n 0, 1) := by decide +kernel
theorem d_Mo_branch_1 : decode prog_14_method_48_code 1 = .ok (.iconst 0, 1) := by decide +kernel
theorem d_Mo_branch_2 : decode prog_14_method_48_code 2 = .ok (.putfield 120, 3) := by decide +kernel
theorem d_Mo_branch_5 : decode prog_14_method_48_code 5 = .ok (.aload_n 0, 1) := by decide +kernel
theorem d_Mo_branch_6 : decode prog_14_method_48_code 6 = .ok (.iload_n 1, 1) := by decide +kernel
theorem d_Mo_branch_7 : decode prog_14_method_48_code 7 = .ok (.invokevirtual 163, 3) := by decide +kernel
theorem d_Mo_branch_10 : decode prog_14_method_48_code 10 = .ok (.ifCond .eq 12, 3) := by decide +kernel
theorem d_Mo_branch_13 : decode prog_14_method_48_code 13 = .ok (.aload_n 0, 1) := by decide +kernel
theorem d_Mo_branch_14 : decode prog_14_method_48_code 14 = .ok (.getfield 7, 3) := by decide +kernel
theorem d_Mo_branch_17 : decode prog_14_method_48_code 17 = .ok (.iload_n 1, 1) := by decide +kernel
theorem d_Mo_branch_18 : decode prog_14_method_48_code 18 = .ok (.baload, 1) := by decide +kernel
theorem d_Mo_branch_19 : decode prog_14_method_48_code 19 = .ok (.ifCond .eq 5, 3) := by decide +kernel
theorem d_Mo_branch_24 : decode prog_14_method_48_code 24 = .ok (.iload_n 2, 1) := by decide +kernel
theorem d_Mo_branch_25 : decode prog_14_method_48_code 25 = .ok (.tableswitch 102 0 5 #[39, 54, 61, 76, 76, 76], 39) := by decide +kernel
theorem d_Mo_branch_127 : decode prog_14_method_48_code 127 = .ok (.iconst (-1), 1) := by decide +kernel
theorem d_Mo_branch_128 : decode prog_14_method_48_code 128 = .ok (.ireturn, 1) := by decide +kernel
theorem d_Mo_branch_86 : decode prog_14_method_48_code 86 = .ok (.aload_n 0, 1) := by decide +kernel
theorem d_Mo_branch_87 : decode prog_14_method_48_code 87 = .ok (.getfield 68, 3) := by decide +kernel
theorem d_Mo_branch_90 : decode prog_14_method_48_code 90 = .ok (.iload_n 1, 1) := by decide +kernel
theorem d_Mo_branch_91 : decode prog_14_method_48_code 91 = .ok (.baload, 1) := by decide +kernel
theorem d_Mo_branch_92 : decode prog_14_method_48_code 92 = .ok (.ifCond .eq 7, 3) := by decide +kernel
theorem d_Mo_branch_99 : decode prog_14_method_48_code 99 = .ok (.iconst 0, 1) := by decide +kernel
theorem d_Mo_branch_95 : decode prog_14_method_48_code 95 = .ok (.iconst 1, 1) := by decide +kernel
theorem d_Mo_branch_96 : decode prog_14_method_48_code 96 = .ok (.goto 4, 3) := by decide +kernel
theorem d_Mo_branch_79 : decode prog_14_method_48_code 79 = .ok (.aload_n 0, 1) := by decide +kernel
theorem d_Mo_branch_80 : decode prog_14_method_48_code 80 = .ok (.getfield 53, 3) := by decide +kernel
theorem d_Mo_branch_83 : decode prog_14_method_48_code 83 = .ok (.iload_n 1, 1) := by decide +kernel
theorem d_Mo_branch_84 : decode prog_14_method_48_code 84 = .ok (.iaload, 1) := by decide +kernel
theorem d_Mo_branch_85 : decode prog_14_method_48_code 85 = .ok (.ireturn, 1) := by decide +kernel
theorem d_Mo_branch_64 : decode prog_14_method_48_code 64 = .ok (.aload_n 0, 1) := by decide +kernel
theorem d_Mo_branch_65 : decode prog_14_method_48_code 65 = .ok (.getfield 65, 3) := by decide +kernel
theorem d_Mo_branch_68 : decode prog_14_method_48_code 68 = .ok (.iload_n 1, 1) := by decide +kernel
theorem d_Mo_branch_69 : decode prog_14_method_48_code 69 = .ok (.baload, 1) := by decide +kernel
theorem d_Mo_branch_70 : decode prog_14_method_48_code 70 = .ok (.ifCond .eq 7, 3) := by decide +kernel
theorem d_Mo_branch_77 : decode prog_14_method_48_code 77 = .ok (.iconst 0, 1) := by decide +kernel
theorem d_Mo_branch_73 : decode prog_14_method_48_code 73 = .ok (.iconst 1, 1) := by decide +kernel
theorem d_Mo_branch_74 : decode prog_14_method_48_code 74 = .ok (.goto 4, 3) := by decide +kernel
theorem d_Mo_branch_22 : decode prog_14_method_48_code 22 = .ok (.iconst (-1), 1) := by decide +kernel
theorem d_Mo_branch_23 : decode prog_14_method_48_code 23 = .ok (.ireturn, 1) := by decide +kernel
theorem d_Mo_branch_101 : decode prog_14_method_48_code 101 = .ok (.aload_n 0, 1) := by decide +kernel
theorem d_Mo_branch_102 : decode prog_14_method_48_code 102 = .ok (.getfield 23, 3) := by decide +kernel
theorem d_Mo_branch_105 : decode prog_14_method_48_code 105 = .ok (.iconst 3, 1) := by decide +kernel
theorem d_Mo_branch_106 : decode prog_14_method_48_code 106 = .ok (.iload_n 1, 1) := by decide +kernel
theorem d_Mo_branch_107 : decode prog_14_method_48_code 107 = .ok (.imul, 1) := by decide +kernel
theorem d_Mo_branch_108 : decode prog_14_method_48_code 108 = .ok (.iload_n 2, 1) := by decide +kernel
theorem d_Mo_branch_109 : decode prog_14_method_48_code 109 = .ok (.iadd, 1) := by decide +kernel
theorem d_Mo_branch_110 : decode prog_14_method_48_code 110 = .ok (.iconst 3, 1) := by decide +kernel
theorem d_Mo_branch_111 : decode prog_14_method_48_code 111 = .ok (.isub, 1) := by decide +kernel
theorem d_Mo_branch_112 : decode prog_14_method_48_code 112 = .ok (.iaload, 1) := by decide +kernel
theorem d_Mo_branch_113 : decode prog_14_method_48_code 113 = .ok (.aload_n 0, 1) := by decide +kernel
theorem d_Mo_branch_114 : decode prog_14_method_48_code 114 = .ok (.getfield 26, 3) := by decide +kernel
theorem d_Mo_branch_117 : decode prog_14_method_48_code 117 = .ok (.iconst 3, 1) := by decide +kernel
theorem d_Mo_branch_118 : decode prog_14_method_48_code 118 = .ok (.iload_n 1, 1) := by decide +kernel
theorem d_Mo_branch_119 : decode prog_14_method_48_code 119 = .ok (.imul, 1) := by decide +kernel
theorem d_Mo_branch_120 : decode prog_14_method_48_code 120 = .ok (.iload_n 2, 1) := by decide +kernel
theorem d_Mo_branch_121 : decode prog_14_method_48_code 121 = .ok (.iadd, 1) := by decide +kernel
theorem d_Mo_branch_122 : decode prog_14_method_48_code 122 = .ok (.iconst 3, 1) := by decide +kernel
theorem d_Mo_branch_123 : decode prog_14_method_48_code 123 = .ok (.isub, 1) := by decide +kernel
theorem d_Mo_branch_124 : decode prog_14_method_48_code 124 = .ok (.iaload, 1) := by decide +kernel
theorem d_Mo_branch_125 : decode prog_14_method_48_code 125 = .ok (.isub, 1) := by decide +kernel
theorem d_Mo_branch_126 : decode prog_14_method_48_code 126 = .ok (.ireturn, 1) := by decide +kernel
theorem d_Mo_branch_100 : decode prog_14_method_48_code 100 = .ok (.ireturn, 1) := by decide +kernel
theorem d_Mo_branch_78 : decode prog_14_method_48_code 78 = .ok (.ireturn, 1) := by decide +kernel
abbrev Y_Mo_listByte : MethodName := ⟨"NumberOfficeModel", "listByte", "(II)I"⟩
abbrev K_Mo_listByte : zM := (prog_14_method_52_code, 5, "NumberOfficeModel", (some .int), false, [])
theorem d_Mo_listByte_0 : decode prog_14_method_52_code 0 = .ok (.aload_n 0, 1) := by decide +kernel
theorem d_Mo_listByte_1 : decode prog_14_method_52_code 1 = .ok (.aload_n 0, 1) := by decide +kernel
theorem d_Mo_listByte_2 : decode prog_14_method_52_code 2 = .ok (.getfield 7, 3) := by decide +kernel
theorem d_Mo_listByte_5 : decode prog_14_method_52_code 5 = .ok (.aload_n 0, 1) := by decide +kernel
theorem d_Mo_listByte_6 : decode prog_14_method_52_code 6 = .ok (.getfield 116, 3) := by decide +kernel
theorem d_Mo_listByte_9 : decode prog_14_method_52_code 9 = .ok (.baload, 1) := by decide +kernel
theorem d_Mo_listByte_10 : decode prog_14_method_52_code 10 = .ok (.ifCond .eq 7, 3) := by decide +kernel
theorem d_Mo_listByte_17 : decode prog_14_method_52_code 17 = .ok (.iconst 0, 1) := by decide +kernel
theorem d_Mo_listByte_13 : decode prog_14_method_52_code 13 = .ok (.iconst 1, 1) := by decide +kernel
theorem d_Mo_listByte_14 : decode prog_14_method_52_code 14 = .ok (.goto 4, 3) := by decide +kernel
theorem d_Mo_listByte_18 : decode prog_14_method_52_code 18 = .ok (.putfield 120, 3) := by decide +kernel
theorem d_Mo_listByte_21 : decode prog_14_method_52_code 21 = .ok (.aload_n 0, 1) := by decide +kernel
theorem d_Mo_listByte_22 : decode prog_14_method_52_code 22 = .ok (.getfield 120, 3) := by decide +kernel
theorem d_Mo_listByte_25 : decode prog_14_method_52_code 25 = .ok (.iconst 1, 1) := by decide +kernel
theorem d_Mo_listByte_26 : decode prog_14_method_52_code 26 = .ok (.if_icmp .eq 24, 3) := by decide +kernel
theorem d_Mo_listByte_29 : decode prog_14_method_52_code 29 = .ok (.iload_n 1, 1) := by decide +kernel
theorem d_Mo_listByte_30 : decode prog_14_method_52_code 30 = .ok (.invokestatic 144, 3) := by decide +kernel
theorem d_Mo_listByte_33 : decode prog_14_method_52_code 33 = .ok (.ifCond .eq 17, 3) := by decide +kernel
theorem d_Mo_listByte_36 : decode prog_14_method_52_code 36 = .ok (.aload_n 0, 1) := by decide +kernel
theorem d_Mo_listByte_37 : decode prog_14_method_52_code 37 = .ok (.getfield 71, 3) := by decide +kernel
theorem d_Mo_listByte_40 : decode prog_14_method_52_code 40 = .ok (.iload_n 1, 1) := by decide +kernel
theorem d_Mo_listByte_41 : decode prog_14_method_52_code 41 = .ok (.iaload, 1) := by decide +kernel
theorem d_Mo_listByte_42 : decode prog_14_method_52_code 42 = .ok (.iconst 2, 1) := by decide +kernel
theorem d_Mo_listByte_43 : decode prog_14_method_52_code 43 = .ok (.if_icmp .ne 7, 3) := by decide +kernel
theorem d_Mo_listByte_46 : decode prog_14_method_52_code 46 = .ok (.iload_n 2, 1) := by decide +kernel
theorem d_Mo_listByte_47 : decode prog_14_method_52_code 47 = .ok (.ifCond .ge 17, 3) := by decide +kernel
theorem d_Mo_listByte_64 : decode prog_14_method_52_code 64 = .ok (.aload_n 0, 1) := by decide +kernel
theorem d_Mo_listByte_65 : decode prog_14_method_52_code 65 = .ok (.iload_n 2, 1) := by decide +kernel
theorem d_Mo_listByte_66 : decode prog_14_method_52_code 66 = .ok (.putfield 217, 3) := by decide +kernel
theorem wP_NumberOfficeModel_217_14 : zPl "NumberOfficeModel" 217 14 37 (.int) false := ⟨"NumberOfficeModel", zR_NumberOfficeModel, zF_NumberOfficeModel, 40, zY_NumberOfficeModel, rfl, zin_NumberOfficeModel, by decide, ztb_of 1208 (by decide +kernel) rfl, Or.inl rfl, zYok_NumberOfficeModel, zN_NumberOfficeModel, rfl, (fun h => by cases h), by decide +kernel⟩
theorem d_Mo_listByte_69 : decode prog_14_method_52_code 69 = .ok (.aload_n 0, 1) := by decide +kernel
theorem d_Mo_listByte_70 : decode prog_14_method_52_code 70 = .ok (.iconst 0, 1) := by decide +kernel
theorem d_Mo_listByte_71 : decode prog_14_method_52_code 71 = .ok (.putfield 214, 3) := by decide +kernel
theorem wP_NumberOfficeModel_214_14 : zPl "NumberOfficeModel" 214 14 38 (.int) false := ⟨"NumberOfficeModel", zR_NumberOfficeModel, zF_NumberOfficeModel, 40, zY_NumberOfficeModel, rfl, zin_NumberOfficeModel, by decide, ztb_of 1209 (by decide +kernel) rfl, Or.inl rfl, zYok_NumberOfficeModel, zN_NumberOfficeModel, rfl, (fun h => by cases h), by decide +kernel⟩
theorem d_Mo_listByte_74 : decode prog_14_method_52_code 74 = .ok (.aload_n 0, 1) := by decide +kernel
theorem d_Mo_listByte_75 : decode prog_14_method_52_code 75 = .ok (.iconst (-1), 1) := by decide +kernel
theorem d_Mo_listByte_76 : decode prog_14_method_52_code 76 = .ok (.putfield 220, 3) := by decide +kernel
theorem wP_NumberOfficeModel_220_14 : zPl "NumberOfficeModel" 220 14 39 (.int) false := ⟨"NumberOfficeModel", zR_NumberOfficeModel, zF_NumberOfficeModel, 40, zY_NumberOfficeModel, rfl, zin_NumberOfficeModel, by decide, ztb_of 1210 (by decide +kernel) rfl, Or.inl rfl, zYok_NumberOfficeModel, zN_NumberOfficeModel, rfl, (fun h => by cases h), by decide +kernel⟩
theorem d_Mo_listByte_79 : decode prog_14_method_52_code 79 = .ok (.iconst 1, 1) := by decide +kernel
theorem d_Mo_listByte_80 : decode prog_14_method_52_code 80 = .ok (.istore_n 3, 1) := by decide +kernel
theorem d_Mo_listByte_50 : decode prog_14_method_52_code 50 = .ok (.aload_n 0, 1) := by decide +kernel
theorem d_Mo_listByte_51 : decode prog_14_method_52_code 51 = .ok (.getfield 120, 3) := by decide +kernel
theorem d_Mo_listByte_54 : decode prog_14_method_52_code 54 = .ok (.iconst 1, 1) := by decide +kernel
theorem d_Mo_listByte_55 : decode prog_14_method_52_code 55 = .ok (.if_icmp .ne 7, 3) := by decide +kernel
theorem d_Mo_listByte_62 : decode prog_14_method_52_code 62 = .ok (.iconst (-1), 1) := by decide +kernel
theorem d_Mo_listByte_58 : decode prog_14_method_52_code 58 = .ok (.iconst 0, 1) := by decide +kernel
theorem d_Mo_listByte_59 : decode prog_14_method_52_code 59 = .ok (.goto 4, 3) := by decide +kernel
theorem d_Mo_listByte_81 : decode prog_14_method_52_code 81 = .ok (.iload_n 3, 1) := by decide +kernel
theorem d_Mo_listByte_82 : decode prog_14_method_52_code 82 = .ok (.aload_n 0, 1) := by decide +kernel
theorem d_Mo_listByte_83 : decode prog_14_method_52_code 83 = .ok (.getfield 77, 3) := by decide +kernel
theorem d_Mo_listByte_86 : decode prog_14_method_52_code 86 = .ok (.iload_n 1, 1) := by decide +kernel
theorem d_Mo_listByte_87 : decode prog_14_method_52_code 87 = .ok (.iaload, 1) := by decide +kernel
theorem d_Mo_listByte_88 : decode prog_14_method_52_code 88 = .ok (.if_icmp .gt 142, 3) := by decide +kernel
theorem d_Mo_listByte_230 : decode prog_14_method_52_code 230 = .ok (.aload_n 0, 1) := by decide +kernel
theorem d_Mo_listByte_231 : decode prog_14_method_52_code 231 = .ok (.bipush 84, 2) := by decide +kernel
theorem d_Mo_listByte_233 : decode prog_14_method_52_code 233 = .ok (.invokevirtual 223, 3) := by decide +kernel
abbrev Y_Mo_digits : MethodName := ⟨"NumberOfficeModel", "digits", "(J)V"⟩
abbrev K_Mo_digits : zM := (prog_14_method_50_code, 7, "NumberOfficeModel", none, false, [])
theorem d_Mo_digits_0 : decode prog_14_method_50_code 0 = .ok (.lload_n 1, 1) := by decide +kernel
theorem d_Mo_digits_1 : decode prog_14_method_50_code 1 = .ok (.lconst 0, 1) := by decide +kernel
theorem d_Mo_digits_2 : decode prog_14_method_50_code 2 = .ok (.lcmp, 1) := by decide +kernel
theorem d_Mo_digits_3 : decode prog_14_method_50_code 3 = .ok (.ifCond .ge 9, 3) := by decide +kernel
theorem d_Mo_digits_6 : decode prog_14_method_50_code 6 = .ok (.aload_n 0, 1) := by decide +kernel
theorem d_Mo_digits_7 : decode prog_14_method_50_code 7 = .ok (.bipush 45, 2) := by decide +kernel
theorem d_Mo_digits_9 : decode prog_14_method_50_code 9 = .ok (.invokevirtual 223, 3) := by decide +kernel
abbrev Y_Mo_put : MethodName := ⟨"NumberOfficeModel", "put", "(I)V"⟩
abbrev K_Mo_put : zM := (prog_14_method_49_code, 2, "NumberOfficeModel", none, false, [])
theorem d_Mo_put_0 : decode prog_14_method_49_code 0 = .ok (.aload_n 0, 1) := by decide +kernel
theorem d_Mo_put_1 : decode prog_14_method_49_code 1 = .ok (.aload_n 0, 1) := by decide +kernel
theorem d_Mo_put_2 : decode prog_14_method_49_code 2 = .ok (.getfield 214, 3) := by decide +kernel
theorem wF_NumberOfficeModel_214_14 : zFl "NumberOfficeModel" 214 14 38 := ⟨"NumberOfficeModel", zR_NumberOfficeModel, zF_NumberOfficeModel, 40, rfl, zin_NumberOfficeModel, by decide, ztb_of 1209 (by decide +kernel) rfl, Or.inl rfl⟩
theorem d_Mo_put_5 : decode prog_14_method_49_code 5 = .ok (.aload_n 0, 1) := by decide +kernel
theorem d_Mo_put_6 : decode prog_14_method_49_code 6 = .ok (.getfield 217, 3) := by decide +kernel
theorem wF_NumberOfficeModel_217_14 : zFl "NumberOfficeModel" 217 14 37 := ⟨"NumberOfficeModel", zR_NumberOfficeModel, zF_NumberOfficeModel, 40, rfl, zin_NumberOfficeModel, by decide, ztb_of 1208 (by decide +kernel) rfl, Or.inl rfl⟩
theorem d_Mo_put_9 : decode prog_14_method_49_code 9 = .ok (.if_icmp .ne 7, 3) := by decide +kernel
theorem d_Mo_put_16 : decode prog_14_method_49_code 16 = .ok (.aload_n 0, 1) := by decide +kernel
theorem d_Mo_put_17 : decode prog_14_method_49_code 17 = .ok (.getfield 220, 3) := by decide +kernel
theorem wF_NumberOfficeModel_220_14 : zFl "NumberOfficeModel" 220 14 39 := ⟨"NumberOfficeModel", zR_NumberOfficeModel, zF_NumberOfficeModel, 40, rfl, zin_NumberOfficeModel, by decide, ztb_of 1210 (by decide +kernel) rfl, Or.inl rfl⟩
theorem d_Mo_put_12 : decode prog_14_method_49_code 12 = .ok (.iload_n 1, 1) := by decide +kernel
theorem d_Mo_put_13 : decode prog_14_method_49_code 13 = .ok (.goto 7, 3) := by decide +kernel
theorem d_Mo_put_20 : decode prog_14_method_49_code 20 = .ok (.putfield 220, 3) := by decide +kernel
theorem d_Mo_put_23 : decode prog_14_method_49_code 23 = .ok (.aload_n 0, 1) := by decide +kernel
theorem d_Mo_put_24 : decode prog_14_method_49_code 24 = .ok (.dup, 1) := by decide +kernel
theorem d_Mo_put_25 : decode prog_14_method_49_code 25 = .ok (.getfield 214, 3) := by decide +kernel
theorem d_Mo_put_28 : decode prog_14_method_49_code 28 = .ok (.iconst 1, 1) := by decide +kernel
theorem d_Mo_put_29 : decode prog_14_method_49_code 29 = .ok (.iadd, 1) := by decide +kernel
theorem d_Mo_put_30 : decode prog_14_method_49_code 30 = .ok (.putfield 214, 3) := by decide +kernel
theorem d_Mo_put_33 : decode prog_14_method_49_code 33 = .ok (.return_, 1) := by decide +kernel
abbrev Y_Mo_money : MethodName := ⟨"NumberOfficeModel", "money", "(J)V"⟩
abbrev K_Mo_money : zM := (prog_14_method_51_code, 3, "NumberOfficeModel", none, false, [])
theorem d_Mo_money_0 : decode prog_14_method_51_code 0 = .ok (.aload_n 0, 1) := by decide +kernel
theorem d_Mo_money_1 : decode prog_14_method_51_code 1 = .ok (.lload_n 1, 1) := by decide +kernel
theorem d_Mo_money_2 : decode prog_14_method_51_code 2 = .ok (.ldc2_w 232, 3) := by decide +kernel
theorem wC_NumberOfficeModel_232 : Cond.constantLong "NumberOfficeModel" 232 100 ∈ ztb := ztb_of 1501 (by decide +kernel) rfl
theorem d_Mo_money_5 : decode prog_14_method_51_code 5 = .ok (.ldiv, 1) := by decide +kernel
theorem d_Mo_money_6 : decode prog_14_method_51_code 6 = .ok (.invokevirtual 234, 3) := by decide +kernel
theorem wX_NumberOffice_Branch_3 : zNi "NumberOffice$Branch" 3 Y_Side_init K_Side_init 0 := ⟨"NumberOffice", rfl, ztb_of 94 (by decide +kernel) rfl, ztb_of 95 (by decide +kernel) rfl, ztb_of 45 (by decide +kernel) rfl, rfl, rfl, ztb_of 96 (by decide +kernel) rfl, by decide, by decide +kernel⟩
theorem d_Branch_init_4 : decode prog_4_method_1_code 4 = .ok (.aload_n 0, 1) := by decide +kernel
theorem d_Branch_init_5 : decode prog_4_method_1_code 5 = .ok (.iconst 3, 1) := by decide +kernel
theorem d_Branch_init_6 : decode prog_4_method_1_code 6 = .ok (.anewarray 9, 3) := by decide +kernel
theorem wAo_NumberOffice_BranchSeries : Cond.arrayOver (.object "NumberOffice$BranchSeries") ∈ ztb := ztb_of 99 (by decide +kernel) rfl
theorem wL_NumberOffice_Branch_9 : Cond.classLink "NumberOffice$Branch" 9 "NumberOffice$BranchSeries" ∈ ztb := ztb_of 98 (by decide +kernel) rfl
theorem d_Branch_init_9 : decode prog_4_method_1_code 9 = .ok (.putfield 11, 3) := by decide +kernel
theorem wP_NumberOffice_Branch_11_1 : zPl "NumberOffice$Branch" 11 1 1 (.array (.object "NumberOffice$BranchSeries")) true := ⟨"NumberOffice$Branch", zR_Branch, zF_Branch, 9, zY_Branch, rfl, zin_Branch, by decide, ztb_of 166 (by decide +kernel) rfl, Or.inl rfl, zYok_Branch, zN_Branch, rfl, fun _ => rfl, by decide +kernel⟩
theorem d_Branch_init_12 : decode prog_4_method_1_code 12 = .ok (.aload_n 0, 1) := by decide +kernel
theorem d_Branch_init_13 : decode prog_4_method_1_code 13 = .ok (.iload_n 1, 1) := by decide +kernel
theorem d_Branch_init_14 : decode prog_4_method_1_code 14 = .ok (.putfield 17, 3) := by decide +kernel
theorem wP_NumberOffice_Branch_17_1 : zPl "NumberOffice$Branch" 17 1 0 (.int) true := ⟨"NumberOffice$Branch", zR_Branch, zF_Branch, 9, zY_Branch, rfl, zin_Branch, by decide, ztb_of 165 (by decide +kernel) rfl, Or.inl rfl, zYok_Branch, zN_Branch, rfl, fun _ => rfl, by decide +kernel⟩
theorem d_Branch_init_17 : decode prog_4_method_1_code 17 = .ok (.iconst 0, 1) := by decide +kernel
theorem d_Branch_init_18 : decode prog_4_method_1_code 18 = .ok (.istore_n 2, 1) := by decide +kernel
theorem d_Branch_init_19 : decode prog_4_method_1_code 19 = .ok (.iload_n 2, 1) := by decide +kernel
theorem d_Branch_init_20 : decode prog_4_method_1_code 20 = .ok (.iconst 3, 1) := by decide +kernel
theorem d_Branch_init_21 : decode prog_4_method_1_code 21 = .ok (.if_icmp .ge 22, 3) := by decide +kernel
theorem d_Branch_init_43 : decode prog_4_method_1_code 43 = .ok (.return_, 1) := by decide +kernel
theorem d_Branch_init_24 : decode prog_4_method_1_code 24 = .ok (.aload_n 0, 1) := by decide +kernel
theorem d_Branch_init_25 : decode prog_4_method_1_code 25 = .ok (.getfield 11, 3) := by decide +kernel
theorem d_Branch_init_28 : decode prog_4_method_1_code 28 = .ok (.iload_n 2, 1) := by decide +kernel
theorem d_Branch_init_29 : decode prog_4_method_1_code 29 = .ok (.new 9, 3) := by decide +kernel
theorem wN_NumberOffice_Branch_9 : zNl "NumberOffice$Branch" 9 2 10 [.null, .null, .int 0, .int 0, .int 0, .int 0, .int 0, .int 0, .int 0, .int 0] := ⟨zR_BranchSeries, zF_BranchSeries, zY_BranchSeries, rfl, zin_BranchSeries, zYok_BranchSeries, ztb_of 98 (by decide +kernel) rfl, ztb_of 100 (by decide +kernel) rfl, ztb_of 47 (by decide +kernel) rfl, by decide⟩
theorem d_Branch_init_32 : decode prog_4_method_1_code 32 = .ok (.dup, 1) := by decide +kernel
theorem d_Branch_init_33 : decode prog_4_method_1_code 33 = .ok (.invokespecial 21, 3) := by decide +kernel
theorem wI_java_util_AbstractList_1 : zIl "java/util/AbstractList" 1 Y_AbstractCollection_init K_AbstractCollection_init 0 := ⟨rfl, ztb_of 113 (by decide +kernel) rfl, ztb_of 114 (by decide +kernel) rfl, ztb_of 48 (by decide +kernel) rfl, rfl, rfl, ztb_of 115 (by decide +kernel) rfl, by decide, by decide +kernel⟩
theorem d_AbstractList_init_4 : decode prog_30_method_1_code 4 = .ok (.aload_n 0, 1) := by decide +kernel
theorem d_AbstractList_init_5 : decode prog_30_method_1_code 5 = .ok (.iconst 0, 1) := by decide +kernel
theorem d_AbstractList_init_6 : decode prog_30_method_1_code 6 = .ok (.putfield 7, 3) := by decide +kernel
theorem wP_java_util_AbstractList_7_3 : zPl "java/util/AbstractList" 7 3 2 (.int) false := ⟨"java/util/AbstractList", zR_ArrayList, zF_ArrayList, 3, zY_ArrayList, rfl, zin_ArrayList, by decide, ztb_of 121 (by decide +kernel) rfl, Or.inl rfl, zYok_ArrayList, zN_ArrayList, rfl, (fun h => by cases h), by decide +kernel⟩
theorem d_AbstractList_init_9 : decode prog_30_method_1_code 9 = .ok (.return_, 1) := by decide +kernel
theorem wX_NumberOffice_Office_20 : zNi "NumberOffice$Office" 20 Y_SeriesBook_init K_SeriesBook_init 0 := ⟨"NumberOffice", rfl, ztb_of 210 (by decide +kernel) rfl, ztb_of 211 (by decide +kernel) rfl, ztb_of 52 (by decide +kernel) rfl, rfl, rfl, ztb_of 212 (by decide +kernel) rfl, by decide, by decide +kernel⟩
theorem d_Office_init_39 : decode prog_10_method_1_code 39 = .ok (.aastore, 1) := by decide +kernel
theorem d_Office_init_40 : decode prog_10_method_1_code 40 = .ok (.aload_n 0, 1) := by decide +kernel
theorem d_Office_init_41 : decode prog_10_method_1_code 41 = .ok (.getfield 17, 3) := by decide +kernel
theorem d_Office_init_44 : decode prog_10_method_1_code 44 = .ok (.iload_n 2, 1) := by decide +kernel
theorem d_Office_init_45 : decode prog_10_method_1_code 45 = .ok (.new 9, 3) := by decide +kernel
theorem d_Office_init_48 : decode prog_10_method_1_code 48 = .ok (.dup, 1) := by decide +kernel
theorem d_Office_init_49 : decode prog_10_method_1_code 49 = .ok (.invokespecial 20, 3) := by decide +kernel
theorem d_Office_init_52 : decode prog_10_method_1_code 52 = .ok (.aastore, 1) := by decide +kernel
theorem d_Office_init_53 : decode prog_10_method_1_code 53 = .ok (.iinc 2 1, 3) := by decide +kernel
theorem d_Office_init_56 : decode prog_10_method_1_code 56 = .ok (.goto (-34), 3) := by decide +kernel
theorem d_BranchSeries_save_8 : decode prog_5_method_2_code 8 = .ok (.putfield 25, 3) := by decide +kernel
theorem wP_NumberOffice_BranchSeries_25_2 : zPl "NumberOffice$BranchSeries" 25 2 5 (.int) false := ⟨"NumberOffice$BranchSeries", zR_BranchSeries, zF_BranchSeries, 10, zY_BranchSeries, rfl, zin_BranchSeries, by decide, ztb_of 138 (by decide +kernel) rfl, Or.inl rfl, zYok_BranchSeries, zN_BranchSeries, rfl, (fun h => by cases h), by decide +kernel⟩
theorem d_BranchSeries_save_11 : decode prog_5_method_2_code 11 = .ok (.aload_n 0, 1) := by decide +kernel
theorem d_BranchSeries_save_12 : decode prog_5_method_2_code 12 = .ok (.aload_n 0, 1) := by decide +kernel
theorem d_BranchSeries_save_13 : decode prog_5_method_2_code 13 = .ok (.getfield 18, 3) := by decide +kernel
theorem d_BranchSeries_save_16 : decode prog_5_method_2_code 16 = .ok (.invokevirtual 21, 3) := by decide +kernel
theorem d_BranchSeries_save_19 : decode prog_5_method_2_code 19 = .ok (.putfield 29, 3) := by decide +kernel
theorem wP_NumberOffice_BranchSeries_29_2 : zPl "NumberOffice$BranchSeries" 29 2 6 (.int) false := ⟨"NumberOffice$BranchSeries", zR_BranchSeries, zF_BranchSeries, 10, zY_BranchSeries, rfl, zin_BranchSeries, by decide, ztb_of 139 (by decide +kernel) rfl, Or.inl rfl, zYok_BranchSeries, zN_BranchSeries, rfl, (fun h => by cases h), by decide +kernel⟩
theorem d_BranchSeries_save_22 : decode prog_5_method_2_code 22 = .ok (.aload_n 0, 1) := by decide +kernel
theorem d_BranchSeries_save_23 : decode prog_5_method_2_code 23 = .ok (.aload_n 0, 1) := by decide +kernel
theorem d_BranchSeries_save_24 : decode prog_5_method_2_code 24 = .ok (.getfield 32, 3) := by decide +kernel
theorem d_BranchSeries_save_27 : decode prog_5_method_2_code 27 = .ok (.putfield 35, 3) := by decide +kernel
theorem wP_NumberOffice_BranchSeries_35_2 : zPl "NumberOffice$BranchSeries" 35 2 7 (.int) false := ⟨"NumberOffice$BranchSeries", zR_BranchSeries, zF_BranchSeries, 10, zY_BranchSeries, rfl, zin_BranchSeries, by decide, ztb_of 140 (by decide +kernel) rfl, Or.inl rfl, zYok_BranchSeries, zN_BranchSeries, rfl, (fun h => by cases h), by decide +kernel⟩
theorem d_BranchSeries_save_30 : decode prog_5_method_2_code 30 = .ok (.aload_n 0, 1) := by decide +kernel
theorem d_BranchSeries_save_31 : decode prog_5_method_2_code 31 = .ok (.aload_n 0, 1) := by decide +kernel
theorem d_BranchSeries_save_32 : decode prog_5_method_2_code 32 = .ok (.getfield 38, 3) := by decide +kernel
theorem wF_NumberOffice_BranchSeries_38_2 : zFl "NumberOffice$BranchSeries" 38 2 3 := ⟨"NumberOffice$BranchSeries", zR_BranchSeries, zF_BranchSeries, 10, rfl, zin_BranchSeries, by decide, ztb_of 135 (by decide +kernel) rfl, Or.inl rfl⟩
theorem d_BranchSeries_save_35 : decode prog_5_method_2_code 35 = .ok (.putfield 41, 3) := by decide +kernel
theorem wP_NumberOffice_BranchSeries_41_2 : zPl "NumberOffice$BranchSeries" 41 2 8 (.int) false := ⟨"NumberOffice$BranchSeries", zR_BranchSeries, zF_BranchSeries, 10, zY_BranchSeries, rfl, zin_BranchSeries, by decide, ztb_of 141 (by decide +kernel) rfl, Or.inl rfl, zYok_BranchSeries, zN_BranchSeries, rfl, (fun h => by cases h), by decide +kernel⟩
theorem d_BranchSeries_save_38 : decode prog_5_method_2_code 38 = .ok (.aload_n 0, 1) := by decide +kernel
theorem d_BranchSeries_save_39 : decode prog_5_method_2_code 39 = .ok (.aload_n 0, 1) := by decide +kernel
theorem d_BranchSeries_save_40 : decode prog_5_method_2_code 40 = .ok (.getfield 44, 3) := by decide +kernel
theorem d_BranchSeries_save_43 : decode prog_5_method_2_code 43 = .ok (.putfield 47, 3) := by decide +kernel
theorem wP_NumberOffice_BranchSeries_47_2 : zPl "NumberOffice$BranchSeries" 47 2 9 (.int) false := ⟨"NumberOffice$BranchSeries", zR_BranchSeries, zF_BranchSeries, 10, zY_BranchSeries, rfl, zin_BranchSeries, by decide, ztb_of 142 (by decide +kernel) rfl, Or.inl rfl, zYok_BranchSeries, zN_BranchSeries, rfl, (fun h => by cases h), by decide +kernel⟩
theorem d_BranchSeries_save_46 : decode prog_5_method_2_code 46 = .ok (.return_, 1) := by decide +kernel
theorem wS_jdk_internal_util_ArraysSupport_201 : zSl "jdk/internal/util/ArraysSupport" 201 Y_ArraysSupport_hugeLength K_ArraysSupport_hugeLength 2 := ⟨ztb_of 330 (by decide +kernel) rfl, ztb_of 331 (by decide +kernel) rfl, ztb_of 60 (by decide +kernel) rfl, ztb_of 332 (by decide +kernel) rfl, by decide, by decide +kernel⟩
theorem d_ArraysSupport_newLength_26 : decode prog_38_method_27_code 26 = .ok (.ireturn, 1) := by decide +kernel
theorem wS_java_util_Objects_105 : zSl "java/util/Objects" 105 Y_Preconditions_checkIndex K_Preconditions_checkIndex 3 := ⟨ztb_of 392 (by decide +kernel) rfl, ztb_of 393 (by decide +kernel) rfl, ztb_of 64 (by decide +kernel) rfl, ztb_of 394 (by decide +kernel) rfl, by decide, by decide +kernel⟩
theorem d_Objects_checkIndex_6 : decode prog_35_method_17_code 6 = .ok (.ireturn, 1) := by decide +kernel
theorem wS_java_util_ArrayList_118 : zSl "java/util/ArrayList" 118 Y_Objects_checkIndex K_Objects_checkIndex 2 := ⟨ztb_of 389 (by decide +kernel) rfl, ztb_of 390 (by decide +kernel) rfl, ztb_of 63 (by decide +kernel) rfl, ztb_of 391 (by decide +kernel) rfl, by decide, by decide +kernel⟩
theorem d_ArrayList_get_8 : decode prog_31_method_20_code 8 = .ok (.pop, 1) := by decide +kernel
theorem d_ArrayList_get_9 : decode prog_31_method_20_code 9 = .ok (.aload_n 0, 1) := by decide +kernel
theorem d_ArrayList_get_10 : decode prog_31_method_20_code 10 = .ok (.iload_n 1, 1) := by decide +kernel
theorem d_ArrayList_get_11 : decode prog_31_method_20_code 11 = .ok (.invokevirtual 123, 3) := by decide +kernel
theorem wV_java_util_ArrayList_123 : zVl "java/util/ArrayList" 123 3 Y_ArrayList_elementData K_ArrayList_elementData 1 := ⟨zR_ArrayList, zF_ArrayList, 3, rfl, ztb_of 439 (by decide +kernel) rfl, ztb_of 440 (by decide +kernel) rfl, ztb_of 441 (by decide +kernel) rfl, ztb_of 50 (by decide +kernel) rfl, ztb_of 442 (by decide +kernel) rfl, by decide, by decide +kernel⟩
theorem d_ArrayList_get_14 : decode prog_31_method_20_code 14 = .ok (.areturn, 1) := by decide +kernel
theorem wV_NumberOffice_Office_69 : zVl "NumberOffice$Office" 69 4 Y_Office_bookAt K_Office_bookAt 1 := ⟨zR_Office, zF_Office, 7, rfl, ztb_of 466 (by decide +kernel) rfl, ztb_of 467 (by decide +kernel) rfl, ztb_of 468 (by decide +kernel) rfl, ztb_of 51 (by decide +kernel) rfl, ztb_of 469 (by decide +kernel) rfl, by decide, by decide +kernel⟩
theorem d_Office_take_8 : decode prog_10_method_8_code 8 = .ok (.astore_n 2, 1) := by decide +kernel
theorem d_Office_take_9 : decode prog_10_method_8_code 9 = .ok (.aload_n 0, 1) := by decide +kernel
theorem d_Office_take_10 : decode prog_10_method_8_code 10 = .ok (.aload_n 1, 1) := by decide +kernel
theorem d_Office_take_11 : decode prog_10_method_8_code 11 = .ok (.getfield 49, 3) := by decide +kernel
theorem d_Office_take_14 : decode prog_10_method_8_code 14 = .ok (.invokevirtual 41, 3) := by decide +kernel
theorem d_Office_take_17 : decode prog_10_method_8_code 17 = .ok (.ifCond .eq 19, 3) := by decide +kernel
theorem d_Office_take_20 : decode prog_10_method_8_code 20 = .ok (.aload_n 0, 1) := by decide +kernel
theorem d_Office_take_21 : decode prog_10_method_8_code 21 = .ok (.getfield 21, 3) := by decide +kernel
theorem d_Office_take_24 : decode prog_10_method_8_code 24 = .ok (.aload_n 1, 1) := by decide +kernel
theorem d_Office_take_25 : decode prog_10_method_8_code 25 = .ok (.getfield 49, 3) := by decide +kernel
theorem d_Office_take_28 : decode prog_10_method_8_code 28 = .ok (.baload, 1) := by decide +kernel
theorem d_Office_take_29 : decode prog_10_method_8_code 29 = .ok (.ifCond .eq 7, 3) := by decide +kernel
theorem d_Office_take_32 : decode prog_10_method_8_code 32 = .ok (.iconst 1, 1) := by decide +kernel
theorem d_Office_take_33 : decode prog_10_method_8_code 33 = .ok (.goto 4, 3) := by decide +kernel
theorem d_Office_take_36 : decode prog_10_method_8_code 36 = .ok (.iconst 0, 1) := by decide +kernel
theorem d_Office_take_37 : decode prog_10_method_8_code 37 = .ok (.istore_n 3, 1) := by decide +kernel
theorem d_Office_take_38 : decode prog_10_method_8_code 38 = .ok (.iload_n 3, 1) := by decide +kernel
theorem d_Office_take_39 : decode prog_10_method_8_code 39 = .ok (.ifCond .ne 7, 3) := by decide +kernel
theorem d_Office_take_42 : decode prog_10_method_8_code 42 = .ok (.aload_n 2, 1) := by decide +kernel
theorem d_Office_take_43 : decode prog_10_method_8_code 43 = .ok (.ifnonnull 14, 3) := by decide +kernel
theorem d_Office_take_57 : decode prog_10_method_8_code 57 = .ok (.aload_n 1, 1) := by decide +kernel
theorem d_Office_take_58 : decode prog_10_method_8_code 58 = .ok (.getfield 76, 3) := by decide +kernel
theorem wF_NumberOffice_Office_76_9 : zFl "NumberOffice$Office" 76 9 3 := ⟨"NumberOffice$Letter", zR_Letter, zF_Letter, 6, rfl, zin_Letter, by decide, ztb_of 485 (by decide +kernel) rfl, Or.inr (ztb_of 484 (by decide +kernel) rfl)⟩
theorem d_Office_take_61 : decode prog_10_method_8_code 61 = .ok (.iconst 1, 1) := by decide +kernel
theorem d_Office_take_62 : decode prog_10_method_8_code 62 = .ok (.if_icmp .ne 25, 3) := by decide +kernel
theorem d_Office_take_87 : decode prog_10_method_8_code 87 = .ok (.iconst 0, 1) := by decide +kernel
theorem d_Office_take_88 : decode prog_10_method_8_code 88 = .ok (.istore 4, 2) := by decide +kernel
theorem d_Office_take_65 : decode prog_10_method_8_code 65 = .ok (.new 28, 3) := by decide +kernel
theorem wN_NumberOffice_Office_28 : zNl "NumberOffice$Office" 28 6 5 [.int 0, .null, .int 0, .int 0, .int 0] := ⟨zR_Answer, zF_Answer, zY_Answer, rfl, zin_Answer, zYok_Answer, ztb_of 245 (by decide +kernel) rfl, ztb_of 470 (by decide +kernel) rfl, ztb_of 72 (by decide +kernel) rfl, by decide⟩
theorem d_Office_take_68 : decode prog_10_method_8_code 68 = .ok (.dup, 1) := by decide +kernel
theorem d_Office_take_69 : decode prog_10_method_8_code 69 = .ok (.aload_n 1, 1) := by decide +kernel
theorem d_Office_take_70 : decode prog_10_method_8_code 70 = .ok (.iconst 0, 1) := by decide +kernel
theorem d_Office_take_71 : decode prog_10_method_8_code 71 = .ok (.aload_n 2, 1) := by decide +kernel
theorem d_Office_take_72 : decode prog_10_method_8_code 72 = .ok (.aload_n 1, 1) := by decide +kernel
theorem d_Office_take_73 : decode prog_10_method_8_code 73 = .ok (.getfield 49, 3) := by decide +kernel
theorem d_Office_take_76 : decode prog_10_method_8_code 76 = .ok (.aload_n 1, 1) := by decide +kernel
theorem d_Office_take_77 : decode prog_10_method_8_code 77 = .ok (.getfield 79, 3) := by decide +kernel
theorem wF_NumberOffice_Office_79_9 : zFl "NumberOffice$Office" 79 9 1 := ⟨"NumberOffice$Letter", zR_Letter, zF_Letter, 6, rfl, zin_Letter, by decide, ztb_of 710 (by decide +kernel) rfl, Or.inl rfl⟩
theorem d_Office_take_80 : decode prog_10_method_8_code 80 = .ok (.invokevirtual 82, 3) := by decide +kernel
theorem wI_NumberOffice_Answer_12 : zIl "NumberOffice$Answer" 12 Y_Mail_init K_Mail_init 3 := ⟨rfl, ztb_of 474 (by decide +kernel) rfl, ztb_of 475 (by decide +kernel) rfl, ztb_of 58 (by decide +kernel) rfl, rfl, rfl, ztb_of 476 (by decide +kernel) rfl, by decide, by decide +kernel⟩
theorem d_Answer_init_13 : decode prog_2_method_1_code 13 = .ok (.aload_n 0, 1) := by decide +kernel
theorem d_Answer_init_14 : decode prog_2_method_1_code 14 = .ok (.iload_n 2, 1) := by decide +kernel
theorem d_Answer_init_15 : decode prog_2_method_1_code 15 = .ok (.putfield 18, 3) := by decide +kernel
theorem wP_NumberOffice_Answer_18_6 : zPl "NumberOffice$Answer" 18 6 0 (.boolean) true := ⟨"NumberOffice$Answer", zR_Answer, zF_Answer, 5, zY_Answer, rfl, zin_Answer, by decide, ztb_of 478 (by decide +kernel) rfl, Or.inl rfl, zYok_Answer, zN_Answer, rfl, fun _ => rfl, by decide +kernel⟩
theorem d_Answer_init_18 : decode prog_2_method_1_code 18 = .ok (.aload_n 0, 1) := by decide +kernel
theorem d_Answer_init_19 : decode prog_2_method_1_code 19 = .ok (.aload_n 3, 1) := by decide +kernel
theorem d_Answer_init_20 : decode prog_2_method_1_code 20 = .ok (.putfield 24, 3) := by decide +kernel
theorem wP_NumberOffice_Answer_24_6 : zPl "NumberOffice$Answer" 24 6 1 (.object "NumberOffice$Block") true := ⟨"NumberOffice$Answer", zR_Answer, zF_Answer, 5, zY_Answer, rfl, zin_Answer, by decide, ztb_of 480 (by decide +kernel) rfl, Or.inl rfl, zYok_Answer, zN_Answer, rfl, fun _ => rfl, by decide +kernel⟩
theorem d_Answer_init_23 : decode prog_2_method_1_code 23 = .ok (.return_, 1) := by decide +kernel
theorem wI_NumberOffice_SeriesBook_66 : zIl "NumberOffice$SeriesBook" 66 Y_Block_init K_Block_init 2 := ⟨rfl, ztb_of 522 (by decide +kernel) rfl, ztb_of 523 (by decide +kernel) rfl, ztb_of 73 (by decide +kernel) rfl, rfl, rfl, ztb_of 524 (by decide +kernel) rfl, by decide, by decide +kernel⟩
theorem d_SeriesBook_give_46 : decode prog_11_method_8_code 46 = .ok (.astore 4, 2) := by decide +kernel
theorem d_SeriesBook_give_48 : decode prog_11_method_8_code 48 = .ok (.aload_n 0, 1) := by decide +kernel
theorem d_SeriesBook_give_49 : decode prog_11_method_8_code 49 = .ok (.getfield 38, 3) := by decide +kernel
theorem d_SeriesBook_give_52 : decode prog_11_method_8_code 52 = .ok (.istore 5, 2) := by decide +kernel
theorem d_SeriesBook_give_30 : decode prog_11_method_8_code 30 = .ok (.aconst_null, 1) := by decide +kernel
theorem d_SeriesBook_give_31 : decode prog_11_method_8_code 31 = .ok (.areturn, 1) := by decide +kernel
theorem d_SeriesBook_give_54 : decode prog_11_method_8_code 54 = .ok (.iload 5, 2) := by decide +kernel
theorem d_SeriesBook_give_56 : decode prog_11_method_8_code 56 = .ok (.aload_n 0, 1) := by decide +kernel
theorem d_SeriesBook_give_57 : decode prog_11_method_8_code 57 = .ok (.getfield 38, 3) := by decide +kernel
theorem d_SeriesBook_give_60 : decode prog_11_method_8_code 60 = .ok (.iload_n 3, 1) := by decide +kernel
theorem d_SeriesBook_give_61 : decode prog_11_method_8_code 61 = .ok (.iadd, 1) := by decide +kernel
theorem d_SeriesBook_give_62 : decode prog_11_method_8_code 62 = .ok (.if_icmp .ge 25, 3) := by decide +kernel
theorem d_SeriesBook_give_87 : decode prog_11_method_8_code 87 = .ok (.aload_n 0, 1) := by decide +kernel
theorem d_SeriesBook_give_88 : decode prog_11_method_8_code 88 = .ok (.dup, 1) := by decide +kernel
theorem d_SeriesBook_give_89 : decode prog_11_method_8_code 89 = .ok (.getfield 38, 3) := by decide +kernel
theorem d_SeriesBook_give_92 : decode prog_11_method_8_code 92 = .ok (.iload_n 3, 1) := by decide +kernel
theorem d_SeriesBook_give_93 : decode prog_11_method_8_code 93 = .ok (.iadd, 1) := by decide +kernel
theorem d_SeriesBook_give_94 : decode prog_11_method_8_code 94 = .ok (.putfield 38, 3) := by decide +kernel
theorem d_SeriesBook_give_97 : decode prog_11_method_8_code 97 = .ok (.aload 4, 2) := by decide +kernel
theorem d_SeriesBook_give_99 : decode prog_11_method_8_code 99 = .ok (.areturn, 1) := by decide +kernel
theorem d_SeriesBook_give_65 : decode prog_11_method_8_code 65 = .ok (.aload_n 0, 1) := by decide +kernel
theorem d_SeriesBook_give_66 : decode prog_11_method_8_code 66 = .ok (.getfield 15, 3) := by decide +kernel
theorem d_SeriesBook_give_69 : decode prog_11_method_8_code 69 = .ok (.iload 5, 2) := by decide +kernel
theorem d_SeriesBook_give_71 : decode prog_11_method_8_code 71 = .ok (.iload_n 1, 1) := by decide +kernel
theorem d_SeriesBook_give_72 : decode prog_11_method_8_code 72 = .ok (.iastore, 1) := by decide +kernel
theorem d_SeriesBook_give_73 : decode prog_11_method_8_code 73 = .ok (.aload_n 0, 1) := by decide +kernel
theorem d_SeriesBook_give_74 : decode prog_11_method_8_code 74 = .ok (.getfield 19, 3) := by decide +kernel
theorem d_SeriesBook_give_77 : decode prog_11_method_8_code 77 = .ok (.iload 5, 2) := by decide +kernel
theorem d_SeriesBook_give_79 : decode prog_11_method_8_code 79 = .ok (.iconst 1, 1) := by decide +kernel
theorem d_SeriesBook_give_80 : decode prog_11_method_8_code 80 = .ok (.iastore, 1) := by decide +kernel
theorem d_SeriesBook_give_81 : decode prog_11_method_8_code 81 = .ok (.iinc 5 1, 3) := by decide +kernel
theorem d_SeriesBook_give_84 : decode prog_11_method_8_code 84 = .ok (.goto (-30), 3) := by decide +kernel
theorem wV_NumberOffice_SeriesBook_54 : zVl "NumberOffice$SeriesBook" 54 5 Y_SeriesBook_isGiven K_SeriesBook_isGiven 1 := ⟨zR_SeriesBook, zF_SeriesBook, 8, rfl, ztb_of 543 (by decide +kernel) rfl, ztb_of 544 (by decide +kernel) rfl, ztb_of 545 (by decide +kernel) rfl, ztb_of 52 (by decide +kernel) rfl, ztb_of 546 (by decide +kernel) rfl, by decide, by decide +kernel⟩
theorem d_SeriesBook_fateOf_5 : decode prog_11_method_7_code 5 = .ok (.ifCond .eq 14, 3) := by decide +kernel
theorem d_SeriesBook_fateOf_19 : decode prog_11_method_7_code 19 = .ok (.iconst 0, 1) := by decide +kernel
theorem d_SeriesBook_fateOf_8 : decode prog_11_method_7_code 8 = .ok (.aload_n 0, 1) := by decide +kernel
theorem d_SeriesBook_fateOf_9 : decode prog_11_method_7_code 9 = .ok (.getfield 19, 3) := by decide +kernel
theorem d_SeriesBook_fateOf_12 : decode prog_11_method_7_code 12 = .ok (.iload_n 1, 1) := by decide +kernel
theorem d_SeriesBook_fateOf_13 : decode prog_11_method_7_code 13 = .ok (.iconst 1, 1) := by decide +kernel
theorem d_SeriesBook_fateOf_14 : decode prog_11_method_7_code 14 = .ok (.isub, 1) := by decide +kernel
theorem d_SeriesBook_fateOf_15 : decode prog_11_method_7_code 15 = .ok (.iaload, 1) := by decide +kernel
theorem d_SeriesBook_fateOf_16 : decode prog_11_method_7_code 16 = .ok (.goto 4, 3) := by decide +kernel
theorem d_SeriesBook_fateOf_20 : decode prog_11_method_7_code 20 = .ok (.ireturn, 1) := by decide +kernel
theorem wV_NumberOffice_BranchSeries_63 : zVl "NumberOffice$BranchSeries" 63 3 Y_ArrayList_get K_ArrayList_get 1 := ⟨zR_ArrayList, zF_ArrayList, 3, rfl, ztb_of 580 (by decide +kernel) rfl, ztb_of 436 (by decide +kernel) rfl, ztb_of 437 (by decide +kernel) rfl, ztb_of 50 (by decide +kernel) rfl, ztb_of 438 (by decide +kernel) rfl, by decide, by decide +kernel⟩
theorem d_BranchSeries_fateOf_22 : decode prog_5_method_11_code 22 = .ok (.checkcast 54, 3) := by decide +kernel
theorem d_BranchSeries_fateOf_25 : decode prog_5_method_11_code 25 = .ok (.astore_n 3, 1) := by decide +kernel
theorem d_BranchSeries_fateOf_26 : decode prog_5_method_11_code 26 = .ok (.aload_n 3, 1) := by decide +kernel
theorem d_BranchSeries_fateOf_27 : decode prog_5_method_11_code 27 = .ok (.getfield 85, 3) := by decide +kernel
theorem wF_NumberOffice_BranchSeries_85_10 : zFl "NumberOffice$BranchSeries" 85 10 0 := ⟨"NumberOffice$Event", zR_Event, zF_Event, 4, rfl, zin_Event, by decide, ztb_of 773 (by decide +kernel) rfl, Or.inl rfl⟩
theorem d_BranchSeries_fateOf_30 : decode prog_5_method_11_code 30 = .ok (.iload_n 1, 1) := by decide +kernel
theorem d_BranchSeries_fateOf_31 : decode prog_5_method_11_code 31 = .ok (.if_icmp .ne 16, 3) := by decide +kernel
theorem d_BranchSeries_fateOf_47 : decode prog_5_method_11_code 47 = .ok (.iinc 2 (-1), 3) := by decide +kernel
theorem d_BranchSeries_fateOf_50 : decode prog_5_method_11_code 50 = .ok (.goto (-40), 3) := by decide +kernel
theorem d_BranchSeries_fateOf_34 : decode prog_5_method_11_code 34 = .ok (.aload_n 3, 1) := by decide +kernel
theorem d_BranchSeries_fateOf_35 : decode prog_5_method_11_code 35 = .ok (.getfield 81, 3) := by decide +kernel
theorem wF_NumberOffice_BranchSeries_81_10 : zFl "NumberOffice$BranchSeries" 81 10 1 := ⟨"NumberOffice$Event", zR_Event, zF_Event, 4, rfl, zin_Event, by decide, ztb_of 776 (by decide +kernel) rfl, Or.inl rfl⟩
theorem d_BranchSeries_fateOf_38 : decode prog_5_method_11_code 38 = .ok (.ifCond .eq 7, 3) := by decide +kernel
theorem d_BranchSeries_fateOf_45 : decode prog_5_method_11_code 45 = .ok (.iconst 3, 1) := by decide +kernel
theorem d_BranchSeries_fateOf_41 : decode prog_5_method_11_code 41 = .ok (.iconst 2, 1) := by decide +kernel
theorem d_BranchSeries_fateOf_42 : decode prog_5_method_11_code 42 = .ok (.goto 4, 3) := by decide +kernel
theorem wK_NumberOffice_BranchSeries_54_10 : zCl "NumberOffice$BranchSeries" 54 10 := ⟨"NumberOffice$Event", "NumberOffice$Event", zF_Event, 4, rfl, ztb_of 581 (by decide +kernel) rfl, Or.inl rfl⟩
theorem d_BranchSeries_fateOf_55 : decode prog_5_method_11_code 55 = .ok (.iload_n 2, 1) := by decide +kernel
theorem d_BranchSeries_fateOf_56 : decode prog_5_method_11_code 56 = .ok (.aload_n 0, 1) := by decide +kernel
theorem d_BranchSeries_fateOf_57 : decode prog_5_method_11_code 57 = .ok (.getfield 12, 3) := by decide +kernel
theorem d_BranchSeries_fateOf_60 : decode prog_5_method_11_code 60 = .ok (.invokevirtual 21, 3) := by decide +kernel
theorem d_BranchSeries_fateOf_63 : decode prog_5_method_11_code 63 = .ok (.if_icmp .ge 29, 3) := by decide +kernel
theorem d_BranchSeries_fateOf_92 : decode prog_5_method_11_code 92 = .ok (.iconst 0, 1) := by decide +kernel
theorem d_BranchSeries_fateOf_93 : decode prog_5_method_11_code 93 = .ok (.ireturn, 1) := by decide +kernel
theorem d_BranchSeries_fateOf_66 : decode prog_5_method_11_code 66 = .ok (.aload_n 0, 1) := by decide +kernel
theorem d_BranchSeries_fateOf_67 : decode prog_5_method_11_code 67 = .ok (.getfield 12, 3) := by decide +kernel
theorem d_BranchSeries_fateOf_70 : decode prog_5_method_11_code 70 = .ok (.iload_n 2, 1) := by decide +kernel
theorem d_BranchSeries_fateOf_71 : decode prog_5_method_11_code 71 = .ok (.invokevirtual 63, 3) := by decide +kernel
theorem d_BranchSeries_fateOf_74 : decode prog_5_method_11_code 74 = .ok (.checkcast 66, 3) := by decide +kernel
theorem d_BranchSeries_fateOf_77 : decode prog_5_method_11_code 77 = .ok (.iload_n 1, 1) := by decide +kernel
theorem d_BranchSeries_fateOf_78 : decode prog_5_method_11_code 78 = .ok (.invokevirtual 88, 3) := by decide +kernel
theorem wV_NumberOffice_BranchSeries_88 : zVl "NumberOffice$BranchSeries" 88 7 Y_Block_holds K_Block_holds 1 := ⟨zR_Block, zF_Block, 2, rfl, ztb_of 583 (by decide +kernel) rfl, ztb_of 584 (by decide +kernel) rfl, ztb_of 585 (by decide +kernel) rfl, ztb_of 73 (by decide +kernel) rfl, ztb_of 586 (by decide +kernel) rfl, by decide, by decide +kernel⟩
theorem d_BranchSeries_fateOf_81 : decode prog_5_method_11_code 81 = .ok (.ifCond .eq 5, 3) := by decide +kernel
theorem d_BranchSeries_fateOf_86 : decode prog_5_method_11_code 86 = .ok (.iinc 2 1, 3) := by decide +kernel
theorem d_BranchSeries_fateOf_89 : decode prog_5_method_11_code 89 = .ok (.goto (-34), 3) := by decide +kernel
theorem d_BranchSeries_fateOf_84 : decode prog_5_method_11_code 84 = .ok (.iconst 1, 1) := by decide +kernel
theorem d_BranchSeries_fateOf_85 : decode prog_5_method_11_code 85 = .ok (.ireturn, 1) := by decide +kernel
theorem wK_NumberOffice_BranchSeries_66_7 : zCl "NumberOffice$BranchSeries" 66 7 := ⟨"NumberOffice$Block", "NumberOffice$Block", zF_Block, 2, rfl, ztb_of 582 (by decide +kernel) rfl, Or.inl rfl⟩
theorem d_BranchSeries_fateOf_46 : decode prog_5_method_11_code 46 = .ok (.ireturn, 1) := by decide +kernel
theorem wV_NumberOffice_196 : zVl "NumberOffice" 196 1 Y_Branch_latestNumber K_Branch_latestNumber 0 := ⟨zR_Branch, zF_Branch, 9, rfl, ztb_of 591 (by decide +kernel) rfl, ztb_of 592 (by decide +kernel) rfl, ztb_of 593 (by decide +kernel) rfl, ztb_of 46 (by decide +kernel) rfl, ztb_of 594 (by decide +kernel) rfl, by decide, by decide +kernel⟩
theorem d_No_branch_77 : decode prog_1_method_23_code 77 = .ok (.ireturn, 1) := by decide +kernel
theorem d_No_branch_60 : decode prog_1_method_23_code 60 = .ok (.aload_n 3, 1) := by decide +kernel
theorem d_No_branch_61 : decode prog_1_method_23_code 61 = .ok (.getfield 193, 3) := by decide +kernel
theorem wF_NumberOffice_193_1 : zFl "NumberOffice" 193 1 3 := ⟨"NumberOffice$Branch", zR_Branch, zF_Branch, 9, rfl, zin_Branch, by decide, ztb_of 170 (by decide +kernel) rfl, Or.inl rfl⟩
theorem d_No_branch_64 : decode prog_1_method_23_code 64 = .ok (.ifCond .eq 7, 3) := by decide +kernel
theorem d_No_branch_71 : decode prog_1_method_23_code 71 = .ok (.iconst 0, 1) := by decide +kernel
theorem d_No_branch_67 : decode prog_1_method_23_code 67 = .ok (.iconst 1, 1) := by decide +kernel
theorem d_No_branch_68 : decode prog_1_method_23_code 68 = .ok (.goto 4, 3) := by decide +kernel
theorem d_No_branch_17 : decode prog_1_method_23_code 17 = .ok (.iconst (-1), 1) := by decide +kernel
theorem d_No_branch_18 : decode prog_1_method_23_code 18 = .ok (.ireturn, 1) := by decide +kernel
theorem d_No_branch_91 : decode prog_1_method_23_code 91 = .ok (.aload_n 3, 1) := by decide +kernel
theorem d_No_branch_92 : decode prog_1_method_23_code 92 = .ok (.iload_n 2, 1) := by decide +kernel
theorem d_No_branch_93 : decode prog_1_method_23_code 93 = .ok (.iconst 3, 1) := by decide +kernel
theorem d_No_branch_94 : decode prog_1_method_23_code 94 = .ok (.isub, 1) := by decide +kernel
theorem d_No_branch_95 : decode prog_1_method_23_code 95 = .ok (.invokevirtual 59, 3) := by decide +kernel
theorem d_No_branch_98 : decode prog_1_method_23_code 98 = .ok (.astore 4, 2) := by decide +kernel
theorem d_No_branch_100 : decode prog_1_method_23_code 100 = .ok (.aload 4, 2) := by decide +kernel
theorem d_No_branch_102 : decode prog_1_method_23_code 102 = .ok (.ifnonnull 7, 3) := by decide +kernel
theorem d_No_branch_105 : decode prog_1_method_23_code 105 = .ok (.iconst (-1), 1) := by decide +kernel
theorem d_No_branch_106 : decode prog_1_method_23_code 106 = .ok (.goto 8, 3) := by decide +kernel
theorem d_No_branch_109 : decode prog_1_method_23_code 109 = .ok (.aload 4, 2) := by decide +kernel
theorem d_No_branch_111 : decode prog_1_method_23_code 111 = .ok (.invokevirtual 83, 3) := by decide +kernel
theorem wV_NumberOffice_83 : zVl "NumberOffice" 83 2 Y_BranchSeries_unreported K_BranchSeries_unreported 0 := ⟨zR_BranchSeries, zF_BranchSeries, 10, rfl, ztb_of 595 (by decide +kernel) rfl, ztb_of 596 (by decide +kernel) rfl, ztb_of 597 (by decide +kernel) rfl, ztb_of 47 (by decide +kernel) rfl, ztb_of 598 (by decide +kernel) rfl, by decide, by decide +kernel⟩
theorem d_No_branch_90 : decode prog_1_method_23_code 90 = .ok (.ireturn, 1) := by decide +kernel
theorem d_No_branch_72 : decode prog_1_method_23_code 72 = .ok (.ireturn, 1) := by decide +kernel
theorem d_No_branch_114 : decode prog_1_method_23_code 114 = .ok (.ireturn, 1) := by decide +kernel
theorem d_BranchSeries_eventsForLetter_41 : decode prog_5_method_10_code 41 = .ok (.checkcast 54, 3) := by decide +kernel
theorem d_BranchSeries_eventsForLetter_44 : decode prog_5_method_10_code 44 = .ok (.aastore, 1) := by decide +kernel
theorem d_BranchSeries_eventsForLetter_45 : decode prog_5_method_10_code 45 = .ok (.iinc 3 1, 3) := by decide +kernel
theorem d_BranchSeries_eventsForLetter_48 : decode prog_5_method_10_code 48 = .ok (.goto (-27), 3) := by decide +kernel
theorem d_BranchSeries_nextBlock_25 : decode prog_5_method_7_code 25 = .ok (.checkcast 66, 3) := by decide +kernel
theorem d_BranchSeries_nextBlock_28 : decode prog_5_method_7_code 28 = .ok (.goto 4, 3) := by decide +kernel
theorem d_BranchSeries_nextBlock_32 : decode prog_5_method_7_code 32 = .ok (.areturn, 1) := by decide +kernel
theorem wV_NumberOffice_BranchSeries_68 : zVl "NumberOffice$BranchSeries" 68 2 Y_BranchSeries_nextBlock K_BranchSeries_nextBlock 0 := ⟨zR_BranchSeries, zF_BranchSeries, 10, rfl, ztb_of 754 (by decide +kernel) rfl, ztb_of 755 (by decide +kernel) rfl, ztb_of 756 (by decide +kernel) rfl, ztb_of 47 (by decide +kernel) rfl, ztb_of 757 (by decide +kernel) rfl, by decide, by decide +kernel⟩
theorem wV_NumberOffice_Office_45 : zVl "NumberOffice$Office" 45 5 Y_SeriesBook_loseNumbersOf K_SeriesBook_loseNumbersOf 1 := ⟨zR_SeriesBook, zF_SeriesBook, 8, rfl, ztb_of 821 (by decide +kernel) rfl, ztb_of 822 (by decide +kernel) rfl, ztb_of 823 (by decide +kernel) rfl, ztb_of 52 (by decide +kernel) rfl, ztb_of 824 (by decide +kernel) rfl, by decide, by decide +kernel⟩
theorem d_Office_strikeOut_46 : decode prog_10_method_6_code 46 = .ok (.iadd, 1) := by decide +kernel
theorem d_Office_strikeOut_47 : decode prog_10_method_6_code 47 = .ok (.istore_n 2, 1) := by decide +kernel
theorem d_Office_strikeOut_48 : decode prog_10_method_6_code 48 = .ok (.iinc 3 1, 3) := by decide +kernel
theorem d_Office_strikeOut_51 : decode prog_10_method_6_code 51 = .ok (.goto (-21), 3) := by decide +kernel
theorem wI_java_lang_StringBuilder_1 : zIl "java/lang/StringBuilder" 1 Y_AbstractStringBuilder_init K_AbstractStringBuilder_init 1 := ⟨rfl, ztb_of 855 (by decide +kernel) rfl, ztb_of 856 (by decide +kernel) rfl, ztb_of 67 (by decide +kernel) rfl, rfl, rfl, ztb_of 857 (by decide +kernel) rfl, by decide, by decide +kernel⟩
theorem d_StringBuilder_init_6 : decode prog_24_method_1_code 6 = .ok (.return_, 1) := by decide +kernel
theorem wS_java_lang_StringUTF16_11 : zSl "java/lang/StringUTF16" 11 Y_StringUTF16_newBytesLength K_StringUTF16_newBytesLength 1 := ⟨ztb_of 864 (by decide +kernel) rfl, ztb_of 865 (by decide +kernel) rfl, ztb_of 70 (by decide +kernel) rfl, ztb_of 866 (by decide +kernel) rfl, by decide, by decide +kernel⟩
theorem d_StringUTF16_newBytesFor_4 : decode prog_26_method_2_code 4 = .ok (.newarray .byte, 2) := by decide +kernel
theorem d_StringUTF16_newBytesFor_6 : decode prog_26_method_2_code 6 = .ok (.areturn, 1) := by decide +kernel
theorem wS_java_lang_AbstractStringBuilder_114 : zSl "java/lang/AbstractStringBuilder" 114 Y_ArraysSupport_newLength K_ArraysSupport_newLength 3 := ⟨ztb_of 916 (by decide +kernel) rfl, ztb_of 326 (by decide +kernel) rfl, ztb_of 60 (by decide +kernel) rfl, ztb_of 327 (by decide +kernel) rfl, by decide, by decide +kernel⟩
theorem d_AbstractStringBuilder_newCapacity_32 : decode prog_16_method_10_code 32 = .ok (.istore 5, 2) := by decide +kernel
theorem d_AbstractStringBuilder_newCapacity_34 : decode prog_16_method_10_code 34 = .ok (.iload 5, 2) := by decide +kernel
theorem d_AbstractStringBuilder_newCapacity_36 : decode prog_16_method_10_code 36 = .ok (.ldc 39, 2) := by decide +kernel
theorem wC_java_lang_AbstractStringBuilder_39 : Cond.constant "java/lang/AbstractStringBuilder" 39 2147483647 ∈ ztb := ztb_of 917 (by decide +kernel) rfl
theorem d_AbstractStringBuilder_newCapacity_38 : decode prog_16_method_10_code 38 = .ok (.if_icmp .ne 13, 3) := by decide +kernel
theorem d_AbstractStringBuilder_newCapacity_51 : decode prog_16_method_10_code 51 = .ok (.iload 5, 2) := by decide +kernel
theorem d_AbstractStringBuilder_newCapacity_53 : decode prog_16_method_10_code 53 = .ok (.aload_n 0, 1) := by decide +kernel
theorem d_AbstractStringBuilder_newCapacity_54 : decode prog_16_method_10_code 54 = .ok (.getfield 22, 3) := by decide +kernel
theorem d_AbstractStringBuilder_newCapacity_57 : decode prog_16_method_10_code 57 = .ok (.ishr, 1) := by decide +kernel
theorem d_AbstractStringBuilder_newCapacity_58 : decode prog_16_method_10_code 58 = .ok (.ireturn, 1) := by decide +kernel
theorem wS_java_lang_AbstractStringBuilder_26 : zSl "java/lang/AbstractStringBuilder" 26 Y_StringUTF16_newBytesFor K_StringUTF16_newBytesFor 1 := ⟨ztb_of 861 (by decide +kernel) rfl, ztb_of 862 (by decide +kernel) rfl, ztb_of 70 (by decide +kernel) rfl, ztb_of 863 (by decide +kernel) rfl, by decide, by decide +kernel⟩
theorem d_AbstractStringBuilder_inflate_16 : decode prog_16_method_11_code 16 = .ok (.astore_n 1, 1) := by decide +kernel
theorem d_AbstractStringBuilder_inflate_17 : decode prog_16_method_11_code 17 = .ok (.aload_n 0, 1) := by decide +kernel
theorem d_AbstractStringBuilder_inflate_18 : decode prog_16_method_11_code 18 = .ok (.getfield 15, 3) := by decide +kernel
theorem d_AbstractStringBuilder_inflate_21 : decode prog_16_method_11_code 21 = .ok (.iconst 0, 1) := by decide +kernel
theorem d_AbstractStringBuilder_inflate_22 : decode prog_16_method_11_code 22 = .ok (.aload_n 1, 1) := by decide +kernel
theorem d_AbstractStringBuilder_inflate_23 : decode prog_16_method_11_code 23 = .ok (.iconst 0, 1) := by decide +kernel
theorem d_AbstractStringBuilder_inflate_24 : decode prog_16_method_11_code 24 = .ok (.aload_n 0, 1) := by decide +kernel
theorem d_AbstractStringBuilder_inflate_25 : decode prog_16_method_11_code 25 = .ok (.getfield 79, 3) := by decide +kernel
theorem d_AbstractStringBuilder_inflate_28 : decode prog_16_method_11_code 28 = .ok (.invokestatic 125, 3) := by decide +kernel
theorem d_StringUTF16_checkBoundsOffCount_6 : decode prog_26_method_94_code 6 = .ok (.invokestatic 419, 3) := by decide +kernel
theorem wS_java_lang_String_1065 : zSl "java/lang/String" 1065 Y_Preconditions_checkFromIndexSize K_Preconditions_checkFromIndexSize 4 := ⟨ztb_of 957 (by decide +kernel) rfl, ztb_of 958 (by decide +kernel) rfl, ztb_of 64 (by decide +kernel) rfl, ztb_of 959 (by decide +kernel) rfl, by decide, by decide +kernel⟩
theorem d_String_checkBoundsOffCount_9 : decode prog_23_method_157_code 9 = .ok (.ireturn, 1) := by decide +kernel
theorem wS_java_lang_StringUTF16_414 : zSl "java/lang/StringUTF16" 414 Y_String_checkIndex K_String_checkIndex 2 := ⟨ztb_of 975 (by decide +kernel) rfl, ztb_of 976 (by decide +kernel) rfl, ztb_of 69 (by decide +kernel) rfl, ztb_of 977 (by decide +kernel) rfl, by decide, by decide +kernel⟩
theorem d_StringUTF16_checkIndex_8 : decode prog_26_method_91_code 8 = .ok (.return_, 1) := by decide +kernel
theorem wS_java_lang_String_1062 : zSl "java/lang/String" 1062 Y_Preconditions_checkFromToIndex K_Preconditions_checkFromToIndex 4 := ⟨ztb_of 1009 (by decide +kernel) rfl, ztb_of 1010 (by decide +kernel) rfl, ztb_of 64 (by decide +kernel) rfl, ztb_of 1011 (by decide +kernel) rfl, by decide, by decide +kernel⟩
theorem d_String_checkBoundsBeginEnd_9 : decode prog_23_method_158_code 9 = .ok (.pop, 1) := by decide +kernel
theorem d_String_checkBoundsBeginEnd_10 : decode prog_23_method_158_code 10 = .ok (.return_, 1) := by decide +kernel
theorem d_String_length_9 : decode prog_23_method_54_code 9 = .ok (.ishr, 1) := by decide +kernel
theorem d_String_length_10 : decode prog_23_method_54_code 10 = .ok (.ireturn, 1) := by decide +kernel
theorem wV_NumberOffice_SeriesBook_74 : zVl "NumberOffice$SeriesBook" 74 5 Y_SeriesBook_fateOf K_SeriesBook_fateOf 1 := ⟨zR_SeriesBook, zF_SeriesBook, 8, rfl, ztb_of 539 (by decide +kernel) rfl, ztb_of 540 (by decide +kernel) rfl, ztb_of 541 (by decide +kernel) rfl, ztb_of 52 (by decide +kernel) rfl, ztb_of 542 (by decide +kernel) rfl, by decide, by decide +kernel⟩
theorem d_SeriesBook_fieldOf_5 : decode prog_11_method_12_code 5 = .ok (.istore_n 3, 1) := by decide +kernel
theorem d_SeriesBook_fieldOf_6 : decode prog_11_method_12_code 6 = .ok (.iload_n 3, 1) := by decide +kernel
theorem d_SeriesBook_fieldOf_7 : decode prog_11_method_12_code 7 = .ok (.ifCond .ne 7, 3) := by decide +kernel
theorem d_SeriesBook_fieldOf_14 : decode prog_11_method_12_code 14 = .ok (.iload_n 1, 1) := by decide +kernel
theorem d_SeriesBook_fieldOf_15 : decode prog_11_method_12_code 15 = .ok (.iconst 1, 1) := by decide +kernel
theorem d_SeriesBook_fieldOf_16 : decode prog_11_method_12_code 16 = .ok (.isub, 1) := by decide +kernel
theorem d_SeriesBook_fieldOf_17 : decode prog_11_method_12_code 17 = .ok (.istore 4, 2) := by decide +kernel
theorem d_SeriesBook_fieldOf_19 : decode prog_11_method_12_code 19 = .ok (.iload_n 2, 1) := by decide +kernel
theorem d_SeriesBook_fieldOf_20 : decode prog_11_method_12_code 20 = .ok (.tableswitch 100 0 3 #[32, 51, 71, 80], 32) := by decide +kernel
theorem d_SeriesBook_fieldOf_120 : decode prog_11_method_12_code 120 = .ok (.ldc2_w 88, 3) := by decide +kernel
theorem wC_NumberOffice_SeriesBook_88 : Cond.constantLong "NumberOffice$SeriesBook" 88 (-1) ∈ ztb := ztb_of 1040 (by decide +kernel) rfl
theorem d_SeriesBook_fieldOf_123 : decode prog_11_method_12_code 123 = .ok (.lreturn, 1) := by decide +kernel
theorem d_SeriesBook_fieldOf_100 : decode prog_11_method_12_code 100 = .ok (.iload_n 3, 1) := by decide +kernel
theorem d_SeriesBook_fieldOf_101 : decode prog_11_method_12_code 101 = .ok (.iconst 3, 1) := by decide +kernel
theorem d_SeriesBook_fieldOf_102 : decode prog_11_method_12_code 102 = .ok (.if_icmp .ne 14, 3) := by decide +kernel
theorem d_SeriesBook_fieldOf_116 : decode prog_11_method_12_code 116 = .ok (.ldc2_w 88, 3) := by decide +kernel
theorem d_SeriesBook_fieldOf_105 : decode prog_11_method_12_code 105 = .ok (.aload_n 0, 1) := by decide +kernel
theorem d_SeriesBook_fieldOf_106 : decode prog_11_method_12_code 106 = .ok (.getfield 26, 3) := by decide +kernel
theorem wF_NumberOffice_SeriesBook_26_5 : zFl "NumberOffice$SeriesBook" 26 5 6 := ⟨"NumberOffice$SeriesBook", zR_SeriesBook, zF_SeriesBook, 8, rfl, zin_SeriesBook, by decide, ztb_of 223 (by decide +kernel) rfl, Or.inl rfl⟩
theorem d_SeriesBook_fieldOf_109 : decode prog_11_method_12_code 109 = .ok (.iload 4, 2) := by decide +kernel
theorem d_SeriesBook_fieldOf_111 : decode prog_11_method_12_code 111 = .ok (.iaload, 1) := by decide +kernel
theorem d_SeriesBook_fieldOf_112 : decode prog_11_method_12_code 112 = .ok (.i2l, 1) := by decide +kernel
theorem d_SeriesBook_fieldOf_113 : decode prog_11_method_12_code 113 = .ok (.goto 6, 3) := by decide +kernel
theorem d_SeriesBook_fieldOf_91 : decode prog_11_method_12_code 91 = .ok (.aload_n 0, 1) := by decide +kernel
theorem d_SeriesBook_fieldOf_92 : decode prog_11_method_12_code 92 = .ok (.getfield 15, 3) := by decide +kernel
theorem d_SeriesBook_fieldOf_95 : decode prog_11_method_12_code 95 = .ok (.iload 4, 2) := by decide +kernel
theorem d_SeriesBook_fieldOf_97 : decode prog_11_method_12_code 97 = .ok (.iaload, 1) := by decide +kernel
theorem d_SeriesBook_fieldOf_98 : decode prog_11_method_12_code 98 = .ok (.i2l, 1) := by decide +kernel
theorem d_SeriesBook_fieldOf_99 : decode prog_11_method_12_code 99 = .ok (.lreturn, 1) := by decide +kernel
theorem d_SeriesBook_fieldOf_71 : decode prog_11_method_12_code 71 = .ok (.iload_n 3, 1) := by decide +kernel
theorem d_SeriesBook_fieldOf_72 : decode prog_11_method_12_code 72 = .ok (.iconst 2, 1) := by decide +kernel
theorem d_SeriesBook_fieldOf_73 : decode prog_11_method_12_code 73 = .ok (.if_icmp .ne 14, 3) := by decide +kernel
theorem d_SeriesBook_fieldOf_87 : decode prog_11_method_12_code 87 = .ok (.ldc2_w 88, 3) := by decide +kernel
theorem d_SeriesBook_fieldOf_76 : decode prog_11_method_12_code 76 = .ok (.aload_n 0, 1) := by decide +kernel
theorem d_SeriesBook_fieldOf_77 : decode prog_11_method_12_code 77 = .ok (.getfield 26, 3) := by decide +kernel
theorem d_SeriesBook_fieldOf_80 : decode prog_11_method_12_code 80 = .ok (.iload 4, 2) := by decide +kernel
theorem d_SeriesBook_fieldOf_82 : decode prog_11_method_12_code 82 = .ok (.iaload, 1) := by decide +kernel
theorem d_SeriesBook_fieldOf_83 : decode prog_11_method_12_code 83 = .ok (.i2l, 1) := by decide +kernel
theorem d_SeriesBook_fieldOf_84 : decode prog_11_method_12_code 84 = .ok (.goto 6, 3) := by decide +kernel
theorem d_SeriesBook_fieldOf_52 : decode prog_11_method_12_code 52 = .ok (.iload_n 3, 1) := by decide +kernel
theorem d_SeriesBook_fieldOf_53 : decode prog_11_method_12_code 53 = .ok (.iconst 2, 1) := by decide +kernel
theorem d_SeriesBook_fieldOf_54 : decode prog_11_method_12_code 54 = .ok (.if_icmp .ne 13, 3) := by decide +kernel
theorem d_SeriesBook_fieldOf_67 : decode prog_11_method_12_code 67 = .ok (.ldc2_w 88, 3) := by decide +kernel
theorem d_SeriesBook_fieldOf_57 : decode prog_11_method_12_code 57 = .ok (.aload_n 0, 1) := by decide +kernel
theorem d_SeriesBook_fieldOf_58 : decode prog_11_method_12_code 58 = .ok (.getfield 22, 3) := by decide +kernel
theorem d_SeriesBook_fieldOf_61 : decode prog_11_method_12_code 61 = .ok (.iload 4, 2) := by decide +kernel
theorem d_SeriesBook_fieldOf_63 : decode prog_11_method_12_code 63 = .ok (.laload, 1) := by decide +kernel
theorem d_SeriesBook_fieldOf_64 : decode prog_11_method_12_code 64 = .ok (.goto 6, 3) := by decide +kernel
theorem d_SeriesBook_fieldOf_10 : decode prog_11_method_12_code 10 = .ok (.ldc2_w 88, 3) := by decide +kernel
theorem d_SeriesBook_fieldOf_13 : decode prog_11_method_12_code 13 = .ok (.lreturn, 1) := by decide +kernel
theorem d_SeriesBook_fieldOf_119 : decode prog_11_method_12_code 119 = .ok (.lreturn, 1) := by decide +kernel
theorem d_SeriesBook_fieldOf_90 : decode prog_11_method_12_code 90 = .ok (.lreturn, 1) := by decide +kernel
theorem d_SeriesBook_fieldOf_70 : decode prog_11_method_12_code 70 = .ok (.lreturn, 1) := by decide +kernel
theorem wX_java_lang_StringBuilder_343 : zPs "java/lang/StringBuilder" 343 Y_AbstractStringBuilder_length K_AbstractStringBuilder_length 0 := ⟨by decide, ztb_of 1073 (by decide +kernel) rfl, ztb_of 1069 (by decide +kernel) rfl, ztb_of 880 (by decide +kernel) rfl, ztb_of 1068 (by decide +kernel) rfl, ztb_of 67 (by decide +kernel) rfl, ztb_of 1074 (by decide +kernel) rfl, by decide +kernel⟩
theorem d_StringBuilder_length_4 : decode prog_24_method_93_code 4 = .ok (.ireturn, 1) := by decide +kernel
theorem wV_NumberOffice_SeriesBook_90 : zVl "NumberOffice$SeriesBook" 90 13 Y_String_length K_String_length 0 := ⟨zR_String, zF_String, 4, rfl, ztb_of 1149 (by decide +kernel) rfl, ztb_of 1013 (by decide +kernel) rfl, ztb_of 1014 (by decide +kernel) rfl, ztb_of 69 (by decide +kernel) rfl, ztb_of 1015 (by decide +kernel) rfl, by decide, by decide +kernel⟩
theorem d_SeriesBook_listByteAt_12 : decode prog_11_method_14_code 12 = .ok (.if_icmp .ge 14, 3) := by decide +kernel
theorem d_SeriesBook_listByteAt_15 : decode prog_11_method_14_code 15 = .ok (.aload_n 0, 1) := by decide +kernel
theorem d_SeriesBook_listByteAt_16 : decode prog_11_method_14_code 16 = .ok (.getfield 31, 3) := by decide +kernel
theorem d_SeriesBook_listByteAt_19 : decode prog_11_method_14_code 19 = .ok (.iload_n 1, 1) := by decide +kernel
theorem d_SeriesBook_listByteAt_20 : decode prog_11_method_14_code 20 = .ok (.invokevirtual 96, 3) := by decide +kernel
theorem wV_java_lang_String_492 : zVl "java/lang/String" 492 13 Y_String_isLatin1 K_String_isLatin1 0 := ⟨zR_String, zF_String, 4, rfl, ztb_of 1154 (by decide +kernel) rfl, ztb_of 1155 (by decide +kernel) rfl, ztb_of 1156 (by decide +kernel) rfl, ztb_of 69 (by decide +kernel) rfl, ztb_of 1157 (by decide +kernel) rfl, by decide, by decide +kernel⟩
theorem d_String_charAt_4 : decode prog_23_method_56_code 4 = .ok (.ifCond .eq 12, 3) := by decide +kernel
theorem d_String_charAt_16 : decode prog_23_method_56_code 16 = .ok (.aload_n 0, 1) := by decide +kernel
theorem d_String_charAt_17 : decode prog_23_method_56_code 17 = .ok (.getfield 9, 3) := by decide +kernel
theorem d_String_charAt_20 : decode prog_23_method_56_code 20 = .ok (.iload_n 1, 1) := by decide +kernel
theorem d_String_charAt_21 : decode prog_23_method_56_code 21 = .ok (.invokestatic 498, 3) := by decide +kernel
theorem wS_java_lang_StringUTF16_67 : zSl "java/lang/StringUTF16" 67 Y_StringUTF16_checkIndex K_StringUTF16_checkIndex 2 := ⟨ztb_of 972 (by decide +kernel) rfl, ztb_of 973 (by decide +kernel) rfl, ztb_of 70 (by decide +kernel) rfl, ztb_of 974 (by decide +kernel) rfl, by decide, by decide +kernel⟩
theorem d_StringUTF16_charAt_5 : decode prog_26_method_83_code 5 = .ok (.aload_n 0, 1) := by decide +kernel
theorem d_StringUTF16_charAt_6 : decode prog_26_method_83_code 6 = .ok (.iload_n 1, 1) := by decide +kernel
theorem d_StringUTF16_charAt_7 : decode prog_26_method_83_code 7 = .ok (.invokestatic 71, 3) := by decide +kernel
theorem wS_java_lang_StringUTF16_71 : zSl "java/lang/StringUTF16" 71 Y_StringUTF16_getChar K_StringUTF16_getChar 2 := ⟨ztb_of 1091 (by decide +kernel) rfl, ztb_of 1092 (by decide +kernel) rfl, ztb_of 70 (by decide +kernel) rfl, ztb_of 1093 (by decide +kernel) rfl, by decide, by decide +kernel⟩
theorem d_StringUTF16_charAt_10 : decode prog_26_method_83_code 10 = .ok (.ireturn, 1) := by decide +kernel
theorem d_Mo_series_33 : decode prog_14_method_13_code 33 = .ok (.ifCond .eq 24, 3) := by decide +kernel
theorem d_Mo_series_36 : decode prog_14_method_13_code 36 = .ok (.aload_n 0, 1) := by decide +kernel
theorem d_Mo_series_37 : decode prog_14_method_13_code 37 = .ok (.getfield 71, 3) := by decide +kernel
theorem d_Mo_series_40 : decode prog_14_method_13_code 40 = .ok (.iload_n 1, 1) := by decide +kernel
theorem d_Mo_series_41 : decode prog_14_method_13_code 41 = .ok (.iaload, 1) := by decide +kernel
theorem d_Mo_series_42 : decode prog_14_method_13_code 42 = .ok (.ifCond .ne 15, 3) := by decide +kernel
theorem d_Mo_series_45 : decode prog_14_method_13_code 45 = .ok (.iload_n 2, 1) := by decide +kernel
theorem d_Mo_series_46 : decode prog_14_method_13_code 46 = .ok (.iconst 1, 1) := by decide +kernel
theorem d_Mo_series_47 : decode prog_14_method_13_code 47 = .ok (.if_icmp .lt 10, 3) := by decide +kernel
theorem d_Mo_series_50 : decode prog_14_method_13_code 50 = .ok (.iload_n 2, 1) := by decide +kernel
theorem d_Mo_series_51 : decode prog_14_method_13_code 51 = .ok (.sipush 9999, 3) := by decide +kernel
theorem d_Mo_series_54 : decode prog_14_method_13_code 54 = .ok (.if_icmp .le 5, 3) := by decide +kernel
theorem d_Mo_series_59 : decode prog_14_method_13_code 59 = .ok (.aload_n 0, 1) := by decide +kernel
theorem d_Mo_series_60 : decode prog_14_method_13_code 60 = .ok (.getfield 71, 3) := by decide +kernel
theorem d_Mo_series_63 : decode prog_14_method_13_code 63 = .ok (.iload_n 1, 1) := by decide +kernel
theorem d_Mo_series_64 : decode prog_14_method_13_code 64 = .ok (.iconst 1, 1) := by decide +kernel
theorem d_Mo_series_65 : decode prog_14_method_13_code 65 = .ok (.iastore, 1) := by decide +kernel
theorem d_Mo_series_66 : decode prog_14_method_13_code 66 = .ok (.aload_n 0, 1) := by decide +kernel
theorem d_Mo_series_67 : decode prog_14_method_13_code 67 = .ok (.getfield 74, 3) := by decide +kernel
theorem d_Mo_series_70 : decode prog_14_method_13_code 70 = .ok (.iload_n 1, 1) := by decide +kernel
theorem d_Mo_series_71 : decode prog_14_method_13_code 71 = .ok (.iload_n 2, 1) := by decide +kernel
theorem d_Mo_series_72 : decode prog_14_method_13_code 72 = .ok (.iastore, 1) := by decide +kernel
theorem d_Mo_series_73 : decode prog_14_method_13_code 73 = .ok (.iconst 1, 1) := by decide +kernel
theorem d_Mo_series_74 : decode prog_14_method_13_code 74 = .ok (.ireturn, 1) := by decide +kernel
theorem d_Mo_series_57 : decode prog_14_method_13_code 57 = .ok (.iconst 0, 1) := by decide +kernel
theorem d_Mo_series_58 : decode prog_14_method_13_code 58 = .ok (.ireturn, 1) := by decide +kernel
theorem d_Mo_there_6 : decode prog_14_method_19_code 6 = .ok (.ifCond .eq 16, 3) := by decide +kernel
theorem d_Mo_there_9 : decode prog_14_method_19_code 9 = .ok (.aload_n 0, 1) := by decide +kernel
theorem d_Mo_there_10 : decode prog_14_method_19_code 10 = .ok (.getfield 7, 3) := by decide +kernel
theorem d_Mo_there_13 : decode prog_14_method_19_code 13 = .ok (.iload_n 1, 1) := by decide +kernel
theorem d_Mo_there_14 : decode prog_14_method_19_code 14 = .ok (.baload, 1) := by decide +kernel
theorem d_Mo_there_15 : decode prog_14_method_19_code 15 = .ok (.ifCond .eq 7, 3) := by decide +kernel
theorem d_Mo_there_18 : decode prog_14_method_19_code 18 = .ok (.iconst 1, 1) := by decide +kernel
theorem d_Mo_there_19 : decode prog_14_method_19_code 19 = .ok (.goto 4, 3) := by decide +kernel
theorem d_Mo_there_22 : decode prog_14_method_19_code 22 = .ok (.iconst 0, 1) := by decide +kernel
theorem d_Mo_there_23 : decode prog_14_method_19_code 23 = .ok (.putfield 120, 3) := by decide +kernel
theorem d_Mo_there_26 : decode prog_14_method_19_code 26 = .ok (.aload_n 0, 1) := by decide +kernel
theorem d_Mo_there_27 : decode prog_14_method_19_code 27 = .ok (.iload_n 1, 1) := by decide +kernel
theorem d_Mo_there_28 : decode prog_14_method_19_code 28 = .ok (.invokevirtual 163, 3) := by decide +kernel
theorem d_Mo_there_31 : decode prog_14_method_19_code 31 = .ok (.ifCond .eq 14, 3) := by decide +kernel
theorem d_Mo_there_34 : decode prog_14_method_19_code 34 = .ok (.aload_n 0, 1) := by decide +kernel
theorem d_Mo_there_35 : decode prog_14_method_19_code 35 = .ok (.getfield 120, 3) := by decide +kernel
theorem d_Mo_there_38 : decode prog_14_method_19_code 38 = .ok (.ifCond .ne 7, 3) := by decide +kernel
theorem d_Mo_there_41 : decode prog_14_method_19_code 41 = .ok (.iconst 1, 1) := by decide +kernel
theorem d_Mo_there_42 : decode prog_14_method_19_code 42 = .ok (.goto 4, 3) := by decide +kernel
theorem d_Mo_there_45 : decode prog_14_method_19_code 45 = .ok (.iconst 0, 1) := by decide +kernel
theorem d_Mo_there_46 : decode prog_14_method_19_code 46 = .ok (.ireturn, 1) := by decide +kernel
theorem wV_NumberOfficeModel_123 : zVl "NumberOfficeModel" 123 14 Y_Mo_copyBook K_Mo_copyBook 2 := ⟨zR_NumberOfficeModel, zF_NumberOfficeModel, 40, rfl, ztb_of 1336 (by decide +kernel) rfl, ztb_of 1338 (by decide +kernel) rfl, ztb_of 23 (by decide +kernel) rfl, ztb_of 53 (by decide +kernel) rfl, ztb_of 1339 (by decide +kernel) rfl, by decide, by decide +kernel⟩
theorem d_Mo_copyBranch_93 : decode prog_14_method_6_code 93 = .ok (.iinc 3 1, 3) := by decide +kernel
theorem d_Mo_copyBranch_96 : decode prog_14_method_6_code 96 = .ok (.goto (-22), 3) := by decide +kernel
theorem wV_NumberOfficeModel_166 : zVl "NumberOfficeModel" 166 14 Y_Mo_there K_Mo_there 1 := ⟨zR_NumberOfficeModel, zF_NumberOfficeModel, 40, rfl, ztb_of 1308 (by decide +kernel) rfl, ztb_of 1310 (by decide +kernel) rfl, ztb_of 16 (by decide +kernel) rfl, ztb_of 53 (by decide +kernel) rfl, ztb_of 1311 (by decide +kernel) rfl, by decide, by decide +kernel⟩
theorem d_Mo_report_5 : decode prog_14_method_22_code 5 = .ok (.ifCond .eq 51, 3) := by decide +kernel
theorem d_Mo_report_8 : decode prog_14_method_22_code 8 = .ok (.iload_n 2, 1) := by decide +kernel
theorem d_Mo_report_9 : decode prog_14_method_22_code 9 = .ok (.invokestatic 144, 3) := by decide +kernel
theorem d_Mo_report_12 : decode prog_14_method_22_code 12 = .ok (.ifCond .eq 44, 3) := by decide +kernel
theorem d_Mo_report_15 : decode prog_14_method_22_code 15 = .ok (.aload_n 0, 1) := by decide +kernel
theorem d_Mo_report_16 : decode prog_14_method_22_code 16 = .ok (.getfield 65, 3) := by decide +kernel
theorem d_Mo_report_19 : decode prog_14_method_22_code 19 = .ok (.iload_n 1, 1) := by decide +kernel
theorem d_Mo_report_20 : decode prog_14_method_22_code 20 = .ok (.baload, 1) := by decide +kernel
theorem d_Mo_report_21 : decode prog_14_method_22_code 21 = .ok (.ifCond .ne 35, 3) := by decide +kernel
theorem d_Mo_report_24 : decode prog_14_method_22_code 24 = .ok (.aload_n 0, 1) := by decide +kernel
theorem d_Mo_report_25 : decode prog_14_method_22_code 25 = .ok (.getfield 68, 3) := by decide +kernel
theorem d_Mo_report_28 : decode prog_14_method_22_code 28 = .ok (.iload_n 1, 1) := by decide +kernel
theorem d_Mo_report_29 : decode prog_14_method_22_code 29 = .ok (.baload, 1) := by decide +kernel
theorem d_Mo_report_30 : decode prog_14_method_22_code 30 = .ok (.ifCond .ne 26, 3) := by decide +kernel
theorem d_Mo_report_33 : decode prog_14_method_22_code 33 = .ok (.aload_n 0, 1) := by decide +kernel
theorem d_Mo_report_34 : decode prog_14_method_22_code 34 = .ok (.getfield 26, 3) := by decide +kernel
theorem d_Mo_report_37 : decode prog_14_method_22_code 37 = .ok (.iconst 3, 1) := by decide +kernel
theorem d_Mo_report_38 : decode prog_14_method_22_code 38 = .ok (.iload_n 1, 1) := by decide +kernel
theorem d_Mo_report_39 : decode prog_14_method_22_code 39 = .ok (.imul, 1) := by decide +kernel
theorem d_Mo_report_40 : decode prog_14_method_22_code 40 = .ok (.iload_n 2, 1) := by decide +kernel
theorem d_Mo_report_41 : decode prog_14_method_22_code 41 = .ok (.iadd, 1) := by decide +kernel
theorem d_Mo_report_42 : decode prog_14_method_22_code 42 = .ok (.iaload, 1) := by decide +kernel
theorem d_Mo_report_43 : decode prog_14_method_22_code 43 = .ok (.aload_n 0, 1) := by decide +kernel
theorem d_Mo_report_44 : decode prog_14_method_22_code 44 = .ok (.getfield 23, 3) := by decide +kernel
theorem d_Mo_report_47 : decode prog_14_method_22_code 47 = .ok (.iconst 3, 1) := by decide +kernel
theorem d_Mo_report_48 : decode prog_14_method_22_code 48 = .ok (.iload_n 1, 1) := by decide +kernel
theorem d_Mo_report_49 : decode prog_14_method_22_code 49 = .ok (.imul, 1) := by decide +kernel
theorem d_Mo_report_50 : decode prog_14_method_22_code 50 = .ok (.iload_n 2, 1) := by decide +kernel
theorem d_Mo_report_51 : decode prog_14_method_22_code 51 = .ok (.iadd, 1) := by decide +kernel
theorem d_Mo_report_52 : decode prog_14_method_22_code 52 = .ok (.iaload, 1) := by decide +kernel
theorem d_Mo_report_53 : decode prog_14_method_22_code 53 = .ok (.if_icmp .ne 17, 3) := by decide +kernel
theorem d_Mo_report_70 : decode prog_14_method_22_code 70 = .ok (.aload_n 0, 1) := by decide +kernel
theorem d_Mo_report_71 : decode prog_14_method_22_code 71 = .ok (.getfield 23, 3) := by decide +kernel
theorem d_Mo_report_74 : decode prog_14_method_22_code 74 = .ok (.iconst 3, 1) := by decide +kernel
theorem d_Mo_report_75 : decode prog_14_method_22_code 75 = .ok (.iload_n 1, 1) := by decide +kernel
theorem d_Mo_report_76 : decode prog_14_method_22_code 76 = .ok (.imul, 1) := by decide +kernel
theorem d_Mo_report_77 : decode prog_14_method_22_code 77 = .ok (.iload_n 2, 1) := by decide +kernel
theorem d_Mo_report_78 : decode prog_14_method_22_code 78 = .ok (.iadd, 1) := by decide +kernel
theorem d_Mo_report_79 : decode prog_14_method_22_code 79 = .ok (.iaload, 1) := by decide +kernel
theorem d_Mo_report_80 : decode prog_14_method_22_code 80 = .ok (.aload_n 0, 1) := by decide +kernel
theorem d_Mo_report_81 : decode prog_14_method_22_code 81 = .ok (.getfield 26, 3) := by decide +kernel
theorem d_Mo_report_84 : decode prog_14_method_22_code 84 = .ok (.iconst 3, 1) := by decide +kernel
theorem d_Mo_report_85 : decode prog_14_method_22_code 85 = .ok (.iload_n 1, 1) := by decide +kernel
theorem d_Mo_report_86 : decode prog_14_method_22_code 86 = .ok (.imul, 1) := by decide +kernel
theorem d_Mo_report_87 : decode prog_14_method_22_code 87 = .ok (.iload_n 2, 1) := by decide +kernel
theorem d_Mo_report_88 : decode prog_14_method_22_code 88 = .ok (.iadd, 1) := by decide +kernel
theorem d_Mo_report_89 : decode prog_14_method_22_code 89 = .ok (.iaload, 1) := by decide +kernel
theorem d_Mo_report_90 : decode prog_14_method_22_code 90 = .ok (.isub, 1) := by decide +kernel
theorem d_Mo_report_91 : decode prog_14_method_22_code 91 = .ok (.istore_n 3, 1) := by decide +kernel
theorem d_Mo_report_92 : decode prog_14_method_22_code 92 = .ok (.aload_n 0, 1) := by decide +kernel
theorem d_Mo_report_93 : decode prog_14_method_22_code 93 = .ok (.getfield 53, 3) := by decide +kernel
theorem d_Mo_report_96 : decode prog_14_method_22_code 96 = .ok (.iload_n 1, 1) := by decide +kernel
theorem d_Mo_report_97 : decode prog_14_method_22_code 97 = .ok (.dup2, 1) := by decide +kernel
theorem d_Mo_report_98 : decode prog_14_method_22_code 98 = .ok (.iaload, 1) := by decide +kernel
theorem d_Mo_report_99 : decode prog_14_method_22_code 99 = .ok (.iconst 1, 1) := by decide +kernel
theorem d_Mo_report_100 : decode prog_14_method_22_code 100 = .ok (.iadd, 1) := by decide +kernel
theorem d_Mo_report_101 : decode prog_14_method_22_code 101 = .ok (.iastore, 1) := by decide +kernel
theorem d_Mo_report_102 : decode prog_14_method_22_code 102 = .ok (.aload_n 0, 1) := by decide +kernel
theorem d_Mo_report_103 : decode prog_14_method_22_code 103 = .ok (.getfield 56, 3) := by decide +kernel
theorem d_Mo_report_106 : decode prog_14_method_22_code 106 = .ok (.iload_n 1, 1) := by decide +kernel
theorem d_Mo_report_107 : decode prog_14_method_22_code 107 = .ok (.iconst 2, 1) := by decide +kernel
theorem d_Mo_report_108 : decode prog_14_method_22_code 108 = .ok (.iastore, 1) := by decide +kernel
theorem d_Mo_report_109 : decode prog_14_method_22_code 109 = .ok (.aload_n 0, 1) := by decide +kernel
theorem d_Mo_report_110 : decode prog_14_method_22_code 110 = .ok (.getfield 59, 3) := by decide +kernel
theorem d_Mo_report_113 : decode prog_14_method_22_code 113 = .ok (.iload_n 1, 1) := by decide +kernel
theorem d_Mo_report_114 : decode prog_14_method_22_code 114 = .ok (.iload_n 2, 1) := by decide +kernel
theorem d_Mo_report_115 : decode prog_14_method_22_code 115 = .ok (.iastore, 1) := by decide +kernel
theorem d_Mo_report_116 : decode prog_14_method_22_code 116 = .ok (.aload_n 0, 1) := by decide +kernel
theorem d_Mo_report_117 : decode prog_14_method_22_code 117 = .ok (.getfield 62, 3) := by decide +kernel
theorem d_Mo_report_120 : decode prog_14_method_22_code 120 = .ok (.iload_n 1, 1) := by decide +kernel
theorem d_Mo_report_121 : decode prog_14_method_22_code 121 = .ok (.iload_n 3, 1) := by decide +kernel
theorem d_Mo_report_122 : decode prog_14_method_22_code 122 = .ok (.bipush 30, 2) := by decide +kernel
theorem d_Mo_report_124 : decode prog_14_method_22_code 124 = .ok (.if_icmp .ge 7, 3) := by decide +kernel
theorem d_Mo_report_131 : decode prog_14_method_22_code 131 = .ok (.bipush 30, 2) := by decide +kernel
theorem d_Mo_report_127 : decode prog_14_method_22_code 127 = .ok (.iload_n 3, 1) := by decide +kernel
theorem d_Mo_report_128 : decode prog_14_method_22_code 128 = .ok (.goto 5, 3) := by decide +kernel
theorem d_Mo_report_56 : decode prog_14_method_22_code 56 = .ok (.aload_n 0, 1) := by decide +kernel
theorem d_Mo_report_57 : decode prog_14_method_22_code 57 = .ok (.getfield 120, 3) := by decide +kernel
theorem d_Mo_report_60 : decode prog_14_method_22_code 60 = .ok (.iconst 1, 1) := by decide +kernel
theorem d_Mo_report_61 : decode prog_14_method_22_code 61 = .ok (.if_icmp .ne 7, 3) := by decide +kernel
theorem d_Mo_report_68 : decode prog_14_method_22_code 68 = .ok (.iconst (-1), 1) := by decide +kernel
theorem d_Mo_report_64 : decode prog_14_method_22_code 64 = .ok (.iconst 0, 1) := by decide +kernel
theorem d_Mo_report_65 : decode prog_14_method_22_code 65 = .ok (.goto 4, 3) := by decide +kernel
theorem d_Mo_report_133 : decode prog_14_method_22_code 133 = .ok (.iastore, 1) := by decide +kernel
theorem d_Mo_report_134 : decode prog_14_method_22_code 134 = .ok (.aload_n 0, 1) := by decide +kernel
theorem d_Mo_report_135 : decode prog_14_method_22_code 135 = .ok (.getfield 65, 3) := by decide +kernel
theorem d_Mo_report_138 : decode prog_14_method_22_code 138 = .ok (.iload_n 1, 1) := by decide +kernel
theorem d_Mo_report_139 : decode prog_14_method_22_code 139 = .ok (.iconst 1, 1) := by decide +kernel
theorem d_Mo_report_140 : decode prog_14_method_22_code 140 = .ok (.bastore, 1) := by decide +kernel
theorem d_Mo_report_141 : decode prog_14_method_22_code 141 = .ok (.aload_n 0, 1) := by decide +kernel
theorem d_Mo_report_142 : decode prog_14_method_22_code 142 = .ok (.iload_n 1, 1) := by decide +kernel
theorem d_Mo_report_143 : decode prog_14_method_22_code 143 = .ok (.invokevirtual 173, 3) := by decide +kernel
theorem d_Mo_invoice_5 : decode prog_14_method_26_code 5 = .ok (.ifCond .eq 61, 3) := by decide +kernel
theorem d_Mo_invoice_8 : decode prog_14_method_26_code 8 = .ok (.iload_n 2, 1) := by decide +kernel
theorem d_Mo_invoice_9 : decode prog_14_method_26_code 9 = .ok (.invokestatic 144, 3) := by decide +kernel
theorem d_Mo_invoice_12 : decode prog_14_method_26_code 12 = .ok (.ifCond .eq 54, 3) := by decide +kernel
theorem d_Mo_invoice_15 : decode prog_14_method_26_code 15 = .ok (.aload_n 0, 1) := by decide +kernel
theorem d_Mo_invoice_16 : decode prog_14_method_26_code 16 = .ok (.getfield 17, 3) := by decide +kernel
theorem d_Mo_invoice_19 : decode prog_14_method_26_code 19 = .ok (.iconst 3, 1) := by decide +kernel
theorem d_Mo_invoice_20 : decode prog_14_method_26_code 20 = .ok (.iload_n 1, 1) := by decide +kernel
theorem d_Mo_invoice_21 : decode prog_14_method_26_code 21 = .ok (.imul, 1) := by decide +kernel
theorem d_Mo_invoice_22 : decode prog_14_method_26_code 22 = .ok (.iload_n 2, 1) := by decide +kernel
theorem d_Mo_invoice_23 : decode prog_14_method_26_code 23 = .ok (.iadd, 1) := by decide +kernel
theorem d_Mo_invoice_24 : decode prog_14_method_26_code 24 = .ok (.iaload, 1) := by decide +kernel
theorem d_Mo_invoice_25 : decode prog_14_method_26_code 25 = .ok (.aload_n 0, 1) := by decide +kernel
theorem d_Mo_invoice_26 : decode prog_14_method_26_code 26 = .ok (.getfield 13, 3) := by decide +kernel
theorem d_Mo_invoice_29 : decode prog_14_method_26_code 29 = .ok (.iconst 3, 1) := by decide +kernel
theorem d_Mo_invoice_30 : decode prog_14_method_26_code 30 = .ok (.iload_n 1, 1) := by decide +kernel
theorem d_Mo_invoice_31 : decode prog_14_method_26_code 31 = .ok (.imul, 1) := by decide +kernel
theorem d_Mo_invoice_32 : decode prog_14_method_26_code 32 = .ok (.iload_n 2, 1) := by decide +kernel
theorem d_Mo_invoice_33 : decode prog_14_method_26_code 33 = .ok (.iadd, 1) := by decide +kernel
theorem d_Mo_invoice_34 : decode prog_14_method_26_code 34 = .ok (.iaload, 1) := by decide +kernel
theorem d_Mo_invoice_35 : decode prog_14_method_26_code 35 = .ok (.if_icmp .eq 31, 3) := by decide +kernel
theorem d_Mo_invoice_38 : decode prog_14_method_26_code 38 = .ok (.lload_n 3, 1) := by decide +kernel
theorem d_Mo_invoice_39 : decode prog_14_method_26_code 39 = .ok (.lconst 1, 1) := by decide +kernel
theorem d_Mo_invoice_40 : decode prog_14_method_26_code 40 = .ok (.lcmp, 1) := by decide +kernel
theorem d_Mo_invoice_41 : decode prog_14_method_26_code 41 = .ok (.ifCond .lt 25, 3) := by decide +kernel
theorem d_Mo_invoice_44 : decode prog_14_method_26_code 44 = .ok (.lload_n 3, 1) := by decide +kernel
theorem d_Mo_invoice_45 : decode prog_14_method_26_code 45 = .ok (.ldc2_w 176, 3) := by decide +kernel
theorem wC_NumberOfficeModel_176 : Cond.constantLong "NumberOfficeModel" 176 1000000000000 ∈ ztb := ztb_of 1356 (by decide +kernel) rfl
theorem d_Mo_invoice_48 : decode prog_14_method_26_code 48 = .ok (.lcmp, 1) := by decide +kernel
theorem d_Mo_invoice_49 : decode prog_14_method_26_code 49 = .ok (.ifCond .gt 17, 3) := by decide +kernel
theorem d_Mo_invoice_52 : decode prog_14_method_26_code 52 = .ok (.aload_n 0, 1) := by decide +kernel
theorem d_Mo_invoice_53 : decode prog_14_method_26_code 53 = .ok (.iconst 3, 1) := by decide +kernel
theorem d_Mo_invoice_54 : decode prog_14_method_26_code 54 = .ok (.iload_n 1, 1) := by decide +kernel
theorem d_Mo_invoice_55 : decode prog_14_method_26_code 55 = .ok (.imul, 1) := by decide +kernel
theorem d_Mo_invoice_56 : decode prog_14_method_26_code 56 = .ok (.iload_n 2, 1) := by decide +kernel
theorem d_Mo_invoice_57 : decode prog_14_method_26_code 57 = .ok (.iadd, 1) := by decide +kernel
theorem d_Mo_invoice_58 : decode prog_14_method_26_code 58 = .ok (.iload 5, 2) := by decide +kernel
theorem d_Mo_invoice_60 : decode prog_14_method_26_code 60 = .ok (.invokevirtual 178, 3) := by decide +kernel
theorem wV_NumberOfficeModel_178 : zVl "NumberOfficeModel" 178 14 Y_Mo_tooEarly K_Mo_tooEarly 2 := ⟨zR_NumberOfficeModel, zF_NumberOfficeModel, 40, rfl, ztb_of 1357 (by decide +kernel) rfl, ztb_of 1359 (by decide +kernel) rfl, ztb_of 25 (by decide +kernel) rfl, ztb_of 53 (by decide +kernel) rfl, ztb_of 1360 (by decide +kernel) rfl, by decide, by decide +kernel⟩
theorem d_Mo_invoice_63 : decode prog_14_method_26_code 63 = .ok (.ifCond .eq 17, 3) := by decide +kernel
theorem d_Mo_invoice_80 : decode prog_14_method_26_code 80 = .ok (.iconst 3, 1) := by decide +kernel
theorem d_Mo_invoice_81 : decode prog_14_method_26_code 81 = .ok (.iload_n 1, 1) := by decide +kernel
theorem d_Mo_invoice_82 : decode prog_14_method_26_code 82 = .ok (.imul, 1) := by decide +kernel
theorem d_Mo_invoice_83 : decode prog_14_method_26_code 83 = .ok (.iload_n 2, 1) := by decide +kernel
theorem d_Mo_invoice_84 : decode prog_14_method_26_code 84 = .ok (.iadd, 1) := by decide +kernel
theorem d_Mo_invoice_85 : decode prog_14_method_26_code 85 = .ok (.istore 6, 2) := by decide +kernel
theorem d_Mo_invoice_87 : decode prog_14_method_26_code 87 = .ok (.aload_n 0, 1) := by decide +kernel
theorem d_Mo_invoice_88 : decode prog_14_method_26_code 88 = .ok (.getfield 17, 3) := by decide +kernel
theorem d_Mo_invoice_91 : decode prog_14_method_26_code 91 = .ok (.iload 6, 2) := by decide +kernel
theorem d_Mo_invoice_93 : decode prog_14_method_26_code 93 = .ok (.iaload, 1) := by decide +kernel
theorem d_Mo_invoice_94 : decode prog_14_method_26_code 94 = .ok (.istore 7, 2) := by decide +kernel
theorem d_Mo_invoice_96 : decode prog_14_method_26_code 96 = .ok (.aload_n 0, 1) := by decide +kernel
theorem d_Mo_invoice_97 : decode prog_14_method_26_code 97 = .ok (.getfield 40, 3) := by decide +kernel
theorem d_Mo_invoice_100 : decode prog_14_method_26_code 100 = .ok (.sipush 300, 3) := by decide +kernel
theorem d_Mo_invoice_103 : decode prog_14_method_26_code 103 = .ok (.iload 6, 2) := by decide +kernel
theorem d_Mo_invoice_105 : decode prog_14_method_26_code 105 = .ok (.imul, 1) := by decide +kernel
theorem d_Mo_invoice_106 : decode prog_14_method_26_code 106 = .ok (.iload 7, 2) := by decide +kernel
theorem d_Mo_invoice_108 : decode prog_14_method_26_code 108 = .ok (.iadd, 1) := by decide +kernel
theorem d_Mo_invoice_109 : decode prog_14_method_26_code 109 = .ok (.lload_n 3, 1) := by decide +kernel
theorem d_Mo_invoice_110 : decode prog_14_method_26_code 110 = .ok (.lastore, 1) := by decide +kernel
theorem d_Mo_invoice_111 : decode prog_14_method_26_code 111 = .ok (.aload_n 0, 1) := by decide +kernel
theorem d_Mo_invoice_112 : decode prog_14_method_26_code 112 = .ok (.getfield 44, 3) := by decide +kernel
theorem d_Mo_invoice_115 : decode prog_14_method_26_code 115 = .ok (.sipush 300, 3) := by decide +kernel
theorem d_Mo_invoice_118 : decode prog_14_method_26_code 118 = .ok (.iload 6, 2) := by decide +kernel
theorem d_Mo_invoice_120 : decode prog_14_method_26_code 120 = .ok (.imul, 1) := by decide +kernel
theorem d_Mo_invoice_121 : decode prog_14_method_26_code 121 = .ok (.iload 7, 2) := by decide +kernel
theorem d_Mo_invoice_123 : decode prog_14_method_26_code 123 = .ok (.iadd, 1) := by decide +kernel
theorem d_Mo_invoice_124 : decode prog_14_method_26_code 124 = .ok (.iload 5, 2) := by decide +kernel
theorem d_Mo_invoice_126 : decode prog_14_method_26_code 126 = .ok (.iastore, 1) := by decide +kernel
theorem d_Mo_invoice_127 : decode prog_14_method_26_code 127 = .ok (.aload_n 0, 1) := by decide +kernel
theorem d_Mo_invoice_128 : decode prog_14_method_26_code 128 = .ok (.getfield 17, 3) := by decide +kernel
theorem d_Mo_invoice_131 : decode prog_14_method_26_code 131 = .ok (.iload 6, 2) := by decide +kernel
theorem d_Mo_invoice_133 : decode prog_14_method_26_code 133 = .ok (.dup2, 1) := by decide +kernel
theorem d_Mo_invoice_134 : decode prog_14_method_26_code 134 = .ok (.iaload, 1) := by decide +kernel
theorem d_Mo_invoice_135 : decode prog_14_method_26_code 135 = .ok (.iconst 1, 1) := by decide +kernel
theorem d_Mo_invoice_136 : decode prog_14_method_26_code 136 = .ok (.iadd, 1) := by decide +kernel
theorem d_Mo_invoice_137 : decode prog_14_method_26_code 137 = .ok (.iastore, 1) := by decide +kernel
theorem d_Mo_invoice_138 : decode prog_14_method_26_code 138 = .ok (.aload_n 0, 1) := by decide +kernel
theorem d_Mo_invoice_139 : decode prog_14_method_26_code 139 = .ok (.iload 6, 2) := by decide +kernel
theorem d_Mo_invoice_141 : decode prog_14_method_26_code 141 = .ok (.iload 7, 2) := by decide +kernel
theorem d_Mo_invoice_143 : decode prog_14_method_26_code 143 = .ok (.iconst 0, 1) := by decide +kernel
theorem d_Mo_invoice_144 : decode prog_14_method_26_code 144 = .ok (.invokevirtual 182, 3) := by decide +kernel
theorem wV_NumberOfficeModel_182 : zVl "NumberOfficeModel" 182 14 Y_Mo_happens K_Mo_happens 3 := ⟨zR_NumberOfficeModel, zF_NumberOfficeModel, 40, rfl, ztb_of 1361 (by decide +kernel) rfl, ztb_of 1363 (by decide +kernel) rfl, ztb_of 26 (by decide +kernel) rfl, ztb_of 53 (by decide +kernel) rfl, ztb_of 1364 (by decide +kernel) rfl, by decide, by decide +kernel⟩
theorem d_Mo_invoice_147 : decode prog_14_method_26_code 147 = .ok (.aload_n 0, 1) := by decide +kernel
theorem d_Mo_invoice_148 : decode prog_14_method_26_code 148 = .ok (.iload_n 1, 1) := by decide +kernel
theorem d_Mo_invoice_149 : decode prog_14_method_26_code 149 = .ok (.invokevirtual 136, 3) := by decide +kernel
theorem d_Mo_voidNext_5 : decode prog_14_method_27_code 5 = .ok (.ifCond .eq 44, 3) := by decide +kernel
theorem d_Mo_voidNext_8 : decode prog_14_method_27_code 8 = .ok (.iload_n 2, 1) := by decide +kernel
theorem d_Mo_voidNext_9 : decode prog_14_method_27_code 9 = .ok (.invokestatic 144, 3) := by decide +kernel
theorem d_Mo_voidNext_12 : decode prog_14_method_27_code 12 = .ok (.ifCond .eq 37, 3) := by decide +kernel
theorem d_Mo_voidNext_15 : decode prog_14_method_27_code 15 = .ok (.aload_n 0, 1) := by decide +kernel
theorem d_Mo_voidNext_16 : decode prog_14_method_27_code 16 = .ok (.getfield 17, 3) := by decide +kernel
theorem d_Mo_voidNext_19 : decode prog_14_method_27_code 19 = .ok (.iconst 3, 1) := by decide +kernel
theorem d_Mo_voidNext_20 : decode prog_14_method_27_code 20 = .ok (.iload_n 1, 1) := by decide +kernel
theorem d_Mo_voidNext_21 : decode prog_14_method_27_code 21 = .ok (.imul, 1) := by decide +kernel
theorem d_Mo_voidNext_22 : decode prog_14_method_27_code 22 = .ok (.iload_n 2, 1) := by decide +kernel
theorem d_Mo_voidNext_23 : decode prog_14_method_27_code 23 = .ok (.iadd, 1) := by decide +kernel
theorem d_Mo_voidNext_24 : decode prog_14_method_27_code 24 = .ok (.iaload, 1) := by decide +kernel
theorem d_Mo_voidNext_25 : decode prog_14_method_27_code 25 = .ok (.aload_n 0, 1) := by decide +kernel
theorem d_Mo_voidNext_26 : decode prog_14_method_27_code 26 = .ok (.getfield 13, 3) := by decide +kernel
theorem d_Mo_voidNext_29 : decode prog_14_method_27_code 29 = .ok (.iconst 3, 1) := by decide +kernel
theorem d_Mo_voidNext_30 : decode prog_14_method_27_code 30 = .ok (.iload_n 1, 1) := by decide +kernel
theorem d_Mo_voidNext_31 : decode prog_14_method_27_code 31 = .ok (.imul, 1) := by decide +kernel
theorem d_Mo_voidNext_32 : decode prog_14_method_27_code 32 = .ok (.iload_n 2, 1) := by decide +kernel
theorem d_Mo_voidNext_33 : decode prog_14_method_27_code 33 = .ok (.iadd, 1) := by decide +kernel
theorem d_Mo_voidNext_34 : decode prog_14_method_27_code 34 = .ok (.iaload, 1) := by decide +kernel
theorem d_Mo_voidNext_35 : decode prog_14_method_27_code 35 = .ok (.if_icmp .eq 14, 3) := by decide +kernel
theorem d_Mo_voidNext_38 : decode prog_14_method_27_code 38 = .ok (.iload_n 3, 1) := by decide +kernel
theorem d_Mo_voidNext_39 : decode prog_14_method_27_code 39 = .ok (.iconst 1, 1) := by decide +kernel
theorem d_Mo_voidNext_40 : decode prog_14_method_27_code 40 = .ok (.if_icmp .lt 9, 3) := by decide +kernel
theorem d_Mo_voidNext_43 : decode prog_14_method_27_code 43 = .ok (.iload_n 3, 1) := by decide +kernel
theorem d_Mo_voidNext_44 : decode prog_14_method_27_code 44 = .ok (.bipush 99, 2) := by decide +kernel
theorem d_Mo_voidNext_46 : decode prog_14_method_27_code 46 = .ok (.if_icmp .le 17, 3) := by decide +kernel
theorem d_Mo_voidNext_63 : decode prog_14_method_27_code 63 = .ok (.iconst 3, 1) := by decide +kernel
theorem d_Mo_voidNext_64 : decode prog_14_method_27_code 64 = .ok (.iload_n 1, 1) := by decide +kernel
theorem d_Mo_voidNext_65 : decode prog_14_method_27_code 65 = .ok (.imul, 1) := by decide +kernel
theorem d_Mo_voidNext_66 : decode prog_14_method_27_code 66 = .ok (.iload_n 2, 1) := by decide +kernel
theorem d_Mo_voidNext_67 : decode prog_14_method_27_code 67 = .ok (.iadd, 1) := by decide +kernel
theorem d_Mo_voidNext_68 : decode prog_14_method_27_code 68 = .ok (.istore 4, 2) := by decide +kernel
theorem d_Mo_voidNext_70 : decode prog_14_method_27_code 70 = .ok (.aload_n 0, 1) := by decide +kernel
theorem d_Mo_voidNext_71 : decode prog_14_method_27_code 71 = .ok (.getfield 17, 3) := by decide +kernel
theorem d_Mo_voidNext_74 : decode prog_14_method_27_code 74 = .ok (.iload 4, 2) := by decide +kernel
theorem d_Mo_voidNext_76 : decode prog_14_method_27_code 76 = .ok (.iaload, 1) := by decide +kernel
theorem d_Mo_voidNext_77 : decode prog_14_method_27_code 77 = .ok (.istore 5, 2) := by decide +kernel
theorem d_Mo_voidNext_79 : decode prog_14_method_27_code 79 = .ok (.aload_n 0, 1) := by decide +kernel
theorem d_Mo_voidNext_80 : decode prog_14_method_27_code 80 = .ok (.getfield 40, 3) := by decide +kernel
theorem d_Mo_voidNext_83 : decode prog_14_method_27_code 83 = .ok (.sipush 300, 3) := by decide +kernel
theorem d_Mo_voidNext_86 : decode prog_14_method_27_code 86 = .ok (.iload 4, 2) := by decide +kernel
theorem d_Mo_voidNext_88 : decode prog_14_method_27_code 88 = .ok (.imul, 1) := by decide +kernel
theorem d_Mo_voidNext_89 : decode prog_14_method_27_code 89 = .ok (.iload 5, 2) := by decide +kernel
theorem d_Mo_voidNext_91 : decode prog_14_method_27_code 91 = .ok (.iadd, 1) := by decide +kernel
theorem d_Mo_voidNext_92 : decode prog_14_method_27_code 92 = .ok (.lconst 0, 1) := by decide +kernel
theorem d_Mo_voidNext_93 : decode prog_14_method_27_code 93 = .ok (.lastore, 1) := by decide +kernel
theorem d_Mo_voidNext_94 : decode prog_14_method_27_code 94 = .ok (.aload_n 0, 1) := by decide +kernel
theorem d_Mo_voidNext_95 : decode prog_14_method_27_code 95 = .ok (.getfield 47, 3) := by decide +kernel
theorem d_Mo_voidNext_98 : decode prog_14_method_27_code 98 = .ok (.sipush 300, 3) := by decide +kernel
theorem d_Mo_voidNext_101 : decode prog_14_method_27_code 101 = .ok (.iload 4, 2) := by decide +kernel
theorem d_Mo_voidNext_103 : decode prog_14_method_27_code 103 = .ok (.imul, 1) := by decide +kernel
theorem d_Mo_voidNext_104 : decode prog_14_method_27_code 104 = .ok (.iload 5, 2) := by decide +kernel
theorem d_Mo_voidNext_106 : decode prog_14_method_27_code 106 = .ok (.iadd, 1) := by decide +kernel
theorem d_Mo_voidNext_107 : decode prog_14_method_27_code 107 = .ok (.iload_n 3, 1) := by decide +kernel
theorem d_Mo_voidNext_108 : decode prog_14_method_27_code 108 = .ok (.i2b, 1) := by decide +kernel
theorem d_Mo_voidNext_109 : decode prog_14_method_27_code 109 = .ok (.bastore, 1) := by decide +kernel
theorem d_Mo_voidNext_110 : decode prog_14_method_27_code 110 = .ok (.aload_n 0, 1) := by decide +kernel
theorem d_Mo_voidNext_111 : decode prog_14_method_27_code 111 = .ok (.getfield 17, 3) := by decide +kernel
theorem d_Mo_voidNext_114 : decode prog_14_method_27_code 114 = .ok (.iload 4, 2) := by decide +kernel
theorem d_Mo_voidNext_116 : decode prog_14_method_27_code 116 = .ok (.dup2, 1) := by decide +kernel
theorem d_Mo_voidNext_117 : decode prog_14_method_27_code 117 = .ok (.iaload, 1) := by decide +kernel
theorem d_Mo_voidNext_118 : decode prog_14_method_27_code 118 = .ok (.iconst 1, 1) := by decide +kernel
theorem d_Mo_voidNext_119 : decode prog_14_method_27_code 119 = .ok (.iadd, 1) := by decide +kernel
theorem d_Mo_voidNext_120 : decode prog_14_method_27_code 120 = .ok (.iastore, 1) := by decide +kernel
theorem d_Mo_voidNext_121 : decode prog_14_method_27_code 121 = .ok (.aload_n 0, 1) := by decide +kernel
theorem d_Mo_voidNext_122 : decode prog_14_method_27_code 122 = .ok (.iload 4, 2) := by decide +kernel
theorem d_Mo_voidNext_124 : decode prog_14_method_27_code 124 = .ok (.iload 5, 2) := by decide +kernel
theorem d_Mo_voidNext_126 : decode prog_14_method_27_code 126 = .ok (.iconst 1, 1) := by decide +kernel
theorem d_Mo_voidNext_127 : decode prog_14_method_27_code 127 = .ok (.invokevirtual 182, 3) := by decide +kernel
theorem d_Mo_voidNext_130 : decode prog_14_method_27_code 130 = .ok (.aload_n 0, 1) := by decide +kernel
theorem d_Mo_voidNext_131 : decode prog_14_method_27_code 131 = .ok (.getfield 29, 3) := by decide +kernel
theorem d_Mo_voidNext_134 : decode prog_14_method_27_code 134 = .ok (.sipush 300, 3) := by decide +kernel
theorem d_Mo_voidNext_137 : decode prog_14_method_27_code 137 = .ok (.iload 4, 2) := by decide +kernel
theorem d_Mo_voidNext_139 : decode prog_14_method_27_code 139 = .ok (.imul, 1) := by decide +kernel
theorem d_Mo_voidNext_140 : decode prog_14_method_27_code 140 = .ok (.iload 5, 2) := by decide +kernel
theorem d_Mo_voidNext_142 : decode prog_14_method_27_code 142 = .ok (.iadd, 1) := by decide +kernel
theorem d_Mo_voidNext_143 : decode prog_14_method_27_code 143 = .ok (.saload, 1) := by decide +kernel
theorem d_Mo_voidNext_144 : decode prog_14_method_27_code 144 = .ok (.ireturn, 1) := by decide +kernel
theorem d_Mo_voidNext_49 : decode prog_14_method_27_code 49 = .ok (.aload_n 0, 1) := by decide +kernel
theorem d_Mo_voidNext_50 : decode prog_14_method_27_code 50 = .ok (.getfield 120, 3) := by decide +kernel
theorem d_Mo_voidNext_53 : decode prog_14_method_27_code 53 = .ok (.iconst 1, 1) := by decide +kernel
theorem d_Mo_voidNext_54 : decode prog_14_method_27_code 54 = .ok (.if_icmp .ne 7, 3) := by decide +kernel
theorem d_Mo_voidNext_61 : decode prog_14_method_27_code 61 = .ok (.iconst (-1), 1) := by decide +kernel
theorem d_Mo_voidNext_57 : decode prog_14_method_27_code 57 = .ok (.iconst 0, 1) := by decide +kernel
theorem d_Mo_voidNext_58 : decode prog_14_method_27_code 58 = .ok (.goto 4, 3) := by decide +kernel
theorem d_Mo_voidNext_62 : decode prog_14_method_27_code 62 = .ok (.ireturn, 1) := by decide +kernel
theorem d_Mo_voidUsed_5 : decode prog_14_method_29_code 5 = .ok (.ifCond .eq 23, 3) := by decide +kernel
theorem d_Mo_voidUsed_8 : decode prog_14_method_29_code 8 = .ok (.iload_n 2, 1) := by decide +kernel
theorem d_Mo_voidUsed_9 : decode prog_14_method_29_code 9 = .ok (.invokestatic 144, 3) := by decide +kernel
theorem d_Mo_voidUsed_12 : decode prog_14_method_29_code 12 = .ok (.ifCond .eq 16, 3) := by decide +kernel
theorem d_Mo_voidUsed_15 : decode prog_14_method_29_code 15 = .ok (.iload 4, 2) := by decide +kernel
theorem d_Mo_voidUsed_17 : decode prog_14_method_29_code 17 = .ok (.iconst 1, 1) := by decide +kernel
theorem d_Mo_voidUsed_18 : decode prog_14_method_29_code 18 = .ok (.if_icmp .lt 10, 3) := by decide +kernel
theorem d_Mo_voidUsed_21 : decode prog_14_method_29_code 21 = .ok (.iload 4, 2) := by decide +kernel
theorem d_Mo_voidUsed_23 : decode prog_14_method_29_code 23 = .ok (.bipush 99, 2) := by decide +kernel
theorem d_Mo_voidUsed_25 : decode prog_14_method_29_code 25 = .ok (.if_icmp .le 5, 3) := by decide +kernel
theorem d_Mo_voidUsed_30 : decode prog_14_method_29_code 30 = .ok (.iconst 3, 1) := by decide +kernel
theorem d_Mo_voidUsed_31 : decode prog_14_method_29_code 31 = .ok (.iload_n 1, 1) := by decide +kernel
theorem d_Mo_voidUsed_32 : decode prog_14_method_29_code 32 = .ok (.imul, 1) := by decide +kernel
theorem d_Mo_voidUsed_33 : decode prog_14_method_29_code 33 = .ok (.iload_n 2, 1) := by decide +kernel
theorem d_Mo_voidUsed_34 : decode prog_14_method_29_code 34 = .ok (.iadd, 1) := by decide +kernel
theorem d_Mo_voidUsed_35 : decode prog_14_method_29_code 35 = .ok (.istore 5, 2) := by decide +kernel
theorem d_Mo_voidUsed_37 : decode prog_14_method_29_code 37 = .ok (.aload_n 0, 1) := by decide +kernel
theorem d_Mo_voidUsed_38 : decode prog_14_method_29_code 38 = .ok (.iload 5, 2) := by decide +kernel
theorem d_Mo_voidUsed_40 : decode prog_14_method_29_code 40 = .ok (.iload_n 3, 1) := by decide +kernel
theorem d_Mo_voidUsed_41 : decode prog_14_method_29_code 41 = .ok (.invokevirtual 186, 3) := by decide +kernel
theorem d_Mo_voidUsed_44 : decode prog_14_method_29_code 44 = .ok (.istore 6, 2) := by decide +kernel
theorem d_Mo_voidUsed_46 : decode prog_14_method_29_code 46 = .ok (.iload 6, 2) := by decide +kernel
theorem d_Mo_voidUsed_48 : decode prog_14_method_29_code 48 = .ok (.iconst (-1), 1) := by decide +kernel
theorem d_Mo_voidUsed_49 : decode prog_14_method_29_code 49 = .ok (.if_icmp .eq 21, 3) := by decide +kernel
theorem d_Mo_voidUsed_52 : decode prog_14_method_29_code 52 = .ok (.aload_n 0, 1) := by decide +kernel
theorem d_Mo_voidUsed_53 : decode prog_14_method_29_code 53 = .ok (.getfield 36, 3) := by decide +kernel
theorem d_Mo_voidUsed_56 : decode prog_14_method_29_code 56 = .ok (.sipush 300, 3) := by decide +kernel
theorem d_Mo_voidUsed_59 : decode prog_14_method_29_code 59 = .ok (.iload 5, 2) := by decide +kernel
theorem d_Mo_voidUsed_61 : decode prog_14_method_29_code 61 = .ok (.imul, 1) := by decide +kernel
theorem d_Mo_voidUsed_62 : decode prog_14_method_29_code 62 = .ok (.iload 6, 2) := by decide +kernel
theorem d_Mo_voidUsed_64 : decode prog_14_method_29_code 64 = .ok (.iadd, 1) := by decide +kernel
theorem d_Mo_voidUsed_65 : decode prog_14_method_29_code 65 = .ok (.baload, 1) := by decide +kernel
theorem d_Mo_voidUsed_66 : decode prog_14_method_29_code 66 = .ok (.iconst 2, 1) := by decide +kernel
theorem d_Mo_voidUsed_67 : decode prog_14_method_29_code 67 = .ok (.if_icmp .eq 5, 3) := by decide +kernel
theorem d_Mo_voidUsed_72 : decode prog_14_method_29_code 72 = .ok (.aload_n 0, 1) := by decide +kernel
theorem d_Mo_voidUsed_73 : decode prog_14_method_29_code 73 = .ok (.getfield 47, 3) := by decide +kernel
theorem d_Mo_voidUsed_76 : decode prog_14_method_29_code 76 = .ok (.sipush 300, 3) := by decide +kernel
theorem d_Mo_voidUsed_79 : decode prog_14_method_29_code 79 = .ok (.iload 5, 2) := by decide +kernel
theorem d_Mo_voidUsed_81 : decode prog_14_method_29_code 81 = .ok (.imul, 1) := by decide +kernel
theorem d_Mo_voidUsed_82 : decode prog_14_method_29_code 82 = .ok (.iload 6, 2) := by decide +kernel
theorem d_Mo_voidUsed_84 : decode prog_14_method_29_code 84 = .ok (.iadd, 1) := by decide +kernel
theorem d_Mo_voidUsed_85 : decode prog_14_method_29_code 85 = .ok (.iload 4, 2) := by decide +kernel
theorem d_Mo_voidUsed_87 : decode prog_14_method_29_code 87 = .ok (.i2b, 1) := by decide +kernel
theorem d_Mo_voidUsed_88 : decode prog_14_method_29_code 88 = .ok (.bastore, 1) := by decide +kernel
theorem d_Mo_voidUsed_89 : decode prog_14_method_29_code 89 = .ok (.aload_n 0, 1) := by decide +kernel
theorem d_Mo_voidUsed_90 : decode prog_14_method_29_code 90 = .ok (.iload 5, 2) := by decide +kernel
theorem d_Mo_voidUsed_92 : decode prog_14_method_29_code 92 = .ok (.iload 6, 2) := by decide +kernel
theorem d_Mo_voidUsed_94 : decode prog_14_method_29_code 94 = .ok (.iconst 1, 1) := by decide +kernel
theorem d_Mo_voidUsed_95 : decode prog_14_method_29_code 95 = .ok (.invokevirtual 182, 3) := by decide +kernel
theorem d_Mo_voidUsed_98 : decode prog_14_method_29_code 98 = .ok (.iconst 1, 1) := by decide +kernel
theorem d_Mo_voidUsed_99 : decode prog_14_method_29_code 99 = .ok (.ireturn, 1) := by decide +kernel
theorem d_Mo_voidUsed_28 : decode prog_14_method_29_code 28 = .ok (.iconst 0, 1) := by decide +kernel
theorem d_Mo_voidUsed_29 : decode prog_14_method_29_code 29 = .ok (.ireturn, 1) := by decide +kernel
theorem d_Mo_voidUsed_70 : decode prog_14_method_29_code 70 = .ok (.iconst 0, 1) := by decide +kernel
theorem d_Mo_voidUsed_71 : decode prog_14_method_29_code 71 = .ok (.ireturn, 1) := by decide +kernel
theorem d_Mo_crash_10 : decode prog_14_method_33_code 10 = .ok (.ifCond .eq 12, 3) := by decide +kernel
theorem d_Mo_crash_13 : decode prog_14_method_33_code 13 = .ok (.aload_n 0, 1) := by decide +kernel
theorem d_Mo_crash_14 : decode prog_14_method_33_code 14 = .ok (.getfield 7, 3) := by decide +kernel
theorem d_Mo_crash_17 : decode prog_14_method_33_code 17 = .ok (.iload_n 1, 1) := by decide +kernel
theorem d_Mo_crash_18 : decode prog_14_method_33_code 18 = .ok (.baload, 1) := by decide +kernel
theorem d_Mo_crash_19 : decode prog_14_method_33_code 19 = .ok (.ifCond .eq 5, 3) := by decide +kernel
theorem d_Mo_crash_24 : decode prog_14_method_33_code 24 = .ok (.aload_n 0, 1) := by decide +kernel
theorem d_Mo_crash_25 : decode prog_14_method_33_code 25 = .ok (.getfield 7, 3) := by decide +kernel
theorem d_Mo_crash_28 : decode prog_14_method_33_code 28 = .ok (.iload_n 1, 1) := by decide +kernel
theorem d_Mo_crash_29 : decode prog_14_method_33_code 29 = .ok (.iconst 1, 1) := by decide +kernel
theorem d_Mo_crash_30 : decode prog_14_method_33_code 30 = .ok (.bastore, 1) := by decide +kernel
theorem d_Mo_crash_31 : decode prog_14_method_33_code 31 = .ok (.iconst 1, 1) := by decide +kernel
theorem d_Mo_crash_32 : decode prog_14_method_33_code 32 = .ok (.ireturn, 1) := by decide +kernel
theorem d_Mo_crash_22 : decode prog_14_method_33_code 22 = .ok (.iconst 0, 1) := by decide +kernel
theorem d_Mo_crash_23 : decode prog_14_method_33_code 23 = .ok (.ireturn, 1) := by decide +kernel
theorem wV_NumberOfficeModel_130 : zVl "NumberOfficeModel" 130 14 Y_Mo_copyBranch K_Mo_copyBranch 2 := ⟨zR_NumberOfficeModel, zF_NumberOfficeModel, 40, rfl, ztb_of 1332 (by decide +kernel) rfl, ztb_of 1334 (by decide +kernel) rfl, ztb_of 22 (by decide +kernel) rfl, ztb_of 53 (by decide +kernel) rfl, ztb_of 1335 (by decide +kernel) rfl, by decide, by decide +kernel⟩
theorem d_Mo_mount_39 : decode prog_14_method_34_code 39 = .ok (.aload_n 0, 1) := by decide +kernel
theorem d_Mo_mount_40 : decode prog_14_method_34_code 40 = .ok (.iconst 1, 1) := by decide +kernel
theorem d_Mo_mount_41 : decode prog_14_method_34_code 41 = .ok (.iconst 0, 1) := by decide +kernel
theorem d_Mo_mount_42 : decode prog_14_method_34_code 42 = .ok (.invokevirtual 127, 3) := by decide +kernel
theorem wV_NumberOfficeModel_127 : zVl "NumberOfficeModel" 127 14 Y_Mo_copyOffice K_Mo_copyOffice 2 := ⟨zR_NumberOfficeModel, zF_NumberOfficeModel, 40, rfl, ztb_of 1328 (by decide +kernel) rfl, ztb_of 1330 (by decide +kernel) rfl, ztb_of 21 (by decide +kernel) rfl, ztb_of 53 (by decide +kernel) rfl, ztb_of 1331 (by decide +kernel) rfl, by decide, by decide +kernel⟩
theorem d_Mo_mount_45 : decode prog_14_method_34_code 45 = .ok (.goto 12, 3) := by decide +kernel
theorem d_Mo_mount_22 : decode prog_14_method_34_code 22 = .ok (.iconst 0, 1) := by decide +kernel
theorem d_Mo_mount_23 : decode prog_14_method_34_code 23 = .ok (.ireturn, 1) := by decide +kernel
theorem d_Mo_mount_57 : decode prog_14_method_34_code 57 = .ok (.iconst 1, 1) := by decide +kernel
theorem d_Mo_mount_58 : decode prog_14_method_34_code 58 = .ok (.ireturn, 1) := by decide +kernel
theorem d_Mo_letter_10 : decode prog_14_method_38_code 10 = .ok (.ifCond .eq 26, 3) := by decide +kernel
theorem d_Mo_letter_13 : decode prog_14_method_38_code 13 = .ok (.iload_n 2, 1) := by decide +kernel
theorem d_Mo_letter_14 : decode prog_14_method_38_code 14 = .ok (.ifCond .lt 22, 3) := by decide +kernel
theorem d_Mo_letter_17 : decode prog_14_method_38_code 17 = .ok (.iload_n 2, 1) := by decide +kernel
theorem d_Mo_letter_18 : decode prog_14_method_38_code 18 = .ok (.iconst 3, 1) := by decide +kernel
theorem d_Mo_letter_19 : decode prog_14_method_38_code 19 = .ok (.if_icmp .ge 17, 3) := by decide +kernel
theorem d_Mo_letter_22 : decode prog_14_method_38_code 22 = .ok (.aload_n 0, 1) := by decide +kernel
theorem d_Mo_letter_23 : decode prog_14_method_38_code 23 = .ok (.getfield 110, 3) := by decide +kernel
theorem d_Mo_letter_26 : decode prog_14_method_38_code 26 = .ok (.bipush 8, 2) := by decide +kernel
theorem d_Mo_letter_28 : decode prog_14_method_38_code 28 = .ok (.iload_n 1, 1) := by decide +kernel
theorem d_Mo_letter_29 : decode prog_14_method_38_code 29 = .ok (.imul, 1) := by decide +kernel
theorem d_Mo_letter_30 : decode prog_14_method_38_code 30 = .ok (.iload_n 2, 1) := by decide +kernel
theorem d_Mo_letter_31 : decode prog_14_method_38_code 31 = .ok (.iadd, 1) := by decide +kernel
theorem d_Mo_letter_32 : decode prog_14_method_38_code 32 = .ok (.iaload, 1) := by decide +kernel
theorem d_Mo_letter_33 : decode prog_14_method_38_code 33 = .ok (.goto 4, 3) := by decide +kernel
theorem d_Mo_letter_36 : decode prog_14_method_38_code 36 = .ok (.iconst (-1), 1) := by decide +kernel
theorem d_Mo_letter_37 : decode prog_14_method_38_code 37 = .ok (.ireturn, 1) := by decide +kernel
theorem d_Mo_deliver_51 : decode prog_14_method_39_code 51 = .ok (.aload_n 0, 1) := by decide +kernel
theorem d_Mo_deliver_52 : decode prog_14_method_39_code 52 = .ok (.getfield 113, 3) := by decide +kernel
theorem d_Mo_deliver_55 : decode prog_14_method_39_code 55 = .ok (.iconst 0, 1) := by decide +kernel
theorem d_Mo_deliver_56 : decode prog_14_method_39_code 56 = .ok (.iaload, 1) := by decide +kernel
theorem d_Mo_deliver_57 : decode prog_14_method_39_code 57 = .ok (.iconst 3, 1) := by decide +kernel
theorem d_Mo_deliver_58 : decode prog_14_method_39_code 58 = .ok (.if_icmp .ne 54, 3) := by decide +kernel
theorem d_Mo_deliver_112 : decode prog_14_method_39_code 112 = .ok (.aload_n 0, 1) := by decide +kernel
theorem d_Mo_deliver_113 : decode prog_14_method_39_code 113 = .ok (.getfield 7, 3) := by decide +kernel
theorem d_Mo_deliver_116 : decode prog_14_method_39_code 116 = .ok (.aload_n 0, 1) := by decide +kernel
theorem d_Mo_deliver_117 : decode prog_14_method_39_code 117 = .ok (.getfield 116, 3) := by decide +kernel
theorem d_Mo_deliver_120 : decode prog_14_method_39_code 120 = .ok (.baload, 1) := by decide +kernel
theorem d_Mo_deliver_121 : decode prog_14_method_39_code 121 = .ok (.ifCond .ne 7, 3) := by decide +kernel
theorem d_Mo_deliver_124 : decode prog_14_method_39_code 124 = .ok (.aload_n 0, 1) := by decide +kernel
theorem d_Mo_deliver_125 : decode prog_14_method_39_code 125 = .ok (.invokevirtual 202, 3) := by decide +kernel
theorem wV_NumberOfficeModel_160 : zVl "NumberOfficeModel" 160 14 Y_Mo_sendAnswer K_Mo_sendAnswer 1 := ⟨zR_NumberOfficeModel, zF_NumberOfficeModel, 40, rfl, ztb_of 1441 (by decide +kernel) rfl, ztb_of 1443 (by decide +kernel) rfl, ztb_of 36 (by decide +kernel) rfl, ztb_of 53 (by decide +kernel) rfl, ztb_of 1444 (by decide +kernel) rfl, by decide, by decide +kernel⟩
theorem d_Mo_comes_26 : decode prog_14_method_17_code 26 = .ok (.aload_n 0, 1) := by decide +kernel
theorem d_Mo_comes_27 : decode prog_14_method_17_code 27 = .ok (.getfield 98, 3) := by decide +kernel
theorem d_Mo_comes_30 : decode prog_14_method_17_code 30 = .ok (.iload_n 1, 1) := by decide +kernel
theorem d_Mo_comes_31 : decode prog_14_method_17_code 31 = .ok (.iload_n 2, 1) := by decide +kernel
theorem d_Mo_comes_32 : decode prog_14_method_17_code 32 = .ok (.iastore, 1) := by decide +kernel
theorem d_Mo_comes_33 : decode prog_14_method_17_code 33 = .ok (.aload_n 0, 1) := by decide +kernel
theorem d_Mo_comes_34 : decode prog_14_method_17_code 34 = .ok (.getfield 95, 3) := by decide +kernel
theorem d_Mo_comes_37 : decode prog_14_method_17_code 37 = .ok (.iload_n 1, 1) := by decide +kernel
theorem d_Mo_comes_38 : decode prog_14_method_17_code 38 = .ok (.baload, 1) := by decide +kernel
theorem d_Mo_comes_39 : decode prog_14_method_17_code 39 = .ok (.ifCond .eq 13, 3) := by decide +kernel
theorem d_Mo_comes_52 : decode prog_14_method_17_code 52 = .ok (.aload_n 0, 1) := by decide +kernel
theorem d_Mo_comes_53 : decode prog_14_method_17_code 53 = .ok (.getfield 113, 3) := by decide +kernel
theorem d_Mo_comes_56 : decode prog_14_method_17_code 56 = .ok (.iconst 0, 1) := by decide +kernel
theorem d_Mo_comes_57 : decode prog_14_method_17_code 57 = .ok (.iaload, 1) := by decide +kernel
theorem d_Mo_comes_58 : decode prog_14_method_17_code 58 = .ok (.iconst 1, 1) := by decide +kernel
theorem d_Mo_comes_59 : decode prog_14_method_17_code 59 = .ok (.if_icmp .ne 23, 3) := by decide +kernel
theorem d_Mo_comes_82 : decode prog_14_method_17_code 82 = .ok (.aload_n 0, 1) := by decide +kernel
theorem d_Mo_comes_83 : decode prog_14_method_17_code 83 = .ok (.iload_n 1, 1) := by decide +kernel
theorem d_Mo_comes_84 : decode prog_14_method_17_code 84 = .ok (.aload_n 0, 1) := by decide +kernel
theorem d_Mo_comes_85 : decode prog_14_method_17_code 85 = .ok (.getfield 113, 3) := by decide +kernel
theorem d_Mo_comes_88 : decode prog_14_method_17_code 88 = .ok (.iconst 3, 1) := by decide +kernel
theorem d_Mo_comes_89 : decode prog_14_method_17_code 89 = .ok (.iaload, 1) := by decide +kernel
theorem d_Mo_comes_90 : decode prog_14_method_17_code 90 = .ok (.aload_n 0, 1) := by decide +kernel
theorem d_Mo_comes_91 : decode prog_14_method_17_code 91 = .ok (.getfield 113, 3) := by decide +kernel
theorem d_Mo_comes_94 : decode prog_14_method_17_code 94 = .ok (.iconst 5, 1) := by decide +kernel
theorem d_Mo_comes_95 : decode prog_14_method_17_code 95 = .ok (.iaload, 1) := by decide +kernel
theorem d_Mo_comes_96 : decode prog_14_method_17_code 96 = .ok (.aload_n 0, 1) := by decide +kernel
theorem d_Mo_comes_97 : decode prog_14_method_17_code 97 = .ok (.getfield 113, 3) := by decide +kernel
theorem d_Mo_comes_100 : decode prog_14_method_17_code 100 = .ok (.iconst 4, 1) := by decide +kernel
theorem d_Mo_comes_101 : decode prog_14_method_17_code 101 = .ok (.iaload, 1) := by decide +kernel
theorem d_Mo_comes_102 : decode prog_14_method_17_code 102 = .ok (.invokevirtual 156, 3) := by decide +kernel
theorem wV_NumberOfficeModel_156 : zVl "NumberOfficeModel" 156 14 Y_Mo_learn K_Mo_learn 4 := ⟨zR_NumberOfficeModel, zF_NumberOfficeModel, 40, rfl, ztb_of 1437 (by decide +kernel) rfl, ztb_of 1439 (by decide +kernel) rfl, ztb_of 35 (by decide +kernel) rfl, ztb_of 53 (by decide +kernel) rfl, ztb_of 1440 (by decide +kernel) rfl, by decide, by decide +kernel⟩
theorem d_Mo_comes_62 : decode prog_14_method_17_code 62 = .ok (.aload_n 0, 1) := by decide +kernel
theorem d_Mo_comes_63 : decode prog_14_method_17_code 63 = .ok (.iload_n 1, 1) := by decide +kernel
theorem d_Mo_comes_64 : decode prog_14_method_17_code 64 = .ok (.aload_n 0, 1) := by decide +kernel
theorem d_Mo_comes_65 : decode prog_14_method_17_code 65 = .ok (.getfield 113, 3) := by decide +kernel
theorem d_Mo_comes_68 : decode prog_14_method_17_code 68 = .ok (.iconst 3, 1) := by decide +kernel
theorem d_Mo_comes_69 : decode prog_14_method_17_code 69 = .ok (.iaload, 1) := by decide +kernel
theorem d_Mo_comes_70 : decode prog_14_method_17_code 70 = .ok (.aload_n 0, 1) := by decide +kernel
theorem d_Mo_comes_71 : decode prog_14_method_17_code 71 = .ok (.getfield 113, 3) := by decide +kernel
theorem d_Mo_comes_74 : decode prog_14_method_17_code 74 = .ok (.iconst 4, 1) := by decide +kernel
theorem d_Mo_comes_75 : decode prog_14_method_17_code 75 = .ok (.iaload, 1) := by decide +kernel
theorem d_Mo_comes_76 : decode prog_14_method_17_code 76 = .ok (.invokevirtual 152, 3) := by decide +kernel
theorem wV_NumberOfficeModel_152 : zVl "NumberOfficeModel" 152 14 Y_Mo_give K_Mo_give 3 := ⟨zR_NumberOfficeModel, zF_NumberOfficeModel, 40, rfl, ztb_of 1433 (by decide +kernel) rfl, ztb_of 1435 (by decide +kernel) rfl, ztb_of 34 (by decide +kernel) rfl, ztb_of 53 (by decide +kernel) rfl, ztb_of 1436 (by decide +kernel) rfl, by decide, by decide +kernel⟩
theorem d_Mo_comes_79 : decode prog_14_method_17_code 79 = .ok (.goto 26, 3) := by decide +kernel
theorem d_Mo_comes_42 : decode prog_14_method_17_code 42 = .ok (.aload_n 0, 1) := by decide +kernel
theorem d_Mo_comes_43 : decode prog_14_method_17_code 43 = .ok (.getfield 101, 3) := by decide +kernel
theorem d_Mo_comes_46 : decode prog_14_method_17_code 46 = .ok (.iload_n 1, 1) := by decide +kernel
theorem d_Mo_comes_47 : decode prog_14_method_17_code 47 = .ok (.iconst 3, 1) := by decide +kernel
theorem d_Mo_comes_48 : decode prog_14_method_17_code 48 = .ok (.iastore, 1) := by decide +kernel
theorem d_Mo_comes_49 : decode prog_14_method_17_code 49 = .ok (.goto 56, 3) := by decide +kernel
theorem d_Mo_comes_136 : decode prog_14_method_17_code 136 = .ok (.return_, 1) := by decide +kernel
theorem d_Mo_comes_105 : decode prog_14_method_17_code 105 = .ok (.aload_n 0, 1) := by decide +kernel
theorem d_Mo_comes_106 : decode prog_14_method_17_code 106 = .ok (.aload_n 0, 1) := by decide +kernel
theorem d_Mo_comes_107 : decode prog_14_method_17_code 107 = .ok (.getfield 116, 3) := by decide +kernel
theorem d_Mo_comes_110 : decode prog_14_method_17_code 110 = .ok (.invokevirtual 136, 3) := by decide +kernel
theorem d_Mo_fate_34 : decode prog_14_method_43_code 34 = .ok (.ifCond .eq 17, 3) := by decide +kernel
theorem d_Mo_fate_37 : decode prog_14_method_43_code 37 = .ok (.aload_n 0, 1) := by decide +kernel
theorem d_Mo_fate_38 : decode prog_14_method_43_code 38 = .ok (.getfield 80, 3) := by decide +kernel
theorem d_Mo_fate_41 : decode prog_14_method_43_code 41 = .ok (.aload_n 0, 1) := by decide +kernel
theorem d_Mo_fate_42 : decode prog_14_method_43_code 42 = .ok (.iload_n 1, 1) := by decide +kernel
theorem d_Mo_fate_43 : decode prog_14_method_43_code 43 = .ok (.iload_n 2, 1) := by decide +kernel
theorem d_Mo_fate_44 : decode prog_14_method_43_code 44 = .ok (.invokevirtual 148, 3) := by decide +kernel
theorem d_Mo_fate_47 : decode prog_14_method_43_code 47 = .ok (.baload, 1) := by decide +kernel
theorem d_Mo_fate_48 : decode prog_14_method_43_code 48 = .ok (.goto 4, 3) := by decide +kernel
theorem d_Mo_fate_51 : decode prog_14_method_43_code 51 = .ok (.iconst 0, 1) := by decide +kernel
theorem d_Mo_fate_52 : decode prog_14_method_43_code 52 = .ok (.ireturn, 1) := by decide +kernel
theorem wV_NumberOfficeModel_210 : zVl "NumberOfficeModel" 210 14 Y_Mo_sum K_Mo_sum 2 := ⟨zR_NumberOfficeModel, zF_NumberOfficeModel, 40, rfl, ztb_of 1470 (by decide +kernel) rfl, ztb_of 1472 (by decide +kernel) rfl, ztb_of 38 (by decide +kernel) rfl, ztb_of 53 (by decide +kernel) rfl, ztb_of 1473 (by decide +kernel) rfl, by decide, by decide +kernel⟩
theorem d_Mo_total_49 : decode prog_14_method_46_code 49 = .ok (.goto 4, 3) := by decide +kernel
theorem d_Mo_total_52 : decode prog_14_method_46_code 52 = .ok (.lconst 0, 1) := by decide +kernel
theorem d_Mo_total_53 : decode prog_14_method_46_code 53 = .ok (.lreturn, 1) := by decide +kernel
theorem wV_NumberOfficeModel_223 : zVl "NumberOfficeModel" 223 14 Y_Mo_put K_Mo_put 1 := ⟨zR_NumberOfficeModel, zF_NumberOfficeModel, 40, rfl, ztb_of 1490 (by decide +kernel) rfl, ztb_of 1492 (by decide +kernel) rfl, ztb_of 40 (by decide +kernel) rfl, ztb_of 53 (by decide +kernel) rfl, ztb_of 1493 (by decide +kernel) rfl, by decide, by decide +kernel⟩
theorem d_Mo_listByte_236 : decode prog_14_method_52_code 236 = .ok (.aload_n 0, 1) := by decide +kernel
theorem d_Mo_listByte_237 : decode prog_14_method_52_code 237 = .ok (.bipush 32, 2) := by decide +kernel
theorem d_Mo_listByte_239 : decode prog_14_method_52_code 239 = .ok (.invokevirtual 223, 3) := by decide +kernel
theorem d_Mo_listByte_242 : decode prog_14_method_52_code 242 = .ok (.aload_n 0, 1) := by decide +kernel
theorem d_Mo_listByte_243 : decode prog_14_method_52_code 243 = .ok (.aload_n 0, 1) := by decide +kernel
theorem d_Mo_listByte_244 : decode prog_14_method_52_code 244 = .ok (.iload_n 1, 1) := by decide +kernel
theorem d_Mo_listByte_245 : decode prog_14_method_52_code 245 = .ok (.bipush 6, 2) := by decide +kernel
theorem d_Mo_listByte_247 : decode prog_14_method_52_code 247 = .ok (.invokevirtual 210, 3) := by decide +kernel
theorem d_Mo_listByte_250 : decode prog_14_method_52_code 250 = .ok (.invokevirtual 238, 3) := by decide +kernel
theorem d_Mo_digits_12 : decode prog_14_method_50_code 12 = .ok (.lload_n 1, 1) := by decide +kernel
theorem d_Mo_digits_13 : decode prog_14_method_50_code 13 = .ok (.lconst 0, 1) := by decide +kernel
theorem d_Mo_digits_14 : decode prog_14_method_50_code 14 = .ok (.lcmp, 1) := by decide +kernel
theorem d_Mo_digits_15 : decode prog_14_method_50_code 15 = .ok (.ifCond .ge 8, 3) := by decide +kernel
theorem d_Mo_digits_23 : decode prog_14_method_50_code 23 = .ok (.lload_n 1, 1) := by decide +kernel
theorem d_Mo_digits_18 : decode prog_14_method_50_code 18 = .ok (.lload_n 1, 1) := by decide +kernel
theorem d_Mo_digits_19 : decode prog_14_method_50_code 19 = .ok (.lneg, 1) := by decide +kernel
theorem d_Mo_digits_20 : decode prog_14_method_50_code 20 = .ok (.goto 4, 3) := by decide +kernel
theorem d_Mo_digits_24 : decode prog_14_method_50_code 24 = .ok (.lstore_n 3, 1) := by decide +kernel
theorem d_Mo_digits_25 : decode prog_14_method_50_code 25 = .ok (.lconst 1, 1) := by decide +kernel
theorem d_Mo_digits_26 : decode prog_14_method_50_code 26 = .ok (.lstore 5, 2) := by decide +kernel
theorem d_Mo_digits_28 : decode prog_14_method_50_code 28 = .ok (.lload_n 3, 1) := by decide +kernel
theorem d_Mo_digits_29 : decode prog_14_method_50_code 29 = .ok (.lload 5, 2) := by decide +kernel
theorem d_Mo_digits_31 : decode prog_14_method_50_code 31 = .ok (.ldiv, 1) := by decide +kernel
theorem d_Mo_digits_32 : decode prog_14_method_50_code 32 = .ok (.ldc2_w 226, 3) := by decide +kernel
theorem wC_NumberOfficeModel_226 : Cond.constantLong "NumberOfficeModel" 226 9 ∈ ztb := ztb_of 1494 (by decide +kernel) rfl
theorem d_Mo_digits_35 : decode prog_14_method_50_code 35 = .ok (.lcmp, 1) := by decide +kernel
theorem d_Mo_digits_36 : decode prog_14_method_50_code 36 = .ok (.ifCond .le 14, 3) := by decide +kernel
theorem d_Mo_digits_39 : decode prog_14_method_50_code 39 = .ok (.lload 5, 2) := by decide +kernel
theorem d_Mo_digits_41 : decode prog_14_method_50_code 41 = .ok (.ldc2_w 228, 3) := by decide +kernel
theorem wC_NumberOfficeModel_228 : Cond.constantLong "NumberOfficeModel" 228 10 ∈ ztb := ztb_of 1495 (by decide +kernel) rfl
theorem d_Mo_digits_44 : decode prog_14_method_50_code 44 = .ok (.lmul, 1) := by decide +kernel
theorem d_Mo_digits_45 : decode prog_14_method_50_code 45 = .ok (.lstore 5, 2) := by decide +kernel
theorem d_Mo_digits_47 : decode prog_14_method_50_code 47 = .ok (.goto (-19), 3) := by decide +kernel
theorem d_Mo_digits_50 : decode prog_14_method_50_code 50 = .ok (.lload 5, 2) := by decide +kernel
theorem d_Mo_digits_52 : decode prog_14_method_50_code 52 = .ok (.lconst 0, 1) := by decide +kernel
theorem d_Mo_digits_53 : decode prog_14_method_50_code 53 = .ok (.lcmp, 1) := by decide +kernel
theorem d_Mo_digits_54 : decode prog_14_method_50_code 54 = .ok (.ifCond .le 31, 3) := by decide +kernel
theorem d_Mo_digits_85 : decode prog_14_method_50_code 85 = .ok (.return_, 1) := by decide +kernel
theorem d_Mo_digits_57 : decode prog_14_method_50_code 57 = .ok (.aload_n 0, 1) := by decide +kernel
theorem d_Mo_digits_58 : decode prog_14_method_50_code 58 = .ok (.ldc2_w 230, 3) := by decide +kernel
theorem wC_NumberOfficeModel_230 : Cond.constantLong "NumberOfficeModel" 230 48 ∈ ztb := ztb_of 1496 (by decide +kernel) rfl
theorem d_Mo_digits_61 : decode prog_14_method_50_code 61 = .ok (.lload_n 3, 1) := by decide +kernel
theorem d_Mo_digits_62 : decode prog_14_method_50_code 62 = .ok (.lload 5, 2) := by decide +kernel
theorem d_Mo_digits_64 : decode prog_14_method_50_code 64 = .ok (.ldiv, 1) := by decide +kernel
theorem d_Mo_digits_65 : decode prog_14_method_50_code 65 = .ok (.ldc2_w 228, 3) := by decide +kernel
theorem d_Mo_digits_68 : decode prog_14_method_50_code 68 = .ok (.lrem, 1) := by decide +kernel
theorem d_Mo_digits_69 : decode prog_14_method_50_code 69 = .ok (.ladd, 1) := by decide +kernel
theorem d_Mo_digits_70 : decode prog_14_method_50_code 70 = .ok (.l2i, 1) := by decide +kernel
theorem d_Mo_digits_71 : decode prog_14_method_50_code 71 = .ok (.invokevirtual 223, 3) := by decide +kernel
theorem d_Mo_digits_74 : decode prog_14_method_50_code 74 = .ok (.lload 5, 2) := by decide +kernel
theorem d_Mo_digits_76 : decode prog_14_method_50_code 76 = .ok (.ldc2_w 228, 3) := by decide +kernel
theorem d_Mo_digits_79 : decode prog_14_method_50_code 79 = .ok (.ldiv, 1) := by decide +kernel
theorem d_Mo_digits_80 : decode prog_14_method_50_code 80 = .ok (.lstore 5, 2) := by decide +kernel
theorem d_Mo_digits_82 : decode prog_14_method_50_code 82 = .ok (.goto (-32), 3) := by decide +kernel
theorem wV_NumberOfficeModel_234 : zVl "NumberOfficeModel" 234 14 Y_Mo_digits K_Mo_digits 1 := ⟨zR_NumberOfficeModel, zF_NumberOfficeModel, 40, rfl, ztb_of 1486 (by decide +kernel) rfl, ztb_of 1488 (by decide +kernel) rfl, ztb_of 39 (by decide +kernel) rfl, ztb_of 53 (by decide +kernel) rfl, ztb_of 1489 (by decide +kernel) rfl, by decide, by decide +kernel⟩
theorem d_Mo_money_9 : decode prog_14_method_51_code 9 = .ok (.aload_n 0, 1) := by decide +kernel
theorem d_Mo_money_10 : decode prog_14_method_51_code 10 = .ok (.bipush 46, 2) := by decide +kernel
theorem d_Mo_money_12 : decode prog_14_method_51_code 12 = .ok (.invokevirtual 223, 3) := by decide +kernel
theorem d_Mo_money_15 : decode prog_14_method_51_code 15 = .ok (.aload_n 0, 1) := by decide +kernel
theorem d_Mo_money_16 : decode prog_14_method_51_code 16 = .ok (.ldc2_w 230, 3) := by decide +kernel
theorem d_Mo_money_19 : decode prog_14_method_51_code 19 = .ok (.lload_n 1, 1) := by decide +kernel
theorem d_Mo_money_20 : decode prog_14_method_51_code 20 = .ok (.ldc2_w 228, 3) := by decide +kernel
theorem d_Mo_money_23 : decode prog_14_method_51_code 23 = .ok (.ldiv, 1) := by decide +kernel
theorem d_Mo_money_24 : decode prog_14_method_51_code 24 = .ok (.ldc2_w 228, 3) := by decide +kernel
theorem d_Mo_money_27 : decode prog_14_method_51_code 27 = .ok (.lrem, 1) := by decide +kernel
theorem d_Mo_money_28 : decode prog_14_method_51_code 28 = .ok (.ladd, 1) := by decide +kernel
theorem d_Mo_money_29 : decode prog_14_method_51_code 29 = .ok (.l2i, 1) := by decide +kernel
theorem d_Mo_money_30 : decode prog_14_method_51_code 30 = .ok (.invokevirtual 223, 3) := by decide +kernel
theorem d_Mo_money_33 : decode prog_14_method_51_code 33 = .ok (.aload_n 0, 1) := by decide +kernel
theorem d_Mo_money_34 : decode prog_14_method_51_code 34 = .ok (.ldc2_w 230, 3) := by decide +kernel
theorem d_Mo_money_37 : decode prog_14_method_51_code 37 = .ok (.lload_n 1, 1) := by decide +kernel
theorem d_Mo_money_38 : decode prog_14_method_51_code 38 = .ok (.ldc2_w 228, 3) := by decide +kernel
theorem d_Mo_money_41 : decode prog_14_method_51_code 41 = .ok (.lrem, 1) := by decide +kernel
theorem d_Mo_money_42 : decode prog_14_method_51_code 42 = .ok (.ladd, 1) := by decide +kernel
theorem d_Mo_money_43 : decode prog_14_method_51_code 43 = .ok (.l2i, 1) := by decide +kernel
theorem d_Mo_money_44 : decode prog_14_method_51_code 44 = .ok (.invokevirtual 223, 3) := by decide +kernel
theorem d_Mo_money_47 : decode prog_14_method_51_code 47 = .ok (.aload_n 0, 1) := by decide +kernel
theorem d_Mo_money_48 : decode prog_14_method_51_code 48 = .ok (.bipush 32, 2) := by decide +kernel
theorem d_Mo_money_50 : decode prog_14_method_51_code 50 = .ok (.invokevirtual 223, 3) := by decide +kernel
theorem d_Mo_money_53 : decode prog_14_method_51_code 53 = .ok (.return_, 1) := by decide +kernel
theorem wI_NumberOffice_29 : zIl "NumberOffice" 29 Y_Office_init K_Office_init 1 := ⟨rfl, ztb_of 203 (by decide +kernel) rfl, ztb_of 204 (by decide +kernel) rfl, ztb_of 51 (by decide +kernel) rfl, rfl, rfl, ztb_of 205 (by decide +kernel) rfl, by decide, by decide +kernel⟩
theorem d_No_init_59 : decode prog_1_method_1_code 59 = .ok (.putfield 30, 3) := by decide +kernel
theorem wP_NumberOffice_30_0 : zPl "NumberOffice" 30 0 1 (.object "NumberOffice$Office") true := ⟨"NumberOffice", zR_NumberOffice, zF_NumberOffice, 3, zY_NumberOffice, rfl, zin_NumberOffice, by decide, ztb_of 271 (by decide +kernel) rfl, Or.inl rfl, zYok_NumberOffice, zN_NumberOffice, rfl, fun _ => rfl, by decide +kernel⟩
theorem d_No_init_62 : decode prog_1_method_1_code 62 = .ok (.aload_n 0, 1) := by decide +kernel
theorem d_No_init_63 : decode prog_1_method_1_code 63 = .ok (.new 34, 3) := by decide +kernel
theorem wN_NumberOffice_34 : zNl "NumberOffice" 34 3 3 [.null, .int 0, .int 0] := ⟨zR_ArrayList, zF_ArrayList, zY_ArrayList, rfl, zin_ArrayList, zYok_ArrayList, ztb_of 268 (by decide +kernel) rfl, ztb_of 106 (by decide +kernel) rfl, ztb_of 50 (by decide +kernel) rfl, by decide⟩
theorem d_No_init_66 : decode prog_1_method_1_code 66 = .ok (.dup, 1) := by decide +kernel
theorem d_No_init_67 : decode prog_1_method_1_code 67 = .ok (.invokespecial 36, 3) := by decide +kernel
theorem wI_java_util_ArrayList_1 : zIl "java/util/ArrayList" 1 Y_AbstractList_init K_AbstractList_init 0 := ⟨rfl, ztb_of 110 (by decide +kernel) rfl, ztb_of 111 (by decide +kernel) rfl, ztb_of 49 (by decide +kernel) rfl, rfl, rfl, ztb_of 112 (by decide +kernel) rfl, by decide, by decide +kernel⟩
theorem d_ArrayList_init_4 : decode prog_31_method_2_code 4 = .ok (.aload_n 0, 1) := by decide +kernel
theorem d_ArrayList_init_5 : decode prog_31_method_2_code 5 = .ok (.getstatic 39, 3) := by decide +kernel
theorem d_ArrayList_init_8 : decode prog_31_method_2_code 8 = .ok (.putfield 9, 3) := by decide +kernel
theorem d_ArrayList_init_11 : decode prog_31_method_2_code 11 = .ok (.return_, 1) := by decide +kernel
theorem wV_NumberOffice_Branch_22 : zVl "NumberOffice$Branch" 22 2 Y_BranchSeries_save K_BranchSeries_save 0 := ⟨zR_BranchSeries, zF_BranchSeries, 10, rfl, ztb_of 296 (by decide +kernel) rfl, ztb_of 297 (by decide +kernel) rfl, ztb_of 298 (by decide +kernel) rfl, ztb_of 47 (by decide +kernel) rfl, ztb_of 299 (by decide +kernel) rfl, by decide, by decide +kernel⟩
theorem d_Branch_save_16 : decode prog_4_method_2_code 16 = .ok (.iinc 1 1, 3) := by decide +kernel
theorem d_Branch_save_19 : decode prog_4_method_2_code 19 = .ok (.goto (-17), 3) := by decide +kernel
theorem wV_NumberOffice_212 : zVl "NumberOffice" 212 3 Y_ArrayList_get K_ArrayList_get 1 := ⟨zR_ArrayList, zF_ArrayList, 3, rfl, ztb_of 435 (by decide +kernel) rfl, ztb_of 436 (by decide +kernel) rfl, ztb_of 437 (by decide +kernel) rfl, ztb_of 50 (by decide +kernel) rfl, ztb_of 438 (by decide +kernel) rfl, by decide, by decide +kernel⟩
theorem d_No_mailAt_23 : decode prog_1_method_29_code 23 = .ok (.checkcast 157, 3) := by decide +kernel
theorem d_No_mailAt_26 : decode prog_1_method_29_code 26 = .ok (.goto 4, 3) := by decide +kernel
theorem wK_NumberOffice_157_9 : zCl "NumberOffice" 157 9 := ⟨"NumberOffice$Letter", "NumberOffice$Mail", zF_Letter, 6, rfl, ztb_of 443 (by decide +kernel) rfl, Or.inr (ztb_of 1514 (by decide +kernel) rfl)⟩
theorem wK_NumberOffice_157_6 : zCl "NumberOffice" 157 6 := ⟨"NumberOffice$Answer", "NumberOffice$Mail", zF_Answer, 5, rfl, ztb_of 443 (by decide +kernel) rfl, Or.inr (ztb_of 1513 (by decide +kernel) rfl)⟩
theorem d_No_mailAt_29 : decode prog_1_method_29_code 29 = .ok (.aconst_null, 1) := by decide +kernel
theorem d_No_mailAt_30 : decode prog_1_method_29_code 30 = .ok (.areturn, 1) := by decide +kernel
theorem wV_NumberOffice_152 : zVl "NumberOffice" 152 0 Y_No_mailAt K_No_mailAt 1 := ⟨zR_NumberOffice, zF_NumberOffice, 3, rfl, ztb_of 431 (by decide +kernel) rfl, ztb_of 433 (by decide +kernel) rfl, ztb_of 7 (by decide +kernel) rfl, ztb_of 43 (by decide +kernel) rfl, ztb_of 434 (by decide +kernel) rfl, by decide, by decide +kernel⟩
theorem wV_NumberOffice_Office_82 : zVl "NumberOffice$Office" 82 5 Y_SeriesBook_give K_SeriesBook_give 2 := ⟨zR_SeriesBook, zF_SeriesBook, 8, rfl, ztb_of 515 (by decide +kernel) rfl, ztb_of 516 (by decide +kernel) rfl, ztb_of 517 (by decide +kernel) rfl, ztb_of 52 (by decide +kernel) rfl, ztb_of 518 (by decide +kernel) rfl, by decide, by decide +kernel⟩
theorem d_Office_take_83 : decode prog_10_method_8_code 83 = .ok (.invokespecial 73, 3) := by decide +kernel
theorem wI_NumberOffice_Office_73 : zIl "NumberOffice$Office" 73 Y_Answer_init K_Answer_init 3 := ⟨rfl, ztb_of 471 (by decide +kernel) rfl, ztb_of 472 (by decide +kernel) rfl, ztb_of 72 (by decide +kernel) rfl, rfl, rfl, ztb_of 473 (by decide +kernel) rfl, by decide, by decide +kernel⟩
theorem d_Office_take_86 : decode prog_10_method_8_code 86 = .ok (.areturn, 1) := by decide +kernel
theorem d_Office_take_46 : decode prog_10_method_8_code 46 = .ok (.new 28, 3) := by decide +kernel
theorem d_Office_take_49 : decode prog_10_method_8_code 49 = .ok (.dup, 1) := by decide +kernel
theorem d_Office_take_50 : decode prog_10_method_8_code 50 = .ok (.aload_n 1, 1) := by decide +kernel
theorem d_Office_take_51 : decode prog_10_method_8_code 51 = .ok (.iload_n 3, 1) := by decide +kernel
theorem d_Office_take_52 : decode prog_10_method_8_code 52 = .ok (.aconst_null, 1) := by decide +kernel
theorem d_Office_take_53 : decode prog_10_method_8_code 53 = .ok (.invokespecial 73, 3) := by decide +kernel
theorem d_Office_take_56 : decode prog_10_method_8_code 56 = .ok (.areturn, 1) := by decide +kernel
theorem d_Office_take_90 : decode prog_10_method_8_code 90 = .ok (.iload 4, 2) := by decide +kernel
theorem d_Office_take_92 : decode prog_10_method_8_code 92 = .ok (.aload_n 1, 1) := by decide +kernel
theorem d_Office_take_93 : decode prog_10_method_8_code 93 = .ok (.getfield 86, 3) := by decide +kernel
theorem wF_NumberOffice_Office_86_9 : zFl "NumberOffice$Office" 86 9 2 := ⟨"NumberOffice$Letter", zR_Letter, zF_Letter, 6, rfl, zin_Letter, by decide, ztb_of 713 (by decide +kernel) rfl, Or.inl rfl⟩
theorem d_Office_take_96 : decode prog_10_method_8_code 96 = .ok (.arraylength, 1) := by decide +kernel
theorem d_Office_take_97 : decode prog_10_method_8_code 97 = .ok (.if_icmp .ge 20, 3) := by decide +kernel
theorem d_Office_take_117 : decode prog_10_method_8_code 117 = .ok (.new 28, 3) := by decide +kernel
theorem d_Office_take_120 : decode prog_10_method_8_code 120 = .ok (.dup, 1) := by decide +kernel
theorem d_Office_take_121 : decode prog_10_method_8_code 121 = .ok (.aload_n 1, 1) := by decide +kernel
theorem d_Office_take_122 : decode prog_10_method_8_code 122 = .ok (.iconst 0, 1) := by decide +kernel
theorem d_Office_take_123 : decode prog_10_method_8_code 123 = .ok (.aconst_null, 1) := by decide +kernel
theorem d_Office_take_124 : decode prog_10_method_8_code 124 = .ok (.invokespecial 73, 3) := by decide +kernel
theorem d_Office_take_127 : decode prog_10_method_8_code 127 = .ok (.areturn, 1) := by decide +kernel
theorem d_Office_take_100 : decode prog_10_method_8_code 100 = .ok (.aload_n 2, 1) := by decide +kernel
theorem d_Office_take_101 : decode prog_10_method_8_code 101 = .ok (.aload_n 1, 1) := by decide +kernel
theorem d_Office_take_102 : decode prog_10_method_8_code 102 = .ok (.getfield 86, 3) := by decide +kernel
theorem d_Office_take_105 : decode prog_10_method_8_code 105 = .ok (.iload 4, 2) := by decide +kernel
theorem d_Office_take_107 : decode prog_10_method_8_code 107 = .ok (.aaload, 1) := by decide +kernel
theorem d_Office_take_108 : decode prog_10_method_8_code 108 = .ok (.invokevirtual 90, 3) := by decide +kernel
theorem d_SeriesBook_enter_8 : decode prog_11_method_9_code 8 = .ok (.istore_n 2, 1) := by decide +kernel
theorem d_SeriesBook_enter_9 : decode prog_11_method_9_code 9 = .ok (.aload_n 1, 1) := by decide +kernel
theorem d_SeriesBook_enter_10 : decode prog_11_method_9_code 10 = .ok (.getfield 78, 3) := by decide +kernel
theorem wF_NumberOffice_SeriesBook_78_10 : zFl "NumberOffice$SeriesBook" 78 10 1 := ⟨"NumberOffice$Event", zR_Event, zF_Event, 4, rfl, zin_Event, by decide, ztb_of 775 (by decide +kernel) rfl, Or.inl rfl⟩
theorem d_SeriesBook_enter_13 : decode prog_11_method_9_code 13 = .ok (.ifCond .eq 16, 3) := by decide +kernel
theorem d_SeriesBook_enter_29 : decode prog_11_method_9_code 29 = .ok (.iload_n 2, 1) := by decide +kernel
theorem d_SeriesBook_enter_30 : decode prog_11_method_9_code 30 = .ok (.iconst 1, 1) := by decide +kernel
theorem d_SeriesBook_enter_31 : decode prog_11_method_9_code 31 = .ok (.if_icmp .eq 8, 3) := by decide +kernel
theorem d_SeriesBook_enter_34 : decode prog_11_method_9_code 34 = .ok (.iload_n 2, 1) := by decide +kernel
theorem d_SeriesBook_enter_35 : decode prog_11_method_9_code 35 = .ok (.iconst 2, 1) := by decide +kernel
theorem d_SeriesBook_enter_36 : decode prog_11_method_9_code 36 = .ok (.if_icmp .ne 15, 3) := by decide +kernel
theorem d_SeriesBook_enter_16 : decode prog_11_method_9_code 16 = .ok (.iload_n 2, 1) := by decide +kernel
theorem d_SeriesBook_enter_17 : decode prog_11_method_9_code 17 = .ok (.iconst 1, 1) := by decide +kernel
theorem d_SeriesBook_enter_18 : decode prog_11_method_9_code 18 = .ok (.if_icmp .ne 7, 3) := by decide +kernel
theorem d_SeriesBook_enter_25 : decode prog_11_method_9_code 25 = .ok (.iconst 0, 1) := by decide +kernel
theorem d_SeriesBook_enter_26 : decode prog_11_method_9_code 26 = .ok (.goto 26, 3) := by decide +kernel
theorem d_SeriesBook_enter_21 : decode prog_11_method_9_code 21 = .ok (.iconst 1, 1) := by decide +kernel
theorem d_SeriesBook_enter_22 : decode prog_11_method_9_code 22 = .ok (.goto 30, 3) := by decide +kernel
theorem d_SeriesBook_enter_39 : decode prog_11_method_9_code 39 = .ok (.aload_n 0, 1) := by decide +kernel
theorem d_SeriesBook_enter_40 : decode prog_11_method_9_code 40 = .ok (.getfield 11, 3) := by decide +kernel
theorem d_SeriesBook_enter_43 : decode prog_11_method_9_code 43 = .ok (.iconst 2, 1) := by decide +kernel
theorem d_SeriesBook_enter_44 : decode prog_11_method_9_code 44 = .ok (.if_icmp .eq 7, 3) := by decide +kernel
theorem d_SeriesBook_enter_47 : decode prog_11_method_9_code 47 = .ok (.iconst 1, 1) := by decide +kernel
theorem d_SeriesBook_enter_48 : decode prog_11_method_9_code 48 = .ok (.goto 4, 3) := by decide +kernel
theorem d_SeriesBook_enter_51 : decode prog_11_method_9_code 51 = .ok (.iconst 0, 1) := by decide +kernel
theorem d_SeriesBook_enter_52 : decode prog_11_method_9_code 52 = .ok (.istore_n 3, 1) := by decide +kernel
theorem d_SeriesBook_enter_53 : decode prog_11_method_9_code 53 = .ok (.iload_n 3, 1) := by decide +kernel
theorem d_SeriesBook_enter_54 : decode prog_11_method_9_code 54 = .ok (.ifCond .ne 4, 3) := by decide +kernel
theorem d_SeriesBook_enter_58 : decode prog_11_method_9_code 58 = .ok (.aload_n 1, 1) := by decide +kernel
theorem d_SeriesBook_enter_59 : decode prog_11_method_9_code 59 = .ok (.getfield 69, 3) := by decide +kernel
theorem d_SeriesBook_enter_62 : decode prog_11_method_9_code 62 = .ok (.iconst 1, 1) := by decide +kernel
theorem d_SeriesBook_enter_63 : decode prog_11_method_9_code 63 = .ok (.isub, 1) := by decide +kernel
theorem d_SeriesBook_enter_64 : decode prog_11_method_9_code 64 = .ok (.istore 4, 2) := by decide +kernel
theorem d_SeriesBook_enter_66 : decode prog_11_method_9_code 66 = .ok (.aload_n 0, 1) := by decide +kernel
theorem d_SeriesBook_enter_67 : decode prog_11_method_9_code 67 = .ok (.getfield 19, 3) := by decide +kernel
theorem d_SeriesBook_enter_70 : decode prog_11_method_9_code 70 = .ok (.iload 4, 2) := by decide +kernel
theorem d_SeriesBook_enter_72 : decode prog_11_method_9_code 72 = .ok (.aload_n 1, 1) := by decide +kernel
theorem d_SeriesBook_enter_73 : decode prog_11_method_9_code 73 = .ok (.getfield 78, 3) := by decide +kernel
theorem d_SeriesBook_enter_76 : decode prog_11_method_9_code 76 = .ok (.ifCond .eq 7, 3) := by decide +kernel
theorem d_SeriesBook_enter_83 : decode prog_11_method_9_code 83 = .ok (.iconst 3, 1) := by decide +kernel
theorem d_SeriesBook_enter_79 : decode prog_11_method_9_code 79 = .ok (.iconst 2, 1) := by decide +kernel
theorem d_SeriesBook_enter_80 : decode prog_11_method_9_code 80 = .ok (.goto 4, 3) := by decide +kernel
theorem d_SeriesBook_enter_57 : decode prog_11_method_9_code 57 = .ok (.return_, 1) := by decide +kernel
theorem d_SeriesBook_enter_84 : decode prog_11_method_9_code 84 = .ok (.iastore, 1) := by decide +kernel
theorem d_SeriesBook_enter_85 : decode prog_11_method_9_code 85 = .ok (.aload_n 0, 1) := by decide +kernel
theorem d_SeriesBook_enter_86 : decode prog_11_method_9_code 86 = .ok (.getfield 22, 3) := by decide +kernel
theorem d_SeriesBook_enter_89 : decode prog_11_method_9_code 89 = .ok (.iload 4, 2) := by decide +kernel
theorem d_SeriesBook_enter_91 : decode prog_11_method_9_code 91 = .ok (.aload_n 1, 1) := by decide +kernel
theorem d_SeriesBook_enter_92 : decode prog_11_method_9_code 92 = .ok (.getfield 82, 3) := by decide +kernel
theorem wF_NumberOffice_SeriesBook_82_10 : zFl "NumberOffice$SeriesBook" 82 10 2 := ⟨"NumberOffice$Event", zR_Event, zF_Event, 4, rfl, zin_Event, by decide, ztb_of 778 (by decide +kernel) rfl, Or.inl rfl⟩
theorem d_SeriesBook_enter_95 : decode prog_11_method_9_code 95 = .ok (.lastore, 1) := by decide +kernel
theorem d_SeriesBook_enter_96 : decode prog_11_method_9_code 96 = .ok (.aload_n 0, 1) := by decide +kernel
theorem d_SeriesBook_enter_97 : decode prog_11_method_9_code 97 = .ok (.getfield 26, 3) := by decide +kernel
theorem d_SeriesBook_enter_100 : decode prog_11_method_9_code 100 = .ok (.iload 4, 2) := by decide +kernel
theorem d_SeriesBook_enter_102 : decode prog_11_method_9_code 102 = .ok (.aload_n 1, 1) := by decide +kernel
theorem d_SeriesBook_enter_103 : decode prog_11_method_9_code 103 = .ok (.getfield 85, 3) := by decide +kernel
theorem wF_NumberOffice_SeriesBook_85_10 : zFl "NumberOffice$SeriesBook" 85 10 3 := ⟨"NumberOffice$Event", zR_Event, zF_Event, 4, rfl, zin_Event, by decide, ztb_of 781 (by decide +kernel) rfl, Or.inl rfl⟩
theorem d_SeriesBook_enter_106 : decode prog_11_method_9_code 106 = .ok (.iastore, 1) := by decide +kernel
theorem d_SeriesBook_enter_107 : decode prog_11_method_9_code 107 = .ok (.return_, 1) := by decide +kernel
theorem wV_NumberOffice_117 : zVl "NumberOffice" 117 2 Y_BranchSeries_fateOf K_BranchSeries_fateOf 1 := ⟨zR_BranchSeries, zF_BranchSeries, 10, rfl, ztb_of 576 (by decide +kernel) rfl, ztb_of 577 (by decide +kernel) rfl, ztb_of 578 (by decide +kernel) rfl, ztb_of 47 (by decide +kernel) rfl, ztb_of 579 (by decide +kernel) rfl, by decide, by decide +kernel⟩
theorem d_No_branchFate_20 : decode prog_1_method_22_code 20 = .ok (.iconst (-1), 1) := by decide +kernel
theorem d_No_branchFate_21 : decode prog_1_method_22_code 21 = .ok (.ireturn, 1) := by decide +kernel
theorem d_No_branchFate_45 : decode prog_1_method_22_code 45 = .ok (.ireturn, 1) := by decide +kernel
theorem d_BranchSeries_dateFits_4 : decode prog_5_method_9_code 4 = .ok (.astore_n 2, 1) := by decide +kernel
theorem d_BranchSeries_dateFits_5 : decode prog_5_method_9_code 5 = .ok (.aload_n 0, 1) := by decide +kernel
theorem d_BranchSeries_dateFits_6 : decode prog_5_method_9_code 6 = .ok (.getfield 18, 3) := by decide +kernel
theorem d_BranchSeries_dateFits_9 : decode prog_5_method_9_code 9 = .ok (.invokevirtual 21, 3) := by decide +kernel
theorem d_BranchSeries_dateFits_12 : decode prog_5_method_9_code 12 = .ok (.iconst 1, 1) := by decide +kernel
theorem d_BranchSeries_dateFits_13 : decode prog_5_method_9_code 13 = .ok (.isub, 1) := by decide +kernel
theorem d_BranchSeries_dateFits_14 : decode prog_5_method_9_code 14 = .ok (.istore_n 3, 1) := by decide +kernel
theorem d_BranchSeries_dateFits_15 : decode prog_5_method_9_code 15 = .ok (.iload_n 3, 1) := by decide +kernel
theorem d_BranchSeries_dateFits_16 : decode prog_5_method_9_code 16 = .ok (.ifCond .lt 61, 3) := by decide +kernel
theorem d_BranchSeries_dateFits_19 : decode prog_5_method_9_code 19 = .ok (.aload_n 2, 1) := by decide +kernel
theorem d_BranchSeries_dateFits_20 : decode prog_5_method_9_code 20 = .ok (.ifnull 57, 3) := by decide +kernel
theorem d_BranchSeries_dateFits_23 : decode prog_5_method_9_code 23 = .ok (.aload_n 0, 1) := by decide +kernel
theorem d_BranchSeries_dateFits_24 : decode prog_5_method_9_code 24 = .ok (.getfield 18, 3) := by decide +kernel
theorem d_BranchSeries_dateFits_27 : decode prog_5_method_9_code 27 = .ok (.iload_n 3, 1) := by decide +kernel
theorem d_BranchSeries_dateFits_28 : decode prog_5_method_9_code 28 = .ok (.invokevirtual 63, 3) := by decide +kernel
theorem d_BranchSeries_dateFits_31 : decode prog_5_method_9_code 31 = .ok (.checkcast 54, 3) := by decide +kernel
theorem d_BranchSeries_dateFits_34 : decode prog_5_method_9_code 34 = .ok (.astore 4, 2) := by decide +kernel
theorem d_BranchSeries_dateFits_36 : decode prog_5_method_9_code 36 = .ok (.aload 4, 2) := by decide +kernel
theorem d_BranchSeries_dateFits_38 : decode prog_5_method_9_code 38 = .ok (.getfield 81, 3) := by decide +kernel
theorem d_BranchSeries_dateFits_41 : decode prog_5_method_9_code 41 = .ok (.ifCond .eq 30, 3) := by decide +kernel
theorem d_BranchSeries_dateFits_44 : decode prog_5_method_9_code 44 = .ok (.aload_n 2, 1) := by decide +kernel
theorem d_BranchSeries_dateFits_45 : decode prog_5_method_9_code 45 = .ok (.aload 4, 2) := by decide +kernel
theorem d_BranchSeries_dateFits_47 : decode prog_5_method_9_code 47 = .ok (.getfield 85, 3) := by decide +kernel
theorem d_BranchSeries_dateFits_50 : decode prog_5_method_9_code 50 = .ok (.invokevirtual 88, 3) := by decide +kernel
theorem d_BranchSeries_dateFits_53 : decode prog_5_method_9_code 53 = .ok (.ifCond .eq 18, 3) := by decide +kernel
theorem d_BranchSeries_dateFits_56 : decode prog_5_method_9_code 56 = .ok (.iload_n 1, 1) := by decide +kernel
theorem d_BranchSeries_dateFits_57 : decode prog_5_method_9_code 57 = .ok (.aload 4, 2) := by decide +kernel
theorem d_BranchSeries_dateFits_59 : decode prog_5_method_9_code 59 = .ok (.getfield 92, 3) := by decide +kernel
theorem wF_NumberOffice_BranchSeries_92_10 : zFl "NumberOffice$BranchSeries" 92 10 3 := ⟨"NumberOffice$Event", zR_Event, zF_Event, 4, rfl, zin_Event, by decide, ztb_of 780 (by decide +kernel) rfl, Or.inl rfl⟩
theorem d_BranchSeries_dateFits_62 : decode prog_5_method_9_code 62 = .ok (.if_icmp .lt 7, 3) := by decide +kernel
theorem d_BranchSeries_dateFits_69 : decode prog_5_method_9_code 69 = .ok (.iconst 0, 1) := by decide +kernel
theorem d_BranchSeries_dateFits_65 : decode prog_5_method_9_code 65 = .ok (.iconst 1, 1) := by decide +kernel
theorem d_BranchSeries_dateFits_66 : decode prog_5_method_9_code 66 = .ok (.goto 4, 3) := by decide +kernel
theorem d_BranchSeries_dateFits_77 : decode prog_5_method_9_code 77 = .ok (.iconst 1, 1) := by decide +kernel
theorem d_BranchSeries_dateFits_78 : decode prog_5_method_9_code 78 = .ok (.ireturn, 1) := by decide +kernel
theorem d_BranchSeries_dateFits_71 : decode prog_5_method_9_code 71 = .ok (.iinc 3 (-1), 3) := by decide +kernel
theorem d_BranchSeries_dateFits_74 : decode prog_5_method_9_code 74 = .ok (.goto (-59), 3) := by decide +kernel
theorem d_BranchSeries_dateFits_70 : decode prog_5_method_9_code 70 = .ok (.ireturn, 1) := by decide +kernel
theorem wI_NumberOffice_ListText_11 : zIl "NumberOffice$ListText" 11 Y_StringBuilder_init K_StringBuilder_init 0 := ⟨rfl, ztb_of 852 (by decide +kernel) rfl, ztb_of 853 (by decide +kernel) rfl, ztb_of 68 (by decide +kernel) rfl, rfl, rfl, ztb_of 854 (by decide +kernel) rfl, by decide, by decide +kernel⟩
theorem d_ListText_init_12 : decode prog_8_method_1_code 12 = .ok (.putfield 12, 3) := by decide +kernel
theorem wP_NumberOffice_ListText_12_11 : zPl "NumberOffice$ListText" 12 11 0 (.object "java/lang/StringBuilder") true := ⟨"NumberOffice$ListText", zR_ListText, zF_ListText, 2, zY_ListText, rfl, zin_ListText, by decide, ztb_of 881 (by decide +kernel) rfl, Or.inl rfl, zYok_ListText, zN_ListText, rfl, fun _ => rfl, by decide +kernel⟩
theorem d_ListText_init_15 : decode prog_8_method_1_code 15 = .ok (.aload_n 0, 1) := by decide +kernel
theorem d_ListText_init_16 : decode prog_8_method_1_code 16 = .ok (.bipush 20, 2) := by decide +kernel
theorem d_ListText_init_18 : decode prog_8_method_1_code 18 = .ok (.newarray .char, 2) := by decide +kernel
theorem wA_char : Cond.arrayClass .char ∈ ztb := ztb_of 888 (by decide +kernel) rfl
theorem d_ListText_init_20 : decode prog_8_method_1_code 20 = .ok (.putfield 18, 3) := by decide +kernel
theorem wP_NumberOffice_ListText_18_11 : zPl "NumberOffice$ListText" 18 11 1 (.array (.char)) true := ⟨"NumberOffice$ListText", zR_ListText, zF_ListText, 2, zY_ListText, rfl, zin_ListText, by decide, ztb_of 882 (by decide +kernel) rfl, Or.inl rfl, zYok_ListText, zN_ListText, rfl, fun _ => rfl, by decide +kernel⟩
theorem d_ListText_init_23 : decode prog_8_method_1_code 23 = .ok (.return_, 1) := by decide +kernel
theorem wS_java_lang_StringUTF16_419 : zSl "java/lang/StringUTF16" 419 Y_String_checkBoundsOffCount K_String_checkBoundsOffCount 3 := ⟨ztb_of 952 (by decide +kernel) rfl, ztb_of 953 (by decide +kernel) rfl, ztb_of 69 (by decide +kernel) rfl, ztb_of 954 (by decide +kernel) rfl, by decide, by decide +kernel⟩
theorem d_StringUTF16_checkBoundsOffCount_9 : decode prog_26_method_94_code 9 = .ok (.pop, 1) := by decide +kernel
theorem d_StringUTF16_checkBoundsOffCount_10 : decode prog_26_method_94_code 10 = .ok (.return_, 1) := by decide +kernel
theorem d_StringUTF16_putCharSB_5 : decode prog_26_method_71_code 5 = .ok (.aload_n 0, 1) := by decide +kernel
theorem d_StringUTF16_putCharSB_6 : decode prog_26_method_71_code 6 = .ok (.iload_n 1, 1) := by decide +kernel
theorem d_StringUTF16_putCharSB_7 : decode prog_26_method_71_code 7 = .ok (.iload_n 2, 1) := by decide +kernel
theorem d_StringUTF16_putCharSB_8 : decode prog_26_method_71_code 8 = .ok (.invokestatic 111, 3) := by decide +kernel
theorem wS_java_lang_StringUTF16_111 : zSl "java/lang/StringUTF16" 111 Y_StringUTF16_putChar K_StringUTF16_putChar 3 := ⟨ztb_of 960 (by decide +kernel) rfl, ztb_of 961 (by decide +kernel) rfl, ztb_of 70 (by decide +kernel) rfl, ztb_of 962 (by decide +kernel) rfl, by decide, by decide +kernel⟩
theorem d_StringUTF16_putCharSB_11 : decode prog_26_method_71_code 11 = .ok (.return_, 1) := by decide +kernel
theorem wS_java_lang_StringUTF16_241 : zSl "java/lang/StringUTF16" 241 Y_String_checkBoundsBeginEnd K_String_checkBoundsBeginEnd 3 := ⟨ztb_of 1006 (by decide +kernel) rfl, ztb_of 1007 (by decide +kernel) rfl, ztb_of 69 (by decide +kernel) rfl, ztb_of 1008 (by decide +kernel) rfl, by decide, by decide +kernel⟩
theorem d_StringUTF16_checkBoundsBeginEnd_9 : decode prog_26_method_93_code 9 = .ok (.return_, 1) := by decide +kernel
theorem wS_java_lang_StringUTF16_173 : zSl "java/lang/StringUTF16" 173 Y_StringUTF16_checkBoundsOffCount K_StringUTF16_checkBoundsOffCount 3 := ⟨ztb_of 946 (by decide +kernel) rfl, ztb_of 947 (by decide +kernel) rfl, ztb_of 70 (by decide +kernel) rfl, ztb_of 948 (by decide +kernel) rfl, by decide, by decide +kernel⟩
theorem d_StringUTF16_compress2_7 : decode prog_26_method_22_code 7 = .ok (.iconst 0, 1) := by decide +kernel
theorem d_StringUTF16_compress2_8 : decode prog_26_method_22_code 8 = .ok (.istore 5, 2) := by decide +kernel
theorem d_StringUTF16_compress2_10 : decode prog_26_method_22_code 10 = .ok (.iload 5, 2) := by decide +kernel
theorem d_StringUTF16_compress2_12 : decode prog_26_method_22_code 12 = .ok (.iload 4, 2) := by decide +kernel
theorem d_StringUTF16_compress2_14 : decode prog_26_method_22_code 14 = .ok (.if_icmp .ge 39, 3) := by decide +kernel
theorem d_StringUTF16_compress2_53 : decode prog_26_method_22_code 53 = .ok (.iload 4, 2) := by decide +kernel
theorem d_StringUTF16_compress2_55 : decode prog_26_method_22_code 55 = .ok (.ireturn, 1) := by decide +kernel
theorem d_StringUTF16_compress2_17 : decode prog_26_method_22_code 17 = .ok (.aload_n 0, 1) := by decide +kernel
theorem d_StringUTF16_compress2_18 : decode prog_26_method_22_code 18 = .ok (.iload_n 1, 1) := by decide +kernel
theorem d_StringUTF16_compress2_19 : decode prog_26_method_22_code 19 = .ok (.invokestatic 71, 3) := by decide +kernel
theorem d_StringUTF16_compress2_22 : decode prog_26_method_22_code 22 = .ok (.istore 6, 2) := by decide +kernel
theorem d_StringUTF16_compress2_24 : decode prog_26_method_22_code 24 = .ok (.iload 6, 2) := by decide +kernel
theorem d_StringUTF16_compress2_26 : decode prog_26_method_22_code 26 = .ok (.sipush 255, 3) := by decide +kernel
theorem d_StringUTF16_compress2_29 : decode prog_26_method_22_code 29 = .ok (.if_icmp .le 6, 3) := by decide +kernel
theorem d_StringUTF16_compress2_35 : decode prog_26_method_22_code 35 = .ok (.aload_n 2, 1) := by decide +kernel
theorem d_StringUTF16_compress2_36 : decode prog_26_method_22_code 36 = .ok (.iload_n 3, 1) := by decide +kernel
theorem d_StringUTF16_compress2_37 : decode prog_26_method_22_code 37 = .ok (.iload 6, 2) := by decide +kernel
theorem d_StringUTF16_compress2_39 : decode prog_26_method_22_code 39 = .ok (.i2b, 1) := by decide +kernel
theorem d_StringUTF16_compress2_40 : decode prog_26_method_22_code 40 = .ok (.bastore, 1) := by decide +kernel
theorem d_StringUTF16_compress2_41 : decode prog_26_method_22_code 41 = .ok (.iinc 1 1, 3) := by decide +kernel
theorem d_StringUTF16_compress2_44 : decode prog_26_method_22_code 44 = .ok (.iinc 3 1, 3) := by decide +kernel
theorem d_StringUTF16_compress2_47 : decode prog_26_method_22_code 47 = .ok (.iinc 5 1, 3) := by decide +kernel
theorem d_StringUTF16_compress2_50 : decode prog_26_method_22_code 50 = .ok (.goto (-40), 3) := by decide +kernel
theorem d_StringUTF16_compress2_32 : decode prog_26_method_22_code 32 = .ok (.iload 5, 2) := by decide +kernel
theorem d_StringUTF16_compress2_34 : decode prog_26_method_22_code 34 = .ok (.ireturn, 1) := by decide +kernel
theorem wS_java_lang_String_498 : zSl "java/lang/String" 498 Y_StringUTF16_charAt K_StringUTF16_charAt 2 := ⟨ztb_of 1162 (by decide +kernel) rfl, ztb_of 1163 (by decide +kernel) rfl, ztb_of 70 (by decide +kernel) rfl, ztb_of 1164 (by decide +kernel) rfl, by decide, by decide +kernel⟩
theorem d_String_charAt_24 : decode prog_23_method_56_code 24 = .ok (.ireturn, 1) := by decide +kernel
theorem d_String_charAt_7 : decode prog_23_method_56_code 7 = .ok (.aload_n 0, 1) := by decide +kernel
theorem d_String_charAt_8 : decode prog_23_method_56_code 8 = .ok (.getfield 9, 3) := by decide +kernel
theorem d_String_charAt_11 : decode prog_23_method_56_code 11 = .ok (.iload_n 1, 1) := by decide +kernel
theorem d_String_charAt_12 : decode prog_23_method_56_code 12 = .ok (.invokestatic 495, 3) := by decide +kernel
theorem wS_java_lang_String_495 : zSl "java/lang/String" 495 Y_StringLatin1_charAt K_StringLatin1_charAt 2 := ⟨ztb_of 1158 (by decide +kernel) rfl, ztb_of 1159 (by decide +kernel) rfl, ztb_of 71 (by decide +kernel) rfl, ztb_of 1160 (by decide +kernel) rfl, by decide, by decide +kernel⟩
theorem d_String_charAt_15 : decode prog_23_method_56_code 15 = .ok (.ireturn, 1) := by decide +kernel
theorem d_Mo_request_5 : decode prog_14_method_21_code 5 = .ok (.ifCond .eq 52, 3) := by decide +kernel
theorem d_Mo_request_8 : decode prog_14_method_21_code 8 = .ok (.iload_n 2, 1) := by decide +kernel
theorem d_Mo_request_9 : decode prog_14_method_21_code 9 = .ok (.invokestatic 144, 3) := by decide +kernel
theorem d_Mo_request_12 : decode prog_14_method_21_code 12 = .ok (.ifCond .eq 45, 3) := by decide +kernel
theorem d_Mo_request_15 : decode prog_14_method_21_code 15 = .ok (.iload_n 3, 1) := by decide +kernel
theorem d_Mo_request_16 : decode prog_14_method_21_code 16 = .ok (.iconst 1, 1) := by decide +kernel
theorem d_Mo_request_17 : decode prog_14_method_21_code 17 = .ok (.if_icmp .lt 40, 3) := by decide +kernel
theorem d_Mo_request_20 : decode prog_14_method_21_code 20 = .ok (.iload_n 3, 1) := by decide +kernel
theorem d_Mo_request_21 : decode prog_14_method_21_code 21 = .ok (.bipush 100, 2) := by decide +kernel
theorem d_Mo_request_23 : decode prog_14_method_21_code 23 = .ok (.if_icmp .gt 34, 3) := by decide +kernel
theorem d_Mo_request_26 : decode prog_14_method_21_code 26 = .ok (.aload_n 0, 1) := by decide +kernel
theorem d_Mo_request_27 : decode prog_14_method_21_code 27 = .ok (.getfield 65, 3) := by decide +kernel
theorem d_Mo_request_30 : decode prog_14_method_21_code 30 = .ok (.iload_n 1, 1) := by decide +kernel
theorem d_Mo_request_31 : decode prog_14_method_21_code 31 = .ok (.baload, 1) := by decide +kernel
theorem d_Mo_request_32 : decode prog_14_method_21_code 32 = .ok (.ifCond .ne 25, 3) := by decide +kernel
theorem d_Mo_request_35 : decode prog_14_method_21_code 35 = .ok (.aload_n 0, 1) := by decide +kernel
theorem d_Mo_request_36 : decode prog_14_method_21_code 36 = .ok (.getfield 68, 3) := by decide +kernel
theorem d_Mo_request_39 : decode prog_14_method_21_code 39 = .ok (.iload_n 1, 1) := by decide +kernel
theorem d_Mo_request_40 : decode prog_14_method_21_code 40 = .ok (.baload, 1) := by decide +kernel
theorem d_Mo_request_41 : decode prog_14_method_21_code 41 = .ok (.ifCond .ne 16, 3) := by decide +kernel
theorem d_Mo_request_44 : decode prog_14_method_21_code 44 = .ok (.aload_n 0, 1) := by decide +kernel
theorem d_Mo_request_45 : decode prog_14_method_21_code 45 = .ok (.iconst 3, 1) := by decide +kernel
theorem d_Mo_request_46 : decode prog_14_method_21_code 46 = .ok (.iload_n 1, 1) := by decide +kernel
theorem d_Mo_request_47 : decode prog_14_method_21_code 47 = .ok (.imul, 1) := by decide +kernel
theorem d_Mo_request_48 : decode prog_14_method_21_code 48 = .ok (.iload_n 2, 1) := by decide +kernel
theorem d_Mo_request_49 : decode prog_14_method_21_code 49 = .ok (.iadd, 1) := by decide +kernel
theorem d_Mo_request_50 : decode prog_14_method_21_code 50 = .ok (.invokevirtual 169, 3) := by decide +kernel
theorem wV_NumberOfficeModel_169 : zVl "NumberOfficeModel" 169 14 Y_Mo_openBlocks K_Mo_openBlocks 1 := ⟨zR_NumberOfficeModel, zF_NumberOfficeModel, 40, rfl, ztb_of 1316 (by decide +kernel) rfl, ztb_of 1318 (by decide +kernel) rfl, ztb_of 18 (by decide +kernel) rfl, ztb_of 53 (by decide +kernel) rfl, ztb_of 1319 (by decide +kernel) rfl, by decide, by decide +kernel⟩
theorem d_Mo_request_53 : decode prog_14_method_21_code 53 = .ok (.iconst 2, 1) := by decide +kernel
theorem d_Mo_request_54 : decode prog_14_method_21_code 54 = .ok (.if_icmp .lt 17, 3) := by decide +kernel
theorem d_Mo_request_71 : decode prog_14_method_21_code 71 = .ok (.aload_n 0, 1) := by decide +kernel
theorem d_Mo_request_72 : decode prog_14_method_21_code 72 = .ok (.getfield 53, 3) := by decide +kernel
theorem d_Mo_request_75 : decode prog_14_method_21_code 75 = .ok (.iload_n 1, 1) := by decide +kernel
theorem d_Mo_request_76 : decode prog_14_method_21_code 76 = .ok (.dup2, 1) := by decide +kernel
theorem d_Mo_request_77 : decode prog_14_method_21_code 77 = .ok (.iaload, 1) := by decide +kernel
theorem d_Mo_request_78 : decode prog_14_method_21_code 78 = .ok (.iconst 1, 1) := by decide +kernel
theorem d_Mo_request_79 : decode prog_14_method_21_code 79 = .ok (.iadd, 1) := by decide +kernel
theorem d_Mo_request_80 : decode prog_14_method_21_code 80 = .ok (.iastore, 1) := by decide +kernel
theorem d_Mo_request_81 : decode prog_14_method_21_code 81 = .ok (.aload_n 0, 1) := by decide +kernel
theorem d_Mo_request_82 : decode prog_14_method_21_code 82 = .ok (.getfield 56, 3) := by decide +kernel
theorem d_Mo_request_85 : decode prog_14_method_21_code 85 = .ok (.iload_n 1, 1) := by decide +kernel
theorem d_Mo_request_86 : decode prog_14_method_21_code 86 = .ok (.iconst 1, 1) := by decide +kernel
theorem d_Mo_request_87 : decode prog_14_method_21_code 87 = .ok (.iastore, 1) := by decide +kernel
theorem d_Mo_request_88 : decode prog_14_method_21_code 88 = .ok (.aload_n 0, 1) := by decide +kernel
theorem d_Mo_request_89 : decode prog_14_method_21_code 89 = .ok (.getfield 59, 3) := by decide +kernel
theorem d_Mo_request_92 : decode prog_14_method_21_code 92 = .ok (.iload_n 1, 1) := by decide +kernel
theorem d_Mo_request_93 : decode prog_14_method_21_code 93 = .ok (.iload_n 2, 1) := by decide +kernel
theorem d_Mo_request_94 : decode prog_14_method_21_code 94 = .ok (.iastore, 1) := by decide +kernel
theorem d_Mo_request_95 : decode prog_14_method_21_code 95 = .ok (.aload_n 0, 1) := by decide +kernel
theorem d_Mo_request_96 : decode prog_14_method_21_code 96 = .ok (.getfield 62, 3) := by decide +kernel
theorem d_Mo_request_99 : decode prog_14_method_21_code 99 = .ok (.iload_n 1, 1) := by decide +kernel
theorem d_Mo_request_100 : decode prog_14_method_21_code 100 = .ok (.iload_n 3, 1) := by decide +kernel
theorem d_Mo_request_101 : decode prog_14_method_21_code 101 = .ok (.iastore, 1) := by decide +kernel
theorem d_Mo_request_102 : decode prog_14_method_21_code 102 = .ok (.aload_n 0, 1) := by decide +kernel
theorem d_Mo_request_103 : decode prog_14_method_21_code 103 = .ok (.getfield 65, 3) := by decide +kernel
theorem d_Mo_request_106 : decode prog_14_method_21_code 106 = .ok (.iload_n 1, 1) := by decide +kernel
theorem d_Mo_request_107 : decode prog_14_method_21_code 107 = .ok (.iconst 1, 1) := by decide +kernel
theorem d_Mo_request_108 : decode prog_14_method_21_code 108 = .ok (.bastore, 1) := by decide +kernel
theorem d_Mo_request_109 : decode prog_14_method_21_code 109 = .ok (.aload_n 0, 1) := by decide +kernel
theorem d_Mo_request_110 : decode prog_14_method_21_code 110 = .ok (.iload_n 1, 1) := by decide +kernel
theorem d_Mo_request_111 : decode prog_14_method_21_code 111 = .ok (.invokevirtual 173, 3) := by decide +kernel
theorem d_Mo_safe_8 : decode prog_14_method_8_code 8 = .ok (.aload_n 0, 1) := by decide +kernel
theorem d_Mo_safe_9 : decode prog_14_method_8_code 9 = .ok (.iconst 0, 1) := by decide +kernel
theorem d_Mo_safe_10 : decode prog_14_method_8_code 10 = .ok (.iconst 1, 1) := by decide +kernel
theorem d_Mo_safe_11 : decode prog_14_method_8_code 11 = .ok (.invokevirtual 127, 3) := by decide +kernel
theorem d_Mo_safe_14 : decode prog_14_method_8_code 14 = .ok (.goto 12, 3) := by decide +kernel
theorem d_Mo_safe_26 : decode prog_14_method_8_code 26 = .ok (.return_, 1) := by decide +kernel
theorem wV_NumberOfficeModel_136 : zVl "NumberOfficeModel" 136 14 Y_Mo_safe K_Mo_safe 1 := ⟨zR_NumberOfficeModel, zF_NumberOfficeModel, 40, rfl, ztb_of 1324 (by decide +kernel) rfl, ztb_of 1326 (by decide +kernel) rfl, ztb_of 20 (by decide +kernel) rfl, ztb_of 53 (by decide +kernel) rfl, ztb_of 1327 (by decide +kernel) rfl, by decide, by decide +kernel⟩
theorem d_Mo_invoice_152 : decode prog_14_method_26_code 152 = .ok (.aload_n 0, 1) := by decide +kernel
theorem d_Mo_invoice_153 : decode prog_14_method_26_code 153 = .ok (.getfield 29, 3) := by decide +kernel
theorem d_Mo_invoice_156 : decode prog_14_method_26_code 156 = .ok (.sipush 300, 3) := by decide +kernel
theorem d_Mo_invoice_159 : decode prog_14_method_26_code 159 = .ok (.iload 6, 2) := by decide +kernel
theorem d_Mo_invoice_161 : decode prog_14_method_26_code 161 = .ok (.imul, 1) := by decide +kernel
theorem d_Mo_invoice_162 : decode prog_14_method_26_code 162 = .ok (.iload 7, 2) := by decide +kernel
theorem d_Mo_invoice_164 : decode prog_14_method_26_code 164 = .ok (.iadd, 1) := by decide +kernel
theorem d_Mo_invoice_165 : decode prog_14_method_26_code 165 = .ok (.saload, 1) := by decide +kernel
theorem d_Mo_invoice_166 : decode prog_14_method_26_code 166 = .ok (.ireturn, 1) := by decide +kernel
theorem d_Mo_invoice_66 : decode prog_14_method_26_code 66 = .ok (.aload_n 0, 1) := by decide +kernel
theorem d_Mo_invoice_67 : decode prog_14_method_26_code 67 = .ok (.getfield 120, 3) := by decide +kernel
theorem d_Mo_invoice_70 : decode prog_14_method_26_code 70 = .ok (.iconst 1, 1) := by decide +kernel
theorem d_Mo_invoice_71 : decode prog_14_method_26_code 71 = .ok (.if_icmp .ne 7, 3) := by decide +kernel
theorem d_Mo_invoice_78 : decode prog_14_method_26_code 78 = .ok (.iconst (-1), 1) := by decide +kernel
theorem d_Mo_invoice_74 : decode prog_14_method_26_code 74 = .ok (.iconst 0, 1) := by decide +kernel
theorem d_Mo_invoice_75 : decode prog_14_method_26_code 75 = .ok (.goto 4, 3) := by decide +kernel
theorem d_Mo_invoice_79 : decode prog_14_method_26_code 79 = .ok (.ireturn, 1) := by decide +kernel
theorem d_Mo_close_110 : decode prog_14_method_31_code 110 = .ok (.iconst 0, 1) := by decide +kernel
theorem d_Mo_close_111 : decode prog_14_method_31_code 111 = .ok (.ireturn, 1) := by decide +kernel
theorem d_Mo_close_72 : decode prog_14_method_31_code 72 = .ok (.aload_n 0, 1) := by decide +kernel
theorem d_Mo_close_73 : decode prog_14_method_31_code 73 = .ok (.getfield 80, 3) := by decide +kernel
theorem d_Mo_close_76 : decode prog_14_method_31_code 76 = .ok (.aload_n 0, 1) := by decide +kernel
theorem d_Mo_close_77 : decode prog_14_method_31_code 77 = .ok (.iload_n 1, 1) := by decide +kernel
theorem d_Mo_close_78 : decode prog_14_method_31_code 78 = .ok (.iload_n 2, 1) := by decide +kernel
theorem d_Mo_close_79 : decode prog_14_method_31_code 79 = .ok (.invokevirtual 148, 3) := by decide +kernel
theorem d_Mo_close_82 : decode prog_14_method_31_code 82 = .ok (.baload, 1) := by decide +kernel
theorem d_Mo_close_83 : decode prog_14_method_31_code 83 = .ok (.iconst 1, 1) := by decide +kernel
theorem d_Mo_close_84 : decode prog_14_method_31_code 84 = .ok (.if_icmp .ne 5, 3) := by decide +kernel
theorem d_Mo_close_89 : decode prog_14_method_31_code 89 = .ok (.iinc 2 1, 3) := by decide +kernel
theorem d_Mo_close_92 : decode prog_14_method_31_code 92 = .ok (.goto (-30), 3) := by decide +kernel
theorem d_Mo_close_87 : decode prog_14_method_31_code 87 = .ok (.iload_n 2, 1) := by decide +kernel
theorem d_Mo_close_88 : decode prog_14_method_31_code 88 = .ok (.ireturn, 1) := by decide +kernel
theorem d_Mo_close_59 : decode prog_14_method_31_code 59 = .ok (.ireturn, 1) := by decide +kernel
theorem d_Mo_flush_29 : decode prog_14_method_35_code 29 = .ok (.iconst 1, 1) := by decide +kernel
theorem d_Mo_flush_30 : decode prog_14_method_35_code 30 = .ok (.ireturn, 1) := by decide +kernel
theorem d_Mo_flush_22 : decode prog_14_method_35_code 22 = .ok (.iconst 0, 1) := by decide +kernel
theorem d_Mo_flush_23 : decode prog_14_method_35_code 23 = .ok (.ireturn, 1) := by decide +kernel
theorem d_Mo_comes_113 : decode prog_14_method_17_code 113 = .ok (.aload_n 0, 1) := by decide +kernel
theorem d_Mo_comes_114 : decode prog_14_method_17_code 114 = .ok (.iload_n 1, 1) := by decide +kernel
theorem d_Mo_comes_115 : decode prog_14_method_17_code 115 = .ok (.invokevirtual 160, 3) := by decide +kernel
theorem d_Mo_comes_118 : decode prog_14_method_17_code 118 = .ok (.goto 18, 3) := by decide +kernel
theorem wV_NumberOfficeModel_238 : zVl "NumberOfficeModel" 238 14 Y_Mo_money K_Mo_money 1 := ⟨zR_NumberOfficeModel, zF_NumberOfficeModel, 40, rfl, ztb_of 1497 (by decide +kernel) rfl, ztb_of 1499 (by decide +kernel) rfl, ztb_of 41 (by decide +kernel) rfl, ztb_of 53 (by decide +kernel) rfl, ztb_of 1500 (by decide +kernel) rfl, by decide, by decide +kernel⟩
theorem d_Mo_listByte_253 : decode prog_14_method_52_code 253 = .ok (.aload_n 0, 1) := by decide +kernel
theorem d_Mo_listByte_254 : decode prog_14_method_52_code 254 = .ok (.aload_n 0, 1) := by decide +kernel
theorem d_Mo_listByte_255 : decode prog_14_method_52_code 255 = .ok (.getfield 74, 3) := by decide +kernel
theorem d_Mo_listByte_258 : decode prog_14_method_52_code 258 = .ok (.iload_n 1, 1) := by decide +kernel
theorem d_Mo_listByte_259 : decode prog_14_method_52_code 259 = .ok (.iaload, 1) := by decide +kernel
theorem d_Mo_listByte_260 : decode prog_14_method_52_code 260 = .ok (.i2l, 1) := by decide +kernel
theorem d_Mo_listByte_261 : decode prog_14_method_52_code 261 = .ok (.invokevirtual 234, 3) := by decide +kernel
theorem d_Mo_listByte_264 : decode prog_14_method_52_code 264 = .ok (.aload_n 0, 1) := by decide +kernel
theorem d_Mo_listByte_265 : decode prog_14_method_52_code 265 = .ok (.bipush 10, 2) := by decide +kernel
theorem d_Mo_listByte_267 : decode prog_14_method_52_code 267 = .ok (.invokevirtual 223, 3) := by decide +kernel
theorem d_Mo_listByte_270 : decode prog_14_method_52_code 270 = .ok (.aload_n 0, 1) := by decide +kernel
theorem d_Mo_listByte_271 : decode prog_14_method_52_code 271 = .ok (.getfield 220, 3) := by decide +kernel
theorem d_Mo_listByte_274 : decode prog_14_method_52_code 274 = .ok (.ireturn, 1) := by decide +kernel
theorem d_Mo_listByte_91 : decode prog_14_method_52_code 91 = .ok (.aload_n 0, 1) := by decide +kernel
theorem d_Mo_listByte_92 : decode prog_14_method_52_code 92 = .ok (.iload_n 1, 1) := by decide +kernel
theorem d_Mo_listByte_93 : decode prog_14_method_52_code 93 = .ok (.iload_n 3, 1) := by decide +kernel
theorem d_Mo_listByte_94 : decode prog_14_method_52_code 94 = .ok (.invokevirtual 148, 3) := by decide +kernel
theorem d_Mo_listByte_97 : decode prog_14_method_52_code 97 = .ok (.istore 4, 2) := by decide +kernel
theorem d_Mo_listByte_99 : decode prog_14_method_52_code 99 = .ok (.aload_n 0, 1) := by decide +kernel
theorem d_Mo_listByte_100 : decode prog_14_method_52_code 100 = .ok (.iload_n 3, 1) := by decide +kernel
theorem d_Mo_listByte_101 : decode prog_14_method_52_code 101 = .ok (.i2l, 1) := by decide +kernel
theorem d_Mo_listByte_102 : decode prog_14_method_52_code 102 = .ok (.invokevirtual 234, 3) := by decide +kernel
theorem d_Mo_listByte_105 : decode prog_14_method_52_code 105 = .ok (.aload_n 0, 1) := by decide +kernel
theorem d_Mo_listByte_106 : decode prog_14_method_52_code 106 = .ok (.bipush 32, 2) := by decide +kernel
theorem d_Mo_listByte_108 : decode prog_14_method_52_code 108 = .ok (.invokevirtual 223, 3) := by decide +kernel
theorem d_Mo_listByte_111 : decode prog_14_method_52_code 111 = .ok (.aload_n 0, 1) := by decide +kernel
theorem d_Mo_listByte_112 : decode prog_14_method_52_code 112 = .ok (.aload_n 0, 1) := by decide +kernel
theorem d_Mo_listByte_113 : decode prog_14_method_52_code 113 = .ok (.getfield 80, 3) := by decide +kernel
theorem d_Mo_listByte_116 : decode prog_14_method_52_code 116 = .ok (.iload 4, 2) := by decide +kernel
theorem d_Mo_listByte_118 : decode prog_14_method_52_code 118 = .ok (.baload, 1) := by decide +kernel
theorem d_Mo_listByte_119 : decode prog_14_method_52_code 119 = .ok (.iconst 2, 1) := by decide +kernel
theorem d_Mo_listByte_120 : decode prog_14_method_52_code 120 = .ok (.if_icmp .ne 8, 3) := by decide +kernel
theorem d_Mo_listByte_128 : decode prog_14_method_52_code 128 = .ok (.aload_n 0, 1) := by decide +kernel
theorem d_Mo_listByte_129 : decode prog_14_method_52_code 129 = .ok (.getfield 80, 3) := by decide +kernel
theorem d_Mo_listByte_132 : decode prog_14_method_52_code 132 = .ok (.iload 4, 2) := by decide +kernel
theorem d_Mo_listByte_134 : decode prog_14_method_52_code 134 = .ok (.baload, 1) := by decide +kernel
theorem d_Mo_listByte_135 : decode prog_14_method_52_code 135 = .ok (.iconst 3, 1) := by decide +kernel
theorem d_Mo_listByte_136 : decode prog_14_method_52_code 136 = .ok (.if_icmp .ne 8, 3) := by decide +kernel
theorem d_Mo_listByte_144 : decode prog_14_method_52_code 144 = .ok (.bipush 76, 2) := by decide +kernel
theorem d_Mo_listByte_139 : decode prog_14_method_52_code 139 = .ok (.bipush 86, 2) := by decide +kernel
theorem d_Mo_listByte_141 : decode prog_14_method_52_code 141 = .ok (.goto 5, 3) := by decide +kernel
theorem d_Mo_listByte_123 : decode prog_14_method_52_code 123 = .ok (.bipush 85, 2) := by decide +kernel
theorem d_Mo_listByte_125 : decode prog_14_method_52_code 125 = .ok (.goto 21, 3) := by decide +kernel
theorem d_Mo_listByte_63 : decode prog_14_method_52_code 63 = .ok (.ireturn, 1) := by decide +kernel
theorem d_Mo_listByte_146 : decode prog_14_method_52_code 146 = .ok (.invokevirtual 223, 3) := by decide +kernel
theorem d_Mo_listByte_149 : decode prog_14_method_52_code 149 = .ok (.aload_n 0, 1) := by decide +kernel
theorem d_Mo_listByte_150 : decode prog_14_method_52_code 150 = .ok (.getfield 80, 3) := by decide +kernel
theorem d_Mo_listByte_153 : decode prog_14_method_52_code 153 = .ok (.iload 4, 2) := by decide +kernel
theorem d_Mo_listByte_155 : decode prog_14_method_52_code 155 = .ok (.baload, 1) := by decide +kernel
theorem d_Mo_listByte_156 : decode prog_14_method_52_code 156 = .ok (.iconst 2, 1) := by decide +kernel
theorem d_Mo_listByte_157 : decode prog_14_method_52_code 157 = .ok (.if_icmp .ne 32, 3) := by decide +kernel
theorem d_Mo_listByte_160 : decode prog_14_method_52_code 160 = .ok (.aload_n 0, 1) := by decide +kernel
theorem d_Mo_listByte_161 : decode prog_14_method_52_code 161 = .ok (.bipush 32, 2) := by decide +kernel
theorem d_Mo_listByte_163 : decode prog_14_method_52_code 163 = .ok (.invokevirtual 223, 3) := by decide +kernel
theorem d_Mo_listByte_166 : decode prog_14_method_52_code 166 = .ok (.aload_n 0, 1) := by decide +kernel
theorem d_Mo_listByte_167 : decode prog_14_method_52_code 167 = .ok (.aload_n 0, 1) := by decide +kernel
theorem d_Mo_listByte_168 : decode prog_14_method_52_code 168 = .ok (.getfield 86, 3) := by decide +kernel
theorem d_Mo_listByte_171 : decode prog_14_method_52_code 171 = .ok (.iload 4, 2) := by decide +kernel
theorem d_Mo_listByte_173 : decode prog_14_method_52_code 173 = .ok (.laload, 1) := by decide +kernel
theorem d_Mo_listByte_174 : decode prog_14_method_52_code 174 = .ok (.invokevirtual 238, 3) := by decide +kernel
theorem d_Mo_listByte_177 : decode prog_14_method_52_code 177 = .ok (.aload_n 0, 1) := by decide +kernel
theorem d_Mo_listByte_178 : decode prog_14_method_52_code 178 = .ok (.aload_n 0, 1) := by decide +kernel
theorem d_Mo_listByte_179 : decode prog_14_method_52_code 179 = .ok (.getfield 89, 3) := by decide +kernel
theorem d_Mo_listByte_182 : decode prog_14_method_52_code 182 = .ok (.iload 4, 2) := by decide +kernel
theorem d_Mo_listByte_184 : decode prog_14_method_52_code 184 = .ok (.iaload, 1) := by decide +kernel
theorem d_Mo_listByte_185 : decode prog_14_method_52_code 185 = .ok (.i2l, 1) := by decide +kernel
theorem d_Mo_listByte_186 : decode prog_14_method_52_code 186 = .ok (.invokevirtual 234, 3) := by decide +kernel
theorem d_Mo_listByte_189 : decode prog_14_method_52_code 189 = .ok (.aload_n 0, 1) := by decide +kernel
theorem d_Mo_listByte_190 : decode prog_14_method_52_code 190 = .ok (.getfield 80, 3) := by decide +kernel
theorem d_Mo_listByte_193 : decode prog_14_method_52_code 193 = .ok (.iload 4, 2) := by decide +kernel
theorem d_Mo_listByte_195 : decode prog_14_method_52_code 195 = .ok (.baload, 1) := by decide +kernel
theorem d_Mo_listByte_196 : decode prog_14_method_52_code 196 = .ok (.iconst 3, 1) := by decide +kernel
theorem d_Mo_listByte_197 : decode prog_14_method_52_code 197 = .ok (.if_icmp .ne 21, 3) := by decide +kernel
theorem d_Mo_listByte_200 : decode prog_14_method_52_code 200 = .ok (.aload_n 0, 1) := by decide +kernel
theorem d_Mo_listByte_201 : decode prog_14_method_52_code 201 = .ok (.bipush 32, 2) := by decide +kernel
theorem d_Mo_listByte_203 : decode prog_14_method_52_code 203 = .ok (.invokevirtual 223, 3) := by decide +kernel
theorem d_Mo_listByte_206 : decode prog_14_method_52_code 206 = .ok (.aload_n 0, 1) := by decide +kernel
theorem d_Mo_listByte_207 : decode prog_14_method_52_code 207 = .ok (.aload_n 0, 1) := by decide +kernel
theorem d_Mo_listByte_208 : decode prog_14_method_52_code 208 = .ok (.getfield 92, 3) := by decide +kernel
theorem d_Mo_listByte_211 : decode prog_14_method_52_code 211 = .ok (.iload 4, 2) := by decide +kernel
theorem d_Mo_listByte_213 : decode prog_14_method_52_code 213 = .ok (.baload, 1) := by decide +kernel
theorem d_Mo_listByte_214 : decode prog_14_method_52_code 214 = .ok (.i2l, 1) := by decide +kernel
theorem d_Mo_listByte_215 : decode prog_14_method_52_code 215 = .ok (.invokevirtual 234, 3) := by decide +kernel
theorem d_Mo_listByte_218 : decode prog_14_method_52_code 218 = .ok (.aload_n 0, 1) := by decide +kernel
theorem d_Mo_listByte_219 : decode prog_14_method_52_code 219 = .ok (.bipush 10, 2) := by decide +kernel
theorem d_Mo_listByte_221 : decode prog_14_method_52_code 221 = .ok (.invokevirtual 223, 3) := by decide +kernel
theorem d_Mo_listByte_224 : decode prog_14_method_52_code 224 = .ok (.iinc 3 1, 3) := by decide +kernel
theorem d_Mo_listByte_227 : decode prog_14_method_52_code 227 = .ok (.goto (-146), 3) := by decide +kernel
theorem wI_NumberOffice_36 : zIl "NumberOffice" 36 Y_ArrayList_init K_ArrayList_init 0 := ⟨rfl, ztb_of 269 (by decide +kernel) rfl, ztb_of 108 (by decide +kernel) rfl, ztb_of 50 (by decide +kernel) rfl, rfl, rfl, ztb_of 109 (by decide +kernel) rfl, by decide, by decide +kernel⟩
theorem d_No_init_70 : decode prog_1_method_1_code 70 = .ok (.putfield 37, 3) := by decide +kernel
theorem wP_NumberOffice_37_0 : zPl "NumberOffice" 37 0 2 (.object "java/util/ArrayList") true := ⟨"NumberOffice", zR_NumberOffice, zF_NumberOffice, 3, zY_NumberOffice, rfl, zin_NumberOffice, by decide, ztb_of 272 (by decide +kernel) rfl, Or.inl rfl, zYok_NumberOffice, zN_NumberOffice, rfl, fun _ => rfl, by decide +kernel⟩
theorem d_No_init_73 : decode prog_1_method_1_code 73 = .ok (.return_, 1) := by decide +kernel
theorem d_No_init_30 : decode prog_1_method_1_code 30 = .ok (.aload_n 0, 1) := by decide +kernel
theorem d_No_init_31 : decode prog_1_method_1_code 31 = .ok (.getfield 20, 3) := by decide +kernel
theorem d_No_init_34 : decode prog_1_method_1_code 34 = .ok (.iload_n 3, 1) := by decide +kernel
theorem d_No_init_35 : decode prog_1_method_1_code 35 = .ok (.new 18, 3) := by decide +kernel
theorem wN_NumberOffice_18 : zNl "NumberOffice" 18 1 9 [.int 0, .null, .null, .int 0, .int 0, .null, .int 0, .int 0, .int 0] := ⟨zR_Branch, zF_Branch, zY_Branch, rfl, zin_Branch, zYok_Branch, ztb_of 88 (by decide +kernel) rfl, ztb_of 90 (by decide +kernel) rfl, ztb_of 46 (by decide +kernel) rfl, by decide⟩
theorem d_No_init_38 : decode prog_1_method_1_code 38 = .ok (.dup, 1) := by decide +kernel
theorem d_No_init_39 : decode prog_1_method_1_code 39 = .ok (.iload_n 3, 1) := by decide +kernel
theorem d_No_init_40 : decode prog_1_method_1_code 40 = .ok (.invokespecial 24, 3) := by decide +kernel
theorem wI_NumberOffice_BranchSeries_11 : zIl "NumberOffice$BranchSeries" 11 Y_ArrayList_init K_ArrayList_init 0 := ⟨rfl, ztb_of 107 (by decide +kernel) rfl, ztb_of 108 (by decide +kernel) rfl, ztb_of 50 (by decide +kernel) rfl, rfl, rfl, ztb_of 109 (by decide +kernel) rfl, by decide, by decide +kernel⟩
theorem d_BranchSeries_init_12 : decode prog_5_method_1_code 12 = .ok (.putfield 12, 3) := by decide +kernel
theorem wP_NumberOffice_BranchSeries_12_2 : zPl "NumberOffice$BranchSeries" 12 2 0 (.object "java/util/ArrayList") true := ⟨"NumberOffice$BranchSeries", zR_BranchSeries, zF_BranchSeries, 10, zY_BranchSeries, rfl, zin_BranchSeries, by decide, ztb_of 131 (by decide +kernel) rfl, Or.inl rfl, zYok_BranchSeries, zN_BranchSeries, rfl, fun _ => rfl, by decide +kernel⟩
theorem d_BranchSeries_init_15 : decode prog_5_method_1_code 15 = .ok (.aload_n 0, 1) := by decide +kernel
theorem d_BranchSeries_init_16 : decode prog_5_method_1_code 16 = .ok (.new 9, 3) := by decide +kernel
theorem d_BranchSeries_init_19 : decode prog_5_method_1_code 19 = .ok (.dup, 1) := by decide +kernel
theorem d_BranchSeries_init_20 : decode prog_5_method_1_code 20 = .ok (.invokespecial 11, 3) := by decide +kernel
theorem d_BranchSeries_init_23 : decode prog_5_method_1_code 23 = .ok (.putfield 18, 3) := by decide +kernel
theorem wP_NumberOffice_BranchSeries_18_2 : zPl "NumberOffice$BranchSeries" 18 2 1 (.object "java/util/ArrayList") true := ⟨"NumberOffice$BranchSeries", zR_BranchSeries, zF_BranchSeries, 10, zY_BranchSeries, rfl, zin_BranchSeries, by decide, ztb_of 133 (by decide +kernel) rfl, Or.inl rfl, zYok_BranchSeries, zN_BranchSeries, rfl, fun _ => rfl, by decide +kernel⟩
theorem d_BranchSeries_init_26 : decode prog_5_method_1_code 26 = .ok (.return_, 1) := by decide +kernel
theorem d_No_letter_5 : decode prog_1_method_15_code 5 = .ok (.astore_n 3, 1) := by decide +kernel
theorem d_No_letter_6 : decode prog_1_method_15_code 6 = .ok (.aload_n 3, 1) := by decide +kernel
theorem d_No_letter_7 : decode prog_1_method_15_code 7 = .ok (.ifnonnull 5, 3) := by decide +kernel
theorem d_No_letter_10 : decode prog_1_method_15_code 10 = .ok (.iconst (-1), 1) := by decide +kernel
theorem d_No_letter_11 : decode prog_1_method_15_code 11 = .ok (.ireturn, 1) := by decide +kernel
theorem d_No_letter_12 : decode prog_1_method_15_code 12 = .ok (.iload_n 2, 1) := by decide +kernel
theorem d_No_letter_13 : decode prog_1_method_15_code 13 = .ok (.tableswitch 42 0 2 #[27, 32, 37], 27) := by decide +kernel
theorem d_No_letter_55 : decode prog_1_method_15_code 55 = .ok (.iconst (-1), 1) := by decide +kernel
theorem d_No_letter_56 : decode prog_1_method_15_code 56 = .ok (.ireturn, 1) := by decide +kernel
theorem d_No_letter_50 : decode prog_1_method_15_code 50 = .ok (.aload_n 3, 1) := by decide +kernel
theorem d_No_letter_51 : decode prog_1_method_15_code 51 = .ok (.getfield 165, 3) := by decide +kernel
theorem wF_NumberOffice_165_9 : zFl "NumberOffice" 165 9 5 := ⟨"NumberOffice$Mail", zR_Letter, zF_Letter, 6, rfl, zin_Letter, by decide, ztb_of 502 (by decide +kernel) rfl, Or.inl rfl⟩
theorem wF_NumberOffice_165_6 : zFl "NumberOffice" 165 6 4 := ⟨"NumberOffice$Mail", zR_Answer, zF_Answer, 5, rfl, zin_Answer, by decide, ztb_of 502 (by decide +kernel) rfl, Or.inl rfl⟩
theorem d_No_letter_54 : decode prog_1_method_15_code 54 = .ok (.ireturn, 1) := by decide +kernel
theorem d_No_letter_45 : decode prog_1_method_15_code 45 = .ok (.aload_n 3, 1) := by decide +kernel
theorem d_No_letter_46 : decode prog_1_method_15_code 46 = .ok (.getfield 162, 3) := by decide +kernel
theorem wF_NumberOffice_162_9 : zFl "NumberOffice" 162 9 4 := ⟨"NumberOffice$Mail", zR_Letter, zF_Letter, 6, rfl, zin_Letter, by decide, ztb_of 491 (by decide +kernel) rfl, Or.inl rfl⟩
theorem wF_NumberOffice_162_6 : zFl "NumberOffice" 162 6 3 := ⟨"NumberOffice$Mail", zR_Answer, zF_Answer, 5, rfl, zin_Answer, by decide, ztb_of 491 (by decide +kernel) rfl, Or.inl rfl⟩
theorem d_No_letter_49 : decode prog_1_method_15_code 49 = .ok (.ireturn, 1) := by decide +kernel
theorem d_No_letter_40 : decode prog_1_method_15_code 40 = .ok (.aload_n 3, 1) := by decide +kernel
theorem d_No_letter_41 : decode prog_1_method_15_code 41 = .ok (.getfield 156, 3) := by decide +kernel
theorem wF_NumberOffice_156_9 : zFl "NumberOffice" 156 9 3 := ⟨"NumberOffice$Mail", zR_Letter, zF_Letter, 6, rfl, zin_Letter, by decide, ztb_of 486 (by decide +kernel) rfl, Or.inl rfl⟩
theorem wF_NumberOffice_156_6 : zFl "NumberOffice" 156 6 2 := ⟨"NumberOffice$Mail", zR_Answer, zF_Answer, 5, rfl, zin_Answer, by decide, ztb_of 486 (by decide +kernel) rfl, Or.inl rfl⟩
theorem d_No_letter_44 : decode prog_1_method_15_code 44 = .ok (.ireturn, 1) := by decide +kernel
theorem wV_NumberOffice_Office_90 : zVl "NumberOffice$Office" 90 5 Y_SeriesBook_enter K_SeriesBook_enter 1 := ⟨zR_SeriesBook, zF_SeriesBook, 8, rfl, ztb_of 535 (by decide +kernel) rfl, ztb_of 536 (by decide +kernel) rfl, ztb_of 537 (by decide +kernel) rfl, ztb_of 52 (by decide +kernel) rfl, ztb_of 538 (by decide +kernel) rfl, by decide, by decide +kernel⟩
theorem d_Office_take_111 : decode prog_10_method_8_code 111 = .ok (.iinc 4 1, 3) := by decide +kernel
theorem d_Office_take_114 : decode prog_10_method_8_code 114 = .ok (.goto (-24), 3) := by decide +kernel
theorem d_StringUTF16_inflate_7 : decode prog_26_method_86_code 7 = .ok (.iconst 0, 1) := by decide +kernel
theorem d_StringUTF16_inflate_8 : decode prog_26_method_86_code 8 = .ok (.istore 5, 2) := by decide +kernel
theorem d_StringUTF16_inflate_10 : decode prog_26_method_86_code 10 = .ok (.iload 5, 2) := by decide +kernel
theorem d_StringUTF16_inflate_12 : decode prog_26_method_86_code 12 = .ok (.iload 4, 2) := by decide +kernel
theorem d_StringUTF16_inflate_14 : decode prog_26_method_86_code 14 = .ok (.if_icmp .ge 27, 3) := by decide +kernel
theorem d_StringUTF16_inflate_41 : decode prog_26_method_86_code 41 = .ok (.return_, 1) := by decide +kernel
theorem d_StringUTF16_inflate_17 : decode prog_26_method_86_code 17 = .ok (.aload_n 2, 1) := by decide +kernel
theorem d_StringUTF16_inflate_18 : decode prog_26_method_86_code 18 = .ok (.iload_n 3, 1) := by decide +kernel
theorem d_StringUTF16_inflate_19 : decode prog_26_method_86_code 19 = .ok (.iinc 3 1, 3) := by decide +kernel
theorem d_StringUTF16_inflate_22 : decode prog_26_method_86_code 22 = .ok (.aload_n 0, 1) := by decide +kernel
theorem d_StringUTF16_inflate_23 : decode prog_26_method_86_code 23 = .ok (.iload_n 1, 1) := by decide +kernel
theorem d_StringUTF16_inflate_24 : decode prog_26_method_86_code 24 = .ok (.iinc 1 1, 3) := by decide +kernel
theorem d_StringUTF16_inflate_27 : decode prog_26_method_86_code 27 = .ok (.baload, 1) := by decide +kernel
theorem d_StringUTF16_inflate_28 : decode prog_26_method_86_code 28 = .ok (.sipush 255, 3) := by decide +kernel
theorem d_StringUTF16_inflate_31 : decode prog_26_method_86_code 31 = .ok (.iand, 1) := by decide +kernel
theorem d_StringUTF16_inflate_32 : decode prog_26_method_86_code 32 = .ok (.invokestatic 111, 3) := by decide +kernel
theorem d_StringUTF16_inflate_35 : decode prog_26_method_86_code 35 = .ok (.iinc 5 1, 3) := by decide +kernel
theorem d_StringUTF16_inflate_38 : decode prog_26_method_86_code 38 = .ok (.goto (-28), 3) := by decide +kernel
theorem wS_java_lang_StringUTF16_96 : zSl "java/lang/StringUTF16" 96 Y_StringUTF16_checkBoundsBeginEnd K_StringUTF16_checkBoundsBeginEnd 3 := ⟨ztb_of 1003 (by decide +kernel) rfl, ztb_of 1004 (by decide +kernel) rfl, ztb_of 70 (by decide +kernel) rfl, ztb_of 1005 (by decide +kernel) rfl, by decide, by decide +kernel⟩
theorem d_StringUTF16_putCharsAt_12 : decode prog_26_method_81_code 12 = .ok (.aload_n 0, 1) := by decide +kernel
theorem d_StringUTF16_putCharsAt_13 : decode prog_26_method_81_code 13 = .ok (.iload_n 1, 1) := by decide +kernel
theorem d_StringUTF16_putCharsAt_14 : decode prog_26_method_81_code 14 = .ok (.iinc 1 1, 3) := by decide +kernel
theorem d_StringUTF16_putCharsAt_17 : decode prog_26_method_81_code 17 = .ok (.iload_n 2, 1) := by decide +kernel
theorem d_StringUTF16_putCharsAt_18 : decode prog_26_method_81_code 18 = .ok (.invokestatic 111, 3) := by decide +kernel
theorem d_StringUTF16_putCharsAt_21 : decode prog_26_method_81_code 21 = .ok (.aload_n 0, 1) := by decide +kernel
theorem d_StringUTF16_putCharsAt_22 : decode prog_26_method_81_code 22 = .ok (.iload_n 1, 1) := by decide +kernel
theorem d_StringUTF16_putCharsAt_23 : decode prog_26_method_81_code 23 = .ok (.iinc 1 1, 3) := by decide +kernel
theorem d_StringUTF16_putCharsAt_26 : decode prog_26_method_81_code 26 = .ok (.iload_n 3, 1) := by decide +kernel
theorem d_StringUTF16_putCharsAt_27 : decode prog_26_method_81_code 27 = .ok (.invokestatic 111, 3) := by decide +kernel
theorem d_StringUTF16_putCharsAt_30 : decode prog_26_method_81_code 30 = .ok (.aload_n 0, 1) := by decide +kernel
theorem d_StringUTF16_putCharsAt_31 : decode prog_26_method_81_code 31 = .ok (.iload_n 1, 1) := by decide +kernel
theorem d_StringUTF16_putCharsAt_32 : decode prog_26_method_81_code 32 = .ok (.iinc 1 1, 3) := by decide +kernel
theorem d_StringUTF16_putCharsAt_35 : decode prog_26_method_81_code 35 = .ok (.iload 4, 2) := by decide +kernel
theorem d_StringUTF16_putCharsAt_37 : decode prog_26_method_81_code 37 = .ok (.invokestatic 111, 3) := by decide +kernel
theorem d_StringUTF16_putCharsAt_40 : decode prog_26_method_81_code 40 = .ok (.aload_n 0, 1) := by decide +kernel
theorem d_StringUTF16_putCharsAt_41 : decode prog_26_method_81_code 41 = .ok (.iload_n 1, 1) := by decide +kernel
theorem d_StringUTF16_putCharsAt_42 : decode prog_26_method_81_code 42 = .ok (.iinc 1 1, 3) := by decide +kernel
theorem d_StringUTF16_putCharsAt_45 : decode prog_26_method_81_code 45 = .ok (.iload 5, 2) := by decide +kernel
theorem d_StringUTF16_putCharsAt_47 : decode prog_26_method_81_code 47 = .ok (.invokestatic 111, 3) := by decide +kernel
theorem d_StringUTF16_putCharsAt_50 : decode prog_26_method_81_code 50 = .ok (.getstatic 44, 3) := by decide +kernel
theorem d_StringUTF16_putCharsAt_53 : decode prog_26_method_81_code 53 = .ok (.ifCond .ne 17, 3) := by decide +kernel
theorem d_StringUTF16_putCharsAt_70 : decode prog_26_method_81_code 70 = .ok (.iload 6, 2) := by decide +kernel
theorem d_StringUTF16_putCharsAt_72 : decode prog_26_method_81_code 72 = .ok (.ireturn, 1) := by decide +kernel
theorem wV_NumberOffice_SeriesBook_96 : zVl "NumberOffice$SeriesBook" 96 13 Y_String_charAt K_String_charAt 1 := ⟨zR_String, zF_String, 4, rfl, ztb_of 1150 (by decide +kernel) rfl, ztb_of 1151 (by decide +kernel) rfl, ztb_of 1152 (by decide +kernel) rfl, ztb_of 69 (by decide +kernel) rfl, ztb_of 1153 (by decide +kernel) rfl, by decide, by decide +kernel⟩
theorem d_SeriesBook_listByteAt_23 : decode prog_11_method_14_code 23 = .ok (.goto 4, 3) := by decide +kernel
theorem d_SeriesBook_listByteAt_26 : decode prog_11_method_14_code 26 = .ok (.iconst (-1), 1) := by decide +kernel
theorem d_SeriesBook_listByteAt_27 : decode prog_11_method_14_code 27 = .ok (.ireturn, 1) := by decide +kernel
theorem d_Mo_sendLatest_5 : decode prog_14_method_11_code 5 = .ok (.aload_n 0, 1) := by decide +kernel
theorem d_Mo_sendLatest_6 : decode prog_14_method_11_code 6 = .ok (.aload_n 0, 1) := by decide +kernel
theorem d_Mo_sendLatest_7 : decode prog_14_method_11_code 7 = .ok (.getfield 56, 3) := by decide +kernel
theorem d_Mo_sendLatest_10 : decode prog_14_method_11_code 10 = .ok (.iload_n 1, 1) := by decide +kernel
theorem d_Mo_sendLatest_11 : decode prog_14_method_11_code 11 = .ok (.iaload, 1) := by decide +kernel
theorem d_Mo_sendLatest_12 : decode prog_14_method_11_code 12 = .ok (.iload_n 1, 1) := by decide +kernel
theorem d_Mo_sendLatest_13 : decode prog_14_method_11_code 13 = .ok (.aload_n 0, 1) := by decide +kernel
theorem d_Mo_sendLatest_14 : decode prog_14_method_11_code 14 = .ok (.getfield 53, 3) := by decide +kernel
theorem d_Mo_sendLatest_17 : decode prog_14_method_11_code 17 = .ok (.iload_n 1, 1) := by decide +kernel
theorem d_Mo_sendLatest_18 : decode prog_14_method_11_code 18 = .ok (.iaload, 1) := by decide +kernel
theorem d_Mo_sendLatest_19 : decode prog_14_method_11_code 19 = .ok (.aload_n 0, 1) := by decide +kernel
theorem d_Mo_sendLatest_20 : decode prog_14_method_11_code 20 = .ok (.getfield 59, 3) := by decide +kernel
theorem d_Mo_sendLatest_23 : decode prog_14_method_11_code 23 = .ok (.iload_n 1, 1) := by decide +kernel
theorem d_Mo_sendLatest_24 : decode prog_14_method_11_code 24 = .ok (.iaload, 1) := by decide +kernel
theorem d_Mo_sendLatest_25 : decode prog_14_method_11_code 25 = .ok (.aload_n 0, 1) := by decide +kernel
theorem d_Mo_sendLatest_26 : decode prog_14_method_11_code 26 = .ok (.getfield 62, 3) := by decide +kernel
theorem d_Mo_sendLatest_29 : decode prog_14_method_11_code 29 = .ok (.iload_n 1, 1) := by decide +kernel
theorem d_Mo_sendLatest_30 : decode prog_14_method_11_code 30 = .ok (.iaload, 1) := by decide +kernel
theorem d_Mo_sendLatest_31 : decode prog_14_method_11_code 31 = .ok (.aload_n 0, 1) := by decide +kernel
theorem d_Mo_sendLatest_32 : decode prog_14_method_11_code 32 = .ok (.getfield 26, 3) := by decide +kernel
theorem d_Mo_sendLatest_35 : decode prog_14_method_11_code 35 = .ok (.iconst 3, 1) := by decide +kernel
theorem d_Mo_sendLatest_36 : decode prog_14_method_11_code 36 = .ok (.iload_n 1, 1) := by decide +kernel
theorem d_Mo_sendLatest_37 : decode prog_14_method_11_code 37 = .ok (.imul, 1) := by decide +kernel
theorem d_Mo_sendLatest_38 : decode prog_14_method_11_code 38 = .ok (.aload_n 0, 1) := by decide +kernel
theorem d_Mo_sendLatest_39 : decode prog_14_method_11_code 39 = .ok (.getfield 59, 3) := by decide +kernel
theorem d_Mo_sendLatest_42 : decode prog_14_method_11_code 42 = .ok (.iload_n 1, 1) := by decide +kernel
theorem d_Mo_sendLatest_43 : decode prog_14_method_11_code 43 = .ok (.iaload, 1) := by decide +kernel
theorem d_Mo_sendLatest_44 : decode prog_14_method_11_code 44 = .ok (.iadd, 1) := by decide +kernel
theorem d_Mo_sendLatest_45 : decode prog_14_method_11_code 45 = .ok (.iaload, 1) := by decide +kernel
theorem d_Mo_sendLatest_46 : decode prog_14_method_11_code 46 = .ok (.iconst 0, 1) := by decide +kernel
theorem d_Mo_sendLatest_47 : decode prog_14_method_11_code 47 = .ok (.invokevirtual 140, 3) := by decide +kernel
theorem d_Mo_sendLatest_50 : decode prog_14_method_11_code 50 = .ok (.return_, 1) := by decide +kernel
theorem wV_NumberOfficeModel_173 : zVl "NumberOfficeModel" 173 14 Y_Mo_sendLatest K_Mo_sendLatest 1 := ⟨zR_NumberOfficeModel, zF_NumberOfficeModel, 40, rfl, ztb_of 1320 (by decide +kernel) rfl, ztb_of 1322 (by decide +kernel) rfl, ztb_of 19 (by decide +kernel) rfl, ztb_of 53 (by decide +kernel) rfl, ztb_of 1323 (by decide +kernel) rfl, by decide, by decide +kernel⟩
theorem d_Mo_report_146 : decode prog_14_method_22_code 146 = .ok (.aload_n 0, 1) := by decide +kernel
theorem d_Mo_report_147 : decode prog_14_method_22_code 147 = .ok (.getfield 53, 3) := by decide +kernel
theorem d_Mo_report_150 : decode prog_14_method_22_code 150 = .ok (.iload_n 1, 1) := by decide +kernel
theorem d_Mo_report_151 : decode prog_14_method_22_code 151 = .ok (.iaload, 1) := by decide +kernel
theorem d_Mo_report_152 : decode prog_14_method_22_code 152 = .ok (.ireturn, 1) := by decide +kernel
theorem d_Mo_report_69 : decode prog_14_method_22_code 69 = .ok (.ireturn, 1) := by decide +kernel
theorem d_Mo_again_38 : decode prog_14_method_23_code 38 = .ok (.iconst 1, 1) := by decide +kernel
theorem d_Mo_again_39 : decode prog_14_method_23_code 39 = .ok (.ireturn, 1) := by decide +kernel
theorem d_Mo_again_31 : decode prog_14_method_23_code 31 = .ok (.iconst 0, 1) := by decide +kernel
theorem d_Mo_again_32 : decode prog_14_method_23_code 32 = .ok (.ireturn, 1) := by decide +kernel
theorem wV_NumberOfficeModel_202 : zVl "NumberOfficeModel" 202 14 Y_Mo_comes K_Mo_comes 0 := ⟨zR_NumberOfficeModel, zF_NumberOfficeModel, 40, rfl, ztb_of 1429 (by decide +kernel) rfl, ztb_of 1431 (by decide +kernel) rfl, ztb_of 33 (by decide +kernel) rfl, ztb_of 53 (by decide +kernel) rfl, ztb_of 1432 (by decide +kernel) rfl, by decide, by decide +kernel⟩
theorem d_Mo_deliver_61 : decode prog_14_method_39_code 61 = .ok (.aload_n 0, 1) := by decide +kernel
theorem d_Mo_deliver_62 : decode prog_14_method_39_code 62 = .ok (.getfield 7, 3) := by decide +kernel
theorem d_Mo_deliver_65 : decode prog_14_method_39_code 65 = .ok (.aload_n 0, 1) := by decide +kernel
theorem d_Mo_deliver_66 : decode prog_14_method_39_code 66 = .ok (.getfield 113, 3) := by decide +kernel
theorem d_Mo_deliver_69 : decode prog_14_method_39_code 69 = .ok (.iconst 1, 1) := by decide +kernel
theorem d_Mo_deliver_70 : decode prog_14_method_39_code 70 = .ok (.iaload, 1) := by decide +kernel
theorem d_Mo_deliver_71 : decode prog_14_method_39_code 71 = .ok (.baload, 1) := by decide +kernel
theorem d_Mo_deliver_72 : decode prog_14_method_39_code 72 = .ok (.ifCond .ne 56, 3) := by decide +kernel
theorem d_Mo_deliver_75 : decode prog_14_method_39_code 75 = .ok (.aload_n 0, 1) := by decide +kernel
theorem d_Mo_deliver_76 : decode prog_14_method_39_code 76 = .ok (.aload_n 0, 1) := by decide +kernel
theorem d_Mo_deliver_77 : decode prog_14_method_39_code 77 = .ok (.getfield 113, 3) := by decide +kernel
theorem d_Mo_deliver_80 : decode prog_14_method_39_code 80 = .ok (.iconst 1, 1) := by decide +kernel
theorem d_Mo_deliver_81 : decode prog_14_method_39_code 81 = .ok (.iaload, 1) := by decide +kernel
theorem d_Mo_deliver_82 : decode prog_14_method_39_code 82 = .ok (.aload_n 0, 1) := by decide +kernel
theorem d_Mo_deliver_83 : decode prog_14_method_39_code 83 = .ok (.getfield 113, 3) := by decide +kernel
theorem d_Mo_deliver_86 : decode prog_14_method_39_code 86 = .ok (.iconst 2, 1) := by decide +kernel
theorem d_Mo_deliver_87 : decode prog_14_method_39_code 87 = .ok (.iaload, 1) := by decide +kernel
theorem d_Mo_deliver_88 : decode prog_14_method_39_code 88 = .ok (.aload_n 0, 1) := by decide +kernel
theorem d_Mo_deliver_89 : decode prog_14_method_39_code 89 = .ok (.getfield 113, 3) := by decide +kernel
theorem d_Mo_deliver_92 : decode prog_14_method_39_code 92 = .ok (.iconst 3, 1) := by decide +kernel
theorem d_Mo_deliver_93 : decode prog_14_method_39_code 93 = .ok (.iaload, 1) := by decide +kernel
theorem d_Mo_deliver_94 : decode prog_14_method_39_code 94 = .ok (.aload_n 0, 1) := by decide +kernel
theorem d_Mo_deliver_95 : decode prog_14_method_39_code 95 = .ok (.getfield 113, 3) := by decide +kernel
theorem d_Mo_deliver_98 : decode prog_14_method_39_code 98 = .ok (.iconst 4, 1) := by decide +kernel
theorem d_Mo_deliver_99 : decode prog_14_method_39_code 99 = .ok (.iaload, 1) := by decide +kernel
theorem d_Mo_deliver_100 : decode prog_14_method_39_code 100 = .ok (.aload_n 0, 1) := by decide +kernel
theorem d_Mo_deliver_101 : decode prog_14_method_39_code 101 = .ok (.getfield 113, 3) := by decide +kernel
theorem d_Mo_deliver_104 : decode prog_14_method_39_code 104 = .ok (.iconst 5, 1) := by decide +kernel
theorem d_Mo_deliver_105 : decode prog_14_method_39_code 105 = .ok (.iaload, 1) := by decide +kernel
theorem d_Mo_deliver_106 : decode prog_14_method_39_code 106 = .ok (.invokevirtual 198, 3) := by decide +kernel
theorem wV_NumberOfficeModel_198 : zVl "NumberOfficeModel" 198 14 Y_Mo_answered K_Mo_answered 5 := ⟨zR_NumberOfficeModel, zF_NumberOfficeModel, 40, rfl, ztb_of 1425 (by decide +kernel) rfl, ztb_of 1427 (by decide +kernel) rfl, ztb_of 32 (by decide +kernel) rfl, ztb_of 53 (by decide +kernel) rfl, ztb_of 1428 (by decide +kernel) rfl, by decide, by decide +kernel⟩
theorem d_Mo_deliver_109 : decode prog_14_method_39_code 109 = .ok (.goto 19, 3) := by decide +kernel
theorem d_Mo_deliver_23 : decode prog_14_method_39_code 23 = .ok (.aload_n 0, 1) := by decide +kernel
theorem d_Mo_deliver_24 : decode prog_14_method_39_code 24 = .ok (.getfield 113, 3) := by decide +kernel
theorem d_Mo_deliver_27 : decode prog_14_method_39_code 27 = .ok (.iload_n 2, 1) := by decide +kernel
theorem d_Mo_deliver_28 : decode prog_14_method_39_code 28 = .ok (.aload_n 0, 1) := by decide +kernel
theorem d_Mo_deliver_29 : decode prog_14_method_39_code 29 = .ok (.getfield 110, 3) := by decide +kernel
theorem d_Mo_deliver_32 : decode prog_14_method_39_code 32 = .ok (.bipush 8, 2) := by decide +kernel
theorem d_Mo_deliver_34 : decode prog_14_method_39_code 34 = .ok (.iload_n 1, 1) := by decide +kernel
theorem d_Mo_deliver_35 : decode prog_14_method_39_code 35 = .ok (.imul, 1) := by decide +kernel
theorem d_Mo_deliver_36 : decode prog_14_method_39_code 36 = .ok (.iload_n 2, 1) := by decide +kernel
theorem d_Mo_deliver_37 : decode prog_14_method_39_code 37 = .ok (.iadd, 1) := by decide +kernel
theorem d_Mo_deliver_38 : decode prog_14_method_39_code 38 = .ok (.iaload, 1) := by decide +kernel
theorem d_Mo_deliver_39 : decode prog_14_method_39_code 39 = .ok (.iastore, 1) := by decide +kernel
theorem d_Mo_deliver_40 : decode prog_14_method_39_code 40 = .ok (.iinc 2 1, 3) := by decide +kernel
theorem d_Mo_deliver_43 : decode prog_14_method_39_code 43 = .ok (.goto (-26), 3) := by decide +kernel
theorem d_Mo_deliver_128 : decode prog_14_method_39_code 128 = .ok (.iconst 1, 1) := by decide +kernel
theorem d_Mo_deliver_129 : decode prog_14_method_39_code 129 = .ok (.ireturn, 1) := by decide +kernel
theorem wX_NumberOffice_Branch_21 : zNi "NumberOffice$Branch" 21 Y_BranchSeries_init K_BranchSeries_init 0 := ⟨"NumberOffice", rfl, ztb_of 101 (by decide +kernel) rfl, ztb_of 102 (by decide +kernel) rfl, ztb_of 47 (by decide +kernel) rfl, rfl, rfl, ztb_of 103 (by decide +kernel) rfl, by decide, by decide +kernel⟩
theorem d_Branch_init_36 : decode prog_4_method_1_code 36 = .ok (.aastore, 1) := by decide +kernel
theorem d_Branch_init_37 : decode prog_4_method_1_code 37 = .ok (.iinc 2 1, 3) := by decide +kernel
theorem d_Branch_init_40 : decode prog_4_method_1_code 40 = .ok (.goto (-21), 3) := by decide +kernel
theorem wS_java_lang_StringLatin1_240 : zSl "java/lang/StringLatin1" 240 Y_StringUTF16_inflate K_StringUTF16_inflate 5 := ⟨ztb_of 943 (by decide +kernel) rfl, ztb_of 944 (by decide +kernel) rfl, ztb_of 70 (by decide +kernel) rfl, ztb_of 945 (by decide +kernel) rfl, by decide, by decide +kernel⟩
theorem d_StringLatin1_inflate_9 : decode prog_25_method_50_code 9 = .ok (.return_, 1) := by decide +kernel
theorem d_Mo_request_114 : decode prog_14_method_21_code 114 = .ok (.aload_n 0, 1) := by decide +kernel
theorem d_Mo_request_115 : decode prog_14_method_21_code 115 = .ok (.getfield 53, 3) := by decide +kernel
theorem d_Mo_request_118 : decode prog_14_method_21_code 118 = .ok (.iload_n 1, 1) := by decide +kernel
theorem d_Mo_request_119 : decode prog_14_method_21_code 119 = .ok (.iaload, 1) := by decide +kernel
theorem d_Mo_request_120 : decode prog_14_method_21_code 120 = .ok (.ireturn, 1) := by decide +kernel
theorem d_Mo_request_57 : decode prog_14_method_21_code 57 = .ok (.aload_n 0, 1) := by decide +kernel
theorem d_Mo_request_58 : decode prog_14_method_21_code 58 = .ok (.getfield 120, 3) := by decide +kernel
theorem d_Mo_request_61 : decode prog_14_method_21_code 61 = .ok (.iconst 1, 1) := by decide +kernel
theorem d_Mo_request_62 : decode prog_14_method_21_code 62 = .ok (.if_icmp .ne 7, 3) := by decide +kernel
theorem d_Mo_request_69 : decode prog_14_method_21_code 69 = .ok (.iconst (-1), 1) := by decide +kernel
theorem d_Mo_request_65 : decode prog_14_method_21_code 65 = .ok (.iconst 0, 1) := by decide +kernel
theorem d_Mo_request_66 : decode prog_14_method_21_code 66 = .ok (.goto 4, 3) := by decide +kernel
theorem d_Mo_request_70 : decode prog_14_method_21_code 70 = .ok (.ireturn, 1) := by decide +kernel
theorem wI_NumberOffice_24 : zIl "NumberOffice" 24 Y_Branch_init K_Branch_init 1 := ⟨rfl, ztb_of 91 (by decide +kernel) rfl, ztb_of 92 (by decide +kernel) rfl, ztb_of 46 (by decide +kernel) rfl, rfl, rfl, ztb_of 93 (by decide +kernel) rfl, by decide, by decide +kernel⟩
theorem d_No_init_43 : decode prog_1_method_1_code 43 = .ok (.aastore, 1) := by decide +kernel
theorem d_No_init_44 : decode prog_1_method_1_code 44 = .ok (.iinc 3 1, 3) := by decide +kernel
theorem d_No_init_47 : decode prog_1_method_1_code 47 = .ok (.goto (-22), 3) := by decide +kernel
theorem wS_java_lang_AbstractStringBuilder_125 : zSl "java/lang/AbstractStringBuilder" 125 Y_StringLatin1_inflate K_StringLatin1_inflate 5 := ⟨ztb_of 940 (by decide +kernel) rfl, ztb_of 941 (by decide +kernel) rfl, ztb_of 71 (by decide +kernel) rfl, ztb_of 942 (by decide +kernel) rfl, by decide, by decide +kernel⟩
theorem d_AbstractStringBuilder_inflate_31 : decode prog_16_method_11_code 31 = .ok (.aload_n 0, 1) := by decide +kernel
theorem d_AbstractStringBuilder_inflate_32 : decode prog_16_method_11_code 32 = .ok (.aload_n 1, 1) := by decide +kernel
theorem d_AbstractStringBuilder_inflate_33 : decode prog_16_method_11_code 33 = .ok (.putfield 15, 3) := by decide +kernel
theorem d_AbstractStringBuilder_inflate_36 : decode prog_16_method_11_code 36 = .ok (.aload_n 0, 1) := by decide +kernel
theorem d_AbstractStringBuilder_inflate_37 : decode prog_16_method_11_code 37 = .ok (.iconst 1, 1) := by decide +kernel
theorem d_AbstractStringBuilder_inflate_38 : decode prog_16_method_11_code 38 = .ok (.putfield 22, 3) := by decide +kernel
theorem d_AbstractStringBuilder_inflate_41 : decode prog_16_method_11_code 41 = .ok (.return_, 1) := by decide +kernel
theorem d_AbstractStringBuilder_inflate_7 : decode prog_16_method_11_code 7 = .ok (.return_, 1) := by decide +kernel
