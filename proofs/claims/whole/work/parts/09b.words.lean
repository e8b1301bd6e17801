theorem d_No_requireUp_0 : decode prog_1_method_25_code 0 = .ok (.aload_n 0, 1) := by decide +kernel
theorem d_No_requireUp_1 : decode prog_1_method_25_code 1 = .ok (.getfield 142, 3) := by decide +kernel
theorem d_No_requireUp_4 : decode prog_1_method_25_code 4 = .ok (.ifCond .ne 13, 3) := by decide +kernel
theorem d_No_requireUp_7 : decode prog_1_method_25_code 7 = .ok (.new 205, 3) := by decide +kernel
theorem d_No_requireUp_10 : decode prog_1_method_25_code 10 = .ok (.dup, 1) := by decide +kernel
theorem d_No_requireUp_11 : decode prog_1_method_25_code 11 = .ok (.ldc 207, 2) := by decide +kernel
theorem d_No_requireUp_13 : decode prog_1_method_25_code 13 = .ok (.invokespecial 209, 3) := by decide +kernel
theorem d_No_requireUp_16 : decode prog_1_method_25_code 16 = .ok (.athrow, 1) := by decide +kernel
theorem d_No_requireUp_17 : decode prog_1_method_25_code 17 = .ok (.return_, 1) := by decide +kernel
theorem d_No_init_0 : decode prog_1_method_1_code 0 = .ok (.aload_n 0, 1) := by decide +kernel
theorem d_No_init_1 : decode prog_1_method_1_code 1 = .ok (.invokespecial 1, 3) := by decide +kernel
theorem d_No_init_4 : decode prog_1_method_1_code 4 = .ok (.iconst 1, 1) := by decide +kernel
theorem d_No_init_5 : decode prog_1_method_1_code 5 = .ok (.bipush 6, 2) := by decide +kernel
theorem d_No_init_7 : decode prog_1_method_1_code 7 = .ok (.iload_n 1, 1) := by decide +kernel
theorem d_No_init_8 : decode prog_1_method_1_code 8 = .ok (.invokestatic 9, 3) := by decide +kernel
theorem d_No_init_11 : decode prog_1_method_1_code 11 = .ok (.invokestatic 15, 3) := by decide +kernel
theorem d_No_init_14 : decode prog_1_method_1_code 14 = .ok (.istore_n 2, 1) := by decide +kernel
theorem d_No_init_15 : decode prog_1_method_1_code 15 = .ok (.aload_n 0, 1) := by decide +kernel
theorem d_No_init_16 : decode prog_1_method_1_code 16 = .ok (.iload_n 2, 1) := by decide +kernel
theorem d_No_init_17 : decode prog_1_method_1_code 17 = .ok (.anewarray 18, 3) := by decide +kernel
theorem d_No_init_20 : decode prog_1_method_1_code 20 = .ok (.putfield 20, 3) := by decide +kernel
theorem d_No_init_23 : decode prog_1_method_1_code 23 = .ok (.iconst 0, 1) := by decide +kernel
theorem d_No_init_24 : decode prog_1_method_1_code 24 = .ok (.istore_n 3, 1) := by decide +kernel
theorem d_No_init_25 : decode prog_1_method_1_code 25 = .ok (.iload_n 3, 1) := by decide +kernel
theorem d_No_init_26 : decode prog_1_method_1_code 26 = .ok (.iload_n 2, 1) := by decide +kernel
theorem d_No_init_27 : decode prog_1_method_1_code 27 = .ok (.if_icmp .ge 23, 3) := by decide +kernel
theorem d_No_init_50 : decode prog_1_method_1_code 50 = .ok (.aload_n 0, 1) := by decide +kernel
theorem d_No_init_51 : decode prog_1_method_1_code 51 = .ok (.new 27, 3) := by decide +kernel
theorem d_No_init_54 : decode prog_1_method_1_code 54 = .ok (.dup, 1) := by decide +kernel
theorem d_No_init_55 : decode prog_1_method_1_code 55 = .ok (.iload_n 2, 1) := by decide +kernel
theorem d_No_init_56 : decode prog_1_method_1_code 56 = .ok (.invokespecial 29, 3) := by decide +kernel
theorem d_Branch_init_0 : decode prog_4_method_1_code 0 = .ok (.aload_n 0, 1) := by decide +kernel
theorem d_Branch_init_1 : decode prog_4_method_1_code 1 = .ok (.invokespecial 3, 3) := by decide +kernel
theorem d_Side_init_0 : decode prog_12_method_1_code 0 = .ok (.aload_n 0, 1) := by decide +kernel
theorem d_Side_init_1 : decode prog_12_method_1_code 1 = .ok (.invokespecial 1, 3) := by decide +kernel
theorem d_Side_init_4 : decode prog_12_method_1_code 4 = .ok (.aload_n 0, 1) := by decide +kernel
theorem d_Side_init_5 : decode prog_12_method_1_code 5 = .ok (.iconst 1, 1) := by decide +kernel
theorem d_Side_init_6 : decode prog_12_method_1_code 6 = .ok (.putfield 7, 3) := by decide +kernel
theorem d_Side_init_9 : decode prog_12_method_1_code 9 = .ok (.return_, 1) := by decide +kernel
theorem d_BranchSeries_init_0 : decode prog_5_method_1_code 0 = .ok (.aload_n 0, 1) := by decide +kernel
theorem d_BranchSeries_init_1 : decode prog_5_method_1_code 1 = .ok (.invokespecial 3, 3) := by decide +kernel
theorem d_BranchSeries_init_4 : decode prog_5_method_1_code 4 = .ok (.aload_n 0, 1) := by decide +kernel
theorem d_BranchSeries_init_5 : decode prog_5_method_1_code 5 = .ok (.new 9, 3) := by decide +kernel
theorem d_BranchSeries_init_8 : decode prog_5_method_1_code 8 = .ok (.dup, 1) := by decide +kernel
theorem d_BranchSeries_init_9 : decode prog_5_method_1_code 9 = .ok (.invokespecial 11, 3) := by decide +kernel
theorem d_ArrayList_init_0 : decode prog_31_method_2_code 0 = .ok (.aload_n 0, 1) := by decide +kernel
theorem d_ArrayList_init_1 : decode prog_31_method_2_code 1 = .ok (.invokespecial 1, 3) := by decide +kernel
theorem d_AbstractList_init_0 : decode prog_30_method_1_code 0 = .ok (.aload_n 0, 1) := by decide +kernel
theorem d_AbstractList_init_1 : decode prog_30_method_1_code 1 = .ok (.invokespecial 1, 3) := by decide +kernel
theorem d_AbstractCollection_init_0 : decode prog_29_method_1_code 0 = .ok (.aload_n 0, 1) := by decide +kernel
theorem d_AbstractCollection_init_1 : decode prog_29_method_1_code 1 = .ok (.invokespecial 1, 3) := by decide +kernel
theorem d_AbstractCollection_init_4 : decode prog_29_method_1_code 4 = .ok (.return_, 1) := by decide +kernel
theorem d_Office_init_0 : decode prog_10_method_1_code 0 = .ok (.aload_n 0, 1) := by decide +kernel
theorem d_Office_init_1 : decode prog_10_method_1_code 1 = .ok (.invokespecial 3, 3) := by decide +kernel
theorem d_Office_init_4 : decode prog_10_method_1_code 4 = .ok (.aload_n 0, 1) := by decide +kernel
theorem d_Office_init_5 : decode prog_10_method_1_code 5 = .ok (.iconst 3, 1) := by decide +kernel
theorem d_Office_init_6 : decode prog_10_method_1_code 6 = .ok (.anewarray 9, 3) := by decide +kernel
theorem d_Office_init_9 : decode prog_10_method_1_code 9 = .ok (.putfield 11, 3) := by decide +kernel
theorem d_Office_init_12 : decode prog_10_method_1_code 12 = .ok (.aload_n 0, 1) := by decide +kernel
theorem d_Office_init_13 : decode prog_10_method_1_code 13 = .ok (.iconst 3, 1) := by decide +kernel
theorem d_Office_init_14 : decode prog_10_method_1_code 14 = .ok (.anewarray 9, 3) := by decide +kernel
theorem d_Office_init_17 : decode prog_10_method_1_code 17 = .ok (.putfield 17, 3) := by decide +kernel
theorem d_Office_init_20 : decode prog_10_method_1_code 20 = .ok (.iconst 0, 1) := by decide +kernel
theorem d_Office_init_21 : decode prog_10_method_1_code 21 = .ok (.istore_n 2, 1) := by decide +kernel
theorem d_Office_init_22 : decode prog_10_method_1_code 22 = .ok (.iload_n 2, 1) := by decide +kernel
theorem d_Office_init_23 : decode prog_10_method_1_code 23 = .ok (.iconst 3, 1) := by decide +kernel
theorem d_Office_init_24 : decode prog_10_method_1_code 24 = .ok (.if_icmp .ge 35, 3) := by decide +kernel
theorem d_Office_init_59 : decode prog_10_method_1_code 59 = .ok (.aload_n 0, 1) := by decide +kernel
theorem d_Office_init_60 : decode prog_10_method_1_code 60 = .ok (.iload_n 1, 1) := by decide +kernel
theorem d_Office_init_61 : decode prog_10_method_1_code 61 = .ok (.newarray .boolean, 2) := by decide +kernel
theorem d_Office_init_63 : decode prog_10_method_1_code 63 = .ok (.putfield 21, 3) := by decide +kernel
theorem d_Office_init_66 : decode prog_10_method_1_code 66 = .ok (.aload_n 0, 1) := by decide +kernel
theorem d_Office_init_67 : decode prog_10_method_1_code 67 = .ok (.iload_n 1, 1) := by decide +kernel
theorem d_Office_init_68 : decode prog_10_method_1_code 68 = .ok (.newarray .boolean, 2) := by decide +kernel
theorem d_Office_init_70 : decode prog_10_method_1_code 70 = .ok (.putfield 25, 3) := by decide +kernel
theorem d_Office_init_73 : decode prog_10_method_1_code 73 = .ok (.aload_n 0, 1) := by decide +kernel
theorem d_Office_init_74 : decode prog_10_method_1_code 74 = .ok (.iload_n 1, 1) := by decide +kernel
theorem d_Office_init_75 : decode prog_10_method_1_code 75 = .ok (.anewarray 28, 3) := by decide +kernel
theorem d_Office_init_78 : decode prog_10_method_1_code 78 = .ok (.putfield 30, 3) := by decide +kernel
theorem d_Office_init_81 : decode prog_10_method_1_code 81 = .ok (.aload_n 0, 1) := by decide +kernel
theorem d_Office_init_82 : decode prog_10_method_1_code 82 = .ok (.iload_n 1, 1) := by decide +kernel
theorem d_Office_init_83 : decode prog_10_method_1_code 83 = .ok (.anewarray 28, 3) := by decide +kernel
theorem d_Office_init_86 : decode prog_10_method_1_code 86 = .ok (.putfield 34, 3) := by decide +kernel
theorem d_Office_init_89 : decode prog_10_method_1_code 89 = .ok (.return_, 1) := by decide +kernel
theorem d_Office_init_27 : decode prog_10_method_1_code 27 = .ok (.aload_n 0, 1) := by decide +kernel
theorem d_Office_init_28 : decode prog_10_method_1_code 28 = .ok (.getfield 11, 3) := by decide +kernel
theorem d_Office_init_31 : decode prog_10_method_1_code 31 = .ok (.iload_n 2, 1) := by decide +kernel
theorem d_Office_init_32 : decode prog_10_method_1_code 32 = .ok (.new 9, 3) := by decide +kernel
theorem d_Office_init_35 : decode prog_10_method_1_code 35 = .ok (.dup, 1) := by decide +kernel
theorem d_Office_init_36 : decode prog_10_method_1_code 36 = .ok (.invokespecial 20, 3) := by decide +kernel
theorem d_SeriesBook_init_0 : decode prog_11_method_1_code 0 = .ok (.aload_n 0, 1) := by decide +kernel
theorem d_SeriesBook_init_1 : decode prog_11_method_1_code 1 = .ok (.invokespecial 3, 3) := by decide +kernel
theorem d_SeriesBook_init_4 : decode prog_11_method_1_code 4 = .ok (.aload_n 0, 1) := by decide +kernel
theorem d_SeriesBook_init_5 : decode prog_11_method_1_code 5 = .ok (.iconst 0, 1) := by decide +kernel
theorem d_SeriesBook_init_6 : decode prog_11_method_1_code 6 = .ok (.putfield 11, 3) := by decide +kernel
theorem d_SeriesBook_init_9 : decode prog_11_method_1_code 9 = .ok (.aload_n 0, 1) := by decide +kernel
theorem d_SeriesBook_init_10 : decode prog_11_method_1_code 10 = .ok (.sipush 300, 3) := by decide +kernel
theorem d_SeriesBook_init_13 : decode prog_11_method_1_code 13 = .ok (.newarray .int, 2) := by decide +kernel
theorem d_SeriesBook_init_15 : decode prog_11_method_1_code 15 = .ok (.putfield 15, 3) := by decide +kernel
theorem d_SeriesBook_init_18 : decode prog_11_method_1_code 18 = .ok (.aload_n 0, 1) := by decide +kernel
theorem d_SeriesBook_init_19 : decode prog_11_method_1_code 19 = .ok (.sipush 300, 3) := by decide +kernel
theorem d_SeriesBook_init_22 : decode prog_11_method_1_code 22 = .ok (.newarray .int, 2) := by decide +kernel
theorem d_SeriesBook_init_24 : decode prog_11_method_1_code 24 = .ok (.putfield 19, 3) := by decide +kernel
theorem d_SeriesBook_init_27 : decode prog_11_method_1_code 27 = .ok (.aload_n 0, 1) := by decide +kernel
theorem d_SeriesBook_init_28 : decode prog_11_method_1_code 28 = .ok (.sipush 300, 3) := by decide +kernel
theorem d_SeriesBook_init_31 : decode prog_11_method_1_code 31 = .ok (.newarray .long, 2) := by decide +kernel
theorem d_SeriesBook_init_33 : decode prog_11_method_1_code 33 = .ok (.putfield 22, 3) := by decide +kernel
theorem d_SeriesBook_init_36 : decode prog_11_method_1_code 36 = .ok (.aload_n 0, 1) := by decide +kernel
theorem d_SeriesBook_init_37 : decode prog_11_method_1_code 37 = .ok (.sipush 300, 3) := by decide +kernel
theorem d_SeriesBook_init_40 : decode prog_11_method_1_code 40 = .ok (.newarray .int, 2) := by decide +kernel
theorem d_SeriesBook_init_42 : decode prog_11_method_1_code 42 = .ok (.putfield 26, 3) := by decide +kernel
theorem d_SeriesBook_init_45 : decode prog_11_method_1_code 45 = .ok (.aload_n 0, 1) := by decide +kernel
theorem d_SeriesBook_init_46 : decode prog_11_method_1_code 46 = .ok (.ldc 29, 2) := by decide +kernel
theorem d_SeriesBook_init_48 : decode prog_11_method_1_code 48 = .ok (.putfield 31, 3) := by decide +kernel
theorem d_SeriesBook_init_51 : decode prog_11_method_1_code 51 = .ok (.return_, 1) := by decide +kernel
theorem d_No_again_0 : decode prog_1_method_5_code 0 = .ok (.aload_n 0, 1) := by decide +kernel
theorem d_No_again_1 : decode prog_1_method_5_code 1 = .ok (.iload_n 1, 1) := by decide +kernel
theorem d_No_again_2 : decode prog_1_method_5_code 2 = .ok (.invokevirtual 55, 3) := by decide +kernel
theorem d_No_branchAt_0 : decode prog_1_method_27_code 0 = .ok (.iload_n 1, 1) := by decide +kernel
theorem d_No_branchAt_1 : decode prog_1_method_27_code 1 = .ok (.ifCond .lt 21, 3) := by decide +kernel
theorem d_No_branchAt_4 : decode prog_1_method_27_code 4 = .ok (.iload_n 1, 1) := by decide +kernel
theorem d_No_branchAt_5 : decode prog_1_method_27_code 5 = .ok (.aload_n 0, 1) := by decide +kernel
theorem d_No_branchAt_6 : decode prog_1_method_27_code 6 = .ok (.getfield 20, 3) := by decide +kernel
theorem d_No_branchAt_9 : decode prog_1_method_27_code 9 = .ok (.arraylength, 1) := by decide +kernel
theorem d_No_branchAt_10 : decode prog_1_method_27_code 10 = .ok (.if_icmp .ge 12, 3) := by decide +kernel
theorem d_No_branchAt_13 : decode prog_1_method_27_code 13 = .ok (.aload_n 0, 1) := by decide +kernel
theorem d_No_branchAt_14 : decode prog_1_method_27_code 14 = .ok (.getfield 20, 3) := by decide +kernel
theorem d_No_branchAt_17 : decode prog_1_method_27_code 17 = .ok (.iload_n 1, 1) := by decide +kernel
theorem d_No_branchAt_18 : decode prog_1_method_27_code 18 = .ok (.aaload, 1) := by decide +kernel
theorem d_No_branchAt_19 : decode prog_1_method_27_code 19 = .ok (.goto 4, 3) := by decide +kernel
theorem d_No_branchAt_22 : decode prog_1_method_27_code 22 = .ok (.aconst_null, 1) := by decide +kernel
theorem d_No_branchAt_23 : decode prog_1_method_27_code 23 = .ok (.areturn, 1) := by decide +kernel
theorem d_Branch_unanswered_0 : decode prog_4_method_7_code 0 = .ok (.aload_n 0, 1) := by decide +kernel
theorem d_Branch_unanswered_1 : decode prog_4_method_7_code 1 = .ok (.getfield 32, 3) := by decide +kernel
theorem d_Branch_unanswered_4 : decode prog_4_method_7_code 4 = .ok (.ifCond .eq 10, 3) := by decide +kernel
theorem d_Branch_unanswered_14 : decode prog_4_method_7_code 14 = .ok (.aconst_null, 1) := by decide +kernel
theorem d_Branch_unanswered_7 : decode prog_4_method_7_code 7 = .ok (.aload_n 0, 1) := by decide +kernel
theorem d_Branch_unanswered_8 : decode prog_4_method_7_code 8 = .ok (.getfield 25, 3) := by decide +kernel
theorem d_Branch_unanswered_11 : decode prog_4_method_7_code 11 = .ok (.goto 4, 3) := by decide +kernel
theorem d_Branch_unanswered_15 : decode prog_4_method_7_code 15 = .ok (.areturn, 1) := by decide +kernel
theorem d_Branch_save_0 : decode prog_4_method_2_code 0 = .ok (.iconst 0, 1) := by decide +kernel
theorem d_Branch_save_1 : decode prog_4_method_2_code 1 = .ok (.istore_n 1, 1) := by decide +kernel
theorem d_Branch_save_2 : decode prog_4_method_2_code 2 = .ok (.iload_n 1, 1) := by decide +kernel
theorem d_Branch_save_3 : decode prog_4_method_2_code 3 = .ok (.iconst 3, 1) := by decide +kernel
theorem d_Branch_save_4 : decode prog_4_method_2_code 4 = .ok (.if_icmp .ge 18, 3) := by decide +kernel
theorem d_Branch_save_22 : decode prog_4_method_2_code 22 = .ok (.aload_n 0, 1) := by decide +kernel
theorem d_Branch_save_23 : decode prog_4_method_2_code 23 = .ok (.aload_n 0, 1) := by decide +kernel
theorem d_Branch_save_24 : decode prog_4_method_2_code 24 = .ok (.getfield 25, 3) := by decide +kernel
theorem d_Branch_save_27 : decode prog_4_method_2_code 27 = .ok (.putfield 29, 3) := by decide +kernel
theorem d_Branch_save_30 : decode prog_4_method_2_code 30 = .ok (.aload_n 0, 1) := by decide +kernel
theorem d_Branch_save_31 : decode prog_4_method_2_code 31 = .ok (.aload_n 0, 1) := by decide +kernel
theorem d_Branch_save_32 : decode prog_4_method_2_code 32 = .ok (.getfield 32, 3) := by decide +kernel
theorem d_Branch_save_35 : decode prog_4_method_2_code 35 = .ok (.putfield 36, 3) := by decide +kernel
theorem d_Branch_save_38 : decode prog_4_method_2_code 38 = .ok (.aload_n 0, 1) := by decide +kernel
theorem d_Branch_save_39 : decode prog_4_method_2_code 39 = .ok (.aload_n 0, 1) := by decide +kernel
theorem d_Branch_save_40 : decode prog_4_method_2_code 40 = .ok (.getfield 39, 3) := by decide +kernel
theorem d_Branch_save_43 : decode prog_4_method_2_code 43 = .ok (.putfield 42, 3) := by decide +kernel
theorem d_Branch_save_46 : decode prog_4_method_2_code 46 = .ok (.return_, 1) := by decide +kernel
theorem d_Branch_save_7 : decode prog_4_method_2_code 7 = .ok (.aload_n 0, 1) := by decide +kernel
theorem d_Branch_save_8 : decode prog_4_method_2_code 8 = .ok (.getfield 11, 3) := by decide +kernel
theorem d_Branch_save_11 : decode prog_4_method_2_code 11 = .ok (.iload_n 1, 1) := by decide +kernel
theorem d_Branch_save_12 : decode prog_4_method_2_code 12 = .ok (.aaload, 1) := by decide +kernel
theorem d_Branch_save_13 : decode prog_4_method_2_code 13 = .ok (.invokevirtual 22, 3) := by decide +kernel
theorem d_BranchSeries_save_0 : decode prog_5_method_2_code 0 = .ok (.aload_n 0, 1) := by decide +kernel
theorem d_BranchSeries_save_1 : decode prog_5_method_2_code 1 = .ok (.aload_n 0, 1) := by decide +kernel
theorem d_BranchSeries_save_2 : decode prog_5_method_2_code 2 = .ok (.getfield 12, 3) := by decide +kernel
theorem d_BranchSeries_save_5 : decode prog_5_method_2_code 5 = .ok (.invokevirtual 21, 3) := by decide +kernel
theorem d_ArrayList_size_0 : decode prog_31_method_8_code 0 = .ok (.aload_n 0, 1) := by decide +kernel
theorem d_ArrayList_size_1 : decode prog_31_method_8_code 1 = .ok (.getfield 48, 3) := by decide +kernel
theorem d_ArrayList_size_4 : decode prog_31_method_8_code 4 = .ok (.ireturn, 1) := by decide +kernel
theorem d_No_send_0 : decode prog_1_method_30_code 0 = .ok (.aload_n 0, 1) := by decide +kernel
theorem d_No_send_1 : decode prog_1_method_30_code 1 = .ok (.getfield 37, 3) := by decide +kernel
theorem d_No_send_4 : decode prog_1_method_30_code 4 = .ok (.invokevirtual 149, 3) := by decide +kernel
theorem d_No_send_7 : decode prog_1_method_30_code 7 = .ok (.bipush 64, 2) := by decide +kernel
theorem d_No_send_9 : decode prog_1_method_30_code 9 = .ok (.if_icmp .lt 5, 3) := by decide +kernel
theorem d_No_send_14 : decode prog_1_method_30_code 14 = .ok (.aload_n 0, 1) := by decide +kernel
theorem d_No_send_15 : decode prog_1_method_30_code 15 = .ok (.getfield 37, 3) := by decide +kernel
theorem d_No_send_18 : decode prog_1_method_30_code 18 = .ok (.aload_n 1, 1) := by decide +kernel
theorem d_No_send_19 : decode prog_1_method_30_code 19 = .ok (.invokevirtual 215, 3) := by decide +kernel
theorem d_ArrayList_add_0 : decode prog_31_method_25_code 0 = .ok (.aload_n 0, 1) := by decide +kernel
theorem d_ArrayList_add_1 : decode prog_31_method_25_code 1 = .ok (.dup, 1) := by decide +kernel
theorem d_ArrayList_add_2 : decode prog_31_method_25_code 2 = .ok (.getfield 63, 3) := by decide +kernel
theorem d_ArrayList_add_5 : decode prog_31_method_25_code 5 = .ok (.iconst 1, 1) := by decide +kernel
theorem d_ArrayList_add_6 : decode prog_31_method_25_code 6 = .ok (.iadd, 1) := by decide +kernel
theorem d_ArrayList_add_7 : decode prog_31_method_25_code 7 = .ok (.putfield 63, 3) := by decide +kernel
theorem d_ArrayList_add_10 : decode prog_31_method_25_code 10 = .ok (.aload_n 0, 1) := by decide +kernel
theorem d_ArrayList_add_11 : decode prog_31_method_25_code 11 = .ok (.aload_n 1, 1) := by decide +kernel
theorem d_ArrayList_add_12 : decode prog_31_method_25_code 12 = .ok (.aload_n 0, 1) := by decide +kernel
theorem d_ArrayList_add_13 : decode prog_31_method_25_code 13 = .ok (.getfield 9, 3) := by decide +kernel
theorem d_ArrayList_add_16 : decode prog_31_method_25_code 16 = .ok (.aload_n 0, 1) := by decide +kernel
theorem d_ArrayList_add_17 : decode prog_31_method_25_code 17 = .ok (.getfield 48, 3) := by decide +kernel
theorem d_ArrayList_add_20 : decode prog_31_method_25_code 20 = .ok (.invokevirtual 131, 3) := by decide +kernel
theorem d_ArrayList_add2_0 : decode prog_31_method_24_code 0 = .ok (.iload_n 3, 1) := by decide +kernel
theorem d_ArrayList_add2_1 : decode prog_31_method_24_code 1 = .ok (.aload_n 2, 1) := by decide +kernel
theorem d_ArrayList_add2_2 : decode prog_31_method_24_code 2 = .ok (.arraylength, 1) := by decide +kernel
theorem d_ArrayList_add2_3 : decode prog_31_method_24_code 3 = .ok (.if_icmp .ne 8, 3) := by decide +kernel
theorem d_ArrayList_add2_6 : decode prog_31_method_24_code 6 = .ok (.aload_n 0, 1) := by decide +kernel
theorem d_ArrayList_add2_7 : decode prog_31_method_24_code 7 = .ok (.invokevirtual 129, 3) := by decide +kernel
theorem d_ArrayList_grow_0 : decode prog_31_method_7_code 0 = .ok (.aload_n 0, 1) := by decide +kernel
theorem d_ArrayList_grow_1 : decode prog_31_method_7_code 1 = .ok (.aload_n 0, 1) := by decide +kernel
theorem d_ArrayList_grow_2 : decode prog_31_method_7_code 2 = .ok (.getfield 48, 3) := by decide +kernel
theorem d_ArrayList_grow_5 : decode prog_31_method_7_code 5 = .ok (.iconst 1, 1) := by decide +kernel
theorem d_ArrayList_grow_6 : decode prog_31_method_7_code 6 = .ok (.iadd, 1) := by decide +kernel
theorem d_ArrayList_grow_7 : decode prog_31_method_7_code 7 = .ok (.invokevirtual 69, 3) := by decide +kernel
theorem d_ArrayList_grow2_0 : decode prog_31_method_6_code 0 = .ok (.aload_n 0, 1) := by decide +kernel
theorem d_ArrayList_grow2_1 : decode prog_31_method_6_code 1 = .ok (.getfield 9, 3) := by decide +kernel
theorem d_ArrayList_grow2_4 : decode prog_31_method_6_code 4 = .ok (.arraylength, 1) := by decide +kernel
theorem d_ArrayList_grow2_5 : decode prog_31_method_6_code 5 = .ok (.istore_n 2, 1) := by decide +kernel
theorem d_ArrayList_grow2_6 : decode prog_31_method_6_code 6 = .ok (.iload_n 2, 1) := by decide +kernel
theorem d_ArrayList_grow2_7 : decode prog_31_method_6_code 7 = .ok (.ifCond .gt 13, 3) := by decide +kernel
theorem d_ArrayList_grow2_10 : decode prog_31_method_6_code 10 = .ok (.aload_n 0, 1) := by decide +kernel
theorem d_ArrayList_grow2_11 : decode prog_31_method_6_code 11 = .ok (.getfield 9, 3) := by decide +kernel
theorem d_ArrayList_grow2_14 : decode prog_31_method_6_code 14 = .ok (.getstatic 39, 3) := by decide +kernel
theorem d_ArrayList_grow2_17 : decode prog_31_method_6_code 17 = .ok (.if_acmp .eq 28, 3) := by decide +kernel
theorem d_ArrayList_grow2_45 : decode prog_31_method_6_code 45 = .ok (.aload_n 0, 1) := by decide +kernel
theorem d_ArrayList_grow2_46 : decode prog_31_method_6_code 46 = .ok (.bipush 10, 2) := by decide +kernel
theorem d_ArrayList_grow2_48 : decode prog_31_method_6_code 48 = .ok (.iload_n 1, 1) := by decide +kernel
theorem d_ArrayList_grow2_49 : decode prog_31_method_6_code 49 = .ok (.invokestatic 79, 3) := by decide +kernel
theorem d_ArrayList_grow2_52 : decode prog_31_method_6_code 52 = .ok (.anewarray 7, 3) := by decide +kernel
theorem d_ArrayList_grow2_55 : decode prog_31_method_6_code 55 = .ok (.dup_x1, 1) := by decide +kernel
theorem d_ArrayList_grow2_56 : decode prog_31_method_6_code 56 = .ok (.putfield 9, 3) := by decide +kernel
theorem d_ArrayList_grow2_59 : decode prog_31_method_6_code 59 = .ok (.areturn, 1) := by decide +kernel
theorem d_ArrayList_grow2_20 : decode prog_31_method_6_code 20 = .ok (.iload_n 2, 1) := by decide +kernel
theorem d_ArrayList_grow2_21 : decode prog_31_method_6_code 21 = .ok (.iload_n 1, 1) := by decide +kernel
theorem d_ArrayList_grow2_22 : decode prog_31_method_6_code 22 = .ok (.iload_n 2, 1) := by decide +kernel
theorem d_ArrayList_grow2_23 : decode prog_31_method_6_code 23 = .ok (.isub, 1) := by decide +kernel
theorem d_ArrayList_grow2_24 : decode prog_31_method_6_code 24 = .ok (.iload_n 2, 1) := by decide +kernel
theorem d_ArrayList_grow2_25 : decode prog_31_method_6_code 25 = .ok (.iconst 1, 1) := by decide +kernel
theorem d_ArrayList_grow2_26 : decode prog_31_method_6_code 26 = .ok (.ishr, 1) := by decide +kernel
theorem d_ArrayList_grow2_27 : decode prog_31_method_6_code 27 = .ok (.invokestatic 73, 3) := by decide +kernel
theorem d_ArraysSupport_newLength_0 : decode prog_38_method_27_code 0 = .ok (.iload_n 0, 1) := by decide +kernel
theorem d_ArraysSupport_newLength_1 : decode prog_38_method_27_code 1 = .ok (.iload_n 1, 1) := by decide +kernel
theorem d_ArraysSupport_newLength_2 : decode prog_38_method_27_code 2 = .ok (.iload_n 2, 1) := by decide +kernel
theorem d_ArraysSupport_newLength_3 : decode prog_38_method_27_code 3 = .ok (.invokestatic 194, 3) := by decide +kernel
theorem d_ArraysSupport_newLength_6 : decode prog_38_method_27_code 6 = .ok (.iadd, 1) := by decide +kernel
theorem d_ArraysSupport_newLength_7 : decode prog_38_method_27_code 7 = .ok (.istore_n 3, 1) := by decide +kernel
theorem d_ArraysSupport_newLength_8 : decode prog_38_method_27_code 8 = .ok (.iconst 0, 1) := by decide +kernel
theorem d_ArraysSupport_newLength_9 : decode prog_38_method_27_code 9 = .ok (.iload_n 3, 1) := by decide +kernel
theorem d_ArraysSupport_newLength_10 : decode prog_38_method_27_code 10 = .ok (.if_icmp .ge 11, 3) := by decide +kernel
theorem d_ArraysSupport_newLength_13 : decode prog_38_method_27_code 13 = .ok (.iload_n 3, 1) := by decide +kernel
theorem d_ArraysSupport_newLength_14 : decode prog_38_method_27_code 14 = .ok (.ldc 200, 2) := by decide +kernel
theorem d_ArraysSupport_newLength_16 : decode prog_38_method_27_code 16 = .ok (.if_icmp .gt 5, 3) := by decide +kernel
theorem d_ArraysSupport_newLength_19 : decode prog_38_method_27_code 19 = .ok (.iload_n 3, 1) := by decide +kernel
theorem d_ArraysSupport_newLength_20 : decode prog_38_method_27_code 20 = .ok (.ireturn, 1) := by decide +kernel
theorem d_ArraysSupport_newLength_21 : decode prog_38_method_27_code 21 = .ok (.iload_n 0, 1) := by decide +kernel
theorem d_ArraysSupport_newLength_22 : decode prog_38_method_27_code 22 = .ok (.iload_n 1, 1) := by decide +kernel
theorem d_ArraysSupport_newLength_23 : decode prog_38_method_27_code 23 = .ok (.invokestatic 201, 3) := by decide +kernel
theorem d_ArraysSupport_hugeLength_0 : decode prog_38_method_28_code 0 = .ok (.iload_n 0, 1) := by decide +kernel
theorem d_ArraysSupport_hugeLength_1 : decode prog_38_method_28_code 1 = .ok (.iload_n 1, 1) := by decide +kernel
theorem d_ArraysSupport_hugeLength_2 : decode prog_38_method_28_code 2 = .ok (.iadd, 1) := by decide +kernel
theorem d_ArraysSupport_hugeLength_3 : decode prog_38_method_28_code 3 = .ok (.istore_n 2, 1) := by decide +kernel
theorem d_ArraysSupport_hugeLength_4 : decode prog_38_method_28_code 4 = .ok (.iload_n 2, 1) := by decide +kernel
theorem d_ArraysSupport_hugeLength_5 : decode prog_38_method_28_code 5 = .ok (.ifCond .ge 44, 3) := by decide +kernel
theorem d_ArraysSupport_hugeLength_49 : decode prog_38_method_28_code 49 = .ok (.iload_n 2, 1) := by decide +kernel
theorem d_ArraysSupport_hugeLength_50 : decode prog_38_method_28_code 50 = .ok (.ldc 200, 2) := by decide +kernel
theorem d_ArraysSupport_hugeLength_52 : decode prog_38_method_28_code 52 = .ok (.if_icmp .gt 6, 3) := by decide +kernel
theorem d_ArraysSupport_hugeLength_58 : decode prog_38_method_28_code 58 = .ok (.iload_n 2, 1) := by decide +kernel
theorem d_ArraysSupport_hugeLength_59 : decode prog_38_method_28_code 59 = .ok (.ireturn, 1) := by decide +kernel
theorem d_ArraysSupport_hugeLength_55 : decode prog_38_method_28_code 55 = .ok (.ldc 200, 2) := by decide +kernel
theorem d_ArraysSupport_hugeLength_57 : decode prog_38_method_28_code 57 = .ok (.ireturn, 1) := by decide +kernel
theorem d_Arrays_copyOf_0 : decode prog_32_method_119_code 0 = .ok (.aload_n 0, 1) := by decide +kernel
theorem d_Arrays_copyOf_1 : decode prog_32_method_119_code 1 = .ok (.iload_n 1, 1) := by decide +kernel
theorem d_Arrays_copyOf_2 : decode prog_32_method_119_code 2 = .ok (.aload_n 0, 1) := by decide +kernel
theorem d_Arrays_copyOf_3 : decode prog_32_method_119_code 3 = .ok (.invokevirtual 86, 3) := by decide +kernel
theorem d_Arrays_copyOf_6 : decode prog_32_method_119_code 6 = .ok (.invokestatic 300, 3) := by decide +kernel
theorem d_Arrays_copyOf2_0 : decode prog_32_method_120_code 0 = .ok (.aload_n 2, 1) := by decide +kernel
theorem d_Arrays_copyOf2_1 : decode prog_32_method_120_code 1 = .ok (.ldc 110, 2) := by decide +kernel
theorem d_Arrays_copyOf2_3 : decode prog_32_method_120_code 3 = .ok (.if_acmp .ne 10, 3) := by decide +kernel
theorem d_Arrays_copyOf2_13 : decode prog_32_method_120_code 13 = .ok (.aload_n 2, 1) := by decide +kernel
theorem d_Arrays_copyOf2_6 : decode prog_32_method_120_code 6 = .ok (.iload_n 1, 1) := by decide +kernel
theorem d_Arrays_copyOf2_7 : decode prog_32_method_120_code 7 = .ok (.anewarray 2, 3) := by decide +kernel
theorem d_Arrays_copyOf2_10 : decode prog_32_method_120_code 10 = .ok (.goto 14, 3) := by decide +kernel
theorem d_Arrays_copyOf2_24 : decode prog_32_method_120_code 24 = .ok (.astore_n 3, 1) := by decide +kernel
theorem d_Arrays_copyOf2_25 : decode prog_32_method_120_code 25 = .ok (.aload_n 0, 1) := by decide +kernel
theorem d_Arrays_copyOf2_26 : decode prog_32_method_120_code 26 = .ok (.iconst 0, 1) := by decide +kernel
theorem d_Arrays_copyOf2_27 : decode prog_32_method_120_code 27 = .ok (.aload_n 3, 1) := by decide +kernel
theorem d_Arrays_copyOf2_28 : decode prog_32_method_120_code 28 = .ok (.iconst 0, 1) := by decide +kernel
theorem d_Arrays_copyOf2_29 : decode prog_32_method_120_code 29 = .ok (.aload_n 0, 1) := by decide +kernel
theorem d_Arrays_copyOf2_30 : decode prog_32_method_120_code 30 = .ok (.arraylength, 1) := by decide +kernel
theorem d_Arrays_copyOf2_31 : decode prog_32_method_120_code 31 = .ok (.iload_n 1, 1) := by decide +kernel
theorem d_Arrays_copyOf2_32 : decode prog_32_method_120_code 32 = .ok (.invokestatic 304, 3) := by decide +kernel
theorem d_Arrays_copyOf2_35 : decode prog_32_method_120_code 35 = .ok (.invokestatic 150, 3) := by decide +kernel
theorem d_Arrays_copyOf2_38 : decode prog_32_method_120_code 38 = .ok (.aload_n 3, 1) := by decide +kernel
theorem d_Arrays_copyOf2_39 : decode prog_32_method_120_code 39 = .ok (.areturn, 1) := by decide +kernel
theorem d_No_crash_0 : decode prog_1_method_11_code 0 = .ok (.aload_n 0, 1) := by decide +kernel
theorem d_No_crash_1 : decode prog_1_method_11_code 1 = .ok (.iload_n 1, 1) := by decide +kernel
theorem d_No_crash_2 : decode prog_1_method_11_code 2 = .ok (.invokevirtual 138, 3) := by decide +kernel
theorem d_No_sideAt_0 : decode prog_1_method_28_code 0 = .ok (.iload_n 1, 1) := by decide +kernel
theorem d_No_sideAt_1 : decode prog_1_method_28_code 1 = .ok (.aload_n 0, 1) := by decide +kernel
theorem d_No_sideAt_2 : decode prog_1_method_28_code 2 = .ok (.getfield 20, 3) := by decide +kernel
theorem d_No_sideAt_5 : decode prog_1_method_28_code 5 = .ok (.arraylength, 1) := by decide +kernel
theorem d_No_sideAt_6 : decode prog_1_method_28_code 6 = .ok (.if_icmp .ne 10, 3) := by decide +kernel
theorem d_No_sideAt_16 : decode prog_1_method_28_code 16 = .ok (.aload_n 0, 1) := by decide +kernel
theorem d_No_sideAt_17 : decode prog_1_method_28_code 17 = .ok (.iload_n 1, 1) := by decide +kernel
theorem d_No_sideAt_18 : decode prog_1_method_28_code 18 = .ok (.invokevirtual 55, 3) := by decide +kernel
theorem d_No_sideAt_9 : decode prog_1_method_28_code 9 = .ok (.aload_n 0, 1) := by decide +kernel
theorem d_No_sideAt_10 : decode prog_1_method_28_code 10 = .ok (.getfield 30, 3) := by decide +kernel
theorem d_No_sideAt_13 : decode prog_1_method_28_code 13 = .ok (.goto 8, 3) := by decide +kernel
theorem d_No_sideAt_21 : decode prog_1_method_28_code 21 = .ok (.areturn, 1) := by decide +kernel
theorem d_Branch_forget_0 : decode prog_4_method_3_code 0 = .ok (.iconst 0, 1) := by decide +kernel
theorem d_Branch_forget_1 : decode prog_4_method_3_code 1 = .ok (.istore_n 1, 1) := by decide +kernel
theorem d_Branch_forget_2 : decode prog_4_method_3_code 2 = .ok (.iload_n 1, 1) := by decide +kernel
theorem d_Branch_forget_3 : decode prog_4_method_3_code 3 = .ok (.iconst 3, 1) := by decide +kernel
theorem d_Branch_forget_4 : decode prog_4_method_3_code 4 = .ok (.if_icmp .ge 18, 3) := by decide +kernel
theorem d_Branch_forget_22 : decode prog_4_method_3_code 22 = .ok (.aload_n 0, 1) := by decide +kernel
theorem d_Branch_forget_23 : decode prog_4_method_3_code 23 = .ok (.aload_n 0, 1) := by decide +kernel
theorem d_Branch_forget_24 : decode prog_4_method_3_code 24 = .ok (.getfield 29, 3) := by decide +kernel
theorem d_Branch_forget_27 : decode prog_4_method_3_code 27 = .ok (.putfield 25, 3) := by decide +kernel
theorem d_Branch_forget_30 : decode prog_4_method_3_code 30 = .ok (.aload_n 0, 1) := by decide +kernel
theorem d_Branch_forget_31 : decode prog_4_method_3_code 31 = .ok (.aload_n 0, 1) := by decide +kernel
theorem d_Branch_forget_32 : decode prog_4_method_3_code 32 = .ok (.getfield 36, 3) := by decide +kernel
theorem d_Branch_forget_35 : decode prog_4_method_3_code 35 = .ok (.putfield 32, 3) := by decide +kernel
theorem d_Branch_forget_38 : decode prog_4_method_3_code 38 = .ok (.aload_n 0, 1) := by decide +kernel
theorem d_Branch_forget_39 : decode prog_4_method_3_code 39 = .ok (.aload_n 0, 1) := by decide +kernel
theorem d_Branch_forget_40 : decode prog_4_method_3_code 40 = .ok (.getfield 42, 3) := by decide +kernel
theorem d_Branch_forget_43 : decode prog_4_method_3_code 43 = .ok (.putfield 39, 3) := by decide +kernel
theorem d_Branch_forget_46 : decode prog_4_method_3_code 46 = .ok (.return_, 1) := by decide +kernel
theorem d_Branch_forget_7 : decode prog_4_method_3_code 7 = .ok (.aload_n 0, 1) := by decide +kernel
theorem d_Branch_forget_8 : decode prog_4_method_3_code 8 = .ok (.getfield 11, 3) := by decide +kernel
theorem d_Branch_forget_11 : decode prog_4_method_3_code 11 = .ok (.iload_n 1, 1) := by decide +kernel
theorem d_Branch_forget_12 : decode prog_4_method_3_code 12 = .ok (.aaload, 1) := by decide +kernel
theorem d_Branch_forget_13 : decode prog_4_method_3_code 13 = .ok (.invokevirtual 45, 3) := by decide +kernel
theorem d_BranchSeries_forget_0 : decode prog_5_method_3_code 0 = .ok (.aload_n 0, 1) := by decide +kernel
theorem d_BranchSeries_forget_1 : decode prog_5_method_3_code 1 = .ok (.getfield 12, 3) := by decide +kernel
theorem d_BranchSeries_forget_4 : decode prog_5_method_3_code 4 = .ok (.invokevirtual 21, 3) := by decide +kernel
theorem d_BranchSeries_forget_7 : decode prog_5_method_3_code 7 = .ok (.iconst 1, 1) := by decide +kernel
theorem d_BranchSeries_forget_8 : decode prog_5_method_3_code 8 = .ok (.isub, 1) := by decide +kernel
theorem d_BranchSeries_forget_9 : decode prog_5_method_3_code 9 = .ok (.istore_n 1, 1) := by decide +kernel
theorem d_BranchSeries_forget_10 : decode prog_5_method_3_code 10 = .ok (.iload_n 1, 1) := by decide +kernel
theorem d_BranchSeries_forget_11 : decode prog_5_method_3_code 11 = .ok (.aload_n 0, 1) := by decide +kernel
theorem d_BranchSeries_forget_12 : decode prog_5_method_3_code 12 = .ok (.getfield 25, 3) := by decide +kernel
theorem d_BranchSeries_forget_15 : decode prog_5_method_3_code 15 = .ok (.if_icmp .lt 18, 3) := by decide +kernel
theorem d_BranchSeries_forget_33 : decode prog_5_method_3_code 33 = .ok (.aload_n 0, 1) := by decide +kernel
theorem d_BranchSeries_forget_34 : decode prog_5_method_3_code 34 = .ok (.getfield 18, 3) := by decide +kernel
theorem d_BranchSeries_forget_37 : decode prog_5_method_3_code 37 = .ok (.invokevirtual 21, 3) := by decide +kernel
theorem d_BranchSeries_forget_40 : decode prog_5_method_3_code 40 = .ok (.iconst 1, 1) := by decide +kernel
theorem d_BranchSeries_forget_41 : decode prog_5_method_3_code 41 = .ok (.isub, 1) := by decide +kernel
theorem d_BranchSeries_forget_42 : decode prog_5_method_3_code 42 = .ok (.istore_n 1, 1) := by decide +kernel
theorem d_BranchSeries_forget_18 : decode prog_5_method_3_code 18 = .ok (.aload_n 0, 1) := by decide +kernel
theorem d_BranchSeries_forget_19 : decode prog_5_method_3_code 19 = .ok (.getfield 12, 3) := by decide +kernel
theorem d_BranchSeries_forget_22 : decode prog_5_method_3_code 22 = .ok (.iload_n 1, 1) := by decide +kernel
theorem d_BranchSeries_forget_23 : decode prog_5_method_3_code 23 = .ok (.invokevirtual 50, 3) := by decide +kernel
theorem d_ArrayList_remove_0 : decode prog_31_method_29_code 0 = .ok (.iload_n 1, 1) := by decide +kernel
theorem d_ArrayList_remove_1 : decode prog_31_method_29_code 1 = .ok (.aload_n 0, 1) := by decide +kernel
theorem d_ArrayList_remove_2 : decode prog_31_method_29_code 2 = .ok (.getfield 48, 3) := by decide +kernel
theorem d_ArrayList_remove_5 : decode prog_31_method_29_code 5 = .ok (.invokestatic 118, 3) := by decide +kernel
theorem d_Objects_checkIndex_0 : decode prog_35_method_17_code 0 = .ok (.iload_n 0, 1) := by decide +kernel
theorem d_Objects_checkIndex_1 : decode prog_35_method_17_code 1 = .ok (.iload_n 1, 1) := by decide +kernel
theorem d_Objects_checkIndex_2 : decode prog_35_method_17_code 2 = .ok (.aconst_null, 1) := by decide +kernel
theorem d_Objects_checkIndex_3 : decode prog_35_method_17_code 3 = .ok (.invokestatic 105, 3) := by decide +kernel
theorem d_Preconditions_checkIndex_0 : decode prog_39_method_11_code 0 = .ok (.iload_n 0, 1) := by decide +kernel
theorem d_Preconditions_checkIndex_1 : decode prog_39_method_11_code 1 = .ok (.ifCond .lt 8, 3) := by decide +kernel
theorem d_Preconditions_checkIndex_4 : decode prog_39_method_11_code 4 = .ok (.iload_n 0, 1) := by decide +kernel
theorem d_Preconditions_checkIndex_5 : decode prog_39_method_11_code 5 = .ok (.iload_n 1, 1) := by decide +kernel
theorem d_Preconditions_checkIndex_6 : decode prog_39_method_11_code 6 = .ok (.if_icmp .lt 10, 3) := by decide +kernel
theorem d_Preconditions_checkIndex_16 : decode prog_39_method_11_code 16 = .ok (.iload_n 0, 1) := by decide +kernel
theorem d_Preconditions_checkIndex_17 : decode prog_39_method_11_code 17 = .ok (.ireturn, 1) := by decide +kernel
theorem d_Preconditions_checkIndex_9 : decode prog_39_method_11_code 9 = .ok (.aload_n 2, 1) := by decide +kernel
theorem d_Preconditions_checkIndex_10 : decode prog_39_method_11_code 10 = .ok (.iload_n 0, 1) := by decide +kernel
theorem d_Preconditions_checkIndex_11 : decode prog_39_method_11_code 11 = .ok (.iload_n 1, 1) := by decide +kernel
theorem d_ArrayList_fastRemove_0 : decode prog_31_method_39_code 0 = .ok (.aload_n 0, 1) := by decide +kernel
theorem d_ArrayList_fastRemove_1 : decode prog_31_method_39_code 1 = .ok (.dup, 1) := by decide +kernel
theorem d_ArrayList_fastRemove_2 : decode prog_31_method_39_code 2 = .ok (.getfield 63, 3) := by decide +kernel
theorem d_ArrayList_fastRemove_5 : decode prog_31_method_39_code 5 = .ok (.iconst 1, 1) := by decide +kernel
theorem d_ArrayList_fastRemove_6 : decode prog_31_method_39_code 6 = .ok (.iadd, 1) := by decide +kernel
theorem d_ArrayList_fastRemove_7 : decode prog_31_method_39_code 7 = .ok (.putfield 63, 3) := by decide +kernel
theorem d_ArrayList_fastRemove_10 : decode prog_31_method_39_code 10 = .ok (.aload_n 0, 1) := by decide +kernel
theorem d_ArrayList_fastRemove_11 : decode prog_31_method_39_code 11 = .ok (.getfield 48, 3) := by decide +kernel
theorem d_ArrayList_fastRemove_14 : decode prog_31_method_39_code 14 = .ok (.iconst 1, 1) := by decide +kernel
theorem d_ArrayList_fastRemove_15 : decode prog_31_method_39_code 15 = .ok (.isub, 1) := by decide +kernel
theorem d_ArrayList_fastRemove_16 : decode prog_31_method_39_code 16 = .ok (.dup, 1) := by decide +kernel
theorem d_ArrayList_fastRemove_17 : decode prog_31_method_39_code 17 = .ok (.istore_n 3, 1) := by decide +kernel
theorem d_ArrayList_fastRemove_18 : decode prog_31_method_39_code 18 = .ok (.iload_n 2, 1) := by decide +kernel
theorem d_ArrayList_fastRemove_19 : decode prog_31_method_39_code 19 = .ok (.if_icmp .le 15, 3) := by decide +kernel
theorem d_ArrayList_fastRemove_22 : decode prog_31_method_39_code 22 = .ok (.aload_n 1, 1) := by decide +kernel
theorem d_ArrayList_fastRemove_23 : decode prog_31_method_39_code 23 = .ok (.iload_n 2, 1) := by decide +kernel
theorem d_ArrayList_fastRemove_24 : decode prog_31_method_39_code 24 = .ok (.iconst 1, 1) := by decide +kernel
theorem d_ArrayList_fastRemove_25 : decode prog_31_method_39_code 25 = .ok (.iadd, 1) := by decide +kernel
theorem d_ArrayList_fastRemove_26 : decode prog_31_method_39_code 26 = .ok (.aload_n 1, 1) := by decide +kernel
theorem d_ArrayList_fastRemove_27 : decode prog_31_method_39_code 27 = .ok (.iload_n 2, 1) := by decide +kernel
theorem d_ArrayList_fastRemove_28 : decode prog_31_method_39_code 28 = .ok (.iload_n 3, 1) := by decide +kernel
theorem d_ArrayList_fastRemove_29 : decode prog_31_method_39_code 29 = .ok (.iload_n 2, 1) := by decide +kernel
theorem d_ArrayList_fastRemove_30 : decode prog_31_method_39_code 30 = .ok (.isub, 1) := by decide +kernel
theorem d_ArrayList_fastRemove_31 : decode prog_31_method_39_code 31 = .ok (.invokestatic 112, 3) := by decide +kernel
theorem d_ArrayList_fastRemove_34 : decode prog_31_method_39_code 34 = .ok (.aload_n 1, 1) := by decide +kernel
theorem d_ArrayList_fastRemove_35 : decode prog_31_method_39_code 35 = .ok (.aload_n 0, 1) := by decide +kernel
theorem d_ArrayList_fastRemove_36 : decode prog_31_method_39_code 36 = .ok (.iload_n 3, 1) := by decide +kernel
theorem d_ArrayList_fastRemove_37 : decode prog_31_method_39_code 37 = .ok (.dup_x1, 1) := by decide +kernel
theorem d_ArrayList_fastRemove_38 : decode prog_31_method_39_code 38 = .ok (.putfield 48, 3) := by decide +kernel
theorem d_ArrayList_fastRemove_41 : decode prog_31_method_39_code 41 = .ok (.aconst_null, 1) := by decide +kernel
theorem d_ArrayList_fastRemove_42 : decode prog_31_method_39_code 42 = .ok (.aastore, 1) := by decide +kernel
theorem d_ArrayList_fastRemove_43 : decode prog_31_method_39_code 43 = .ok (.return_, 1) := by decide +kernel
theorem d_Office_forget_0 : decode prog_10_method_3_code 0 = .ok (.iconst 0, 1) := by decide +kernel
theorem d_Office_forget_1 : decode prog_10_method_3_code 1 = .ok (.istore_n 1, 1) := by decide +kernel
theorem d_Office_forget_2 : decode prog_10_method_3_code 2 = .ok (.iload_n 1, 1) := by decide +kernel
theorem d_Office_forget_3 : decode prog_10_method_3_code 3 = .ok (.iconst 3, 1) := by decide +kernel
theorem d_Office_forget_4 : decode prog_10_method_3_code 4 = .ok (.if_icmp .ge 24, 3) := by decide +kernel
theorem d_Office_forget_28 : decode prog_10_method_3_code 28 = .ok (.iconst 0, 1) := by decide +kernel
theorem d_Office_forget_29 : decode prog_10_method_3_code 29 = .ok (.istore_n 1, 1) := by decide +kernel
theorem d_Office_forget_7 : decode prog_10_method_3_code 7 = .ok (.aload_n 0, 1) := by decide +kernel
theorem d_Office_forget_8 : decode prog_10_method_3_code 8 = .ok (.getfield 11, 3) := by decide +kernel
theorem d_Office_forget_11 : decode prog_10_method_3_code 11 = .ok (.iload_n 1, 1) := by decide +kernel
theorem d_Office_forget_12 : decode prog_10_method_3_code 12 = .ok (.aaload, 1) := by decide +kernel
theorem d_Office_forget_13 : decode prog_10_method_3_code 13 = .ok (.aload_n 0, 1) := by decide +kernel
theorem d_Office_forget_14 : decode prog_10_method_3_code 14 = .ok (.getfield 17, 3) := by decide +kernel
theorem d_Office_forget_17 : decode prog_10_method_3_code 17 = .ok (.iload_n 1, 1) := by decide +kernel
theorem d_Office_forget_18 : decode prog_10_method_3_code 18 = .ok (.aaload, 1) := by decide +kernel
theorem d_Office_forget_19 : decode prog_10_method_3_code 19 = .ok (.invokevirtual 37, 3) := by decide +kernel
theorem d_SeriesBook_copyFrom_0 : decode prog_11_method_2_code 0 = .ok (.aload_n 0, 1) := by decide +kernel
theorem d_SeriesBook_copyFrom_1 : decode prog_11_method_2_code 1 = .ok (.aload_n 1, 1) := by decide +kernel
theorem d_SeriesBook_copyFrom_2 : decode prog_11_method_2_code 2 = .ok (.getfield 11, 3) := by decide +kernel
theorem d_SeriesBook_copyFrom_5 : decode prog_11_method_2_code 5 = .ok (.putfield 11, 3) := by decide +kernel
theorem d_SeriesBook_copyFrom_8 : decode prog_11_method_2_code 8 = .ok (.aload_n 0, 1) := by decide +kernel
theorem d_SeriesBook_copyFrom_9 : decode prog_11_method_2_code 9 = .ok (.aload_n 1, 1) := by decide +kernel
theorem d_SeriesBook_copyFrom_10 : decode prog_11_method_2_code 10 = .ok (.getfield 35, 3) := by decide +kernel
theorem d_SeriesBook_copyFrom_13 : decode prog_11_method_2_code 13 = .ok (.putfield 35, 3) := by decide +kernel
theorem d_SeriesBook_copyFrom_16 : decode prog_11_method_2_code 16 = .ok (.aload_n 0, 1) := by decide +kernel
theorem d_SeriesBook_copyFrom_17 : decode prog_11_method_2_code 17 = .ok (.aload_n 1, 1) := by decide +kernel
theorem d_SeriesBook_copyFrom_18 : decode prog_11_method_2_code 18 = .ok (.getfield 38, 3) := by decide +kernel
theorem d_SeriesBook_copyFrom_21 : decode prog_11_method_2_code 21 = .ok (.putfield 38, 3) := by decide +kernel
theorem d_SeriesBook_copyFrom_24 : decode prog_11_method_2_code 24 = .ok (.aload_n 1, 1) := by decide +kernel
theorem d_SeriesBook_copyFrom_25 : decode prog_11_method_2_code 25 = .ok (.getfield 15, 3) := by decide +kernel
theorem d_SeriesBook_copyFrom_28 : decode prog_11_method_2_code 28 = .ok (.iconst 0, 1) := by decide +kernel
theorem d_SeriesBook_copyFrom_29 : decode prog_11_method_2_code 29 = .ok (.aload_n 0, 1) := by decide +kernel
theorem d_SeriesBook_copyFrom_30 : decode prog_11_method_2_code 30 = .ok (.getfield 15, 3) := by decide +kernel
theorem d_SeriesBook_copyFrom_33 : decode prog_11_method_2_code 33 = .ok (.iconst 0, 1) := by decide +kernel
theorem d_SeriesBook_copyFrom_34 : decode prog_11_method_2_code 34 = .ok (.sipush 300, 3) := by decide +kernel
theorem d_SeriesBook_copyFrom_37 : decode prog_11_method_2_code 37 = .ok (.invokestatic 41, 3) := by decide +kernel
theorem d_SeriesBook_copyFrom_40 : decode prog_11_method_2_code 40 = .ok (.aload_n 1, 1) := by decide +kernel
theorem d_SeriesBook_copyFrom_41 : decode prog_11_method_2_code 41 = .ok (.getfield 19, 3) := by decide +kernel
theorem d_SeriesBook_copyFrom_44 : decode prog_11_method_2_code 44 = .ok (.iconst 0, 1) := by decide +kernel
theorem d_SeriesBook_copyFrom_45 : decode prog_11_method_2_code 45 = .ok (.aload_n 0, 1) := by decide +kernel
theorem d_SeriesBook_copyFrom_46 : decode prog_11_method_2_code 46 = .ok (.getfield 19, 3) := by decide +kernel
theorem d_SeriesBook_copyFrom_49 : decode prog_11_method_2_code 49 = .ok (.iconst 0, 1) := by decide +kernel
theorem d_SeriesBook_copyFrom_50 : decode prog_11_method_2_code 50 = .ok (.sipush 300, 3) := by decide +kernel
theorem d_SeriesBook_copyFrom_53 : decode prog_11_method_2_code 53 = .ok (.invokestatic 41, 3) := by decide +kernel
theorem d_SeriesBook_copyFrom_56 : decode prog_11_method_2_code 56 = .ok (.aload_n 1, 1) := by decide +kernel
theorem d_SeriesBook_copyFrom_57 : decode prog_11_method_2_code 57 = .ok (.getfield 22, 3) := by decide +kernel
theorem d_SeriesBook_copyFrom_60 : decode prog_11_method_2_code 60 = .ok (.iconst 0, 1) := by decide +kernel
theorem d_SeriesBook_copyFrom_61 : decode prog_11_method_2_code 61 = .ok (.aload_n 0, 1) := by decide +kernel
theorem d_SeriesBook_copyFrom_62 : decode prog_11_method_2_code 62 = .ok (.getfield 22, 3) := by decide +kernel
theorem d_SeriesBook_copyFrom_65 : decode prog_11_method_2_code 65 = .ok (.iconst 0, 1) := by decide +kernel
theorem d_SeriesBook_copyFrom_66 : decode prog_11_method_2_code 66 = .ok (.sipush 300, 3) := by decide +kernel
theorem d_SeriesBook_copyFrom_69 : decode prog_11_method_2_code 69 = .ok (.invokestatic 41, 3) := by decide +kernel
theorem d_SeriesBook_copyFrom_72 : decode prog_11_method_2_code 72 = .ok (.aload_n 1, 1) := by decide +kernel
theorem d_SeriesBook_copyFrom_73 : decode prog_11_method_2_code 73 = .ok (.getfield 26, 3) := by decide +kernel
theorem d_SeriesBook_copyFrom_76 : decode prog_11_method_2_code 76 = .ok (.iconst 0, 1) := by decide +kernel
theorem d_SeriesBook_copyFrom_77 : decode prog_11_method_2_code 77 = .ok (.aload_n 0, 1) := by decide +kernel
theorem d_SeriesBook_copyFrom_78 : decode prog_11_method_2_code 78 = .ok (.getfield 26, 3) := by decide +kernel
theorem d_SeriesBook_copyFrom_81 : decode prog_11_method_2_code 81 = .ok (.iconst 0, 1) := by decide +kernel
theorem d_SeriesBook_copyFrom_82 : decode prog_11_method_2_code 82 = .ok (.sipush 300, 3) := by decide +kernel
theorem d_SeriesBook_copyFrom_85 : decode prog_11_method_2_code 85 = .ok (.invokestatic 41, 3) := by decide +kernel
theorem d_SeriesBook_copyFrom_88 : decode prog_11_method_2_code 88 = .ok (.aload_n 0, 1) := by decide +kernel
theorem d_SeriesBook_copyFrom_89 : decode prog_11_method_2_code 89 = .ok (.aload_n 1, 1) := by decide +kernel
theorem d_SeriesBook_copyFrom_90 : decode prog_11_method_2_code 90 = .ok (.getfield 31, 3) := by decide +kernel
theorem d_SeriesBook_copyFrom_93 : decode prog_11_method_2_code 93 = .ok (.putfield 31, 3) := by decide +kernel
theorem d_SeriesBook_copyFrom_96 : decode prog_11_method_2_code 96 = .ok (.return_, 1) := by decide +kernel
theorem d_No_mount_0 : decode prog_1_method_12_code 0 = .ok (.aload_n 0, 1) := by decide +kernel
theorem d_No_mount_1 : decode prog_1_method_12_code 1 = .ok (.iload_n 1, 1) := by decide +kernel
theorem d_No_mount_2 : decode prog_1_method_12_code 2 = .ok (.invokevirtual 138, 3) := by decide +kernel
theorem d_No_mount_5 : decode prog_1_method_12_code 5 = .ok (.astore_n 2, 1) := by decide +kernel
theorem d_No_mount_6 : decode prog_1_method_12_code 6 = .ok (.aload_n 2, 1) := by decide +kernel
theorem d_No_mount_7 : decode prog_1_method_12_code 7 = .ok (.ifnull 10, 3) := by decide +kernel
theorem d_No_mount_10 : decode prog_1_method_12_code 10 = .ok (.aload_n 2, 1) := by decide +kernel
theorem d_No_mount_11 : decode prog_1_method_12_code 11 = .ok (.getfield 142, 3) := by decide +kernel
theorem d_No_mount_14 : decode prog_1_method_12_code 14 = .ok (.ifCond .eq 5, 3) := by decide +kernel
theorem d_No_mount_19 : decode prog_1_method_12_code 19 = .ok (.aload_n 2, 1) := by decide +kernel
theorem d_No_mount_20 : decode prog_1_method_12_code 20 = .ok (.iconst 1, 1) := by decide +kernel
theorem d_No_mount_21 : decode prog_1_method_12_code 21 = .ok (.putfield 142, 3) := by decide +kernel
theorem d_No_mount_24 : decode prog_1_method_12_code 24 = .ok (.iconst 1, 1) := by decide +kernel
theorem d_No_mount_25 : decode prog_1_method_12_code 25 = .ok (.ireturn, 1) := by decide +kernel
theorem d_No_mount_17 : decode prog_1_method_12_code 17 = .ok (.iconst 0, 1) := by decide +kernel
theorem d_No_mount_18 : decode prog_1_method_12_code 18 = .ok (.ireturn, 1) := by decide +kernel
theorem d_No_flush_0 : decode prog_1_method_13_code 0 = .ok (.aload_n 0, 1) := by decide +kernel
theorem d_No_flush_1 : decode prog_1_method_13_code 1 = .ok (.iload_n 1, 1) := by decide +kernel
theorem d_No_flush_2 : decode prog_1_method_13_code 2 = .ok (.invokevirtual 138, 3) := by decide +kernel
theorem d_No_flush_5 : decode prog_1_method_13_code 5 = .ok (.astore_n 2, 1) := by decide +kernel
theorem d_No_flush_6 : decode prog_1_method_13_code 6 = .ok (.aload_n 2, 1) := by decide +kernel
theorem d_No_flush_7 : decode prog_1_method_13_code 7 = .ok (.ifnull 10, 3) := by decide +kernel
theorem d_No_flush_10 : decode prog_1_method_13_code 10 = .ok (.aload_n 2, 1) := by decide +kernel
theorem d_No_flush_11 : decode prog_1_method_13_code 11 = .ok (.getfield 142, 3) := by decide +kernel
theorem d_No_flush_14 : decode prog_1_method_13_code 14 = .ok (.ifCond .ne 5, 3) := by decide +kernel
theorem d_No_flush_19 : decode prog_1_method_13_code 19 = .ok (.aload_n 2, 1) := by decide +kernel
theorem d_No_flush_20 : decode prog_1_method_13_code 20 = .ok (.invokevirtual 148, 3) := by decide +kernel
theorem d_Office_save_0 : decode prog_10_method_2_code 0 = .ok (.iconst 0, 1) := by decide +kernel
theorem d_Office_save_1 : decode prog_10_method_2_code 1 = .ok (.istore_n 1, 1) := by decide +kernel
theorem d_Office_save_2 : decode prog_10_method_2_code 2 = .ok (.iload_n 1, 1) := by decide +kernel
theorem d_Office_save_3 : decode prog_10_method_2_code 3 = .ok (.iconst 3, 1) := by decide +kernel
theorem d_Office_save_4 : decode prog_10_method_2_code 4 = .ok (.if_icmp .ge 24, 3) := by decide +kernel
theorem d_Office_save_28 : decode prog_10_method_2_code 28 = .ok (.iconst 0, 1) := by decide +kernel
theorem d_Office_save_29 : decode prog_10_method_2_code 29 = .ok (.istore_n 1, 1) := by decide +kernel
theorem d_Office_save_7 : decode prog_10_method_2_code 7 = .ok (.aload_n 0, 1) := by decide +kernel
theorem d_Office_save_8 : decode prog_10_method_2_code 8 = .ok (.getfield 17, 3) := by decide +kernel
theorem d_Office_save_11 : decode prog_10_method_2_code 11 = .ok (.iload_n 1, 1) := by decide +kernel
theorem d_Office_save_12 : decode prog_10_method_2_code 12 = .ok (.aaload, 1) := by decide +kernel
theorem d_Office_save_13 : decode prog_10_method_2_code 13 = .ok (.aload_n 0, 1) := by decide +kernel
theorem d_Office_save_14 : decode prog_10_method_2_code 14 = .ok (.getfield 11, 3) := by decide +kernel
theorem d_Office_save_17 : decode prog_10_method_2_code 17 = .ok (.iload_n 1, 1) := by decide +kernel
theorem d_Office_save_18 : decode prog_10_method_2_code 18 = .ok (.aaload, 1) := by decide +kernel
theorem d_Office_save_19 : decode prog_10_method_2_code 19 = .ok (.invokevirtual 37, 3) := by decide +kernel
theorem d_Office_save_22 : decode prog_10_method_2_code 22 = .ok (.iinc 1 1, 3) := by decide +kernel
theorem d_Office_save_25 : decode prog_10_method_2_code 25 = .ok (.goto (-23), 3) := by decide +kernel
theorem d_Office_save_30 : decode prog_10_method_2_code 30 = .ok (.iload_n 1, 1) := by decide +kernel
theorem d_Office_save_31 : decode prog_10_method_2_code 31 = .ok (.aload_n 0, 1) := by decide +kernel
theorem d_Office_save_32 : decode prog_10_method_2_code 32 = .ok (.getfield 21, 3) := by decide +kernel
theorem d_Office_save_35 : decode prog_10_method_2_code 35 = .ok (.arraylength, 1) := by decide +kernel
theorem d_Office_save_36 : decode prog_10_method_2_code 36 = .ok (.if_icmp .ge 33, 3) := by decide +kernel
theorem d_Office_save_69 : decode prog_10_method_2_code 69 = .ok (.return_, 1) := by decide +kernel
theorem d_Office_save_39 : decode prog_10_method_2_code 39 = .ok (.aload_n 0, 1) := by decide +kernel
theorem d_Office_save_40 : decode prog_10_method_2_code 40 = .ok (.getfield 25, 3) := by decide +kernel
theorem d_Office_save_43 : decode prog_10_method_2_code 43 = .ok (.iload_n 1, 1) := by decide +kernel
theorem d_Office_save_44 : decode prog_10_method_2_code 44 = .ok (.aload_n 0, 1) := by decide +kernel
theorem d_Office_save_45 : decode prog_10_method_2_code 45 = .ok (.getfield 21, 3) := by decide +kernel
theorem d_Office_save_48 : decode prog_10_method_2_code 48 = .ok (.iload_n 1, 1) := by decide +kernel
theorem d_Office_save_49 : decode prog_10_method_2_code 49 = .ok (.baload, 1) := by decide +kernel
theorem d_Office_save_50 : decode prog_10_method_2_code 50 = .ok (.bastore, 1) := by decide +kernel
theorem d_Office_save_51 : decode prog_10_method_2_code 51 = .ok (.aload_n 0, 1) := by decide +kernel
theorem d_Office_save_52 : decode prog_10_method_2_code 52 = .ok (.getfield 34, 3) := by decide +kernel
theorem d_Office_save_55 : decode prog_10_method_2_code 55 = .ok (.iload_n 1, 1) := by decide +kernel
theorem d_Office_save_56 : decode prog_10_method_2_code 56 = .ok (.aload_n 0, 1) := by decide +kernel
theorem d_Office_save_57 : decode prog_10_method_2_code 57 = .ok (.getfield 30, 3) := by decide +kernel
theorem d_Office_save_60 : decode prog_10_method_2_code 60 = .ok (.iload_n 1, 1) := by decide +kernel
theorem d_Office_save_61 : decode prog_10_method_2_code 61 = .ok (.aaload, 1) := by decide +kernel
theorem d_Office_save_62 : decode prog_10_method_2_code 62 = .ok (.aastore, 1) := by decide +kernel
theorem d_Office_save_63 : decode prog_10_method_2_code 63 = .ok (.iinc 1 1, 3) := by decide +kernel
theorem d_Office_save_66 : decode prog_10_method_2_code 66 = .ok (.goto (-36), 3) := by decide +kernel
theorem d_No_letters_0 : decode prog_1_method_14_code 0 = .ok (.aload_n 0, 1) := by decide +kernel
theorem d_No_letters_1 : decode prog_1_method_14_code 1 = .ok (.getfield 37, 3) := by decide +kernel
theorem d_No_letters_4 : decode prog_1_method_14_code 4 = .ok (.invokevirtual 149, 3) := by decide +kernel
theorem d_No_letters_7 : decode prog_1_method_14_code 7 = .ok (.ireturn, 1) := by decide +kernel
theorem d_No_letter_0 : decode prog_1_method_15_code 0 = .ok (.aload_n 0, 1) := by decide +kernel
theorem d_No_letter_1 : decode prog_1_method_15_code 1 = .ok (.iload_n 1, 1) := by decide +kernel
theorem d_No_letter_2 : decode prog_1_method_15_code 2 = .ok (.invokevirtual 152, 3) := by decide +kernel
theorem d_No_mailAt_0 : decode prog_1_method_29_code 0 = .ok (.iload_n 1, 1) := by decide +kernel
theorem d_No_mailAt_1 : decode prog_1_method_29_code 1 = .ok (.ifCond .lt 28, 3) := by decide +kernel
theorem d_No_mailAt_4 : decode prog_1_method_29_code 4 = .ok (.iload_n 1, 1) := by decide +kernel
theorem d_No_mailAt_5 : decode prog_1_method_29_code 5 = .ok (.aload_n 0, 1) := by decide +kernel
theorem d_No_mailAt_6 : decode prog_1_method_29_code 6 = .ok (.getfield 37, 3) := by decide +kernel
theorem d_No_mailAt_9 : decode prog_1_method_29_code 9 = .ok (.invokevirtual 149, 3) := by decide +kernel
theorem d_No_mailAt_12 : decode prog_1_method_29_code 12 = .ok (.if_icmp .ge 17, 3) := by decide +kernel
theorem d_No_mailAt_15 : decode prog_1_method_29_code 15 = .ok (.aload_n 0, 1) := by decide +kernel
theorem d_No_mailAt_16 : decode prog_1_method_29_code 16 = .ok (.getfield 37, 3) := by decide +kernel
theorem d_No_mailAt_19 : decode prog_1_method_29_code 19 = .ok (.iload_n 1, 1) := by decide +kernel
theorem d_No_mailAt_20 : decode prog_1_method_29_code 20 = .ok (.invokevirtual 212, 3) := by decide +kernel
theorem d_ArrayList_get_0 : decode prog_31_method_20_code 0 = .ok (.iload_n 1, 1) := by decide +kernel
theorem d_ArrayList_get_1 : decode prog_31_method_20_code 1 = .ok (.aload_n 0, 1) := by decide +kernel
theorem d_ArrayList_get_2 : decode prog_31_method_20_code 2 = .ok (.getfield 48, 3) := by decide +kernel
theorem d_ArrayList_get_5 : decode prog_31_method_20_code 5 = .ok (.invokestatic 118, 3) := by decide +kernel
theorem d_ArrayList_elementData_0 : decode prog_31_method_18_code 0 = .ok (.aload_n 0, 1) := by decide +kernel
theorem d_ArrayList_elementData_1 : decode prog_31_method_18_code 1 = .ok (.getfield 9, 3) := by decide +kernel
theorem d_ArrayList_elementData_4 : decode prog_31_method_18_code 4 = .ok (.iload_n 1, 1) := by decide +kernel
theorem d_ArrayList_elementData_5 : decode prog_31_method_18_code 5 = .ok (.aaload, 1) := by decide +kernel
theorem d_ArrayList_elementData_6 : decode prog_31_method_18_code 6 = .ok (.areturn, 1) := by decide +kernel
theorem d_No_deliver_0 : decode prog_1_method_16_code 0 = .ok (.aload_n 0, 1) := by decide +kernel
theorem d_No_deliver_1 : decode prog_1_method_16_code 1 = .ok (.iload_n 1, 1) := by decide +kernel
theorem d_No_deliver_2 : decode prog_1_method_16_code 2 = .ok (.invokevirtual 152, 3) := by decide +kernel
theorem d_No_bringToOffice_0 : decode prog_1_method_32_code 0 = .ok (.aload_n 0, 1) := by decide +kernel
theorem d_No_bringToOffice_1 : decode prog_1_method_32_code 1 = .ok (.getfield 30, 3) := by decide +kernel
theorem d_No_bringToOffice_4 : decode prog_1_method_32_code 4 = .ok (.getfield 224, 3) := by decide +kernel
theorem d_No_bringToOffice_7 : decode prog_1_method_32_code 7 = .ok (.ifCond .ne 4, 3) := by decide +kernel
theorem d_No_bringToOffice_11 : decode prog_1_method_32_code 11 = .ok (.aload_n 0, 1) := by decide +kernel
theorem d_No_bringToOffice_12 : decode prog_1_method_32_code 12 = .ok (.getfield 30, 3) := by decide +kernel
theorem d_No_bringToOffice_15 : decode prog_1_method_32_code 15 = .ok (.aload_n 1, 1) := by decide +kernel
theorem d_No_bringToOffice_16 : decode prog_1_method_32_code 16 = .ok (.invokevirtual 225, 3) := by decide +kernel
theorem d_Office_answerTo_0 : decode prog_10_method_7_code 0 = .ok (.aload_n 0, 1) := by decide +kernel
theorem d_Office_answerTo_1 : decode prog_10_method_7_code 1 = .ok (.aload_n 1, 1) := by decide +kernel
theorem d_Office_answerTo_2 : decode prog_10_method_7_code 2 = .ok (.getfield 49, 3) := by decide +kernel
theorem d_Office_answerTo_5 : decode prog_10_method_7_code 5 = .ok (.invokevirtual 41, 3) := by decide +kernel
theorem d_Office_knows_0 : decode prog_10_method_5_code 0 = .ok (.iload_n 1, 1) := by decide +kernel
theorem d_Office_knows_1 : decode prog_10_method_5_code 1 = .ok (.ifCond .lt 16, 3) := by decide +kernel
theorem d_Office_knows_4 : decode prog_10_method_5_code 4 = .ok (.iload_n 1, 1) := by decide +kernel
theorem d_Office_knows_5 : decode prog_10_method_5_code 5 = .ok (.aload_n 0, 1) := by decide +kernel
theorem d_Office_knows_6 : decode prog_10_method_5_code 6 = .ok (.getfield 21, 3) := by decide +kernel
theorem d_Office_knows_9 : decode prog_10_method_5_code 9 = .ok (.arraylength, 1) := by decide +kernel
theorem d_Office_knows_10 : decode prog_10_method_5_code 10 = .ok (.if_icmp .ge 7, 3) := by decide +kernel
theorem d_Office_knows_13 : decode prog_10_method_5_code 13 = .ok (.iconst 1, 1) := by decide +kernel
theorem d_Office_knows_14 : decode prog_10_method_5_code 14 = .ok (.goto 4, 3) := by decide +kernel
theorem d_Office_knows_17 : decode prog_10_method_5_code 17 = .ok (.iconst 0, 1) := by decide +kernel
theorem d_Office_knows_18 : decode prog_10_method_5_code 18 = .ok (.ireturn, 1) := by decide +kernel
theorem d_Office_take_0 : decode prog_10_method_8_code 0 = .ok (.aload_n 0, 1) := by decide +kernel
theorem d_Office_take_1 : decode prog_10_method_8_code 1 = .ok (.aload_n 1, 1) := by decide +kernel
theorem d_Office_take_2 : decode prog_10_method_8_code 2 = .ok (.getfield 66, 3) := by decide +kernel
theorem d_Office_take_5 : decode prog_10_method_8_code 5 = .ok (.invokevirtual 69, 3) := by decide +kernel
theorem d_Office_bookAt_0 : decode prog_10_method_4_code 0 = .ok (.iload_n 1, 1) := by decide +kernel
theorem d_Office_bookAt_1 : decode prog_10_method_4_code 1 = .ok (.ifCond .lt 17, 3) := by decide +kernel
theorem d_Office_bookAt_4 : decode prog_10_method_4_code 4 = .ok (.iload_n 1, 1) := by decide +kernel
theorem d_Office_bookAt_5 : decode prog_10_method_4_code 5 = .ok (.iconst 3, 1) := by decide +kernel
theorem d_Office_bookAt_6 : decode prog_10_method_4_code 6 = .ok (.if_icmp .ge 12, 3) := by decide +kernel
theorem d_Office_bookAt_9 : decode prog_10_method_4_code 9 = .ok (.aload_n 0, 1) := by decide +kernel
theorem d_Office_bookAt_10 : decode prog_10_method_4_code 10 = .ok (.getfield 11, 3) := by decide +kernel
theorem d_Office_bookAt_13 : decode prog_10_method_4_code 13 = .ok (.iload_n 1, 1) := by decide +kernel
theorem d_Office_bookAt_14 : decode prog_10_method_4_code 14 = .ok (.aaload, 1) := by decide +kernel
theorem d_Office_bookAt_15 : decode prog_10_method_4_code 15 = .ok (.goto 4, 3) := by decide +kernel
theorem d_Office_bookAt_18 : decode prog_10_method_4_code 18 = .ok (.aconst_null, 1) := by decide +kernel
theorem d_Office_bookAt_19 : decode prog_10_method_4_code 19 = .ok (.areturn, 1) := by decide +kernel
theorem d_Answer_init_0 : decode prog_2_method_1_code 0 = .ok (.aload_n 0, 1) := by decide +kernel
theorem d_Answer_init_1 : decode prog_2_method_1_code 1 = .ok (.iconst 3, 1) := by decide +kernel
theorem d_Answer_init_2 : decode prog_2_method_1_code 2 = .ok (.aload_n 1, 1) := by decide +kernel
theorem d_Answer_init_3 : decode prog_2_method_1_code 3 = .ok (.getfield 3, 3) := by decide +kernel
theorem d_Answer_init_6 : decode prog_2_method_1_code 6 = .ok (.aload_n 1, 1) := by decide +kernel
theorem d_Answer_init_7 : decode prog_2_method_1_code 7 = .ok (.getfield 9, 3) := by decide +kernel
theorem d_Answer_init_10 : decode prog_2_method_1_code 10 = .ok (.invokespecial 12, 3) := by decide +kernel
theorem d_Mail_init_0 : decode prog_9_method_1_code 0 = .ok (.aload_n 0, 1) := by decide +kernel
theorem d_Mail_init_1 : decode prog_9_method_1_code 1 = .ok (.invokespecial 1, 3) := by decide +kernel
theorem d_Mail_init_4 : decode prog_9_method_1_code 4 = .ok (.aload_n 0, 1) := by decide +kernel
theorem d_Mail_init_5 : decode prog_9_method_1_code 5 = .ok (.iload_n 1, 1) := by decide +kernel
theorem d_Mail_init_6 : decode prog_9_method_1_code 6 = .ok (.putfield 7, 3) := by decide +kernel
theorem d_Mail_init_9 : decode prog_9_method_1_code 9 = .ok (.aload_n 0, 1) := by decide +kernel
theorem d_Mail_init_10 : decode prog_9_method_1_code 10 = .ok (.iload_n 2, 1) := by decide +kernel
theorem d_Mail_init_11 : decode prog_9_method_1_code 11 = .ok (.putfield 13, 3) := by decide +kernel
theorem d_Mail_init_14 : decode prog_9_method_1_code 14 = .ok (.aload_n 0, 1) := by decide +kernel
theorem d_Mail_init_15 : decode prog_9_method_1_code 15 = .ok (.iload_n 3, 1) := by decide +kernel
theorem d_Mail_init_16 : decode prog_9_method_1_code 16 = .ok (.putfield 16, 3) := by decide +kernel
theorem d_Mail_init_19 : decode prog_9_method_1_code 19 = .ok (.return_, 1) := by decide +kernel
theorem d_SeriesBook_give_0 : decode prog_11_method_8_code 0 = .ok (.aload_n 0, 1) := by decide +kernel
theorem d_SeriesBook_give_1 : decode prog_11_method_8_code 1 = .ok (.getfield 11, 3) := by decide +kernel
theorem d_SeriesBook_give_4 : decode prog_11_method_8_code 4 = .ok (.iconst 1, 1) := by decide +kernel
theorem d_SeriesBook_give_5 : decode prog_11_method_8_code 5 = .ok (.if_icmp .ne 18, 3) := by decide +kernel
theorem d_SeriesBook_give_23 : decode prog_11_method_8_code 23 = .ok (.iconst 0, 1) := by decide +kernel
theorem d_SeriesBook_give_8 : decode prog_11_method_8_code 8 = .ok (.iload_n 2, 1) := by decide +kernel
theorem d_SeriesBook_give_9 : decode prog_11_method_8_code 9 = .ok (.sipush 300, 3) := by decide +kernel
theorem d_SeriesBook_give_12 : decode prog_11_method_8_code 12 = .ok (.aload_n 0, 1) := by decide +kernel
theorem d_SeriesBook_give_13 : decode prog_11_method_8_code 13 = .ok (.getfield 38, 3) := by decide +kernel
theorem d_SeriesBook_give_16 : decode prog_11_method_8_code 16 = .ok (.isub, 1) := by decide +kernel
theorem d_SeriesBook_give_17 : decode prog_11_method_8_code 17 = .ok (.invokestatic 58, 3) := by decide +kernel
theorem d_SeriesBook_give_20 : decode prog_11_method_8_code 20 = .ok (.goto 4, 3) := by decide +kernel
theorem d_SeriesBook_give_24 : decode prog_11_method_8_code 24 = .ok (.istore_n 3, 1) := by decide +kernel
theorem d_SeriesBook_give_25 : decode prog_11_method_8_code 25 = .ok (.iload_n 3, 1) := by decide +kernel
theorem d_SeriesBook_give_26 : decode prog_11_method_8_code 26 = .ok (.iconst 1, 1) := by decide +kernel
theorem d_SeriesBook_give_27 : decode prog_11_method_8_code 27 = .ok (.if_icmp .ge 5, 3) := by decide +kernel
theorem d_SeriesBook_give_32 : decode prog_11_method_8_code 32 = .ok (.new 64, 3) := by decide +kernel
theorem d_SeriesBook_give_35 : decode prog_11_method_8_code 35 = .ok (.dup, 1) := by decide +kernel
theorem d_SeriesBook_give_36 : decode prog_11_method_8_code 36 = .ok (.aload_n 0, 1) := by decide +kernel
theorem d_SeriesBook_give_37 : decode prog_11_method_8_code 37 = .ok (.getfield 38, 3) := by decide +kernel
theorem d_SeriesBook_give_40 : decode prog_11_method_8_code 40 = .ok (.iconst 1, 1) := by decide +kernel
theorem d_SeriesBook_give_41 : decode prog_11_method_8_code 41 = .ok (.iadd, 1) := by decide +kernel
theorem d_SeriesBook_give_42 : decode prog_11_method_8_code 42 = .ok (.iload_n 3, 1) := by decide +kernel
theorem d_SeriesBook_give_43 : decode prog_11_method_8_code 43 = .ok (.invokespecial 66, 3) := by decide +kernel
theorem d_Block_init_0 : decode prog_3_method_1_code 0 = .ok (.aload_n 0, 1) := by decide +kernel
theorem d_Block_init_1 : decode prog_3_method_1_code 1 = .ok (.invokespecial 1, 3) := by decide +kernel
theorem d_Block_init_4 : decode prog_3_method_1_code 4 = .ok (.aload_n 0, 1) := by decide +kernel
theorem d_Block_init_5 : decode prog_3_method_1_code 5 = .ok (.iload_n 1, 1) := by decide +kernel
theorem d_Block_init_6 : decode prog_3_method_1_code 6 = .ok (.putfield 7, 3) := by decide +kernel
theorem d_Block_init_9 : decode prog_3_method_1_code 9 = .ok (.aload_n 0, 1) := by decide +kernel
theorem d_Block_init_10 : decode prog_3_method_1_code 10 = .ok (.iload_n 2, 1) := by decide +kernel
theorem d_Block_init_11 : decode prog_3_method_1_code 11 = .ok (.putfield 13, 3) := by decide +kernel
theorem d_Block_init_14 : decode prog_3_method_1_code 14 = .ok (.return_, 1) := by decide +kernel
theorem d_SeriesBook_enter_0 : decode prog_11_method_9_code 0 = .ok (.aload_n 0, 1) := by decide +kernel
theorem d_SeriesBook_enter_1 : decode prog_11_method_9_code 1 = .ok (.aload_n 1, 1) := by decide +kernel
theorem d_SeriesBook_enter_2 : decode prog_11_method_9_code 2 = .ok (.getfield 69, 3) := by decide +kernel
theorem d_SeriesBook_enter_5 : decode prog_11_method_9_code 5 = .ok (.invokevirtual 74, 3) := by decide +kernel
theorem d_SeriesBook_fateOf_0 : decode prog_11_method_7_code 0 = .ok (.aload_n 0, 1) := by decide +kernel
theorem d_SeriesBook_fateOf_1 : decode prog_11_method_7_code 1 = .ok (.iload_n 1, 1) := by decide +kernel
theorem d_SeriesBook_fateOf_2 : decode prog_11_method_7_code 2 = .ok (.invokevirtual 54, 3) := by decide +kernel
theorem d_SeriesBook_isGiven_0 : decode prog_11_method_6_code 0 = .ok (.iload_n 1, 1) := by decide +kernel
theorem d_SeriesBook_isGiven_1 : decode prog_11_method_6_code 1 = .ok (.iconst 1, 1) := by decide +kernel
theorem d_SeriesBook_isGiven_2 : decode prog_11_method_6_code 2 = .ok (.if_icmp .lt 22, 3) := by decide +kernel
theorem d_SeriesBook_isGiven_5 : decode prog_11_method_6_code 5 = .ok (.iload_n 1, 1) := by decide +kernel
theorem d_SeriesBook_isGiven_6 : decode prog_11_method_6_code 6 = .ok (.aload_n 0, 1) := by decide +kernel
theorem d_SeriesBook_isGiven_7 : decode prog_11_method_6_code 7 = .ok (.getfield 38, 3) := by decide +kernel
theorem d_SeriesBook_isGiven_10 : decode prog_11_method_6_code 10 = .ok (.if_icmp .gt 14, 3) := by decide +kernel
theorem d_SeriesBook_isGiven_13 : decode prog_11_method_6_code 13 = .ok (.iload_n 1, 1) := by decide +kernel
theorem d_SeriesBook_isGiven_14 : decode prog_11_method_6_code 14 = .ok (.sipush 300, 3) := by decide +kernel
theorem d_SeriesBook_isGiven_17 : decode prog_11_method_6_code 17 = .ok (.if_icmp .gt 7, 3) := by decide +kernel
theorem d_SeriesBook_isGiven_20 : decode prog_11_method_6_code 20 = .ok (.iconst 1, 1) := by decide +kernel
theorem d_SeriesBook_isGiven_21 : decode prog_11_method_6_code 21 = .ok (.goto 4, 3) := by decide +kernel
theorem d_SeriesBook_isGiven_24 : decode prog_11_method_6_code 24 = .ok (.iconst 0, 1) := by decide +kernel
theorem d_SeriesBook_isGiven_25 : decode prog_11_method_6_code 25 = .ok (.ireturn, 1) := by decide +kernel
theorem d_No_bringToBranch_0 : decode prog_1_method_33_code 0 = .ok (.aload_n 0, 1) := by decide +kernel
theorem d_No_bringToBranch_1 : decode prog_1_method_33_code 1 = .ok (.aload_n 1, 1) := by decide +kernel
theorem d_No_bringToBranch_2 : decode prog_1_method_33_code 2 = .ok (.getfield 229, 3) := by decide +kernel
theorem d_No_bringToBranch_5 : decode prog_1_method_33_code 5 = .ok (.invokevirtual 55, 3) := by decide +kernel
theorem d_No_bringToBranch_8 : decode prog_1_method_33_code 8 = .ok (.astore_n 2, 1) := by decide +kernel
theorem d_No_bringToBranch_9 : decode prog_1_method_33_code 9 = .ok (.aload_n 2, 1) := by decide +kernel
theorem d_No_bringToBranch_10 : decode prog_1_method_33_code 10 = .ok (.ifnull 15, 3) := by decide +kernel
theorem d_No_bringToBranch_13 : decode prog_1_method_33_code 13 = .ok (.aload_n 2, 1) := by decide +kernel
theorem d_No_bringToBranch_14 : decode prog_1_method_33_code 14 = .ok (.getfield 90, 3) := by decide +kernel
theorem d_No_bringToBranch_17 : decode prog_1_method_33_code 17 = .ok (.ifCond .eq 8, 3) := by decide +kernel
theorem d_No_bringToBranch_20 : decode prog_1_method_33_code 20 = .ok (.aload_n 2, 1) := by decide +kernel
theorem d_No_bringToBranch_21 : decode prog_1_method_33_code 21 = .ok (.aload_n 1, 1) := by decide +kernel
theorem d_No_bringToBranch_22 : decode prog_1_method_33_code 22 = .ok (.invokevirtual 230, 3) := by decide +kernel
theorem d_Branch_read_0 : decode prog_4_method_8_code 0 = .ok (.aload_n 0, 1) := by decide +kernel
theorem d_Branch_read_1 : decode prog_4_method_8_code 1 = .ok (.invokevirtual 51, 3) := by decide +kernel
theorem d_Branch_read_4 : decode prog_4_method_8_code 4 = .ok (.astore_n 2, 1) := by decide +kernel
theorem d_Branch_read_5 : decode prog_4_method_8_code 5 = .ok (.aload_n 2, 1) := by decide +kernel
theorem d_Branch_read_6 : decode prog_4_method_8_code 6 = .ok (.ifnull 14, 3) := by decide +kernel
theorem d_Branch_read_9 : decode prog_4_method_8_code 9 = .ok (.aload_n 1, 1) := by decide +kernel
theorem d_Branch_read_10 : decode prog_4_method_8_code 10 = .ok (.getfield 55, 3) := by decide +kernel
theorem d_Branch_read_13 : decode prog_4_method_8_code 13 = .ok (.aload_n 2, 1) := by decide +kernel
theorem d_Branch_read_14 : decode prog_4_method_8_code 14 = .ok (.getfield 48, 3) := by decide +kernel
theorem d_Branch_read_17 : decode prog_4_method_8_code 17 = .ok (.if_icmp .eq 4, 3) := by decide +kernel
theorem d_Branch_read_21 : decode prog_4_method_8_code 21 = .ok (.aload_n 0, 1) := by decide +kernel
theorem d_Branch_read_22 : decode prog_4_method_8_code 22 = .ok (.iconst 0, 1) := by decide +kernel
theorem d_Branch_read_23 : decode prog_4_method_8_code 23 = .ok (.putfield 32, 3) := by decide +kernel
theorem d_Branch_read_26 : decode prog_4_method_8_code 26 = .ok (.aload_n 0, 1) := by decide +kernel
theorem d_Branch_read_27 : decode prog_4_method_8_code 27 = .ok (.aload_n 2, 1) := by decide +kernel
theorem d_Branch_read_28 : decode prog_4_method_8_code 28 = .ok (.getfield 58, 3) := by decide +kernel
theorem d_Branch_read_31 : decode prog_4_method_8_code 31 = .ok (.invokevirtual 61, 3) := by decide +kernel
theorem d_Branch_bookAt_0 : decode prog_4_method_4_code 0 = .ok (.iload_n 1, 1) := by decide +kernel
theorem d_Branch_bookAt_1 : decode prog_4_method_4_code 1 = .ok (.ifCond .lt 17, 3) := by decide +kernel
theorem d_Branch_bookAt_4 : decode prog_4_method_4_code 4 = .ok (.iload_n 1, 1) := by decide +kernel
theorem d_Branch_bookAt_5 : decode prog_4_method_4_code 5 = .ok (.iconst 3, 1) := by decide +kernel
theorem d_Branch_bookAt_6 : decode prog_4_method_4_code 6 = .ok (.if_icmp .ge 12, 3) := by decide +kernel
theorem d_Branch_bookAt_9 : decode prog_4_method_4_code 9 = .ok (.aload_n 0, 1) := by decide +kernel
theorem d_Branch_bookAt_10 : decode prog_4_method_4_code 10 = .ok (.getfield 11, 3) := by decide +kernel
theorem d_Branch_bookAt_13 : decode prog_4_method_4_code 13 = .ok (.iload_n 1, 1) := by decide +kernel
theorem d_Branch_bookAt_14 : decode prog_4_method_4_code 14 = .ok (.aaload, 1) := by decide +kernel
theorem d_Branch_bookAt_15 : decode prog_4_method_4_code 15 = .ok (.goto 4, 3) := by decide +kernel
theorem d_Branch_bookAt_18 : decode prog_4_method_4_code 18 = .ok (.aconst_null, 1) := by decide +kernel
theorem d_Branch_bookAt_19 : decode prog_4_method_4_code 19 = .ok (.areturn, 1) := by decide +kernel
theorem d_No_drop_0 : decode prog_1_method_17_code 0 = .ok (.aload_n 0, 1) := by decide +kernel
theorem d_No_drop_1 : decode prog_1_method_17_code 1 = .ok (.iload_n 1, 1) := by decide +kernel
theorem d_No_drop_2 : decode prog_1_method_17_code 2 = .ok (.invokevirtual 152, 3) := by decide +kernel
theorem d_No_twin_0 : decode prog_1_method_18_code 0 = .ok (.aload_n 0, 1) := by decide +kernel
theorem d_No_twin_1 : decode prog_1_method_18_code 1 = .ok (.iload_n 1, 1) := by decide +kernel
theorem d_No_twin_2 : decode prog_1_method_18_code 2 = .ok (.invokevirtual 152, 3) := by decide +kernel
theorem d_No_branchFate_0 : decode prog_1_method_22_code 0 = .ok (.aload_n 0, 1) := by decide +kernel
theorem d_No_branchFate_1 : decode prog_1_method_22_code 1 = .ok (.iload_n 1, 1) := by decide +kernel
theorem d_No_branchFate_2 : decode prog_1_method_22_code 2 = .ok (.invokevirtual 55, 3) := by decide +kernel
theorem d_No_branchFate_5 : decode prog_1_method_22_code 5 = .ok (.astore 4, 2) := by decide +kernel
theorem d_No_branchFate_7 : decode prog_1_method_22_code 7 = .ok (.aload 4, 2) := by decide +kernel
theorem d_No_branchFate_9 : decode prog_1_method_22_code 9 = .ok (.ifnull 11, 3) := by decide +kernel
theorem d_No_branchFate_12 : decode prog_1_method_22_code 12 = .ok (.aload 4, 2) := by decide +kernel
theorem d_No_branchFate_14 : decode prog_1_method_22_code 14 = .ok (.getfield 90, 3) := by decide +kernel
theorem d_No_branchFate_17 : decode prog_1_method_22_code 17 = .ok (.ifCond .ne 5, 3) := by decide +kernel
theorem d_No_branchFate_22 : decode prog_1_method_22_code 22 = .ok (.aload 4, 2) := by decide +kernel
theorem d_No_branchFate_24 : decode prog_1_method_22_code 24 = .ok (.iload_n 2, 1) := by decide +kernel
theorem d_No_branchFate_25 : decode prog_1_method_22_code 25 = .ok (.invokevirtual 59, 3) := by decide +kernel
theorem d_No_branchFate_28 : decode prog_1_method_22_code 28 = .ok (.astore 5, 2) := by decide +kernel
theorem d_No_branchFate_30 : decode prog_1_method_22_code 30 = .ok (.aload 5, 2) := by decide +kernel
theorem d_No_branchFate_32 : decode prog_1_method_22_code 32 = .ok (.ifnonnull 7, 3) := by decide +kernel
theorem d_No_branchFate_35 : decode prog_1_method_22_code 35 = .ok (.iconst (-1), 1) := by decide +kernel
theorem d_No_branchFate_36 : decode prog_1_method_22_code 36 = .ok (.goto 9, 3) := by decide +kernel
theorem d_No_branchFate_39 : decode prog_1_method_22_code 39 = .ok (.aload 5, 2) := by decide +kernel
theorem d_No_branchFate_41 : decode prog_1_method_22_code 41 = .ok (.iload_n 3, 1) := by decide +kernel
theorem d_No_branchFate_42 : decode prog_1_method_22_code 42 = .ok (.invokevirtual 117, 3) := by decide +kernel
theorem d_BranchSeries_fateOf_0 : decode prog_5_method_11_code 0 = .ok (.aload_n 0, 1) := by decide +kernel
theorem d_BranchSeries_fateOf_1 : decode prog_5_method_11_code 1 = .ok (.getfield 18, 3) := by decide +kernel
theorem d_BranchSeries_fateOf_4 : decode prog_5_method_11_code 4 = .ok (.invokevirtual 21, 3) := by decide +kernel
theorem d_BranchSeries_fateOf_7 : decode prog_5_method_11_code 7 = .ok (.iconst 1, 1) := by decide +kernel
theorem d_BranchSeries_fateOf_8 : decode prog_5_method_11_code 8 = .ok (.isub, 1) := by decide +kernel
theorem d_BranchSeries_fateOf_9 : decode prog_5_method_11_code 9 = .ok (.istore_n 2, 1) := by decide +kernel
theorem d_BranchSeries_fateOf_10 : decode prog_5_method_11_code 10 = .ok (.iload_n 2, 1) := by decide +kernel
theorem d_BranchSeries_fateOf_11 : decode prog_5_method_11_code 11 = .ok (.ifCond .lt 42, 3) := by decide +kernel
theorem d_BranchSeries_fateOf_53 : decode prog_5_method_11_code 53 = .ok (.iconst 0, 1) := by decide +kernel
theorem d_BranchSeries_fateOf_54 : decode prog_5_method_11_code 54 = .ok (.istore_n 2, 1) := by decide +kernel
theorem d_BranchSeries_fateOf_14 : decode prog_5_method_11_code 14 = .ok (.aload_n 0, 1) := by decide +kernel
theorem d_BranchSeries_fateOf_15 : decode prog_5_method_11_code 15 = .ok (.getfield 18, 3) := by decide +kernel
theorem d_BranchSeries_fateOf_18 : decode prog_5_method_11_code 18 = .ok (.iload_n 2, 1) := by decide +kernel
theorem d_BranchSeries_fateOf_19 : decode prog_5_method_11_code 19 = .ok (.invokevirtual 63, 3) := by decide +kernel
theorem d_Block_holds_0 : decode prog_3_method_2_code 0 = .ok (.iload_n 1, 1) := by decide +kernel
theorem d_Block_holds_1 : decode prog_3_method_2_code 1 = .ok (.aload_n 0, 1) := by decide +kernel
theorem d_Block_holds_2 : decode prog_3_method_2_code 2 = .ok (.getfield 7, 3) := by decide +kernel
theorem d_Block_holds_5 : decode prog_3_method_2_code 5 = .ok (.if_icmp .lt 20, 3) := by decide +kernel
theorem d_Block_holds_8 : decode prog_3_method_2_code 8 = .ok (.iload_n 1, 1) := by decide +kernel
theorem d_Block_holds_9 : decode prog_3_method_2_code 9 = .ok (.aload_n 0, 1) := by decide +kernel
theorem d_Block_holds_10 : decode prog_3_method_2_code 10 = .ok (.getfield 7, 3) := by decide +kernel
theorem d_Block_holds_13 : decode prog_3_method_2_code 13 = .ok (.aload_n 0, 1) := by decide +kernel
theorem d_Block_holds_14 : decode prog_3_method_2_code 14 = .ok (.getfield 13, 3) := by decide +kernel
theorem d_Block_holds_17 : decode prog_3_method_2_code 17 = .ok (.iadd, 1) := by decide +kernel
theorem d_Block_holds_18 : decode prog_3_method_2_code 18 = .ok (.if_icmp .ge 7, 3) := by decide +kernel
theorem d_Block_holds_21 : decode prog_3_method_2_code 21 = .ok (.iconst 1, 1) := by decide +kernel
theorem d_Block_holds_22 : decode prog_3_method_2_code 22 = .ok (.goto 4, 3) := by decide +kernel
theorem d_Block_holds_25 : decode prog_3_method_2_code 25 = .ok (.iconst 0, 1) := by decide +kernel
theorem d_Block_holds_26 : decode prog_3_method_2_code 26 = .ok (.ireturn, 1) := by decide +kernel
theorem d_No_branch_0 : decode prog_1_method_23_code 0 = .ok (.aload_n 0, 1) := by decide +kernel
theorem d_No_branch_1 : decode prog_1_method_23_code 1 = .ok (.iload_n 1, 1) := by decide +kernel
theorem d_No_branch_2 : decode prog_1_method_23_code 2 = .ok (.invokevirtual 55, 3) := by decide +kernel
theorem d_No_branch_5 : decode prog_1_method_23_code 5 = .ok (.astore_n 3, 1) := by decide +kernel
theorem d_No_branch_6 : decode prog_1_method_23_code 6 = .ok (.aload_n 3, 1) := by decide +kernel
theorem d_No_branch_7 : decode prog_1_method_23_code 7 = .ok (.ifnull 10, 3) := by decide +kernel
theorem d_No_branch_10 : decode prog_1_method_23_code 10 = .ok (.aload_n 3, 1) := by decide +kernel
theorem d_No_branch_11 : decode prog_1_method_23_code 11 = .ok (.getfield 90, 3) := by decide +kernel
theorem d_No_branch_14 : decode prog_1_method_23_code 14 = .ok (.ifCond .ne 5, 3) := by decide +kernel
theorem d_No_branch_19 : decode prog_1_method_23_code 19 = .ok (.iload_n 2, 1) := by decide +kernel
theorem d_No_branch_20 : decode prog_1_method_23_code 20 = .ok (.tableswitch 95 0 5 #[40, 53, 58, 71, 71, 71], 40) := by decide +kernel
theorem d_No_branch_115 : decode prog_1_method_23_code 115 = .ok (.iconst (-1), 1) := by decide +kernel
theorem d_No_branch_116 : decode prog_1_method_23_code 116 = .ok (.ireturn, 1) := by decide +kernel
theorem d_No_branch_78 : decode prog_1_method_23_code 78 = .ok (.aload_n 3, 1) := by decide +kernel
theorem d_No_branch_79 : decode prog_1_method_23_code 79 = .ok (.getfield 199, 3) := by decide +kernel
theorem d_No_branch_82 : decode prog_1_method_23_code 82 = .ok (.ifCond .eq 7, 3) := by decide +kernel
theorem d_No_branch_89 : decode prog_1_method_23_code 89 = .ok (.iconst 0, 1) := by decide +kernel
theorem d_No_branch_85 : decode prog_1_method_23_code 85 = .ok (.iconst 1, 1) := by decide +kernel
theorem d_No_branch_86 : decode prog_1_method_23_code 86 = .ok (.goto 4, 3) := by decide +kernel
theorem d_No_branch_73 : decode prog_1_method_23_code 73 = .ok (.aload_n 3, 1) := by decide +kernel
theorem d_No_branch_74 : decode prog_1_method_23_code 74 = .ok (.invokevirtual 196, 3) := by decide +kernel
theorem d_Branch_latestNumber_0 : decode prog_4_method_5_code 0 = .ok (.aload_n 0, 1) := by decide +kernel
theorem d_Branch_latestNumber_1 : decode prog_4_method_5_code 1 = .ok (.getfield 25, 3) := by decide +kernel
theorem d_Branch_latestNumber_4 : decode prog_4_method_5_code 4 = .ok (.ifnonnull 7, 3) := by decide +kernel
theorem d_Branch_latestNumber_7 : decode prog_4_method_5_code 7 = .ok (.iconst 0, 1) := by decide +kernel
theorem d_Branch_latestNumber_8 : decode prog_4_method_5_code 8 = .ok (.goto 10, 3) := by decide +kernel
theorem d_Branch_latestNumber_11 : decode prog_4_method_5_code 11 = .ok (.aload_n 0, 1) := by decide +kernel
theorem d_Branch_latestNumber_12 : decode prog_4_method_5_code 12 = .ok (.getfield 25, 3) := by decide +kernel
theorem d_Branch_latestNumber_15 : decode prog_4_method_5_code 15 = .ok (.getfield 48, 3) := by decide +kernel
theorem d_Branch_latestNumber_18 : decode prog_4_method_5_code 18 = .ok (.ireturn, 1) := by decide +kernel
theorem d_BranchSeries_unreported_0 : decode prog_5_method_5_code 0 = .ok (.aload_n 0, 1) := by decide +kernel
theorem d_BranchSeries_unreported_1 : decode prog_5_method_5_code 1 = .ok (.getfield 18, 3) := by decide +kernel
theorem d_BranchSeries_unreported_4 : decode prog_5_method_5_code 4 = .ok (.invokevirtual 21, 3) := by decide +kernel
theorem d_BranchSeries_unreported_7 : decode prog_5_method_5_code 7 = .ok (.aload_n 0, 1) := by decide +kernel
theorem d_BranchSeries_unreported_8 : decode prog_5_method_5_code 8 = .ok (.getfield 44, 3) := by decide +kernel
theorem d_BranchSeries_unreported_11 : decode prog_5_method_5_code 11 = .ok (.isub, 1) := by decide +kernel
theorem d_BranchSeries_unreported_12 : decode prog_5_method_5_code 12 = .ok (.ireturn, 1) := by decide +kernel
theorem d_Law_cell_0 : decode method_2_code 0 = .ok (.iload_n 1, 1) := by decide +kernel
theorem d_Law_cell_1 : decode method_2_code 1 = .ok (.aload_n 0, 1) := by decide +kernel
theorem d_Law_cell_2 : decode method_2_code 2 = .ok (.arraylength, 1) := by decide +kernel
theorem d_Law_cell_3 : decode method_2_code 3 = .ok (.if_icmp .ge 9, 3) := by decide +kernel
theorem d_Law_cell_12 : decode method_2_code 12 = .ok (.iconst 0, 1) := by decide +kernel
theorem d_Law_cell_6 : decode method_2_code 6 = .ok (.aload_n 0, 1) := by decide +kernel
theorem d_Law_cell_7 : decode method_2_code 7 = .ok (.iload_n 1, 1) := by decide +kernel
theorem d_Law_cell_8 : decode method_2_code 8 = .ok (.iaload, 1) := by decide +kernel
theorem d_Law_cell_9 : decode method_2_code 9 = .ok (.goto 4, 3) := by decide +kernel
theorem d_Law_cell_13 : decode method_2_code 13 = .ok (.ireturn, 1) := by decide +kernel
theorem d_Law_series_0 : decode method_3_code 0 = .ok (.aload_n 3, 1) := by decide +kernel
theorem d_Law_series_1 : decode method_3_code 1 = .ok (.iconst 0, 1) := by decide +kernel
theorem d_Law_series_2 : decode method_3_code 2 = .ok (.aload_n 0, 1) := by decide +kernel
theorem d_Law_series_3 : decode method_3_code 3 = .ok (.iload_n 1, 1) := by decide +kernel
theorem d_Law_series_4 : decode method_3_code 4 = .ok (.iload_n 2, 1) := by decide +kernel
theorem d_Law_series_5 : decode method_3_code 5 = .ok (.invokevirtual 7, 3) := by decide +kernel
theorem d_No_series_0 : decode prog_1_method_2_code 0 = .ok (.aload_n 0, 1) := by decide +kernel
theorem d_No_series_1 : decode prog_1_method_2_code 1 = .ok (.getfield 30, 3) := by decide +kernel
theorem d_No_series_4 : decode prog_1_method_2_code 4 = .ok (.invokestatic 41, 3) := by decide +kernel
theorem d_No_series_7 : decode prog_1_method_2_code 7 = .ok (.aload_n 0, 1) := by decide +kernel
theorem d_No_series_8 : decode prog_1_method_2_code 8 = .ok (.getfield 30, 3) := by decide +kernel
theorem d_No_series_11 : decode prog_1_method_2_code 11 = .ok (.iload_n 1, 1) := by decide +kernel
theorem d_No_series_12 : decode prog_1_method_2_code 12 = .ok (.invokevirtual 45, 3) := by decide +kernel
theorem d_No_series_15 : decode prog_1_method_2_code 15 = .ok (.astore_n 3, 1) := by decide +kernel
theorem d_No_series_16 : decode prog_1_method_2_code 16 = .ok (.aload_n 3, 1) := by decide +kernel
theorem d_No_series_17 : decode prog_1_method_2_code 17 = .ok (.ifnull 15, 3) := by decide +kernel
theorem d_No_series_20 : decode prog_1_method_2_code 20 = .ok (.iload_n 2, 1) := by decide +kernel
theorem d_No_series_21 : decode prog_1_method_2_code 21 = .ok (.iconst 1, 1) := by decide +kernel
theorem d_No_series_22 : decode prog_1_method_2_code 22 = .ok (.if_icmp .lt 10, 3) := by decide +kernel
theorem d_No_series_25 : decode prog_1_method_2_code 25 = .ok (.iload_n 2, 1) := by decide +kernel
theorem d_No_series_26 : decode prog_1_method_2_code 26 = .ok (.sipush 9999, 3) := by decide +kernel
theorem d_No_series_29 : decode prog_1_method_2_code 29 = .ok (.if_icmp .le 5, 3) := by decide +kernel
theorem d_No_series_34 : decode prog_1_method_2_code 34 = .ok (.aload_n 3, 1) := by decide +kernel
theorem d_No_series_35 : decode prog_1_method_2_code 35 = .ok (.iload_n 2, 1) := by decide +kernel
theorem d_No_series_36 : decode prog_1_method_2_code 36 = .ok (.invokevirtual 49, 3) := by decide +kernel
theorem d_SeriesBook_openFor_0 : decode prog_11_method_3_code 0 = .ok (.aload_n 0, 1) := by decide +kernel
theorem d_SeriesBook_openFor_1 : decode prog_11_method_3_code 1 = .ok (.getfield 11, 3) := by decide +kernel
theorem d_SeriesBook_openFor_4 : decode prog_11_method_3_code 4 = .ok (.ifCond .eq 5, 3) := by decide +kernel
theorem d_SeriesBook_openFor_9 : decode prog_11_method_3_code 9 = .ok (.aload_n 0, 1) := by decide +kernel
theorem d_SeriesBook_openFor_10 : decode prog_11_method_3_code 10 = .ok (.iconst 1, 1) := by decide +kernel
theorem d_SeriesBook_openFor_11 : decode prog_11_method_3_code 11 = .ok (.putfield 11, 3) := by decide +kernel
theorem d_SeriesBook_openFor_14 : decode prog_11_method_3_code 14 = .ok (.aload_n 0, 1) := by decide +kernel
theorem d_SeriesBook_openFor_15 : decode prog_11_method_3_code 15 = .ok (.iload_n 1, 1) := by decide +kernel
theorem d_SeriesBook_openFor_16 : decode prog_11_method_3_code 16 = .ok (.putfield 35, 3) := by decide +kernel
theorem d_SeriesBook_openFor_19 : decode prog_11_method_3_code 19 = .ok (.iconst 1, 1) := by decide +kernel
theorem d_SeriesBook_openFor_20 : decode prog_11_method_3_code 20 = .ok (.ireturn, 1) := by decide +kernel
theorem d_SeriesBook_openFor_7 : decode prog_11_method_3_code 7 = .ok (.iconst 0, 1) := by decide +kernel
theorem d_SeriesBook_openFor_8 : decode prog_11_method_3_code 8 = .ok (.ireturn, 1) := by decide +kernel
theorem d_Law_request_0 : decode method_4_code 0 = .ok (.aload 4, 2) := by decide +kernel
theorem d_Law_request_2 : decode method_4_code 2 = .ok (.iconst 0, 1) := by decide +kernel
theorem d_Law_request_3 : decode method_4_code 3 = .ok (.aload_n 0, 1) := by decide +kernel
theorem d_Law_request_4 : decode method_4_code 4 = .ok (.iload_n 1, 1) := by decide +kernel
theorem d_Law_request_5 : decode method_4_code 5 = .ok (.iload_n 2, 1) := by decide +kernel
theorem d_Law_request_6 : decode method_4_code 6 = .ok (.iload_n 3, 1) := by decide +kernel
theorem d_Law_request_7 : decode method_4_code 7 = .ok (.invokevirtual 15, 3) := by decide +kernel
theorem d_No_request_0 : decode prog_1_method_3_code 0 = .ok (.aload_n 0, 1) := by decide +kernel
theorem d_No_request_1 : decode prog_1_method_3_code 1 = .ok (.iload_n 1, 1) := by decide +kernel
theorem d_No_request_2 : decode prog_1_method_3_code 2 = .ok (.invokevirtual 55, 3) := by decide +kernel
theorem d_No_request_5 : decode prog_1_method_3_code 5 = .ok (.astore 4, 2) := by decide +kernel
theorem d_No_request_7 : decode prog_1_method_3_code 7 = .ok (.aload 4, 2) := by decide +kernel
theorem d_No_request_9 : decode prog_1_method_3_code 9 = .ok (.ifnonnull 5, 3) := by decide +kernel
theorem d_No_request_12 : decode prog_1_method_3_code 12 = .ok (.iconst (-1), 1) := by decide +kernel
theorem d_No_request_13 : decode prog_1_method_3_code 13 = .ok (.ireturn, 1) := by decide +kernel
theorem d_No_request_14 : decode prog_1_method_3_code 14 = .ok (.aload 4, 2) := by decide +kernel
theorem d_No_request_16 : decode prog_1_method_3_code 16 = .ok (.invokestatic 41, 3) := by decide +kernel
theorem d_No_request_19 : decode prog_1_method_3_code 19 = .ok (.aload 4, 2) := by decide +kernel
theorem d_No_request_21 : decode prog_1_method_3_code 21 = .ok (.iload_n 2, 1) := by decide +kernel
theorem d_No_request_22 : decode prog_1_method_3_code 22 = .ok (.invokevirtual 59, 3) := by decide +kernel
theorem d_No_request_25 : decode prog_1_method_3_code 25 = .ok (.astore 5, 2) := by decide +kernel
theorem d_No_request_27 : decode prog_1_method_3_code 27 = .ok (.aload 5, 2) := by decide +kernel
theorem d_No_request_29 : decode prog_1_method_3_code 29 = .ok (.ifnull 31, 3) := by decide +kernel
theorem d_No_request_32 : decode prog_1_method_3_code 32 = .ok (.iload_n 3, 1) := by decide +kernel
theorem d_No_request_33 : decode prog_1_method_3_code 33 = .ok (.iconst 1, 1) := by decide +kernel
theorem d_No_request_34 : decode prog_1_method_3_code 34 = .ok (.if_icmp .lt 26, 3) := by decide +kernel
theorem d_No_request_37 : decode prog_1_method_3_code 37 = .ok (.iload_n 3, 1) := by decide +kernel
theorem d_No_request_38 : decode prog_1_method_3_code 38 = .ok (.bipush 100, 2) := by decide +kernel
theorem d_No_request_40 : decode prog_1_method_3_code 40 = .ok (.if_icmp .gt 20, 3) := by decide +kernel
theorem d_No_request_43 : decode prog_1_method_3_code 43 = .ok (.aload 4, 2) := by decide +kernel
theorem d_No_request_45 : decode prog_1_method_3_code 45 = .ok (.invokevirtual 62, 3) := by decide +kernel
theorem d_Branch_mayWrite_0 : decode prog_4_method_6_code 0 = .ok (.aload_n 0, 1) := by decide +kernel
theorem d_Branch_mayWrite_1 : decode prog_4_method_6_code 1 = .ok (.getfield 32, 3) := by decide +kernel
theorem d_Branch_mayWrite_4 : decode prog_4_method_6_code 4 = .ok (.ifCond .ne 14, 3) := by decide +kernel
theorem d_Branch_mayWrite_7 : decode prog_4_method_6_code 7 = .ok (.aload_n 0, 1) := by decide +kernel
theorem d_Branch_mayWrite_8 : decode prog_4_method_6_code 8 = .ok (.getfield 39, 3) := by decide +kernel
theorem d_Branch_mayWrite_11 : decode prog_4_method_6_code 11 = .ok (.ifCond .ne 7, 3) := by decide +kernel
theorem d_Branch_mayWrite_14 : decode prog_4_method_6_code 14 = .ok (.iconst 1, 1) := by decide +kernel
theorem d_Branch_mayWrite_15 : decode prog_4_method_6_code 15 = .ok (.goto 4, 3) := by decide +kernel
theorem d_Branch_mayWrite_18 : decode prog_4_method_6_code 18 = .ok (.iconst 0, 1) := by decide +kernel
theorem d_Branch_mayWrite_19 : decode prog_4_method_6_code 19 = .ok (.ireturn, 1) := by decide +kernel
theorem d_BranchSeries_openBlocks_0 : decode prog_5_method_4_code 0 = .ok (.aload_n 0, 1) := by decide +kernel
theorem d_BranchSeries_openBlocks_1 : decode prog_5_method_4_code 1 = .ok (.getfield 12, 3) := by decide +kernel
theorem d_BranchSeries_openBlocks_4 : decode prog_5_method_4_code 4 = .ok (.invokevirtual 21, 3) := by decide +kernel
theorem d_BranchSeries_openBlocks_7 : decode prog_5_method_4_code 7 = .ok (.aload_n 0, 1) := by decide +kernel
theorem d_BranchSeries_openBlocks_8 : decode prog_5_method_4_code 8 = .ok (.getfield 32, 3) := by decide +kernel
theorem d_BranchSeries_openBlocks_11 : decode prog_5_method_4_code 11 = .ok (.isub, 1) := by decide +kernel
theorem d_BranchSeries_openBlocks_12 : decode prog_5_method_4_code 12 = .ok (.ireturn, 1) := by decide +kernel
theorem d_Letter_init_0 : decode prog_7_method_1_code 0 = .ok (.aload_n 0, 1) := by decide +kernel
theorem d_Letter_init_1 : decode prog_7_method_1_code 1 = .ok (.iload_n 2, 1) := by decide +kernel
theorem d_Letter_init_2 : decode prog_7_method_1_code 2 = .ok (.aload_n 1, 1) := by decide +kernel
theorem d_Letter_init_3 : decode prog_7_method_1_code 3 = .ok (.getfield 1, 3) := by decide +kernel
theorem d_Letter_init_6 : decode prog_7_method_1_code 6 = .ok (.aload_n 1, 1) := by decide +kernel
theorem d_Letter_init_7 : decode prog_7_method_1_code 7 = .ok (.invokevirtual 7, 3) := by decide +kernel
theorem d_Letter_init_10 : decode prog_7_method_1_code 10 = .ok (.iconst 1, 1) := by decide +kernel
theorem d_Letter_init_11 : decode prog_7_method_1_code 11 = .ok (.iadd, 1) := by decide +kernel
theorem d_Letter_init_12 : decode prog_7_method_1_code 12 = .ok (.invokespecial 11, 3) := by decide +kernel
theorem d_Letter_init_15 : decode prog_7_method_1_code 15 = .ok (.aload_n 0, 1) := by decide +kernel
theorem d_Letter_init_16 : decode prog_7_method_1_code 16 = .ok (.iload_n 3, 1) := by decide +kernel
theorem d_Letter_init_17 : decode prog_7_method_1_code 17 = .ok (.putfield 17, 3) := by decide +kernel
theorem d_Letter_init_20 : decode prog_7_method_1_code 20 = .ok (.aload_n 0, 1) := by decide +kernel
theorem d_Letter_init_21 : decode prog_7_method_1_code 21 = .ok (.iload 4, 2) := by decide +kernel
theorem d_Letter_init_23 : decode prog_7_method_1_code 23 = .ok (.putfield 22, 3) := by decide +kernel
theorem d_Letter_init_26 : decode prog_7_method_1_code 26 = .ok (.aload_n 0, 1) := by decide +kernel
theorem d_Letter_init_27 : decode prog_7_method_1_code 27 = .ok (.aload 5, 2) := by decide +kernel
theorem d_Letter_init_29 : decode prog_7_method_1_code 29 = .ok (.putfield 25, 3) := by decide +kernel
theorem d_Letter_init_32 : decode prog_7_method_1_code 32 = .ok (.return_, 1) := by decide +kernel
theorem d_No_sendNew_0 : decode prog_1_method_31_code 0 = .ok (.aload_n 1, 1) := by decide +kernel
theorem d_No_sendNew_1 : decode prog_1_method_31_code 1 = .ok (.aload_n 2, 1) := by decide +kernel
theorem d_No_sendNew_2 : decode prog_1_method_31_code 2 = .ok (.putfield 219, 3) := by decide +kernel
theorem d_No_sendNew_5 : decode prog_1_method_31_code 5 = .ok (.aload_n 1, 1) := by decide +kernel
theorem d_No_sendNew_6 : decode prog_1_method_31_code 6 = .ok (.iconst 1, 1) := by decide +kernel
theorem d_No_sendNew_7 : decode prog_1_method_31_code 7 = .ok (.putfield 193, 3) := by decide +kernel
theorem d_No_sendNew_10 : decode prog_1_method_31_code 10 = .ok (.aload_n 1, 1) := by decide +kernel
theorem d_No_sendNew_11 : decode prog_1_method_31_code 11 = .ok (.invokevirtual 98, 3) := by decide +kernel
theorem d_Law_report_0 : decode method_5_code 0 = .ok (.aload_n 3, 1) := by decide +kernel
theorem d_Law_report_1 : decode method_5_code 1 = .ok (.iconst 0, 1) := by decide +kernel
theorem d_Law_report_2 : decode method_5_code 2 = .ok (.aload_n 0, 1) := by decide +kernel
theorem d_Law_report_3 : decode method_5_code 3 = .ok (.iload_n 1, 1) := by decide +kernel
theorem d_Law_report_4 : decode method_5_code 4 = .ok (.iload_n 2, 1) := by decide +kernel
theorem d_Law_report_5 : decode method_5_code 5 = .ok (.invokevirtual 19, 3) := by decide +kernel
theorem d_No_report_0 : decode prog_1_method_4_code 0 = .ok (.aload_n 0, 1) := by decide +kernel
theorem d_No_report_1 : decode prog_1_method_4_code 1 = .ok (.iload_n 1, 1) := by decide +kernel
theorem d_No_report_2 : decode prog_1_method_4_code 2 = .ok (.invokevirtual 55, 3) := by decide +kernel
theorem d_No_report_5 : decode prog_1_method_4_code 5 = .ok (.astore_n 3, 1) := by decide +kernel
theorem d_No_report_6 : decode prog_1_method_4_code 6 = .ok (.aload_n 3, 1) := by decide +kernel
theorem d_No_report_7 : decode prog_1_method_4_code 7 = .ok (.ifnonnull 5, 3) := by decide +kernel
theorem d_No_report_10 : decode prog_1_method_4_code 10 = .ok (.iconst (-1), 1) := by decide +kernel
theorem d_No_report_11 : decode prog_1_method_4_code 11 = .ok (.ireturn, 1) := by decide +kernel
theorem d_No_report_12 : decode prog_1_method_4_code 12 = .ok (.aload_n 3, 1) := by decide +kernel
theorem d_No_report_13 : decode prog_1_method_4_code 13 = .ok (.invokestatic 41, 3) := by decide +kernel
theorem d_No_report_16 : decode prog_1_method_4_code 16 = .ok (.aload_n 3, 1) := by decide +kernel
theorem d_No_report_17 : decode prog_1_method_4_code 17 = .ok (.iload_n 2, 1) := by decide +kernel
theorem d_No_report_18 : decode prog_1_method_4_code 18 = .ok (.invokevirtual 59, 3) := by decide +kernel
theorem d_No_report_21 : decode prog_1_method_4_code 21 = .ok (.astore 4, 2) := by decide +kernel
theorem d_No_report_23 : decode prog_1_method_4_code 23 = .ok (.aload 4, 2) := by decide +kernel
theorem d_No_report_25 : decode prog_1_method_4_code 25 = .ok (.ifnull 19, 3) := by decide +kernel
theorem d_No_report_28 : decode prog_1_method_4_code 28 = .ok (.aload_n 3, 1) := by decide +kernel
theorem d_No_report_29 : decode prog_1_method_4_code 29 = .ok (.invokevirtual 62, 3) := by decide +kernel
theorem d_No_report_32 : decode prog_1_method_4_code 32 = .ok (.ifCond .eq 12, 3) := by decide +kernel
theorem d_No_report_35 : decode prog_1_method_4_code 35 = .ok (.aload 4, 2) := by decide +kernel
theorem d_No_report_37 : decode prog_1_method_4_code 37 = .ok (.invokevirtual 83, 3) := by decide +kernel
theorem d_No_report_40 : decode prog_1_method_4_code 40 = .ok (.iconst 1, 1) := by decide +kernel
theorem d_No_report_41 : decode prog_1_method_4_code 41 = .ok (.if_icmp .ge 5, 3) := by decide +kernel
theorem d_No_report_46 : decode prog_1_method_4_code 46 = .ok (.aload_n 0, 1) := by decide +kernel
theorem d_No_report_47 : decode prog_1_method_4_code 47 = .ok (.aload_n 3, 1) := by decide +kernel
theorem d_No_report_48 : decode prog_1_method_4_code 48 = .ok (.new 72, 3) := by decide +kernel
theorem d_No_report_51 : decode prog_1_method_4_code 51 = .ok (.dup, 1) := by decide +kernel
theorem d_No_report_52 : decode prog_1_method_4_code 52 = .ok (.aload_n 3, 1) := by decide +kernel
theorem d_No_report_53 : decode prog_1_method_4_code 53 = .ok (.iconst 2, 1) := by decide +kernel
theorem d_No_report_54 : decode prog_1_method_4_code 54 = .ok (.iload_n 2, 1) := by decide +kernel
theorem d_No_report_55 : decode prog_1_method_4_code 55 = .ok (.iconst 0, 1) := by decide +kernel
theorem d_No_report_56 : decode prog_1_method_4_code 56 = .ok (.aload 4, 2) := by decide +kernel
theorem d_No_report_58 : decode prog_1_method_4_code 58 = .ok (.invokevirtual 86, 3) := by decide +kernel
theorem d_BranchSeries_eventsForLetter_0 : decode prog_5_method_10_code 0 = .ok (.iconst 0, 1) := by decide +kernel
theorem d_BranchSeries_eventsForLetter_1 : decode prog_5_method_10_code 1 = .ok (.bipush 30, 2) := by decide +kernel
theorem d_BranchSeries_eventsForLetter_3 : decode prog_5_method_10_code 3 = .ok (.aload_n 0, 1) := by decide +kernel
theorem d_BranchSeries_eventsForLetter_4 : decode prog_5_method_10_code 4 = .ok (.invokevirtual 95, 3) := by decide +kernel
theorem d_BranchSeries_eventsForLetter_7 : decode prog_5_method_10_code 7 = .ok (.invokestatic 98, 3) := by decide +kernel
theorem d_BranchSeries_eventsForLetter_10 : decode prog_5_method_10_code 10 = .ok (.invokestatic 104, 3) := by decide +kernel
theorem d_BranchSeries_eventsForLetter_13 : decode prog_5_method_10_code 13 = .ok (.istore_n 1, 1) := by decide +kernel
theorem d_BranchSeries_eventsForLetter_14 : decode prog_5_method_10_code 14 = .ok (.iload_n 1, 1) := by decide +kernel
theorem d_BranchSeries_eventsForLetter_15 : decode prog_5_method_10_code 15 = .ok (.anewarray 54, 3) := by decide +kernel
theorem d_BranchSeries_eventsForLetter_18 : decode prog_5_method_10_code 18 = .ok (.astore_n 2, 1) := by decide +kernel
theorem d_BranchSeries_eventsForLetter_19 : decode prog_5_method_10_code 19 = .ok (.iconst 0, 1) := by decide +kernel
theorem d_BranchSeries_eventsForLetter_20 : decode prog_5_method_10_code 20 = .ok (.istore_n 3, 1) := by decide +kernel
theorem d_BranchSeries_eventsForLetter_21 : decode prog_5_method_10_code 21 = .ok (.iload_n 3, 1) := by decide +kernel
theorem d_BranchSeries_eventsForLetter_22 : decode prog_5_method_10_code 22 = .ok (.iload_n 1, 1) := by decide +kernel
theorem d_BranchSeries_eventsForLetter_23 : decode prog_5_method_10_code 23 = .ok (.if_icmp .ge 28, 3) := by decide +kernel
theorem d_BranchSeries_eventsForLetter_51 : decode prog_5_method_10_code 51 = .ok (.aload_n 2, 1) := by decide +kernel
theorem d_BranchSeries_eventsForLetter_52 : decode prog_5_method_10_code 52 = .ok (.areturn, 1) := by decide +kernel
theorem d_BranchSeries_eventsForLetter_26 : decode prog_5_method_10_code 26 = .ok (.aload_n 2, 1) := by decide +kernel
theorem d_BranchSeries_eventsForLetter_27 : decode prog_5_method_10_code 27 = .ok (.iload_n 3, 1) := by decide +kernel
theorem d_BranchSeries_eventsForLetter_28 : decode prog_5_method_10_code 28 = .ok (.aload_n 0, 1) := by decide +kernel
theorem d_BranchSeries_eventsForLetter_29 : decode prog_5_method_10_code 29 = .ok (.getfield 18, 3) := by decide +kernel
theorem d_BranchSeries_eventsForLetter_32 : decode prog_5_method_10_code 32 = .ok (.aload_n 0, 1) := by decide +kernel
theorem d_BranchSeries_eventsForLetter_33 : decode prog_5_method_10_code 33 = .ok (.getfield 44, 3) := by decide +kernel
theorem d_BranchSeries_eventsForLetter_36 : decode prog_5_method_10_code 36 = .ok (.iload_n 3, 1) := by decide +kernel
theorem d_BranchSeries_eventsForLetter_37 : decode prog_5_method_10_code 37 = .ok (.iadd, 1) := by decide +kernel
theorem d_BranchSeries_eventsForLetter_38 : decode prog_5_method_10_code 38 = .ok (.invokevirtual 63, 3) := by decide +kernel
theorem d_Law_invoice_0 : decode method_6_code 0 = .ok (.aload 6, 2) := by decide +kernel
theorem d_Law_invoice_2 : decode method_6_code 2 = .ok (.iconst 0, 1) := by decide +kernel
theorem d_Law_invoice_3 : decode method_6_code 3 = .ok (.aload_n 0, 1) := by decide +kernel
theorem d_Law_invoice_4 : decode method_6_code 4 = .ok (.iload_n 1, 1) := by decide +kernel
theorem d_Law_invoice_5 : decode method_6_code 5 = .ok (.iload_n 2, 1) := by decide +kernel
theorem d_Law_invoice_6 : decode method_6_code 6 = .ok (.lload_n 3, 1) := by decide +kernel
theorem d_Law_invoice_7 : decode method_6_code 7 = .ok (.iload 5, 2) := by decide +kernel
theorem d_Law_invoice_9 : decode method_6_code 9 = .ok (.invokevirtual 23, 3) := by decide +kernel
theorem d_No_invoice_0 : decode prog_1_method_6_code 0 = .ok (.aload_n 0, 1) := by decide +kernel
theorem d_No_invoice_1 : decode prog_1_method_6_code 1 = .ok (.iload_n 1, 1) := by decide +kernel
theorem d_No_invoice_2 : decode prog_1_method_6_code 2 = .ok (.invokevirtual 55, 3) := by decide +kernel
theorem d_No_invoice_5 : decode prog_1_method_6_code 5 = .ok (.astore 6, 2) := by decide +kernel
theorem d_No_invoice_7 : decode prog_1_method_6_code 7 = .ok (.aload 6, 2) := by decide +kernel
theorem d_No_invoice_9 : decode prog_1_method_6_code 9 = .ok (.ifnonnull 5, 3) := by decide +kernel
theorem d_No_invoice_12 : decode prog_1_method_6_code 12 = .ok (.iconst (-1), 1) := by decide +kernel
theorem d_No_invoice_13 : decode prog_1_method_6_code 13 = .ok (.ireturn, 1) := by decide +kernel
theorem d_No_invoice_14 : decode prog_1_method_6_code 14 = .ok (.aload 6, 2) := by decide +kernel
theorem d_No_invoice_16 : decode prog_1_method_6_code 16 = .ok (.invokestatic 41, 3) := by decide +kernel
theorem d_No_invoice_19 : decode prog_1_method_6_code 19 = .ok (.aload 6, 2) := by decide +kernel
theorem d_No_invoice_21 : decode prog_1_method_6_code 21 = .ok (.iload_n 2, 1) := by decide +kernel
theorem d_No_invoice_22 : decode prog_1_method_6_code 22 = .ok (.invokevirtual 59, 3) := by decide +kernel
theorem d_No_invoice_25 : decode prog_1_method_6_code 25 = .ok (.astore 7, 2) := by decide +kernel
theorem d_No_invoice_27 : decode prog_1_method_6_code 27 = .ok (.aload 7, 2) := by decide +kernel
theorem d_No_invoice_29 : decode prog_1_method_6_code 29 = .ok (.ifnull 27, 3) := by decide +kernel
theorem d_No_invoice_32 : decode prog_1_method_6_code 32 = .ok (.lload_n 3, 1) := by decide +kernel
theorem d_No_invoice_33 : decode prog_1_method_6_code 33 = .ok (.lconst 1, 1) := by decide +kernel
theorem d_No_invoice_34 : decode prog_1_method_6_code 34 = .ok (.lcmp, 1) := by decide +kernel
theorem d_No_invoice_35 : decode prog_1_method_6_code 35 = .ok (.ifCond .lt 21, 3) := by decide +kernel
theorem d_No_invoice_38 : decode prog_1_method_6_code 38 = .ok (.lload_n 3, 1) := by decide +kernel
theorem d_No_invoice_39 : decode prog_1_method_6_code 39 = .ok (.ldc2_w 105, 3) := by decide +kernel
theorem d_No_invoice_42 : decode prog_1_method_6_code 42 = .ok (.lcmp, 1) := by decide +kernel
theorem d_No_invoice_43 : decode prog_1_method_6_code 43 = .ok (.ifCond .gt 13, 3) := by decide +kernel
theorem d_No_invoice_46 : decode prog_1_method_6_code 46 = .ok (.aload 7, 2) := by decide +kernel
theorem d_No_invoice_48 : decode prog_1_method_6_code 48 = .ok (.iload 5, 2) := by decide +kernel
theorem d_No_invoice_50 : decode prog_1_method_6_code 50 = .ok (.invokevirtual 107, 3) := by decide +kernel
theorem d_BranchSeries_dateFits_0 : decode prog_5_method_9_code 0 = .ok (.aload_n 0, 1) := by decide +kernel
theorem d_BranchSeries_dateFits_1 : decode prog_5_method_9_code 1 = .ok (.invokevirtual 68, 3) := by decide +kernel
theorem d_BranchSeries_nextBlock_0 : decode prog_5_method_7_code 0 = .ok (.aload_n 0, 1) := by decide +kernel
theorem d_BranchSeries_nextBlock_1 : decode prog_5_method_7_code 1 = .ok (.getfield 32, 3) := by decide +kernel
theorem d_BranchSeries_nextBlock_4 : decode prog_5_method_7_code 4 = .ok (.aload_n 0, 1) := by decide +kernel
theorem d_BranchSeries_nextBlock_5 : decode prog_5_method_7_code 5 = .ok (.getfield 12, 3) := by decide +kernel
theorem d_BranchSeries_nextBlock_8 : decode prog_5_method_7_code 8 = .ok (.invokevirtual 21, 3) := by decide +kernel
theorem d_BranchSeries_nextBlock_11 : decode prog_5_method_7_code 11 = .ok (.if_icmp .ge 20, 3) := by decide +kernel
theorem d_BranchSeries_nextBlock_31 : decode prog_5_method_7_code 31 = .ok (.aconst_null, 1) := by decide +kernel
theorem d_BranchSeries_nextBlock_14 : decode prog_5_method_7_code 14 = .ok (.aload_n 0, 1) := by decide +kernel
theorem d_BranchSeries_nextBlock_15 : decode prog_5_method_7_code 15 = .ok (.getfield 12, 3) := by decide +kernel
theorem d_BranchSeries_nextBlock_18 : decode prog_5_method_7_code 18 = .ok (.aload_n 0, 1) := by decide +kernel
theorem d_BranchSeries_nextBlock_19 : decode prog_5_method_7_code 19 = .ok (.getfield 32, 3) := by decide +kernel
theorem d_BranchSeries_nextBlock_22 : decode prog_5_method_7_code 22 = .ok (.invokevirtual 63, 3) := by decide +kernel
theorem d_BranchSeries_useUpNext_0 : decode prog_5_method_8_code 0 = .ok (.aload_n 0, 1) := by decide +kernel
theorem d_BranchSeries_useUpNext_1 : decode prog_5_method_8_code 1 = .ok (.invokevirtual 68, 3) := by decide +kernel
theorem d_BranchSeries_addEvent_0 : decode prog_5_method_6_code 0 = .ok (.aload_n 0, 1) := by decide +kernel
theorem d_BranchSeries_addEvent_1 : decode prog_5_method_6_code 1 = .ok (.getfield 18, 3) := by decide +kernel
theorem d_BranchSeries_addEvent_4 : decode prog_5_method_6_code 4 = .ok (.new 54, 3) := by decide +kernel
theorem d_BranchSeries_addEvent_7 : decode prog_5_method_6_code 7 = .ok (.dup, 1) := by decide +kernel
theorem d_BranchSeries_addEvent_8 : decode prog_5_method_6_code 8 = .ok (.iload_n 1, 1) := by decide +kernel
theorem d_BranchSeries_addEvent_9 : decode prog_5_method_6_code 9 = .ok (.iload_n 2, 1) := by decide +kernel
theorem d_BranchSeries_addEvent_10 : decode prog_5_method_6_code 10 = .ok (.lload_n 3, 1) := by decide +kernel
theorem d_BranchSeries_addEvent_11 : decode prog_5_method_6_code 11 = .ok (.iload 5, 2) := by decide +kernel
theorem d_BranchSeries_addEvent_13 : decode prog_5_method_6_code 13 = .ok (.invokespecial 56, 3) := by decide +kernel
theorem d_Event_init_0 : decode prog_6_method_1_code 0 = .ok (.aload_n 0, 1) := by decide +kernel
theorem d_Event_init_1 : decode prog_6_method_1_code 1 = .ok (.invokespecial 1, 3) := by decide +kernel
theorem d_Event_init_4 : decode prog_6_method_1_code 4 = .ok (.aload_n 0, 1) := by decide +kernel
theorem d_Event_init_5 : decode prog_6_method_1_code 5 = .ok (.iload_n 1, 1) := by decide +kernel
theorem d_Event_init_6 : decode prog_6_method_1_code 6 = .ok (.putfield 7, 3) := by decide +kernel
theorem d_Event_init_9 : decode prog_6_method_1_code 9 = .ok (.aload_n 0, 1) := by decide +kernel
theorem d_Event_init_10 : decode prog_6_method_1_code 10 = .ok (.iload_n 2, 1) := by decide +kernel
theorem d_Event_init_11 : decode prog_6_method_1_code 11 = .ok (.putfield 13, 3) := by decide +kernel
theorem d_Event_init_14 : decode prog_6_method_1_code 14 = .ok (.aload_n 0, 1) := by decide +kernel
theorem d_Event_init_15 : decode prog_6_method_1_code 15 = .ok (.lload_n 3, 1) := by decide +kernel
theorem d_Event_init_16 : decode prog_6_method_1_code 16 = .ok (.putfield 17, 3) := by decide +kernel
theorem d_Event_init_19 : decode prog_6_method_1_code 19 = .ok (.aload_n 0, 1) := by decide +kernel
theorem d_Event_init_20 : decode prog_6_method_1_code 20 = .ok (.iload 5, 2) := by decide +kernel
theorem d_Event_init_22 : decode prog_6_method_1_code 22 = .ok (.putfield 21, 3) := by decide +kernel
theorem d_Event_init_25 : decode prog_6_method_1_code 25 = .ok (.return_, 1) := by decide +kernel
theorem d_Law_voidNext_0 : decode method_7_code 0 = .ok (.aload 4, 2) := by decide +kernel
theorem d_Law_voidNext_2 : decode method_7_code 2 = .ok (.iconst 0, 1) := by decide +kernel
theorem d_Law_voidNext_3 : decode method_7_code 3 = .ok (.aload_n 0, 1) := by decide +kernel
theorem d_Law_voidNext_4 : decode method_7_code 4 = .ok (.iload_n 1, 1) := by decide +kernel
theorem d_Law_voidNext_5 : decode method_7_code 5 = .ok (.iload_n 2, 1) := by decide +kernel
theorem d_Law_voidNext_6 : decode method_7_code 6 = .ok (.iload_n 3, 1) := by decide +kernel
theorem d_Law_voidNext_7 : decode method_7_code 7 = .ok (.invokevirtual 27, 3) := by decide +kernel
theorem d_No_voidNext_0 : decode prog_1_method_7_code 0 = .ok (.aload_n 0, 1) := by decide +kernel
theorem d_No_voidNext_1 : decode prog_1_method_7_code 1 = .ok (.iload_n 1, 1) := by decide +kernel
theorem d_No_voidNext_2 : decode prog_1_method_7_code 2 = .ok (.invokevirtual 55, 3) := by decide +kernel
theorem d_No_voidNext_5 : decode prog_1_method_7_code 5 = .ok (.astore 4, 2) := by decide +kernel
theorem d_No_voidNext_7 : decode prog_1_method_7_code 7 = .ok (.aload 4, 2) := by decide +kernel
theorem d_No_voidNext_9 : decode prog_1_method_7_code 9 = .ok (.ifnonnull 5, 3) := by decide +kernel
theorem d_No_voidNext_12 : decode prog_1_method_7_code 12 = .ok (.iconst (-1), 1) := by decide +kernel
theorem d_No_voidNext_13 : decode prog_1_method_7_code 13 = .ok (.ireturn, 1) := by decide +kernel
theorem d_No_voidNext_14 : decode prog_1_method_7_code 14 = .ok (.aload 4, 2) := by decide +kernel
theorem d_No_voidNext_16 : decode prog_1_method_7_code 16 = .ok (.invokestatic 41, 3) := by decide +kernel
theorem d_No_voidNext_19 : decode prog_1_method_7_code 19 = .ok (.aload 4, 2) := by decide +kernel
theorem d_No_voidNext_21 : decode prog_1_method_7_code 21 = .ok (.iload_n 2, 1) := by decide +kernel
theorem d_No_voidNext_22 : decode prog_1_method_7_code 22 = .ok (.invokevirtual 59, 3) := by decide +kernel
theorem d_No_voidNext_25 : decode prog_1_method_7_code 25 = .ok (.astore 5, 2) := by decide +kernel
theorem d_No_voidNext_27 : decode prog_1_method_7_code 27 = .ok (.aload 5, 2) := by decide +kernel
theorem d_No_voidNext_29 : decode prog_1_method_7_code 29 = .ok (.ifnull 10, 3) := by decide +kernel
theorem d_No_voidNext_32 : decode prog_1_method_7_code 32 = .ok (.iload_n 3, 1) := by decide +kernel
theorem d_No_voidNext_33 : decode prog_1_method_7_code 33 = .ok (.invokestatic 114, 3) := by decide +kernel
theorem d_No_isReason_0 : decode prog_1_method_26_code 0 = .ok (.iload_n 0, 1) := by decide +kernel
theorem d_No_isReason_1 : decode prog_1_method_26_code 1 = .ok (.iconst 1, 1) := by decide +kernel
theorem d_No_isReason_2 : decode prog_1_method_26_code 2 = .ok (.if_icmp .lt 13, 3) := by decide +kernel
theorem d_No_isReason_5 : decode prog_1_method_26_code 5 = .ok (.iload_n 0, 1) := by decide +kernel
theorem d_No_isReason_6 : decode prog_1_method_26_code 6 = .ok (.bipush 99, 2) := by decide +kernel
theorem d_No_isReason_8 : decode prog_1_method_26_code 8 = .ok (.if_icmp .gt 7, 3) := by decide +kernel
theorem d_No_isReason_11 : decode prog_1_method_26_code 11 = .ok (.iconst 1, 1) := by decide +kernel
theorem d_No_isReason_12 : decode prog_1_method_26_code 12 = .ok (.goto 4, 3) := by decide +kernel
theorem d_No_isReason_15 : decode prog_1_method_26_code 15 = .ok (.iconst 0, 1) := by decide +kernel
theorem d_No_isReason_16 : decode prog_1_method_26_code 16 = .ok (.ireturn, 1) := by decide +kernel
theorem d_Law_voidUsed_0 : decode method_8_code 0 = .ok (.aload 5, 2) := by decide +kernel
theorem d_Law_voidUsed_2 : decode method_8_code 2 = .ok (.iconst 0, 1) := by decide +kernel
theorem d_Law_voidUsed_3 : decode method_8_code 3 = .ok (.aload_n 0, 1) := by decide +kernel
theorem d_Law_voidUsed_4 : decode method_8_code 4 = .ok (.iload_n 1, 1) := by decide +kernel
theorem d_Law_voidUsed_5 : decode method_8_code 5 = .ok (.iload_n 2, 1) := by decide +kernel
theorem d_Law_voidUsed_6 : decode method_8_code 6 = .ok (.iload_n 3, 1) := by decide +kernel
theorem d_Law_voidUsed_7 : decode method_8_code 7 = .ok (.iload 4, 2) := by decide +kernel
theorem d_Law_voidUsed_9 : decode method_8_code 9 = .ok (.invokevirtual 30, 3) := by decide +kernel
theorem d_No_voidUsed_0 : decode prog_1_method_8_code 0 = .ok (.aload_n 0, 1) := by decide +kernel
theorem d_No_voidUsed_1 : decode prog_1_method_8_code 1 = .ok (.iload_n 1, 1) := by decide +kernel
theorem d_No_voidUsed_2 : decode prog_1_method_8_code 2 = .ok (.invokevirtual 55, 3) := by decide +kernel
theorem d_No_voidUsed_5 : decode prog_1_method_8_code 5 = .ok (.astore 5, 2) := by decide +kernel
theorem d_No_voidUsed_7 : decode prog_1_method_8_code 7 = .ok (.aload 5, 2) := by decide +kernel
theorem d_No_voidUsed_9 : decode prog_1_method_8_code 9 = .ok (.ifnonnull 5, 3) := by decide +kernel
theorem d_No_voidUsed_12 : decode prog_1_method_8_code 12 = .ok (.iconst 0, 1) := by decide +kernel
theorem d_No_voidUsed_13 : decode prog_1_method_8_code 13 = .ok (.ireturn, 1) := by decide +kernel
theorem d_No_voidUsed_14 : decode prog_1_method_8_code 14 = .ok (.aload 5, 2) := by decide +kernel
theorem d_No_voidUsed_16 : decode prog_1_method_8_code 16 = .ok (.invokestatic 41, 3) := by decide +kernel
theorem d_No_voidUsed_19 : decode prog_1_method_8_code 19 = .ok (.aload 5, 2) := by decide +kernel
theorem d_No_voidUsed_21 : decode prog_1_method_8_code 21 = .ok (.iload_n 2, 1) := by decide +kernel
theorem d_No_voidUsed_22 : decode prog_1_method_8_code 22 = .ok (.invokevirtual 59, 3) := by decide +kernel
theorem d_No_voidUsed_25 : decode prog_1_method_8_code 25 = .ok (.astore 6, 2) := by decide +kernel
theorem d_No_voidUsed_27 : decode prog_1_method_8_code 27 = .ok (.aload 6, 2) := by decide +kernel
theorem d_No_voidUsed_29 : decode prog_1_method_8_code 29 = .ok (.ifnull 21, 3) := by decide +kernel
theorem d_No_voidUsed_32 : decode prog_1_method_8_code 32 = .ok (.iload 4, 2) := by decide +kernel
theorem d_No_voidUsed_34 : decode prog_1_method_8_code 34 = .ok (.invokestatic 114, 3) := by decide +kernel
theorem d_No_voidUsed_37 : decode prog_1_method_8_code 37 = .ok (.ifCond .eq 13, 3) := by decide +kernel
theorem d_No_voidUsed_40 : decode prog_1_method_8_code 40 = .ok (.aload 6, 2) := by decide +kernel
theorem d_No_voidUsed_42 : decode prog_1_method_8_code 42 = .ok (.iload_n 3, 1) := by decide +kernel
theorem d_No_voidUsed_43 : decode prog_1_method_8_code 43 = .ok (.invokevirtual 117, 3) := by decide +kernel
theorem d_Law_strike_0 : decode method_9_code 0 = .ok (.aload_n 2, 1) := by decide +kernel
theorem d_Law_strike_1 : decode method_9_code 1 = .ok (.iconst 0, 1) := by decide +kernel
theorem d_Law_strike_2 : decode method_9_code 2 = .ok (.aload_n 0, 1) := by decide +kernel
theorem d_Law_strike_3 : decode method_9_code 3 = .ok (.iload_n 1, 1) := by decide +kernel
theorem d_Law_strike_4 : decode method_9_code 4 = .ok (.invokevirtual 34, 3) := by decide +kernel
theorem d_No_strike_0 : decode prog_1_method_9_code 0 = .ok (.aload_n 0, 1) := by decide +kernel
theorem d_No_strike_1 : decode prog_1_method_9_code 1 = .ok (.getfield 30, 3) := by decide +kernel
theorem d_No_strike_4 : decode prog_1_method_9_code 4 = .ok (.invokestatic 41, 3) := by decide +kernel
theorem d_No_strike_7 : decode prog_1_method_9_code 7 = .ok (.aload_n 0, 1) := by decide +kernel
theorem d_No_strike_8 : decode prog_1_method_9_code 8 = .ok (.iload_n 1, 1) := by decide +kernel
theorem d_No_strike_9 : decode prog_1_method_9_code 9 = .ok (.invokevirtual 55, 3) := by decide +kernel
theorem d_No_strike_12 : decode prog_1_method_9_code 12 = .ok (.ifnonnull 5, 3) := by decide +kernel
theorem d_No_strike_15 : decode prog_1_method_9_code 15 = .ok (.iconst (-1), 1) := by decide +kernel
theorem d_No_strike_16 : decode prog_1_method_9_code 16 = .ok (.ireturn, 1) := by decide +kernel
theorem d_No_strike_17 : decode prog_1_method_9_code 17 = .ok (.aload_n 0, 1) := by decide +kernel
theorem d_No_strike_18 : decode prog_1_method_9_code 18 = .ok (.getfield 30, 3) := by decide +kernel
theorem d_No_strike_21 : decode prog_1_method_9_code 21 = .ok (.iload_n 1, 1) := by decide +kernel
theorem d_No_strike_22 : decode prog_1_method_9_code 22 = .ok (.invokevirtual 125, 3) := by decide +kernel
theorem d_Office_strikeOut_0 : decode prog_10_method_6_code 0 = .ok (.aload_n 0, 1) := by decide +kernel
theorem d_Office_strikeOut_1 : decode prog_10_method_6_code 1 = .ok (.iload_n 1, 1) := by decide +kernel
theorem d_Office_strikeOut_2 : decode prog_10_method_6_code 2 = .ok (.invokevirtual 41, 3) := by decide +kernel
theorem d_Office_strikeOut_5 : decode prog_10_method_6_code 5 = .ok (.ifCond .eq 12, 3) := by decide +kernel
theorem d_Office_strikeOut_8 : decode prog_10_method_6_code 8 = .ok (.aload_n 0, 1) := by decide +kernel
theorem d_Office_strikeOut_9 : decode prog_10_method_6_code 9 = .ok (.getfield 21, 3) := by decide +kernel
theorem d_Office_strikeOut_12 : decode prog_10_method_6_code 12 = .ok (.iload_n 1, 1) := by decide +kernel
theorem d_Office_strikeOut_13 : decode prog_10_method_6_code 13 = .ok (.baload, 1) := by decide +kernel
theorem d_Office_strikeOut_14 : decode prog_10_method_6_code 14 = .ok (.ifCond .eq 5, 3) := by decide +kernel
theorem d_Office_strikeOut_19 : decode prog_10_method_6_code 19 = .ok (.aload_n 0, 1) := by decide +kernel
theorem d_Office_strikeOut_20 : decode prog_10_method_6_code 20 = .ok (.getfield 21, 3) := by decide +kernel
theorem d_Office_strikeOut_23 : decode prog_10_method_6_code 23 = .ok (.iload_n 1, 1) := by decide +kernel
theorem d_Office_strikeOut_24 : decode prog_10_method_6_code 24 = .ok (.iconst 1, 1) := by decide +kernel
theorem d_Office_strikeOut_25 : decode prog_10_method_6_code 25 = .ok (.bastore, 1) := by decide +kernel
theorem d_Office_strikeOut_26 : decode prog_10_method_6_code 26 = .ok (.iconst 0, 1) := by decide +kernel
theorem d_Office_strikeOut_27 : decode prog_10_method_6_code 27 = .ok (.istore_n 2, 1) := by decide +kernel
theorem d_Office_strikeOut_28 : decode prog_10_method_6_code 28 = .ok (.iconst 0, 1) := by decide +kernel
theorem d_Office_strikeOut_29 : decode prog_10_method_6_code 29 = .ok (.istore_n 3, 1) := by decide +kernel
theorem d_Office_strikeOut_17 : decode prog_10_method_6_code 17 = .ok (.iconst (-1), 1) := by decide +kernel
theorem d_Office_strikeOut_18 : decode prog_10_method_6_code 18 = .ok (.ireturn, 1) := by decide +kernel
theorem d_Office_strikeOut_30 : decode prog_10_method_6_code 30 = .ok (.iload_n 3, 1) := by decide +kernel
theorem d_Office_strikeOut_31 : decode prog_10_method_6_code 31 = .ok (.iconst 3, 1) := by decide +kernel
theorem d_Office_strikeOut_32 : decode prog_10_method_6_code 32 = .ok (.if_icmp .ge 22, 3) := by decide +kernel
theorem d_Office_strikeOut_54 : decode prog_10_method_6_code 54 = .ok (.iload_n 2, 1) := by decide +kernel
theorem d_Office_strikeOut_55 : decode prog_10_method_6_code 55 = .ok (.ireturn, 1) := by decide +kernel
theorem d_Office_strikeOut_35 : decode prog_10_method_6_code 35 = .ok (.iload_n 2, 1) := by decide +kernel
theorem d_Office_strikeOut_36 : decode prog_10_method_6_code 36 = .ok (.aload_n 0, 1) := by decide +kernel
theorem d_Office_strikeOut_37 : decode prog_10_method_6_code 37 = .ok (.getfield 11, 3) := by decide +kernel
theorem d_Office_strikeOut_40 : decode prog_10_method_6_code 40 = .ok (.iload_n 3, 1) := by decide +kernel
theorem d_Office_strikeOut_41 : decode prog_10_method_6_code 41 = .ok (.aaload, 1) := by decide +kernel
theorem d_Office_strikeOut_42 : decode prog_10_method_6_code 42 = .ok (.iload_n 1, 1) := by decide +kernel
theorem d_Office_strikeOut_43 : decode prog_10_method_6_code 43 = .ok (.invokevirtual 45, 3) := by decide +kernel
theorem d_SeriesBook_loseNumbersOf_0 : decode prog_11_method_10_code 0 = .ok (.iconst 0, 1) := by decide +kernel
theorem d_SeriesBook_loseNumbersOf_1 : decode prog_11_method_10_code 1 = .ok (.istore_n 2, 1) := by decide +kernel
theorem d_SeriesBook_loseNumbersOf_2 : decode prog_11_method_10_code 2 = .ok (.iconst 0, 1) := by decide +kernel
theorem d_SeriesBook_loseNumbersOf_3 : decode prog_11_method_10_code 3 = .ok (.istore_n 3, 1) := by decide +kernel
theorem d_SeriesBook_loseNumbersOf_4 : decode prog_11_method_10_code 4 = .ok (.iload_n 3, 1) := by decide +kernel
theorem d_SeriesBook_loseNumbersOf_5 : decode prog_11_method_10_code 5 = .ok (.aload_n 0, 1) := by decide +kernel
theorem d_SeriesBook_loseNumbersOf_6 : decode prog_11_method_10_code 6 = .ok (.getfield 38, 3) := by decide +kernel
theorem d_SeriesBook_loseNumbersOf_9 : decode prog_11_method_10_code 9 = .ok (.if_icmp .ge 39, 3) := by decide +kernel
theorem d_SeriesBook_loseNumbersOf_48 : decode prog_11_method_10_code 48 = .ok (.iload_n 2, 1) := by decide +kernel
theorem d_SeriesBook_loseNumbersOf_49 : decode prog_11_method_10_code 49 = .ok (.ireturn, 1) := by decide +kernel
theorem d_SeriesBook_loseNumbersOf_12 : decode prog_11_method_10_code 12 = .ok (.aload_n 0, 1) := by decide +kernel
theorem d_SeriesBook_loseNumbersOf_13 : decode prog_11_method_10_code 13 = .ok (.getfield 15, 3) := by decide +kernel
theorem d_SeriesBook_loseNumbersOf_16 : decode prog_11_method_10_code 16 = .ok (.iload_n 3, 1) := by decide +kernel
theorem d_SeriesBook_loseNumbersOf_17 : decode prog_11_method_10_code 17 = .ok (.iaload, 1) := by decide +kernel
theorem d_SeriesBook_loseNumbersOf_18 : decode prog_11_method_10_code 18 = .ok (.iload_n 1, 1) := by decide +kernel
theorem d_SeriesBook_loseNumbersOf_19 : decode prog_11_method_10_code 19 = .ok (.if_icmp .ne 23, 3) := by decide +kernel
theorem d_SeriesBook_loseNumbersOf_22 : decode prog_11_method_10_code 22 = .ok (.aload_n 0, 1) := by decide +kernel
theorem d_SeriesBook_loseNumbersOf_23 : decode prog_11_method_10_code 23 = .ok (.getfield 19, 3) := by decide +kernel
theorem d_SeriesBook_loseNumbersOf_26 : decode prog_11_method_10_code 26 = .ok (.iload_n 3, 1) := by decide +kernel
theorem d_SeriesBook_loseNumbersOf_27 : decode prog_11_method_10_code 27 = .ok (.iaload, 1) := by decide +kernel
theorem d_SeriesBook_loseNumbersOf_28 : decode prog_11_method_10_code 28 = .ok (.iconst 1, 1) := by decide +kernel
theorem d_SeriesBook_loseNumbersOf_29 : decode prog_11_method_10_code 29 = .ok (.if_icmp .ne 13, 3) := by decide +kernel
theorem d_SeriesBook_loseNumbersOf_32 : decode prog_11_method_10_code 32 = .ok (.aload_n 0, 1) := by decide +kernel
theorem d_SeriesBook_loseNumbersOf_33 : decode prog_11_method_10_code 33 = .ok (.getfield 19, 3) := by decide +kernel
theorem d_SeriesBook_loseNumbersOf_36 : decode prog_11_method_10_code 36 = .ok (.iload_n 3, 1) := by decide +kernel
theorem d_SeriesBook_loseNumbersOf_37 : decode prog_11_method_10_code 37 = .ok (.iconst 4, 1) := by decide +kernel
theorem d_SeriesBook_loseNumbersOf_38 : decode prog_11_method_10_code 38 = .ok (.iastore, 1) := by decide +kernel
theorem d_SeriesBook_loseNumbersOf_39 : decode prog_11_method_10_code 39 = .ok (.iinc 2 1, 3) := by decide +kernel
theorem d_SeriesBook_loseNumbersOf_42 : decode prog_11_method_10_code 42 = .ok (.iinc 3 1, 3) := by decide +kernel
theorem d_SeriesBook_loseNumbersOf_45 : decode prog_11_method_10_code 45 = .ok (.goto (-41), 3) := by decide +kernel
theorem d_Law_close_0 : decode method_10_code 0 = .ok (.aload_n 2, 1) := by decide +kernel
theorem d_Law_close_1 : decode method_10_code 1 = .ok (.iconst 0, 1) := by decide +kernel
theorem d_Law_close_2 : decode method_10_code 2 = .ok (.aload_n 0, 1) := by decide +kernel
theorem d_Law_close_3 : decode method_10_code 3 = .ok (.iload_n 1, 1) := by decide +kernel
theorem d_Law_close_4 : decode method_10_code 4 = .ok (.invokevirtual 38, 3) := by decide +kernel
theorem d_No_close_0 : decode prog_1_method_10_code 0 = .ok (.aload_n 0, 1) := by decide +kernel
theorem d_No_close_1 : decode prog_1_method_10_code 1 = .ok (.getfield 30, 3) := by decide +kernel
theorem d_No_close_4 : decode prog_1_method_10_code 4 = .ok (.invokestatic 41, 3) := by decide +kernel
theorem d_No_close_7 : decode prog_1_method_10_code 7 = .ok (.aload_n 0, 1) := by decide +kernel
theorem d_No_close_8 : decode prog_1_method_10_code 8 = .ok (.getfield 30, 3) := by decide +kernel
theorem d_No_close_11 : decode prog_1_method_10_code 11 = .ok (.iload_n 1, 1) := by decide +kernel
theorem d_No_close_12 : decode prog_1_method_10_code 12 = .ok (.invokevirtual 45, 3) := by decide +kernel
theorem d_No_close_15 : decode prog_1_method_10_code 15 = .ok (.astore_n 2, 1) := by decide +kernel
theorem d_No_close_16 : decode prog_1_method_10_code 16 = .ok (.aload_n 2, 1) := by decide +kernel
theorem d_No_close_17 : decode prog_1_method_10_code 17 = .ok (.ifnull 10, 3) := by decide +kernel
theorem d_No_close_20 : decode prog_1_method_10_code 20 = .ok (.aload_n 2, 1) := by decide +kernel
theorem d_No_close_21 : decode prog_1_method_10_code 21 = .ok (.invokevirtual 128, 3) := by decide +kernel
theorem d_SeriesBook_isOpen_0 : decode prog_11_method_4_code 0 = .ok (.aload_n 0, 1) := by decide +kernel
theorem d_SeriesBook_isOpen_1 : decode prog_11_method_4_code 1 = .ok (.getfield 11, 3) := by decide +kernel
theorem d_SeriesBook_isOpen_4 : decode prog_11_method_4_code 4 = .ok (.iconst 1, 1) := by decide +kernel
theorem d_SeriesBook_isOpen_5 : decode prog_11_method_4_code 5 = .ok (.if_icmp .ne 7, 3) := by decide +kernel
theorem d_SeriesBook_isOpen_12 : decode prog_11_method_4_code 12 = .ok (.iconst 0, 1) := by decide +kernel
theorem d_SeriesBook_isOpen_8 : decode prog_11_method_4_code 8 = .ok (.iconst 1, 1) := by decide +kernel
theorem d_SeriesBook_isOpen_9 : decode prog_11_method_4_code 9 = .ok (.goto 4, 3) := by decide +kernel
theorem d_SeriesBook_isOpen_13 : decode prog_11_method_4_code 13 = .ok (.ireturn, 1) := by decide +kernel
theorem d_SeriesBook_leastOut_0 : decode prog_11_method_11_code 0 = .ok (.iconst 0, 1) := by decide +kernel
theorem d_SeriesBook_leastOut_1 : decode prog_11_method_11_code 1 = .ok (.istore_n 1, 1) := by decide +kernel
theorem d_SeriesBook_leastOut_2 : decode prog_11_method_11_code 2 = .ok (.iload_n 1, 1) := by decide +kernel
theorem d_SeriesBook_leastOut_3 : decode prog_11_method_11_code 3 = .ok (.aload_n 0, 1) := by decide +kernel
theorem d_SeriesBook_leastOut_4 : decode prog_11_method_11_code 4 = .ok (.getfield 38, 3) := by decide +kernel
theorem d_SeriesBook_leastOut_7 : decode prog_11_method_11_code 7 = .ok (.if_icmp .ge 23, 3) := by decide +kernel
theorem d_SeriesBook_leastOut_30 : decode prog_11_method_11_code 30 = .ok (.iconst 0, 1) := by decide +kernel
theorem d_SeriesBook_leastOut_31 : decode prog_11_method_11_code 31 = .ok (.ireturn, 1) := by decide +kernel
theorem d_SeriesBook_leastOut_10 : decode prog_11_method_11_code 10 = .ok (.aload_n 0, 1) := by decide +kernel
theorem d_SeriesBook_leastOut_11 : decode prog_11_method_11_code 11 = .ok (.getfield 19, 3) := by decide +kernel
theorem d_SeriesBook_leastOut_14 : decode prog_11_method_11_code 14 = .ok (.iload_n 1, 1) := by decide +kernel
theorem d_SeriesBook_leastOut_15 : decode prog_11_method_11_code 15 = .ok (.iaload, 1) := by decide +kernel
theorem d_SeriesBook_leastOut_16 : decode prog_11_method_11_code 16 = .ok (.iconst 1, 1) := by decide +kernel
theorem d_SeriesBook_leastOut_17 : decode prog_11_method_11_code 17 = .ok (.if_icmp .ne 7, 3) := by decide +kernel
theorem d_SeriesBook_leastOut_24 : decode prog_11_method_11_code 24 = .ok (.iinc 1 1, 3) := by decide +kernel
theorem d_SeriesBook_leastOut_27 : decode prog_11_method_11_code 27 = .ok (.goto (-25), 3) := by decide +kernel
theorem d_SeriesBook_leastOut_20 : decode prog_11_method_11_code 20 = .ok (.iload_n 1, 1) := by decide +kernel
theorem d_SeriesBook_leastOut_21 : decode prog_11_method_11_code 21 = .ok (.iconst 1, 1) := by decide +kernel
theorem d_SeriesBook_leastOut_22 : decode prog_11_method_11_code 22 = .ok (.iadd, 1) := by decide +kernel
theorem d_SeriesBook_leastOut_23 : decode prog_11_method_11_code 23 = .ok (.ireturn, 1) := by decide +kernel
theorem d_SeriesBook_shut_0 : decode prog_11_method_5_code 0 = .ok (.aload_n 0, 1) := by decide +kernel
theorem d_SeriesBook_shut_1 : decode prog_11_method_5_code 1 = .ok (.iconst 2, 1) := by decide +kernel
theorem d_SeriesBook_shut_2 : decode prog_11_method_5_code 2 = .ok (.putfield 11, 3) := by decide +kernel
theorem d_SeriesBook_shut_5 : decode prog_11_method_5_code 5 = .ok (.aload_n 0, 1) := by decide +kernel
theorem d_SeriesBook_shut_6 : decode prog_11_method_5_code 6 = .ok (.new 47, 3) := by decide +kernel
theorem d_SeriesBook_shut_9 : decode prog_11_method_5_code 9 = .ok (.dup, 1) := by decide +kernel
theorem d_SeriesBook_shut_10 : decode prog_11_method_5_code 10 = .ok (.invokespecial 49, 3) := by decide +kernel
theorem d_ListText_init_0 : decode prog_8_method_1_code 0 = .ok (.aload_n 0, 1) := by decide +kernel
theorem d_ListText_init_1 : decode prog_8_method_1_code 1 = .ok (.invokespecial 3, 3) := by decide +kernel
theorem d_ListText_init_4 : decode prog_8_method_1_code 4 = .ok (.aload_n 0, 1) := by decide +kernel
theorem d_ListText_init_5 : decode prog_8_method_1_code 5 = .ok (.new 9, 3) := by decide +kernel
theorem d_ListText_init_8 : decode prog_8_method_1_code 8 = .ok (.dup, 1) := by decide +kernel
theorem d_ListText_init_9 : decode prog_8_method_1_code 9 = .ok (.invokespecial 11, 3) := by decide +kernel
theorem d_StringBuilder_init_0 : decode prog_24_method_1_code 0 = .ok (.aload_n 0, 1) := by decide +kernel
theorem d_StringBuilder_init_1 : decode prog_24_method_1_code 1 = .ok (.bipush 16, 2) := by decide +kernel
theorem d_StringBuilder_init_3 : decode prog_24_method_1_code 3 = .ok (.invokespecial 1, 3) := by decide +kernel
theorem d_AbstractStringBuilder_init_0 : decode prog_16_method_2_code 0 = .ok (.aload_n 0, 1) := by decide +kernel
theorem d_AbstractStringBuilder_init_1 : decode prog_16_method_2_code 1 = .ok (.invokespecial 3, 3) := by decide +kernel
theorem d_AbstractStringBuilder_init_4 : decode prog_16_method_2_code 4 = .ok (.getstatic 18, 3) := by decide +kernel
theorem d_AbstractStringBuilder_init_7 : decode prog_16_method_2_code 7 = .ok (.ifCond .eq 18, 3) := by decide +kernel
theorem d_AbstractStringBuilder_init_10 : decode prog_16_method_2_code 10 = .ok (.aload_n 0, 1) := by decide +kernel
theorem d_AbstractStringBuilder_init_11 : decode prog_16_method_2_code 11 = .ok (.iload_n 1, 1) := by decide +kernel
theorem d_AbstractStringBuilder_init_12 : decode prog_16_method_2_code 12 = .ok (.newarray .byte, 2) := by decide +kernel
theorem d_AbstractStringBuilder_init_14 : decode prog_16_method_2_code 14 = .ok (.putfield 15, 3) := by decide +kernel
theorem d_AbstractStringBuilder_init_17 : decode prog_16_method_2_code 17 = .ok (.aload_n 0, 1) := by decide +kernel
theorem d_AbstractStringBuilder_init_18 : decode prog_16_method_2_code 18 = .ok (.iconst 0, 1) := by decide +kernel
theorem d_AbstractStringBuilder_init_19 : decode prog_16_method_2_code 19 = .ok (.putfield 22, 3) := by decide +kernel
theorem d_AbstractStringBuilder_init_22 : decode prog_16_method_2_code 22 = .ok (.goto 16, 3) := by decide +kernel
theorem d_AbstractStringBuilder_init_38 : decode prog_16_method_2_code 38 = .ok (.return_, 1) := by decide +kernel
theorem d_StringUTF16_newBytesFor_0 : decode prog_26_method_2_code 0 = .ok (.iload_n 0, 1) := by decide +kernel
theorem d_StringUTF16_newBytesFor_1 : decode prog_26_method_2_code 1 = .ok (.invokestatic 11, 3) := by decide +kernel
theorem d_StringUTF16_newBytesLength_0 : decode prog_26_method_3_code 0 = .ok (.iload_n 0, 1) := by decide +kernel
theorem d_StringUTF16_newBytesLength_1 : decode prog_26_method_3_code 1 = .ok (.ifCond .ge 11, 3) := by decide +kernel
theorem d_StringUTF16_newBytesLength_12 : decode prog_26_method_3_code 12 = .ok (.iload_n 0, 1) := by decide +kernel
theorem d_StringUTF16_newBytesLength_13 : decode prog_26_method_3_code 13 = .ok (.ldc 20, 2) := by decide +kernel
theorem d_StringUTF16_newBytesLength_15 : decode prog_26_method_3_code 15 = .ok (.if_icmp .lt 40, 3) := by decide +kernel
theorem d_StringUTF16_newBytesLength_55 : decode prog_26_method_3_code 55 = .ok (.iload_n 0, 1) := by decide +kernel
theorem d_StringUTF16_newBytesLength_56 : decode prog_26_method_3_code 56 = .ok (.iconst 1, 1) := by decide +kernel
theorem d_StringUTF16_newBytesLength_57 : decode prog_26_method_3_code 57 = .ok (.ishl, 1) := by decide +kernel
theorem d_StringUTF16_newBytesLength_58 : decode prog_26_method_3_code 58 = .ok (.ireturn, 1) := by decide +kernel
theorem d_ListText_write_0 : decode prog_8_method_2_code 0 = .ok (.lconst 0, 1) := by decide +kernel
theorem d_ListText_write_1 : decode prog_8_method_2_code 1 = .ok (.lstore_n 2, 1) := by decide +kernel
theorem d_ListText_write_2 : decode prog_8_method_2_code 2 = .ok (.iconst 1, 1) := by decide +kernel
theorem d_ListText_write_3 : decode prog_8_method_2_code 3 = .ok (.istore 4, 2) := by decide +kernel
theorem d_ListText_write_5 : decode prog_8_method_2_code 5 = .ok (.iload 4, 2) := by decide +kernel
theorem d_ListText_write_7 : decode prog_8_method_2_code 7 = .ok (.aload_n 1, 1) := by decide +kernel
theorem d_ListText_write_8 : decode prog_8_method_2_code 8 = .ok (.getfield 22, 3) := by decide +kernel
theorem d_ListText_write_11 : decode prog_8_method_2_code 11 = .ok (.if_icmp .gt 36, 3) := by decide +kernel
theorem d_ListText_write_47 : decode prog_8_method_2_code 47 = .ok (.aload_n 0, 1) := by decide +kernel
theorem d_ListText_write_48 : decode prog_8_method_2_code 48 = .ok (.getfield 12, 3) := by decide +kernel
theorem d_ListText_write_51 : decode prog_8_method_2_code 51 = .ok (.ldc 40, 2) := by decide +kernel
theorem d_ListText_write_53 : decode prog_8_method_2_code 53 = .ok (.invokevirtual 42, 3) := by decide +kernel
theorem d_ListText_addLine_0 : decode prog_8_method_3_code 0 = .ok (.aload_n 0, 1) := by decide +kernel
theorem d_ListText_addLine_1 : decode prog_8_method_3_code 1 = .ok (.iload_n 2, 1) := by decide +kernel
theorem d_ListText_addLine_2 : decode prog_8_method_3_code 2 = .ok (.i2l, 1) := by decide +kernel
theorem d_ListText_addLine_3 : decode prog_8_method_3_code 3 = .ok (.invokevirtual 56, 3) := by decide +kernel
theorem d_ListText_addNumber_0 : decode prog_8_method_5_code 0 = .ok (.lload_n 1, 1) := by decide +kernel
theorem d_ListText_addNumber_1 : decode prog_8_method_5_code 1 = .ok (.lconst 0, 1) := by decide +kernel
theorem d_ListText_addNumber_2 : decode prog_8_method_5_code 2 = .ok (.lcmp, 1) := by decide +kernel
theorem d_ListText_addNumber_3 : decode prog_8_method_5_code 3 = .ok (.ifCond .ge 13, 3) := by decide +kernel
theorem d_ListText_addNumber_6 : decode prog_8_method_5_code 6 = .ok (.aload_n 0, 1) := by decide +kernel
theorem d_ListText_addNumber_7 : decode prog_8_method_5_code 7 = .ok (.getfield 12, 3) := by decide +kernel
theorem d_ListText_addNumber_10 : decode prog_8_method_5_code 10 = .ok (.bipush 45, 2) := by decide +kernel
theorem d_ListText_addNumber_12 : decode prog_8_method_5_code 12 = .ok (.invokevirtual 50, 3) := by decide +kernel
theorem d_StringBuilder_append_0 : decode prog_24_method_14_code 0 = .ok (.aload_n 0, 1) := by decide +kernel
theorem d_StringBuilder_append_1 : decode prog_24_method_14_code 1 = .ok (.iload_n 1, 1) := by decide +kernel
theorem d_StringBuilder_append_2 : decode prog_24_method_14_code 2 = .ok (.invokespecial 50, 3) := by decide +kernel
theorem d_AbstractStringBuilder_append_0 : decode prog_16_method_31_code 0 = .ok (.aload_n 0, 1) := by decide +kernel
theorem d_AbstractStringBuilder_append_1 : decode prog_16_method_31_code 1 = .ok (.aload_n 0, 1) := by decide +kernel
theorem d_AbstractStringBuilder_append_2 : decode prog_16_method_31_code 2 = .ok (.getfield 79, 3) := by decide +kernel
theorem d_AbstractStringBuilder_append_5 : decode prog_16_method_31_code 5 = .ok (.iconst 1, 1) := by decide +kernel
theorem d_AbstractStringBuilder_append_6 : decode prog_16_method_31_code 6 = .ok (.iadd, 1) := by decide +kernel
theorem d_AbstractStringBuilder_append_7 : decode prog_16_method_31_code 7 = .ok (.invokevirtual 100, 3) := by decide +kernel
theorem d_AbstractStringBuilder_ensureCapacityInternal_0 : decode prog_16_method_9_code 0 = .ok (.aload_n 0, 1) := by decide +kernel
theorem d_AbstractStringBuilder_ensureCapacityInternal_1 : decode prog_16_method_9_code 1 = .ok (.getfield 15, 3) := by decide +kernel
theorem d_AbstractStringBuilder_ensureCapacityInternal_4 : decode prog_16_method_9_code 4 = .ok (.arraylength, 1) := by decide +kernel
theorem d_AbstractStringBuilder_ensureCapacityInternal_5 : decode prog_16_method_9_code 5 = .ok (.aload_n 0, 1) := by decide +kernel
theorem d_AbstractStringBuilder_ensureCapacityInternal_6 : decode prog_16_method_9_code 6 = .ok (.getfield 22, 3) := by decide +kernel
theorem d_AbstractStringBuilder_ensureCapacityInternal_9 : decode prog_16_method_9_code 9 = .ok (.ishr, 1) := by decide +kernel
theorem d_AbstractStringBuilder_ensureCapacityInternal_10 : decode prog_16_method_9_code 10 = .ok (.istore_n 2, 1) := by decide +kernel
theorem d_AbstractStringBuilder_ensureCapacityInternal_11 : decode prog_16_method_9_code 11 = .ok (.iload_n 1, 1) := by decide +kernel
theorem d_AbstractStringBuilder_ensureCapacityInternal_12 : decode prog_16_method_9_code 12 = .ok (.iload_n 2, 1) := by decide +kernel
theorem d_AbstractStringBuilder_ensureCapacityInternal_13 : decode prog_16_method_9_code 13 = .ok (.isub, 1) := by decide +kernel
theorem d_AbstractStringBuilder_ensureCapacityInternal_14 : decode prog_16_method_9_code 14 = .ok (.ifCond .le 24, 3) := by decide +kernel
theorem d_AbstractStringBuilder_ensureCapacityInternal_17 : decode prog_16_method_9_code 17 = .ok (.aload_n 0, 1) := by decide +kernel
theorem d_AbstractStringBuilder_ensureCapacityInternal_18 : decode prog_16_method_9_code 18 = .ok (.aload_n 0, 1) := by decide +kernel
theorem d_AbstractStringBuilder_ensureCapacityInternal_19 : decode prog_16_method_9_code 19 = .ok (.getfield 15, 3) := by decide +kernel
theorem d_AbstractStringBuilder_ensureCapacityInternal_22 : decode prog_16_method_9_code 22 = .ok (.aload_n 0, 1) := by decide +kernel
theorem d_AbstractStringBuilder_ensureCapacityInternal_23 : decode prog_16_method_9_code 23 = .ok (.iload_n 1, 1) := by decide +kernel
theorem d_AbstractStringBuilder_ensureCapacityInternal_24 : decode prog_16_method_9_code 24 = .ok (.invokevirtual 104, 3) := by decide +kernel
theorem d_AbstractStringBuilder_newCapacity_0 : decode prog_16_method_10_code 0 = .ok (.aload_n 0, 1) := by decide +kernel
theorem d_AbstractStringBuilder_newCapacity_1 : decode prog_16_method_10_code 1 = .ok (.getfield 15, 3) := by decide +kernel
theorem d_AbstractStringBuilder_newCapacity_4 : decode prog_16_method_10_code 4 = .ok (.arraylength, 1) := by decide +kernel
theorem d_AbstractStringBuilder_newCapacity_5 : decode prog_16_method_10_code 5 = .ok (.istore_n 2, 1) := by decide +kernel
theorem d_AbstractStringBuilder_newCapacity_6 : decode prog_16_method_10_code 6 = .ok (.iload_n 1, 1) := by decide +kernel
theorem d_AbstractStringBuilder_newCapacity_7 : decode prog_16_method_10_code 7 = .ok (.aload_n 0, 1) := by decide +kernel
theorem d_AbstractStringBuilder_newCapacity_8 : decode prog_16_method_10_code 8 = .ok (.getfield 22, 3) := by decide +kernel
theorem d_AbstractStringBuilder_newCapacity_11 : decode prog_16_method_10_code 11 = .ok (.ishl, 1) := by decide +kernel
theorem d_AbstractStringBuilder_newCapacity_12 : decode prog_16_method_10_code 12 = .ok (.istore_n 3, 1) := by decide +kernel
theorem d_AbstractStringBuilder_newCapacity_13 : decode prog_16_method_10_code 13 = .ok (.iload_n 3, 1) := by decide +kernel
theorem d_AbstractStringBuilder_newCapacity_14 : decode prog_16_method_10_code 14 = .ok (.iload_n 2, 1) := by decide +kernel
theorem d_AbstractStringBuilder_newCapacity_15 : decode prog_16_method_10_code 15 = .ok (.isub, 1) := by decide +kernel
theorem d_AbstractStringBuilder_newCapacity_16 : decode prog_16_method_10_code 16 = .ok (.istore 4, 2) := by decide +kernel
theorem d_AbstractStringBuilder_newCapacity_18 : decode prog_16_method_10_code 18 = .ok (.iload_n 2, 1) := by decide +kernel
theorem d_AbstractStringBuilder_newCapacity_19 : decode prog_16_method_10_code 19 = .ok (.iload 4, 2) := by decide +kernel
theorem d_AbstractStringBuilder_newCapacity_21 : decode prog_16_method_10_code 21 = .ok (.iload_n 2, 1) := by decide +kernel
theorem d_AbstractStringBuilder_newCapacity_22 : decode prog_16_method_10_code 22 = .ok (.iconst 2, 1) := by decide +kernel
theorem d_AbstractStringBuilder_newCapacity_23 : decode prog_16_method_10_code 23 = .ok (.aload_n 0, 1) := by decide +kernel
theorem d_AbstractStringBuilder_newCapacity_24 : decode prog_16_method_10_code 24 = .ok (.getfield 22, 3) := by decide +kernel
theorem d_AbstractStringBuilder_newCapacity_27 : decode prog_16_method_10_code 27 = .ok (.ishl, 1) := by decide +kernel
theorem d_AbstractStringBuilder_newCapacity_28 : decode prog_16_method_10_code 28 = .ok (.iadd, 1) := by decide +kernel
theorem d_AbstractStringBuilder_newCapacity_29 : decode prog_16_method_10_code 29 = .ok (.invokestatic 114, 3) := by decide +kernel
theorem d_Arrays_copyOf3_0 : decode prog_32_method_121_code 0 = .ok (.iload_n 1, 1) := by decide +kernel
theorem d_Arrays_copyOf3_1 : decode prog_32_method_121_code 1 = .ok (.aload_n 0, 1) := by decide +kernel
theorem d_Arrays_copyOf3_2 : decode prog_32_method_121_code 2 = .ok (.arraylength, 1) := by decide +kernel
theorem d_Arrays_copyOf3_3 : decode prog_32_method_121_code 3 = .ok (.if_icmp .ne 11, 3) := by decide +kernel
theorem d_Arrays_copyOf3_14 : decode prog_32_method_121_code 14 = .ok (.iload_n 1, 1) := by decide +kernel
theorem d_Arrays_copyOf3_15 : decode prog_32_method_121_code 15 = .ok (.newarray .byte, 2) := by decide +kernel
theorem d_Arrays_copyOf3_17 : decode prog_32_method_121_code 17 = .ok (.astore_n 2, 1) := by decide +kernel
theorem d_Arrays_copyOf3_18 : decode prog_32_method_121_code 18 = .ok (.aload_n 0, 1) := by decide +kernel
theorem d_Arrays_copyOf3_19 : decode prog_32_method_121_code 19 = .ok (.iconst 0, 1) := by decide +kernel
theorem d_Arrays_copyOf3_20 : decode prog_32_method_121_code 20 = .ok (.aload_n 2, 1) := by decide +kernel
theorem d_Arrays_copyOf3_21 : decode prog_32_method_121_code 21 = .ok (.iconst 0, 1) := by decide +kernel
theorem d_Arrays_copyOf3_22 : decode prog_32_method_121_code 22 = .ok (.aload_n 0, 1) := by decide +kernel
theorem d_Arrays_copyOf3_23 : decode prog_32_method_121_code 23 = .ok (.arraylength, 1) := by decide +kernel
theorem d_Arrays_copyOf3_24 : decode prog_32_method_121_code 24 = .ok (.iload_n 1, 1) := by decide +kernel
theorem d_Arrays_copyOf3_25 : decode prog_32_method_121_code 25 = .ok (.invokestatic 304, 3) := by decide +kernel
theorem d_Arrays_copyOf3_28 : decode prog_32_method_121_code 28 = .ok (.invokestatic 150, 3) := by decide +kernel
theorem d_Arrays_copyOf3_31 : decode prog_32_method_121_code 31 = .ok (.aload_n 2, 1) := by decide +kernel
theorem d_Arrays_copyOf3_32 : decode prog_32_method_121_code 32 = .ok (.areturn, 1) := by decide +kernel
theorem d_Arrays_copyOf3_6 : decode prog_32_method_121_code 6 = .ok (.aload_n 0, 1) := by decide +kernel
theorem d_AbstractStringBuilder_isLatin1_0 : decode prog_16_method_68_code 0 = .ok (.getstatic 18, 3) := by decide +kernel
theorem d_AbstractStringBuilder_isLatin1_3 : decode prog_16_method_68_code 3 = .ok (.ifCond .eq 14, 3) := by decide +kernel
theorem d_AbstractStringBuilder_isLatin1_6 : decode prog_16_method_68_code 6 = .ok (.aload_n 0, 1) := by decide +kernel
theorem d_AbstractStringBuilder_isLatin1_7 : decode prog_16_method_68_code 7 = .ok (.getfield 22, 3) := by decide +kernel
theorem d_AbstractStringBuilder_isLatin1_10 : decode prog_16_method_68_code 10 = .ok (.ifCond .ne 7, 3) := by decide +kernel
theorem d_AbstractStringBuilder_isLatin1_13 : decode prog_16_method_68_code 13 = .ok (.iconst 1, 1) := by decide +kernel
theorem d_AbstractStringBuilder_isLatin1_14 : decode prog_16_method_68_code 14 = .ok (.goto 4, 3) := by decide +kernel
theorem d_AbstractStringBuilder_isLatin1_17 : decode prog_16_method_68_code 17 = .ok (.iconst 0, 1) := by decide +kernel
theorem d_AbstractStringBuilder_isLatin1_18 : decode prog_16_method_68_code 18 = .ok (.ireturn, 1) := by decide +kernel
theorem d_StringLatin1_canEncode_0 : decode prog_25_method_3_code 0 = .ok (.iload_n 0, 1) := by decide +kernel
theorem d_StringLatin1_canEncode_1 : decode prog_25_method_3_code 1 = .ok (.sipush 255, 3) := by decide +kernel
theorem d_StringLatin1_canEncode_4 : decode prog_25_method_3_code 4 = .ok (.if_icmp .gt 7, 3) := by decide +kernel
theorem d_StringLatin1_canEncode_11 : decode prog_25_method_3_code 11 = .ok (.iconst 0, 1) := by decide +kernel
theorem d_StringLatin1_canEncode_7 : decode prog_25_method_3_code 7 = .ok (.iconst 1, 1) := by decide +kernel
theorem d_StringLatin1_canEncode_8 : decode prog_25_method_3_code 8 = .ok (.goto 4, 3) := by decide +kernel
theorem d_StringLatin1_canEncode_12 : decode prog_25_method_3_code 12 = .ok (.ireturn, 1) := by decide +kernel
theorem d_AbstractStringBuilder_inflate_0 : decode prog_16_method_11_code 0 = .ok (.aload_n 0, 1) := by decide +kernel
theorem d_AbstractStringBuilder_inflate_1 : decode prog_16_method_11_code 1 = .ok (.invokevirtual 83, 3) := by decide +kernel
theorem d_AbstractStringBuilder_inflate_4 : decode prog_16_method_11_code 4 = .ok (.ifCond .ne 4, 3) := by decide +kernel
theorem d_AbstractStringBuilder_inflate_8 : decode prog_16_method_11_code 8 = .ok (.aload_n 0, 1) := by decide +kernel
theorem d_AbstractStringBuilder_inflate_9 : decode prog_16_method_11_code 9 = .ok (.getfield 15, 3) := by decide +kernel
theorem d_AbstractStringBuilder_inflate_12 : decode prog_16_method_11_code 12 = .ok (.arraylength, 1) := by decide +kernel
theorem d_AbstractStringBuilder_inflate_13 : decode prog_16_method_11_code 13 = .ok (.invokestatic 26, 3) := by decide +kernel
theorem d_StringLatin1_inflate_0 : decode prog_25_method_50_code 0 = .ok (.aload_n 0, 1) := by decide +kernel
theorem d_StringLatin1_inflate_1 : decode prog_25_method_50_code 1 = .ok (.iload_n 1, 1) := by decide +kernel
theorem d_StringLatin1_inflate_2 : decode prog_25_method_50_code 2 = .ok (.aload_n 2, 1) := by decide +kernel
theorem d_StringLatin1_inflate_3 : decode prog_25_method_50_code 3 = .ok (.iload_n 3, 1) := by decide +kernel
theorem d_StringLatin1_inflate_4 : decode prog_25_method_50_code 4 = .ok (.iload 4, 2) := by decide +kernel
theorem d_StringLatin1_inflate_6 : decode prog_25_method_50_code 6 = .ok (.invokestatic 240, 3) := by decide +kernel
theorem d_StringUTF16_inflate_0 : decode prog_26_method_86_code 0 = .ok (.iload_n 3, 1) := by decide +kernel
theorem d_StringUTF16_inflate_1 : decode prog_26_method_86_code 1 = .ok (.iload 4, 2) := by decide +kernel
theorem d_StringUTF16_inflate_3 : decode prog_26_method_86_code 3 = .ok (.aload_n 2, 1) := by decide +kernel
theorem d_StringUTF16_inflate_4 : decode prog_26_method_86_code 4 = .ok (.invokestatic 173, 3) := by decide +kernel
theorem d_StringUTF16_checkBoundsOffCount_0 : decode prog_26_method_94_code 0 = .ok (.iload_n 0, 1) := by decide +kernel
theorem d_StringUTF16_checkBoundsOffCount_1 : decode prog_26_method_94_code 1 = .ok (.iload_n 1, 1) := by decide +kernel
theorem d_StringUTF16_checkBoundsOffCount_2 : decode prog_26_method_94_code 2 = .ok (.aload_n 2, 1) := by decide +kernel
theorem d_StringUTF16_checkBoundsOffCount_3 : decode prog_26_method_94_code 3 = .ok (.invokestatic 48, 3) := by decide +kernel
theorem d_StringUTF16_length_0 : decode prog_26_method_6_code 0 = .ok (.aload_n 0, 1) := by decide +kernel
theorem d_StringUTF16_length_1 : decode prog_26_method_6_code 1 = .ok (.arraylength, 1) := by decide +kernel
theorem d_StringUTF16_length_2 : decode prog_26_method_6_code 2 = .ok (.iconst 1, 1) := by decide +kernel
theorem d_StringUTF16_length_3 : decode prog_26_method_6_code 3 = .ok (.ishr, 1) := by decide +kernel
theorem d_StringUTF16_length_4 : decode prog_26_method_6_code 4 = .ok (.ireturn, 1) := by decide +kernel
theorem d_String_checkBoundsOffCount_0 : decode prog_23_method_157_code 0 = .ok (.iload_n 0, 1) := by decide +kernel
theorem d_String_checkBoundsOffCount_1 : decode prog_23_method_157_code 1 = .ok (.iload_n 1, 1) := by decide +kernel
theorem d_String_checkBoundsOffCount_2 : decode prog_23_method_157_code 2 = .ok (.iload_n 2, 1) := by decide +kernel
theorem d_String_checkBoundsOffCount_3 : decode prog_23_method_157_code 3 = .ok (.getstatic 1053, 3) := by decide +kernel
theorem d_String_checkBoundsOffCount_6 : decode prog_23_method_157_code 6 = .ok (.invokestatic 1065, 3) := by decide +kernel
theorem d_Preconditions_checkFromIndexSize_0 : decode prog_39_method_13_code 0 = .ok (.iload_n 2, 1) := by decide +kernel
theorem d_Preconditions_checkFromIndexSize_1 : decode prog_39_method_13_code 1 = .ok (.iload_n 0, 1) := by decide +kernel
theorem d_Preconditions_checkFromIndexSize_2 : decode prog_39_method_13_code 2 = .ok (.ior, 1) := by decide +kernel
theorem d_Preconditions_checkFromIndexSize_3 : decode prog_39_method_13_code 3 = .ok (.iload_n 1, 1) := by decide +kernel
theorem d_Preconditions_checkFromIndexSize_4 : decode prog_39_method_13_code 4 = .ok (.ior, 1) := by decide +kernel
theorem d_Preconditions_checkFromIndexSize_5 : decode prog_39_method_13_code 5 = .ok (.ifCond .lt 10, 3) := by decide +kernel
theorem d_Preconditions_checkFromIndexSize_8 : decode prog_39_method_13_code 8 = .ok (.iload_n 1, 1) := by decide +kernel
theorem d_Preconditions_checkFromIndexSize_9 : decode prog_39_method_13_code 9 = .ok (.iload_n 2, 1) := by decide +kernel
theorem d_Preconditions_checkFromIndexSize_10 : decode prog_39_method_13_code 10 = .ok (.iload_n 0, 1) := by decide +kernel
theorem d_Preconditions_checkFromIndexSize_11 : decode prog_39_method_13_code 11 = .ok (.isub, 1) := by decide +kernel
theorem d_Preconditions_checkFromIndexSize_12 : decode prog_39_method_13_code 12 = .ok (.if_icmp .le 11, 3) := by decide +kernel
theorem d_Preconditions_checkFromIndexSize_23 : decode prog_39_method_13_code 23 = .ok (.iload_n 0, 1) := by decide +kernel
theorem d_Preconditions_checkFromIndexSize_24 : decode prog_39_method_13_code 24 = .ok (.ireturn, 1) := by decide +kernel
theorem d_Preconditions_checkFromIndexSize_15 : decode prog_39_method_13_code 15 = .ok (.aload_n 3, 1) := by decide +kernel
theorem d_Preconditions_checkFromIndexSize_16 : decode prog_39_method_13_code 16 = .ok (.iload_n 0, 1) := by decide +kernel
theorem d_Preconditions_checkFromIndexSize_17 : decode prog_39_method_13_code 17 = .ok (.iload_n 1, 1) := by decide +kernel
theorem d_Preconditions_checkFromIndexSize_18 : decode prog_39_method_13_code 18 = .ok (.iload_n 2, 1) := by decide +kernel
theorem d_StringUTF16_putChar_0 : decode prog_26_method_4_code 0 = .ok (.getstatic 44, 3) := by decide +kernel
theorem d_StringUTF16_putChar_3 : decode prog_26_method_4_code 3 = .ok (.ifCond .ne 25, 3) := by decide +kernel
theorem d_StringUTF16_putChar_28 : decode prog_26_method_4_code 28 = .ok (.iload_n 1, 1) := by decide +kernel
theorem d_StringUTF16_putChar_29 : decode prog_26_method_4_code 29 = .ok (.iconst 1, 1) := by decide +kernel
theorem d_StringUTF16_putChar_30 : decode prog_26_method_4_code 30 = .ok (.ishl, 1) := by decide +kernel
theorem d_StringUTF16_putChar_31 : decode prog_26_method_4_code 31 = .ok (.istore_n 1, 1) := by decide +kernel
theorem d_StringUTF16_putChar_32 : decode prog_26_method_4_code 32 = .ok (.aload_n 0, 1) := by decide +kernel
theorem d_StringUTF16_putChar_33 : decode prog_26_method_4_code 33 = .ok (.iload_n 1, 1) := by decide +kernel
theorem d_StringUTF16_putChar_34 : decode prog_26_method_4_code 34 = .ok (.iinc 1 1, 3) := by decide +kernel
theorem d_StringUTF16_putChar_37 : decode prog_26_method_4_code 37 = .ok (.iload_n 2, 1) := by decide +kernel
theorem d_StringUTF16_putChar_38 : decode prog_26_method_4_code 38 = .ok (.getstatic 59, 3) := by decide +kernel
theorem d_StringUTF16_putChar_41 : decode prog_26_method_4_code 41 = .ok (.ishr, 1) := by decide +kernel
theorem d_StringUTF16_putChar_42 : decode prog_26_method_4_code 42 = .ok (.i2b, 1) := by decide +kernel
theorem d_StringUTF16_putChar_43 : decode prog_26_method_4_code 43 = .ok (.bastore, 1) := by decide +kernel
theorem d_StringUTF16_putChar_44 : decode prog_26_method_4_code 44 = .ok (.aload_n 0, 1) := by decide +kernel
theorem d_StringUTF16_putChar_45 : decode prog_26_method_4_code 45 = .ok (.iload_n 1, 1) := by decide +kernel
theorem d_StringUTF16_putChar_46 : decode prog_26_method_4_code 46 = .ok (.iload_n 2, 1) := by decide +kernel
theorem d_StringUTF16_putChar_47 : decode prog_26_method_4_code 47 = .ok (.getstatic 63, 3) := by decide +kernel
theorem d_StringUTF16_putChar_50 : decode prog_26_method_4_code 50 = .ok (.ishr, 1) := by decide +kernel
theorem d_StringUTF16_putChar_51 : decode prog_26_method_4_code 51 = .ok (.i2b, 1) := by decide +kernel
theorem d_StringUTF16_putChar_52 : decode prog_26_method_4_code 52 = .ok (.bastore, 1) := by decide +kernel
theorem d_StringUTF16_putChar_53 : decode prog_26_method_4_code 53 = .ok (.return_, 1) := by decide +kernel
theorem d_StringUTF16_putCharSB_0 : decode prog_26_method_71_code 0 = .ok (.iload_n 1, 1) := by decide +kernel
theorem d_StringUTF16_putCharSB_1 : decode prog_26_method_71_code 1 = .ok (.aload_n 0, 1) := by decide +kernel
theorem d_StringUTF16_putCharSB_2 : decode prog_26_method_71_code 2 = .ok (.invokestatic 67, 3) := by decide +kernel
theorem d_StringUTF16_checkIndex_0 : decode prog_26_method_91_code 0 = .ok (.iload_n 0, 1) := by decide +kernel
theorem d_StringUTF16_checkIndex_1 : decode prog_26_method_91_code 1 = .ok (.aload_n 1, 1) := by decide +kernel
theorem d_StringUTF16_checkIndex_2 : decode prog_26_method_91_code 2 = .ok (.invokestatic 48, 3) := by decide +kernel
theorem d_StringUTF16_checkIndex_5 : decode prog_26_method_91_code 5 = .ok (.invokestatic 414, 3) := by decide +kernel
theorem d_String_checkIndex_0 : decode prog_23_method_155_code 0 = .ok (.iload_n 0, 1) := by decide +kernel
theorem d_String_checkIndex_1 : decode prog_23_method_155_code 1 = .ok (.iload_n 1, 1) := by decide +kernel
theorem d_String_checkIndex_2 : decode prog_23_method_155_code 2 = .ok (.getstatic 1053, 3) := by decide +kernel
theorem d_String_checkIndex_5 : decode prog_23_method_155_code 5 = .ok (.invokestatic 1059, 3) := by decide +kernel
theorem d_String_checkIndex_8 : decode prog_23_method_155_code 8 = .ok (.pop, 1) := by decide +kernel
theorem d_String_checkIndex_9 : decode prog_23_method_155_code 9 = .ok (.return_, 1) := by decide +kernel
theorem d_Math_abs_0 : decode prog_21_method_61_code 0 = .ok (.lload_n 0, 1) := by decide +kernel
theorem d_Math_abs_1 : decode prog_21_method_61_code 1 = .ok (.lconst 0, 1) := by decide +kernel
theorem d_Math_abs_2 : decode prog_21_method_61_code 2 = .ok (.lcmp, 1) := by decide +kernel
theorem d_Math_abs_3 : decode prog_21_method_61_code 3 = .ok (.ifCond .ge 8, 3) := by decide +kernel
theorem d_Math_abs_11 : decode prog_21_method_61_code 11 = .ok (.lload_n 0, 1) := by decide +kernel
theorem d_Math_abs_6 : decode prog_21_method_61_code 6 = .ok (.lload_n 0, 1) := by decide +kernel
theorem d_Math_abs_7 : decode prog_21_method_61_code 7 = .ok (.lneg, 1) := by decide +kernel
theorem d_Math_abs_8 : decode prog_21_method_61_code 8 = .ok (.goto 4, 3) := by decide +kernel
theorem d_Math_abs_12 : decode prog_21_method_61_code 12 = .ok (.lreturn, 1) := by decide +kernel
theorem d_ListText_digit_0 : decode prog_8_method_6_code 0 = .ok (.ldc2_w 83, 3) := by decide +kernel
theorem d_ListText_digit_3 : decode prog_8_method_6_code 3 = .ok (.lload_n 0, 1) := by decide +kernel
theorem d_ListText_digit_4 : decode prog_8_method_6_code 4 = .ok (.ldc2_w 71, 3) := by decide +kernel
theorem d_ListText_digit_7 : decode prog_8_method_6_code 7 = .ok (.lrem, 1) := by decide +kernel
theorem d_ListText_digit_8 : decode prog_8_method_6_code 8 = .ok (.ladd, 1) := by decide +kernel
theorem d_ListText_digit_9 : decode prog_8_method_6_code 9 = .ok (.l2i, 1) := by decide +kernel
theorem d_ListText_digit_10 : decode prog_8_method_6_code 10 = .ok (.i2c, 1) := by decide +kernel
theorem d_ListText_digit_11 : decode prog_8_method_6_code 11 = .ok (.ireturn, 1) := by decide +kernel
theorem d_StringBuilder_append2_0 : decode prog_24_method_7_code 0 = .ok (.aload_n 0, 1) := by decide +kernel
theorem d_StringBuilder_append2_1 : decode prog_24_method_7_code 1 = .ok (.aload_n 1, 1) := by decide +kernel
theorem d_StringBuilder_append2_2 : decode prog_24_method_7_code 2 = .ok (.invokespecial 29, 3) := by decide +kernel
theorem d_AbstractStringBuilder_append2_0 : decode prog_16_method_22_code 0 = .ok (.aload_n 1, 1) := by decide +kernel
theorem d_AbstractStringBuilder_append2_1 : decode prog_16_method_22_code 1 = .ok (.ifnonnull 8, 3) := by decide +kernel
theorem d_AbstractStringBuilder_append2_4 : decode prog_16_method_22_code 4 = .ok (.aload_n 0, 1) := by decide +kernel
theorem d_AbstractStringBuilder_append2_5 : decode prog_16_method_22_code 5 = .ok (.invokevirtual 204, 3) := by decide +kernel
theorem d_AbstractStringBuilder_appendNull_0 : decode prog_16_method_26_code 0 = .ok (.aload_n 0, 1) := by decide +kernel
theorem d_AbstractStringBuilder_appendNull_1 : decode prog_16_method_26_code 1 = .ok (.aload_n 0, 1) := by decide +kernel
theorem d_AbstractStringBuilder_appendNull_2 : decode prog_16_method_26_code 2 = .ok (.getfield 79, 3) := by decide +kernel
theorem d_AbstractStringBuilder_appendNull_5 : decode prog_16_method_26_code 5 = .ok (.iconst 4, 1) := by decide +kernel
theorem d_AbstractStringBuilder_appendNull_6 : decode prog_16_method_26_code 6 = .ok (.iadd, 1) := by decide +kernel
theorem d_AbstractStringBuilder_appendNull_7 : decode prog_16_method_26_code 7 = .ok (.invokevirtual 100, 3) := by decide +kernel
theorem d_StringUTF16_putCharsAt_0 : decode prog_26_method_81_code 0 = .ok (.iload_n 1, 1) := by decide +kernel
theorem d_StringUTF16_putCharsAt_1 : decode prog_26_method_81_code 1 = .ok (.iconst 4, 1) := by decide +kernel
theorem d_StringUTF16_putCharsAt_2 : decode prog_26_method_81_code 2 = .ok (.iadd, 1) := by decide +kernel
theorem d_StringUTF16_putCharsAt_3 : decode prog_26_method_81_code 3 = .ok (.istore 6, 2) := by decide +kernel
theorem d_StringUTF16_putCharsAt_5 : decode prog_26_method_81_code 5 = .ok (.iload_n 1, 1) := by decide +kernel
theorem d_StringUTF16_putCharsAt_6 : decode prog_26_method_81_code 6 = .ok (.iload 6, 2) := by decide +kernel
theorem d_StringUTF16_putCharsAt_8 : decode prog_26_method_81_code 8 = .ok (.aload_n 0, 1) := by decide +kernel
theorem d_StringUTF16_putCharsAt_9 : decode prog_26_method_81_code 9 = .ok (.invokestatic 96, 3) := by decide +kernel
theorem d_StringUTF16_checkBoundsBeginEnd_0 : decode prog_26_method_93_code 0 = .ok (.iload_n 0, 1) := by decide +kernel
theorem d_StringUTF16_checkBoundsBeginEnd_1 : decode prog_26_method_93_code 1 = .ok (.iload_n 1, 1) := by decide +kernel
theorem d_StringUTF16_checkBoundsBeginEnd_2 : decode prog_26_method_93_code 2 = .ok (.aload_n 2, 1) := by decide +kernel
theorem d_StringUTF16_checkBoundsBeginEnd_3 : decode prog_26_method_93_code 3 = .ok (.invokestatic 48, 3) := by decide +kernel
theorem d_StringUTF16_checkBoundsBeginEnd_6 : decode prog_26_method_93_code 6 = .ok (.invokestatic 241, 3) := by decide +kernel
theorem d_String_checkBoundsBeginEnd_0 : decode prog_23_method_158_code 0 = .ok (.iload_n 0, 1) := by decide +kernel
theorem d_String_checkBoundsBeginEnd_1 : decode prog_23_method_158_code 1 = .ok (.iload_n 1, 1) := by decide +kernel
theorem d_String_checkBoundsBeginEnd_2 : decode prog_23_method_158_code 2 = .ok (.iload_n 2, 1) := by decide +kernel
theorem d_String_checkBoundsBeginEnd_3 : decode prog_23_method_158_code 3 = .ok (.getstatic 1053, 3) := by decide +kernel
theorem d_String_checkBoundsBeginEnd_6 : decode prog_23_method_158_code 6 = .ok (.invokestatic 1062, 3) := by decide +kernel
theorem d_Preconditions_checkFromToIndex_0 : decode prog_39_method_12_code 0 = .ok (.iload_n 0, 1) := by decide +kernel
theorem d_Preconditions_checkFromToIndex_1 : decode prog_39_method_12_code 1 = .ok (.ifCond .lt 13, 3) := by decide +kernel
theorem d_Preconditions_checkFromToIndex_4 : decode prog_39_method_12_code 4 = .ok (.iload_n 0, 1) := by decide +kernel
theorem d_Preconditions_checkFromToIndex_5 : decode prog_39_method_12_code 5 = .ok (.iload_n 1, 1) := by decide +kernel
theorem d_Preconditions_checkFromToIndex_6 : decode prog_39_method_12_code 6 = .ok (.if_icmp .gt 8, 3) := by decide +kernel
theorem d_Preconditions_checkFromToIndex_9 : decode prog_39_method_12_code 9 = .ok (.iload_n 1, 1) := by decide +kernel
theorem d_Preconditions_checkFromToIndex_10 : decode prog_39_method_12_code 10 = .ok (.iload_n 2, 1) := by decide +kernel
theorem d_Preconditions_checkFromToIndex_11 : decode prog_39_method_12_code 11 = .ok (.if_icmp .le 11, 3) := by decide +kernel
theorem d_Preconditions_checkFromToIndex_22 : decode prog_39_method_12_code 22 = .ok (.iload_n 0, 1) := by decide +kernel
theorem d_Preconditions_checkFromToIndex_23 : decode prog_39_method_12_code 23 = .ok (.ireturn, 1) := by decide +kernel
theorem d_Preconditions_checkFromToIndex_14 : decode prog_39_method_12_code 14 = .ok (.aload_n 3, 1) := by decide +kernel
theorem d_Preconditions_checkFromToIndex_15 : decode prog_39_method_12_code 15 = .ok (.iload_n 0, 1) := by decide +kernel
theorem d_Preconditions_checkFromToIndex_16 : decode prog_39_method_12_code 16 = .ok (.iload_n 1, 1) := by decide +kernel
theorem d_Preconditions_checkFromToIndex_17 : decode prog_39_method_12_code 17 = .ok (.iload_n 2, 1) := by decide +kernel
theorem d_String_length_0 : decode prog_23_method_54_code 0 = .ok (.aload_n 0, 1) := by decide +kernel
theorem d_String_length_1 : decode prog_23_method_54_code 1 = .ok (.getfield 9, 3) := by decide +kernel
theorem d_String_length_4 : decode prog_23_method_54_code 4 = .ok (.arraylength, 1) := by decide +kernel
theorem d_String_length_5 : decode prog_23_method_54_code 5 = .ok (.aload_n 0, 1) := by decide +kernel
theorem d_String_length_6 : decode prog_23_method_54_code 6 = .ok (.invokevirtual 335, 3) := by decide +kernel
theorem d_String_coder_0 : decode prog_23_method_152_code 0 = .ok (.getstatic 38, 3) := by decide +kernel
theorem d_String_coder_3 : decode prog_23_method_152_code 3 = .ok (.ifCond .eq 10, 3) := by decide +kernel
theorem d_String_coder_6 : decode prog_23_method_152_code 6 = .ok (.aload_n 0, 1) := by decide +kernel
theorem d_String_coder_7 : decode prog_23_method_152_code 7 = .ok (.getfield 15, 3) := by decide +kernel
theorem d_String_coder_10 : decode prog_23_method_152_code 10 = .ok (.goto 4, 3) := by decide +kernel
theorem d_String_coder_14 : decode prog_23_method_152_code 14 = .ok (.ireturn, 1) := by decide +kernel
theorem d_AbstractStringBuilder_putStringAt_0 : decode prog_16_method_73_code 0 = .ok (.aload_n 0, 1) := by decide +kernel
theorem d_AbstractStringBuilder_putStringAt_1 : decode prog_16_method_73_code 1 = .ok (.aload_n 2, 1) := by decide +kernel
theorem d_AbstractStringBuilder_putStringAt_2 : decode prog_16_method_73_code 2 = .ok (.invokevirtual 397, 3) := by decide +kernel
theorem d_AbstractStringBuilder_inflateIfNeededFor_0 : decode prog_16_method_71_code 0 = .ok (.getstatic 18, 3) := by decide +kernel
theorem d_AbstractStringBuilder_inflateIfNeededFor_3 : decode prog_16_method_71_code 3 = .ok (.ifCond .eq 18, 3) := by decide +kernel
theorem d_AbstractStringBuilder_inflateIfNeededFor_6 : decode prog_16_method_71_code 6 = .ok (.aload_n 0, 1) := by decide +kernel
theorem d_AbstractStringBuilder_inflateIfNeededFor_7 : decode prog_16_method_71_code 7 = .ok (.getfield 22, 3) := by decide +kernel
theorem d_AbstractStringBuilder_inflateIfNeededFor_10 : decode prog_16_method_71_code 10 = .ok (.aload_n 1, 1) := by decide +kernel
theorem d_AbstractStringBuilder_inflateIfNeededFor_11 : decode prog_16_method_71_code 11 = .ok (.invokevirtual 40, 3) := by decide +kernel
theorem d_AbstractStringBuilder_inflateIfNeededFor_14 : decode prog_16_method_71_code 14 = .ok (.if_icmp .eq 7, 3) := by decide +kernel
theorem d_AbstractStringBuilder_inflateIfNeededFor_17 : decode prog_16_method_71_code 17 = .ok (.aload_n 0, 1) := by decide +kernel
theorem d_AbstractStringBuilder_inflateIfNeededFor_18 : decode prog_16_method_71_code 18 = .ok (.invokevirtual 195, 3) := by decide +kernel
theorem d_String_getBytes_0 : decode prog_23_method_147_code 0 = .ok (.aload_n 0, 1) := by decide +kernel
theorem d_String_getBytes_1 : decode prog_23_method_147_code 1 = .ok (.invokevirtual 335, 3) := by decide +kernel
theorem d_String_getBytes_4 : decode prog_23_method_147_code 4 = .ok (.iload_n 3, 1) := by decide +kernel
theorem d_String_getBytes_5 : decode prog_23_method_147_code 5 = .ok (.if_icmp .ne 23, 3) := by decide +kernel
theorem d_String_getBytes_28 : decode prog_23_method_147_code 28 = .ok (.aload_n 0, 1) := by decide +kernel
theorem d_String_getBytes_29 : decode prog_23_method_147_code 29 = .ok (.getfield 9, 3) := by decide +kernel
theorem d_String_getBytes_32 : decode prog_23_method_147_code 32 = .ok (.iconst 0, 1) := by decide +kernel
theorem d_String_getBytes_33 : decode prog_23_method_147_code 33 = .ok (.aload_n 1, 1) := by decide +kernel
theorem d_String_getBytes_34 : decode prog_23_method_147_code 34 = .ok (.iload_n 2, 1) := by decide +kernel
theorem d_String_getBytes_35 : decode prog_23_method_147_code 35 = .ok (.aload_n 0, 1) := by decide +kernel
theorem d_String_getBytes_36 : decode prog_23_method_147_code 36 = .ok (.getfield 9, 3) := by decide +kernel
theorem d_String_getBytes_39 : decode prog_23_method_147_code 39 = .ok (.arraylength, 1) := by decide +kernel
theorem d_String_getBytes_40 : decode prog_23_method_147_code 40 = .ok (.invokestatic 106, 3) := by decide +kernel
theorem d_SeriesBook_fieldOf_0 : decode prog_11_method_12_code 0 = .ok (.aload_n 0, 1) := by decide +kernel
theorem d_SeriesBook_fieldOf_1 : decode prog_11_method_12_code 1 = .ok (.iload_n 1, 1) := by decide +kernel
theorem d_SeriesBook_fieldOf_2 : decode prog_11_method_12_code 2 = .ok (.invokevirtual 74, 3) := by decide +kernel
theorem d_ListText_addAmount_0 : decode prog_8_method_4_code 0 = .ok (.aload_n 0, 1) := by decide +kernel
theorem d_ListText_addAmount_1 : decode prog_8_method_4_code 1 = .ok (.lload_n 1, 1) := by decide +kernel
theorem d_ListText_addAmount_2 : decode prog_8_method_4_code 2 = .ok (.ldc2_w 69, 3) := by decide +kernel
theorem d_ListText_addAmount_5 : decode prog_8_method_4_code 5 = .ok (.ldiv, 1) := by decide +kernel
theorem d_ListText_addAmount_6 : decode prog_8_method_4_code 6 = .ok (.invokevirtual 56, 3) := by decide +kernel
theorem d_StringBuilder_toString_0 : decode prog_24_method_42_code 0 = .ok (.new 18, 3) := by decide +kernel
theorem d_StringBuilder_toString_3 : decode prog_24_method_42_code 3 = .ok (.dup, 1) := by decide +kernel
theorem d_StringBuilder_toString_4 : decode prog_24_method_42_code 4 = .ok (.aload_n 0, 1) := by decide +kernel
theorem d_StringBuilder_toString_5 : decode prog_24_method_42_code 5 = .ok (.invokespecial 137, 3) := by decide +kernel
theorem d_String_init_0 : decode prog_23_method_53_code 0 = .ok (.aload_n 0, 1) := by decide +kernel
theorem d_String_init_1 : decode prog_23_method_53_code 1 = .ok (.aload_n 1, 1) := by decide +kernel
theorem d_String_init_2 : decode prog_23_method_53_code 2 = .ok (.aconst_null, 1) := by decide +kernel
theorem d_String_init_3 : decode prog_23_method_53_code 3 = .ok (.invokespecial 489, 3) := by decide +kernel
theorem d_String_init2_0 : decode prog_23_method_150_code 0 = .ok (.aload_n 0, 1) := by decide +kernel
theorem d_String_init2_1 : decode prog_23_method_150_code 1 = .ok (.invokespecial 1, 3) := by decide +kernel
theorem d_String_init2_4 : decode prog_23_method_150_code 4 = .ok (.aload_n 1, 1) := by decide +kernel
theorem d_String_init2_5 : decode prog_23_method_150_code 5 = .ok (.invokevirtual 552, 3) := by decide +kernel
theorem d_AbstractStringBuilder_getValue_0 : decode prog_16_method_64_code 0 = .ok (.aload_n 0, 1) := by decide +kernel
theorem d_AbstractStringBuilder_getValue_1 : decode prog_16_method_64_code 1 = .ok (.getfield 15, 3) := by decide +kernel
theorem d_AbstractStringBuilder_getValue_4 : decode prog_16_method_64_code 4 = .ok (.areturn, 1) := by decide +kernel
theorem d_StringBuilder_length_0 : decode prog_24_method_93_code 0 = .ok (.aload_n 0, 1) := by decide +kernel
theorem d_StringBuilder_length_1 : decode prog_24_method_93_code 1 = .ok (.invokespecial 343, 3) := by decide +kernel
theorem d_AbstractStringBuilder_length_0 : decode prog_16_method_6_code 0 = .ok (.aload_n 0, 1) := by decide +kernel
theorem d_AbstractStringBuilder_length_1 : decode prog_16_method_6_code 1 = .ok (.getfield 79, 3) := by decide +kernel
theorem d_AbstractStringBuilder_length_4 : decode prog_16_method_6_code 4 = .ok (.ireturn, 1) := by decide +kernel
theorem d_Arrays_copyOfRange_0 : decode prog_32_method_132_code 0 = .ok (.iload_n 1, 1) := by decide +kernel
theorem d_Arrays_copyOfRange_1 : decode prog_32_method_132_code 1 = .ok (.ifCond .ne 9, 3) := by decide +kernel
theorem d_Arrays_copyOfRange_4 : decode prog_32_method_132_code 4 = .ok (.iload_n 2, 1) := by decide +kernel
theorem d_Arrays_copyOfRange_5 : decode prog_32_method_132_code 5 = .ok (.aload_n 0, 1) := by decide +kernel
theorem d_Arrays_copyOfRange_6 : decode prog_32_method_132_code 6 = .ok (.arraylength, 1) := by decide +kernel
theorem d_Arrays_copyOfRange_7 : decode prog_32_method_132_code 7 = .ok (.if_icmp .eq 10, 3) := by decide +kernel
theorem d_Arrays_copyOfRange_17 : decode prog_32_method_132_code 17 = .ok (.aload_n 0, 1) := by decide +kernel
theorem d_Arrays_copyOfRange_10 : decode prog_32_method_132_code 10 = .ok (.aload_n 0, 1) := by decide +kernel
theorem d_Arrays_copyOfRange_11 : decode prog_32_method_132_code 11 = .ok (.iload_n 1, 1) := by decide +kernel
theorem d_Arrays_copyOfRange_12 : decode prog_32_method_132_code 12 = .ok (.iload_n 2, 1) := by decide +kernel
theorem d_Arrays_copyOfRange_13 : decode prog_32_method_132_code 13 = .ok (.invokestatic 339, 3) := by decide +kernel
theorem d_Arrays_copyOfRangeByte_0 : decode prog_32_method_133_code 0 = .ok (.iload_n 1, 1) := by decide +kernel
theorem d_Arrays_copyOfRangeByte_1 : decode prog_32_method_133_code 1 = .ok (.iload_n 2, 1) := by decide +kernel
theorem d_Arrays_copyOfRangeByte_2 : decode prog_32_method_133_code 2 = .ok (.invokestatic 343, 3) := by decide +kernel
theorem d_Arrays_checkLength_0 : decode prog_32_method_131_code 0 = .ok (.iload_n 1, 1) := by decide +kernel
theorem d_Arrays_checkLength_1 : decode prog_32_method_131_code 1 = .ok (.iload_n 0, 1) := by decide +kernel
theorem d_Arrays_checkLength_2 : decode prog_32_method_131_code 2 = .ok (.if_icmp .ge 35, 3) := by decide +kernel
theorem d_Arrays_checkLength_37 : decode prog_32_method_131_code 37 = .ok (.return_, 1) := by decide +kernel
theorem d_StringUTF16_compress_0 : decode prog_26_method_17_code 0 = .ok (.iload_n 2, 1) := by decide +kernel
theorem d_StringUTF16_compress_1 : decode prog_26_method_17_code 1 = .ok (.newarray .byte, 2) := by decide +kernel
theorem d_StringUTF16_compress_3 : decode prog_26_method_17_code 3 = .ok (.astore_n 3, 1) := by decide +kernel
theorem d_StringUTF16_compress_4 : decode prog_26_method_17_code 4 = .ok (.aload_n 0, 1) := by decide +kernel
theorem d_StringUTF16_compress_5 : decode prog_26_method_17_code 5 = .ok (.iload_n 1, 1) := by decide +kernel
theorem d_StringUTF16_compress_6 : decode prog_26_method_17_code 6 = .ok (.aload_n 3, 1) := by decide +kernel
theorem d_StringUTF16_compress_7 : decode prog_26_method_17_code 7 = .ok (.iconst 0, 1) := by decide +kernel
theorem d_StringUTF16_compress_8 : decode prog_26_method_17_code 8 = .ok (.iload_n 2, 1) := by decide +kernel
theorem d_StringUTF16_compress_9 : decode prog_26_method_17_code 9 = .ok (.invokestatic 123, 3) := by decide +kernel
theorem d_StringUTF16_compress2_0 : decode prog_26_method_22_code 0 = .ok (.iload_n 1, 1) := by decide +kernel
theorem d_StringUTF16_compress2_1 : decode prog_26_method_22_code 1 = .ok (.iload 4, 2) := by decide +kernel
theorem d_StringUTF16_compress2_3 : decode prog_26_method_22_code 3 = .ok (.aload_n 0, 1) := by decide +kernel
theorem d_StringUTF16_compress2_4 : decode prog_26_method_22_code 4 = .ok (.invokestatic 173, 3) := by decide +kernel
theorem d_StringUTF16_getChar_0 : decode prog_26_method_5_code 0 = .ok (.getstatic 44, 3) := by decide +kernel
theorem d_StringUTF16_getChar_3 : decode prog_26_method_5_code 3 = .ok (.ifCond .ne 25, 3) := by decide +kernel
theorem d_StringUTF16_getChar_28 : decode prog_26_method_5_code 28 = .ok (.iload_n 1, 1) := by decide +kernel
theorem d_StringUTF16_getChar_29 : decode prog_26_method_5_code 29 = .ok (.iconst 1, 1) := by decide +kernel
theorem d_StringUTF16_getChar_30 : decode prog_26_method_5_code 30 = .ok (.ishl, 1) := by decide +kernel
theorem d_StringUTF16_getChar_31 : decode prog_26_method_5_code 31 = .ok (.istore_n 1, 1) := by decide +kernel
theorem d_StringUTF16_getChar_32 : decode prog_26_method_5_code 32 = .ok (.aload_n 0, 1) := by decide +kernel
theorem d_StringUTF16_getChar_33 : decode prog_26_method_5_code 33 = .ok (.iload_n 1, 1) := by decide +kernel
theorem d_StringUTF16_getChar_34 : decode prog_26_method_5_code 34 = .ok (.iinc 1 1, 3) := by decide +kernel
theorem d_StringUTF16_getChar_37 : decode prog_26_method_5_code 37 = .ok (.baload, 1) := by decide +kernel
theorem d_StringUTF16_getChar_38 : decode prog_26_method_5_code 38 = .ok (.sipush 255, 3) := by decide +kernel
theorem d_StringUTF16_getChar_41 : decode prog_26_method_5_code 41 = .ok (.iand, 1) := by decide +kernel
theorem d_StringUTF16_getChar_42 : decode prog_26_method_5_code 42 = .ok (.getstatic 59, 3) := by decide +kernel
theorem d_StringUTF16_getChar_45 : decode prog_26_method_5_code 45 = .ok (.ishl, 1) := by decide +kernel
theorem d_StringUTF16_getChar_46 : decode prog_26_method_5_code 46 = .ok (.aload_n 0, 1) := by decide +kernel
theorem d_StringUTF16_getChar_47 : decode prog_26_method_5_code 47 = .ok (.iload_n 1, 1) := by decide +kernel
theorem d_StringUTF16_getChar_48 : decode prog_26_method_5_code 48 = .ok (.baload, 1) := by decide +kernel
theorem d_StringUTF16_getChar_49 : decode prog_26_method_5_code 49 = .ok (.sipush 255, 3) := by decide +kernel
theorem d_StringUTF16_getChar_52 : decode prog_26_method_5_code 52 = .ok (.iand, 1) := by decide +kernel
theorem d_StringUTF16_getChar_53 : decode prog_26_method_5_code 53 = .ok (.getstatic 63, 3) := by decide +kernel
theorem d_StringUTF16_getChar_56 : decode prog_26_method_5_code 56 = .ok (.ishl, 1) := by decide +kernel
theorem d_StringUTF16_getChar_57 : decode prog_26_method_5_code 57 = .ok (.ior, 1) := by decide +kernel
theorem d_StringUTF16_getChar_58 : decode prog_26_method_5_code 58 = .ok (.i2c, 1) := by decide +kernel
theorem d_StringUTF16_getChar_59 : decode prog_26_method_5_code 59 = .ok (.ireturn, 1) := by decide +kernel
theorem d_StringUTF16_coderFromArrayLen_0 : decode prog_26_method_15_code 0 = .ok (.iload_n 1, 1) := by decide +kernel
theorem d_StringUTF16_coderFromArrayLen_1 : decode prog_26_method_15_code 1 = .ok (.aload_n 0, 1) := by decide +kernel
theorem d_StringUTF16_coderFromArrayLen_2 : decode prog_26_method_15_code 2 = .ok (.arraylength, 1) := by decide +kernel
theorem d_StringUTF16_coderFromArrayLen_3 : decode prog_26_method_15_code 3 = .ok (.isub, 1) := by decide +kernel
theorem d_StringUTF16_coderFromArrayLen_4 : decode prog_26_method_15_code 4 = .ok (.bipush 31, 2) := by decide +kernel
theorem d_StringUTF16_coderFromArrayLen_6 : decode prog_26_method_15_code 6 = .ok (.iushr, 1) := by decide +kernel
theorem d_StringUTF16_coderFromArrayLen_7 : decode prog_26_method_15_code 7 = .ok (.i2b, 1) := by decide +kernel
theorem d_StringUTF16_coderFromArrayLen_8 : decode prog_26_method_15_code 8 = .ok (.ireturn, 1) := by decide +kernel
theorem d_Law_fate_0 : decode method_11_code 0 = .ok (.aload_n 3, 1) := by decide +kernel
theorem d_Law_fate_1 : decode method_11_code 1 = .ok (.iconst 0, 1) := by decide +kernel
theorem d_Law_fate_2 : decode method_11_code 2 = .ok (.aload_n 0, 1) := by decide +kernel
theorem d_Law_fate_3 : decode method_11_code 3 = .ok (.iload_n 1, 1) := by decide +kernel
theorem d_Law_fate_4 : decode method_11_code 4 = .ok (.iload_n 2, 1) := by decide +kernel
theorem d_Law_fate_5 : decode method_11_code 5 = .ok (.invokevirtual 41, 3) := by decide +kernel
theorem d_No_fate_0 : decode prog_1_method_19_code 0 = .ok (.aload_n 0, 1) := by decide +kernel
theorem d_No_fate_1 : decode prog_1_method_19_code 1 = .ok (.getfield 30, 3) := by decide +kernel
theorem d_No_fate_4 : decode prog_1_method_19_code 4 = .ok (.invokestatic 41, 3) := by decide +kernel
theorem d_No_fate_7 : decode prog_1_method_19_code 7 = .ok (.aload_n 0, 1) := by decide +kernel
theorem d_No_fate_8 : decode prog_1_method_19_code 8 = .ok (.getfield 30, 3) := by decide +kernel
theorem d_No_fate_11 : decode prog_1_method_19_code 11 = .ok (.iload_n 1, 1) := by decide +kernel
theorem d_No_fate_12 : decode prog_1_method_19_code 12 = .ok (.invokevirtual 45, 3) := by decide +kernel
theorem d_No_fate_15 : decode prog_1_method_19_code 15 = .ok (.astore_n 3, 1) := by decide +kernel
theorem d_No_fate_16 : decode prog_1_method_19_code 16 = .ok (.aload_n 3, 1) := by decide +kernel
theorem d_No_fate_17 : decode prog_1_method_19_code 17 = .ok (.ifnonnull 7, 3) := by decide +kernel
theorem d_No_fate_20 : decode prog_1_method_19_code 20 = .ok (.iconst 0, 1) := by decide +kernel
theorem d_No_fate_21 : decode prog_1_method_19_code 21 = .ok (.goto 8, 3) := by decide +kernel
theorem d_No_fate_24 : decode prog_1_method_19_code 24 = .ok (.aload_n 3, 1) := by decide +kernel
theorem d_No_fate_25 : decode prog_1_method_19_code 25 = .ok (.iload_n 2, 1) := by decide +kernel
theorem d_No_fate_26 : decode prog_1_method_19_code 26 = .ok (.invokevirtual 182, 3) := by decide +kernel
theorem d_Law_invoiceOf_0 : decode method_12_code 0 = .ok (.aload 4, 2) := by decide +kernel
theorem d_Law_invoiceOf_2 : decode method_12_code 2 = .ok (.iconst 0, 1) := by decide +kernel
theorem d_Law_invoiceOf_3 : decode method_12_code 3 = .ok (.aload_n 0, 1) := by decide +kernel
theorem d_Law_invoiceOf_4 : decode method_12_code 4 = .ok (.iload_n 1, 1) := by decide +kernel
theorem d_Law_invoiceOf_5 : decode method_12_code 5 = .ok (.iload_n 2, 1) := by decide +kernel
theorem d_Law_invoiceOf_6 : decode method_12_code 6 = .ok (.iload_n 3, 1) := by decide +kernel
theorem d_Law_invoiceOf_7 : decode method_12_code 7 = .ok (.invokevirtual 44, 3) := by decide +kernel
theorem d_No_invoiceOf_0 : decode prog_1_method_20_code 0 = .ok (.aload_n 0, 1) := by decide +kernel
theorem d_No_invoiceOf_1 : decode prog_1_method_20_code 1 = .ok (.getfield 30, 3) := by decide +kernel
theorem d_No_invoiceOf_4 : decode prog_1_method_20_code 4 = .ok (.invokestatic 41, 3) := by decide +kernel
theorem d_No_invoiceOf_7 : decode prog_1_method_20_code 7 = .ok (.aload_n 0, 1) := by decide +kernel
theorem d_No_invoiceOf_8 : decode prog_1_method_20_code 8 = .ok (.getfield 30, 3) := by decide +kernel
theorem d_No_invoiceOf_11 : decode prog_1_method_20_code 11 = .ok (.iload_n 1, 1) := by decide +kernel
theorem d_No_invoiceOf_12 : decode prog_1_method_20_code 12 = .ok (.invokevirtual 45, 3) := by decide +kernel
theorem d_No_invoiceOf_15 : decode prog_1_method_20_code 15 = .ok (.astore 4, 2) := by decide +kernel
theorem d_No_invoiceOf_17 : decode prog_1_method_20_code 17 = .ok (.aload 4, 2) := by decide +kernel
theorem d_No_invoiceOf_19 : decode prog_1_method_20_code 19 = .ok (.ifnonnull 9, 3) := by decide +kernel
theorem d_No_invoiceOf_22 : decode prog_1_method_20_code 22 = .ok (.ldc2_w 183, 3) := by decide +kernel
theorem d_No_invoiceOf_25 : decode prog_1_method_20_code 25 = .ok (.goto 10, 3) := by decide +kernel
theorem d_No_invoiceOf_28 : decode prog_1_method_20_code 28 = .ok (.aload 4, 2) := by decide +kernel
theorem d_No_invoiceOf_30 : decode prog_1_method_20_code 30 = .ok (.iload_n 2, 1) := by decide +kernel
theorem d_No_invoiceOf_31 : decode prog_1_method_20_code 31 = .ok (.iload_n 3, 1) := by decide +kernel
theorem d_No_invoiceOf_32 : decode prog_1_method_20_code 32 = .ok (.invokevirtual 185, 3) := by decide +kernel
theorem d_Law_total_0 : decode method_13_code 0 = .ok (.aload_n 3, 1) := by decide +kernel
theorem d_Law_total_1 : decode method_13_code 1 = .ok (.iconst 0, 1) := by decide +kernel
theorem d_Law_total_2 : decode method_13_code 2 = .ok (.aload_n 0, 1) := by decide +kernel
theorem d_Law_total_3 : decode method_13_code 3 = .ok (.iload_n 1, 1) := by decide +kernel
theorem d_Law_total_4 : decode method_13_code 4 = .ok (.iload_n 2, 1) := by decide +kernel
theorem d_Law_total_5 : decode method_13_code 5 = .ok (.invokevirtual 48, 3) := by decide +kernel
theorem d_No_total_0 : decode prog_1_method_21_code 0 = .ok (.aload_n 0, 1) := by decide +kernel
theorem d_No_total_1 : decode prog_1_method_21_code 1 = .ok (.getfield 30, 3) := by decide +kernel
theorem d_No_total_4 : decode prog_1_method_21_code 4 = .ok (.invokestatic 41, 3) := by decide +kernel
theorem d_No_total_7 : decode prog_1_method_21_code 7 = .ok (.aload_n 0, 1) := by decide +kernel
theorem d_No_total_8 : decode prog_1_method_21_code 8 = .ok (.getfield 30, 3) := by decide +kernel
theorem d_No_total_11 : decode prog_1_method_21_code 11 = .ok (.iload_n 1, 1) := by decide +kernel
theorem d_No_total_12 : decode prog_1_method_21_code 12 = .ok (.invokevirtual 45, 3) := by decide +kernel
theorem d_No_total_15 : decode prog_1_method_21_code 15 = .ok (.astore_n 3, 1) := by decide +kernel
theorem d_No_total_16 : decode prog_1_method_21_code 16 = .ok (.aload_n 3, 1) := by decide +kernel
theorem d_No_total_17 : decode prog_1_method_21_code 17 = .ok (.ifnonnull 7, 3) := by decide +kernel
theorem d_No_total_20 : decode prog_1_method_21_code 20 = .ok (.lconst 0, 1) := by decide +kernel
theorem d_No_total_21 : decode prog_1_method_21_code 21 = .ok (.goto 8, 3) := by decide +kernel
theorem d_No_total_24 : decode prog_1_method_21_code 24 = .ok (.aload_n 3, 1) := by decide +kernel
theorem d_No_total_25 : decode prog_1_method_21_code 25 = .ok (.iload_n 2, 1) := by decide +kernel
theorem d_No_total_26 : decode prog_1_method_21_code 26 = .ok (.invokevirtual 189, 3) := by decide +kernel
theorem d_SeriesBook_centsOf_0 : decode prog_11_method_13_code 0 = .ok (.lconst 0, 1) := by decide +kernel
theorem d_SeriesBook_centsOf_1 : decode prog_11_method_13_code 1 = .ok (.lstore_n 2, 1) := by decide +kernel
theorem d_SeriesBook_centsOf_2 : decode prog_11_method_13_code 2 = .ok (.iconst 0, 1) := by decide +kernel
theorem d_SeriesBook_centsOf_3 : decode prog_11_method_13_code 3 = .ok (.istore 4, 2) := by decide +kernel
theorem d_SeriesBook_centsOf_5 : decode prog_11_method_13_code 5 = .ok (.iload 4, 2) := by decide +kernel
theorem d_SeriesBook_centsOf_7 : decode prog_11_method_13_code 7 = .ok (.aload_n 0, 1) := by decide +kernel
theorem d_SeriesBook_centsOf_8 : decode prog_11_method_13_code 8 = .ok (.getfield 38, 3) := by decide +kernel
theorem d_SeriesBook_centsOf_11 : decode prog_11_method_13_code 11 = .ok (.if_icmp .ge 41, 3) := by decide +kernel
theorem d_SeriesBook_centsOf_52 : decode prog_11_method_13_code 52 = .ok (.lload_n 2, 1) := by decide +kernel
theorem d_SeriesBook_centsOf_53 : decode prog_11_method_13_code 53 = .ok (.lreturn, 1) := by decide +kernel
theorem d_SeriesBook_centsOf_14 : decode prog_11_method_13_code 14 = .ok (.aload_n 0, 1) := by decide +kernel
theorem d_SeriesBook_centsOf_15 : decode prog_11_method_13_code 15 = .ok (.getfield 15, 3) := by decide +kernel
theorem d_SeriesBook_centsOf_18 : decode prog_11_method_13_code 18 = .ok (.iload 4, 2) := by decide +kernel
theorem d_SeriesBook_centsOf_20 : decode prog_11_method_13_code 20 = .ok (.iaload, 1) := by decide +kernel
theorem d_SeriesBook_centsOf_21 : decode prog_11_method_13_code 21 = .ok (.iload_n 1, 1) := by decide +kernel
theorem d_SeriesBook_centsOf_22 : decode prog_11_method_13_code 22 = .ok (.if_icmp .ne 24, 3) := by decide +kernel
theorem d_SeriesBook_centsOf_25 : decode prog_11_method_13_code 25 = .ok (.aload_n 0, 1) := by decide +kernel
theorem d_SeriesBook_centsOf_26 : decode prog_11_method_13_code 26 = .ok (.getfield 19, 3) := by decide +kernel
theorem d_SeriesBook_centsOf_29 : decode prog_11_method_13_code 29 = .ok (.iload 4, 2) := by decide +kernel
theorem d_SeriesBook_centsOf_31 : decode prog_11_method_13_code 31 = .ok (.iaload, 1) := by decide +kernel
theorem d_SeriesBook_centsOf_32 : decode prog_11_method_13_code 32 = .ok (.iconst 2, 1) := by decide +kernel
theorem d_SeriesBook_centsOf_33 : decode prog_11_method_13_code 33 = .ok (.if_icmp .ne 13, 3) := by decide +kernel
theorem d_SeriesBook_centsOf_36 : decode prog_11_method_13_code 36 = .ok (.lload_n 2, 1) := by decide +kernel
theorem d_SeriesBook_centsOf_37 : decode prog_11_method_13_code 37 = .ok (.aload_n 0, 1) := by decide +kernel
theorem d_SeriesBook_centsOf_38 : decode prog_11_method_13_code 38 = .ok (.getfield 22, 3) := by decide +kernel
theorem d_SeriesBook_centsOf_41 : decode prog_11_method_13_code 41 = .ok (.iload 4, 2) := by decide +kernel
theorem d_SeriesBook_centsOf_43 : decode prog_11_method_13_code 43 = .ok (.laload, 1) := by decide +kernel
theorem d_SeriesBook_centsOf_44 : decode prog_11_method_13_code 44 = .ok (.ladd, 1) := by decide +kernel
theorem d_SeriesBook_centsOf_45 : decode prog_11_method_13_code 45 = .ok (.lstore_n 2, 1) := by decide +kernel
theorem d_SeriesBook_centsOf_46 : decode prog_11_method_13_code 46 = .ok (.iinc 4 1, 3) := by decide +kernel
theorem d_SeriesBook_centsOf_49 : decode prog_11_method_13_code 49 = .ok (.goto (-44), 3) := by decide +kernel
theorem d_Law_listByte_0 : decode method_14_code 0 = .ok (.aload_n 3, 1) := by decide +kernel
theorem d_Law_listByte_1 : decode method_14_code 1 = .ok (.iconst 0, 1) := by decide +kernel
theorem d_Law_listByte_2 : decode method_14_code 2 = .ok (.aload_n 0, 1) := by decide +kernel
theorem d_Law_listByte_3 : decode method_14_code 3 = .ok (.iload_n 1, 1) := by decide +kernel
theorem d_Law_listByte_4 : decode method_14_code 4 = .ok (.iload_n 2, 1) := by decide +kernel
theorem d_Law_listByte_5 : decode method_14_code 5 = .ok (.invokevirtual 52, 3) := by decide +kernel
theorem d_No_listByte_0 : decode prog_1_method_24_code 0 = .ok (.aload_n 0, 1) := by decide +kernel
theorem d_No_listByte_1 : decode prog_1_method_24_code 1 = .ok (.getfield 30, 3) := by decide +kernel
theorem d_No_listByte_4 : decode prog_1_method_24_code 4 = .ok (.invokestatic 41, 3) := by decide +kernel
theorem d_No_listByte_7 : decode prog_1_method_24_code 7 = .ok (.aload_n 0, 1) := by decide +kernel
theorem d_No_listByte_8 : decode prog_1_method_24_code 8 = .ok (.getfield 30, 3) := by decide +kernel
theorem d_No_listByte_11 : decode prog_1_method_24_code 11 = .ok (.iload_n 1, 1) := by decide +kernel
theorem d_No_listByte_12 : decode prog_1_method_24_code 12 = .ok (.invokevirtual 45, 3) := by decide +kernel
theorem d_No_listByte_15 : decode prog_1_method_24_code 15 = .ok (.astore_n 3, 1) := by decide +kernel
theorem d_No_listByte_16 : decode prog_1_method_24_code 16 = .ok (.aload_n 3, 1) := by decide +kernel
theorem d_No_listByte_17 : decode prog_1_method_24_code 17 = .ok (.ifnonnull 7, 3) := by decide +kernel
theorem d_No_listByte_20 : decode prog_1_method_24_code 20 = .ok (.iconst (-1), 1) := by decide +kernel
theorem d_No_listByte_21 : decode prog_1_method_24_code 21 = .ok (.goto 8, 3) := by decide +kernel
theorem d_No_listByte_24 : decode prog_1_method_24_code 24 = .ok (.aload_n 3, 1) := by decide +kernel
theorem d_No_listByte_25 : decode prog_1_method_24_code 25 = .ok (.iload_n 2, 1) := by decide +kernel
theorem d_No_listByte_26 : decode prog_1_method_24_code 26 = .ok (.invokevirtual 202, 3) := by decide +kernel
theorem d_SeriesBook_listByteAt_0 : decode prog_11_method_14_code 0 = .ok (.iload_n 1, 1) := by decide +kernel
theorem d_SeriesBook_listByteAt_1 : decode prog_11_method_14_code 1 = .ok (.ifCond .lt 25, 3) := by decide +kernel
theorem d_SeriesBook_listByteAt_4 : decode prog_11_method_14_code 4 = .ok (.iload_n 1, 1) := by decide +kernel
theorem d_SeriesBook_listByteAt_5 : decode prog_11_method_14_code 5 = .ok (.aload_n 0, 1) := by decide +kernel
theorem d_SeriesBook_listByteAt_6 : decode prog_11_method_14_code 6 = .ok (.getfield 31, 3) := by decide +kernel
theorem d_SeriesBook_listByteAt_9 : decode prog_11_method_14_code 9 = .ok (.invokevirtual 90, 3) := by decide +kernel
theorem d_String_charAt_0 : decode prog_23_method_56_code 0 = .ok (.aload_n 0, 1) := by decide +kernel
theorem d_String_charAt_1 : decode prog_23_method_56_code 1 = .ok (.invokevirtual 492, 3) := by decide +kernel
theorem d_String_isLatin1_0 : decode prog_23_method_154_code 0 = .ok (.getstatic 38, 3) := by decide +kernel
theorem d_String_isLatin1_3 : decode prog_23_method_154_code 3 = .ok (.ifCond .eq 14, 3) := by decide +kernel
theorem d_String_isLatin1_6 : decode prog_23_method_154_code 6 = .ok (.aload_n 0, 1) := by decide +kernel
theorem d_String_isLatin1_7 : decode prog_23_method_154_code 7 = .ok (.getfield 15, 3) := by decide +kernel
theorem d_String_isLatin1_10 : decode prog_23_method_154_code 10 = .ok (.ifCond .ne 7, 3) := by decide +kernel
theorem d_String_isLatin1_13 : decode prog_23_method_154_code 13 = .ok (.iconst 1, 1) := by decide +kernel
theorem d_String_isLatin1_14 : decode prog_23_method_154_code 14 = .ok (.goto 4, 3) := by decide +kernel
theorem d_String_isLatin1_17 : decode prog_23_method_154_code 17 = .ok (.iconst 0, 1) := by decide +kernel
theorem d_String_isLatin1_18 : decode prog_23_method_154_code 18 = .ok (.ireturn, 1) := by decide +kernel
theorem d_StringLatin1_charAt_0 : decode prog_25_method_2_code 0 = .ok (.iload_n 1, 1) := by decide +kernel
theorem d_StringLatin1_charAt_1 : decode prog_25_method_2_code 1 = .ok (.aload_n 0, 1) := by decide +kernel
theorem d_StringLatin1_charAt_2 : decode prog_25_method_2_code 2 = .ok (.arraylength, 1) := by decide +kernel
theorem d_StringLatin1_charAt_3 : decode prog_25_method_2_code 3 = .ok (.invokestatic 9, 3) := by decide +kernel
theorem d_StringLatin1_charAt_6 : decode prog_25_method_2_code 6 = .ok (.aload_n 0, 1) := by decide +kernel
theorem d_StringLatin1_charAt_7 : decode prog_25_method_2_code 7 = .ok (.iload_n 1, 1) := by decide +kernel
theorem d_StringLatin1_charAt_8 : decode prog_25_method_2_code 8 = .ok (.baload, 1) := by decide +kernel
theorem d_StringLatin1_charAt_9 : decode prog_25_method_2_code 9 = .ok (.sipush 255, 3) := by decide +kernel
theorem d_StringLatin1_charAt_12 : decode prog_25_method_2_code 12 = .ok (.iand, 1) := by decide +kernel
theorem d_StringLatin1_charAt_13 : decode prog_25_method_2_code 13 = .ok (.i2c, 1) := by decide +kernel
theorem d_StringLatin1_charAt_14 : decode prog_25_method_2_code 14 = .ok (.ireturn, 1) := by decide +kernel
theorem d_StringUTF16_charAt_0 : decode prog_26_method_83_code 0 = .ok (.iload_n 1, 1) := by decide +kernel
theorem d_StringUTF16_charAt_1 : decode prog_26_method_83_code 1 = .ok (.aload_n 0, 1) := by decide +kernel
theorem d_StringUTF16_charAt_2 : decode prog_26_method_83_code 2 = .ok (.invokestatic 67, 3) := by decide +kernel
theorem d_Mo_init_0 : decode prog_14_method_1_code 0 = .ok (.aload_n 0, 1) := by decide +kernel
theorem d_Mo_init_1 : decode prog_14_method_1_code 1 = .ok (.invokespecial 1, 3) := by decide +kernel
theorem d_Mo_init_4 : decode prog_14_method_1_code 4 = .ok (.aload_n 0, 1) := by decide +kernel
theorem d_Mo_init_5 : decode prog_14_method_1_code 5 = .ok (.bipush 7, 2) := by decide +kernel
theorem d_Mo_init_7 : decode prog_14_method_1_code 7 = .ok (.newarray .boolean, 2) := by decide +kernel
theorem d_Mo_init_9 : decode prog_14_method_1_code 9 = .ok (.putfield 7, 3) := by decide +kernel
theorem d_Mo_init_12 : decode prog_14_method_1_code 12 = .ok (.aload_n 0, 1) := by decide +kernel
theorem d_Mo_init_13 : decode prog_14_method_1_code 13 = .ok (.bipush 36, 2) := by decide +kernel
theorem d_Mo_init_15 : decode prog_14_method_1_code 15 = .ok (.newarray .int, 2) := by decide +kernel
theorem d_Mo_init_17 : decode prog_14_method_1_code 17 = .ok (.putfield 13, 3) := by decide +kernel
theorem d_Mo_init_20 : decode prog_14_method_1_code 20 = .ok (.aload_n 0, 1) := by decide +kernel
theorem d_Mo_init_21 : decode prog_14_method_1_code 21 = .ok (.bipush 36, 2) := by decide +kernel
theorem d_Mo_init_23 : decode prog_14_method_1_code 23 = .ok (.newarray .int, 2) := by decide +kernel
theorem d_Mo_init_25 : decode prog_14_method_1_code 25 = .ok (.putfield 17, 3) := by decide +kernel
theorem d_Mo_init_28 : decode prog_14_method_1_code 28 = .ok (.aload_n 0, 1) := by decide +kernel
theorem d_Mo_init_29 : decode prog_14_method_1_code 29 = .ok (.bipush 36, 2) := by decide +kernel
theorem d_Mo_init_31 : decode prog_14_method_1_code 31 = .ok (.newarray .int, 2) := by decide +kernel
theorem d_Mo_init_33 : decode prog_14_method_1_code 33 = .ok (.putfield 20, 3) := by decide +kernel
theorem d_Mo_init_36 : decode prog_14_method_1_code 36 = .ok (.aload_n 0, 1) := by decide +kernel
theorem d_Mo_init_37 : decode prog_14_method_1_code 37 = .ok (.bipush 36, 2) := by decide +kernel
theorem d_Mo_init_39 : decode prog_14_method_1_code 39 = .ok (.newarray .int, 2) := by decide +kernel
theorem d_Mo_init_41 : decode prog_14_method_1_code 41 = .ok (.putfield 23, 3) := by decide +kernel
theorem d_Mo_init_44 : decode prog_14_method_1_code 44 = .ok (.aload_n 0, 1) := by decide +kernel
theorem d_Mo_init_45 : decode prog_14_method_1_code 45 = .ok (.bipush 36, 2) := by decide +kernel
theorem d_Mo_init_47 : decode prog_14_method_1_code 47 = .ok (.newarray .int, 2) := by decide +kernel
theorem d_Mo_init_49 : decode prog_14_method_1_code 49 = .ok (.putfield 26, 3) := by decide +kernel
theorem d_Mo_init_52 : decode prog_14_method_1_code 52 = .ok (.aload_n 0, 1) := by decide +kernel
theorem d_Mo_init_53 : decode prog_14_method_1_code 53 = .ok (.sipush 10800, 3) := by decide +kernel
theorem d_Mo_init_56 : decode prog_14_method_1_code 56 = .ok (.newarray .short, 2) := by decide +kernel
theorem d_Mo_init_58 : decode prog_14_method_1_code 58 = .ok (.putfield 29, 3) := by decide +kernel
theorem d_Mo_init_61 : decode prog_14_method_1_code 61 = .ok (.aload_n 0, 1) := by decide +kernel
theorem d_Mo_init_62 : decode prog_14_method_1_code 62 = .ok (.sipush 10800, 3) := by decide +kernel
theorem d_Mo_init_65 : decode prog_14_method_1_code 65 = .ok (.newarray .short, 2) := by decide +kernel
theorem d_Mo_init_67 : decode prog_14_method_1_code 67 = .ok (.putfield 33, 3) := by decide +kernel
theorem d_Mo_init_70 : decode prog_14_method_1_code 70 = .ok (.aload_n 0, 1) := by decide +kernel
theorem d_Mo_init_71 : decode prog_14_method_1_code 71 = .ok (.sipush 10800, 3) := by decide +kernel
theorem d_Mo_init_74 : decode prog_14_method_1_code 74 = .ok (.newarray .byte, 2) := by decide +kernel
theorem d_Mo_init_76 : decode prog_14_method_1_code 76 = .ok (.putfield 36, 3) := by decide +kernel
theorem d_Mo_init_79 : decode prog_14_method_1_code 79 = .ok (.aload_n 0, 1) := by decide +kernel
theorem d_Mo_init_80 : decode prog_14_method_1_code 80 = .ok (.sipush 10800, 3) := by decide +kernel
theorem d_Mo_init_83 : decode prog_14_method_1_code 83 = .ok (.newarray .long, 2) := by decide +kernel
theorem d_Mo_init_85 : decode prog_14_method_1_code 85 = .ok (.putfield 40, 3) := by decide +kernel
theorem d_Mo_init_88 : decode prog_14_method_1_code 88 = .ok (.aload_n 0, 1) := by decide +kernel
theorem d_Mo_init_89 : decode prog_14_method_1_code 89 = .ok (.sipush 10800, 3) := by decide +kernel
theorem d_Mo_init_92 : decode prog_14_method_1_code 92 = .ok (.newarray .int, 2) := by decide +kernel
theorem d_Mo_init_94 : decode prog_14_method_1_code 94 = .ok (.putfield 44, 3) := by decide +kernel
theorem d_Mo_init_97 : decode prog_14_method_1_code 97 = .ok (.aload_n 0, 1) := by decide +kernel
theorem d_Mo_init_98 : decode prog_14_method_1_code 98 = .ok (.sipush 10800, 3) := by decide +kernel
theorem d_Mo_init_101 : decode prog_14_method_1_code 101 = .ok (.newarray .byte, 2) := by decide +kernel
theorem d_Mo_init_103 : decode prog_14_method_1_code 103 = .ok (.putfield 47, 3) := by decide +kernel
theorem d_Mo_init_106 : decode prog_14_method_1_code 106 = .ok (.aload_n 0, 1) := by decide +kernel
theorem d_Mo_init_107 : decode prog_14_method_1_code 107 = .ok (.sipush 21600, 3) := by decide +kernel
theorem d_Mo_init_110 : decode prog_14_method_1_code 110 = .ok (.newarray .short, 2) := by decide +kernel
theorem d_Mo_init_112 : decode prog_14_method_1_code 112 = .ok (.putfield 50, 3) := by decide +kernel
theorem d_Mo_init_115 : decode prog_14_method_1_code 115 = .ok (.aload_n 0, 1) := by decide +kernel
theorem d_Mo_init_116 : decode prog_14_method_1_code 116 = .ok (.bipush 12, 2) := by decide +kernel
theorem d_Mo_init_118 : decode prog_14_method_1_code 118 = .ok (.newarray .int, 2) := by decide +kernel
theorem d_Mo_init_120 : decode prog_14_method_1_code 120 = .ok (.putfield 53, 3) := by decide +kernel
theorem d_Mo_init_123 : decode prog_14_method_1_code 123 = .ok (.aload_n 0, 1) := by decide +kernel
theorem d_Mo_init_124 : decode prog_14_method_1_code 124 = .ok (.bipush 12, 2) := by decide +kernel
theorem d_Mo_init_126 : decode prog_14_method_1_code 126 = .ok (.newarray .int, 2) := by decide +kernel
theorem d_Mo_init_128 : decode prog_14_method_1_code 128 = .ok (.putfield 56, 3) := by decide +kernel
theorem d_Mo_init_131 : decode prog_14_method_1_code 131 = .ok (.aload_n 0, 1) := by decide +kernel
theorem d_Mo_init_132 : decode prog_14_method_1_code 132 = .ok (.bipush 12, 2) := by decide +kernel
theorem d_Mo_init_134 : decode prog_14_method_1_code 134 = .ok (.newarray .int, 2) := by decide +kernel
theorem d_Mo_init_136 : decode prog_14_method_1_code 136 = .ok (.putfield 59, 3) := by decide +kernel
theorem d_Mo_init_139 : decode prog_14_method_1_code 139 = .ok (.aload_n 0, 1) := by decide +kernel
theorem d_Mo_init_140 : decode prog_14_method_1_code 140 = .ok (.bipush 12, 2) := by decide +kernel
theorem d_Mo_init_142 : decode prog_14_method_1_code 142 = .ok (.newarray .int, 2) := by decide +kernel
theorem d_Mo_init_144 : decode prog_14_method_1_code 144 = .ok (.putfield 62, 3) := by decide +kernel
theorem d_Mo_init_147 : decode prog_14_method_1_code 147 = .ok (.aload_n 0, 1) := by decide +kernel
theorem d_Mo_init_148 : decode prog_14_method_1_code 148 = .ok (.bipush 12, 2) := by decide +kernel
theorem d_Mo_init_150 : decode prog_14_method_1_code 150 = .ok (.newarray .boolean, 2) := by decide +kernel
theorem d_Mo_init_152 : decode prog_14_method_1_code 152 = .ok (.putfield 65, 3) := by decide +kernel
theorem d_Mo_init_155 : decode prog_14_method_1_code 155 = .ok (.aload_n 0, 1) := by decide +kernel
theorem d_Mo_init_156 : decode prog_14_method_1_code 156 = .ok (.bipush 12, 2) := by decide +kernel
theorem d_Mo_init_158 : decode prog_14_method_1_code 158 = .ok (.newarray .boolean, 2) := by decide +kernel
theorem d_Mo_init_160 : decode prog_14_method_1_code 160 = .ok (.putfield 68, 3) := by decide +kernel
theorem d_Mo_init_163 : decode prog_14_method_1_code 163 = .ok (.aload_n 0, 1) := by decide +kernel
theorem d_Mo_init_164 : decode prog_14_method_1_code 164 = .ok (.bipush 6, 2) := by decide +kernel
theorem d_Mo_init_166 : decode prog_14_method_1_code 166 = .ok (.newarray .int, 2) := by decide +kernel
theorem d_Mo_init_168 : decode prog_14_method_1_code 168 = .ok (.putfield 71, 3) := by decide +kernel
theorem d_Mo_init_171 : decode prog_14_method_1_code 171 = .ok (.aload_n 0, 1) := by decide +kernel
theorem d_Mo_init_172 : decode prog_14_method_1_code 172 = .ok (.bipush 6, 2) := by decide +kernel
theorem d_Mo_init_174 : decode prog_14_method_1_code 174 = .ok (.newarray .int, 2) := by decide +kernel
theorem d_Mo_init_176 : decode prog_14_method_1_code 176 = .ok (.putfield 74, 3) := by decide +kernel
theorem d_Mo_init_179 : decode prog_14_method_1_code 179 = .ok (.aload_n 0, 1) := by decide +kernel
theorem d_Mo_init_180 : decode prog_14_method_1_code 180 = .ok (.bipush 6, 2) := by decide +kernel
theorem d_Mo_init_182 : decode prog_14_method_1_code 182 = .ok (.newarray .int, 2) := by decide +kernel
theorem d_Mo_init_184 : decode prog_14_method_1_code 184 = .ok (.putfield 77, 3) := by decide +kernel
theorem d_Mo_init_187 : decode prog_14_method_1_code 187 = .ok (.aload_n 0, 1) := by decide +kernel
theorem d_Mo_init_188 : decode prog_14_method_1_code 188 = .ok (.sipush 1800, 3) := by decide +kernel
theorem d_Mo_init_191 : decode prog_14_method_1_code 191 = .ok (.newarray .byte, 2) := by decide +kernel
theorem d_Mo_init_193 : decode prog_14_method_1_code 193 = .ok (.putfield 80, 3) := by decide +kernel
theorem d_Mo_init_196 : decode prog_14_method_1_code 196 = .ok (.aload_n 0, 1) := by decide +kernel
theorem d_Mo_init_197 : decode prog_14_method_1_code 197 = .ok (.sipush 1800, 3) := by decide +kernel
theorem d_Mo_init_200 : decode prog_14_method_1_code 200 = .ok (.newarray .byte, 2) := by decide +kernel
theorem d_Mo_init_202 : decode prog_14_method_1_code 202 = .ok (.putfield 83, 3) := by decide +kernel
theorem d_Mo_init_205 : decode prog_14_method_1_code 205 = .ok (.aload_n 0, 1) := by decide +kernel
theorem d_Mo_init_206 : decode prog_14_method_1_code 206 = .ok (.sipush 1800, 3) := by decide +kernel
theorem d_Mo_init_209 : decode prog_14_method_1_code 209 = .ok (.newarray .long, 2) := by decide +kernel
theorem d_Mo_init_211 : decode prog_14_method_1_code 211 = .ok (.putfield 86, 3) := by decide +kernel
theorem d_Mo_init_214 : decode prog_14_method_1_code 214 = .ok (.aload_n 0, 1) := by decide +kernel
theorem d_Mo_init_215 : decode prog_14_method_1_code 215 = .ok (.sipush 1800, 3) := by decide +kernel
theorem d_Mo_init_218 : decode prog_14_method_1_code 218 = .ok (.newarray .int, 2) := by decide +kernel
theorem d_Mo_init_220 : decode prog_14_method_1_code 220 = .ok (.putfield 89, 3) := by decide +kernel
theorem d_Mo_init_223 : decode prog_14_method_1_code 223 = .ok (.aload_n 0, 1) := by decide +kernel
theorem d_Mo_init_224 : decode prog_14_method_1_code 224 = .ok (.sipush 1800, 3) := by decide +kernel
theorem d_Mo_init_227 : decode prog_14_method_1_code 227 = .ok (.newarray .byte, 2) := by decide +kernel
theorem d_Mo_init_229 : decode prog_14_method_1_code 229 = .ok (.putfield 92, 3) := by decide +kernel
theorem d_Mo_init_232 : decode prog_14_method_1_code 232 = .ok (.aload_n 0, 1) := by decide +kernel
theorem d_Mo_init_233 : decode prog_14_method_1_code 233 = .ok (.bipush 12, 2) := by decide +kernel
theorem d_Mo_init_235 : decode prog_14_method_1_code 235 = .ok (.newarray .boolean, 2) := by decide +kernel
theorem d_Mo_init_237 : decode prog_14_method_1_code 237 = .ok (.putfield 95, 3) := by decide +kernel
theorem d_Mo_init_240 : decode prog_14_method_1_code 240 = .ok (.aload_n 0, 1) := by decide +kernel
theorem d_Mo_init_241 : decode prog_14_method_1_code 241 = .ok (.bipush 12, 2) := by decide +kernel
theorem d_Mo_init_243 : decode prog_14_method_1_code 243 = .ok (.newarray .int, 2) := by decide +kernel
theorem d_Mo_init_245 : decode prog_14_method_1_code 245 = .ok (.putfield 98, 3) := by decide +kernel
theorem d_Mo_init_248 : decode prog_14_method_1_code 248 = .ok (.aload_n 0, 1) := by decide +kernel
theorem d_Mo_init_249 : decode prog_14_method_1_code 249 = .ok (.bipush 12, 2) := by decide +kernel
theorem d_Mo_init_251 : decode prog_14_method_1_code 251 = .ok (.newarray .int, 2) := by decide +kernel
theorem d_Mo_init_253 : decode prog_14_method_1_code 253 = .ok (.putfield 101, 3) := by decide +kernel
theorem d_Mo_init_256 : decode prog_14_method_1_code 256 = .ok (.aload_n 0, 1) := by decide +kernel
theorem d_Mo_init_257 : decode prog_14_method_1_code 257 = .ok (.bipush 12, 2) := by decide +kernel
theorem d_Mo_init_259 : decode prog_14_method_1_code 259 = .ok (.newarray .int, 2) := by decide +kernel
theorem d_Mo_init_261 : decode prog_14_method_1_code 261 = .ok (.putfield 104, 3) := by decide +kernel
theorem d_Mo_init_264 : decode prog_14_method_1_code 264 = .ok (.aload_n 0, 1) := by decide +kernel
theorem d_Mo_init_265 : decode prog_14_method_1_code 265 = .ok (.bipush 12, 2) := by decide +kernel
theorem d_Mo_init_267 : decode prog_14_method_1_code 267 = .ok (.newarray .int, 2) := by decide +kernel
theorem d_Mo_init_269 : decode prog_14_method_1_code 269 = .ok (.putfield 107, 3) := by decide +kernel
theorem d_Mo_init_272 : decode prog_14_method_1_code 272 = .ok (.aload_n 0, 1) := by decide +kernel
theorem d_Mo_init_273 : decode prog_14_method_1_code 273 = .ok (.sipush 512, 3) := by decide +kernel
theorem d_Mo_init_276 : decode prog_14_method_1_code 276 = .ok (.newarray .int, 2) := by decide +kernel
theorem d_Mo_init_278 : decode prog_14_method_1_code 278 = .ok (.putfield 110, 3) := by decide +kernel
theorem d_Mo_init_281 : decode prog_14_method_1_code 281 = .ok (.aload_n 0, 1) := by decide +kernel
theorem d_Mo_init_282 : decode prog_14_method_1_code 282 = .ok (.bipush 8, 2) := by decide +kernel
theorem d_Mo_init_284 : decode prog_14_method_1_code 284 = .ok (.newarray .int, 2) := by decide +kernel
theorem d_Mo_init_286 : decode prog_14_method_1_code 286 = .ok (.putfield 113, 3) := by decide +kernel
theorem d_Mo_init_289 : decode prog_14_method_1_code 289 = .ok (.aload_n 0, 1) := by decide +kernel
theorem d_Mo_init_290 : decode prog_14_method_1_code 290 = .ok (.iload_n 1, 1) := by decide +kernel
theorem d_Mo_init_291 : decode prog_14_method_1_code 291 = .ok (.iconst 1, 1) := by decide +kernel
theorem d_Mo_init_292 : decode prog_14_method_1_code 292 = .ok (.if_icmp .ge 7, 3) := by decide +kernel
theorem d_Mo_init_299 : decode prog_14_method_1_code 299 = .ok (.iload_n 1, 1) := by decide +kernel
theorem d_Mo_init_300 : decode prog_14_method_1_code 300 = .ok (.bipush 6, 2) := by decide +kernel
theorem d_Mo_init_302 : decode prog_14_method_1_code 302 = .ok (.if_icmp .le 8, 3) := by decide +kernel
theorem d_Mo_init_310 : decode prog_14_method_1_code 310 = .ok (.iload_n 1, 1) := by decide +kernel
theorem d_Mo_init_305 : decode prog_14_method_1_code 305 = .ok (.bipush 6, 2) := by decide +kernel
theorem d_Mo_init_307 : decode prog_14_method_1_code 307 = .ok (.goto 4, 3) := by decide +kernel
theorem d_Mo_init_295 : decode prog_14_method_1_code 295 = .ok (.iconst 1, 1) := by decide +kernel
theorem d_Mo_init_296 : decode prog_14_method_1_code 296 = .ok (.goto 15, 3) := by decide +kernel
theorem d_Mo_init_311 : decode prog_14_method_1_code 311 = .ok (.putfield 116, 3) := by decide +kernel
theorem d_Mo_init_314 : decode prog_14_method_1_code 314 = .ok (.return_, 1) := by decide +kernel
theorem d_Mo_thrown_0 : decode prog_14_method_2_code 0 = .ok (.aload_n 0, 1) := by decide +kernel
theorem d_Mo_thrown_1 : decode prog_14_method_2_code 1 = .ok (.getfield 120, 3) := by decide +kernel
theorem d_Mo_thrown_4 : decode prog_14_method_2_code 4 = .ok (.ireturn, 1) := by decide +kernel
theorem d_Mo_series_0 : decode prog_14_method_13_code 0 = .ok (.aload_n 0, 1) := by decide +kernel
theorem d_Mo_series_1 : decode prog_14_method_13_code 1 = .ok (.aload_n 0, 1) := by decide +kernel
theorem d_Mo_series_2 : decode prog_14_method_13_code 2 = .ok (.getfield 7, 3) := by decide +kernel
theorem d_Mo_series_5 : decode prog_14_method_13_code 5 = .ok (.aload_n 0, 1) := by decide +kernel
theorem d_Mo_series_6 : decode prog_14_method_13_code 6 = .ok (.getfield 116, 3) := by decide +kernel
theorem d_Mo_series_9 : decode prog_14_method_13_code 9 = .ok (.baload, 1) := by decide +kernel
theorem d_Mo_series_10 : decode prog_14_method_13_code 10 = .ok (.ifCond .eq 7, 3) := by decide +kernel
theorem d_Mo_series_17 : decode prog_14_method_13_code 17 = .ok (.iconst 0, 1) := by decide +kernel
theorem d_Mo_series_13 : decode prog_14_method_13_code 13 = .ok (.iconst 1, 1) := by decide +kernel
theorem d_Mo_series_14 : decode prog_14_method_13_code 14 = .ok (.goto 4, 3) := by decide +kernel
theorem d_Mo_series_18 : decode prog_14_method_13_code 18 = .ok (.putfield 120, 3) := by decide +kernel
theorem d_Mo_series_21 : decode prog_14_method_13_code 21 = .ok (.aload_n 0, 1) := by decide +kernel
theorem d_Mo_series_22 : decode prog_14_method_13_code 22 = .ok (.getfield 120, 3) := by decide +kernel
theorem d_Mo_series_25 : decode prog_14_method_13_code 25 = .ok (.iconst 1, 1) := by decide +kernel
theorem d_Mo_series_26 : decode prog_14_method_13_code 26 = .ok (.if_icmp .eq 31, 3) := by decide +kernel
theorem d_Mo_series_29 : decode prog_14_method_13_code 29 = .ok (.iload_n 1, 1) := by decide +kernel
theorem d_Mo_series_30 : decode prog_14_method_13_code 30 = .ok (.invokestatic 144, 3) := by decide +kernel
theorem d_Mo_isSeries_0 : decode prog_14_method_4_code 0 = .ok (.iload_n 0, 1) := by decide +kernel
theorem d_Mo_isSeries_1 : decode prog_14_method_4_code 1 = .ok (.ifCond .lt 12, 3) := by decide +kernel
theorem d_Mo_isSeries_4 : decode prog_14_method_4_code 4 = .ok (.iload_n 0, 1) := by decide +kernel
theorem d_Mo_isSeries_5 : decode prog_14_method_4_code 5 = .ok (.iconst 3, 1) := by decide +kernel
theorem d_Mo_isSeries_6 : decode prog_14_method_4_code 6 = .ok (.if_icmp .ge 7, 3) := by decide +kernel
theorem d_Mo_isSeries_9 : decode prog_14_method_4_code 9 = .ok (.iconst 1, 1) := by decide +kernel
theorem d_Mo_isSeries_10 : decode prog_14_method_4_code 10 = .ok (.goto 4, 3) := by decide +kernel
theorem d_Mo_isSeries_13 : decode prog_14_method_4_code 13 = .ok (.iconst 0, 1) := by decide +kernel
theorem d_Mo_isSeries_14 : decode prog_14_method_4_code 14 = .ok (.ireturn, 1) := by decide +kernel
theorem d_Mo_request_0 : decode prog_14_method_21_code 0 = .ok (.aload_n 0, 1) := by decide +kernel
theorem d_Mo_request_1 : decode prog_14_method_21_code 1 = .ok (.iload_n 1, 1) := by decide +kernel
theorem d_Mo_request_2 : decode prog_14_method_21_code 2 = .ok (.invokevirtual 166, 3) := by decide +kernel
theorem d_Mo_there_0 : decode prog_14_method_19_code 0 = .ok (.aload_n 0, 1) := by decide +kernel
theorem d_Mo_there_1 : decode prog_14_method_19_code 1 = .ok (.aload_n 0, 1) := by decide +kernel
theorem d_Mo_there_2 : decode prog_14_method_19_code 2 = .ok (.iload_n 1, 1) := by decide +kernel
theorem d_Mo_there_3 : decode prog_14_method_19_code 3 = .ok (.invokevirtual 163, 3) := by decide +kernel
theorem d_Mo_isBranch_0 : decode prog_14_method_3_code 0 = .ok (.iload_n 1, 1) := by decide +kernel
theorem d_Mo_isBranch_1 : decode prog_14_method_3_code 1 = .ok (.ifCond .lt 15, 3) := by decide +kernel
theorem d_Mo_isBranch_4 : decode prog_14_method_3_code 4 = .ok (.iload_n 1, 1) := by decide +kernel
theorem d_Mo_isBranch_5 : decode prog_14_method_3_code 5 = .ok (.aload_n 0, 1) := by decide +kernel
theorem d_Mo_isBranch_6 : decode prog_14_method_3_code 6 = .ok (.getfield 116, 3) := by decide +kernel
theorem d_Mo_isBranch_9 : decode prog_14_method_3_code 9 = .ok (.if_icmp .ge 7, 3) := by decide +kernel
theorem d_Mo_isBranch_12 : decode prog_14_method_3_code 12 = .ok (.iconst 1, 1) := by decide +kernel
theorem d_Mo_isBranch_13 : decode prog_14_method_3_code 13 = .ok (.goto 4, 3) := by decide +kernel
theorem d_Mo_isBranch_16 : decode prog_14_method_3_code 16 = .ok (.iconst 0, 1) := by decide +kernel
theorem d_Mo_isBranch_17 : decode prog_14_method_3_code 17 = .ok (.ireturn, 1) := by decide +kernel
theorem d_Mo_openBlocks_0 : decode prog_14_method_20_code 0 = .ok (.aload_n 0, 1) := by decide +kernel
theorem d_Mo_openBlocks_1 : decode prog_14_method_20_code 1 = .ok (.getfield 17, 3) := by decide +kernel
theorem d_Mo_openBlocks_4 : decode prog_14_method_20_code 4 = .ok (.iload_n 1, 1) := by decide +kernel
theorem d_Mo_openBlocks_5 : decode prog_14_method_20_code 5 = .ok (.iaload, 1) := by decide +kernel
theorem d_Mo_openBlocks_6 : decode prog_14_method_20_code 6 = .ok (.aload_n 0, 1) := by decide +kernel
theorem d_Mo_openBlocks_7 : decode prog_14_method_20_code 7 = .ok (.getfield 13, 3) := by decide +kernel
theorem d_Mo_openBlocks_10 : decode prog_14_method_20_code 10 = .ok (.iload_n 1, 1) := by decide +kernel
theorem d_Mo_openBlocks_11 : decode prog_14_method_20_code 11 = .ok (.iaload, 1) := by decide +kernel
theorem d_Mo_openBlocks_12 : decode prog_14_method_20_code 12 = .ok (.if_icmp .ne 7, 3) := by decide +kernel
theorem d_Mo_openBlocks_19 : decode prog_14_method_20_code 19 = .ok (.aload_n 0, 1) := by decide +kernel
theorem d_Mo_openBlocks_20 : decode prog_14_method_20_code 20 = .ok (.getfield 20, 3) := by decide +kernel
theorem d_Mo_openBlocks_23 : decode prog_14_method_20_code 23 = .ok (.iload_n 1, 1) := by decide +kernel
theorem d_Mo_openBlocks_24 : decode prog_14_method_20_code 24 = .ok (.iaload, 1) := by decide +kernel
theorem d_Mo_openBlocks_25 : decode prog_14_method_20_code 25 = .ok (.aload_n 0, 1) := by decide +kernel
theorem d_Mo_openBlocks_26 : decode prog_14_method_20_code 26 = .ok (.getfield 33, 3) := by decide +kernel
theorem d_Mo_openBlocks_29 : decode prog_14_method_20_code 29 = .ok (.sipush 300, 3) := by decide +kernel
theorem d_Mo_openBlocks_32 : decode prog_14_method_20_code 32 = .ok (.iload_n 1, 1) := by decide +kernel
theorem d_Mo_openBlocks_33 : decode prog_14_method_20_code 33 = .ok (.imul, 1) := by decide +kernel
theorem d_Mo_openBlocks_34 : decode prog_14_method_20_code 34 = .ok (.aload_n 0, 1) := by decide +kernel
theorem d_Mo_openBlocks_35 : decode prog_14_method_20_code 35 = .ok (.getfield 17, 3) := by decide +kernel
theorem d_Mo_openBlocks_38 : decode prog_14_method_20_code 38 = .ok (.iload_n 1, 1) := by decide +kernel
theorem d_Mo_openBlocks_39 : decode prog_14_method_20_code 39 = .ok (.iaload, 1) := by decide +kernel
theorem d_Mo_openBlocks_40 : decode prog_14_method_20_code 40 = .ok (.iadd, 1) := by decide +kernel
theorem d_Mo_openBlocks_41 : decode prog_14_method_20_code 41 = .ok (.saload, 1) := by decide +kernel
theorem d_Mo_openBlocks_42 : decode prog_14_method_20_code 42 = .ok (.isub, 1) := by decide +kernel
theorem d_Mo_openBlocks_15 : decode prog_14_method_20_code 15 = .ok (.iconst 0, 1) := by decide +kernel
theorem d_Mo_openBlocks_16 : decode prog_14_method_20_code 16 = .ok (.goto 27, 3) := by decide +kernel
theorem d_Mo_openBlocks_43 : decode prog_14_method_20_code 43 = .ok (.ireturn, 1) := by decide +kernel
theorem d_Mo_sendLatest_0 : decode prog_14_method_11_code 0 = .ok (.aload_n 0, 1) := by decide +kernel
theorem d_Mo_sendLatest_1 : decode prog_14_method_11_code 1 = .ok (.iload_n 1, 1) := by decide +kernel
theorem d_Mo_sendLatest_2 : decode prog_14_method_11_code 2 = .ok (.invokevirtual 136, 3) := by decide +kernel
theorem d_Mo_safe_0 : decode prog_14_method_8_code 0 = .ok (.iload_n 1, 1) := by decide +kernel
theorem d_Mo_safe_1 : decode prog_14_method_8_code 1 = .ok (.aload_n 0, 1) := by decide +kernel
theorem d_Mo_safe_2 : decode prog_14_method_8_code 2 = .ok (.getfield 116, 3) := by decide +kernel
theorem d_Mo_safe_5 : decode prog_14_method_8_code 5 = .ok (.if_icmp .ne 12, 3) := by decide +kernel
theorem d_Mo_safe_17 : decode prog_14_method_8_code 17 = .ok (.aload_n 0, 1) := by decide +kernel
theorem d_Mo_safe_18 : decode prog_14_method_8_code 18 = .ok (.iload_n 1, 1) := by decide +kernel
theorem d_Mo_safe_19 : decode prog_14_method_8_code 19 = .ok (.iload_n 1, 1) := by decide +kernel
theorem d_Mo_safe_20 : decode prog_14_method_8_code 20 = .ok (.bipush 6, 2) := by decide +kernel
theorem d_Mo_safe_22 : decode prog_14_method_8_code 22 = .ok (.iadd, 1) := by decide +kernel
theorem d_Mo_safe_23 : decode prog_14_method_8_code 23 = .ok (.invokevirtual 130, 3) := by decide +kernel
theorem d_Mo_copyOffice_0 : decode prog_14_method_7_code 0 = .ok (.iconst 0, 1) := by decide +kernel
theorem d_Mo_copyOffice_1 : decode prog_14_method_7_code 1 = .ok (.istore_n 3, 1) := by decide +kernel
theorem d_Mo_copyOffice_2 : decode prog_14_method_7_code 2 = .ok (.iload_n 3, 1) := by decide +kernel
theorem d_Mo_copyOffice_3 : decode prog_14_method_7_code 3 = .ok (.iconst 3, 1) := by decide +kernel
theorem d_Mo_copyOffice_4 : decode prog_14_method_7_code 4 = .ok (.if_icmp .ge 69, 3) := by decide +kernel
theorem d_Mo_copyOffice_73 : decode prog_14_method_7_code 73 = .ok (.iconst 0, 1) := by decide +kernel
theorem d_Mo_copyOffice_74 : decode prog_14_method_7_code 74 = .ok (.istore_n 3, 1) := by decide +kernel
theorem d_Mo_copyOffice_7 : decode prog_14_method_7_code 7 = .ok (.aload_n 0, 1) := by decide +kernel
theorem d_Mo_copyOffice_8 : decode prog_14_method_7_code 8 = .ok (.getfield 71, 3) := by decide +kernel
theorem d_Mo_copyOffice_11 : decode prog_14_method_7_code 11 = .ok (.iconst 3, 1) := by decide +kernel
theorem d_Mo_copyOffice_12 : decode prog_14_method_7_code 12 = .ok (.iload_n 2, 1) := by decide +kernel
theorem d_Mo_copyOffice_13 : decode prog_14_method_7_code 13 = .ok (.imul, 1) := by decide +kernel
theorem d_Mo_copyOffice_14 : decode prog_14_method_7_code 14 = .ok (.iload_n 3, 1) := by decide +kernel
theorem d_Mo_copyOffice_15 : decode prog_14_method_7_code 15 = .ok (.iadd, 1) := by decide +kernel
theorem d_Mo_copyOffice_16 : decode prog_14_method_7_code 16 = .ok (.aload_n 0, 1) := by decide +kernel
theorem d_Mo_copyOffice_17 : decode prog_14_method_7_code 17 = .ok (.getfield 71, 3) := by decide +kernel
theorem d_Mo_copyOffice_20 : decode prog_14_method_7_code 20 = .ok (.iconst 3, 1) := by decide +kernel
theorem d_Mo_copyOffice_21 : decode prog_14_method_7_code 21 = .ok (.iload_n 1, 1) := by decide +kernel
theorem d_Mo_copyOffice_22 : decode prog_14_method_7_code 22 = .ok (.imul, 1) := by decide +kernel
theorem d_Mo_copyOffice_23 : decode prog_14_method_7_code 23 = .ok (.iload_n 3, 1) := by decide +kernel
theorem d_Mo_copyOffice_24 : decode prog_14_method_7_code 24 = .ok (.iadd, 1) := by decide +kernel
theorem d_Mo_copyOffice_25 : decode prog_14_method_7_code 25 = .ok (.iaload, 1) := by decide +kernel
theorem d_Mo_copyOffice_26 : decode prog_14_method_7_code 26 = .ok (.iastore, 1) := by decide +kernel
theorem d_Mo_copyOffice_27 : decode prog_14_method_7_code 27 = .ok (.aload_n 0, 1) := by decide +kernel
theorem d_Mo_copyOffice_28 : decode prog_14_method_7_code 28 = .ok (.getfield 74, 3) := by decide +kernel
theorem d_Mo_copyOffice_31 : decode prog_14_method_7_code 31 = .ok (.iconst 3, 1) := by decide +kernel
theorem d_Mo_copyOffice_32 : decode prog_14_method_7_code 32 = .ok (.iload_n 2, 1) := by decide +kernel
theorem d_Mo_copyOffice_33 : decode prog_14_method_7_code 33 = .ok (.imul, 1) := by decide +kernel
theorem d_Mo_copyOffice_34 : decode prog_14_method_7_code 34 = .ok (.iload_n 3, 1) := by decide +kernel
theorem d_Mo_copyOffice_35 : decode prog_14_method_7_code 35 = .ok (.iadd, 1) := by decide +kernel
theorem d_Mo_copyOffice_36 : decode prog_14_method_7_code 36 = .ok (.aload_n 0, 1) := by decide +kernel
theorem d_Mo_copyOffice_37 : decode prog_14_method_7_code 37 = .ok (.getfield 74, 3) := by decide +kernel
theorem d_Mo_copyOffice_40 : decode prog_14_method_7_code 40 = .ok (.iconst 3, 1) := by decide +kernel
theorem d_Mo_copyOffice_41 : decode prog_14_method_7_code 41 = .ok (.iload_n 1, 1) := by decide +kernel
theorem d_Mo_copyOffice_42 : decode prog_14_method_7_code 42 = .ok (.imul, 1) := by decide +kernel
theorem d_Mo_copyOffice_43 : decode prog_14_method_7_code 43 = .ok (.iload_n 3, 1) := by decide +kernel
theorem d_Mo_copyOffice_44 : decode prog_14_method_7_code 44 = .ok (.iadd, 1) := by decide +kernel
theorem d_Mo_copyOffice_45 : decode prog_14_method_7_code 45 = .ok (.iaload, 1) := by decide +kernel
theorem d_Mo_copyOffice_46 : decode prog_14_method_7_code 46 = .ok (.iastore, 1) := by decide +kernel
theorem d_Mo_copyOffice_47 : decode prog_14_method_7_code 47 = .ok (.aload_n 0, 1) := by decide +kernel
theorem d_Mo_copyOffice_48 : decode prog_14_method_7_code 48 = .ok (.getfield 77, 3) := by decide +kernel
theorem d_Mo_copyOffice_51 : decode prog_14_method_7_code 51 = .ok (.iconst 3, 1) := by decide +kernel
theorem d_Mo_copyOffice_52 : decode prog_14_method_7_code 52 = .ok (.iload_n 2, 1) := by decide +kernel
theorem d_Mo_copyOffice_53 : decode prog_14_method_7_code 53 = .ok (.imul, 1) := by decide +kernel
theorem d_Mo_copyOffice_54 : decode prog_14_method_7_code 54 = .ok (.iload_n 3, 1) := by decide +kernel
theorem d_Mo_copyOffice_55 : decode prog_14_method_7_code 55 = .ok (.iadd, 1) := by decide +kernel
theorem d_Mo_copyOffice_56 : decode prog_14_method_7_code 56 = .ok (.aload_n 0, 1) := by decide +kernel
theorem d_Mo_copyOffice_57 : decode prog_14_method_7_code 57 = .ok (.getfield 77, 3) := by decide +kernel
theorem d_Mo_copyOffice_60 : decode prog_14_method_7_code 60 = .ok (.iconst 3, 1) := by decide +kernel
theorem d_Mo_copyOffice_61 : decode prog_14_method_7_code 61 = .ok (.iload_n 1, 1) := by decide +kernel
theorem d_Mo_copyOffice_62 : decode prog_14_method_7_code 62 = .ok (.imul, 1) := by decide +kernel
theorem d_Mo_copyOffice_63 : decode prog_14_method_7_code 63 = .ok (.iload_n 3, 1) := by decide +kernel
theorem d_Mo_copyOffice_64 : decode prog_14_method_7_code 64 = .ok (.iadd, 1) := by decide +kernel
theorem d_Mo_copyOffice_65 : decode prog_14_method_7_code 65 = .ok (.iaload, 1) := by decide +kernel
theorem d_Mo_copyOffice_66 : decode prog_14_method_7_code 66 = .ok (.iastore, 1) := by decide +kernel
theorem d_Mo_copyOffice_67 : decode prog_14_method_7_code 67 = .ok (.iinc 3 1, 3) := by decide +kernel
theorem d_Mo_copyOffice_70 : decode prog_14_method_7_code 70 = .ok (.goto (-68), 3) := by decide +kernel
theorem d_Mo_copyOffice_75 : decode prog_14_method_7_code 75 = .ok (.iload_n 3, 1) := by decide +kernel
theorem d_Mo_copyOffice_76 : decode prog_14_method_7_code 76 = .ok (.sipush 900, 3) := by decide +kernel
theorem d_Mo_copyOffice_79 : decode prog_14_method_7_code 79 = .ok (.if_icmp .ge 129, 3) := by decide +kernel
theorem d_Mo_copyOffice_208 : decode prog_14_method_7_code 208 = .ok (.iconst 0, 1) := by decide +kernel
theorem d_Mo_copyOffice_209 : decode prog_14_method_7_code 209 = .ok (.istore_n 3, 1) := by decide +kernel
theorem d_Mo_copyOffice_82 : decode prog_14_method_7_code 82 = .ok (.aload_n 0, 1) := by decide +kernel
theorem d_Mo_copyOffice_83 : decode prog_14_method_7_code 83 = .ok (.getfield 80, 3) := by decide +kernel
theorem d_Mo_copyOffice_86 : decode prog_14_method_7_code 86 = .ok (.sipush 900, 3) := by decide +kernel
theorem d_Mo_copyOffice_89 : decode prog_14_method_7_code 89 = .ok (.iload_n 2, 1) := by decide +kernel
theorem d_Mo_copyOffice_90 : decode prog_14_method_7_code 90 = .ok (.imul, 1) := by decide +kernel
theorem d_Mo_copyOffice_91 : decode prog_14_method_7_code 91 = .ok (.iload_n 3, 1) := by decide +kernel
theorem d_Mo_copyOffice_92 : decode prog_14_method_7_code 92 = .ok (.iadd, 1) := by decide +kernel
theorem d_Mo_copyOffice_93 : decode prog_14_method_7_code 93 = .ok (.aload_n 0, 1) := by decide +kernel
theorem d_Mo_copyOffice_94 : decode prog_14_method_7_code 94 = .ok (.getfield 80, 3) := by decide +kernel
theorem d_Mo_copyOffice_97 : decode prog_14_method_7_code 97 = .ok (.sipush 900, 3) := by decide +kernel
theorem d_Mo_copyOffice_100 : decode prog_14_method_7_code 100 = .ok (.iload_n 1, 1) := by decide +kernel
theorem d_Mo_copyOffice_101 : decode prog_14_method_7_code 101 = .ok (.imul, 1) := by decide +kernel
theorem d_Mo_copyOffice_102 : decode prog_14_method_7_code 102 = .ok (.iload_n 3, 1) := by decide +kernel
theorem d_Mo_copyOffice_103 : decode prog_14_method_7_code 103 = .ok (.iadd, 1) := by decide +kernel
theorem d_Mo_copyOffice_104 : decode prog_14_method_7_code 104 = .ok (.baload, 1) := by decide +kernel
theorem d_Mo_copyOffice_105 : decode prog_14_method_7_code 105 = .ok (.bastore, 1) := by decide +kernel
theorem d_Mo_copyOffice_106 : decode prog_14_method_7_code 106 = .ok (.aload_n 0, 1) := by decide +kernel
theorem d_Mo_copyOffice_107 : decode prog_14_method_7_code 107 = .ok (.getfield 83, 3) := by decide +kernel
theorem d_Mo_copyOffice_110 : decode prog_14_method_7_code 110 = .ok (.sipush 900, 3) := by decide +kernel
theorem d_Mo_copyOffice_113 : decode prog_14_method_7_code 113 = .ok (.iload_n 2, 1) := by decide +kernel
theorem d_Mo_copyOffice_114 : decode prog_14_method_7_code 114 = .ok (.imul, 1) := by decide +kernel
theorem d_Mo_copyOffice_115 : decode prog_14_method_7_code 115 = .ok (.iload_n 3, 1) := by decide +kernel
theorem d_Mo_copyOffice_116 : decode prog_14_method_7_code 116 = .ok (.iadd, 1) := by decide +kernel
theorem d_Mo_copyOffice_117 : decode prog_14_method_7_code 117 = .ok (.aload_n 0, 1) := by decide +kernel
theorem d_Mo_copyOffice_118 : decode prog_14_method_7_code 118 = .ok (.getfield 83, 3) := by decide +kernel
theorem d_Mo_copyOffice_121 : decode prog_14_method_7_code 121 = .ok (.sipush 900, 3) := by decide +kernel
theorem d_Mo_copyOffice_124 : decode prog_14_method_7_code 124 = .ok (.iload_n 1, 1) := by decide +kernel
theorem d_Mo_copyOffice_125 : decode prog_14_method_7_code 125 = .ok (.imul, 1) := by decide +kernel
theorem d_Mo_copyOffice_126 : decode prog_14_method_7_code 126 = .ok (.iload_n 3, 1) := by decide +kernel
theorem d_Mo_copyOffice_127 : decode prog_14_method_7_code 127 = .ok (.iadd, 1) := by decide +kernel
theorem d_Mo_copyOffice_128 : decode prog_14_method_7_code 128 = .ok (.baload, 1) := by decide +kernel
theorem d_Mo_copyOffice_129 : decode prog_14_method_7_code 129 = .ok (.bastore, 1) := by decide +kernel
theorem d_Mo_copyOffice_130 : decode prog_14_method_7_code 130 = .ok (.aload_n 0, 1) := by decide +kernel
theorem d_Mo_copyOffice_131 : decode prog_14_method_7_code 131 = .ok (.getfield 86, 3) := by decide +kernel
theorem d_Mo_copyOffice_134 : decode prog_14_method_7_code 134 = .ok (.sipush 900, 3) := by decide +kernel
theorem d_Mo_copyOffice_137 : decode prog_14_method_7_code 137 = .ok (.iload_n 2, 1) := by decide +kernel
theorem d_Mo_copyOffice_138 : decode prog_14_method_7_code 138 = .ok (.imul, 1) := by decide +kernel
theorem d_Mo_copyOffice_139 : decode prog_14_method_7_code 139 = .ok (.iload_n 3, 1) := by decide +kernel
theorem d_Mo_copyOffice_140 : decode prog_14_method_7_code 140 = .ok (.iadd, 1) := by decide +kernel
theorem d_Mo_copyOffice_141 : decode prog_14_method_7_code 141 = .ok (.aload_n 0, 1) := by decide +kernel
theorem d_Mo_copyOffice_142 : decode prog_14_method_7_code 142 = .ok (.getfield 86, 3) := by decide +kernel
theorem d_Mo_copyOffice_145 : decode prog_14_method_7_code 145 = .ok (.sipush 900, 3) := by decide +kernel
theorem d_Mo_copyOffice_148 : decode prog_14_method_7_code 148 = .ok (.iload_n 1, 1) := by decide +kernel
theorem d_Mo_copyOffice_149 : decode prog_14_method_7_code 149 = .ok (.imul, 1) := by decide +kernel
theorem d_Mo_copyOffice_150 : decode prog_14_method_7_code 150 = .ok (.iload_n 3, 1) := by decide +kernel
theorem d_Mo_copyOffice_151 : decode prog_14_method_7_code 151 = .ok (.iadd, 1) := by decide +kernel
theorem d_Mo_copyOffice_152 : decode prog_14_method_7_code 152 = .ok (.laload, 1) := by decide +kernel
theorem d_Mo_copyOffice_153 : decode prog_14_method_7_code 153 = .ok (.lastore, 1) := by decide +kernel
theorem d_Mo_copyOffice_154 : decode prog_14_method_7_code 154 = .ok (.aload_n 0, 1) := by decide +kernel
theorem d_Mo_copyOffice_155 : decode prog_14_method_7_code 155 = .ok (.getfield 89, 3) := by decide +kernel
theorem d_Mo_copyOffice_158 : decode prog_14_method_7_code 158 = .ok (.sipush 900, 3) := by decide +kernel
theorem d_Mo_copyOffice_161 : decode prog_14_method_7_code 161 = .ok (.iload_n 2, 1) := by decide +kernel
theorem d_Mo_copyOffice_162 : decode prog_14_method_7_code 162 = .ok (.imul, 1) := by decide +kernel
theorem d_Mo_copyOffice_163 : decode prog_14_method_7_code 163 = .ok (.iload_n 3, 1) := by decide +kernel
theorem d_Mo_copyOffice_164 : decode prog_14_method_7_code 164 = .ok (.iadd, 1) := by decide +kernel
theorem d_Mo_copyOffice_165 : decode prog_14_method_7_code 165 = .ok (.aload_n 0, 1) := by decide +kernel
theorem d_Mo_copyOffice_166 : decode prog_14_method_7_code 166 = .ok (.getfield 89, 3) := by decide +kernel
theorem d_Mo_copyOffice_169 : decode prog_14_method_7_code 169 = .ok (.sipush 900, 3) := by decide +kernel
theorem d_Mo_copyOffice_172 : decode prog_14_method_7_code 172 = .ok (.iload_n 1, 1) := by decide +kernel
theorem d_Mo_copyOffice_173 : decode prog_14_method_7_code 173 = .ok (.imul, 1) := by decide +kernel
theorem d_Mo_copyOffice_174 : decode prog_14_method_7_code 174 = .ok (.iload_n 3, 1) := by decide +kernel
theorem d_Mo_copyOffice_175 : decode prog_14_method_7_code 175 = .ok (.iadd, 1) := by decide +kernel
theorem d_Mo_copyOffice_176 : decode prog_14_method_7_code 176 = .ok (.iaload, 1) := by decide +kernel
theorem d_Mo_copyOffice_177 : decode prog_14_method_7_code 177 = .ok (.iastore, 1) := by decide +kernel
theorem d_Mo_copyOffice_178 : decode prog_14_method_7_code 178 = .ok (.aload_n 0, 1) := by decide +kernel
theorem d_Mo_copyOffice_179 : decode prog_14_method_7_code 179 = .ok (.getfield 92, 3) := by decide +kernel
theorem d_Mo_copyOffice_182 : decode prog_14_method_7_code 182 = .ok (.sipush 900, 3) := by decide +kernel
theorem d_Mo_copyOffice_185 : decode prog_14_method_7_code 185 = .ok (.iload_n 2, 1) := by decide +kernel
theorem d_Mo_copyOffice_186 : decode prog_14_method_7_code 186 = .ok (.imul, 1) := by decide +kernel
theorem d_Mo_copyOffice_187 : decode prog_14_method_7_code 187 = .ok (.iload_n 3, 1) := by decide +kernel
theorem d_Mo_copyOffice_188 : decode prog_14_method_7_code 188 = .ok (.iadd, 1) := by decide +kernel
theorem d_Mo_copyOffice_189 : decode prog_14_method_7_code 189 = .ok (.aload_n 0, 1) := by decide +kernel
theorem d_Mo_copyOffice_190 : decode prog_14_method_7_code 190 = .ok (.getfield 92, 3) := by decide +kernel
theorem d_Mo_copyOffice_193 : decode prog_14_method_7_code 193 = .ok (.sipush 900, 3) := by decide +kernel
theorem d_Mo_copyOffice_196 : decode prog_14_method_7_code 196 = .ok (.iload_n 1, 1) := by decide +kernel
theorem d_Mo_copyOffice_197 : decode prog_14_method_7_code 197 = .ok (.imul, 1) := by decide +kernel
theorem d_Mo_copyOffice_198 : decode prog_14_method_7_code 198 = .ok (.iload_n 3, 1) := by decide +kernel
theorem d_Mo_copyOffice_199 : decode prog_14_method_7_code 199 = .ok (.iadd, 1) := by decide +kernel
theorem d_Mo_copyOffice_200 : decode prog_14_method_7_code 200 = .ok (.baload, 1) := by decide +kernel
theorem d_Mo_copyOffice_201 : decode prog_14_method_7_code 201 = .ok (.bastore, 1) := by decide +kernel
theorem d_Mo_copyOffice_202 : decode prog_14_method_7_code 202 = .ok (.iinc 3 1, 3) := by decide +kernel
theorem d_Mo_copyOffice_205 : decode prog_14_method_7_code 205 = .ok (.goto (-130), 3) := by decide +kernel
theorem d_Mo_copyOffice_210 : decode prog_14_method_7_code 210 = .ok (.iload_n 3, 1) := by decide +kernel
theorem d_Mo_copyOffice_211 : decode prog_14_method_7_code 211 = .ok (.bipush 6, 2) := by decide +kernel
theorem d_Mo_copyOffice_213 : decode prog_14_method_7_code 213 = .ok (.if_icmp .ge 119, 3) := by decide +kernel
theorem d_Mo_copyOffice_332 : decode prog_14_method_7_code 332 = .ok (.return_, 1) := by decide +kernel
theorem d_Mo_copyOffice_216 : decode prog_14_method_7_code 216 = .ok (.aload_n 0, 1) := by decide +kernel
theorem d_Mo_copyOffice_217 : decode prog_14_method_7_code 217 = .ok (.getfield 95, 3) := by decide +kernel
theorem d_Mo_copyOffice_220 : decode prog_14_method_7_code 220 = .ok (.bipush 6, 2) := by decide +kernel
theorem d_Mo_copyOffice_222 : decode prog_14_method_7_code 222 = .ok (.iload_n 2, 1) := by decide +kernel
theorem d_Mo_copyOffice_223 : decode prog_14_method_7_code 223 = .ok (.imul, 1) := by decide +kernel
theorem d_Mo_copyOffice_224 : decode prog_14_method_7_code 224 = .ok (.iload_n 3, 1) := by decide +kernel
theorem d_Mo_copyOffice_225 : decode prog_14_method_7_code 225 = .ok (.iadd, 1) := by decide +kernel
theorem d_Mo_copyOffice_226 : decode prog_14_method_7_code 226 = .ok (.aload_n 0, 1) := by decide +kernel
theorem d_Mo_copyOffice_227 : decode prog_14_method_7_code 227 = .ok (.getfield 95, 3) := by decide +kernel
theorem d_Mo_copyOffice_230 : decode prog_14_method_7_code 230 = .ok (.bipush 6, 2) := by decide +kernel
theorem d_Mo_copyOffice_232 : decode prog_14_method_7_code 232 = .ok (.iload_n 1, 1) := by decide +kernel
theorem d_Mo_copyOffice_233 : decode prog_14_method_7_code 233 = .ok (.imul, 1) := by decide +kernel
theorem d_Mo_copyOffice_234 : decode prog_14_method_7_code 234 = .ok (.iload_n 3, 1) := by decide +kernel
theorem d_Mo_copyOffice_235 : decode prog_14_method_7_code 235 = .ok (.iadd, 1) := by decide +kernel
theorem d_Mo_copyOffice_236 : decode prog_14_method_7_code 236 = .ok (.baload, 1) := by decide +kernel
theorem d_Mo_copyOffice_237 : decode prog_14_method_7_code 237 = .ok (.bastore, 1) := by decide +kernel
theorem d_Mo_copyOffice_238 : decode prog_14_method_7_code 238 = .ok (.aload_n 0, 1) := by decide +kernel
theorem d_Mo_copyOffice_239 : decode prog_14_method_7_code 239 = .ok (.getfield 98, 3) := by decide +kernel
theorem d_Mo_copyOffice_242 : decode prog_14_method_7_code 242 = .ok (.bipush 6, 2) := by decide +kernel
theorem d_Mo_copyOffice_244 : decode prog_14_method_7_code 244 = .ok (.iload_n 2, 1) := by decide +kernel
theorem d_Mo_copyOffice_245 : decode prog_14_method_7_code 245 = .ok (.imul, 1) := by decide +kernel
theorem d_Mo_copyOffice_246 : decode prog_14_method_7_code 246 = .ok (.iload_n 3, 1) := by decide +kernel
theorem d_Mo_copyOffice_247 : decode prog_14_method_7_code 247 = .ok (.iadd, 1) := by decide +kernel
theorem d_Mo_copyOffice_248 : decode prog_14_method_7_code 248 = .ok (.aload_n 0, 1) := by decide +kernel
theorem d_Mo_copyOffice_249 : decode prog_14_method_7_code 249 = .ok (.getfield 98, 3) := by decide +kernel
theorem d_Mo_copyOffice_252 : decode prog_14_method_7_code 252 = .ok (.bipush 6, 2) := by decide +kernel
theorem d_Mo_copyOffice_254 : decode prog_14_method_7_code 254 = .ok (.iload_n 1, 1) := by decide +kernel
theorem d_Mo_copyOffice_255 : decode prog_14_method_7_code 255 = .ok (.imul, 1) := by decide +kernel
theorem d_Mo_copyOffice_256 : decode prog_14_method_7_code 256 = .ok (.iload_n 3, 1) := by decide +kernel
theorem d_Mo_copyOffice_257 : decode prog_14_method_7_code 257 = .ok (.iadd, 1) := by decide +kernel
theorem d_Mo_copyOffice_258 : decode prog_14_method_7_code 258 = .ok (.iaload, 1) := by decide +kernel
theorem d_Mo_copyOffice_259 : decode prog_14_method_7_code 259 = .ok (.iastore, 1) := by decide +kernel
theorem d_Mo_copyOffice_260 : decode prog_14_method_7_code 260 = .ok (.aload_n 0, 1) := by decide +kernel
theorem d_Mo_copyOffice_261 : decode prog_14_method_7_code 261 = .ok (.getfield 101, 3) := by decide +kernel
theorem d_Mo_copyOffice_264 : decode prog_14_method_7_code 264 = .ok (.bipush 6, 2) := by decide +kernel
theorem d_Mo_copyOffice_266 : decode prog_14_method_7_code 266 = .ok (.iload_n 2, 1) := by decide +kernel
theorem d_Mo_copyOffice_267 : decode prog_14_method_7_code 267 = .ok (.imul, 1) := by decide +kernel
theorem d_Mo_copyOffice_268 : decode prog_14_method_7_code 268 = .ok (.iload_n 3, 1) := by decide +kernel
theorem d_Mo_copyOffice_269 : decode prog_14_method_7_code 269 = .ok (.iadd, 1) := by decide +kernel
theorem d_Mo_copyOffice_270 : decode prog_14_method_7_code 270 = .ok (.aload_n 0, 1) := by decide +kernel
theorem d_Mo_copyOffice_271 : decode prog_14_method_7_code 271 = .ok (.getfield 101, 3) := by decide +kernel
theorem d_Mo_copyOffice_274 : decode prog_14_method_7_code 274 = .ok (.bipush 6, 2) := by decide +kernel
theorem d_Mo_copyOffice_276 : decode prog_14_method_7_code 276 = .ok (.iload_n 1, 1) := by decide +kernel
theorem d_Mo_copyOffice_277 : decode prog_14_method_7_code 277 = .ok (.imul, 1) := by decide +kernel
theorem d_Mo_copyOffice_278 : decode prog_14_method_7_code 278 = .ok (.iload_n 3, 1) := by decide +kernel
theorem d_Mo_copyOffice_279 : decode prog_14_method_7_code 279 = .ok (.iadd, 1) := by decide +kernel
theorem d_Mo_copyOffice_280 : decode prog_14_method_7_code 280 = .ok (.iaload, 1) := by decide +kernel
theorem d_Mo_copyOffice_281 : decode prog_14_method_7_code 281 = .ok (.iastore, 1) := by decide +kernel
theorem d_Mo_copyOffice_282 : decode prog_14_method_7_code 282 = .ok (.aload_n 0, 1) := by decide +kernel
theorem d_Mo_copyOffice_283 : decode prog_14_method_7_code 283 = .ok (.getfield 104, 3) := by decide +kernel
theorem d_Mo_copyOffice_286 : decode prog_14_method_7_code 286 = .ok (.bipush 6, 2) := by decide +kernel
theorem d_Mo_copyOffice_288 : decode prog_14_method_7_code 288 = .ok (.iload_n 2, 1) := by decide +kernel
theorem d_Mo_copyOffice_289 : decode prog_14_method_7_code 289 = .ok (.imul, 1) := by decide +kernel
theorem d_Mo_copyOffice_290 : decode prog_14_method_7_code 290 = .ok (.iload_n 3, 1) := by decide +kernel
theorem d_Mo_copyOffice_291 : decode prog_14_method_7_code 291 = .ok (.iadd, 1) := by decide +kernel
theorem d_Mo_copyOffice_292 : decode prog_14_method_7_code 292 = .ok (.aload_n 0, 1) := by decide +kernel
theorem d_Mo_copyOffice_293 : decode prog_14_method_7_code 293 = .ok (.getfield 104, 3) := by decide +kernel
theorem d_Mo_copyOffice_296 : decode prog_14_method_7_code 296 = .ok (.bipush 6, 2) := by decide +kernel
theorem d_Mo_copyOffice_298 : decode prog_14_method_7_code 298 = .ok (.iload_n 1, 1) := by decide +kernel
theorem d_Mo_copyOffice_299 : decode prog_14_method_7_code 299 = .ok (.imul, 1) := by decide +kernel
theorem d_Mo_copyOffice_300 : decode prog_14_method_7_code 300 = .ok (.iload_n 3, 1) := by decide +kernel
theorem d_Mo_copyOffice_301 : decode prog_14_method_7_code 301 = .ok (.iadd, 1) := by decide +kernel
theorem d_Mo_copyOffice_302 : decode prog_14_method_7_code 302 = .ok (.iaload, 1) := by decide +kernel
theorem d_Mo_copyOffice_303 : decode prog_14_method_7_code 303 = .ok (.iastore, 1) := by decide +kernel
theorem d_Mo_copyOffice_304 : decode prog_14_method_7_code 304 = .ok (.aload_n 0, 1) := by decide +kernel
theorem d_Mo_copyOffice_305 : decode prog_14_method_7_code 305 = .ok (.getfield 107, 3) := by decide +kernel
theorem d_Mo_copyOffice_308 : decode prog_14_method_7_code 308 = .ok (.bipush 6, 2) := by decide +kernel
theorem d_Mo_copyOffice_310 : decode prog_14_method_7_code 310 = .ok (.iload_n 2, 1) := by decide +kernel
theorem d_Mo_copyOffice_311 : decode prog_14_method_7_code 311 = .ok (.imul, 1) := by decide +kernel
theorem d_Mo_copyOffice_312 : decode prog_14_method_7_code 312 = .ok (.iload_n 3, 1) := by decide +kernel
theorem d_Mo_copyOffice_313 : decode prog_14_method_7_code 313 = .ok (.iadd, 1) := by decide +kernel
theorem d_Mo_copyOffice_314 : decode prog_14_method_7_code 314 = .ok (.aload_n 0, 1) := by decide +kernel
theorem d_Mo_copyOffice_315 : decode prog_14_method_7_code 315 = .ok (.getfield 107, 3) := by decide +kernel
theorem d_Mo_copyOffice_318 : decode prog_14_method_7_code 318 = .ok (.bipush 6, 2) := by decide +kernel
theorem d_Mo_copyOffice_320 : decode prog_14_method_7_code 320 = .ok (.iload_n 1, 1) := by decide +kernel
theorem d_Mo_copyOffice_321 : decode prog_14_method_7_code 321 = .ok (.imul, 1) := by decide +kernel
theorem d_Mo_copyOffice_322 : decode prog_14_method_7_code 322 = .ok (.iload_n 3, 1) := by decide +kernel
theorem d_Mo_copyOffice_323 : decode prog_14_method_7_code 323 = .ok (.iadd, 1) := by decide +kernel
theorem d_Mo_copyOffice_324 : decode prog_14_method_7_code 324 = .ok (.iaload, 1) := by decide +kernel
theorem d_Mo_copyOffice_325 : decode prog_14_method_7_code 325 = .ok (.iastore, 1) := by decide +kernel
theorem d_Mo_copyOffice_326 : decode prog_14_method_7_code 326 = .ok (.iinc 3 1, 3) := by decide +kernel
theorem d_Mo_copyOffice_329 : decode prog_14_method_7_code 329 = .ok (.goto (-119), 3) := by decide +kernel
theorem d_Mo_copyBranch_0 : decode prog_14_method_6_code 0 = .ok (.aload_n 0, 1) := by decide +kernel
theorem d_Mo_copyBranch_1 : decode prog_14_method_6_code 1 = .ok (.getfield 53, 3) := by decide +kernel
theorem d_Mo_copyBranch_4 : decode prog_14_method_6_code 4 = .ok (.iload_n 2, 1) := by decide +kernel
theorem d_Mo_copyBranch_5 : decode prog_14_method_6_code 5 = .ok (.aload_n 0, 1) := by decide +kernel
theorem d_Mo_copyBranch_6 : decode prog_14_method_6_code 6 = .ok (.getfield 53, 3) := by decide +kernel
theorem d_Mo_copyBranch_9 : decode prog_14_method_6_code 9 = .ok (.iload_n 1, 1) := by decide +kernel
theorem d_Mo_copyBranch_10 : decode prog_14_method_6_code 10 = .ok (.iaload, 1) := by decide +kernel
theorem d_Mo_copyBranch_11 : decode prog_14_method_6_code 11 = .ok (.iastore, 1) := by decide +kernel
theorem d_Mo_copyBranch_12 : decode prog_14_method_6_code 12 = .ok (.aload_n 0, 1) := by decide +kernel
theorem d_Mo_copyBranch_13 : decode prog_14_method_6_code 13 = .ok (.getfield 56, 3) := by decide +kernel
theorem d_Mo_copyBranch_16 : decode prog_14_method_6_code 16 = .ok (.iload_n 2, 1) := by decide +kernel
theorem d_Mo_copyBranch_17 : decode prog_14_method_6_code 17 = .ok (.aload_n 0, 1) := by decide +kernel
theorem d_Mo_copyBranch_18 : decode prog_14_method_6_code 18 = .ok (.getfield 56, 3) := by decide +kernel
theorem d_Mo_copyBranch_21 : decode prog_14_method_6_code 21 = .ok (.iload_n 1, 1) := by decide +kernel
theorem d_Mo_copyBranch_22 : decode prog_14_method_6_code 22 = .ok (.iaload, 1) := by decide +kernel
theorem d_Mo_copyBranch_23 : decode prog_14_method_6_code 23 = .ok (.iastore, 1) := by decide +kernel
theorem d_Mo_copyBranch_24 : decode prog_14_method_6_code 24 = .ok (.aload_n 0, 1) := by decide +kernel
theorem d_Mo_copyBranch_25 : decode prog_14_method_6_code 25 = .ok (.getfield 59, 3) := by decide +kernel
theorem d_Mo_copyBranch_28 : decode prog_14_method_6_code 28 = .ok (.iload_n 2, 1) := by decide +kernel
theorem d_Mo_copyBranch_29 : decode prog_14_method_6_code 29 = .ok (.aload_n 0, 1) := by decide +kernel
theorem d_Mo_copyBranch_30 : decode prog_14_method_6_code 30 = .ok (.getfield 59, 3) := by decide +kernel
theorem d_Mo_copyBranch_33 : decode prog_14_method_6_code 33 = .ok (.iload_n 1, 1) := by decide +kernel
theorem d_Mo_copyBranch_34 : decode prog_14_method_6_code 34 = .ok (.iaload, 1) := by decide +kernel
theorem d_Mo_copyBranch_35 : decode prog_14_method_6_code 35 = .ok (.iastore, 1) := by decide +kernel
theorem d_Mo_copyBranch_36 : decode prog_14_method_6_code 36 = .ok (.aload_n 0, 1) := by decide +kernel
theorem d_Mo_copyBranch_37 : decode prog_14_method_6_code 37 = .ok (.getfield 62, 3) := by decide +kernel
theorem d_Mo_copyBranch_40 : decode prog_14_method_6_code 40 = .ok (.iload_n 2, 1) := by decide +kernel
theorem d_Mo_copyBranch_41 : decode prog_14_method_6_code 41 = .ok (.aload_n 0, 1) := by decide +kernel
theorem d_Mo_copyBranch_42 : decode prog_14_method_6_code 42 = .ok (.getfield 62, 3) := by decide +kernel
theorem d_Mo_copyBranch_45 : decode prog_14_method_6_code 45 = .ok (.iload_n 1, 1) := by decide +kernel
theorem d_Mo_copyBranch_46 : decode prog_14_method_6_code 46 = .ok (.iaload, 1) := by decide +kernel
theorem d_Mo_copyBranch_47 : decode prog_14_method_6_code 47 = .ok (.iastore, 1) := by decide +kernel
theorem d_Mo_copyBranch_48 : decode prog_14_method_6_code 48 = .ok (.aload_n 0, 1) := by decide +kernel
theorem d_Mo_copyBranch_49 : decode prog_14_method_6_code 49 = .ok (.getfield 65, 3) := by decide +kernel
theorem d_Mo_copyBranch_52 : decode prog_14_method_6_code 52 = .ok (.iload_n 2, 1) := by decide +kernel
theorem d_Mo_copyBranch_53 : decode prog_14_method_6_code 53 = .ok (.aload_n 0, 1) := by decide +kernel
theorem d_Mo_copyBranch_54 : decode prog_14_method_6_code 54 = .ok (.getfield 65, 3) := by decide +kernel
theorem d_Mo_copyBranch_57 : decode prog_14_method_6_code 57 = .ok (.iload_n 1, 1) := by decide +kernel
theorem d_Mo_copyBranch_58 : decode prog_14_method_6_code 58 = .ok (.baload, 1) := by decide +kernel
theorem d_Mo_copyBranch_59 : decode prog_14_method_6_code 59 = .ok (.bastore, 1) := by decide +kernel
theorem d_Mo_copyBranch_60 : decode prog_14_method_6_code 60 = .ok (.aload_n 0, 1) := by decide +kernel
theorem d_Mo_copyBranch_61 : decode prog_14_method_6_code 61 = .ok (.getfield 68, 3) := by decide +kernel
theorem d_Mo_copyBranch_64 : decode prog_14_method_6_code 64 = .ok (.iload_n 2, 1) := by decide +kernel
theorem d_Mo_copyBranch_65 : decode prog_14_method_6_code 65 = .ok (.aload_n 0, 1) := by decide +kernel
theorem d_Mo_copyBranch_66 : decode prog_14_method_6_code 66 = .ok (.getfield 68, 3) := by decide +kernel
theorem d_Mo_copyBranch_69 : decode prog_14_method_6_code 69 = .ok (.iload_n 1, 1) := by decide +kernel
theorem d_Mo_copyBranch_70 : decode prog_14_method_6_code 70 = .ok (.baload, 1) := by decide +kernel
theorem d_Mo_copyBranch_71 : decode prog_14_method_6_code 71 = .ok (.bastore, 1) := by decide +kernel
theorem d_Mo_copyBranch_72 : decode prog_14_method_6_code 72 = .ok (.iconst 0, 1) := by decide +kernel
theorem d_Mo_copyBranch_73 : decode prog_14_method_6_code 73 = .ok (.istore_n 3, 1) := by decide +kernel
theorem d_Mo_copyBranch_74 : decode prog_14_method_6_code 74 = .ok (.iload_n 3, 1) := by decide +kernel
theorem d_Mo_copyBranch_75 : decode prog_14_method_6_code 75 = .ok (.iconst 3, 1) := by decide +kernel
theorem d_Mo_copyBranch_76 : decode prog_14_method_6_code 76 = .ok (.if_icmp .ge 23, 3) := by decide +kernel
theorem d_Mo_copyBranch_99 : decode prog_14_method_6_code 99 = .ok (.return_, 1) := by decide +kernel
theorem d_Mo_copyBranch_79 : decode prog_14_method_6_code 79 = .ok (.aload_n 0, 1) := by decide +kernel
theorem d_Mo_copyBranch_80 : decode prog_14_method_6_code 80 = .ok (.iconst 3, 1) := by decide +kernel
theorem d_Mo_copyBranch_81 : decode prog_14_method_6_code 81 = .ok (.iload_n 1, 1) := by decide +kernel
theorem d_Mo_copyBranch_82 : decode prog_14_method_6_code 82 = .ok (.imul, 1) := by decide +kernel
theorem d_Mo_copyBranch_83 : decode prog_14_method_6_code 83 = .ok (.iload_n 3, 1) := by decide +kernel
theorem d_Mo_copyBranch_84 : decode prog_14_method_6_code 84 = .ok (.iadd, 1) := by decide +kernel
theorem d_Mo_copyBranch_85 : decode prog_14_method_6_code 85 = .ok (.iconst 3, 1) := by decide +kernel
theorem d_Mo_copyBranch_86 : decode prog_14_method_6_code 86 = .ok (.iload_n 2, 1) := by decide +kernel
theorem d_Mo_copyBranch_87 : decode prog_14_method_6_code 87 = .ok (.imul, 1) := by decide +kernel
theorem d_Mo_copyBranch_88 : decode prog_14_method_6_code 88 = .ok (.iload_n 3, 1) := by decide +kernel
theorem d_Mo_copyBranch_89 : decode prog_14_method_6_code 89 = .ok (.iadd, 1) := by decide +kernel
theorem d_Mo_copyBranch_90 : decode prog_14_method_6_code 90 = .ok (.invokevirtual 123, 3) := by decide +kernel
theorem d_Mo_copyBook_0 : decode prog_14_method_5_code 0 = .ok (.aload_n 0, 1) := by decide +kernel
theorem d_Mo_copyBook_1 : decode prog_14_method_5_code 1 = .ok (.getfield 13, 3) := by decide +kernel
theorem d_Mo_copyBook_4 : decode prog_14_method_5_code 4 = .ok (.iload_n 2, 1) := by decide +kernel
theorem d_Mo_copyBook_5 : decode prog_14_method_5_code 5 = .ok (.aload_n 0, 1) := by decide +kernel
theorem d_Mo_copyBook_6 : decode prog_14_method_5_code 6 = .ok (.getfield 13, 3) := by decide +kernel
theorem d_Mo_copyBook_9 : decode prog_14_method_5_code 9 = .ok (.iload_n 1, 1) := by decide +kernel
theorem d_Mo_copyBook_10 : decode prog_14_method_5_code 10 = .ok (.iaload, 1) := by decide +kernel
theorem d_Mo_copyBook_11 : decode prog_14_method_5_code 11 = .ok (.iastore, 1) := by decide +kernel
theorem d_Mo_copyBook_12 : decode prog_14_method_5_code 12 = .ok (.aload_n 0, 1) := by decide +kernel
theorem d_Mo_copyBook_13 : decode prog_14_method_5_code 13 = .ok (.getfield 17, 3) := by decide +kernel
theorem d_Mo_copyBook_16 : decode prog_14_method_5_code 16 = .ok (.iload_n 2, 1) := by decide +kernel
theorem d_Mo_copyBook_17 : decode prog_14_method_5_code 17 = .ok (.aload_n 0, 1) := by decide +kernel
theorem d_Mo_copyBook_18 : decode prog_14_method_5_code 18 = .ok (.getfield 17, 3) := by decide +kernel
theorem d_Mo_copyBook_21 : decode prog_14_method_5_code 21 = .ok (.iload_n 1, 1) := by decide +kernel
theorem d_Mo_copyBook_22 : decode prog_14_method_5_code 22 = .ok (.iaload, 1) := by decide +kernel
theorem d_Mo_copyBook_23 : decode prog_14_method_5_code 23 = .ok (.iastore, 1) := by decide +kernel
theorem d_Mo_copyBook_24 : decode prog_14_method_5_code 24 = .ok (.aload_n 0, 1) := by decide +kernel
theorem d_Mo_copyBook_25 : decode prog_14_method_5_code 25 = .ok (.getfield 20, 3) := by decide +kernel
theorem d_Mo_copyBook_28 : decode prog_14_method_5_code 28 = .ok (.iload_n 2, 1) := by decide +kernel
theorem d_Mo_copyBook_29 : decode prog_14_method_5_code 29 = .ok (.aload_n 0, 1) := by decide +kernel
theorem d_Mo_copyBook_30 : decode prog_14_method_5_code 30 = .ok (.getfield 20, 3) := by decide +kernel
theorem d_Mo_copyBook_33 : decode prog_14_method_5_code 33 = .ok (.iload_n 1, 1) := by decide +kernel
theorem d_Mo_copyBook_34 : decode prog_14_method_5_code 34 = .ok (.iaload, 1) := by decide +kernel
theorem d_Mo_copyBook_35 : decode prog_14_method_5_code 35 = .ok (.iastore, 1) := by decide +kernel
theorem d_Mo_copyBook_36 : decode prog_14_method_5_code 36 = .ok (.aload_n 0, 1) := by decide +kernel
theorem d_Mo_copyBook_37 : decode prog_14_method_5_code 37 = .ok (.getfield 23, 3) := by decide +kernel
theorem d_Mo_copyBook_40 : decode prog_14_method_5_code 40 = .ok (.iload_n 2, 1) := by decide +kernel
theorem d_Mo_copyBook_41 : decode prog_14_method_5_code 41 = .ok (.aload_n 0, 1) := by decide +kernel
theorem d_Mo_copyBook_42 : decode prog_14_method_5_code 42 = .ok (.getfield 23, 3) := by decide +kernel
theorem d_Mo_copyBook_45 : decode prog_14_method_5_code 45 = .ok (.iload_n 1, 1) := by decide +kernel
theorem d_Mo_copyBook_46 : decode prog_14_method_5_code 46 = .ok (.iaload, 1) := by decide +kernel
theorem d_Mo_copyBook_47 : decode prog_14_method_5_code 47 = .ok (.iastore, 1) := by decide +kernel
theorem d_Mo_copyBook_48 : decode prog_14_method_5_code 48 = .ok (.aload_n 0, 1) := by decide +kernel
theorem d_Mo_copyBook_49 : decode prog_14_method_5_code 49 = .ok (.getfield 26, 3) := by decide +kernel
theorem d_Mo_copyBook_52 : decode prog_14_method_5_code 52 = .ok (.iload_n 2, 1) := by decide +kernel
theorem d_Mo_copyBook_53 : decode prog_14_method_5_code 53 = .ok (.aload_n 0, 1) := by decide +kernel
theorem d_Mo_copyBook_54 : decode prog_14_method_5_code 54 = .ok (.getfield 26, 3) := by decide +kernel
theorem d_Mo_copyBook_57 : decode prog_14_method_5_code 57 = .ok (.iload_n 1, 1) := by decide +kernel
theorem d_Mo_copyBook_58 : decode prog_14_method_5_code 58 = .ok (.iaload, 1) := by decide +kernel
theorem d_Mo_copyBook_59 : decode prog_14_method_5_code 59 = .ok (.iastore, 1) := by decide +kernel
theorem d_Mo_copyBook_60 : decode prog_14_method_5_code 60 = .ok (.iconst 0, 1) := by decide +kernel
theorem d_Mo_copyBook_61 : decode prog_14_method_5_code 61 = .ok (.istore_n 3, 1) := by decide +kernel
theorem d_Mo_copyBook_62 : decode prog_14_method_5_code 62 = .ok (.iload_n 3, 1) := by decide +kernel
theorem d_Mo_copyBook_63 : decode prog_14_method_5_code 63 = .ok (.aload_n 0, 1) := by decide +kernel
theorem d_Mo_copyBook_64 : decode prog_14_method_5_code 64 = .ok (.getfield 13, 3) := by decide +kernel
theorem d_Mo_copyBook_67 : decode prog_14_method_5_code 67 = .ok (.iload_n 1, 1) := by decide +kernel
theorem d_Mo_copyBook_68 : decode prog_14_method_5_code 68 = .ok (.iaload, 1) := by decide +kernel
theorem d_Mo_copyBook_69 : decode prog_14_method_5_code 69 = .ok (.if_icmp .ge 153, 3) := by decide +kernel
theorem d_Mo_copyBook_222 : decode prog_14_method_5_code 222 = .ok (.iconst 0, 1) := by decide +kernel
theorem d_Mo_copyBook_223 : decode prog_14_method_5_code 223 = .ok (.istore_n 3, 1) := by decide +kernel
theorem d_Mo_copyBook_72 : decode prog_14_method_5_code 72 = .ok (.aload_n 0, 1) := by decide +kernel
theorem d_Mo_copyBook_73 : decode prog_14_method_5_code 73 = .ok (.getfield 29, 3) := by decide +kernel
theorem d_Mo_copyBook_76 : decode prog_14_method_5_code 76 = .ok (.sipush 300, 3) := by decide +kernel
theorem d_Mo_copyBook_79 : decode prog_14_method_5_code 79 = .ok (.iload_n 2, 1) := by decide +kernel
theorem d_Mo_copyBook_80 : decode prog_14_method_5_code 80 = .ok (.imul, 1) := by decide +kernel
theorem d_Mo_copyBook_81 : decode prog_14_method_5_code 81 = .ok (.iload_n 3, 1) := by decide +kernel
theorem d_Mo_copyBook_82 : decode prog_14_method_5_code 82 = .ok (.iadd, 1) := by decide +kernel
theorem d_Mo_copyBook_83 : decode prog_14_method_5_code 83 = .ok (.aload_n 0, 1) := by decide +kernel
theorem d_Mo_copyBook_84 : decode prog_14_method_5_code 84 = .ok (.getfield 29, 3) := by decide +kernel
theorem d_Mo_copyBook_87 : decode prog_14_method_5_code 87 = .ok (.sipush 300, 3) := by decide +kernel
theorem d_Mo_copyBook_90 : decode prog_14_method_5_code 90 = .ok (.iload_n 1, 1) := by decide +kernel
theorem d_Mo_copyBook_91 : decode prog_14_method_5_code 91 = .ok (.imul, 1) := by decide +kernel
theorem d_Mo_copyBook_92 : decode prog_14_method_5_code 92 = .ok (.iload_n 3, 1) := by decide +kernel
theorem d_Mo_copyBook_93 : decode prog_14_method_5_code 93 = .ok (.iadd, 1) := by decide +kernel
theorem d_Mo_copyBook_94 : decode prog_14_method_5_code 94 = .ok (.saload, 1) := by decide +kernel
theorem d_Mo_copyBook_95 : decode prog_14_method_5_code 95 = .ok (.sastore, 1) := by decide +kernel
theorem d_Mo_copyBook_96 : decode prog_14_method_5_code 96 = .ok (.aload_n 0, 1) := by decide +kernel
theorem d_Mo_copyBook_97 : decode prog_14_method_5_code 97 = .ok (.getfield 33, 3) := by decide +kernel
theorem d_Mo_copyBook_100 : decode prog_14_method_5_code 100 = .ok (.sipush 300, 3) := by decide +kernel
theorem d_Mo_copyBook_103 : decode prog_14_method_5_code 103 = .ok (.iload_n 2, 1) := by decide +kernel
theorem d_Mo_copyBook_104 : decode prog_14_method_5_code 104 = .ok (.imul, 1) := by decide +kernel
theorem d_Mo_copyBook_105 : decode prog_14_method_5_code 105 = .ok (.iload_n 3, 1) := by decide +kernel
theorem d_Mo_copyBook_106 : decode prog_14_method_5_code 106 = .ok (.iadd, 1) := by decide +kernel
theorem d_Mo_copyBook_107 : decode prog_14_method_5_code 107 = .ok (.aload_n 0, 1) := by decide +kernel
theorem d_Mo_copyBook_108 : decode prog_14_method_5_code 108 = .ok (.getfield 33, 3) := by decide +kernel
theorem d_Mo_copyBook_111 : decode prog_14_method_5_code 111 = .ok (.sipush 300, 3) := by decide +kernel
theorem d_Mo_copyBook_114 : decode prog_14_method_5_code 114 = .ok (.iload_n 1, 1) := by decide +kernel
theorem d_Mo_copyBook_115 : decode prog_14_method_5_code 115 = .ok (.imul, 1) := by decide +kernel
theorem d_Mo_copyBook_116 : decode prog_14_method_5_code 116 = .ok (.iload_n 3, 1) := by decide +kernel
theorem d_Mo_copyBook_117 : decode prog_14_method_5_code 117 = .ok (.iadd, 1) := by decide +kernel
theorem d_Mo_copyBook_118 : decode prog_14_method_5_code 118 = .ok (.saload, 1) := by decide +kernel
theorem d_Mo_copyBook_119 : decode prog_14_method_5_code 119 = .ok (.sastore, 1) := by decide +kernel
theorem d_Mo_copyBook_120 : decode prog_14_method_5_code 120 = .ok (.aload_n 0, 1) := by decide +kernel
theorem d_Mo_copyBook_121 : decode prog_14_method_5_code 121 = .ok (.getfield 36, 3) := by decide +kernel
theorem d_Mo_copyBook_124 : decode prog_14_method_5_code 124 = .ok (.sipush 300, 3) := by decide +kernel
theorem d_Mo_copyBook_127 : decode prog_14_method_5_code 127 = .ok (.iload_n 2, 1) := by decide +kernel
theorem d_Mo_copyBook_128 : decode prog_14_method_5_code 128 = .ok (.imul, 1) := by decide +kernel
theorem d_Mo_copyBook_129 : decode prog_14_method_5_code 129 = .ok (.iload_n 3, 1) := by decide +kernel
theorem d_Mo_copyBook_130 : decode prog_14_method_5_code 130 = .ok (.iadd, 1) := by decide +kernel
theorem d_Mo_copyBook_131 : decode prog_14_method_5_code 131 = .ok (.aload_n 0, 1) := by decide +kernel
theorem d_Mo_copyBook_132 : decode prog_14_method_5_code 132 = .ok (.getfield 36, 3) := by decide +kernel
theorem d_Mo_copyBook_135 : decode prog_14_method_5_code 135 = .ok (.sipush 300, 3) := by decide +kernel
theorem d_Mo_copyBook_138 : decode prog_14_method_5_code 138 = .ok (.iload_n 1, 1) := by decide +kernel
theorem d_Mo_copyBook_139 : decode prog_14_method_5_code 139 = .ok (.imul, 1) := by decide +kernel
theorem d_Mo_copyBook_140 : decode prog_14_method_5_code 140 = .ok (.iload_n 3, 1) := by decide +kernel
theorem d_Mo_copyBook_141 : decode prog_14_method_5_code 141 = .ok (.iadd, 1) := by decide +kernel
theorem d_Mo_copyBook_142 : decode prog_14_method_5_code 142 = .ok (.baload, 1) := by decide +kernel
theorem d_Mo_copyBook_143 : decode prog_14_method_5_code 143 = .ok (.bastore, 1) := by decide +kernel
theorem d_Mo_copyBook_144 : decode prog_14_method_5_code 144 = .ok (.aload_n 0, 1) := by decide +kernel
theorem d_Mo_copyBook_145 : decode prog_14_method_5_code 145 = .ok (.getfield 40, 3) := by decide +kernel
theorem d_Mo_copyBook_148 : decode prog_14_method_5_code 148 = .ok (.sipush 300, 3) := by decide +kernel
theorem d_Mo_copyBook_151 : decode prog_14_method_5_code 151 = .ok (.iload_n 2, 1) := by decide +kernel
theorem d_Mo_copyBook_152 : decode prog_14_method_5_code 152 = .ok (.imul, 1) := by decide +kernel
theorem d_Mo_copyBook_153 : decode prog_14_method_5_code 153 = .ok (.iload_n 3, 1) := by decide +kernel
theorem d_Mo_copyBook_154 : decode prog_14_method_5_code 154 = .ok (.iadd, 1) := by decide +kernel
theorem d_Mo_copyBook_155 : decode prog_14_method_5_code 155 = .ok (.aload_n 0, 1) := by decide +kernel
theorem d_Mo_copyBook_156 : decode prog_14_method_5_code 156 = .ok (.getfield 40, 3) := by decide +kernel
theorem d_Mo_copyBook_159 : decode prog_14_method_5_code 159 = .ok (.sipush 300, 3) := by decide +kernel
theorem d_Mo_copyBook_162 : decode prog_14_method_5_code 162 = .ok (.iload_n 1, 1) := by decide +kernel
theorem d_Mo_copyBook_163 : decode prog_14_method_5_code 163 = .ok (.imul, 1) := by decide +kernel
theorem d_Mo_copyBook_164 : decode prog_14_method_5_code 164 = .ok (.iload_n 3, 1) := by decide +kernel
theorem d_Mo_copyBook_165 : decode prog_14_method_5_code 165 = .ok (.iadd, 1) := by decide +kernel
theorem d_Mo_copyBook_166 : decode prog_14_method_5_code 166 = .ok (.laload, 1) := by decide +kernel
theorem d_Mo_copyBook_167 : decode prog_14_method_5_code 167 = .ok (.lastore, 1) := by decide +kernel
theorem d_Mo_copyBook_168 : decode prog_14_method_5_code 168 = .ok (.aload_n 0, 1) := by decide +kernel
theorem d_Mo_copyBook_169 : decode prog_14_method_5_code 169 = .ok (.getfield 44, 3) := by decide +kernel
theorem d_Mo_copyBook_172 : decode prog_14_method_5_code 172 = .ok (.sipush 300, 3) := by decide +kernel
theorem d_Mo_copyBook_175 : decode prog_14_method_5_code 175 = .ok (.iload_n 2, 1) := by decide +kernel
theorem d_Mo_copyBook_176 : decode prog_14_method_5_code 176 = .ok (.imul, 1) := by decide +kernel
theorem d_Mo_copyBook_177 : decode prog_14_method_5_code 177 = .ok (.iload_n 3, 1) := by decide +kernel
theorem d_Mo_copyBook_178 : decode prog_14_method_5_code 178 = .ok (.iadd, 1) := by decide +kernel
theorem d_Mo_copyBook_179 : decode prog_14_method_5_code 179 = .ok (.aload_n 0, 1) := by decide +kernel
theorem d_Mo_copyBook_180 : decode prog_14_method_5_code 180 = .ok (.getfield 44, 3) := by decide +kernel
theorem d_Mo_copyBook_183 : decode prog_14_method_5_code 183 = .ok (.sipush 300, 3) := by decide +kernel
theorem d_Mo_copyBook_186 : decode prog_14_method_5_code 186 = .ok (.iload_n 1, 1) := by decide +kernel
theorem d_Mo_copyBook_187 : decode prog_14_method_5_code 187 = .ok (.imul, 1) := by decide +kernel
theorem d_Mo_copyBook_188 : decode prog_14_method_5_code 188 = .ok (.iload_n 3, 1) := by decide +kernel
theorem d_Mo_copyBook_189 : decode prog_14_method_5_code 189 = .ok (.iadd, 1) := by decide +kernel
theorem d_Mo_copyBook_190 : decode prog_14_method_5_code 190 = .ok (.iaload, 1) := by decide +kernel
theorem d_Mo_copyBook_191 : decode prog_14_method_5_code 191 = .ok (.iastore, 1) := by decide +kernel
theorem d_Mo_copyBook_192 : decode prog_14_method_5_code 192 = .ok (.aload_n 0, 1) := by decide +kernel
theorem d_Mo_copyBook_193 : decode prog_14_method_5_code 193 = .ok (.getfield 47, 3) := by decide +kernel
theorem d_Mo_copyBook_196 : decode prog_14_method_5_code 196 = .ok (.sipush 300, 3) := by decide +kernel
theorem d_Mo_copyBook_199 : decode prog_14_method_5_code 199 = .ok (.iload_n 2, 1) := by decide +kernel
theorem d_Mo_copyBook_200 : decode prog_14_method_5_code 200 = .ok (.imul, 1) := by decide +kernel
theorem d_Mo_copyBook_201 : decode prog_14_method_5_code 201 = .ok (.iload_n 3, 1) := by decide +kernel
theorem d_Mo_copyBook_202 : decode prog_14_method_5_code 202 = .ok (.iadd, 1) := by decide +kernel
theorem d_Mo_copyBook_203 : decode prog_14_method_5_code 203 = .ok (.aload_n 0, 1) := by decide +kernel
theorem d_Mo_copyBook_204 : decode prog_14_method_5_code 204 = .ok (.getfield 47, 3) := by decide +kernel
theorem d_Mo_copyBook_207 : decode prog_14_method_5_code 207 = .ok (.sipush 300, 3) := by decide +kernel
theorem d_Mo_copyBook_210 : decode prog_14_method_5_code 210 = .ok (.iload_n 1, 1) := by decide +kernel
theorem d_Mo_copyBook_211 : decode prog_14_method_5_code 211 = .ok (.imul, 1) := by decide +kernel
theorem d_Mo_copyBook_212 : decode prog_14_method_5_code 212 = .ok (.iload_n 3, 1) := by decide +kernel
theorem d_Mo_copyBook_213 : decode prog_14_method_5_code 213 = .ok (.iadd, 1) := by decide +kernel
theorem d_Mo_copyBook_214 : decode prog_14_method_5_code 214 = .ok (.baload, 1) := by decide +kernel
theorem d_Mo_copyBook_215 : decode prog_14_method_5_code 215 = .ok (.bastore, 1) := by decide +kernel
theorem d_Mo_copyBook_216 : decode prog_14_method_5_code 216 = .ok (.iinc 3 1, 3) := by decide +kernel
theorem d_Mo_copyBook_219 : decode prog_14_method_5_code 219 = .ok (.goto (-157), 3) := by decide +kernel
theorem d_Mo_copyBook_224 : decode prog_14_method_5_code 224 = .ok (.iload_n 3, 1) := by decide +kernel
theorem d_Mo_copyBook_225 : decode prog_14_method_5_code 225 = .ok (.aload_n 0, 1) := by decide +kernel
theorem d_Mo_copyBook_226 : decode prog_14_method_5_code 226 = .ok (.getfield 23, 3) := by decide +kernel
theorem d_Mo_copyBook_229 : decode prog_14_method_5_code 229 = .ok (.iload_n 1, 1) := by decide +kernel
theorem d_Mo_copyBook_230 : decode prog_14_method_5_code 230 = .ok (.iaload, 1) := by decide +kernel
theorem d_Mo_copyBook_231 : decode prog_14_method_5_code 231 = .ok (.if_icmp .ge 33, 3) := by decide +kernel
theorem d_Mo_copyBook_264 : decode prog_14_method_5_code 264 = .ok (.return_, 1) := by decide +kernel
theorem d_Mo_copyBook_234 : decode prog_14_method_5_code 234 = .ok (.aload_n 0, 1) := by decide +kernel
theorem d_Mo_copyBook_235 : decode prog_14_method_5_code 235 = .ok (.getfield 50, 3) := by decide +kernel
theorem d_Mo_copyBook_238 : decode prog_14_method_5_code 238 = .ok (.sipush 600, 3) := by decide +kernel
theorem d_Mo_copyBook_241 : decode prog_14_method_5_code 241 = .ok (.iload_n 2, 1) := by decide +kernel
theorem d_Mo_copyBook_242 : decode prog_14_method_5_code 242 = .ok (.imul, 1) := by decide +kernel
theorem d_Mo_copyBook_243 : decode prog_14_method_5_code 243 = .ok (.iload_n 3, 1) := by decide +kernel
theorem d_Mo_copyBook_244 : decode prog_14_method_5_code 244 = .ok (.iadd, 1) := by decide +kernel
theorem d_Mo_copyBook_245 : decode prog_14_method_5_code 245 = .ok (.aload_n 0, 1) := by decide +kernel
theorem d_Mo_copyBook_246 : decode prog_14_method_5_code 246 = .ok (.getfield 50, 3) := by decide +kernel
theorem d_Mo_copyBook_249 : decode prog_14_method_5_code 249 = .ok (.sipush 600, 3) := by decide +kernel
theorem d_Mo_copyBook_252 : decode prog_14_method_5_code 252 = .ok (.iload_n 1, 1) := by decide +kernel
theorem d_Mo_copyBook_253 : decode prog_14_method_5_code 253 = .ok (.imul, 1) := by decide +kernel
theorem d_Mo_copyBook_254 : decode prog_14_method_5_code 254 = .ok (.iload_n 3, 1) := by decide +kernel
theorem d_Mo_copyBook_255 : decode prog_14_method_5_code 255 = .ok (.iadd, 1) := by decide +kernel
theorem d_Mo_copyBook_256 : decode prog_14_method_5_code 256 = .ok (.saload, 1) := by decide +kernel
theorem d_Mo_copyBook_257 : decode prog_14_method_5_code 257 = .ok (.sastore, 1) := by decide +kernel
theorem d_Mo_copyBook_258 : decode prog_14_method_5_code 258 = .ok (.iinc 3 1, 3) := by decide +kernel
theorem d_Mo_copyBook_261 : decode prog_14_method_5_code 261 = .ok (.goto (-37), 3) := by decide +kernel
theorem d_Mo_send_0 : decode prog_14_method_9_code 0 = .ok (.aload_n 0, 1) := by decide +kernel
theorem d_Mo_send_1 : decode prog_14_method_9_code 1 = .ok (.getfield 133, 3) := by decide +kernel
theorem d_Mo_send_4 : decode prog_14_method_9_code 4 = .ok (.bipush 64, 2) := by decide +kernel
theorem d_Mo_send_6 : decode prog_14_method_9_code 6 = .ok (.if_icmp .ge 121, 3) := by decide +kernel
theorem d_Mo_send_9 : decode prog_14_method_9_code 9 = .ok (.aload_n 0, 1) := by decide +kernel
theorem d_Mo_send_10 : decode prog_14_method_9_code 10 = .ok (.getfield 110, 3) := by decide +kernel
theorem d_Mo_send_13 : decode prog_14_method_9_code 13 = .ok (.bipush 8, 2) := by decide +kernel
theorem d_Mo_send_15 : decode prog_14_method_9_code 15 = .ok (.aload_n 0, 1) := by decide +kernel
theorem d_Mo_send_16 : decode prog_14_method_9_code 16 = .ok (.getfield 133, 3) := by decide +kernel
theorem d_Mo_send_19 : decode prog_14_method_9_code 19 = .ok (.imul, 1) := by decide +kernel
theorem d_Mo_send_20 : decode prog_14_method_9_code 20 = .ok (.iload_n 1, 1) := by decide +kernel
theorem d_Mo_send_21 : decode prog_14_method_9_code 21 = .ok (.iastore, 1) := by decide +kernel
theorem d_Mo_send_22 : decode prog_14_method_9_code 22 = .ok (.aload_n 0, 1) := by decide +kernel
theorem d_Mo_send_23 : decode prog_14_method_9_code 23 = .ok (.getfield 110, 3) := by decide +kernel
theorem d_Mo_send_26 : decode prog_14_method_9_code 26 = .ok (.bipush 8, 2) := by decide +kernel
theorem d_Mo_send_28 : decode prog_14_method_9_code 28 = .ok (.aload_n 0, 1) := by decide +kernel
theorem d_Mo_send_29 : decode prog_14_method_9_code 29 = .ok (.getfield 133, 3) := by decide +kernel
theorem d_Mo_send_32 : decode prog_14_method_9_code 32 = .ok (.imul, 1) := by decide +kernel
theorem d_Mo_send_33 : decode prog_14_method_9_code 33 = .ok (.iconst 1, 1) := by decide +kernel
theorem d_Mo_send_34 : decode prog_14_method_9_code 34 = .ok (.iadd, 1) := by decide +kernel
theorem d_Mo_send_35 : decode prog_14_method_9_code 35 = .ok (.iload_n 2, 1) := by decide +kernel
theorem d_Mo_send_36 : decode prog_14_method_9_code 36 = .ok (.iastore, 1) := by decide +kernel
theorem d_Mo_send_37 : decode prog_14_method_9_code 37 = .ok (.aload_n 0, 1) := by decide +kernel
theorem d_Mo_send_38 : decode prog_14_method_9_code 38 = .ok (.getfield 110, 3) := by decide +kernel
theorem d_Mo_send_41 : decode prog_14_method_9_code 41 = .ok (.bipush 8, 2) := by decide +kernel
theorem d_Mo_send_43 : decode prog_14_method_9_code 43 = .ok (.aload_n 0, 1) := by decide +kernel
theorem d_Mo_send_44 : decode prog_14_method_9_code 44 = .ok (.getfield 133, 3) := by decide +kernel
theorem d_Mo_send_47 : decode prog_14_method_9_code 47 = .ok (.imul, 1) := by decide +kernel
theorem d_Mo_send_48 : decode prog_14_method_9_code 48 = .ok (.iconst 2, 1) := by decide +kernel
theorem d_Mo_send_49 : decode prog_14_method_9_code 49 = .ok (.iadd, 1) := by decide +kernel
theorem d_Mo_send_50 : decode prog_14_method_9_code 50 = .ok (.iload_n 3, 1) := by decide +kernel
theorem d_Mo_send_51 : decode prog_14_method_9_code 51 = .ok (.iastore, 1) := by decide +kernel
theorem d_Mo_send_52 : decode prog_14_method_9_code 52 = .ok (.aload_n 0, 1) := by decide +kernel
theorem d_Mo_send_53 : decode prog_14_method_9_code 53 = .ok (.getfield 110, 3) := by decide +kernel
theorem d_Mo_send_56 : decode prog_14_method_9_code 56 = .ok (.bipush 8, 2) := by decide +kernel
theorem d_Mo_send_58 : decode prog_14_method_9_code 58 = .ok (.aload_n 0, 1) := by decide +kernel
theorem d_Mo_send_59 : decode prog_14_method_9_code 59 = .ok (.getfield 133, 3) := by decide +kernel
theorem d_Mo_send_62 : decode prog_14_method_9_code 62 = .ok (.imul, 1) := by decide +kernel
theorem d_Mo_send_63 : decode prog_14_method_9_code 63 = .ok (.iconst 3, 1) := by decide +kernel
theorem d_Mo_send_64 : decode prog_14_method_9_code 64 = .ok (.iadd, 1) := by decide +kernel
theorem d_Mo_send_65 : decode prog_14_method_9_code 65 = .ok (.iload 4, 2) := by decide +kernel
theorem d_Mo_send_67 : decode prog_14_method_9_code 67 = .ok (.iastore, 1) := by decide +kernel
theorem d_Mo_send_68 : decode prog_14_method_9_code 68 = .ok (.aload_n 0, 1) := by decide +kernel
theorem d_Mo_send_69 : decode prog_14_method_9_code 69 = .ok (.getfield 110, 3) := by decide +kernel
theorem d_Mo_send_72 : decode prog_14_method_9_code 72 = .ok (.bipush 8, 2) := by decide +kernel
theorem d_Mo_send_74 : decode prog_14_method_9_code 74 = .ok (.aload_n 0, 1) := by decide +kernel
theorem d_Mo_send_75 : decode prog_14_method_9_code 75 = .ok (.getfield 133, 3) := by decide +kernel
theorem d_Mo_send_78 : decode prog_14_method_9_code 78 = .ok (.imul, 1) := by decide +kernel
theorem d_Mo_send_79 : decode prog_14_method_9_code 79 = .ok (.iconst 4, 1) := by decide +kernel
theorem d_Mo_send_80 : decode prog_14_method_9_code 80 = .ok (.iadd, 1) := by decide +kernel
theorem d_Mo_send_81 : decode prog_14_method_9_code 81 = .ok (.iload 5, 2) := by decide +kernel
theorem d_Mo_send_83 : decode prog_14_method_9_code 83 = .ok (.iastore, 1) := by decide +kernel
theorem d_Mo_send_84 : decode prog_14_method_9_code 84 = .ok (.aload_n 0, 1) := by decide +kernel
theorem d_Mo_send_85 : decode prog_14_method_9_code 85 = .ok (.getfield 110, 3) := by decide +kernel
theorem d_Mo_send_88 : decode prog_14_method_9_code 88 = .ok (.bipush 8, 2) := by decide +kernel
theorem d_Mo_send_90 : decode prog_14_method_9_code 90 = .ok (.aload_n 0, 1) := by decide +kernel
theorem d_Mo_send_91 : decode prog_14_method_9_code 91 = .ok (.getfield 133, 3) := by decide +kernel
theorem d_Mo_send_94 : decode prog_14_method_9_code 94 = .ok (.imul, 1) := by decide +kernel
theorem d_Mo_send_95 : decode prog_14_method_9_code 95 = .ok (.iconst 5, 1) := by decide +kernel
theorem d_Mo_send_96 : decode prog_14_method_9_code 96 = .ok (.iadd, 1) := by decide +kernel
theorem d_Mo_send_97 : decode prog_14_method_9_code 97 = .ok (.iload 6, 2) := by decide +kernel
theorem d_Mo_send_99 : decode prog_14_method_9_code 99 = .ok (.iastore, 1) := by decide +kernel
theorem d_Mo_send_100 : decode prog_14_method_9_code 100 = .ok (.aload_n 0, 1) := by decide +kernel
theorem d_Mo_send_101 : decode prog_14_method_9_code 101 = .ok (.getfield 110, 3) := by decide +kernel
theorem d_Mo_send_104 : decode prog_14_method_9_code 104 = .ok (.bipush 8, 2) := by decide +kernel
theorem d_Mo_send_106 : decode prog_14_method_9_code 106 = .ok (.aload_n 0, 1) := by decide +kernel
theorem d_Mo_send_107 : decode prog_14_method_9_code 107 = .ok (.getfield 133, 3) := by decide +kernel
theorem d_Mo_send_110 : decode prog_14_method_9_code 110 = .ok (.imul, 1) := by decide +kernel
theorem d_Mo_send_111 : decode prog_14_method_9_code 111 = .ok (.bipush 6, 2) := by decide +kernel
theorem d_Mo_send_113 : decode prog_14_method_9_code 113 = .ok (.iadd, 1) := by decide +kernel
theorem d_Mo_send_114 : decode prog_14_method_9_code 114 = .ok (.iload 7, 2) := by decide +kernel
theorem d_Mo_send_116 : decode prog_14_method_9_code 116 = .ok (.iastore, 1) := by decide +kernel
theorem d_Mo_send_117 : decode prog_14_method_9_code 117 = .ok (.aload_n 0, 1) := by decide +kernel
theorem d_Mo_send_118 : decode prog_14_method_9_code 118 = .ok (.dup, 1) := by decide +kernel
theorem d_Mo_send_119 : decode prog_14_method_9_code 119 = .ok (.getfield 133, 3) := by decide +kernel
theorem d_Mo_send_122 : decode prog_14_method_9_code 122 = .ok (.iconst 1, 1) := by decide +kernel
theorem d_Mo_send_123 : decode prog_14_method_9_code 123 = .ok (.iadd, 1) := by decide +kernel
theorem d_Mo_send_124 : decode prog_14_method_9_code 124 = .ok (.putfield 133, 3) := by decide +kernel
theorem d_Mo_send_127 : decode prog_14_method_9_code 127 = .ok (.return_, 1) := by decide +kernel
theorem d_Mo_report_0 : decode prog_14_method_22_code 0 = .ok (.aload_n 0, 1) := by decide +kernel
theorem d_Mo_report_1 : decode prog_14_method_22_code 1 = .ok (.iload_n 1, 1) := by decide +kernel
theorem d_Mo_report_2 : decode prog_14_method_22_code 2 = .ok (.invokevirtual 166, 3) := by decide +kernel
theorem d_Mo_again_0 : decode prog_14_method_23_code 0 = .ok (.aload_n 0, 1) := by decide +kernel
theorem d_Mo_again_1 : decode prog_14_method_23_code 1 = .ok (.iconst 0, 1) := by decide +kernel
theorem d_Mo_again_2 : decode prog_14_method_23_code 2 = .ok (.putfield 120, 3) := by decide +kernel
theorem d_Mo_again_5 : decode prog_14_method_23_code 5 = .ok (.aload_n 0, 1) := by decide +kernel
theorem d_Mo_again_6 : decode prog_14_method_23_code 6 = .ok (.iload_n 1, 1) := by decide +kernel
theorem d_Mo_again_7 : decode prog_14_method_23_code 7 = .ok (.invokevirtual 163, 3) := by decide +kernel
theorem d_Mo_again_10 : decode prog_14_method_23_code 10 = .ok (.ifCond .eq 21, 3) := by decide +kernel
theorem d_Mo_again_13 : decode prog_14_method_23_code 13 = .ok (.aload_n 0, 1) := by decide +kernel
theorem d_Mo_again_14 : decode prog_14_method_23_code 14 = .ok (.getfield 7, 3) := by decide +kernel
theorem d_Mo_again_17 : decode prog_14_method_23_code 17 = .ok (.iload_n 1, 1) := by decide +kernel
theorem d_Mo_again_18 : decode prog_14_method_23_code 18 = .ok (.baload, 1) := by decide +kernel
theorem d_Mo_again_19 : decode prog_14_method_23_code 19 = .ok (.ifCond .ne 12, 3) := by decide +kernel
theorem d_Mo_again_22 : decode prog_14_method_23_code 22 = .ok (.aload_n 0, 1) := by decide +kernel
theorem d_Mo_again_23 : decode prog_14_method_23_code 23 = .ok (.getfield 65, 3) := by decide +kernel
theorem d_Mo_again_26 : decode prog_14_method_23_code 26 = .ok (.iload_n 1, 1) := by decide +kernel
theorem d_Mo_again_27 : decode prog_14_method_23_code 27 = .ok (.baload, 1) := by decide +kernel
theorem d_Mo_again_28 : decode prog_14_method_23_code 28 = .ok (.ifCond .ne 5, 3) := by decide +kernel
theorem d_Mo_again_33 : decode prog_14_method_23_code 33 = .ok (.aload_n 0, 1) := by decide +kernel
theorem d_Mo_again_34 : decode prog_14_method_23_code 34 = .ok (.iload_n 1, 1) := by decide +kernel
theorem d_Mo_again_35 : decode prog_14_method_23_code 35 = .ok (.invokevirtual 173, 3) := by decide +kernel
theorem d_Mo_invoice_0 : decode prog_14_method_26_code 0 = .ok (.aload_n 0, 1) := by decide +kernel
theorem d_Mo_invoice_1 : decode prog_14_method_26_code 1 = .ok (.iload_n 1, 1) := by decide +kernel
theorem d_Mo_invoice_2 : decode prog_14_method_26_code 2 = .ok (.invokevirtual 166, 3) := by decide +kernel
theorem d_Mo_tooEarly_0 : decode prog_14_method_25_code 0 = .ok (.aload_n 0, 1) := by decide +kernel
theorem d_Mo_tooEarly_1 : decode prog_14_method_25_code 1 = .ok (.getfield 17, 3) := by decide +kernel
theorem d_Mo_tooEarly_4 : decode prog_14_method_25_code 4 = .ok (.iload_n 1, 1) := by decide +kernel
theorem d_Mo_tooEarly_5 : decode prog_14_method_25_code 5 = .ok (.iaload, 1) := by decide +kernel
theorem d_Mo_tooEarly_6 : decode prog_14_method_25_code 6 = .ok (.istore_n 3, 1) := by decide +kernel
theorem d_Mo_tooEarly_7 : decode prog_14_method_25_code 7 = .ok (.iload_n 3, 1) := by decide +kernel
theorem d_Mo_tooEarly_8 : decode prog_14_method_25_code 8 = .ok (.iconst 1, 1) := by decide +kernel
theorem d_Mo_tooEarly_9 : decode prog_14_method_25_code 9 = .ok (.isub, 1) := by decide +kernel
theorem d_Mo_tooEarly_10 : decode prog_14_method_25_code 10 = .ok (.istore 4, 2) := by decide +kernel
theorem d_Mo_tooEarly_12 : decode prog_14_method_25_code 12 = .ok (.iload 4, 2) := by decide +kernel
theorem d_Mo_tooEarly_14 : decode prog_14_method_25_code 14 = .ok (.ifCond .lt 55, 3) := by decide +kernel
theorem d_Mo_tooEarly_17 : decode prog_14_method_25_code 17 = .ok (.aload_n 0, 1) := by decide +kernel
theorem d_Mo_tooEarly_18 : decode prog_14_method_25_code 18 = .ok (.getfield 33, 3) := by decide +kernel
theorem d_Mo_tooEarly_21 : decode prog_14_method_25_code 21 = .ok (.sipush 300, 3) := by decide +kernel
theorem d_Mo_tooEarly_24 : decode prog_14_method_25_code 24 = .ok (.iload_n 1, 1) := by decide +kernel
theorem d_Mo_tooEarly_25 : decode prog_14_method_25_code 25 = .ok (.imul, 1) := by decide +kernel
theorem d_Mo_tooEarly_26 : decode prog_14_method_25_code 26 = .ok (.iload 4, 2) := by decide +kernel
theorem d_Mo_tooEarly_28 : decode prog_14_method_25_code 28 = .ok (.iadd, 1) := by decide +kernel
theorem d_Mo_tooEarly_29 : decode prog_14_method_25_code 29 = .ok (.saload, 1) := by decide +kernel
theorem d_Mo_tooEarly_30 : decode prog_14_method_25_code 30 = .ok (.aload_n 0, 1) := by decide +kernel
theorem d_Mo_tooEarly_31 : decode prog_14_method_25_code 31 = .ok (.getfield 33, 3) := by decide +kernel
theorem d_Mo_tooEarly_34 : decode prog_14_method_25_code 34 = .ok (.sipush 300, 3) := by decide +kernel
theorem d_Mo_tooEarly_37 : decode prog_14_method_25_code 37 = .ok (.iload_n 1, 1) := by decide +kernel
theorem d_Mo_tooEarly_38 : decode prog_14_method_25_code 38 = .ok (.imul, 1) := by decide +kernel
theorem d_Mo_tooEarly_39 : decode prog_14_method_25_code 39 = .ok (.iload_n 3, 1) := by decide +kernel
theorem d_Mo_tooEarly_40 : decode prog_14_method_25_code 40 = .ok (.iadd, 1) := by decide +kernel
theorem d_Mo_tooEarly_41 : decode prog_14_method_25_code 41 = .ok (.saload, 1) := by decide +kernel
theorem d_Mo_tooEarly_42 : decode prog_14_method_25_code 42 = .ok (.if_icmp .ne 27, 3) := by decide +kernel
theorem d_Mo_tooEarly_45 : decode prog_14_method_25_code 45 = .ok (.aload_n 0, 1) := by decide +kernel
theorem d_Mo_tooEarly_46 : decode prog_14_method_25_code 46 = .ok (.getfield 40, 3) := by decide +kernel
theorem d_Mo_tooEarly_49 : decode prog_14_method_25_code 49 = .ok (.sipush 300, 3) := by decide +kernel
theorem d_Mo_tooEarly_52 : decode prog_14_method_25_code 52 = .ok (.iload_n 1, 1) := by decide +kernel
theorem d_Mo_tooEarly_53 : decode prog_14_method_25_code 53 = .ok (.imul, 1) := by decide +kernel
theorem d_Mo_tooEarly_54 : decode prog_14_method_25_code 54 = .ok (.iload 4, 2) := by decide +kernel
theorem d_Mo_tooEarly_56 : decode prog_14_method_25_code 56 = .ok (.iadd, 1) := by decide +kernel
theorem d_Mo_tooEarly_57 : decode prog_14_method_25_code 57 = .ok (.laload, 1) := by decide +kernel
theorem d_Mo_tooEarly_58 : decode prog_14_method_25_code 58 = .ok (.lconst 0, 1) := by decide +kernel
theorem d_Mo_tooEarly_59 : decode prog_14_method_25_code 59 = .ok (.lcmp, 1) := by decide +kernel
theorem d_Mo_tooEarly_60 : decode prog_14_method_25_code 60 = .ok (.ifCond .ne 9, 3) := by decide +kernel
theorem d_Mo_tooEarly_63 : decode prog_14_method_25_code 63 = .ok (.iinc 4 (-1), 3) := by decide +kernel
theorem d_Mo_tooEarly_66 : decode prog_14_method_25_code 66 = .ok (.goto (-54), 3) := by decide +kernel
theorem d_Mo_tooEarly_69 : decode prog_14_method_25_code 69 = .ok (.iload 4, 2) := by decide +kernel
theorem d_Mo_tooEarly_71 : decode prog_14_method_25_code 71 = .ok (.ifCond .lt 52, 3) := by decide +kernel
theorem d_Mo_tooEarly_74 : decode prog_14_method_25_code 74 = .ok (.aload_n 0, 1) := by decide +kernel
theorem d_Mo_tooEarly_75 : decode prog_14_method_25_code 75 = .ok (.getfield 33, 3) := by decide +kernel
theorem d_Mo_tooEarly_78 : decode prog_14_method_25_code 78 = .ok (.sipush 300, 3) := by decide +kernel
theorem d_Mo_tooEarly_81 : decode prog_14_method_25_code 81 = .ok (.iload_n 1, 1) := by decide +kernel
theorem d_Mo_tooEarly_82 : decode prog_14_method_25_code 82 = .ok (.imul, 1) := by decide +kernel
theorem d_Mo_tooEarly_83 : decode prog_14_method_25_code 83 = .ok (.iload 4, 2) := by decide +kernel
theorem d_Mo_tooEarly_85 : decode prog_14_method_25_code 85 = .ok (.iadd, 1) := by decide +kernel
theorem d_Mo_tooEarly_86 : decode prog_14_method_25_code 86 = .ok (.saload, 1) := by decide +kernel
theorem d_Mo_tooEarly_87 : decode prog_14_method_25_code 87 = .ok (.aload_n 0, 1) := by decide +kernel
theorem d_Mo_tooEarly_88 : decode prog_14_method_25_code 88 = .ok (.getfield 33, 3) := by decide +kernel
theorem d_Mo_tooEarly_91 : decode prog_14_method_25_code 91 = .ok (.sipush 300, 3) := by decide +kernel
theorem d_Mo_tooEarly_94 : decode prog_14_method_25_code 94 = .ok (.iload_n 1, 1) := by decide +kernel
theorem d_Mo_tooEarly_95 : decode prog_14_method_25_code 95 = .ok (.imul, 1) := by decide +kernel
theorem d_Mo_tooEarly_96 : decode prog_14_method_25_code 96 = .ok (.iload_n 3, 1) := by decide +kernel
theorem d_Mo_tooEarly_97 : decode prog_14_method_25_code 97 = .ok (.iadd, 1) := by decide +kernel
theorem d_Mo_tooEarly_98 : decode prog_14_method_25_code 98 = .ok (.saload, 1) := by decide +kernel
theorem d_Mo_tooEarly_99 : decode prog_14_method_25_code 99 = .ok (.if_icmp .ne 24, 3) := by decide +kernel
theorem d_Mo_tooEarly_102 : decode prog_14_method_25_code 102 = .ok (.iload_n 2, 1) := by decide +kernel
theorem d_Mo_tooEarly_103 : decode prog_14_method_25_code 103 = .ok (.aload_n 0, 1) := by decide +kernel
theorem d_Mo_tooEarly_104 : decode prog_14_method_25_code 104 = .ok (.getfield 44, 3) := by decide +kernel
theorem d_Mo_tooEarly_107 : decode prog_14_method_25_code 107 = .ok (.sipush 300, 3) := by decide +kernel
theorem d_Mo_tooEarly_110 : decode prog_14_method_25_code 110 = .ok (.iload_n 1, 1) := by decide +kernel
theorem d_Mo_tooEarly_111 : decode prog_14_method_25_code 111 = .ok (.imul, 1) := by decide +kernel
theorem d_Mo_tooEarly_112 : decode prog_14_method_25_code 112 = .ok (.iload 4, 2) := by decide +kernel
theorem d_Mo_tooEarly_114 : decode prog_14_method_25_code 114 = .ok (.iadd, 1) := by decide +kernel
theorem d_Mo_tooEarly_115 : decode prog_14_method_25_code 115 = .ok (.iaload, 1) := by decide +kernel
theorem d_Mo_tooEarly_116 : decode prog_14_method_25_code 116 = .ok (.if_icmp .ge 7, 3) := by decide +kernel
theorem d_Mo_tooEarly_119 : decode prog_14_method_25_code 119 = .ok (.iconst 1, 1) := by decide +kernel
theorem d_Mo_tooEarly_120 : decode prog_14_method_25_code 120 = .ok (.goto 4, 3) := by decide +kernel
theorem d_Mo_tooEarly_123 : decode prog_14_method_25_code 123 = .ok (.iconst 0, 1) := by decide +kernel
theorem d_Mo_tooEarly_124 : decode prog_14_method_25_code 124 = .ok (.ireturn, 1) := by decide +kernel
theorem d_Mo_happens_0 : decode prog_14_method_24_code 0 = .ok (.aload_n 0, 1) := by decide +kernel
theorem d_Mo_happens_1 : decode prog_14_method_24_code 1 = .ok (.getfield 50, 3) := by decide +kernel
theorem d_Mo_happens_4 : decode prog_14_method_24_code 4 = .ok (.sipush 600, 3) := by decide +kernel
theorem d_Mo_happens_7 : decode prog_14_method_24_code 7 = .ok (.iload_n 1, 1) := by decide +kernel
theorem d_Mo_happens_8 : decode prog_14_method_24_code 8 = .ok (.imul, 1) := by decide +kernel
theorem d_Mo_happens_9 : decode prog_14_method_24_code 9 = .ok (.aload_n 0, 1) := by decide +kernel
theorem d_Mo_happens_10 : decode prog_14_method_24_code 10 = .ok (.getfield 23, 3) := by decide +kernel
theorem d_Mo_happens_13 : decode prog_14_method_24_code 13 = .ok (.iload_n 1, 1) := by decide +kernel
theorem d_Mo_happens_14 : decode prog_14_method_24_code 14 = .ok (.iaload, 1) := by decide +kernel
theorem d_Mo_happens_15 : decode prog_14_method_24_code 15 = .ok (.iadd, 1) := by decide +kernel
theorem d_Mo_happens_16 : decode prog_14_method_24_code 16 = .ok (.iconst 2, 1) := by decide +kernel
theorem d_Mo_happens_17 : decode prog_14_method_24_code 17 = .ok (.iload_n 2, 1) := by decide +kernel
theorem d_Mo_happens_18 : decode prog_14_method_24_code 18 = .ok (.imul, 1) := by decide +kernel
theorem d_Mo_happens_19 : decode prog_14_method_24_code 19 = .ok (.iload_n 3, 1) := by decide +kernel
theorem d_Mo_happens_20 : decode prog_14_method_24_code 20 = .ok (.ifCond .eq 7, 3) := by decide +kernel
theorem d_Mo_happens_27 : decode prog_14_method_24_code 27 = .ok (.iconst 0, 1) := by decide +kernel
theorem d_Mo_happens_23 : decode prog_14_method_24_code 23 = .ok (.iconst 1, 1) := by decide +kernel
theorem d_Mo_happens_24 : decode prog_14_method_24_code 24 = .ok (.goto 4, 3) := by decide +kernel
theorem d_Mo_happens_28 : decode prog_14_method_24_code 28 = .ok (.iadd, 1) := by decide +kernel
theorem d_Mo_happens_29 : decode prog_14_method_24_code 29 = .ok (.i2s, 1) := by decide +kernel
theorem d_Mo_happens_30 : decode prog_14_method_24_code 30 = .ok (.sastore, 1) := by decide +kernel
theorem d_Mo_happens_31 : decode prog_14_method_24_code 31 = .ok (.aload_n 0, 1) := by decide +kernel
theorem d_Mo_happens_32 : decode prog_14_method_24_code 32 = .ok (.getfield 23, 3) := by decide +kernel
theorem d_Mo_happens_35 : decode prog_14_method_24_code 35 = .ok (.iload_n 1, 1) := by decide +kernel
theorem d_Mo_happens_36 : decode prog_14_method_24_code 36 = .ok (.dup2, 1) := by decide +kernel
theorem d_Mo_happens_37 : decode prog_14_method_24_code 37 = .ok (.iaload, 1) := by decide +kernel
theorem d_Mo_happens_38 : decode prog_14_method_24_code 38 = .ok (.iconst 1, 1) := by decide +kernel
theorem d_Mo_happens_39 : decode prog_14_method_24_code 39 = .ok (.iadd, 1) := by decide +kernel
theorem d_Mo_happens_40 : decode prog_14_method_24_code 40 = .ok (.iastore, 1) := by decide +kernel
theorem d_Mo_happens_41 : decode prog_14_method_24_code 41 = .ok (.aload_n 0, 1) := by decide +kernel
theorem d_Mo_happens_42 : decode prog_14_method_24_code 42 = .ok (.getfield 36, 3) := by decide +kernel
theorem d_Mo_happens_45 : decode prog_14_method_24_code 45 = .ok (.sipush 300, 3) := by decide +kernel
theorem d_Mo_happens_48 : decode prog_14_method_24_code 48 = .ok (.iload_n 1, 1) := by decide +kernel
theorem d_Mo_happens_49 : decode prog_14_method_24_code 49 = .ok (.imul, 1) := by decide +kernel
theorem d_Mo_happens_50 : decode prog_14_method_24_code 50 = .ok (.iload_n 2, 1) := by decide +kernel
theorem d_Mo_happens_51 : decode prog_14_method_24_code 51 = .ok (.iadd, 1) := by decide +kernel
theorem d_Mo_happens_52 : decode prog_14_method_24_code 52 = .ok (.iload_n 3, 1) := by decide +kernel
theorem d_Mo_happens_53 : decode prog_14_method_24_code 53 = .ok (.ifCond .eq 7, 3) := by decide +kernel
theorem d_Mo_happens_60 : decode prog_14_method_24_code 60 = .ok (.iconst 2, 1) := by decide +kernel
theorem d_Mo_happens_56 : decode prog_14_method_24_code 56 = .ok (.iconst 3, 1) := by decide +kernel
theorem d_Mo_happens_57 : decode prog_14_method_24_code 57 = .ok (.goto 4, 3) := by decide +kernel
theorem d_Mo_happens_61 : decode prog_14_method_24_code 61 = .ok (.i2b, 1) := by decide +kernel
theorem d_Mo_happens_62 : decode prog_14_method_24_code 62 = .ok (.bastore, 1) := by decide +kernel
theorem d_Mo_happens_63 : decode prog_14_method_24_code 63 = .ok (.return_, 1) := by decide +kernel
theorem d_Mo_voidNext_0 : decode prog_14_method_27_code 0 = .ok (.aload_n 0, 1) := by decide +kernel
theorem d_Mo_voidNext_1 : decode prog_14_method_27_code 1 = .ok (.iload_n 1, 1) := by decide +kernel
theorem d_Mo_voidNext_2 : decode prog_14_method_27_code 2 = .ok (.invokevirtual 166, 3) := by decide +kernel
theorem d_Mo_voidUsed_0 : decode prog_14_method_29_code 0 = .ok (.aload_n 0, 1) := by decide +kernel
theorem d_Mo_voidUsed_1 : decode prog_14_method_29_code 1 = .ok (.iload_n 1, 1) := by decide +kernel
theorem d_Mo_voidUsed_2 : decode prog_14_method_29_code 2 = .ok (.invokevirtual 166, 3) := by decide +kernel
theorem d_Mo_find_0 : decode prog_14_method_28_code 0 = .ok (.iconst 0, 1) := by decide +kernel
theorem d_Mo_find_1 : decode prog_14_method_28_code 1 = .ok (.istore_n 3, 1) := by decide +kernel
theorem d_Mo_find_2 : decode prog_14_method_28_code 2 = .ok (.iload_n 3, 1) := by decide +kernel
theorem d_Mo_find_3 : decode prog_14_method_28_code 3 = .ok (.aload_n 0, 1) := by decide +kernel
theorem d_Mo_find_4 : decode prog_14_method_28_code 4 = .ok (.getfield 13, 3) := by decide +kernel
theorem d_Mo_find_7 : decode prog_14_method_28_code 7 = .ok (.iload_n 1, 1) := by decide +kernel
theorem d_Mo_find_8 : decode prog_14_method_28_code 8 = .ok (.iaload, 1) := by decide +kernel
theorem d_Mo_find_9 : decode prog_14_method_28_code 9 = .ok (.if_icmp .ge 27, 3) := by decide +kernel
theorem d_Mo_find_36 : decode prog_14_method_28_code 36 = .ok (.iconst (-1), 1) := by decide +kernel
theorem d_Mo_find_37 : decode prog_14_method_28_code 37 = .ok (.ireturn, 1) := by decide +kernel
theorem d_Mo_find_12 : decode prog_14_method_28_code 12 = .ok (.aload_n 0, 1) := by decide +kernel
theorem d_Mo_find_13 : decode prog_14_method_28_code 13 = .ok (.getfield 29, 3) := by decide +kernel
theorem d_Mo_find_16 : decode prog_14_method_28_code 16 = .ok (.sipush 300, 3) := by decide +kernel
theorem d_Mo_find_19 : decode prog_14_method_28_code 19 = .ok (.iload_n 1, 1) := by decide +kernel
theorem d_Mo_find_20 : decode prog_14_method_28_code 20 = .ok (.imul, 1) := by decide +kernel
theorem d_Mo_find_21 : decode prog_14_method_28_code 21 = .ok (.iload_n 3, 1) := by decide +kernel
theorem d_Mo_find_22 : decode prog_14_method_28_code 22 = .ok (.iadd, 1) := by decide +kernel
theorem d_Mo_find_23 : decode prog_14_method_28_code 23 = .ok (.saload, 1) := by decide +kernel
theorem d_Mo_find_24 : decode prog_14_method_28_code 24 = .ok (.iload_n 2, 1) := by decide +kernel
theorem d_Mo_find_25 : decode prog_14_method_28_code 25 = .ok (.if_icmp .ne 5, 3) := by decide +kernel
theorem d_Mo_find_30 : decode prog_14_method_28_code 30 = .ok (.iinc 3 1, 3) := by decide +kernel
theorem d_Mo_find_33 : decode prog_14_method_28_code 33 = .ok (.goto (-31), 3) := by decide +kernel
theorem d_Mo_find_28 : decode prog_14_method_28_code 28 = .ok (.iload_n 3, 1) := by decide +kernel
theorem d_Mo_find_29 : decode prog_14_method_28_code 29 = .ok (.ireturn, 1) := by decide +kernel
theorem d_Mo_strike_0 : decode prog_14_method_30_code 0 = .ok (.aload_n 0, 1) := by decide +kernel
theorem d_Mo_strike_1 : decode prog_14_method_30_code 1 = .ok (.aload_n 0, 1) := by decide +kernel
theorem d_Mo_strike_2 : decode prog_14_method_30_code 2 = .ok (.getfield 7, 3) := by decide +kernel
theorem d_Mo_strike_5 : decode prog_14_method_30_code 5 = .ok (.aload_n 0, 1) := by decide +kernel
theorem d_Mo_strike_6 : decode prog_14_method_30_code 6 = .ok (.getfield 116, 3) := by decide +kernel
theorem d_Mo_strike_9 : decode prog_14_method_30_code 9 = .ok (.baload, 1) := by decide +kernel
theorem d_Mo_strike_10 : decode prog_14_method_30_code 10 = .ok (.ifCond .eq 7, 3) := by decide +kernel
theorem d_Mo_strike_17 : decode prog_14_method_30_code 17 = .ok (.iconst 0, 1) := by decide +kernel
theorem d_Mo_strike_13 : decode prog_14_method_30_code 13 = .ok (.iconst 1, 1) := by decide +kernel
theorem d_Mo_strike_14 : decode prog_14_method_30_code 14 = .ok (.goto 4, 3) := by decide +kernel
theorem d_Mo_strike_18 : decode prog_14_method_30_code 18 = .ok (.putfield 120, 3) := by decide +kernel
theorem d_Mo_strike_21 : decode prog_14_method_30_code 21 = .ok (.aload_n 0, 1) := by decide +kernel
theorem d_Mo_strike_22 : decode prog_14_method_30_code 22 = .ok (.getfield 120, 3) := by decide +kernel
theorem d_Mo_strike_25 : decode prog_14_method_30_code 25 = .ok (.iconst 1, 1) := by decide +kernel
theorem d_Mo_strike_26 : decode prog_14_method_30_code 26 = .ok (.if_icmp .eq 20, 3) := by decide +kernel
theorem d_Mo_strike_29 : decode prog_14_method_30_code 29 = .ok (.aload_n 0, 1) := by decide +kernel
theorem d_Mo_strike_30 : decode prog_14_method_30_code 30 = .ok (.iload_n 1, 1) := by decide +kernel
theorem d_Mo_strike_31 : decode prog_14_method_30_code 31 = .ok (.invokevirtual 163, 3) := by decide +kernel
theorem d_Mo_strike_34 : decode prog_14_method_30_code 34 = .ok (.ifCond .eq 12, 3) := by decide +kernel
theorem d_Mo_strike_37 : decode prog_14_method_30_code 37 = .ok (.aload_n 0, 1) := by decide +kernel
theorem d_Mo_strike_38 : decode prog_14_method_30_code 38 = .ok (.getfield 95, 3) := by decide +kernel
theorem d_Mo_strike_41 : decode prog_14_method_30_code 41 = .ok (.iload_n 1, 1) := by decide +kernel
theorem d_Mo_strike_42 : decode prog_14_method_30_code 42 = .ok (.baload, 1) := by decide +kernel
theorem d_Mo_strike_43 : decode prog_14_method_30_code 43 = .ok (.ifCond .eq 17, 3) := by decide +kernel
theorem d_Mo_strike_60 : decode prog_14_method_30_code 60 = .ok (.aload_n 0, 1) := by decide +kernel
theorem d_Mo_strike_61 : decode prog_14_method_30_code 61 = .ok (.getfield 95, 3) := by decide +kernel
theorem d_Mo_strike_64 : decode prog_14_method_30_code 64 = .ok (.iload_n 1, 1) := by decide +kernel
theorem d_Mo_strike_65 : decode prog_14_method_30_code 65 = .ok (.iconst 1, 1) := by decide +kernel
theorem d_Mo_strike_66 : decode prog_14_method_30_code 66 = .ok (.bastore, 1) := by decide +kernel
theorem d_Mo_strike_67 : decode prog_14_method_30_code 67 = .ok (.iconst 0, 1) := by decide +kernel
theorem d_Mo_strike_68 : decode prog_14_method_30_code 68 = .ok (.istore_n 2, 1) := by decide +kernel
theorem d_Mo_strike_69 : decode prog_14_method_30_code 69 = .ok (.iconst 0, 1) := by decide +kernel
theorem d_Mo_strike_70 : decode prog_14_method_30_code 70 = .ok (.istore_n 3, 1) := by decide +kernel
theorem d_Mo_strike_46 : decode prog_14_method_30_code 46 = .ok (.aload_n 0, 1) := by decide +kernel
theorem d_Mo_strike_47 : decode prog_14_method_30_code 47 = .ok (.getfield 120, 3) := by decide +kernel
theorem d_Mo_strike_50 : decode prog_14_method_30_code 50 = .ok (.iconst 1, 1) := by decide +kernel
theorem d_Mo_strike_51 : decode prog_14_method_30_code 51 = .ok (.if_icmp .ne 7, 3) := by decide +kernel
theorem d_Mo_strike_58 : decode prog_14_method_30_code 58 = .ok (.iconst (-1), 1) := by decide +kernel
theorem d_Mo_strike_54 : decode prog_14_method_30_code 54 = .ok (.iconst 0, 1) := by decide +kernel
theorem d_Mo_strike_55 : decode prog_14_method_30_code 55 = .ok (.goto 4, 3) := by decide +kernel
theorem d_Mo_strike_71 : decode prog_14_method_30_code 71 = .ok (.iload_n 3, 1) := by decide +kernel
theorem d_Mo_strike_72 : decode prog_14_method_30_code 72 = .ok (.sipush 900, 3) := by decide +kernel
theorem d_Mo_strike_75 : decode prog_14_method_30_code 75 = .ok (.if_icmp .ge 39, 3) := by decide +kernel
theorem d_Mo_strike_114 : decode prog_14_method_30_code 114 = .ok (.iload_n 2, 1) := by decide +kernel
theorem d_Mo_strike_115 : decode prog_14_method_30_code 115 = .ok (.ireturn, 1) := by decide +kernel
theorem d_Mo_strike_78 : decode prog_14_method_30_code 78 = .ok (.aload_n 0, 1) := by decide +kernel
theorem d_Mo_strike_79 : decode prog_14_method_30_code 79 = .ok (.getfield 80, 3) := by decide +kernel
theorem d_Mo_strike_82 : decode prog_14_method_30_code 82 = .ok (.iload_n 3, 1) := by decide +kernel
theorem d_Mo_strike_83 : decode prog_14_method_30_code 83 = .ok (.baload, 1) := by decide +kernel
theorem d_Mo_strike_84 : decode prog_14_method_30_code 84 = .ok (.iconst 1, 1) := by decide +kernel
theorem d_Mo_strike_85 : decode prog_14_method_30_code 85 = .ok (.if_icmp .ne 23, 3) := by decide +kernel
theorem d_Mo_strike_88 : decode prog_14_method_30_code 88 = .ok (.aload_n 0, 1) := by decide +kernel
theorem d_Mo_strike_89 : decode prog_14_method_30_code 89 = .ok (.getfield 83, 3) := by decide +kernel
theorem d_Mo_strike_92 : decode prog_14_method_30_code 92 = .ok (.iload_n 3, 1) := by decide +kernel
theorem d_Mo_strike_93 : decode prog_14_method_30_code 93 = .ok (.baload, 1) := by decide +kernel
theorem d_Mo_strike_94 : decode prog_14_method_30_code 94 = .ok (.iload_n 1, 1) := by decide +kernel
theorem d_Mo_strike_95 : decode prog_14_method_30_code 95 = .ok (.if_icmp .ne 13, 3) := by decide +kernel
theorem d_Mo_strike_98 : decode prog_14_method_30_code 98 = .ok (.aload_n 0, 1) := by decide +kernel
theorem d_Mo_strike_99 : decode prog_14_method_30_code 99 = .ok (.getfield 80, 3) := by decide +kernel
theorem d_Mo_strike_102 : decode prog_14_method_30_code 102 = .ok (.iload_n 3, 1) := by decide +kernel
theorem d_Mo_strike_103 : decode prog_14_method_30_code 103 = .ok (.iconst 4, 1) := by decide +kernel
theorem d_Mo_strike_104 : decode prog_14_method_30_code 104 = .ok (.bastore, 1) := by decide +kernel
theorem d_Mo_strike_105 : decode prog_14_method_30_code 105 = .ok (.iinc 2 1, 3) := by decide +kernel
theorem d_Mo_strike_59 : decode prog_14_method_30_code 59 = .ok (.ireturn, 1) := by decide +kernel
theorem d_Mo_strike_108 : decode prog_14_method_30_code 108 = .ok (.iinc 3 1, 3) := by decide +kernel
theorem d_Mo_strike_111 : decode prog_14_method_30_code 111 = .ok (.goto (-40), 3) := by decide +kernel
theorem d_Mo_close_0 : decode prog_14_method_31_code 0 = .ok (.aload_n 0, 1) := by decide +kernel
theorem d_Mo_close_1 : decode prog_14_method_31_code 1 = .ok (.aload_n 0, 1) := by decide +kernel
theorem d_Mo_close_2 : decode prog_14_method_31_code 2 = .ok (.getfield 7, 3) := by decide +kernel
theorem d_Mo_close_5 : decode prog_14_method_31_code 5 = .ok (.aload_n 0, 1) := by decide +kernel
theorem d_Mo_close_6 : decode prog_14_method_31_code 6 = .ok (.getfield 116, 3) := by decide +kernel
theorem d_Mo_close_9 : decode prog_14_method_31_code 9 = .ok (.baload, 1) := by decide +kernel
theorem d_Mo_close_10 : decode prog_14_method_31_code 10 = .ok (.ifCond .eq 7, 3) := by decide +kernel
theorem d_Mo_close_17 : decode prog_14_method_31_code 17 = .ok (.iconst 0, 1) := by decide +kernel
theorem d_Mo_close_13 : decode prog_14_method_31_code 13 = .ok (.iconst 1, 1) := by decide +kernel
theorem d_Mo_close_14 : decode prog_14_method_31_code 14 = .ok (.goto 4, 3) := by decide +kernel
theorem d_Mo_close_18 : decode prog_14_method_31_code 18 = .ok (.putfield 120, 3) := by decide +kernel
theorem d_Mo_close_21 : decode prog_14_method_31_code 21 = .ok (.aload_n 0, 1) := by decide +kernel
theorem d_Mo_close_22 : decode prog_14_method_31_code 22 = .ok (.getfield 120, 3) := by decide +kernel
theorem d_Mo_close_25 : decode prog_14_method_31_code 25 = .ok (.iconst 1, 1) := by decide +kernel
theorem d_Mo_close_26 : decode prog_14_method_31_code 26 = .ok (.if_icmp .eq 20, 3) := by decide +kernel
theorem d_Mo_close_29 : decode prog_14_method_31_code 29 = .ok (.iload_n 1, 1) := by decide +kernel
theorem d_Mo_close_30 : decode prog_14_method_31_code 30 = .ok (.invokestatic 144, 3) := by decide +kernel
theorem d_Mo_close_33 : decode prog_14_method_31_code 33 = .ok (.ifCond .eq 13, 3) := by decide +kernel
theorem d_Mo_close_36 : decode prog_14_method_31_code 36 = .ok (.aload_n 0, 1) := by decide +kernel
theorem d_Mo_close_37 : decode prog_14_method_31_code 37 = .ok (.getfield 71, 3) := by decide +kernel
theorem d_Mo_close_40 : decode prog_14_method_31_code 40 = .ok (.iload_n 1, 1) := by decide +kernel
theorem d_Mo_close_41 : decode prog_14_method_31_code 41 = .ok (.iaload, 1) := by decide +kernel
theorem d_Mo_close_42 : decode prog_14_method_31_code 42 = .ok (.iconst 1, 1) := by decide +kernel
theorem d_Mo_close_43 : decode prog_14_method_31_code 43 = .ok (.if_icmp .eq 17, 3) := by decide +kernel
theorem d_Mo_close_60 : decode prog_14_method_31_code 60 = .ok (.iconst 1, 1) := by decide +kernel
theorem d_Mo_close_61 : decode prog_14_method_31_code 61 = .ok (.istore_n 2, 1) := by decide +kernel
theorem d_Mo_close_46 : decode prog_14_method_31_code 46 = .ok (.aload_n 0, 1) := by decide +kernel
theorem d_Mo_close_47 : decode prog_14_method_31_code 47 = .ok (.getfield 120, 3) := by decide +kernel
theorem d_Mo_close_50 : decode prog_14_method_31_code 50 = .ok (.iconst 1, 1) := by decide +kernel
theorem d_Mo_close_51 : decode prog_14_method_31_code 51 = .ok (.if_icmp .ne 7, 3) := by decide +kernel
theorem d_Mo_close_58 : decode prog_14_method_31_code 58 = .ok (.iconst (-1), 1) := by decide +kernel
theorem d_Mo_close_54 : decode prog_14_method_31_code 54 = .ok (.iconst 0, 1) := by decide +kernel
theorem d_Mo_close_55 : decode prog_14_method_31_code 55 = .ok (.goto 4, 3) := by decide +kernel
theorem d_Mo_close_62 : decode prog_14_method_31_code 62 = .ok (.iload_n 2, 1) := by decide +kernel
theorem d_Mo_close_63 : decode prog_14_method_31_code 63 = .ok (.aload_n 0, 1) := by decide +kernel
theorem d_Mo_close_64 : decode prog_14_method_31_code 64 = .ok (.getfield 77, 3) := by decide +kernel
theorem d_Mo_close_67 : decode prog_14_method_31_code 67 = .ok (.iload_n 1, 1) := by decide +kernel
theorem d_Mo_close_68 : decode prog_14_method_31_code 68 = .ok (.iaload, 1) := by decide +kernel
theorem d_Mo_close_69 : decode prog_14_method_31_code 69 = .ok (.if_icmp .gt 26, 3) := by decide +kernel
theorem d_Mo_close_95 : decode prog_14_method_31_code 95 = .ok (.aload_n 0, 1) := by decide +kernel
theorem d_Mo_close_96 : decode prog_14_method_31_code 96 = .ok (.getfield 71, 3) := by decide +kernel
theorem d_Mo_close_99 : decode prog_14_method_31_code 99 = .ok (.iload_n 1, 1) := by decide +kernel
theorem d_Mo_close_100 : decode prog_14_method_31_code 100 = .ok (.iconst 2, 1) := by decide +kernel
theorem d_Mo_close_101 : decode prog_14_method_31_code 101 = .ok (.iastore, 1) := by decide +kernel
theorem d_Mo_close_102 : decode prog_14_method_31_code 102 = .ok (.aload_n 0, 1) := by decide +kernel
theorem d_Mo_close_103 : decode prog_14_method_31_code 103 = .ok (.aload_n 0, 1) := by decide +kernel
theorem d_Mo_close_104 : decode prog_14_method_31_code 104 = .ok (.getfield 116, 3) := by decide +kernel
theorem d_Mo_close_107 : decode prog_14_method_31_code 107 = .ok (.invokevirtual 136, 3) := by decide +kernel
theorem d_Mo_at_0 : decode prog_14_method_14_code 0 = .ok (.sipush 300, 3) := by decide +kernel
theorem d_Mo_at_3 : decode prog_14_method_14_code 3 = .ok (.iload_n 1, 1) := by decide +kernel
theorem d_Mo_at_4 : decode prog_14_method_14_code 4 = .ok (.imul, 1) := by decide +kernel
theorem d_Mo_at_5 : decode prog_14_method_14_code 5 = .ok (.iload_n 2, 1) := by decide +kernel
theorem d_Mo_at_6 : decode prog_14_method_14_code 6 = .ok (.iadd, 1) := by decide +kernel
theorem d_Mo_at_7 : decode prog_14_method_14_code 7 = .ok (.iconst 1, 1) := by decide +kernel
theorem d_Mo_at_8 : decode prog_14_method_14_code 8 = .ok (.isub, 1) := by decide +kernel
theorem d_Mo_at_9 : decode prog_14_method_14_code 9 = .ok (.ireturn, 1) := by decide +kernel
theorem d_Mo_crash_0 : decode prog_14_method_33_code 0 = .ok (.aload_n 0, 1) := by decide +kernel
theorem d_Mo_crash_1 : decode prog_14_method_33_code 1 = .ok (.iconst 0, 1) := by decide +kernel
theorem d_Mo_crash_2 : decode prog_14_method_33_code 2 = .ok (.putfield 120, 3) := by decide +kernel
theorem d_Mo_crash_5 : decode prog_14_method_33_code 5 = .ok (.aload_n 0, 1) := by decide +kernel
theorem d_Mo_crash_6 : decode prog_14_method_33_code 6 = .ok (.iload_n 1, 1) := by decide +kernel
theorem d_Mo_crash_7 : decode prog_14_method_33_code 7 = .ok (.invokevirtual 189, 3) := by decide +kernel
theorem d_Mo_isSide_0 : decode prog_14_method_32_code 0 = .ok (.iload_n 1, 1) := by decide +kernel
theorem d_Mo_isSide_1 : decode prog_14_method_32_code 1 = .ok (.ifCond .lt 15, 3) := by decide +kernel
theorem d_Mo_isSide_4 : decode prog_14_method_32_code 4 = .ok (.iload_n 1, 1) := by decide +kernel
theorem d_Mo_isSide_5 : decode prog_14_method_32_code 5 = .ok (.aload_n 0, 1) := by decide +kernel
theorem d_Mo_isSide_6 : decode prog_14_method_32_code 6 = .ok (.getfield 116, 3) := by decide +kernel
theorem d_Mo_isSide_9 : decode prog_14_method_32_code 9 = .ok (.if_icmp .gt 7, 3) := by decide +kernel
theorem d_Mo_isSide_12 : decode prog_14_method_32_code 12 = .ok (.iconst 1, 1) := by decide +kernel
theorem d_Mo_isSide_13 : decode prog_14_method_32_code 13 = .ok (.goto 4, 3) := by decide +kernel
theorem d_Mo_isSide_16 : decode prog_14_method_32_code 16 = .ok (.iconst 0, 1) := by decide +kernel
theorem d_Mo_isSide_17 : decode prog_14_method_32_code 17 = .ok (.ireturn, 1) := by decide +kernel
theorem d_Mo_mount_0 : decode prog_14_method_34_code 0 = .ok (.aload_n 0, 1) := by decide +kernel
theorem d_Mo_mount_1 : decode prog_14_method_34_code 1 = .ok (.iconst 0, 1) := by decide +kernel
theorem d_Mo_mount_2 : decode prog_14_method_34_code 2 = .ok (.putfield 120, 3) := by decide +kernel
theorem d_Mo_mount_5 : decode prog_14_method_34_code 5 = .ok (.aload_n 0, 1) := by decide +kernel
theorem d_Mo_mount_6 : decode prog_14_method_34_code 6 = .ok (.iload_n 1, 1) := by decide +kernel
theorem d_Mo_mount_7 : decode prog_14_method_34_code 7 = .ok (.invokevirtual 189, 3) := by decide +kernel
theorem d_Mo_mount_10 : decode prog_14_method_34_code 10 = .ok (.ifCond .eq 12, 3) := by decide +kernel
theorem d_Mo_mount_13 : decode prog_14_method_34_code 13 = .ok (.aload_n 0, 1) := by decide +kernel
theorem d_Mo_mount_14 : decode prog_14_method_34_code 14 = .ok (.getfield 7, 3) := by decide +kernel
theorem d_Mo_mount_17 : decode prog_14_method_34_code 17 = .ok (.iload_n 1, 1) := by decide +kernel
theorem d_Mo_mount_18 : decode prog_14_method_34_code 18 = .ok (.baload, 1) := by decide +kernel
theorem d_Mo_mount_19 : decode prog_14_method_34_code 19 = .ok (.ifCond .ne 5, 3) := by decide +kernel
theorem d_Mo_mount_24 : decode prog_14_method_34_code 24 = .ok (.aload_n 0, 1) := by decide +kernel
theorem d_Mo_mount_25 : decode prog_14_method_34_code 25 = .ok (.getfield 7, 3) := by decide +kernel
theorem d_Mo_mount_28 : decode prog_14_method_34_code 28 = .ok (.iload_n 1, 1) := by decide +kernel
theorem d_Mo_mount_29 : decode prog_14_method_34_code 29 = .ok (.iconst 0, 1) := by decide +kernel
theorem d_Mo_mount_30 : decode prog_14_method_34_code 30 = .ok (.bastore, 1) := by decide +kernel
theorem d_Mo_mount_31 : decode prog_14_method_34_code 31 = .ok (.iload_n 1, 1) := by decide +kernel
theorem d_Mo_mount_32 : decode prog_14_method_34_code 32 = .ok (.aload_n 0, 1) := by decide +kernel
theorem d_Mo_mount_33 : decode prog_14_method_34_code 33 = .ok (.getfield 116, 3) := by decide +kernel
theorem d_Mo_mount_36 : decode prog_14_method_34_code 36 = .ok (.if_icmp .ne 12, 3) := by decide +kernel
theorem d_Mo_mount_48 : decode prog_14_method_34_code 48 = .ok (.aload_n 0, 1) := by decide +kernel
theorem d_Mo_mount_49 : decode prog_14_method_34_code 49 = .ok (.iload_n 1, 1) := by decide +kernel
theorem d_Mo_mount_50 : decode prog_14_method_34_code 50 = .ok (.bipush 6, 2) := by decide +kernel
theorem d_Mo_mount_52 : decode prog_14_method_34_code 52 = .ok (.iadd, 1) := by decide +kernel
theorem d_Mo_mount_53 : decode prog_14_method_34_code 53 = .ok (.iload_n 1, 1) := by decide +kernel
theorem d_Mo_mount_54 : decode prog_14_method_34_code 54 = .ok (.invokevirtual 130, 3) := by decide +kernel
theorem d_Mo_flush_0 : decode prog_14_method_35_code 0 = .ok (.aload_n 0, 1) := by decide +kernel
theorem d_Mo_flush_1 : decode prog_14_method_35_code 1 = .ok (.iconst 0, 1) := by decide +kernel
theorem d_Mo_flush_2 : decode prog_14_method_35_code 2 = .ok (.putfield 120, 3) := by decide +kernel
theorem d_Mo_flush_5 : decode prog_14_method_35_code 5 = .ok (.aload_n 0, 1) := by decide +kernel
theorem d_Mo_flush_6 : decode prog_14_method_35_code 6 = .ok (.iload_n 1, 1) := by decide +kernel
theorem d_Mo_flush_7 : decode prog_14_method_35_code 7 = .ok (.invokevirtual 189, 3) := by decide +kernel
theorem d_Mo_flush_10 : decode prog_14_method_35_code 10 = .ok (.ifCond .eq 12, 3) := by decide +kernel
theorem d_Mo_flush_13 : decode prog_14_method_35_code 13 = .ok (.aload_n 0, 1) := by decide +kernel
theorem d_Mo_flush_14 : decode prog_14_method_35_code 14 = .ok (.getfield 7, 3) := by decide +kernel
theorem d_Mo_flush_17 : decode prog_14_method_35_code 17 = .ok (.iload_n 1, 1) := by decide +kernel
theorem d_Mo_flush_18 : decode prog_14_method_35_code 18 = .ok (.baload, 1) := by decide +kernel
theorem d_Mo_flush_19 : decode prog_14_method_35_code 19 = .ok (.ifCond .eq 5, 3) := by decide +kernel
theorem d_Mo_flush_24 : decode prog_14_method_35_code 24 = .ok (.aload_n 0, 1) := by decide +kernel
theorem d_Mo_flush_25 : decode prog_14_method_35_code 25 = .ok (.iload_n 1, 1) := by decide +kernel
theorem d_Mo_flush_26 : decode prog_14_method_35_code 26 = .ok (.invokevirtual 136, 3) := by decide +kernel
theorem d_Mo_letters_0 : decode prog_14_method_36_code 0 = .ok (.aload_n 0, 1) := by decide +kernel
theorem d_Mo_letters_1 : decode prog_14_method_36_code 1 = .ok (.iconst 0, 1) := by decide +kernel
theorem d_Mo_letters_2 : decode prog_14_method_36_code 2 = .ok (.putfield 120, 3) := by decide +kernel
theorem d_Mo_letters_5 : decode prog_14_method_36_code 5 = .ok (.aload_n 0, 1) := by decide +kernel
theorem d_Mo_letters_6 : decode prog_14_method_36_code 6 = .ok (.getfield 133, 3) := by decide +kernel
theorem d_Mo_letters_9 : decode prog_14_method_36_code 9 = .ok (.ireturn, 1) := by decide +kernel
theorem d_Mo_letter_0 : decode prog_14_method_38_code 0 = .ok (.aload_n 0, 1) := by decide +kernel
theorem d_Mo_letter_1 : decode prog_14_method_38_code 1 = .ok (.iconst 0, 1) := by decide +kernel
theorem d_Mo_letter_2 : decode prog_14_method_38_code 2 = .ok (.putfield 120, 3) := by decide +kernel
theorem d_Mo_letter_5 : decode prog_14_method_38_code 5 = .ok (.aload_n 0, 1) := by decide +kernel
theorem d_Mo_letter_6 : decode prog_14_method_38_code 6 = .ok (.iload_n 1, 1) := by decide +kernel
theorem d_Mo_letter_7 : decode prog_14_method_38_code 7 = .ok (.invokevirtual 192, 3) := by decide +kernel
theorem d_Mo_isLetter_0 : decode prog_14_method_37_code 0 = .ok (.iload_n 1, 1) := by decide +kernel
theorem d_Mo_isLetter_1 : decode prog_14_method_37_code 1 = .ok (.ifCond .lt 15, 3) := by decide +kernel
theorem d_Mo_isLetter_4 : decode prog_14_method_37_code 4 = .ok (.iload_n 1, 1) := by decide +kernel
theorem d_Mo_isLetter_5 : decode prog_14_method_37_code 5 = .ok (.aload_n 0, 1) := by decide +kernel
theorem d_Mo_isLetter_6 : decode prog_14_method_37_code 6 = .ok (.getfield 133, 3) := by decide +kernel
theorem d_Mo_isLetter_9 : decode prog_14_method_37_code 9 = .ok (.if_icmp .ge 7, 3) := by decide +kernel
theorem d_Mo_isLetter_12 : decode prog_14_method_37_code 12 = .ok (.iconst 1, 1) := by decide +kernel
theorem d_Mo_isLetter_13 : decode prog_14_method_37_code 13 = .ok (.goto 4, 3) := by decide +kernel
theorem d_Mo_isLetter_16 : decode prog_14_method_37_code 16 = .ok (.iconst 0, 1) := by decide +kernel
theorem d_Mo_isLetter_17 : decode prog_14_method_37_code 17 = .ok (.ireturn, 1) := by decide +kernel
theorem d_Mo_deliver_0 : decode prog_14_method_39_code 0 = .ok (.aload_n 0, 1) := by decide +kernel
theorem d_Mo_deliver_1 : decode prog_14_method_39_code 1 = .ok (.iconst 0, 1) := by decide +kernel
theorem d_Mo_deliver_2 : decode prog_14_method_39_code 2 = .ok (.putfield 120, 3) := by decide +kernel
theorem d_Mo_deliver_5 : decode prog_14_method_39_code 5 = .ok (.aload_n 0, 1) := by decide +kernel
theorem d_Mo_deliver_6 : decode prog_14_method_39_code 6 = .ok (.iload_n 1, 1) := by decide +kernel
theorem d_Mo_deliver_7 : decode prog_14_method_39_code 7 = .ok (.invokevirtual 192, 3) := by decide +kernel
theorem d_Mo_deliver_10 : decode prog_14_method_39_code 10 = .ok (.ifCond .ne 5, 3) := by decide +kernel
theorem d_Mo_deliver_15 : decode prog_14_method_39_code 15 = .ok (.iconst 0, 1) := by decide +kernel
theorem d_Mo_deliver_16 : decode prog_14_method_39_code 16 = .ok (.istore_n 2, 1) := by decide +kernel
theorem d_Mo_deliver_13 : decode prog_14_method_39_code 13 = .ok (.iconst 0, 1) := by decide +kernel
theorem d_Mo_deliver_14 : decode prog_14_method_39_code 14 = .ok (.ireturn, 1) := by decide +kernel
theorem d_Mo_deliver_17 : decode prog_14_method_39_code 17 = .ok (.iload_n 2, 1) := by decide +kernel
theorem d_Mo_deliver_18 : decode prog_14_method_39_code 18 = .ok (.bipush 8, 2) := by decide +kernel
theorem d_Mo_deliver_20 : decode prog_14_method_39_code 20 = .ok (.if_icmp .ge 26, 3) := by decide +kernel
theorem d_Mo_deliver_46 : decode prog_14_method_39_code 46 = .ok (.aload_n 0, 1) := by decide +kernel
theorem d_Mo_deliver_47 : decode prog_14_method_39_code 47 = .ok (.iload_n 1, 1) := by decide +kernel
theorem d_Mo_deliver_48 : decode prog_14_method_39_code 48 = .ok (.invokevirtual 195, 3) := by decide +kernel
theorem d_Mo_remove_0 : decode prog_14_method_10_code 0 = .ok (.aload_n 0, 1) := by decide +kernel
theorem d_Mo_remove_1 : decode prog_14_method_10_code 1 = .ok (.dup, 1) := by decide +kernel
theorem d_Mo_remove_2 : decode prog_14_method_10_code 2 = .ok (.getfield 133, 3) := by decide +kernel
theorem d_Mo_remove_5 : decode prog_14_method_10_code 5 = .ok (.iconst 1, 1) := by decide +kernel
theorem d_Mo_remove_6 : decode prog_14_method_10_code 6 = .ok (.isub, 1) := by decide +kernel
theorem d_Mo_remove_7 : decode prog_14_method_10_code 7 = .ok (.putfield 133, 3) := by decide +kernel
theorem d_Mo_remove_10 : decode prog_14_method_10_code 10 = .ok (.bipush 8, 2) := by decide +kernel
theorem d_Mo_remove_12 : decode prog_14_method_10_code 12 = .ok (.iload_n 1, 1) := by decide +kernel
theorem d_Mo_remove_13 : decode prog_14_method_10_code 13 = .ok (.imul, 1) := by decide +kernel
theorem d_Mo_remove_14 : decode prog_14_method_10_code 14 = .ok (.istore_n 2, 1) := by decide +kernel
theorem d_Mo_remove_15 : decode prog_14_method_10_code 15 = .ok (.iload_n 2, 1) := by decide +kernel
theorem d_Mo_remove_16 : decode prog_14_method_10_code 16 = .ok (.bipush 8, 2) := by decide +kernel
theorem d_Mo_remove_18 : decode prog_14_method_10_code 18 = .ok (.aload_n 0, 1) := by decide +kernel
theorem d_Mo_remove_19 : decode prog_14_method_10_code 19 = .ok (.getfield 133, 3) := by decide +kernel
theorem d_Mo_remove_22 : decode prog_14_method_10_code 22 = .ok (.imul, 1) := by decide +kernel
theorem d_Mo_remove_23 : decode prog_14_method_10_code 23 = .ok (.if_icmp .ge 24, 3) := by decide +kernel
theorem d_Mo_remove_47 : decode prog_14_method_10_code 47 = .ok (.return_, 1) := by decide +kernel
theorem d_Mo_remove_26 : decode prog_14_method_10_code 26 = .ok (.aload_n 0, 1) := by decide +kernel
theorem d_Mo_remove_27 : decode prog_14_method_10_code 27 = .ok (.getfield 110, 3) := by decide +kernel
theorem d_Mo_remove_30 : decode prog_14_method_10_code 30 = .ok (.iload_n 2, 1) := by decide +kernel
theorem d_Mo_remove_31 : decode prog_14_method_10_code 31 = .ok (.aload_n 0, 1) := by decide +kernel
theorem d_Mo_remove_32 : decode prog_14_method_10_code 32 = .ok (.getfield 110, 3) := by decide +kernel
theorem d_Mo_remove_35 : decode prog_14_method_10_code 35 = .ok (.iload_n 2, 1) := by decide +kernel
theorem d_Mo_remove_36 : decode prog_14_method_10_code 36 = .ok (.bipush 8, 2) := by decide +kernel
theorem d_Mo_remove_38 : decode prog_14_method_10_code 38 = .ok (.iadd, 1) := by decide +kernel
theorem d_Mo_remove_39 : decode prog_14_method_10_code 39 = .ok (.iaload, 1) := by decide +kernel
theorem d_Mo_remove_40 : decode prog_14_method_10_code 40 = .ok (.iastore, 1) := by decide +kernel
theorem d_Mo_remove_41 : decode prog_14_method_10_code 41 = .ok (.iinc 2 1, 3) := by decide +kernel
theorem d_Mo_remove_44 : decode prog_14_method_10_code 44 = .ok (.goto (-29), 3) := by decide +kernel
theorem d_Mo_answered_0 : decode prog_14_method_18_code 0 = .ok (.aload_n 0, 1) := by decide +kernel
theorem d_Mo_answered_1 : decode prog_14_method_18_code 1 = .ok (.getfield 65, 3) := by decide +kernel
theorem d_Mo_answered_4 : decode prog_14_method_18_code 4 = .ok (.iload_n 1, 1) := by decide +kernel
theorem d_Mo_answered_5 : decode prog_14_method_18_code 5 = .ok (.baload, 1) := by decide +kernel
theorem d_Mo_answered_6 : decode prog_14_method_18_code 6 = .ok (.ifCond .eq 13, 3) := by decide +kernel
theorem d_Mo_answered_9 : decode prog_14_method_18_code 9 = .ok (.aload_n 0, 1) := by decide +kernel
theorem d_Mo_answered_10 : decode prog_14_method_18_code 10 = .ok (.getfield 53, 3) := by decide +kernel
theorem d_Mo_answered_13 : decode prog_14_method_18_code 13 = .ok (.iload_n 1, 1) := by decide +kernel
theorem d_Mo_answered_14 : decode prog_14_method_18_code 14 = .ok (.iaload, 1) := by decide +kernel
theorem d_Mo_answered_15 : decode prog_14_method_18_code 15 = .ok (.iload_n 2, 1) := by decide +kernel
theorem d_Mo_answered_16 : decode prog_14_method_18_code 16 = .ok (.if_icmp .eq 4, 3) := by decide +kernel
theorem d_Mo_answered_20 : decode prog_14_method_18_code 20 = .ok (.aload_n 0, 1) := by decide +kernel
theorem d_Mo_answered_21 : decode prog_14_method_18_code 21 = .ok (.getfield 65, 3) := by decide +kernel
theorem d_Mo_answered_24 : decode prog_14_method_18_code 24 = .ok (.iload_n 1, 1) := by decide +kernel
theorem d_Mo_answered_25 : decode prog_14_method_18_code 25 = .ok (.iconst 0, 1) := by decide +kernel
theorem d_Mo_answered_26 : decode prog_14_method_18_code 26 = .ok (.bastore, 1) := by decide +kernel
theorem d_Mo_answered_27 : decode prog_14_method_18_code 27 = .ok (.iconst 3, 1) := by decide +kernel
theorem d_Mo_answered_28 : decode prog_14_method_18_code 28 = .ok (.iload_n 1, 1) := by decide +kernel
theorem d_Mo_answered_29 : decode prog_14_method_18_code 29 = .ok (.imul, 1) := by decide +kernel
theorem d_Mo_answered_30 : decode prog_14_method_18_code 30 = .ok (.aload_n 0, 1) := by decide +kernel
theorem d_Mo_answered_31 : decode prog_14_method_18_code 31 = .ok (.getfield 59, 3) := by decide +kernel
theorem d_Mo_answered_34 : decode prog_14_method_18_code 34 = .ok (.iload_n 1, 1) := by decide +kernel
theorem d_Mo_answered_35 : decode prog_14_method_18_code 35 = .ok (.iaload, 1) := by decide +kernel
theorem d_Mo_answered_36 : decode prog_14_method_18_code 36 = .ok (.iadd, 1) := by decide +kernel
theorem d_Mo_answered_37 : decode prog_14_method_18_code 37 = .ok (.istore 6, 2) := by decide +kernel
theorem d_Mo_answered_39 : decode prog_14_method_18_code 39 = .ok (.iload_n 3, 1) := by decide +kernel
theorem d_Mo_answered_40 : decode prog_14_method_18_code 40 = .ok (.iconst 1, 1) := by decide +kernel
theorem d_Mo_answered_41 : decode prog_14_method_18_code 41 = .ok (.if_icmp .ne 101, 3) := by decide +kernel
theorem d_Mo_answered_44 : decode prog_14_method_18_code 44 = .ok (.iload 5, 2) := by decide +kernel
theorem d_Mo_answered_46 : decode prog_14_method_18_code 46 = .ok (.ifCond .le 96, 3) := by decide +kernel
theorem d_Mo_answered_49 : decode prog_14_method_18_code 49 = .ok (.iconst 0, 1) := by decide +kernel
theorem d_Mo_answered_50 : decode prog_14_method_18_code 50 = .ok (.istore 7, 2) := by decide +kernel
theorem d_Mo_answered_19 : decode prog_14_method_18_code 19 = .ok (.return_, 1) := by decide +kernel
theorem d_Mo_answered_142 : decode prog_14_method_18_code 142 = .ok (.iload_n 3, 1) := by decide +kernel
theorem d_Mo_answered_143 : decode prog_14_method_18_code 143 = .ok (.iconst 2, 1) := by decide +kernel
theorem d_Mo_answered_144 : decode prog_14_method_18_code 144 = .ok (.if_icmp .ne 22, 3) := by decide +kernel
theorem d_Mo_answered_166 : decode prog_14_method_18_code 166 = .ok (.iload_n 3, 1) := by decide +kernel
theorem d_Mo_answered_167 : decode prog_14_method_18_code 167 = .ok (.iconst 3, 1) := by decide +kernel
theorem d_Mo_answered_168 : decode prog_14_method_18_code 168 = .ok (.if_icmp .ne 10, 3) := by decide +kernel
theorem d_Mo_answered_171 : decode prog_14_method_18_code 171 = .ok (.aload_n 0, 1) := by decide +kernel
theorem d_Mo_answered_172 : decode prog_14_method_18_code 172 = .ok (.getfield 68, 3) := by decide +kernel
theorem d_Mo_answered_175 : decode prog_14_method_18_code 175 = .ok (.iload_n 1, 1) := by decide +kernel
theorem d_Mo_answered_176 : decode prog_14_method_18_code 176 = .ok (.iconst 1, 1) := by decide +kernel
theorem d_Mo_answered_177 : decode prog_14_method_18_code 177 = .ok (.bastore, 1) := by decide +kernel
theorem d_Mo_answered_147 : decode prog_14_method_18_code 147 = .ok (.aload_n 0, 1) := by decide +kernel
theorem d_Mo_answered_148 : decode prog_14_method_18_code 148 = .ok (.getfield 26, 3) := by decide +kernel
theorem d_Mo_answered_151 : decode prog_14_method_18_code 151 = .ok (.iload 6, 2) := by decide +kernel
theorem d_Mo_answered_153 : decode prog_14_method_18_code 153 = .ok (.dup2, 1) := by decide +kernel
theorem d_Mo_answered_154 : decode prog_14_method_18_code 154 = .ok (.iaload, 1) := by decide +kernel
theorem d_Mo_answered_155 : decode prog_14_method_18_code 155 = .ok (.aload_n 0, 1) := by decide +kernel
theorem d_Mo_answered_156 : decode prog_14_method_18_code 156 = .ok (.getfield 62, 3) := by decide +kernel
theorem d_Mo_answered_159 : decode prog_14_method_18_code 159 = .ok (.iload_n 1, 1) := by decide +kernel
theorem d_Mo_answered_160 : decode prog_14_method_18_code 160 = .ok (.iaload, 1) := by decide +kernel
theorem d_Mo_answered_161 : decode prog_14_method_18_code 161 = .ok (.iadd, 1) := by decide +kernel
theorem d_Mo_answered_162 : decode prog_14_method_18_code 162 = .ok (.iastore, 1) := by decide +kernel
theorem d_Mo_answered_163 : decode prog_14_method_18_code 163 = .ok (.goto 15, 3) := by decide +kernel
theorem d_Mo_answered_52 : decode prog_14_method_18_code 52 = .ok (.iload 7, 2) := by decide +kernel
theorem d_Mo_answered_54 : decode prog_14_method_18_code 54 = .ok (.iload 5, 2) := by decide +kernel
theorem d_Mo_answered_56 : decode prog_14_method_18_code 56 = .ok (.if_icmp .ge 72, 3) := by decide +kernel
theorem d_Mo_answered_128 : decode prog_14_method_18_code 128 = .ok (.aload_n 0, 1) := by decide +kernel
theorem d_Mo_answered_129 : decode prog_14_method_18_code 129 = .ok (.getfield 20, 3) := by decide +kernel
theorem d_Mo_answered_132 : decode prog_14_method_18_code 132 = .ok (.iload 6, 2) := by decide +kernel
theorem d_Mo_answered_134 : decode prog_14_method_18_code 134 = .ok (.dup2, 1) := by decide +kernel
theorem d_Mo_answered_135 : decode prog_14_method_18_code 135 = .ok (.iaload, 1) := by decide +kernel
theorem d_Mo_answered_136 : decode prog_14_method_18_code 136 = .ok (.iconst 1, 1) := by decide +kernel
theorem d_Mo_answered_137 : decode prog_14_method_18_code 137 = .ok (.iadd, 1) := by decide +kernel
theorem d_Mo_answered_138 : decode prog_14_method_18_code 138 = .ok (.iastore, 1) := by decide +kernel
theorem d_Mo_answered_139 : decode prog_14_method_18_code 139 = .ok (.goto 39, 3) := by decide +kernel
theorem d_Mo_answered_59 : decode prog_14_method_18_code 59 = .ok (.sipush 300, 3) := by decide +kernel
theorem d_Mo_answered_62 : decode prog_14_method_18_code 62 = .ok (.iload 6, 2) := by decide +kernel
theorem d_Mo_answered_64 : decode prog_14_method_18_code 64 = .ok (.imul, 1) := by decide +kernel
theorem d_Mo_answered_65 : decode prog_14_method_18_code 65 = .ok (.aload_n 0, 1) := by decide +kernel
theorem d_Mo_answered_66 : decode prog_14_method_18_code 66 = .ok (.getfield 13, 3) := by decide +kernel
theorem d_Mo_answered_69 : decode prog_14_method_18_code 69 = .ok (.iload 6, 2) := by decide +kernel
theorem d_Mo_answered_71 : decode prog_14_method_18_code 71 = .ok (.iaload, 1) := by decide +kernel
theorem d_Mo_answered_72 : decode prog_14_method_18_code 72 = .ok (.iadd, 1) := by decide +kernel
theorem d_Mo_answered_73 : decode prog_14_method_18_code 73 = .ok (.istore 8, 2) := by decide +kernel
theorem d_Mo_answered_75 : decode prog_14_method_18_code 75 = .ok (.aload_n 0, 1) := by decide +kernel
theorem d_Mo_answered_76 : decode prog_14_method_18_code 76 = .ok (.getfield 29, 3) := by decide +kernel
theorem d_Mo_answered_79 : decode prog_14_method_18_code 79 = .ok (.iload 8, 2) := by decide +kernel
theorem d_Mo_answered_81 : decode prog_14_method_18_code 81 = .ok (.iload 4, 2) := by decide +kernel
theorem d_Mo_answered_83 : decode prog_14_method_18_code 83 = .ok (.iload 7, 2) := by decide +kernel
theorem d_Mo_answered_85 : decode prog_14_method_18_code 85 = .ok (.iadd, 1) := by decide +kernel
theorem d_Mo_answered_86 : decode prog_14_method_18_code 86 = .ok (.i2s, 1) := by decide +kernel
theorem d_Mo_answered_87 : decode prog_14_method_18_code 87 = .ok (.sastore, 1) := by decide +kernel
theorem d_Mo_answered_88 : decode prog_14_method_18_code 88 = .ok (.aload_n 0, 1) := by decide +kernel
theorem d_Mo_answered_89 : decode prog_14_method_18_code 89 = .ok (.getfield 33, 3) := by decide +kernel
theorem d_Mo_answered_92 : decode prog_14_method_18_code 92 = .ok (.iload 8, 2) := by decide +kernel
theorem d_Mo_answered_94 : decode prog_14_method_18_code 94 = .ok (.aload_n 0, 1) := by decide +kernel
theorem d_Mo_answered_95 : decode prog_14_method_18_code 95 = .ok (.getfield 20, 3) := by decide +kernel
theorem d_Mo_answered_98 : decode prog_14_method_18_code 98 = .ok (.iload 6, 2) := by decide +kernel
theorem d_Mo_answered_100 : decode prog_14_method_18_code 100 = .ok (.iaload, 1) := by decide +kernel
theorem d_Mo_answered_101 : decode prog_14_method_18_code 101 = .ok (.i2s, 1) := by decide +kernel
theorem d_Mo_answered_102 : decode prog_14_method_18_code 102 = .ok (.sastore, 1) := by decide +kernel
theorem d_Mo_answered_103 : decode prog_14_method_18_code 103 = .ok (.aload_n 0, 1) := by decide +kernel
theorem d_Mo_answered_104 : decode prog_14_method_18_code 104 = .ok (.getfield 36, 3) := by decide +kernel
theorem d_Mo_answered_107 : decode prog_14_method_18_code 107 = .ok (.iload 8, 2) := by decide +kernel
theorem d_Mo_answered_109 : decode prog_14_method_18_code 109 = .ok (.iconst 1, 1) := by decide +kernel
theorem d_Mo_answered_110 : decode prog_14_method_18_code 110 = .ok (.bastore, 1) := by decide +kernel
theorem d_Mo_answered_111 : decode prog_14_method_18_code 111 = .ok (.aload_n 0, 1) := by decide +kernel
theorem d_Mo_answered_112 : decode prog_14_method_18_code 112 = .ok (.getfield 13, 3) := by decide +kernel
theorem d_Mo_answered_115 : decode prog_14_method_18_code 115 = .ok (.iload 6, 2) := by decide +kernel
theorem d_Mo_answered_117 : decode prog_14_method_18_code 117 = .ok (.dup2, 1) := by decide +kernel
theorem d_Mo_answered_118 : decode prog_14_method_18_code 118 = .ok (.iaload, 1) := by decide +kernel
theorem d_Mo_answered_119 : decode prog_14_method_18_code 119 = .ok (.iconst 1, 1) := by decide +kernel
theorem d_Mo_answered_120 : decode prog_14_method_18_code 120 = .ok (.iadd, 1) := by decide +kernel
theorem d_Mo_answered_121 : decode prog_14_method_18_code 121 = .ok (.iastore, 1) := by decide +kernel
theorem d_Mo_answered_122 : decode prog_14_method_18_code 122 = .ok (.iinc 7 1, 3) := by decide +kernel
theorem d_Mo_answered_125 : decode prog_14_method_18_code 125 = .ok (.goto (-73), 3) := by decide +kernel
theorem d_Mo_answered_178 : decode prog_14_method_18_code 178 = .ok (.return_, 1) := by decide +kernel
theorem d_Mo_comes_0 : decode prog_14_method_17_code 0 = .ok (.aload_n 0, 1) := by decide +kernel
theorem d_Mo_comes_1 : decode prog_14_method_17_code 1 = .ok (.getfield 113, 3) := by decide +kernel
theorem d_Mo_comes_4 : decode prog_14_method_17_code 4 = .ok (.iconst 1, 1) := by decide +kernel
theorem d_Mo_comes_5 : decode prog_14_method_17_code 5 = .ok (.iaload, 1) := by decide +kernel
theorem d_Mo_comes_6 : decode prog_14_method_17_code 6 = .ok (.istore_n 1, 1) := by decide +kernel
theorem d_Mo_comes_7 : decode prog_14_method_17_code 7 = .ok (.aload_n 0, 1) := by decide +kernel
theorem d_Mo_comes_8 : decode prog_14_method_17_code 8 = .ok (.getfield 113, 3) := by decide +kernel
theorem d_Mo_comes_11 : decode prog_14_method_17_code 11 = .ok (.iconst 2, 1) := by decide +kernel
theorem d_Mo_comes_12 : decode prog_14_method_17_code 12 = .ok (.iaload, 1) := by decide +kernel
theorem d_Mo_comes_13 : decode prog_14_method_17_code 13 = .ok (.istore_n 2, 1) := by decide +kernel
theorem d_Mo_comes_14 : decode prog_14_method_17_code 14 = .ok (.iload_n 2, 1) := by decide +kernel
theorem d_Mo_comes_15 : decode prog_14_method_17_code 15 = .ok (.aload_n 0, 1) := by decide +kernel
theorem d_Mo_comes_16 : decode prog_14_method_17_code 16 = .ok (.getfield 98, 3) := by decide +kernel
theorem d_Mo_comes_19 : decode prog_14_method_17_code 19 = .ok (.iload_n 1, 1) := by decide +kernel
theorem d_Mo_comes_20 : decode prog_14_method_17_code 20 = .ok (.iaload, 1) := by decide +kernel
theorem d_Mo_comes_21 : decode prog_14_method_17_code 21 = .ok (.iconst 1, 1) := by decide +kernel
theorem d_Mo_comes_22 : decode prog_14_method_17_code 22 = .ok (.iadd, 1) := by decide +kernel
theorem d_Mo_comes_23 : decode prog_14_method_17_code 23 = .ok (.if_icmp .ne 98, 3) := by decide +kernel
theorem d_Mo_comes_121 : decode prog_14_method_17_code 121 = .ok (.iload_n 2, 1) := by decide +kernel
theorem d_Mo_comes_122 : decode prog_14_method_17_code 122 = .ok (.aload_n 0, 1) := by decide +kernel
theorem d_Mo_comes_123 : decode prog_14_method_17_code 123 = .ok (.getfield 98, 3) := by decide +kernel
theorem d_Mo_comes_126 : decode prog_14_method_17_code 126 = .ok (.iload_n 1, 1) := by decide +kernel
theorem d_Mo_comes_127 : decode prog_14_method_17_code 127 = .ok (.iaload, 1) := by decide +kernel
theorem d_Mo_comes_128 : decode prog_14_method_17_code 128 = .ok (.if_icmp .ne 8, 3) := by decide +kernel
theorem d_Mo_comes_131 : decode prog_14_method_17_code 131 = .ok (.aload_n 0, 1) := by decide +kernel
theorem d_Mo_comes_132 : decode prog_14_method_17_code 132 = .ok (.iload_n 1, 1) := by decide +kernel
theorem d_Mo_comes_133 : decode prog_14_method_17_code 133 = .ok (.invokevirtual 160, 3) := by decide +kernel
theorem d_Mo_give_0 : decode prog_14_method_15_code 0 = .ok (.aload_n 0, 1) := by decide +kernel
theorem d_Mo_give_1 : decode prog_14_method_15_code 1 = .ok (.getfield 71, 3) := by decide +kernel
theorem d_Mo_give_4 : decode prog_14_method_15_code 4 = .ok (.iload_n 2, 1) := by decide +kernel
theorem d_Mo_give_5 : decode prog_14_method_15_code 5 = .ok (.iaload, 1) := by decide +kernel
theorem d_Mo_give_6 : decode prog_14_method_15_code 6 = .ok (.iconst 1, 1) := by decide +kernel
theorem d_Mo_give_7 : decode prog_14_method_15_code 7 = .ok (.if_icmp .ne 16, 3) := by decide +kernel
theorem d_Mo_give_23 : decode prog_14_method_15_code 23 = .ok (.iconst 0, 1) := by decide +kernel
theorem d_Mo_give_10 : decode prog_14_method_15_code 10 = .ok (.sipush 300, 3) := by decide +kernel
theorem d_Mo_give_13 : decode prog_14_method_15_code 13 = .ok (.aload_n 0, 1) := by decide +kernel
theorem d_Mo_give_14 : decode prog_14_method_15_code 14 = .ok (.getfield 77, 3) := by decide +kernel
theorem d_Mo_give_17 : decode prog_14_method_15_code 17 = .ok (.iload_n 2, 1) := by decide +kernel
theorem d_Mo_give_18 : decode prog_14_method_15_code 18 = .ok (.iaload, 1) := by decide +kernel
theorem d_Mo_give_19 : decode prog_14_method_15_code 19 = .ok (.isub, 1) := by decide +kernel
theorem d_Mo_give_20 : decode prog_14_method_15_code 20 = .ok (.goto 4, 3) := by decide +kernel
theorem d_Mo_give_24 : decode prog_14_method_15_code 24 = .ok (.istore 4, 2) := by decide +kernel
theorem d_Mo_give_26 : decode prog_14_method_15_code 26 = .ok (.iload_n 3, 1) := by decide +kernel
theorem d_Mo_give_27 : decode prog_14_method_15_code 27 = .ok (.iload 4, 2) := by decide +kernel
theorem d_Mo_give_29 : decode prog_14_method_15_code 29 = .ok (.if_icmp .ge 7, 3) := by decide +kernel
theorem d_Mo_give_36 : decode prog_14_method_15_code 36 = .ok (.iload 4, 2) := by decide +kernel
theorem d_Mo_give_32 : decode prog_14_method_15_code 32 = .ok (.iload_n 3, 1) := by decide +kernel
theorem d_Mo_give_33 : decode prog_14_method_15_code 33 = .ok (.goto 5, 3) := by decide +kernel
theorem d_Mo_give_38 : decode prog_14_method_15_code 38 = .ok (.istore 5, 2) := by decide +kernel
theorem d_Mo_give_40 : decode prog_14_method_15_code 40 = .ok (.aload_n 0, 1) := by decide +kernel
theorem d_Mo_give_41 : decode prog_14_method_15_code 41 = .ok (.getfield 101, 3) := by decide +kernel
theorem d_Mo_give_44 : decode prog_14_method_15_code 44 = .ok (.iload_n 1, 1) := by decide +kernel
theorem d_Mo_give_45 : decode prog_14_method_15_code 45 = .ok (.iconst 1, 1) := by decide +kernel
theorem d_Mo_give_46 : decode prog_14_method_15_code 46 = .ok (.iastore, 1) := by decide +kernel
theorem d_Mo_give_47 : decode prog_14_method_15_code 47 = .ok (.aload_n 0, 1) := by decide +kernel
theorem d_Mo_give_48 : decode prog_14_method_15_code 48 = .ok (.getfield 104, 3) := by decide +kernel
theorem d_Mo_give_51 : decode prog_14_method_15_code 51 = .ok (.iload_n 1, 1) := by decide +kernel
theorem d_Mo_give_52 : decode prog_14_method_15_code 52 = .ok (.aload_n 0, 1) := by decide +kernel
theorem d_Mo_give_53 : decode prog_14_method_15_code 53 = .ok (.getfield 77, 3) := by decide +kernel
theorem d_Mo_give_56 : decode prog_14_method_15_code 56 = .ok (.iload_n 2, 1) := by decide +kernel
theorem d_Mo_give_57 : decode prog_14_method_15_code 57 = .ok (.iaload, 1) := by decide +kernel
theorem d_Mo_give_58 : decode prog_14_method_15_code 58 = .ok (.iconst 1, 1) := by decide +kernel
theorem d_Mo_give_59 : decode prog_14_method_15_code 59 = .ok (.iadd, 1) := by decide +kernel
theorem d_Mo_give_60 : decode prog_14_method_15_code 60 = .ok (.iastore, 1) := by decide +kernel
theorem d_Mo_give_61 : decode prog_14_method_15_code 61 = .ok (.aload_n 0, 1) := by decide +kernel
theorem d_Mo_give_62 : decode prog_14_method_15_code 62 = .ok (.getfield 107, 3) := by decide +kernel
theorem d_Mo_give_65 : decode prog_14_method_15_code 65 = .ok (.iload_n 1, 1) := by decide +kernel
theorem d_Mo_give_66 : decode prog_14_method_15_code 66 = .ok (.iload 5, 2) := by decide +kernel
theorem d_Mo_give_68 : decode prog_14_method_15_code 68 = .ok (.iastore, 1) := by decide +kernel
theorem d_Mo_give_69 : decode prog_14_method_15_code 69 = .ok (.iconst 0, 1) := by decide +kernel
theorem d_Mo_give_70 : decode prog_14_method_15_code 70 = .ok (.istore 6, 2) := by decide +kernel
theorem d_Mo_give_72 : decode prog_14_method_15_code 72 = .ok (.iload 6, 2) := by decide +kernel
theorem d_Mo_give_74 : decode prog_14_method_15_code 74 = .ok (.iload 5, 2) := by decide +kernel
theorem d_Mo_give_76 : decode prog_14_method_15_code 76 = .ok (.if_icmp .ge 54, 3) := by decide +kernel
theorem d_Mo_give_130 : decode prog_14_method_15_code 130 = .ok (.return_, 1) := by decide +kernel
theorem d_Mo_give_79 : decode prog_14_method_15_code 79 = .ok (.aload_n 0, 1) := by decide +kernel
theorem d_Mo_give_80 : decode prog_14_method_15_code 80 = .ok (.getfield 77, 3) := by decide +kernel
theorem d_Mo_give_83 : decode prog_14_method_15_code 83 = .ok (.iload_n 2, 1) := by decide +kernel
theorem d_Mo_give_84 : decode prog_14_method_15_code 84 = .ok (.dup2, 1) := by decide +kernel
theorem d_Mo_give_85 : decode prog_14_method_15_code 85 = .ok (.iaload, 1) := by decide +kernel
theorem d_Mo_give_86 : decode prog_14_method_15_code 86 = .ok (.iconst 1, 1) := by decide +kernel
theorem d_Mo_give_87 : decode prog_14_method_15_code 87 = .ok (.iadd, 1) := by decide +kernel
theorem d_Mo_give_88 : decode prog_14_method_15_code 88 = .ok (.iastore, 1) := by decide +kernel
theorem d_Mo_give_89 : decode prog_14_method_15_code 89 = .ok (.aload_n 0, 1) := by decide +kernel
theorem d_Mo_give_90 : decode prog_14_method_15_code 90 = .ok (.getfield 80, 3) := by decide +kernel
theorem d_Mo_give_93 : decode prog_14_method_15_code 93 = .ok (.aload_n 0, 1) := by decide +kernel
theorem d_Mo_give_94 : decode prog_14_method_15_code 94 = .ok (.iload_n 2, 1) := by decide +kernel
theorem d_Mo_give_95 : decode prog_14_method_15_code 95 = .ok (.aload_n 0, 1) := by decide +kernel
theorem d_Mo_give_96 : decode prog_14_method_15_code 96 = .ok (.getfield 77, 3) := by decide +kernel
theorem d_Mo_give_99 : decode prog_14_method_15_code 99 = .ok (.iload_n 2, 1) := by decide +kernel
theorem d_Mo_give_100 : decode prog_14_method_15_code 100 = .ok (.iaload, 1) := by decide +kernel
theorem d_Mo_give_101 : decode prog_14_method_15_code 101 = .ok (.invokevirtual 148, 3) := by decide +kernel
theorem d_Mo_give_104 : decode prog_14_method_15_code 104 = .ok (.iconst 1, 1) := by decide +kernel
theorem d_Mo_give_105 : decode prog_14_method_15_code 105 = .ok (.bastore, 1) := by decide +kernel
theorem d_Mo_give_106 : decode prog_14_method_15_code 106 = .ok (.aload_n 0, 1) := by decide +kernel
theorem d_Mo_give_107 : decode prog_14_method_15_code 107 = .ok (.getfield 83, 3) := by decide +kernel
theorem d_Mo_give_110 : decode prog_14_method_15_code 110 = .ok (.aload_n 0, 1) := by decide +kernel
theorem d_Mo_give_111 : decode prog_14_method_15_code 111 = .ok (.iload_n 2, 1) := by decide +kernel
theorem d_Mo_give_112 : decode prog_14_method_15_code 112 = .ok (.aload_n 0, 1) := by decide +kernel
theorem d_Mo_give_113 : decode prog_14_method_15_code 113 = .ok (.getfield 77, 3) := by decide +kernel
theorem d_Mo_give_116 : decode prog_14_method_15_code 116 = .ok (.iload_n 2, 1) := by decide +kernel
theorem d_Mo_give_117 : decode prog_14_method_15_code 117 = .ok (.iaload, 1) := by decide +kernel
theorem d_Mo_give_118 : decode prog_14_method_15_code 118 = .ok (.invokevirtual 148, 3) := by decide +kernel
theorem d_Mo_give_121 : decode prog_14_method_15_code 121 = .ok (.iload_n 1, 1) := by decide +kernel
theorem d_Mo_give_122 : decode prog_14_method_15_code 122 = .ok (.i2b, 1) := by decide +kernel
theorem d_Mo_give_123 : decode prog_14_method_15_code 123 = .ok (.bastore, 1) := by decide +kernel
theorem d_Mo_give_124 : decode prog_14_method_15_code 124 = .ok (.iinc 6 1, 3) := by decide +kernel
theorem d_Mo_give_127 : decode prog_14_method_15_code 127 = .ok (.goto (-55), 3) := by decide +kernel
theorem d_Mo_learn_0 : decode prog_14_method_16_code 0 = .ok (.aload_n 0, 1) := by decide +kernel
theorem d_Mo_learn_1 : decode prog_14_method_16_code 1 = .ok (.getfield 101, 3) := by decide +kernel
theorem d_Mo_learn_4 : decode prog_14_method_16_code 4 = .ok (.iload_n 1, 1) := by decide +kernel
theorem d_Mo_learn_5 : decode prog_14_method_16_code 5 = .ok (.iconst 2, 1) := by decide +kernel
theorem d_Mo_learn_6 : decode prog_14_method_16_code 6 = .ok (.iastore, 1) := by decide +kernel
theorem d_Mo_learn_7 : decode prog_14_method_16_code 7 = .ok (.iconst 3, 1) := by decide +kernel
theorem d_Mo_learn_8 : decode prog_14_method_16_code 8 = .ok (.iload_n 1, 1) := by decide +kernel
theorem d_Mo_learn_9 : decode prog_14_method_16_code 9 = .ok (.bipush 6, 2) := by decide +kernel
theorem d_Mo_learn_11 : decode prog_14_method_16_code 11 = .ok (.iadd, 1) := by decide +kernel
theorem d_Mo_learn_12 : decode prog_14_method_16_code 12 = .ok (.imul, 1) := by decide +kernel
theorem d_Mo_learn_13 : decode prog_14_method_16_code 13 = .ok (.iload_n 2, 1) := by decide +kernel
theorem d_Mo_learn_14 : decode prog_14_method_16_code 14 = .ok (.iadd, 1) := by decide +kernel
theorem d_Mo_learn_15 : decode prog_14_method_16_code 15 = .ok (.istore 5, 2) := by decide +kernel
theorem d_Mo_learn_17 : decode prog_14_method_16_code 17 = .ok (.iload_n 3, 1) := by decide +kernel
theorem d_Mo_learn_18 : decode prog_14_method_16_code 18 = .ok (.istore 6, 2) := by decide +kernel
theorem d_Mo_learn_20 : decode prog_14_method_16_code 20 = .ok (.iload 6, 2) := by decide +kernel
theorem d_Mo_learn_22 : decode prog_14_method_16_code 22 = .ok (.iload_n 3, 1) := by decide +kernel
theorem d_Mo_learn_23 : decode prog_14_method_16_code 23 = .ok (.iload 4, 2) := by decide +kernel
theorem d_Mo_learn_25 : decode prog_14_method_16_code 25 = .ok (.iadd, 1) := by decide +kernel
theorem d_Mo_learn_26 : decode prog_14_method_16_code 26 = .ok (.if_icmp .ge 186, 3) := by decide +kernel
theorem d_Mo_learn_212 : decode prog_14_method_16_code 212 = .ok (.return_, 1) := by decide +kernel
theorem d_Mo_learn_29 : decode prog_14_method_16_code 29 = .ok (.sipush 300, 3) := by decide +kernel
theorem d_Mo_learn_32 : decode prog_14_method_16_code 32 = .ok (.iload 5, 2) := by decide +kernel
theorem d_Mo_learn_34 : decode prog_14_method_16_code 34 = .ok (.imul, 1) := by decide +kernel
theorem d_Mo_learn_35 : decode prog_14_method_16_code 35 = .ok (.aload_n 0, 1) := by decide +kernel
theorem d_Mo_learn_36 : decode prog_14_method_16_code 36 = .ok (.getfield 50, 3) := by decide +kernel
theorem d_Mo_learn_39 : decode prog_14_method_16_code 39 = .ok (.sipush 600, 3) := by decide +kernel
theorem d_Mo_learn_42 : decode prog_14_method_16_code 42 = .ok (.iload 5, 2) := by decide +kernel
theorem d_Mo_learn_44 : decode prog_14_method_16_code 44 = .ok (.imul, 1) := by decide +kernel
theorem d_Mo_learn_45 : decode prog_14_method_16_code 45 = .ok (.iload 6, 2) := by decide +kernel
theorem d_Mo_learn_47 : decode prog_14_method_16_code 47 = .ok (.iadd, 1) := by decide +kernel
theorem d_Mo_learn_48 : decode prog_14_method_16_code 48 = .ok (.saload, 1) := by decide +kernel
theorem d_Mo_learn_49 : decode prog_14_method_16_code 49 = .ok (.iconst 2, 1) := by decide +kernel
theorem d_Mo_learn_50 : decode prog_14_method_16_code 50 = .ok (.idiv, 1) := by decide +kernel
theorem d_Mo_learn_51 : decode prog_14_method_16_code 51 = .ok (.iadd, 1) := by decide +kernel
theorem d_Mo_learn_52 : decode prog_14_method_16_code 52 = .ok (.istore 7, 2) := by decide +kernel
theorem d_Mo_learn_54 : decode prog_14_method_16_code 54 = .ok (.aload_n 0, 1) := by decide +kernel
theorem d_Mo_learn_55 : decode prog_14_method_16_code 55 = .ok (.iload_n 2, 1) := by decide +kernel
theorem d_Mo_learn_56 : decode prog_14_method_16_code 56 = .ok (.aload_n 0, 1) := by decide +kernel
theorem d_Mo_learn_57 : decode prog_14_method_16_code 57 = .ok (.getfield 29, 3) := by decide +kernel
theorem d_Mo_learn_60 : decode prog_14_method_16_code 60 = .ok (.iload 7, 2) := by decide +kernel
theorem d_Mo_learn_62 : decode prog_14_method_16_code 62 = .ok (.saload, 1) := by decide +kernel
theorem d_Mo_learn_63 : decode prog_14_method_16_code 63 = .ok (.invokevirtual 148, 3) := by decide +kernel
theorem d_Mo_learn_66 : decode prog_14_method_16_code 66 = .ok (.istore 8, 2) := by decide +kernel
theorem d_Mo_learn_68 : decode prog_14_method_16_code 68 = .ok (.aload_n 0, 1) := by decide +kernel
theorem d_Mo_learn_69 : decode prog_14_method_16_code 69 = .ok (.getfield 50, 3) := by decide +kernel
theorem d_Mo_learn_72 : decode prog_14_method_16_code 72 = .ok (.sipush 600, 3) := by decide +kernel
theorem d_Mo_learn_75 : decode prog_14_method_16_code 75 = .ok (.iload 5, 2) := by decide +kernel
theorem d_Mo_learn_77 : decode prog_14_method_16_code 77 = .ok (.imul, 1) := by decide +kernel
theorem d_Mo_learn_78 : decode prog_14_method_16_code 78 = .ok (.iload 6, 2) := by decide +kernel
theorem d_Mo_learn_80 : decode prog_14_method_16_code 80 = .ok (.iadd, 1) := by decide +kernel
theorem d_Mo_learn_81 : decode prog_14_method_16_code 81 = .ok (.saload, 1) := by decide +kernel
theorem d_Mo_learn_82 : decode prog_14_method_16_code 82 = .ok (.iconst 2, 1) := by decide +kernel
theorem d_Mo_learn_83 : decode prog_14_method_16_code 83 = .ok (.irem, 1) := by decide +kernel
theorem d_Mo_learn_84 : decode prog_14_method_16_code 84 = .ok (.iconst 1, 1) := by decide +kernel
theorem d_Mo_learn_85 : decode prog_14_method_16_code 85 = .ok (.if_icmp .ne 7, 3) := by decide +kernel
theorem d_Mo_learn_92 : decode prog_14_method_16_code 92 = .ok (.iconst 0, 1) := by decide +kernel
theorem d_Mo_learn_88 : decode prog_14_method_16_code 88 = .ok (.iconst 1, 1) := by decide +kernel
theorem d_Mo_learn_89 : decode prog_14_method_16_code 89 = .ok (.goto 4, 3) := by decide +kernel
theorem d_Mo_learn_93 : decode prog_14_method_16_code 93 = .ok (.istore 9, 2) := by decide +kernel
theorem d_Mo_learn_95 : decode prog_14_method_16_code 95 = .ok (.iload 9, 2) := by decide +kernel
theorem d_Mo_learn_97 : decode prog_14_method_16_code 97 = .ok (.ifCond .ne 50, 3) := by decide +kernel
theorem d_Mo_learn_100 : decode prog_14_method_16_code 100 = .ok (.aload_n 0, 1) := by decide +kernel
theorem d_Mo_learn_101 : decode prog_14_method_16_code 101 = .ok (.getfield 80, 3) := by decide +kernel
theorem d_Mo_learn_104 : decode prog_14_method_16_code 104 = .ok (.iload 8, 2) := by decide +kernel
theorem d_Mo_learn_106 : decode prog_14_method_16_code 106 = .ok (.baload, 1) := by decide +kernel
theorem d_Mo_learn_107 : decode prog_14_method_16_code 107 = .ok (.iconst 1, 1) := by decide +kernel
theorem d_Mo_learn_108 : decode prog_14_method_16_code 108 = .ok (.if_icmp .ne 39, 3) := by decide +kernel
theorem d_Mo_learn_111 : decode prog_14_method_16_code 111 = .ok (.aload_n 0, 1) := by decide +kernel
theorem d_Mo_learn_112 : decode prog_14_method_16_code 112 = .ok (.getfield 80, 3) := by decide +kernel
theorem d_Mo_learn_115 : decode prog_14_method_16_code 115 = .ok (.iload 8, 2) := by decide +kernel
theorem d_Mo_learn_117 : decode prog_14_method_16_code 117 = .ok (.iconst 2, 1) := by decide +kernel
theorem d_Mo_learn_118 : decode prog_14_method_16_code 118 = .ok (.bastore, 1) := by decide +kernel
theorem d_Mo_learn_119 : decode prog_14_method_16_code 119 = .ok (.aload_n 0, 1) := by decide +kernel
theorem d_Mo_learn_120 : decode prog_14_method_16_code 120 = .ok (.getfield 86, 3) := by decide +kernel
theorem d_Mo_learn_123 : decode prog_14_method_16_code 123 = .ok (.iload 8, 2) := by decide +kernel
theorem d_Mo_learn_125 : decode prog_14_method_16_code 125 = .ok (.aload_n 0, 1) := by decide +kernel
theorem d_Mo_learn_126 : decode prog_14_method_16_code 126 = .ok (.getfield 40, 3) := by decide +kernel
theorem d_Mo_learn_129 : decode prog_14_method_16_code 129 = .ok (.iload 7, 2) := by decide +kernel
theorem d_Mo_learn_131 : decode prog_14_method_16_code 131 = .ok (.laload, 1) := by decide +kernel
theorem d_Mo_learn_132 : decode prog_14_method_16_code 132 = .ok (.lastore, 1) := by decide +kernel
theorem d_Mo_learn_133 : decode prog_14_method_16_code 133 = .ok (.aload_n 0, 1) := by decide +kernel
theorem d_Mo_learn_134 : decode prog_14_method_16_code 134 = .ok (.getfield 89, 3) := by decide +kernel
theorem d_Mo_learn_137 : decode prog_14_method_16_code 137 = .ok (.iload 8, 2) := by decide +kernel
theorem d_Mo_learn_139 : decode prog_14_method_16_code 139 = .ok (.aload_n 0, 1) := by decide +kernel
theorem d_Mo_learn_140 : decode prog_14_method_16_code 140 = .ok (.getfield 44, 3) := by decide +kernel
theorem d_Mo_learn_143 : decode prog_14_method_16_code 143 = .ok (.iload 7, 2) := by decide +kernel
theorem d_Mo_learn_145 : decode prog_14_method_16_code 145 = .ok (.iaload, 1) := by decide +kernel
theorem d_Mo_learn_146 : decode prog_14_method_16_code 146 = .ok (.iastore, 1) := by decide +kernel
theorem d_Mo_learn_147 : decode prog_14_method_16_code 147 = .ok (.iload 9, 2) := by decide +kernel
theorem d_Mo_learn_149 : decode prog_14_method_16_code 149 = .ok (.ifCond .eq 57, 3) := by decide +kernel
theorem d_Mo_learn_152 : decode prog_14_method_16_code 152 = .ok (.aload_n 0, 1) := by decide +kernel
theorem d_Mo_learn_153 : decode prog_14_method_16_code 153 = .ok (.getfield 80, 3) := by decide +kernel
theorem d_Mo_learn_156 : decode prog_14_method_16_code 156 = .ok (.iload 8, 2) := by decide +kernel
theorem d_Mo_learn_158 : decode prog_14_method_16_code 158 = .ok (.baload, 1) := by decide +kernel
theorem d_Mo_learn_159 : decode prog_14_method_16_code 159 = .ok (.iconst 1, 1) := by decide +kernel
theorem d_Mo_learn_160 : decode prog_14_method_16_code 160 = .ok (.if_icmp .eq 14, 3) := by decide +kernel
theorem d_Mo_learn_163 : decode prog_14_method_16_code 163 = .ok (.aload_n 0, 1) := by decide +kernel
theorem d_Mo_learn_164 : decode prog_14_method_16_code 164 = .ok (.getfield 80, 3) := by decide +kernel
theorem d_Mo_learn_167 : decode prog_14_method_16_code 167 = .ok (.iload 8, 2) := by decide +kernel
theorem d_Mo_learn_169 : decode prog_14_method_16_code 169 = .ok (.baload, 1) := by decide +kernel
theorem d_Mo_learn_170 : decode prog_14_method_16_code 170 = .ok (.iconst 2, 1) := by decide +kernel
theorem d_Mo_learn_171 : decode prog_14_method_16_code 171 = .ok (.if_icmp .ne 35, 3) := by decide +kernel
theorem d_Mo_learn_206 : decode prog_14_method_16_code 206 = .ok (.iinc 6 1, 3) := by decide +kernel
theorem d_Mo_learn_209 : decode prog_14_method_16_code 209 = .ok (.goto (-189), 3) := by decide +kernel
theorem d_Mo_learn_174 : decode prog_14_method_16_code 174 = .ok (.aload_n 0, 1) := by decide +kernel
theorem d_Mo_learn_175 : decode prog_14_method_16_code 175 = .ok (.getfield 71, 3) := by decide +kernel
theorem d_Mo_learn_178 : decode prog_14_method_16_code 178 = .ok (.iload_n 2, 1) := by decide +kernel
theorem d_Mo_learn_179 : decode prog_14_method_16_code 179 = .ok (.iaload, 1) := by decide +kernel
theorem d_Mo_learn_180 : decode prog_14_method_16_code 180 = .ok (.iconst 2, 1) := by decide +kernel
theorem d_Mo_learn_181 : decode prog_14_method_16_code 181 = .ok (.if_icmp .eq 25, 3) := by decide +kernel
theorem d_Mo_learn_184 : decode prog_14_method_16_code 184 = .ok (.aload_n 0, 1) := by decide +kernel
theorem d_Mo_learn_185 : decode prog_14_method_16_code 185 = .ok (.getfield 80, 3) := by decide +kernel
theorem d_Mo_learn_188 : decode prog_14_method_16_code 188 = .ok (.iload 8, 2) := by decide +kernel
theorem d_Mo_learn_190 : decode prog_14_method_16_code 190 = .ok (.iconst 3, 1) := by decide +kernel
theorem d_Mo_learn_191 : decode prog_14_method_16_code 191 = .ok (.bastore, 1) := by decide +kernel
theorem d_Mo_learn_192 : decode prog_14_method_16_code 192 = .ok (.aload_n 0, 1) := by decide +kernel
theorem d_Mo_learn_193 : decode prog_14_method_16_code 193 = .ok (.getfield 92, 3) := by decide +kernel
theorem d_Mo_learn_196 : decode prog_14_method_16_code 196 = .ok (.iload 8, 2) := by decide +kernel
theorem d_Mo_learn_198 : decode prog_14_method_16_code 198 = .ok (.aload_n 0, 1) := by decide +kernel
theorem d_Mo_learn_199 : decode prog_14_method_16_code 199 = .ok (.getfield 47, 3) := by decide +kernel
theorem d_Mo_learn_202 : decode prog_14_method_16_code 202 = .ok (.iload 7, 2) := by decide +kernel
theorem d_Mo_learn_204 : decode prog_14_method_16_code 204 = .ok (.baload, 1) := by decide +kernel
theorem d_Mo_learn_205 : decode prog_14_method_16_code 205 = .ok (.bastore, 1) := by decide +kernel
theorem d_Mo_sendAnswer_0 : decode prog_14_method_12_code 0 = .ok (.aload_n 0, 1) := by decide +kernel
theorem d_Mo_sendAnswer_1 : decode prog_14_method_12_code 1 = .ok (.iconst 3, 1) := by decide +kernel
theorem d_Mo_sendAnswer_2 : decode prog_14_method_12_code 2 = .ok (.iload_n 1, 1) := by decide +kernel
theorem d_Mo_sendAnswer_3 : decode prog_14_method_12_code 3 = .ok (.aload_n 0, 1) := by decide +kernel
theorem d_Mo_sendAnswer_4 : decode prog_14_method_12_code 4 = .ok (.getfield 98, 3) := by decide +kernel
theorem d_Mo_sendAnswer_7 : decode prog_14_method_12_code 7 = .ok (.iload_n 1, 1) := by decide +kernel
theorem d_Mo_sendAnswer_8 : decode prog_14_method_12_code 8 = .ok (.iaload, 1) := by decide +kernel
theorem d_Mo_sendAnswer_9 : decode prog_14_method_12_code 9 = .ok (.aload_n 0, 1) := by decide +kernel
theorem d_Mo_sendAnswer_10 : decode prog_14_method_12_code 10 = .ok (.getfield 101, 3) := by decide +kernel
theorem d_Mo_sendAnswer_13 : decode prog_14_method_12_code 13 = .ok (.iload_n 1, 1) := by decide +kernel
theorem d_Mo_sendAnswer_14 : decode prog_14_method_12_code 14 = .ok (.iaload, 1) := by decide +kernel
theorem d_Mo_sendAnswer_15 : decode prog_14_method_12_code 15 = .ok (.aload_n 0, 1) := by decide +kernel
theorem d_Mo_sendAnswer_16 : decode prog_14_method_12_code 16 = .ok (.getfield 104, 3) := by decide +kernel
theorem d_Mo_sendAnswer_19 : decode prog_14_method_12_code 19 = .ok (.iload_n 1, 1) := by decide +kernel
theorem d_Mo_sendAnswer_20 : decode prog_14_method_12_code 20 = .ok (.iaload, 1) := by decide +kernel
theorem d_Mo_sendAnswer_21 : decode prog_14_method_12_code 21 = .ok (.aload_n 0, 1) := by decide +kernel
theorem d_Mo_sendAnswer_22 : decode prog_14_method_12_code 22 = .ok (.getfield 107, 3) := by decide +kernel
theorem d_Mo_sendAnswer_25 : decode prog_14_method_12_code 25 = .ok (.iload_n 1, 1) := by decide +kernel
theorem d_Mo_sendAnswer_26 : decode prog_14_method_12_code 26 = .ok (.iaload, 1) := by decide +kernel
theorem d_Mo_sendAnswer_27 : decode prog_14_method_12_code 27 = .ok (.iconst 0, 1) := by decide +kernel
theorem d_Mo_sendAnswer_28 : decode prog_14_method_12_code 28 = .ok (.invokevirtual 140, 3) := by decide +kernel
theorem d_Mo_sendAnswer_31 : decode prog_14_method_12_code 31 = .ok (.return_, 1) := by decide +kernel
theorem d_Mo_drop_0 : decode prog_14_method_40_code 0 = .ok (.aload_n 0, 1) := by decide +kernel
theorem d_Mo_drop_1 : decode prog_14_method_40_code 1 = .ok (.iconst 0, 1) := by decide +kernel
theorem d_Mo_drop_2 : decode prog_14_method_40_code 2 = .ok (.putfield 120, 3) := by decide +kernel
theorem d_Mo_drop_5 : decode prog_14_method_40_code 5 = .ok (.aload_n 0, 1) := by decide +kernel
theorem d_Mo_drop_6 : decode prog_14_method_40_code 6 = .ok (.iload_n 1, 1) := by decide +kernel
theorem d_Mo_drop_7 : decode prog_14_method_40_code 7 = .ok (.invokevirtual 192, 3) := by decide +kernel
theorem d_Mo_drop_10 : decode prog_14_method_40_code 10 = .ok (.ifCond .ne 5, 3) := by decide +kernel
theorem d_Mo_drop_15 : decode prog_14_method_40_code 15 = .ok (.aload_n 0, 1) := by decide +kernel
theorem d_Mo_drop_16 : decode prog_14_method_40_code 16 = .ok (.iload_n 1, 1) := by decide +kernel
theorem d_Mo_drop_17 : decode prog_14_method_40_code 17 = .ok (.invokevirtual 195, 3) := by decide +kernel
theorem d_Mo_drop_20 : decode prog_14_method_40_code 20 = .ok (.iconst 1, 1) := by decide +kernel
theorem d_Mo_drop_21 : decode prog_14_method_40_code 21 = .ok (.ireturn, 1) := by decide +kernel
theorem d_Mo_drop_13 : decode prog_14_method_40_code 13 = .ok (.iconst 0, 1) := by decide +kernel
theorem d_Mo_drop_14 : decode prog_14_method_40_code 14 = .ok (.ireturn, 1) := by decide +kernel
theorem d_Mo_twin_0 : decode prog_14_method_41_code 0 = .ok (.aload_n 0, 1) := by decide +kernel
theorem d_Mo_twin_1 : decode prog_14_method_41_code 1 = .ok (.iconst 0, 1) := by decide +kernel
theorem d_Mo_twin_2 : decode prog_14_method_41_code 2 = .ok (.putfield 120, 3) := by decide +kernel
theorem d_Mo_twin_5 : decode prog_14_method_41_code 5 = .ok (.aload_n 0, 1) := by decide +kernel
theorem d_Mo_twin_6 : decode prog_14_method_41_code 6 = .ok (.iload_n 1, 1) := by decide +kernel
theorem d_Mo_twin_7 : decode prog_14_method_41_code 7 = .ok (.invokevirtual 192, 3) := by decide +kernel
theorem d_Mo_twin_10 : decode prog_14_method_41_code 10 = .ok (.ifCond .eq 12, 3) := by decide +kernel
theorem d_Mo_twin_13 : decode prog_14_method_41_code 13 = .ok (.aload_n 0, 1) := by decide +kernel
theorem d_Mo_twin_14 : decode prog_14_method_41_code 14 = .ok (.getfield 133, 3) := by decide +kernel
theorem d_Mo_twin_17 : decode prog_14_method_41_code 17 = .ok (.bipush 64, 2) := by decide +kernel
theorem d_Mo_twin_19 : decode prog_14_method_41_code 19 = .ok (.if_icmp .ne 5, 3) := by decide +kernel
theorem d_Mo_twin_24 : decode prog_14_method_41_code 24 = .ok (.iconst 0, 1) := by decide +kernel
theorem d_Mo_twin_25 : decode prog_14_method_41_code 25 = .ok (.istore_n 2, 1) := by decide +kernel
theorem d_Mo_twin_22 : decode prog_14_method_41_code 22 = .ok (.iconst 0, 1) := by decide +kernel
theorem d_Mo_twin_23 : decode prog_14_method_41_code 23 = .ok (.ireturn, 1) := by decide +kernel
theorem d_Mo_twin_26 : decode prog_14_method_41_code 26 = .ok (.iload_n 2, 1) := by decide +kernel
theorem d_Mo_twin_27 : decode prog_14_method_41_code 27 = .ok (.bipush 8, 2) := by decide +kernel
theorem d_Mo_twin_29 : decode prog_14_method_41_code 29 = .ok (.if_icmp .ge 34, 3) := by decide +kernel
theorem d_Mo_twin_63 : decode prog_14_method_41_code 63 = .ok (.aload_n 0, 1) := by decide +kernel
theorem d_Mo_twin_64 : decode prog_14_method_41_code 64 = .ok (.dup, 1) := by decide +kernel
theorem d_Mo_twin_65 : decode prog_14_method_41_code 65 = .ok (.getfield 133, 3) := by decide +kernel
theorem d_Mo_twin_68 : decode prog_14_method_41_code 68 = .ok (.iconst 1, 1) := by decide +kernel
theorem d_Mo_twin_69 : decode prog_14_method_41_code 69 = .ok (.iadd, 1) := by decide +kernel
theorem d_Mo_twin_70 : decode prog_14_method_41_code 70 = .ok (.putfield 133, 3) := by decide +kernel
theorem d_Mo_twin_73 : decode prog_14_method_41_code 73 = .ok (.iconst 1, 1) := by decide +kernel
theorem d_Mo_twin_74 : decode prog_14_method_41_code 74 = .ok (.ireturn, 1) := by decide +kernel
theorem d_Mo_twin_32 : decode prog_14_method_41_code 32 = .ok (.aload_n 0, 1) := by decide +kernel
theorem d_Mo_twin_33 : decode prog_14_method_41_code 33 = .ok (.getfield 110, 3) := by decide +kernel
theorem d_Mo_twin_36 : decode prog_14_method_41_code 36 = .ok (.bipush 8, 2) := by decide +kernel
theorem d_Mo_twin_38 : decode prog_14_method_41_code 38 = .ok (.aload_n 0, 1) := by decide +kernel
theorem d_Mo_twin_39 : decode prog_14_method_41_code 39 = .ok (.getfield 133, 3) := by decide +kernel
theorem d_Mo_twin_42 : decode prog_14_method_41_code 42 = .ok (.imul, 1) := by decide +kernel
theorem d_Mo_twin_43 : decode prog_14_method_41_code 43 = .ok (.iload_n 2, 1) := by decide +kernel
theorem d_Mo_twin_44 : decode prog_14_method_41_code 44 = .ok (.iadd, 1) := by decide +kernel
theorem d_Mo_twin_45 : decode prog_14_method_41_code 45 = .ok (.aload_n 0, 1) := by decide +kernel
theorem d_Mo_twin_46 : decode prog_14_method_41_code 46 = .ok (.getfield 110, 3) := by decide +kernel
theorem d_Mo_twin_49 : decode prog_14_method_41_code 49 = .ok (.bipush 8, 2) := by decide +kernel
theorem d_Mo_twin_51 : decode prog_14_method_41_code 51 = .ok (.iload_n 1, 1) := by decide +kernel
theorem d_Mo_twin_52 : decode prog_14_method_41_code 52 = .ok (.imul, 1) := by decide +kernel
theorem d_Mo_twin_53 : decode prog_14_method_41_code 53 = .ok (.iload_n 2, 1) := by decide +kernel
theorem d_Mo_twin_54 : decode prog_14_method_41_code 54 = .ok (.iadd, 1) := by decide +kernel
theorem d_Mo_twin_55 : decode prog_14_method_41_code 55 = .ok (.iaload, 1) := by decide +kernel
theorem d_Mo_twin_56 : decode prog_14_method_41_code 56 = .ok (.iastore, 1) := by decide +kernel
theorem d_Mo_twin_57 : decode prog_14_method_41_code 57 = .ok (.iinc 2 1, 3) := by decide +kernel
theorem d_Mo_twin_60 : decode prog_14_method_41_code 60 = .ok (.goto (-34), 3) := by decide +kernel
theorem d_Mo_fate_0 : decode prog_14_method_43_code 0 = .ok (.aload_n 0, 1) := by decide +kernel
theorem d_Mo_fate_1 : decode prog_14_method_43_code 1 = .ok (.aload_n 0, 1) := by decide +kernel
theorem d_Mo_fate_2 : decode prog_14_method_43_code 2 = .ok (.getfield 7, 3) := by decide +kernel
theorem d_Mo_fate_5 : decode prog_14_method_43_code 5 = .ok (.aload_n 0, 1) := by decide +kernel
theorem d_Mo_fate_6 : decode prog_14_method_43_code 6 = .ok (.getfield 116, 3) := by decide +kernel
theorem d_Mo_fate_9 : decode prog_14_method_43_code 9 = .ok (.baload, 1) := by decide +kernel
theorem d_Mo_fate_10 : decode prog_14_method_43_code 10 = .ok (.ifCond .eq 7, 3) := by decide +kernel
theorem d_Mo_fate_17 : decode prog_14_method_43_code 17 = .ok (.iconst 0, 1) := by decide +kernel
theorem d_Mo_fate_13 : decode prog_14_method_43_code 13 = .ok (.iconst 1, 1) := by decide +kernel
theorem d_Mo_fate_14 : decode prog_14_method_43_code 14 = .ok (.goto 4, 3) := by decide +kernel
theorem d_Mo_fate_18 : decode prog_14_method_43_code 18 = .ok (.putfield 120, 3) := by decide +kernel
theorem d_Mo_fate_21 : decode prog_14_method_43_code 21 = .ok (.aload_n 0, 1) := by decide +kernel
theorem d_Mo_fate_22 : decode prog_14_method_43_code 22 = .ok (.getfield 120, 3) := by decide +kernel
theorem d_Mo_fate_25 : decode prog_14_method_43_code 25 = .ok (.ifCond .ne 26, 3) := by decide +kernel
theorem d_Mo_fate_28 : decode prog_14_method_43_code 28 = .ok (.aload_n 0, 1) := by decide +kernel
theorem d_Mo_fate_29 : decode prog_14_method_43_code 29 = .ok (.iload_n 1, 1) := by decide +kernel
theorem d_Mo_fate_30 : decode prog_14_method_43_code 30 = .ok (.iload_n 2, 1) := by decide +kernel
theorem d_Mo_fate_31 : decode prog_14_method_43_code 31 = .ok (.invokevirtual 205, 3) := by decide +kernel
theorem d_Mo_isGiven_0 : decode prog_14_method_42_code 0 = .ok (.iload_n 1, 1) := by decide +kernel
theorem d_Mo_isGiven_1 : decode prog_14_method_42_code 1 = .ok (.invokestatic 144, 3) := by decide +kernel
theorem d_Mo_isGiven_4 : decode prog_14_method_42_code 4 = .ok (.ifCond .eq 22, 3) := by decide +kernel
theorem d_Mo_isGiven_7 : decode prog_14_method_42_code 7 = .ok (.iload_n 2, 1) := by decide +kernel
theorem d_Mo_isGiven_8 : decode prog_14_method_42_code 8 = .ok (.iconst 1, 1) := by decide +kernel
theorem d_Mo_isGiven_9 : decode prog_14_method_42_code 9 = .ok (.if_icmp .lt 17, 3) := by decide +kernel
theorem d_Mo_isGiven_12 : decode prog_14_method_42_code 12 = .ok (.iload_n 2, 1) := by decide +kernel
theorem d_Mo_isGiven_13 : decode prog_14_method_42_code 13 = .ok (.aload_n 0, 1) := by decide +kernel
theorem d_Mo_isGiven_14 : decode prog_14_method_42_code 14 = .ok (.getfield 77, 3) := by decide +kernel
theorem d_Mo_isGiven_17 : decode prog_14_method_42_code 17 = .ok (.iload_n 1, 1) := by decide +kernel
theorem d_Mo_isGiven_18 : decode prog_14_method_42_code 18 = .ok (.iaload, 1) := by decide +kernel
theorem d_Mo_isGiven_19 : decode prog_14_method_42_code 19 = .ok (.if_icmp .gt 7, 3) := by decide +kernel
theorem d_Mo_isGiven_22 : decode prog_14_method_42_code 22 = .ok (.iconst 1, 1) := by decide +kernel
theorem d_Mo_isGiven_23 : decode prog_14_method_42_code 23 = .ok (.goto 4, 3) := by decide +kernel
theorem d_Mo_isGiven_26 : decode prog_14_method_42_code 26 = .ok (.iconst 0, 1) := by decide +kernel
theorem d_Mo_isGiven_27 : decode prog_14_method_42_code 27 = .ok (.ireturn, 1) := by decide +kernel
theorem d_Mo_invoiceOf_0 : decode prog_14_method_44_code 0 = .ok (.aload_n 0, 1) := by decide +kernel
theorem d_Mo_invoiceOf_1 : decode prog_14_method_44_code 1 = .ok (.aload_n 0, 1) := by decide +kernel
theorem d_Mo_invoiceOf_2 : decode prog_14_method_44_code 2 = .ok (.getfield 7, 3) := by decide +kernel
theorem d_Mo_invoiceOf_5 : decode prog_14_method_44_code 5 = .ok (.aload_n 0, 1) := by decide +kernel
theorem d_Mo_invoiceOf_6 : decode prog_14_method_44_code 6 = .ok (.getfield 116, 3) := by decide +kernel
theorem d_Mo_invoiceOf_9 : decode prog_14_method_44_code 9 = .ok (.baload, 1) := by decide +kernel
theorem d_Mo_invoiceOf_10 : decode prog_14_method_44_code 10 = .ok (.ifCond .eq 7, 3) := by decide +kernel
theorem d_Mo_invoiceOf_17 : decode prog_14_method_44_code 17 = .ok (.iconst 0, 1) := by decide +kernel
theorem d_Mo_invoiceOf_13 : decode prog_14_method_44_code 13 = .ok (.iconst 1, 1) := by decide +kernel
theorem d_Mo_invoiceOf_14 : decode prog_14_method_44_code 14 = .ok (.goto 4, 3) := by decide +kernel
theorem d_Mo_invoiceOf_18 : decode prog_14_method_44_code 18 = .ok (.putfield 120, 3) := by decide +kernel
theorem d_Mo_invoiceOf_21 : decode prog_14_method_44_code 21 = .ok (.aload_n 0, 1) := by decide +kernel
theorem d_Mo_invoiceOf_22 : decode prog_14_method_44_code 22 = .ok (.getfield 120, 3) := by decide +kernel
theorem d_Mo_invoiceOf_25 : decode prog_14_method_44_code 25 = .ok (.iconst 1, 1) := by decide +kernel
theorem d_Mo_invoiceOf_26 : decode prog_14_method_44_code 26 = .ok (.if_icmp .ne 5, 3) := by decide +kernel
theorem d_Mo_invoiceOf_31 : decode prog_14_method_44_code 31 = .ok (.aload_n 0, 1) := by decide +kernel
theorem d_Mo_invoiceOf_32 : decode prog_14_method_44_code 32 = .ok (.iload_n 1, 1) := by decide +kernel
theorem d_Mo_invoiceOf_33 : decode prog_14_method_44_code 33 = .ok (.iload_n 2, 1) := by decide +kernel
theorem d_Mo_invoiceOf_34 : decode prog_14_method_44_code 34 = .ok (.invokevirtual 205, 3) := by decide +kernel
theorem d_Mo_invoiceOf_37 : decode prog_14_method_44_code 37 = .ok (.ifCond .ne 7, 3) := by decide +kernel
theorem d_Mo_invoiceOf_44 : decode prog_14_method_44_code 44 = .ok (.aload_n 0, 1) := by decide +kernel
theorem d_Mo_invoiceOf_45 : decode prog_14_method_44_code 45 = .ok (.iload_n 1, 1) := by decide +kernel
theorem d_Mo_invoiceOf_46 : decode prog_14_method_44_code 46 = .ok (.iload_n 2, 1) := by decide +kernel
theorem d_Mo_invoiceOf_47 : decode prog_14_method_44_code 47 = .ok (.invokevirtual 148, 3) := by decide +kernel
theorem d_Mo_invoiceOf_50 : decode prog_14_method_44_code 50 = .ok (.istore 4, 2) := by decide +kernel
theorem d_Mo_invoiceOf_52 : decode prog_14_method_44_code 52 = .ok (.iload_n 3, 1) := by decide +kernel
theorem d_Mo_invoiceOf_53 : decode prog_14_method_44_code 53 = .ok (.tableswitch 117 0 3 #[31, 56, 82, 91], 31) := by decide +kernel
theorem d_Mo_invoiceOf_170 : decode prog_14_method_44_code 170 = .ok (.ldc2_w 208, 3) := by decide +kernel
theorem d_Mo_invoiceOf_173 : decode prog_14_method_44_code 173 = .ok (.lreturn, 1) := by decide +kernel
theorem d_Mo_invoiceOf_144 : decode prog_14_method_44_code 144 = .ok (.aload_n 0, 1) := by decide +kernel
theorem d_Mo_invoiceOf_145 : decode prog_14_method_44_code 145 = .ok (.getfield 80, 3) := by decide +kernel
theorem d_Mo_invoiceOf_148 : decode prog_14_method_44_code 148 = .ok (.iload 4, 2) := by decide +kernel
theorem d_Mo_invoiceOf_150 : decode prog_14_method_44_code 150 = .ok (.baload, 1) := by decide +kernel
theorem d_Mo_invoiceOf_151 : decode prog_14_method_44_code 151 = .ok (.iconst 3, 1) := by decide +kernel
theorem d_Mo_invoiceOf_152 : decode prog_14_method_44_code 152 = .ok (.if_icmp .ne 14, 3) := by decide +kernel
theorem d_Mo_invoiceOf_166 : decode prog_14_method_44_code 166 = .ok (.ldc2_w 208, 3) := by decide +kernel
theorem d_Mo_invoiceOf_155 : decode prog_14_method_44_code 155 = .ok (.aload_n 0, 1) := by decide +kernel
theorem d_Mo_invoiceOf_156 : decode prog_14_method_44_code 156 = .ok (.getfield 92, 3) := by decide +kernel
