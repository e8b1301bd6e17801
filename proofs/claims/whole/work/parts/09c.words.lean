theorem d_Mo_invoiceOf_159 : decode prog_14_method_44_code 159 = .ok (.iload 4, 2) := by decide +kernel
theorem d_Mo_invoiceOf_161 : decode prog_14_method_44_code 161 = .ok (.baload, 1) := by decide +kernel
theorem d_Mo_invoiceOf_162 : decode prog_14_method_44_code 162 = .ok (.i2l, 1) := by decide +kernel
theorem d_Mo_invoiceOf_163 : decode prog_14_method_44_code 163 = .ok (.goto 6, 3) := by decide +kernel
theorem d_Mo_invoiceOf_135 : decode prog_14_method_44_code 135 = .ok (.aload_n 0, 1) := by decide +kernel
theorem d_Mo_invoiceOf_136 : decode prog_14_method_44_code 136 = .ok (.getfield 83, 3) := by decide +kernel
theorem d_Mo_invoiceOf_139 : decode prog_14_method_44_code 139 = .ok (.iload 4, 2) := by decide +kernel
theorem d_Mo_invoiceOf_141 : decode prog_14_method_44_code 141 = .ok (.baload, 1) := by decide +kernel
theorem d_Mo_invoiceOf_142 : decode prog_14_method_44_code 142 = .ok (.i2l, 1) := by decide +kernel
theorem d_Mo_invoiceOf_143 : decode prog_14_method_44_code 143 = .ok (.lreturn, 1) := by decide +kernel
theorem d_Mo_invoiceOf_109 : decode prog_14_method_44_code 109 = .ok (.aload_n 0, 1) := by decide +kernel
theorem d_Mo_invoiceOf_110 : decode prog_14_method_44_code 110 = .ok (.getfield 80, 3) := by decide +kernel
theorem d_Mo_invoiceOf_113 : decode prog_14_method_44_code 113 = .ok (.iload 4, 2) := by decide +kernel
theorem d_Mo_invoiceOf_115 : decode prog_14_method_44_code 115 = .ok (.baload, 1) := by decide +kernel
theorem d_Mo_invoiceOf_116 : decode prog_14_method_44_code 116 = .ok (.iconst 2, 1) := by decide +kernel
theorem d_Mo_invoiceOf_117 : decode prog_14_method_44_code 117 = .ok (.if_icmp .ne 14, 3) := by decide +kernel
theorem d_Mo_invoiceOf_131 : decode prog_14_method_44_code 131 = .ok (.ldc2_w 208, 3) := by decide +kernel
theorem d_Mo_invoiceOf_120 : decode prog_14_method_44_code 120 = .ok (.aload_n 0, 1) := by decide +kernel
theorem d_Mo_invoiceOf_121 : decode prog_14_method_44_code 121 = .ok (.getfield 89, 3) := by decide +kernel
theorem d_Mo_invoiceOf_124 : decode prog_14_method_44_code 124 = .ok (.iload 4, 2) := by decide +kernel
theorem d_Mo_invoiceOf_126 : decode prog_14_method_44_code 126 = .ok (.iaload, 1) := by decide +kernel
theorem d_Mo_invoiceOf_127 : decode prog_14_method_44_code 127 = .ok (.i2l, 1) := by decide +kernel
theorem d_Mo_invoiceOf_128 : decode prog_14_method_44_code 128 = .ok (.goto 6, 3) := by decide +kernel
theorem d_Mo_invoiceOf_84 : decode prog_14_method_44_code 84 = .ok (.aload_n 0, 1) := by decide +kernel
theorem d_Mo_invoiceOf_85 : decode prog_14_method_44_code 85 = .ok (.getfield 80, 3) := by decide +kernel
theorem d_Mo_invoiceOf_88 : decode prog_14_method_44_code 88 = .ok (.iload 4, 2) := by decide +kernel
theorem d_Mo_invoiceOf_90 : decode prog_14_method_44_code 90 = .ok (.baload, 1) := by decide +kernel
theorem d_Mo_invoiceOf_91 : decode prog_14_method_44_code 91 = .ok (.iconst 2, 1) := by decide +kernel
theorem d_Mo_invoiceOf_92 : decode prog_14_method_44_code 92 = .ok (.if_icmp .ne 13, 3) := by decide +kernel
theorem d_Mo_invoiceOf_105 : decode prog_14_method_44_code 105 = .ok (.ldc2_w 208, 3) := by decide +kernel
theorem d_Mo_invoiceOf_95 : decode prog_14_method_44_code 95 = .ok (.aload_n 0, 1) := by decide +kernel
theorem d_Mo_invoiceOf_96 : decode prog_14_method_44_code 96 = .ok (.getfield 86, 3) := by decide +kernel
theorem d_Mo_invoiceOf_99 : decode prog_14_method_44_code 99 = .ok (.iload 4, 2) := by decide +kernel
theorem d_Mo_invoiceOf_101 : decode prog_14_method_44_code 101 = .ok (.laload, 1) := by decide +kernel
theorem d_Mo_invoiceOf_102 : decode prog_14_method_44_code 102 = .ok (.goto 6, 3) := by decide +kernel
theorem d_Mo_invoiceOf_40 : decode prog_14_method_44_code 40 = .ok (.ldc2_w 208, 3) := by decide +kernel
theorem d_Mo_invoiceOf_43 : decode prog_14_method_44_code 43 = .ok (.lreturn, 1) := by decide +kernel
theorem d_Mo_invoiceOf_29 : decode prog_14_method_44_code 29 = .ok (.lconst 0, 1) := by decide +kernel
theorem d_Mo_invoiceOf_30 : decode prog_14_method_44_code 30 = .ok (.lreturn, 1) := by decide +kernel
theorem d_Mo_invoiceOf_169 : decode prog_14_method_44_code 169 = .ok (.lreturn, 1) := by decide +kernel
theorem d_Mo_invoiceOf_134 : decode prog_14_method_44_code 134 = .ok (.lreturn, 1) := by decide +kernel
theorem d_Mo_invoiceOf_108 : decode prog_14_method_44_code 108 = .ok (.lreturn, 1) := by decide +kernel
theorem d_Mo_total_0 : decode prog_14_method_46_code 0 = .ok (.aload_n 0, 1) := by decide +kernel
theorem d_Mo_total_1 : decode prog_14_method_46_code 1 = .ok (.aload_n 0, 1) := by decide +kernel
theorem d_Mo_total_2 : decode prog_14_method_46_code 2 = .ok (.getfield 7, 3) := by decide +kernel
theorem d_Mo_total_5 : decode prog_14_method_46_code 5 = .ok (.aload_n 0, 1) := by decide +kernel
theorem d_Mo_total_6 : decode prog_14_method_46_code 6 = .ok (.getfield 116, 3) := by decide +kernel
theorem d_Mo_total_9 : decode prog_14_method_46_code 9 = .ok (.baload, 1) := by decide +kernel
theorem d_Mo_total_10 : decode prog_14_method_46_code 10 = .ok (.ifCond .eq 7, 3) := by decide +kernel
theorem d_Mo_total_17 : decode prog_14_method_46_code 17 = .ok (.iconst 0, 1) := by decide +kernel
theorem d_Mo_total_13 : decode prog_14_method_46_code 13 = .ok (.iconst 1, 1) := by decide +kernel
theorem d_Mo_total_14 : decode prog_14_method_46_code 14 = .ok (.goto 4, 3) := by decide +kernel
theorem d_Mo_total_18 : decode prog_14_method_46_code 18 = .ok (.putfield 120, 3) := by decide +kernel
theorem d_Mo_total_21 : decode prog_14_method_46_code 21 = .ok (.aload_n 0, 1) := by decide +kernel
theorem d_Mo_total_22 : decode prog_14_method_46_code 22 = .ok (.getfield 120, 3) := by decide +kernel
theorem d_Mo_total_25 : decode prog_14_method_46_code 25 = .ok (.ifCond .ne 27, 3) := by decide +kernel
theorem d_Mo_total_28 : decode prog_14_method_46_code 28 = .ok (.iload_n 1, 1) := by decide +kernel
theorem d_Mo_total_29 : decode prog_14_method_46_code 29 = .ok (.invokestatic 144, 3) := by decide +kernel
theorem d_Mo_total_32 : decode prog_14_method_46_code 32 = .ok (.ifCond .eq 20, 3) := by decide +kernel
theorem d_Mo_total_35 : decode prog_14_method_46_code 35 = .ok (.aload_n 0, 1) := by decide +kernel
theorem d_Mo_total_36 : decode prog_14_method_46_code 36 = .ok (.iload_n 2, 1) := by decide +kernel
theorem d_Mo_total_37 : decode prog_14_method_46_code 37 = .ok (.invokevirtual 163, 3) := by decide +kernel
theorem d_Mo_total_40 : decode prog_14_method_46_code 40 = .ok (.ifCond .eq 12, 3) := by decide +kernel
theorem d_Mo_total_43 : decode prog_14_method_46_code 43 = .ok (.aload_n 0, 1) := by decide +kernel
theorem d_Mo_total_44 : decode prog_14_method_46_code 44 = .ok (.iload_n 1, 1) := by decide +kernel
theorem d_Mo_total_45 : decode prog_14_method_46_code 45 = .ok (.iload_n 2, 1) := by decide +kernel
theorem d_Mo_total_46 : decode prog_14_method_46_code 46 = .ok (.invokevirtual 210, 3) := by decide +kernel
theorem d_Mo_sum_0 : decode prog_14_method_45_code 0 = .ok (.lconst 0, 1) := by decide +kernel
theorem d_Mo_sum_1 : decode prog_14_method_45_code 1 = .ok (.lstore_n 3, 1) := by decide +kernel
theorem d_Mo_sum_2 : decode prog_14_method_45_code 2 = .ok (.iconst 1, 1) := by decide +kernel
theorem d_Mo_sum_3 : decode prog_14_method_45_code 3 = .ok (.istore 5, 2) := by decide +kernel
theorem d_Mo_sum_5 : decode prog_14_method_45_code 5 = .ok (.iload 5, 2) := by decide +kernel
theorem d_Mo_sum_7 : decode prog_14_method_45_code 7 = .ok (.aload_n 0, 1) := by decide +kernel
theorem d_Mo_sum_8 : decode prog_14_method_45_code 8 = .ok (.getfield 77, 3) := by decide +kernel
theorem d_Mo_sum_11 : decode prog_14_method_45_code 11 = .ok (.iload_n 1, 1) := by decide +kernel
theorem d_Mo_sum_12 : decode prog_14_method_45_code 12 = .ok (.iaload, 1) := by decide +kernel
theorem d_Mo_sum_13 : decode prog_14_method_45_code 13 = .ok (.if_icmp .gt 60, 3) := by decide +kernel
theorem d_Mo_sum_73 : decode prog_14_method_45_code 73 = .ok (.lload_n 3, 1) := by decide +kernel
theorem d_Mo_sum_74 : decode prog_14_method_45_code 74 = .ok (.lreturn, 1) := by decide +kernel
theorem d_Mo_sum_16 : decode prog_14_method_45_code 16 = .ok (.aload_n 0, 1) := by decide +kernel
theorem d_Mo_sum_17 : decode prog_14_method_45_code 17 = .ok (.iload_n 1, 1) := by decide +kernel
theorem d_Mo_sum_18 : decode prog_14_method_45_code 18 = .ok (.iload 5, 2) := by decide +kernel
theorem d_Mo_sum_20 : decode prog_14_method_45_code 20 = .ok (.invokevirtual 148, 3) := by decide +kernel
theorem d_Mo_sum_23 : decode prog_14_method_45_code 23 = .ok (.istore 6, 2) := by decide +kernel
theorem d_Mo_sum_25 : decode prog_14_method_45_code 25 = .ok (.lload_n 3, 1) := by decide +kernel
theorem d_Mo_sum_26 : decode prog_14_method_45_code 26 = .ok (.aload_n 0, 1) := by decide +kernel
theorem d_Mo_sum_27 : decode prog_14_method_45_code 27 = .ok (.getfield 80, 3) := by decide +kernel
theorem d_Mo_sum_30 : decode prog_14_method_45_code 30 = .ok (.iload 6, 2) := by decide +kernel
theorem d_Mo_sum_32 : decode prog_14_method_45_code 32 = .ok (.baload, 1) := by decide +kernel
theorem d_Mo_sum_33 : decode prog_14_method_45_code 33 = .ok (.iconst 2, 1) := by decide +kernel
theorem d_Mo_sum_34 : decode prog_14_method_45_code 34 = .ok (.if_icmp .ne 30, 3) := by decide +kernel
theorem d_Mo_sum_37 : decode prog_14_method_45_code 37 = .ok (.iload_n 2, 1) := by decide +kernel
theorem d_Mo_sum_38 : decode prog_14_method_45_code 38 = .ok (.bipush 6, 2) := by decide +kernel
theorem d_Mo_sum_40 : decode prog_14_method_45_code 40 = .ok (.if_icmp .eq 14, 3) := by decide +kernel
theorem d_Mo_sum_43 : decode prog_14_method_45_code 43 = .ok (.aload_n 0, 1) := by decide +kernel
theorem d_Mo_sum_44 : decode prog_14_method_45_code 44 = .ok (.getfield 83, 3) := by decide +kernel
theorem d_Mo_sum_47 : decode prog_14_method_45_code 47 = .ok (.iload 6, 2) := by decide +kernel
theorem d_Mo_sum_49 : decode prog_14_method_45_code 49 = .ok (.baload, 1) := by decide +kernel
theorem d_Mo_sum_50 : decode prog_14_method_45_code 50 = .ok (.iload_n 2, 1) := by decide +kernel
theorem d_Mo_sum_51 : decode prog_14_method_45_code 51 = .ok (.if_icmp .ne 13, 3) := by decide +kernel
theorem d_Mo_sum_64 : decode prog_14_method_45_code 64 = .ok (.lconst 0, 1) := by decide +kernel
theorem d_Mo_sum_54 : decode prog_14_method_45_code 54 = .ok (.aload_n 0, 1) := by decide +kernel
theorem d_Mo_sum_55 : decode prog_14_method_45_code 55 = .ok (.getfield 86, 3) := by decide +kernel
theorem d_Mo_sum_58 : decode prog_14_method_45_code 58 = .ok (.iload 6, 2) := by decide +kernel
theorem d_Mo_sum_60 : decode prog_14_method_45_code 60 = .ok (.laload, 1) := by decide +kernel
theorem d_Mo_sum_61 : decode prog_14_method_45_code 61 = .ok (.goto 4, 3) := by decide +kernel
theorem d_Mo_sum_65 : decode prog_14_method_45_code 65 = .ok (.ladd, 1) := by decide +kernel
theorem d_Mo_sum_66 : decode prog_14_method_45_code 66 = .ok (.lstore_n 3, 1) := by decide +kernel
theorem d_Mo_sum_67 : decode prog_14_method_45_code 67 = .ok (.iinc 5 1, 3) := by decide +kernel
theorem d_Mo_sum_70 : decode prog_14_method_45_code 70 = .ok (.goto (-65), 3) := by decide +kernel
theorem d_Mo_branchFate_0 : decode prog_14_method_47_code 0 = .ok (.aload_n 0, 1) := by decide +kernel
theorem d_Mo_branchFate_1 : decode prog_14_method_47_code 1 = .ok (.iconst 0, 1) := by decide +kernel
theorem d_Mo_branchFate_2 : decode prog_14_method_47_code 2 = .ok (.putfield 120, 3) := by decide +kernel
theorem d_Mo_branchFate_5 : decode prog_14_method_47_code 5 = .ok (.aload_n 0, 1) := by decide +kernel
theorem d_Mo_branchFate_6 : decode prog_14_method_47_code 6 = .ok (.iload_n 1, 1) := by decide +kernel
theorem d_Mo_branchFate_7 : decode prog_14_method_47_code 7 = .ok (.invokevirtual 163, 3) := by decide +kernel
theorem d_Mo_branchFate_10 : decode prog_14_method_47_code 10 = .ok (.ifCond .eq 19, 3) := by decide +kernel
theorem d_Mo_branchFate_13 : decode prog_14_method_47_code 13 = .ok (.iload_n 2, 1) := by decide +kernel
theorem d_Mo_branchFate_14 : decode prog_14_method_47_code 14 = .ok (.invokestatic 144, 3) := by decide +kernel
theorem d_Mo_branchFate_17 : decode prog_14_method_47_code 17 = .ok (.ifCond .eq 12, 3) := by decide +kernel
theorem d_Mo_branchFate_20 : decode prog_14_method_47_code 20 = .ok (.aload_n 0, 1) := by decide +kernel
theorem d_Mo_branchFate_21 : decode prog_14_method_47_code 21 = .ok (.getfield 7, 3) := by decide +kernel
theorem d_Mo_branchFate_24 : decode prog_14_method_47_code 24 = .ok (.iload_n 1, 1) := by decide +kernel
theorem d_Mo_branchFate_25 : decode prog_14_method_47_code 25 = .ok (.baload, 1) := by decide +kernel
theorem d_Mo_branchFate_26 : decode prog_14_method_47_code 26 = .ok (.ifCond .eq 5, 3) := by decide +kernel
theorem d_Mo_branchFate_31 : decode prog_14_method_47_code 31 = .ok (.aload_n 0, 1) := by decide +kernel
theorem d_Mo_branchFate_32 : decode prog_14_method_47_code 32 = .ok (.iconst 3, 1) := by decide +kernel
theorem d_Mo_branchFate_33 : decode prog_14_method_47_code 33 = .ok (.iload_n 1, 1) := by decide +kernel
theorem d_Mo_branchFate_34 : decode prog_14_method_47_code 34 = .ok (.imul, 1) := by decide +kernel
theorem d_Mo_branchFate_35 : decode prog_14_method_47_code 35 = .ok (.iload_n 2, 1) := by decide +kernel
theorem d_Mo_branchFate_36 : decode prog_14_method_47_code 36 = .ok (.iadd, 1) := by decide +kernel
theorem d_Mo_branchFate_37 : decode prog_14_method_47_code 37 = .ok (.iload_n 3, 1) := by decide +kernel
theorem d_Mo_branchFate_38 : decode prog_14_method_47_code 38 = .ok (.invokevirtual 186, 3) := by decide +kernel
theorem d_Mo_branchFate_41 : decode prog_14_method_47_code 41 = .ok (.istore 4, 2) := by decide +kernel
theorem d_Mo_branchFate_43 : decode prog_14_method_47_code 43 = .ok (.iload 4, 2) := by decide +kernel
theorem d_Mo_branchFate_45 : decode prog_14_method_47_code 45 = .ok (.iconst (-1), 1) := by decide +kernel
theorem d_Mo_branchFate_46 : decode prog_14_method_47_code 46 = .ok (.if_icmp .ne 7, 3) := by decide +kernel
theorem d_Mo_branchFate_53 : decode prog_14_method_47_code 53 = .ok (.aload_n 0, 1) := by decide +kernel
theorem d_Mo_branchFate_54 : decode prog_14_method_47_code 54 = .ok (.getfield 36, 3) := by decide +kernel
theorem d_Mo_branchFate_57 : decode prog_14_method_47_code 57 = .ok (.sipush 300, 3) := by decide +kernel
theorem d_Mo_branchFate_60 : decode prog_14_method_47_code 60 = .ok (.iconst 3, 1) := by decide +kernel
theorem d_Mo_branchFate_61 : decode prog_14_method_47_code 61 = .ok (.iload_n 1, 1) := by decide +kernel
theorem d_Mo_branchFate_62 : decode prog_14_method_47_code 62 = .ok (.imul, 1) := by decide +kernel
theorem d_Mo_branchFate_63 : decode prog_14_method_47_code 63 = .ok (.iload_n 2, 1) := by decide +kernel
theorem d_Mo_branchFate_64 : decode prog_14_method_47_code 64 = .ok (.iadd, 1) := by decide +kernel
theorem d_Mo_branchFate_65 : decode prog_14_method_47_code 65 = .ok (.imul, 1) := by decide +kernel
theorem d_Mo_branchFate_66 : decode prog_14_method_47_code 66 = .ok (.iload 4, 2) := by decide +kernel
theorem d_Mo_branchFate_68 : decode prog_14_method_47_code 68 = .ok (.iadd, 1) := by decide +kernel
theorem d_Mo_branchFate_69 : decode prog_14_method_47_code 69 = .ok (.baload, 1) := by decide +kernel
theorem d_Mo_branchFate_49 : decode prog_14_method_47_code 49 = .ok (.iconst 0, 1) := by decide +kernel
theorem d_Mo_branchFate_50 : decode prog_14_method_47_code 50 = .ok (.goto 20, 3) := by decide +kernel
theorem d_Mo_branchFate_29 : decode prog_14_method_47_code 29 = .ok (.iconst (-1), 1) := by decide +kernel
theorem d_Mo_branchFate_30 : decode prog_14_method_47_code 30 = .ok (.ireturn, 1) := by decide +kernel
theorem d_Mo_branchFate_70 : decode prog_14_method_47_code 70 = .ok (.ireturn, 1) := by decide +kernel
theorem d_Mo_branch_0 : decode prog_14_method_48_code 0 = .ok (.aload_n 0, 1) := by decide +kernel
theorem d_Mo_branch_1 : decode prog_14_method_48_code 1 = .ok (.iconst 0, 1) := by decide +kernel
theorem d_Mo_branch_2 : decode prog_14_method_48_code 2 = .ok (.putfield 120, 3) := by decide +kernel
theorem d_Mo_branch_5 : decode prog_14_method_48_code 5 = .ok (.aload_n 0, 1) := by decide +kernel
theorem d_Mo_branch_6 : decode prog_14_method_48_code 6 = .ok (.iload_n 1, 1) := by decide +kernel
theorem d_Mo_branch_7 : decode prog_14_method_48_code 7 = .ok (.invokevirtual 163, 3) := by decide +kernel
theorem d_Mo_branch_10 : decode prog_14_method_48_code 10 = .ok (.ifCond .eq 12, 3) := by decide +kernel
theorem d_Mo_branch_13 : decode prog_14_method_48_code 13 = .ok (.aload_n 0, 1) := by decide +kernel
theorem d_Mo_branch_14 : decode prog_14_method_48_code 14 = .ok (.getfield 7, 3) := by decide +kernel
theorem d_Mo_branch_17 : decode prog_14_method_48_code 17 = .ok (.iload_n 1, 1) := by decide +kernel
theorem d_Mo_branch_18 : decode prog_14_method_48_code 18 = .ok (.baload, 1) := by decide +kernel
theorem d_Mo_branch_19 : decode prog_14_method_48_code 19 = .ok (.ifCond .eq 5, 3) := by decide +kernel
theorem d_Mo_branch_24 : decode prog_14_method_48_code 24 = .ok (.iload_n 2, 1) := by decide +kernel
theorem d_Mo_branch_25 : decode prog_14_method_48_code 25 = .ok (.tableswitch 102 0 5 #[39, 54, 61, 76, 76, 76], 39) := by decide +kernel
theorem d_Mo_branch_127 : decode prog_14_method_48_code 127 = .ok (.iconst (-1), 1) := by decide +kernel
theorem d_Mo_branch_128 : decode prog_14_method_48_code 128 = .ok (.ireturn, 1) := by decide +kernel
theorem d_Mo_branch_86 : decode prog_14_method_48_code 86 = .ok (.aload_n 0, 1) := by decide +kernel
theorem d_Mo_branch_87 : decode prog_14_method_48_code 87 = .ok (.getfield 68, 3) := by decide +kernel
theorem d_Mo_branch_90 : decode prog_14_method_48_code 90 = .ok (.iload_n 1, 1) := by decide +kernel
theorem d_Mo_branch_91 : decode prog_14_method_48_code 91 = .ok (.baload, 1) := by decide +kernel
theorem d_Mo_branch_92 : decode prog_14_method_48_code 92 = .ok (.ifCond .eq 7, 3) := by decide +kernel
theorem d_Mo_branch_99 : decode prog_14_method_48_code 99 = .ok (.iconst 0, 1) := by decide +kernel
theorem d_Mo_branch_95 : decode prog_14_method_48_code 95 = .ok (.iconst 1, 1) := by decide +kernel
theorem d_Mo_branch_96 : decode prog_14_method_48_code 96 = .ok (.goto 4, 3) := by decide +kernel
theorem d_Mo_branch_79 : decode prog_14_method_48_code 79 = .ok (.aload_n 0, 1) := by decide +kernel
theorem d_Mo_branch_80 : decode prog_14_method_48_code 80 = .ok (.getfield 53, 3) := by decide +kernel
theorem d_Mo_branch_83 : decode prog_14_method_48_code 83 = .ok (.iload_n 1, 1) := by decide +kernel
theorem d_Mo_branch_84 : decode prog_14_method_48_code 84 = .ok (.iaload, 1) := by decide +kernel
theorem d_Mo_branch_85 : decode prog_14_method_48_code 85 = .ok (.ireturn, 1) := by decide +kernel
theorem d_Mo_branch_64 : decode prog_14_method_48_code 64 = .ok (.aload_n 0, 1) := by decide +kernel
theorem d_Mo_branch_65 : decode prog_14_method_48_code 65 = .ok (.getfield 65, 3) := by decide +kernel
theorem d_Mo_branch_68 : decode prog_14_method_48_code 68 = .ok (.iload_n 1, 1) := by decide +kernel
theorem d_Mo_branch_69 : decode prog_14_method_48_code 69 = .ok (.baload, 1) := by decide +kernel
theorem d_Mo_branch_70 : decode prog_14_method_48_code 70 = .ok (.ifCond .eq 7, 3) := by decide +kernel
theorem d_Mo_branch_77 : decode prog_14_method_48_code 77 = .ok (.iconst 0, 1) := by decide +kernel
theorem d_Mo_branch_73 : decode prog_14_method_48_code 73 = .ok (.iconst 1, 1) := by decide +kernel
theorem d_Mo_branch_74 : decode prog_14_method_48_code 74 = .ok (.goto 4, 3) := by decide +kernel
theorem d_Mo_branch_22 : decode prog_14_method_48_code 22 = .ok (.iconst (-1), 1) := by decide +kernel
theorem d_Mo_branch_23 : decode prog_14_method_48_code 23 = .ok (.ireturn, 1) := by decide +kernel
theorem d_Mo_branch_101 : decode prog_14_method_48_code 101 = .ok (.aload_n 0, 1) := by decide +kernel
theorem d_Mo_branch_102 : decode prog_14_method_48_code 102 = .ok (.getfield 23, 3) := by decide +kernel
theorem d_Mo_branch_105 : decode prog_14_method_48_code 105 = .ok (.iconst 3, 1) := by decide +kernel
theorem d_Mo_branch_106 : decode prog_14_method_48_code 106 = .ok (.iload_n 1, 1) := by decide +kernel
theorem d_Mo_branch_107 : decode prog_14_method_48_code 107 = .ok (.imul, 1) := by decide +kernel
theorem d_Mo_branch_108 : decode prog_14_method_48_code 108 = .ok (.iload_n 2, 1) := by decide +kernel
theorem d_Mo_branch_109 : decode prog_14_method_48_code 109 = .ok (.iadd, 1) := by decide +kernel
theorem d_Mo_branch_110 : decode prog_14_method_48_code 110 = .ok (.iconst 3, 1) := by decide +kernel
theorem d_Mo_branch_111 : decode prog_14_method_48_code 111 = .ok (.isub, 1) := by decide +kernel
theorem d_Mo_branch_112 : decode prog_14_method_48_code 112 = .ok (.iaload, 1) := by decide +kernel
theorem d_Mo_branch_113 : decode prog_14_method_48_code 113 = .ok (.aload_n 0, 1) := by decide +kernel
theorem d_Mo_branch_114 : decode prog_14_method_48_code 114 = .ok (.getfield 26, 3) := by decide +kernel
theorem d_Mo_branch_117 : decode prog_14_method_48_code 117 = .ok (.iconst 3, 1) := by decide +kernel
theorem d_Mo_branch_118 : decode prog_14_method_48_code 118 = .ok (.iload_n 1, 1) := by decide +kernel
theorem d_Mo_branch_119 : decode prog_14_method_48_code 119 = .ok (.imul, 1) := by decide +kernel
theorem d_Mo_branch_120 : decode prog_14_method_48_code 120 = .ok (.iload_n 2, 1) := by decide +kernel
theorem d_Mo_branch_121 : decode prog_14_method_48_code 121 = .ok (.iadd, 1) := by decide +kernel
theorem d_Mo_branch_122 : decode prog_14_method_48_code 122 = .ok (.iconst 3, 1) := by decide +kernel
theorem d_Mo_branch_123 : decode prog_14_method_48_code 123 = .ok (.isub, 1) := by decide +kernel
theorem d_Mo_branch_124 : decode prog_14_method_48_code 124 = .ok (.iaload, 1) := by decide +kernel
theorem d_Mo_branch_125 : decode prog_14_method_48_code 125 = .ok (.isub, 1) := by decide +kernel
theorem d_Mo_branch_126 : decode prog_14_method_48_code 126 = .ok (.ireturn, 1) := by decide +kernel
theorem d_Mo_branch_100 : decode prog_14_method_48_code 100 = .ok (.ireturn, 1) := by decide +kernel
theorem d_Mo_branch_78 : decode prog_14_method_48_code 78 = .ok (.ireturn, 1) := by decide +kernel
theorem d_Mo_listByte_0 : decode prog_14_method_52_code 0 = .ok (.aload_n 0, 1) := by decide +kernel
theorem d_Mo_listByte_1 : decode prog_14_method_52_code 1 = .ok (.aload_n 0, 1) := by decide +kernel
theorem d_Mo_listByte_2 : decode prog_14_method_52_code 2 = .ok (.getfield 7, 3) := by decide +kernel
theorem d_Mo_listByte_5 : decode prog_14_method_52_code 5 = .ok (.aload_n 0, 1) := by decide +kernel
theorem d_Mo_listByte_6 : decode prog_14_method_52_code 6 = .ok (.getfield 116, 3) := by decide +kernel
theorem d_Mo_listByte_9 : decode prog_14_method_52_code 9 = .ok (.baload, 1) := by decide +kernel
theorem d_Mo_listByte_10 : decode prog_14_method_52_code 10 = .ok (.ifCond .eq 7, 3) := by decide +kernel
theorem d_Mo_listByte_17 : decode prog_14_method_52_code 17 = .ok (.iconst 0, 1) := by decide +kernel
theorem d_Mo_listByte_13 : decode prog_14_method_52_code 13 = .ok (.iconst 1, 1) := by decide +kernel
theorem d_Mo_listByte_14 : decode prog_14_method_52_code 14 = .ok (.goto 4, 3) := by decide +kernel
theorem d_Mo_listByte_18 : decode prog_14_method_52_code 18 = .ok (.putfield 120, 3) := by decide +kernel
theorem d_Mo_listByte_21 : decode prog_14_method_52_code 21 = .ok (.aload_n 0, 1) := by decide +kernel
theorem d_Mo_listByte_22 : decode prog_14_method_52_code 22 = .ok (.getfield 120, 3) := by decide +kernel
theorem d_Mo_listByte_25 : decode prog_14_method_52_code 25 = .ok (.iconst 1, 1) := by decide +kernel
theorem d_Mo_listByte_26 : decode prog_14_method_52_code 26 = .ok (.if_icmp .eq 24, 3) := by decide +kernel
theorem d_Mo_listByte_29 : decode prog_14_method_52_code 29 = .ok (.iload_n 1, 1) := by decide +kernel
theorem d_Mo_listByte_30 : decode prog_14_method_52_code 30 = .ok (.invokestatic 144, 3) := by decide +kernel
theorem d_Mo_listByte_33 : decode prog_14_method_52_code 33 = .ok (.ifCond .eq 17, 3) := by decide +kernel
theorem d_Mo_listByte_36 : decode prog_14_method_52_code 36 = .ok (.aload_n 0, 1) := by decide +kernel
theorem d_Mo_listByte_37 : decode prog_14_method_52_code 37 = .ok (.getfield 71, 3) := by decide +kernel
theorem d_Mo_listByte_40 : decode prog_14_method_52_code 40 = .ok (.iload_n 1, 1) := by decide +kernel
theorem d_Mo_listByte_41 : decode prog_14_method_52_code 41 = .ok (.iaload, 1) := by decide +kernel
theorem d_Mo_listByte_42 : decode prog_14_method_52_code 42 = .ok (.iconst 2, 1) := by decide +kernel
theorem d_Mo_listByte_43 : decode prog_14_method_52_code 43 = .ok (.if_icmp .ne 7, 3) := by decide +kernel
theorem d_Mo_listByte_46 : decode prog_14_method_52_code 46 = .ok (.iload_n 2, 1) := by decide +kernel
theorem d_Mo_listByte_47 : decode prog_14_method_52_code 47 = .ok (.ifCond .ge 17, 3) := by decide +kernel
theorem d_Mo_listByte_64 : decode prog_14_method_52_code 64 = .ok (.aload_n 0, 1) := by decide +kernel
theorem d_Mo_listByte_65 : decode prog_14_method_52_code 65 = .ok (.iload_n 2, 1) := by decide +kernel
theorem d_Mo_listByte_66 : decode prog_14_method_52_code 66 = .ok (.putfield 217, 3) := by decide +kernel
theorem d_Mo_listByte_69 : decode prog_14_method_52_code 69 = .ok (.aload_n 0, 1) := by decide +kernel
theorem d_Mo_listByte_70 : decode prog_14_method_52_code 70 = .ok (.iconst 0, 1) := by decide +kernel
theorem d_Mo_listByte_71 : decode prog_14_method_52_code 71 = .ok (.putfield 214, 3) := by decide +kernel
theorem d_Mo_listByte_74 : decode prog_14_method_52_code 74 = .ok (.aload_n 0, 1) := by decide +kernel
theorem d_Mo_listByte_75 : decode prog_14_method_52_code 75 = .ok (.iconst (-1), 1) := by decide +kernel
theorem d_Mo_listByte_76 : decode prog_14_method_52_code 76 = .ok (.putfield 220, 3) := by decide +kernel
theorem d_Mo_listByte_79 : decode prog_14_method_52_code 79 = .ok (.iconst 1, 1) := by decide +kernel
theorem d_Mo_listByte_80 : decode prog_14_method_52_code 80 = .ok (.istore_n 3, 1) := by decide +kernel
theorem d_Mo_listByte_50 : decode prog_14_method_52_code 50 = .ok (.aload_n 0, 1) := by decide +kernel
theorem d_Mo_listByte_51 : decode prog_14_method_52_code 51 = .ok (.getfield 120, 3) := by decide +kernel
theorem d_Mo_listByte_54 : decode prog_14_method_52_code 54 = .ok (.iconst 1, 1) := by decide +kernel
theorem d_Mo_listByte_55 : decode prog_14_method_52_code 55 = .ok (.if_icmp .ne 7, 3) := by decide +kernel
theorem d_Mo_listByte_62 : decode prog_14_method_52_code 62 = .ok (.iconst (-1), 1) := by decide +kernel
theorem d_Mo_listByte_58 : decode prog_14_method_52_code 58 = .ok (.iconst 0, 1) := by decide +kernel
theorem d_Mo_listByte_59 : decode prog_14_method_52_code 59 = .ok (.goto 4, 3) := by decide +kernel
theorem d_Mo_listByte_81 : decode prog_14_method_52_code 81 = .ok (.iload_n 3, 1) := by decide +kernel
theorem d_Mo_listByte_82 : decode prog_14_method_52_code 82 = .ok (.aload_n 0, 1) := by decide +kernel
theorem d_Mo_listByte_83 : decode prog_14_method_52_code 83 = .ok (.getfield 77, 3) := by decide +kernel
theorem d_Mo_listByte_86 : decode prog_14_method_52_code 86 = .ok (.iload_n 1, 1) := by decide +kernel
theorem d_Mo_listByte_87 : decode prog_14_method_52_code 87 = .ok (.iaload, 1) := by decide +kernel
theorem d_Mo_listByte_88 : decode prog_14_method_52_code 88 = .ok (.if_icmp .gt 142, 3) := by decide +kernel
theorem d_Mo_listByte_230 : decode prog_14_method_52_code 230 = .ok (.aload_n 0, 1) := by decide +kernel
theorem d_Mo_listByte_231 : decode prog_14_method_52_code 231 = .ok (.bipush 84, 2) := by decide +kernel
theorem d_Mo_listByte_233 : decode prog_14_method_52_code 233 = .ok (.invokevirtual 223, 3) := by decide +kernel
theorem d_Mo_digits_0 : decode prog_14_method_50_code 0 = .ok (.lload_n 1, 1) := by decide +kernel
theorem d_Mo_digits_1 : decode prog_14_method_50_code 1 = .ok (.lconst 0, 1) := by decide +kernel
theorem d_Mo_digits_2 : decode prog_14_method_50_code 2 = .ok (.lcmp, 1) := by decide +kernel
theorem d_Mo_digits_3 : decode prog_14_method_50_code 3 = .ok (.ifCond .ge 9, 3) := by decide +kernel
theorem d_Mo_digits_6 : decode prog_14_method_50_code 6 = .ok (.aload_n 0, 1) := by decide +kernel
theorem d_Mo_digits_7 : decode prog_14_method_50_code 7 = .ok (.bipush 45, 2) := by decide +kernel
theorem d_Mo_digits_9 : decode prog_14_method_50_code 9 = .ok (.invokevirtual 223, 3) := by decide +kernel
theorem d_Mo_put_0 : decode prog_14_method_49_code 0 = .ok (.aload_n 0, 1) := by decide +kernel
theorem d_Mo_put_1 : decode prog_14_method_49_code 1 = .ok (.aload_n 0, 1) := by decide +kernel
theorem d_Mo_put_2 : decode prog_14_method_49_code 2 = .ok (.getfield 214, 3) := by decide +kernel
theorem d_Mo_put_5 : decode prog_14_method_49_code 5 = .ok (.aload_n 0, 1) := by decide +kernel
theorem d_Mo_put_6 : decode prog_14_method_49_code 6 = .ok (.getfield 217, 3) := by decide +kernel
theorem d_Mo_put_9 : decode prog_14_method_49_code 9 = .ok (.if_icmp .ne 7, 3) := by decide +kernel
theorem d_Mo_put_16 : decode prog_14_method_49_code 16 = .ok (.aload_n 0, 1) := by decide +kernel
theorem d_Mo_put_17 : decode prog_14_method_49_code 17 = .ok (.getfield 220, 3) := by decide +kernel
theorem d_Mo_put_12 : decode prog_14_method_49_code 12 = .ok (.iload_n 1, 1) := by decide +kernel
theorem d_Mo_put_13 : decode prog_14_method_49_code 13 = .ok (.goto 7, 3) := by decide +kernel
theorem d_Mo_put_20 : decode prog_14_method_49_code 20 = .ok (.putfield 220, 3) := by decide +kernel
theorem d_Mo_put_23 : decode prog_14_method_49_code 23 = .ok (.aload_n 0, 1) := by decide +kernel
theorem d_Mo_put_24 : decode prog_14_method_49_code 24 = .ok (.dup, 1) := by decide +kernel
theorem d_Mo_put_25 : decode prog_14_method_49_code 25 = .ok (.getfield 214, 3) := by decide +kernel
theorem d_Mo_put_28 : decode prog_14_method_49_code 28 = .ok (.iconst 1, 1) := by decide +kernel
theorem d_Mo_put_29 : decode prog_14_method_49_code 29 = .ok (.iadd, 1) := by decide +kernel
theorem d_Mo_put_30 : decode prog_14_method_49_code 30 = .ok (.putfield 214, 3) := by decide +kernel
theorem d_Mo_put_33 : decode prog_14_method_49_code 33 = .ok (.return_, 1) := by decide +kernel
theorem d_Mo_money_0 : decode prog_14_method_51_code 0 = .ok (.aload_n 0, 1) := by decide +kernel
theorem d_Mo_money_1 : decode prog_14_method_51_code 1 = .ok (.lload_n 1, 1) := by decide +kernel
theorem d_Mo_money_2 : decode prog_14_method_51_code 2 = .ok (.ldc2_w 232, 3) := by decide +kernel
theorem d_Mo_money_5 : decode prog_14_method_51_code 5 = .ok (.ldiv, 1) := by decide +kernel
theorem d_Mo_money_6 : decode prog_14_method_51_code 6 = .ok (.invokevirtual 234, 3) := by decide +kernel
theorem d_Law_law_0 : decode code 0 = .ok (.new 8, 3) := by decide +kernel
theorem d_Law_law_3 : decode code 3 = .ok (.dup, 1) := by decide +kernel
theorem d_Law_law_4 : decode code 4 = .ok (.aload_n 0, 1) := by decide +kernel
theorem d_Law_law_5 : decode code 5 = .ok (.iconst 0, 1) := by decide +kernel
theorem d_Law_law_6 : decode code 6 = .ok (.invokestatic 55, 3) := by decide +kernel
theorem d_Law_law_9 : decode code 9 = .ok (.invokespecial 61, 3) := by decide +kernel
theorem d_Branch_init_4 : decode prog_4_method_1_code 4 = .ok (.aload_n 0, 1) := by decide +kernel
theorem d_Branch_init_5 : decode prog_4_method_1_code 5 = .ok (.iconst 3, 1) := by decide +kernel
theorem d_Branch_init_6 : decode prog_4_method_1_code 6 = .ok (.anewarray 9, 3) := by decide +kernel
theorem d_Branch_init_9 : decode prog_4_method_1_code 9 = .ok (.putfield 11, 3) := by decide +kernel
theorem d_Branch_init_12 : decode prog_4_method_1_code 12 = .ok (.aload_n 0, 1) := by decide +kernel
theorem d_Branch_init_13 : decode prog_4_method_1_code 13 = .ok (.iload_n 1, 1) := by decide +kernel
theorem d_Branch_init_14 : decode prog_4_method_1_code 14 = .ok (.putfield 17, 3) := by decide +kernel
theorem d_Branch_init_17 : decode prog_4_method_1_code 17 = .ok (.iconst 0, 1) := by decide +kernel
theorem d_Branch_init_18 : decode prog_4_method_1_code 18 = .ok (.istore_n 2, 1) := by decide +kernel
theorem d_Branch_init_19 : decode prog_4_method_1_code 19 = .ok (.iload_n 2, 1) := by decide +kernel
theorem d_Branch_init_20 : decode prog_4_method_1_code 20 = .ok (.iconst 3, 1) := by decide +kernel
theorem d_Branch_init_21 : decode prog_4_method_1_code 21 = .ok (.if_icmp .ge 22, 3) := by decide +kernel
theorem d_Branch_init_43 : decode prog_4_method_1_code 43 = .ok (.return_, 1) := by decide +kernel
theorem d_Branch_init_24 : decode prog_4_method_1_code 24 = .ok (.aload_n 0, 1) := by decide +kernel
theorem d_Branch_init_25 : decode prog_4_method_1_code 25 = .ok (.getfield 11, 3) := by decide +kernel
theorem d_Branch_init_28 : decode prog_4_method_1_code 28 = .ok (.iload_n 2, 1) := by decide +kernel
theorem d_Branch_init_29 : decode prog_4_method_1_code 29 = .ok (.new 9, 3) := by decide +kernel
theorem d_Branch_init_32 : decode prog_4_method_1_code 32 = .ok (.dup, 1) := by decide +kernel
theorem d_Branch_init_33 : decode prog_4_method_1_code 33 = .ok (.invokespecial 21, 3) := by decide +kernel
theorem d_AbstractList_init_4 : decode prog_30_method_1_code 4 = .ok (.aload_n 0, 1) := by decide +kernel
theorem d_AbstractList_init_5 : decode prog_30_method_1_code 5 = .ok (.iconst 0, 1) := by decide +kernel
theorem d_AbstractList_init_6 : decode prog_30_method_1_code 6 = .ok (.putfield 7, 3) := by decide +kernel
theorem d_AbstractList_init_9 : decode prog_30_method_1_code 9 = .ok (.return_, 1) := by decide +kernel
theorem d_Office_init_39 : decode prog_10_method_1_code 39 = .ok (.aastore, 1) := by decide +kernel
theorem d_Office_init_40 : decode prog_10_method_1_code 40 = .ok (.aload_n 0, 1) := by decide +kernel
theorem d_Office_init_41 : decode prog_10_method_1_code 41 = .ok (.getfield 17, 3) := by decide +kernel
theorem d_Office_init_44 : decode prog_10_method_1_code 44 = .ok (.iload_n 2, 1) := by decide +kernel
theorem d_Office_init_45 : decode prog_10_method_1_code 45 = .ok (.new 9, 3) := by decide +kernel
theorem d_Office_init_48 : decode prog_10_method_1_code 48 = .ok (.dup, 1) := by decide +kernel
theorem d_Office_init_49 : decode prog_10_method_1_code 49 = .ok (.invokespecial 20, 3) := by decide +kernel
theorem d_Office_init_52 : decode prog_10_method_1_code 52 = .ok (.aastore, 1) := by decide +kernel
theorem d_Office_init_53 : decode prog_10_method_1_code 53 = .ok (.iinc 2 1, 3) := by decide +kernel
theorem d_Office_init_56 : decode prog_10_method_1_code 56 = .ok (.goto (-34), 3) := by decide +kernel
theorem d_No_again_5 : decode prog_1_method_5_code 5 = .ok (.astore_n 2, 1) := by decide +kernel
theorem d_No_again_6 : decode prog_1_method_5_code 6 = .ok (.aload_n 2, 1) := by decide +kernel
theorem d_No_again_7 : decode prog_1_method_5_code 7 = .ok (.ifnull 10, 3) := by decide +kernel
theorem d_No_again_10 : decode prog_1_method_5_code 10 = .ok (.aload_n 2, 1) := by decide +kernel
theorem d_No_again_11 : decode prog_1_method_5_code 11 = .ok (.getfield 90, 3) := by decide +kernel
theorem d_No_again_14 : decode prog_1_method_5_code 14 = .ok (.ifCond .ne 5, 3) := by decide +kernel
theorem d_No_again_19 : decode prog_1_method_5_code 19 = .ok (.aload_n 2, 1) := by decide +kernel
theorem d_No_again_20 : decode prog_1_method_5_code 20 = .ok (.invokevirtual 94, 3) := by decide +kernel
theorem d_No_again_23 : decode prog_1_method_5_code 23 = .ok (.astore_n 3, 1) := by decide +kernel
theorem d_No_again_24 : decode prog_1_method_5_code 24 = .ok (.aload_n 3, 1) := by decide +kernel
theorem d_No_again_25 : decode prog_1_method_5_code 25 = .ok (.ifnonnull 5, 3) := by decide +kernel
theorem d_No_again_28 : decode prog_1_method_5_code 28 = .ok (.iconst 0, 1) := by decide +kernel
theorem d_No_again_29 : decode prog_1_method_5_code 29 = .ok (.ireturn, 1) := by decide +kernel
theorem d_No_again_30 : decode prog_1_method_5_code 30 = .ok (.aload_n 2, 1) := by decide +kernel
theorem d_No_again_31 : decode prog_1_method_5_code 31 = .ok (.invokevirtual 98, 3) := by decide +kernel
theorem d_BranchSeries_save_8 : decode prog_5_method_2_code 8 = .ok (.putfield 25, 3) := by decide +kernel
theorem d_BranchSeries_save_11 : decode prog_5_method_2_code 11 = .ok (.aload_n 0, 1) := by decide +kernel
theorem d_BranchSeries_save_12 : decode prog_5_method_2_code 12 = .ok (.aload_n 0, 1) := by decide +kernel
theorem d_BranchSeries_save_13 : decode prog_5_method_2_code 13 = .ok (.getfield 18, 3) := by decide +kernel
theorem d_BranchSeries_save_16 : decode prog_5_method_2_code 16 = .ok (.invokevirtual 21, 3) := by decide +kernel
theorem d_BranchSeries_save_19 : decode prog_5_method_2_code 19 = .ok (.putfield 29, 3) := by decide +kernel
theorem d_BranchSeries_save_22 : decode prog_5_method_2_code 22 = .ok (.aload_n 0, 1) := by decide +kernel
theorem d_BranchSeries_save_23 : decode prog_5_method_2_code 23 = .ok (.aload_n 0, 1) := by decide +kernel
theorem d_BranchSeries_save_24 : decode prog_5_method_2_code 24 = .ok (.getfield 32, 3) := by decide +kernel
theorem d_BranchSeries_save_27 : decode prog_5_method_2_code 27 = .ok (.putfield 35, 3) := by decide +kernel
theorem d_BranchSeries_save_30 : decode prog_5_method_2_code 30 = .ok (.aload_n 0, 1) := by decide +kernel
theorem d_BranchSeries_save_31 : decode prog_5_method_2_code 31 = .ok (.aload_n 0, 1) := by decide +kernel
theorem d_BranchSeries_save_32 : decode prog_5_method_2_code 32 = .ok (.getfield 38, 3) := by decide +kernel
theorem d_BranchSeries_save_35 : decode prog_5_method_2_code 35 = .ok (.putfield 41, 3) := by decide +kernel
theorem d_BranchSeries_save_38 : decode prog_5_method_2_code 38 = .ok (.aload_n 0, 1) := by decide +kernel
theorem d_BranchSeries_save_39 : decode prog_5_method_2_code 39 = .ok (.aload_n 0, 1) := by decide +kernel
theorem d_BranchSeries_save_40 : decode prog_5_method_2_code 40 = .ok (.getfield 44, 3) := by decide +kernel
theorem d_BranchSeries_save_43 : decode prog_5_method_2_code 43 = .ok (.putfield 47, 3) := by decide +kernel
theorem d_BranchSeries_save_46 : decode prog_5_method_2_code 46 = .ok (.return_, 1) := by decide +kernel
theorem d_ArraysSupport_newLength_26 : decode prog_38_method_27_code 26 = .ok (.ireturn, 1) := by decide +kernel
theorem d_Arrays_copyOf_9 : decode prog_32_method_119_code 9 = .ok (.areturn, 1) := by decide +kernel
theorem d_No_crash_5 : decode prog_1_method_11_code 5 = .ok (.astore_n 2, 1) := by decide +kernel
theorem d_No_crash_6 : decode prog_1_method_11_code 6 = .ok (.aload_n 2, 1) := by decide +kernel
theorem d_No_crash_7 : decode prog_1_method_11_code 7 = .ok (.ifnull 10, 3) := by decide +kernel
theorem d_No_crash_10 : decode prog_1_method_11_code 10 = .ok (.aload_n 2, 1) := by decide +kernel
theorem d_No_crash_11 : decode prog_1_method_11_code 11 = .ok (.getfield 142, 3) := by decide +kernel
theorem d_No_crash_14 : decode prog_1_method_11_code 14 = .ok (.ifCond .ne 5, 3) := by decide +kernel
theorem d_No_crash_19 : decode prog_1_method_11_code 19 = .ok (.aload_n 2, 1) := by decide +kernel
theorem d_No_crash_20 : decode prog_1_method_11_code 20 = .ok (.iconst 0, 1) := by decide +kernel
theorem d_No_crash_21 : decode prog_1_method_11_code 21 = .ok (.putfield 142, 3) := by decide +kernel
theorem d_No_crash_24 : decode prog_1_method_11_code 24 = .ok (.aload_n 2, 1) := by decide +kernel
theorem d_No_crash_25 : decode prog_1_method_11_code 25 = .ok (.invokevirtual 145, 3) := by decide +kernel
theorem d_Objects_checkIndex_6 : decode prog_35_method_17_code 6 = .ok (.ireturn, 1) := by decide +kernel
theorem d_Office_forget_22 : decode prog_10_method_3_code 22 = .ok (.iinc 1 1, 3) := by decide +kernel
theorem d_Office_forget_25 : decode prog_10_method_3_code 25 = .ok (.goto (-23), 3) := by decide +kernel
theorem d_Office_forget_30 : decode prog_10_method_3_code 30 = .ok (.iload_n 1, 1) := by decide +kernel
theorem d_Office_forget_31 : decode prog_10_method_3_code 31 = .ok (.aload_n 0, 1) := by decide +kernel
theorem d_Office_forget_32 : decode prog_10_method_3_code 32 = .ok (.getfield 21, 3) := by decide +kernel
theorem d_Office_forget_35 : decode prog_10_method_3_code 35 = .ok (.arraylength, 1) := by decide +kernel
theorem d_Office_forget_36 : decode prog_10_method_3_code 36 = .ok (.if_icmp .ge 33, 3) := by decide +kernel
theorem d_Office_forget_69 : decode prog_10_method_3_code 69 = .ok (.return_, 1) := by decide +kernel
theorem d_Office_forget_39 : decode prog_10_method_3_code 39 = .ok (.aload_n 0, 1) := by decide +kernel
theorem d_Office_forget_40 : decode prog_10_method_3_code 40 = .ok (.getfield 21, 3) := by decide +kernel
theorem d_Office_forget_43 : decode prog_10_method_3_code 43 = .ok (.iload_n 1, 1) := by decide +kernel
theorem d_Office_forget_44 : decode prog_10_method_3_code 44 = .ok (.aload_n 0, 1) := by decide +kernel
theorem d_Office_forget_45 : decode prog_10_method_3_code 45 = .ok (.getfield 25, 3) := by decide +kernel
theorem d_Office_forget_48 : decode prog_10_method_3_code 48 = .ok (.iload_n 1, 1) := by decide +kernel
theorem d_Office_forget_49 : decode prog_10_method_3_code 49 = .ok (.baload, 1) := by decide +kernel
theorem d_Office_forget_50 : decode prog_10_method_3_code 50 = .ok (.bastore, 1) := by decide +kernel
theorem d_Office_forget_51 : decode prog_10_method_3_code 51 = .ok (.aload_n 0, 1) := by decide +kernel
theorem d_Office_forget_52 : decode prog_10_method_3_code 52 = .ok (.getfield 30, 3) := by decide +kernel
theorem d_Office_forget_55 : decode prog_10_method_3_code 55 = .ok (.iload_n 1, 1) := by decide +kernel
theorem d_Office_forget_56 : decode prog_10_method_3_code 56 = .ok (.aload_n 0, 1) := by decide +kernel
theorem d_Office_forget_57 : decode prog_10_method_3_code 57 = .ok (.getfield 34, 3) := by decide +kernel
theorem d_Office_forget_60 : decode prog_10_method_3_code 60 = .ok (.iload_n 1, 1) := by decide +kernel
theorem d_Office_forget_61 : decode prog_10_method_3_code 61 = .ok (.aaload, 1) := by decide +kernel
theorem d_Office_forget_62 : decode prog_10_method_3_code 62 = .ok (.aastore, 1) := by decide +kernel
theorem d_Office_forget_63 : decode prog_10_method_3_code 63 = .ok (.iinc 1 1, 3) := by decide +kernel
theorem d_Office_forget_66 : decode prog_10_method_3_code 66 = .ok (.goto (-36), 3) := by decide +kernel
theorem d_ArrayList_get_8 : decode prog_31_method_20_code 8 = .ok (.pop, 1) := by decide +kernel
theorem d_ArrayList_get_9 : decode prog_31_method_20_code 9 = .ok (.aload_n 0, 1) := by decide +kernel
theorem d_ArrayList_get_10 : decode prog_31_method_20_code 10 = .ok (.iload_n 1, 1) := by decide +kernel
theorem d_ArrayList_get_11 : decode prog_31_method_20_code 11 = .ok (.invokevirtual 123, 3) := by decide +kernel
theorem d_ArrayList_get_14 : decode prog_31_method_20_code 14 = .ok (.areturn, 1) := by decide +kernel
theorem d_Office_answerTo_8 : decode prog_10_method_7_code 8 = .ok (.ifCond .ne 5, 3) := by decide +kernel
theorem d_Office_answerTo_13 : decode prog_10_method_7_code 13 = .ok (.aload_n 0, 1) := by decide +kernel
theorem d_Office_answerTo_14 : decode prog_10_method_7_code 14 = .ok (.getfield 30, 3) := by decide +kernel
theorem d_Office_answerTo_17 : decode prog_10_method_7_code 17 = .ok (.aload_n 1, 1) := by decide +kernel
theorem d_Office_answerTo_18 : decode prog_10_method_7_code 18 = .ok (.getfield 49, 3) := by decide +kernel
theorem d_Office_answerTo_21 : decode prog_10_method_7_code 21 = .ok (.aaload, 1) := by decide +kernel
theorem d_Office_answerTo_22 : decode prog_10_method_7_code 22 = .ok (.astore_n 2, 1) := by decide +kernel
theorem d_Office_answerTo_23 : decode prog_10_method_7_code 23 = .ok (.aload_n 2, 1) := by decide +kernel
theorem d_Office_answerTo_24 : decode prog_10_method_7_code 24 = .ok (.ifnonnull 7, 3) := by decide +kernel
theorem d_Office_answerTo_27 : decode prog_10_method_7_code 27 = .ok (.iconst 0, 1) := by decide +kernel
theorem d_Office_answerTo_28 : decode prog_10_method_7_code 28 = .ok (.goto 7, 3) := by decide +kernel
theorem d_Office_answerTo_31 : decode prog_10_method_7_code 31 = .ok (.aload_n 2, 1) := by decide +kernel
theorem d_Office_answerTo_32 : decode prog_10_method_7_code 32 = .ok (.getfield 55, 3) := by decide +kernel
theorem d_Office_answerTo_11 : decode prog_10_method_7_code 11 = .ok (.aconst_null, 1) := by decide +kernel
theorem d_Office_answerTo_12 : decode prog_10_method_7_code 12 = .ok (.areturn, 1) := by decide +kernel
theorem d_Office_answerTo_35 : decode prog_10_method_7_code 35 = .ok (.istore_n 3, 1) := by decide +kernel
theorem d_Office_answerTo_36 : decode prog_10_method_7_code 36 = .ok (.aload_n 1, 1) := by decide +kernel
theorem d_Office_answerTo_37 : decode prog_10_method_7_code 37 = .ok (.getfield 58, 3) := by decide +kernel
theorem d_Office_answerTo_40 : decode prog_10_method_7_code 40 = .ok (.iload_n 3, 1) := by decide +kernel
theorem d_Office_answerTo_41 : decode prog_10_method_7_code 41 = .ok (.if_icmp .ne 5, 3) := by decide +kernel
theorem d_Office_answerTo_46 : decode prog_10_method_7_code 46 = .ok (.aload_n 1, 1) := by decide +kernel
theorem d_Office_answerTo_47 : decode prog_10_method_7_code 47 = .ok (.getfield 58, 3) := by decide +kernel
theorem d_Office_answerTo_50 : decode prog_10_method_7_code 50 = .ok (.iload_n 3, 1) := by decide +kernel
theorem d_Office_answerTo_51 : decode prog_10_method_7_code 51 = .ok (.iconst 1, 1) := by decide +kernel
theorem d_Office_answerTo_52 : decode prog_10_method_7_code 52 = .ok (.iadd, 1) := by decide +kernel
theorem d_Office_answerTo_53 : decode prog_10_method_7_code 53 = .ok (.if_icmp .eq 5, 3) := by decide +kernel
theorem d_Office_answerTo_58 : decode prog_10_method_7_code 58 = .ok (.aload_n 0, 1) := by decide +kernel
theorem d_Office_answerTo_59 : decode prog_10_method_7_code 59 = .ok (.aload_n 1, 1) := by decide +kernel
theorem d_Office_answerTo_60 : decode prog_10_method_7_code 60 = .ok (.invokevirtual 59, 3) := by decide +kernel
theorem d_Office_take_8 : decode prog_10_method_8_code 8 = .ok (.astore_n 2, 1) := by decide +kernel
theorem d_Office_take_9 : decode prog_10_method_8_code 9 = .ok (.aload_n 0, 1) := by decide +kernel
theorem d_Office_take_10 : decode prog_10_method_8_code 10 = .ok (.aload_n 1, 1) := by decide +kernel
theorem d_Office_take_11 : decode prog_10_method_8_code 11 = .ok (.getfield 49, 3) := by decide +kernel
theorem d_Office_take_14 : decode prog_10_method_8_code 14 = .ok (.invokevirtual 41, 3) := by decide +kernel
theorem d_Office_take_17 : decode prog_10_method_8_code 17 = .ok (.ifCond .eq 19, 3) := by decide +kernel
theorem d_Office_take_20 : decode prog_10_method_8_code 20 = .ok (.aload_n 0, 1) := by decide +kernel
theorem d_Office_take_21 : decode prog_10_method_8_code 21 = .ok (.getfield 21, 3) := by decide +kernel
theorem d_Office_take_24 : decode prog_10_method_8_code 24 = .ok (.aload_n 1, 1) := by decide +kernel
theorem d_Office_take_25 : decode prog_10_method_8_code 25 = .ok (.getfield 49, 3) := by decide +kernel
theorem d_Office_take_28 : decode prog_10_method_8_code 28 = .ok (.baload, 1) := by decide +kernel
theorem d_Office_take_29 : decode prog_10_method_8_code 29 = .ok (.ifCond .eq 7, 3) := by decide +kernel
theorem d_Office_take_32 : decode prog_10_method_8_code 32 = .ok (.iconst 1, 1) := by decide +kernel
theorem d_Office_take_33 : decode prog_10_method_8_code 33 = .ok (.goto 4, 3) := by decide +kernel
theorem d_Office_take_36 : decode prog_10_method_8_code 36 = .ok (.iconst 0, 1) := by decide +kernel
theorem d_Office_take_37 : decode prog_10_method_8_code 37 = .ok (.istore_n 3, 1) := by decide +kernel
theorem d_Office_take_38 : decode prog_10_method_8_code 38 = .ok (.iload_n 3, 1) := by decide +kernel
theorem d_Office_take_39 : decode prog_10_method_8_code 39 = .ok (.ifCond .ne 7, 3) := by decide +kernel
theorem d_Office_take_42 : decode prog_10_method_8_code 42 = .ok (.aload_n 2, 1) := by decide +kernel
theorem d_Office_take_43 : decode prog_10_method_8_code 43 = .ok (.ifnonnull 14, 3) := by decide +kernel
theorem d_Office_take_57 : decode prog_10_method_8_code 57 = .ok (.aload_n 1, 1) := by decide +kernel
theorem d_Office_take_58 : decode prog_10_method_8_code 58 = .ok (.getfield 76, 3) := by decide +kernel
theorem d_Office_take_61 : decode prog_10_method_8_code 61 = .ok (.iconst 1, 1) := by decide +kernel
theorem d_Office_take_62 : decode prog_10_method_8_code 62 = .ok (.if_icmp .ne 25, 3) := by decide +kernel
theorem d_Office_take_87 : decode prog_10_method_8_code 87 = .ok (.iconst 0, 1) := by decide +kernel
theorem d_Office_take_88 : decode prog_10_method_8_code 88 = .ok (.istore 4, 2) := by decide +kernel
theorem d_Office_take_65 : decode prog_10_method_8_code 65 = .ok (.new 28, 3) := by decide +kernel
theorem d_Office_take_68 : decode prog_10_method_8_code 68 = .ok (.dup, 1) := by decide +kernel
theorem d_Office_take_69 : decode prog_10_method_8_code 69 = .ok (.aload_n 1, 1) := by decide +kernel
theorem d_Office_take_70 : decode prog_10_method_8_code 70 = .ok (.iconst 0, 1) := by decide +kernel
theorem d_Office_take_71 : decode prog_10_method_8_code 71 = .ok (.aload_n 2, 1) := by decide +kernel
theorem d_Office_take_72 : decode prog_10_method_8_code 72 = .ok (.aload_n 1, 1) := by decide +kernel
theorem d_Office_take_73 : decode prog_10_method_8_code 73 = .ok (.getfield 49, 3) := by decide +kernel
theorem d_Office_take_76 : decode prog_10_method_8_code 76 = .ok (.aload_n 1, 1) := by decide +kernel
theorem d_Office_take_77 : decode prog_10_method_8_code 77 = .ok (.getfield 79, 3) := by decide +kernel
theorem d_Office_take_80 : decode prog_10_method_8_code 80 = .ok (.invokevirtual 82, 3) := by decide +kernel
theorem d_Answer_init_13 : decode prog_2_method_1_code 13 = .ok (.aload_n 0, 1) := by decide +kernel
theorem d_Answer_init_14 : decode prog_2_method_1_code 14 = .ok (.iload_n 2, 1) := by decide +kernel
theorem d_Answer_init_15 : decode prog_2_method_1_code 15 = .ok (.putfield 18, 3) := by decide +kernel
theorem d_Answer_init_18 : decode prog_2_method_1_code 18 = .ok (.aload_n 0, 1) := by decide +kernel
theorem d_Answer_init_19 : decode prog_2_method_1_code 19 = .ok (.aload_n 3, 1) := by decide +kernel
theorem d_Answer_init_20 : decode prog_2_method_1_code 20 = .ok (.putfield 24, 3) := by decide +kernel
theorem d_Answer_init_23 : decode prog_2_method_1_code 23 = .ok (.return_, 1) := by decide +kernel
theorem d_SeriesBook_give_46 : decode prog_11_method_8_code 46 = .ok (.astore 4, 2) := by decide +kernel
theorem d_SeriesBook_give_48 : decode prog_11_method_8_code 48 = .ok (.aload_n 0, 1) := by decide +kernel
theorem d_SeriesBook_give_49 : decode prog_11_method_8_code 49 = .ok (.getfield 38, 3) := by decide +kernel
theorem d_SeriesBook_give_52 : decode prog_11_method_8_code 52 = .ok (.istore 5, 2) := by decide +kernel
theorem d_SeriesBook_give_30 : decode prog_11_method_8_code 30 = .ok (.aconst_null, 1) := by decide +kernel
theorem d_SeriesBook_give_31 : decode prog_11_method_8_code 31 = .ok (.areturn, 1) := by decide +kernel
theorem d_SeriesBook_give_54 : decode prog_11_method_8_code 54 = .ok (.iload 5, 2) := by decide +kernel
theorem d_SeriesBook_give_56 : decode prog_11_method_8_code 56 = .ok (.aload_n 0, 1) := by decide +kernel
theorem d_SeriesBook_give_57 : decode prog_11_method_8_code 57 = .ok (.getfield 38, 3) := by decide +kernel
theorem d_SeriesBook_give_60 : decode prog_11_method_8_code 60 = .ok (.iload_n 3, 1) := by decide +kernel
theorem d_SeriesBook_give_61 : decode prog_11_method_8_code 61 = .ok (.iadd, 1) := by decide +kernel
theorem d_SeriesBook_give_62 : decode prog_11_method_8_code 62 = .ok (.if_icmp .ge 25, 3) := by decide +kernel
theorem d_SeriesBook_give_87 : decode prog_11_method_8_code 87 = .ok (.aload_n 0, 1) := by decide +kernel
theorem d_SeriesBook_give_88 : decode prog_11_method_8_code 88 = .ok (.dup, 1) := by decide +kernel
theorem d_SeriesBook_give_89 : decode prog_11_method_8_code 89 = .ok (.getfield 38, 3) := by decide +kernel
theorem d_SeriesBook_give_92 : decode prog_11_method_8_code 92 = .ok (.iload_n 3, 1) := by decide +kernel
theorem d_SeriesBook_give_93 : decode prog_11_method_8_code 93 = .ok (.iadd, 1) := by decide +kernel
theorem d_SeriesBook_give_94 : decode prog_11_method_8_code 94 = .ok (.putfield 38, 3) := by decide +kernel
theorem d_SeriesBook_give_97 : decode prog_11_method_8_code 97 = .ok (.aload 4, 2) := by decide +kernel
theorem d_SeriesBook_give_99 : decode prog_11_method_8_code 99 = .ok (.areturn, 1) := by decide +kernel
theorem d_SeriesBook_give_65 : decode prog_11_method_8_code 65 = .ok (.aload_n 0, 1) := by decide +kernel
theorem d_SeriesBook_give_66 : decode prog_11_method_8_code 66 = .ok (.getfield 15, 3) := by decide +kernel
theorem d_SeriesBook_give_69 : decode prog_11_method_8_code 69 = .ok (.iload 5, 2) := by decide +kernel
theorem d_SeriesBook_give_71 : decode prog_11_method_8_code 71 = .ok (.iload_n 1, 1) := by decide +kernel
theorem d_SeriesBook_give_72 : decode prog_11_method_8_code 72 = .ok (.iastore, 1) := by decide +kernel
theorem d_SeriesBook_give_73 : decode prog_11_method_8_code 73 = .ok (.aload_n 0, 1) := by decide +kernel
theorem d_SeriesBook_give_74 : decode prog_11_method_8_code 74 = .ok (.getfield 19, 3) := by decide +kernel
theorem d_SeriesBook_give_77 : decode prog_11_method_8_code 77 = .ok (.iload 5, 2) := by decide +kernel
theorem d_SeriesBook_give_79 : decode prog_11_method_8_code 79 = .ok (.iconst 1, 1) := by decide +kernel
theorem d_SeriesBook_give_80 : decode prog_11_method_8_code 80 = .ok (.iastore, 1) := by decide +kernel
theorem d_SeriesBook_give_81 : decode prog_11_method_8_code 81 = .ok (.iinc 5 1, 3) := by decide +kernel
theorem d_SeriesBook_give_84 : decode prog_11_method_8_code 84 = .ok (.goto (-30), 3) := by decide +kernel
theorem d_SeriesBook_fateOf_5 : decode prog_11_method_7_code 5 = .ok (.ifCond .eq 14, 3) := by decide +kernel
theorem d_SeriesBook_fateOf_19 : decode prog_11_method_7_code 19 = .ok (.iconst 0, 1) := by decide +kernel
theorem d_SeriesBook_fateOf_8 : decode prog_11_method_7_code 8 = .ok (.aload_n 0, 1) := by decide +kernel
theorem d_SeriesBook_fateOf_9 : decode prog_11_method_7_code 9 = .ok (.getfield 19, 3) := by decide +kernel
theorem d_SeriesBook_fateOf_12 : decode prog_11_method_7_code 12 = .ok (.iload_n 1, 1) := by decide +kernel
theorem d_SeriesBook_fateOf_13 : decode prog_11_method_7_code 13 = .ok (.iconst 1, 1) := by decide +kernel
theorem d_SeriesBook_fateOf_14 : decode prog_11_method_7_code 14 = .ok (.isub, 1) := by decide +kernel
theorem d_SeriesBook_fateOf_15 : decode prog_11_method_7_code 15 = .ok (.iaload, 1) := by decide +kernel
theorem d_SeriesBook_fateOf_16 : decode prog_11_method_7_code 16 = .ok (.goto 4, 3) := by decide +kernel
theorem d_SeriesBook_fateOf_20 : decode prog_11_method_7_code 20 = .ok (.ireturn, 1) := by decide +kernel
theorem d_Branch_read_34 : decode prog_4_method_8_code 34 = .ok (.astore_n 3, 1) := by decide +kernel
theorem d_Branch_read_35 : decode prog_4_method_8_code 35 = .ok (.aload_n 1, 1) := by decide +kernel
theorem d_Branch_read_36 : decode prog_4_method_8_code 36 = .ok (.getfield 65, 3) := by decide +kernel
theorem d_Branch_read_39 : decode prog_4_method_8_code 39 = .ok (.ifCond .eq 11, 3) := by decide +kernel
theorem d_Branch_read_50 : decode prog_4_method_8_code 50 = .ok (.aload_n 3, 1) := by decide +kernel
theorem d_Branch_read_51 : decode prog_4_method_8_code 51 = .ok (.ifnull 28, 3) := by decide +kernel
theorem d_Branch_read_54 : decode prog_4_method_8_code 54 = .ok (.aload_n 2, 1) := by decide +kernel
theorem d_Branch_read_55 : decode prog_4_method_8_code 55 = .ok (.getfield 68, 3) := by decide +kernel
theorem d_Branch_read_58 : decode prog_4_method_8_code 58 = .ok (.iconst 2, 1) := by decide +kernel
theorem d_Branch_read_59 : decode prog_4_method_8_code 59 = .ok (.if_icmp .ne 20, 3) := by decide +kernel
theorem d_Branch_read_62 : decode prog_4_method_8_code 62 = .ok (.aload_n 3, 1) := by decide +kernel
theorem d_Branch_read_63 : decode prog_4_method_8_code 63 = .ok (.dup, 1) := by decide +kernel
theorem d_Branch_read_64 : decode prog_4_method_8_code 64 = .ok (.getfield 71, 3) := by decide +kernel
theorem d_Branch_read_67 : decode prog_4_method_8_code 67 = .ok (.aload_n 2, 1) := by decide +kernel
theorem d_Branch_read_68 : decode prog_4_method_8_code 68 = .ok (.getfield 74, 3) := by decide +kernel
theorem d_Branch_read_71 : decode prog_4_method_8_code 71 = .ok (.arraylength, 1) := by decide +kernel
theorem d_Branch_read_72 : decode prog_4_method_8_code 72 = .ok (.iadd, 1) := by decide +kernel
theorem d_Branch_read_73 : decode prog_4_method_8_code 73 = .ok (.putfield 71, 3) := by decide +kernel
theorem d_Branch_read_76 : decode prog_4_method_8_code 76 = .ok (.goto 26, 3) := by decide +kernel
theorem d_Branch_read_42 : decode prog_4_method_8_code 42 = .ok (.aload_n 0, 1) := by decide +kernel
theorem d_Branch_read_43 : decode prog_4_method_8_code 43 = .ok (.iconst 1, 1) := by decide +kernel
theorem d_Branch_read_44 : decode prog_4_method_8_code 44 = .ok (.putfield 39, 3) := by decide +kernel
theorem d_Branch_read_47 : decode prog_4_method_8_code 47 = .ok (.goto 55, 3) := by decide +kernel
theorem d_Branch_read_20 : decode prog_4_method_8_code 20 = .ok (.return_, 1) := by decide +kernel
theorem d_Branch_read_79 : decode prog_4_method_8_code 79 = .ok (.aload_n 3, 1) := by decide +kernel
theorem d_Branch_read_80 : decode prog_4_method_8_code 80 = .ok (.ifnull 22, 3) := by decide +kernel
theorem d_Branch_read_83 : decode prog_4_method_8_code 83 = .ok (.aload_n 1, 1) := by decide +kernel
theorem d_Branch_read_84 : decode prog_4_method_8_code 84 = .ok (.getfield 78, 3) := by decide +kernel
theorem d_Branch_read_87 : decode prog_4_method_8_code 87 = .ok (.ifnull 15, 3) := by decide +kernel
theorem d_Branch_read_90 : decode prog_4_method_8_code 90 = .ok (.aload_n 3, 1) := by decide +kernel
theorem d_Branch_read_91 : decode prog_4_method_8_code 91 = .ok (.getfield 82, 3) := by decide +kernel
theorem d_Branch_read_94 : decode prog_4_method_8_code 94 = .ok (.aload_n 1, 1) := by decide +kernel
theorem d_Branch_read_95 : decode prog_4_method_8_code 95 = .ok (.getfield 78, 3) := by decide +kernel
theorem d_Branch_read_98 : decode prog_4_method_8_code 98 = .ok (.invokevirtual 86, 3) := by decide +kernel
theorem d_BranchSeries_fateOf_22 : decode prog_5_method_11_code 22 = .ok (.checkcast 54, 3) := by decide +kernel
theorem d_BranchSeries_fateOf_25 : decode prog_5_method_11_code 25 = .ok (.astore_n 3, 1) := by decide +kernel
theorem d_BranchSeries_fateOf_26 : decode prog_5_method_11_code 26 = .ok (.aload_n 3, 1) := by decide +kernel
theorem d_BranchSeries_fateOf_27 : decode prog_5_method_11_code 27 = .ok (.getfield 85, 3) := by decide +kernel
theorem d_BranchSeries_fateOf_30 : decode prog_5_method_11_code 30 = .ok (.iload_n 1, 1) := by decide +kernel
theorem d_BranchSeries_fateOf_31 : decode prog_5_method_11_code 31 = .ok (.if_icmp .ne 16, 3) := by decide +kernel
theorem d_BranchSeries_fateOf_47 : decode prog_5_method_11_code 47 = .ok (.iinc 2 (-1), 3) := by decide +kernel
theorem d_BranchSeries_fateOf_50 : decode prog_5_method_11_code 50 = .ok (.goto (-40), 3) := by decide +kernel
theorem d_BranchSeries_fateOf_34 : decode prog_5_method_11_code 34 = .ok (.aload_n 3, 1) := by decide +kernel
theorem d_BranchSeries_fateOf_35 : decode prog_5_method_11_code 35 = .ok (.getfield 81, 3) := by decide +kernel
theorem d_BranchSeries_fateOf_38 : decode prog_5_method_11_code 38 = .ok (.ifCond .eq 7, 3) := by decide +kernel
theorem d_BranchSeries_fateOf_45 : decode prog_5_method_11_code 45 = .ok (.iconst 3, 1) := by decide +kernel
theorem d_BranchSeries_fateOf_41 : decode prog_5_method_11_code 41 = .ok (.iconst 2, 1) := by decide +kernel
theorem d_BranchSeries_fateOf_42 : decode prog_5_method_11_code 42 = .ok (.goto 4, 3) := by decide +kernel
theorem d_BranchSeries_fateOf_55 : decode prog_5_method_11_code 55 = .ok (.iload_n 2, 1) := by decide +kernel
theorem d_BranchSeries_fateOf_56 : decode prog_5_method_11_code 56 = .ok (.aload_n 0, 1) := by decide +kernel
theorem d_BranchSeries_fateOf_57 : decode prog_5_method_11_code 57 = .ok (.getfield 12, 3) := by decide +kernel
theorem d_BranchSeries_fateOf_60 : decode prog_5_method_11_code 60 = .ok (.invokevirtual 21, 3) := by decide +kernel
theorem d_BranchSeries_fateOf_63 : decode prog_5_method_11_code 63 = .ok (.if_icmp .ge 29, 3) := by decide +kernel
theorem d_BranchSeries_fateOf_92 : decode prog_5_method_11_code 92 = .ok (.iconst 0, 1) := by decide +kernel
theorem d_BranchSeries_fateOf_93 : decode prog_5_method_11_code 93 = .ok (.ireturn, 1) := by decide +kernel
theorem d_BranchSeries_fateOf_66 : decode prog_5_method_11_code 66 = .ok (.aload_n 0, 1) := by decide +kernel
theorem d_BranchSeries_fateOf_67 : decode prog_5_method_11_code 67 = .ok (.getfield 12, 3) := by decide +kernel
theorem d_BranchSeries_fateOf_70 : decode prog_5_method_11_code 70 = .ok (.iload_n 2, 1) := by decide +kernel
theorem d_BranchSeries_fateOf_71 : decode prog_5_method_11_code 71 = .ok (.invokevirtual 63, 3) := by decide +kernel
theorem d_BranchSeries_fateOf_74 : decode prog_5_method_11_code 74 = .ok (.checkcast 66, 3) := by decide +kernel
theorem d_BranchSeries_fateOf_77 : decode prog_5_method_11_code 77 = .ok (.iload_n 1, 1) := by decide +kernel
theorem d_BranchSeries_fateOf_78 : decode prog_5_method_11_code 78 = .ok (.invokevirtual 88, 3) := by decide +kernel
theorem d_BranchSeries_fateOf_81 : decode prog_5_method_11_code 81 = .ok (.ifCond .eq 5, 3) := by decide +kernel
theorem d_BranchSeries_fateOf_86 : decode prog_5_method_11_code 86 = .ok (.iinc 2 1, 3) := by decide +kernel
theorem d_BranchSeries_fateOf_89 : decode prog_5_method_11_code 89 = .ok (.goto (-34), 3) := by decide +kernel
theorem d_BranchSeries_fateOf_84 : decode prog_5_method_11_code 84 = .ok (.iconst 1, 1) := by decide +kernel
theorem d_BranchSeries_fateOf_85 : decode prog_5_method_11_code 85 = .ok (.ireturn, 1) := by decide +kernel
theorem d_BranchSeries_fateOf_46 : decode prog_5_method_11_code 46 = .ok (.ireturn, 1) := by decide +kernel
theorem d_No_branch_77 : decode prog_1_method_23_code 77 = .ok (.ireturn, 1) := by decide +kernel
theorem d_No_branch_60 : decode prog_1_method_23_code 60 = .ok (.aload_n 3, 1) := by decide +kernel
theorem d_No_branch_61 : decode prog_1_method_23_code 61 = .ok (.getfield 193, 3) := by decide +kernel
theorem d_No_branch_64 : decode prog_1_method_23_code 64 = .ok (.ifCond .eq 7, 3) := by decide +kernel
theorem d_No_branch_71 : decode prog_1_method_23_code 71 = .ok (.iconst 0, 1) := by decide +kernel
theorem d_No_branch_67 : decode prog_1_method_23_code 67 = .ok (.iconst 1, 1) := by decide +kernel
theorem d_No_branch_68 : decode prog_1_method_23_code 68 = .ok (.goto 4, 3) := by decide +kernel
theorem d_No_branch_17 : decode prog_1_method_23_code 17 = .ok (.iconst (-1), 1) := by decide +kernel
theorem d_No_branch_18 : decode prog_1_method_23_code 18 = .ok (.ireturn, 1) := by decide +kernel
theorem d_No_branch_91 : decode prog_1_method_23_code 91 = .ok (.aload_n 3, 1) := by decide +kernel
theorem d_No_branch_92 : decode prog_1_method_23_code 92 = .ok (.iload_n 2, 1) := by decide +kernel
theorem d_No_branch_93 : decode prog_1_method_23_code 93 = .ok (.iconst 3, 1) := by decide +kernel
theorem d_No_branch_94 : decode prog_1_method_23_code 94 = .ok (.isub, 1) := by decide +kernel
theorem d_No_branch_95 : decode prog_1_method_23_code 95 = .ok (.invokevirtual 59, 3) := by decide +kernel
theorem d_No_branch_98 : decode prog_1_method_23_code 98 = .ok (.astore 4, 2) := by decide +kernel
theorem d_No_branch_100 : decode prog_1_method_23_code 100 = .ok (.aload 4, 2) := by decide +kernel
theorem d_No_branch_102 : decode prog_1_method_23_code 102 = .ok (.ifnonnull 7, 3) := by decide +kernel
theorem d_No_branch_105 : decode prog_1_method_23_code 105 = .ok (.iconst (-1), 1) := by decide +kernel
theorem d_No_branch_106 : decode prog_1_method_23_code 106 = .ok (.goto 8, 3) := by decide +kernel
theorem d_No_branch_109 : decode prog_1_method_23_code 109 = .ok (.aload 4, 2) := by decide +kernel
theorem d_No_branch_111 : decode prog_1_method_23_code 111 = .ok (.invokevirtual 83, 3) := by decide +kernel
theorem d_No_branch_90 : decode prog_1_method_23_code 90 = .ok (.ireturn, 1) := by decide +kernel
theorem d_No_branch_72 : decode prog_1_method_23_code 72 = .ok (.ireturn, 1) := by decide +kernel
theorem d_No_branch_114 : decode prog_1_method_23_code 114 = .ok (.ireturn, 1) := by decide +kernel
theorem d_No_series_39 : decode prog_1_method_2_code 39 = .ok (.ireturn, 1) := by decide +kernel
theorem d_No_series_32 : decode prog_1_method_2_code 32 = .ok (.iconst 0, 1) := by decide +kernel
theorem d_No_series_33 : decode prog_1_method_2_code 33 = .ok (.ireturn, 1) := by decide +kernel
theorem d_No_request_48 : decode prog_1_method_3_code 48 = .ok (.ifCond .eq 12, 3) := by decide +kernel
theorem d_No_request_51 : decode prog_1_method_3_code 51 = .ok (.aload 5, 2) := by decide +kernel
theorem d_No_request_53 : decode prog_1_method_3_code 53 = .ok (.invokevirtual 66, 3) := by decide +kernel
theorem d_No_request_56 : decode prog_1_method_3_code 56 = .ok (.iconst 2, 1) := by decide +kernel
theorem d_No_request_57 : decode prog_1_method_3_code 57 = .ok (.if_icmp .lt 5, 3) := by decide +kernel
theorem d_No_request_62 : decode prog_1_method_3_code 62 = .ok (.aload_n 0, 1) := by decide +kernel
theorem d_No_request_63 : decode prog_1_method_3_code 63 = .ok (.aload 4, 2) := by decide +kernel
theorem d_No_request_65 : decode prog_1_method_3_code 65 = .ok (.new 72, 3) := by decide +kernel
theorem d_No_request_68 : decode prog_1_method_3_code 68 = .ok (.dup, 1) := by decide +kernel
theorem d_No_request_69 : decode prog_1_method_3_code 69 = .ok (.aload 4, 2) := by decide +kernel
theorem d_No_request_71 : decode prog_1_method_3_code 71 = .ok (.iconst 1, 1) := by decide +kernel
theorem d_No_request_72 : decode prog_1_method_3_code 72 = .ok (.iload_n 2, 1) := by decide +kernel
theorem d_No_request_73 : decode prog_1_method_3_code 73 = .ok (.iload_n 3, 1) := by decide +kernel
theorem d_No_request_74 : decode prog_1_method_3_code 74 = .ok (.iconst 0, 1) := by decide +kernel
theorem d_No_request_75 : decode prog_1_method_3_code 75 = .ok (.anewarray 74, 3) := by decide +kernel
theorem d_No_request_78 : decode prog_1_method_3_code 78 = .ok (.invokespecial 76, 3) := by decide +kernel
theorem d_No_request_81 : decode prog_1_method_3_code 81 = .ok (.invokevirtual 79, 3) := by decide +kernel
theorem d_BranchSeries_eventsForLetter_41 : decode prog_5_method_10_code 41 = .ok (.checkcast 54, 3) := by decide +kernel
theorem d_BranchSeries_eventsForLetter_44 : decode prog_5_method_10_code 44 = .ok (.aastore, 1) := by decide +kernel
theorem d_BranchSeries_eventsForLetter_45 : decode prog_5_method_10_code 45 = .ok (.iinc 3 1, 3) := by decide +kernel
theorem d_BranchSeries_eventsForLetter_48 : decode prog_5_method_10_code 48 = .ok (.goto (-27), 3) := by decide +kernel
theorem d_BranchSeries_nextBlock_25 : decode prog_5_method_7_code 25 = .ok (.checkcast 66, 3) := by decide +kernel
theorem d_BranchSeries_nextBlock_28 : decode prog_5_method_7_code 28 = .ok (.goto 4, 3) := by decide +kernel
theorem d_BranchSeries_nextBlock_32 : decode prog_5_method_7_code 32 = .ok (.areturn, 1) := by decide +kernel
theorem d_BranchSeries_useUpNext_4 : decode prog_5_method_8_code 4 = .ok (.astore 5, 2) := by decide +kernel
theorem d_BranchSeries_useUpNext_6 : decode prog_5_method_8_code 6 = .ok (.aload 5, 2) := by decide +kernel
theorem d_BranchSeries_useUpNext_8 : decode prog_5_method_8_code 8 = .ok (.ifnonnull 5, 3) := by decide +kernel
theorem d_BranchSeries_useUpNext_11 : decode prog_5_method_8_code 11 = .ok (.iconst (-1), 1) := by decide +kernel
theorem d_BranchSeries_useUpNext_12 : decode prog_5_method_8_code 12 = .ok (.ireturn, 1) := by decide +kernel
theorem d_BranchSeries_useUpNext_13 : decode prog_5_method_8_code 13 = .ok (.aload 5, 2) := by decide +kernel
theorem d_BranchSeries_useUpNext_15 : decode prog_5_method_8_code 15 = .ok (.getfield 72, 3) := by decide +kernel
theorem d_BranchSeries_useUpNext_18 : decode prog_5_method_8_code 18 = .ok (.aload_n 0, 1) := by decide +kernel
theorem d_BranchSeries_useUpNext_19 : decode prog_5_method_8_code 19 = .ok (.getfield 38, 3) := by decide +kernel
theorem d_BranchSeries_useUpNext_22 : decode prog_5_method_8_code 22 = .ok (.iadd, 1) := by decide +kernel
theorem d_BranchSeries_useUpNext_23 : decode prog_5_method_8_code 23 = .ok (.istore 6, 2) := by decide +kernel
theorem d_BranchSeries_useUpNext_25 : decode prog_5_method_8_code 25 = .ok (.aload_n 0, 1) := by decide +kernel
theorem d_BranchSeries_useUpNext_26 : decode prog_5_method_8_code 26 = .ok (.dup, 1) := by decide +kernel
theorem d_BranchSeries_useUpNext_27 : decode prog_5_method_8_code 27 = .ok (.getfield 38, 3) := by decide +kernel
theorem d_BranchSeries_useUpNext_30 : decode prog_5_method_8_code 30 = .ok (.iconst 1, 1) := by decide +kernel
theorem d_BranchSeries_useUpNext_31 : decode prog_5_method_8_code 31 = .ok (.iadd, 1) := by decide +kernel
theorem d_BranchSeries_useUpNext_32 : decode prog_5_method_8_code 32 = .ok (.putfield 38, 3) := by decide +kernel
theorem d_BranchSeries_useUpNext_35 : decode prog_5_method_8_code 35 = .ok (.aload_n 0, 1) := by decide +kernel
theorem d_BranchSeries_useUpNext_36 : decode prog_5_method_8_code 36 = .ok (.getfield 38, 3) := by decide +kernel
theorem d_BranchSeries_useUpNext_39 : decode prog_5_method_8_code 39 = .ok (.aload 5, 2) := by decide +kernel
theorem d_BranchSeries_useUpNext_41 : decode prog_5_method_8_code 41 = .ok (.getfield 75, 3) := by decide +kernel
theorem d_BranchSeries_useUpNext_44 : decode prog_5_method_8_code 44 = .ok (.if_icmp .lt 18, 3) := by decide +kernel
theorem d_BranchSeries_useUpNext_47 : decode prog_5_method_8_code 47 = .ok (.aload_n 0, 1) := by decide +kernel
theorem d_BranchSeries_useUpNext_48 : decode prog_5_method_8_code 48 = .ok (.dup, 1) := by decide +kernel
theorem d_BranchSeries_useUpNext_49 : decode prog_5_method_8_code 49 = .ok (.getfield 32, 3) := by decide +kernel
theorem d_BranchSeries_useUpNext_52 : decode prog_5_method_8_code 52 = .ok (.iconst 1, 1) := by decide +kernel
theorem d_BranchSeries_useUpNext_53 : decode prog_5_method_8_code 53 = .ok (.iadd, 1) := by decide +kernel
theorem d_BranchSeries_useUpNext_54 : decode prog_5_method_8_code 54 = .ok (.putfield 32, 3) := by decide +kernel
theorem d_BranchSeries_useUpNext_57 : decode prog_5_method_8_code 57 = .ok (.aload_n 0, 1) := by decide +kernel
theorem d_BranchSeries_useUpNext_58 : decode prog_5_method_8_code 58 = .ok (.iconst 0, 1) := by decide +kernel
theorem d_BranchSeries_useUpNext_59 : decode prog_5_method_8_code 59 = .ok (.putfield 38, 3) := by decide +kernel
theorem d_BranchSeries_useUpNext_62 : decode prog_5_method_8_code 62 = .ok (.aload_n 0, 1) := by decide +kernel
theorem d_BranchSeries_useUpNext_63 : decode prog_5_method_8_code 63 = .ok (.iload 6, 2) := by decide +kernel
theorem d_BranchSeries_useUpNext_65 : decode prog_5_method_8_code 65 = .ok (.iload_n 1, 1) := by decide +kernel
theorem d_BranchSeries_useUpNext_66 : decode prog_5_method_8_code 66 = .ok (.lload_n 2, 1) := by decide +kernel
theorem d_BranchSeries_useUpNext_67 : decode prog_5_method_8_code 67 = .ok (.iload 4, 2) := by decide +kernel
theorem d_BranchSeries_useUpNext_69 : decode prog_5_method_8_code 69 = .ok (.invokevirtual 78, 3) := by decide +kernel
theorem d_BranchSeries_addEvent_16 : decode prog_5_method_6_code 16 = .ok (.invokevirtual 59, 3) := by decide +kernel
theorem d_No_voidNext_36 : decode prog_1_method_7_code 36 = .ok (.ifCond .ne 5, 3) := by decide +kernel
theorem d_No_voidNext_41 : decode prog_1_method_7_code 41 = .ok (.aload 5, 2) := by decide +kernel
theorem d_No_voidNext_43 : decode prog_1_method_7_code 43 = .ok (.iconst 0, 1) := by decide +kernel
theorem d_No_voidNext_44 : decode prog_1_method_7_code 44 = .ok (.lconst 0, 1) := by decide +kernel
theorem d_No_voidNext_45 : decode prog_1_method_7_code 45 = .ok (.iload_n 3, 1) := by decide +kernel
theorem d_No_voidNext_46 : decode prog_1_method_7_code 46 = .ok (.invokevirtual 110, 3) := by decide +kernel
theorem d_No_voidUsed_46 : decode prog_1_method_8_code 46 = .ok (.iconst 2, 1) := by decide +kernel
theorem d_No_voidUsed_47 : decode prog_1_method_8_code 47 = .ok (.if_icmp .eq 5, 3) := by decide +kernel
theorem d_No_voidUsed_52 : decode prog_1_method_8_code 52 = .ok (.aload 6, 2) := by decide +kernel
theorem d_No_voidUsed_54 : decode prog_1_method_8_code 54 = .ok (.iload_n 3, 1) := by decide +kernel
theorem d_No_voidUsed_55 : decode prog_1_method_8_code 55 = .ok (.iconst 0, 1) := by decide +kernel
theorem d_No_voidUsed_56 : decode prog_1_method_8_code 56 = .ok (.lconst 0, 1) := by decide +kernel
theorem d_No_voidUsed_57 : decode prog_1_method_8_code 57 = .ok (.iload 4, 2) := by decide +kernel
theorem d_No_voidUsed_59 : decode prog_1_method_8_code 59 = .ok (.invokevirtual 121, 3) := by decide +kernel
theorem d_Office_strikeOut_46 : decode prog_10_method_6_code 46 = .ok (.iadd, 1) := by decide +kernel
theorem d_Office_strikeOut_47 : decode prog_10_method_6_code 47 = .ok (.istore_n 2, 1) := by decide +kernel
theorem d_Office_strikeOut_48 : decode prog_10_method_6_code 48 = .ok (.iinc 3 1, 3) := by decide +kernel
theorem d_Office_strikeOut_51 : decode prog_10_method_6_code 51 = .ok (.goto (-21), 3) := by decide +kernel
theorem d_No_close_24 : decode prog_1_method_10_code 24 = .ok (.ifCond .ne 5, 3) := by decide +kernel
theorem d_No_close_29 : decode prog_1_method_10_code 29 = .ok (.aload_n 2, 1) := by decide +kernel
theorem d_No_close_30 : decode prog_1_method_10_code 30 = .ok (.invokevirtual 131, 3) := by decide +kernel
theorem d_No_close_33 : decode prog_1_method_10_code 33 = .ok (.istore_n 3, 1) := by decide +kernel
theorem d_No_close_34 : decode prog_1_method_10_code 34 = .ok (.iload_n 3, 1) := by decide +kernel
theorem d_No_close_35 : decode prog_1_method_10_code 35 = .ok (.ifCond .ne 14, 3) := by decide +kernel
theorem d_No_close_38 : decode prog_1_method_10_code 38 = .ok (.aload_n 2, 1) := by decide +kernel
theorem d_No_close_39 : decode prog_1_method_10_code 39 = .ok (.invokevirtual 134, 3) := by decide +kernel
theorem d_StringBuilder_init_6 : decode prog_24_method_1_code 6 = .ok (.return_, 1) := by decide +kernel
theorem d_StringUTF16_newBytesFor_4 : decode prog_26_method_2_code 4 = .ok (.newarray .byte, 2) := by decide +kernel
theorem d_StringUTF16_newBytesFor_6 : decode prog_26_method_2_code 6 = .ok (.areturn, 1) := by decide +kernel
theorem d_AbstractStringBuilder_newCapacity_32 : decode prog_16_method_10_code 32 = .ok (.istore 5, 2) := by decide +kernel
theorem d_AbstractStringBuilder_newCapacity_34 : decode prog_16_method_10_code 34 = .ok (.iload 5, 2) := by decide +kernel
theorem d_AbstractStringBuilder_newCapacity_36 : decode prog_16_method_10_code 36 = .ok (.ldc 39, 2) := by decide +kernel
theorem d_AbstractStringBuilder_newCapacity_38 : decode prog_16_method_10_code 38 = .ok (.if_icmp .ne 13, 3) := by decide +kernel
theorem d_AbstractStringBuilder_newCapacity_51 : decode prog_16_method_10_code 51 = .ok (.iload 5, 2) := by decide +kernel
theorem d_AbstractStringBuilder_newCapacity_53 : decode prog_16_method_10_code 53 = .ok (.aload_n 0, 1) := by decide +kernel
theorem d_AbstractStringBuilder_newCapacity_54 : decode prog_16_method_10_code 54 = .ok (.getfield 22, 3) := by decide +kernel
theorem d_AbstractStringBuilder_newCapacity_57 : decode prog_16_method_10_code 57 = .ok (.ishr, 1) := by decide +kernel
theorem d_AbstractStringBuilder_newCapacity_58 : decode prog_16_method_10_code 58 = .ok (.ireturn, 1) := by decide +kernel
theorem d_AbstractStringBuilder_inflate_16 : decode prog_16_method_11_code 16 = .ok (.astore_n 1, 1) := by decide +kernel
theorem d_AbstractStringBuilder_inflate_17 : decode prog_16_method_11_code 17 = .ok (.aload_n 0, 1) := by decide +kernel
theorem d_AbstractStringBuilder_inflate_18 : decode prog_16_method_11_code 18 = .ok (.getfield 15, 3) := by decide +kernel
theorem d_AbstractStringBuilder_inflate_21 : decode prog_16_method_11_code 21 = .ok (.iconst 0, 1) := by decide +kernel
theorem d_AbstractStringBuilder_inflate_22 : decode prog_16_method_11_code 22 = .ok (.aload_n 1, 1) := by decide +kernel
theorem d_AbstractStringBuilder_inflate_23 : decode prog_16_method_11_code 23 = .ok (.iconst 0, 1) := by decide +kernel
theorem d_AbstractStringBuilder_inflate_24 : decode prog_16_method_11_code 24 = .ok (.aload_n 0, 1) := by decide +kernel
theorem d_AbstractStringBuilder_inflate_25 : decode prog_16_method_11_code 25 = .ok (.getfield 79, 3) := by decide +kernel
theorem d_AbstractStringBuilder_inflate_28 : decode prog_16_method_11_code 28 = .ok (.invokestatic 125, 3) := by decide +kernel
theorem d_StringUTF16_checkBoundsOffCount_6 : decode prog_26_method_94_code 6 = .ok (.invokestatic 419, 3) := by decide +kernel
theorem d_String_checkBoundsOffCount_9 : decode prog_23_method_157_code 9 = .ok (.ireturn, 1) := by decide +kernel
theorem d_StringUTF16_checkIndex_8 : decode prog_26_method_91_code 8 = .ok (.return_, 1) := by decide +kernel
theorem d_String_checkBoundsBeginEnd_9 : decode prog_23_method_158_code 9 = .ok (.pop, 1) := by decide +kernel
theorem d_String_checkBoundsBeginEnd_10 : decode prog_23_method_158_code 10 = .ok (.return_, 1) := by decide +kernel
theorem d_String_length_9 : decode prog_23_method_54_code 9 = .ok (.ishr, 1) := by decide +kernel
theorem d_String_length_10 : decode prog_23_method_54_code 10 = .ok (.ireturn, 1) := by decide +kernel
theorem d_SeriesBook_fieldOf_5 : decode prog_11_method_12_code 5 = .ok (.istore_n 3, 1) := by decide +kernel
theorem d_SeriesBook_fieldOf_6 : decode prog_11_method_12_code 6 = .ok (.iload_n 3, 1) := by decide +kernel
theorem d_SeriesBook_fieldOf_7 : decode prog_11_method_12_code 7 = .ok (.ifCond .ne 7, 3) := by decide +kernel
theorem d_SeriesBook_fieldOf_14 : decode prog_11_method_12_code 14 = .ok (.iload_n 1, 1) := by decide +kernel
theorem d_SeriesBook_fieldOf_15 : decode prog_11_method_12_code 15 = .ok (.iconst 1, 1) := by decide +kernel
theorem d_SeriesBook_fieldOf_16 : decode prog_11_method_12_code 16 = .ok (.isub, 1) := by decide +kernel
theorem d_SeriesBook_fieldOf_17 : decode prog_11_method_12_code 17 = .ok (.istore 4, 2) := by decide +kernel
theorem d_SeriesBook_fieldOf_19 : decode prog_11_method_12_code 19 = .ok (.iload_n 2, 1) := by decide +kernel
theorem d_SeriesBook_fieldOf_20 : decode prog_11_method_12_code 20 = .ok (.tableswitch 100 0 3 #[32, 51, 71, 80], 32) := by decide +kernel
theorem d_SeriesBook_fieldOf_120 : decode prog_11_method_12_code 120 = .ok (.ldc2_w 88, 3) := by decide +kernel
theorem d_SeriesBook_fieldOf_123 : decode prog_11_method_12_code 123 = .ok (.lreturn, 1) := by decide +kernel
theorem d_SeriesBook_fieldOf_100 : decode prog_11_method_12_code 100 = .ok (.iload_n 3, 1) := by decide +kernel
theorem d_SeriesBook_fieldOf_101 : decode prog_11_method_12_code 101 = .ok (.iconst 3, 1) := by decide +kernel
theorem d_SeriesBook_fieldOf_102 : decode prog_11_method_12_code 102 = .ok (.if_icmp .ne 14, 3) := by decide +kernel
theorem d_SeriesBook_fieldOf_116 : decode prog_11_method_12_code 116 = .ok (.ldc2_w 88, 3) := by decide +kernel
theorem d_SeriesBook_fieldOf_105 : decode prog_11_method_12_code 105 = .ok (.aload_n 0, 1) := by decide +kernel
theorem d_SeriesBook_fieldOf_106 : decode prog_11_method_12_code 106 = .ok (.getfield 26, 3) := by decide +kernel
theorem d_SeriesBook_fieldOf_109 : decode prog_11_method_12_code 109 = .ok (.iload 4, 2) := by decide +kernel
theorem d_SeriesBook_fieldOf_111 : decode prog_11_method_12_code 111 = .ok (.iaload, 1) := by decide +kernel
theorem d_SeriesBook_fieldOf_112 : decode prog_11_method_12_code 112 = .ok (.i2l, 1) := by decide +kernel
theorem d_SeriesBook_fieldOf_113 : decode prog_11_method_12_code 113 = .ok (.goto 6, 3) := by decide +kernel
theorem d_SeriesBook_fieldOf_91 : decode prog_11_method_12_code 91 = .ok (.aload_n 0, 1) := by decide +kernel
theorem d_SeriesBook_fieldOf_92 : decode prog_11_method_12_code 92 = .ok (.getfield 15, 3) := by decide +kernel
theorem d_SeriesBook_fieldOf_95 : decode prog_11_method_12_code 95 = .ok (.iload 4, 2) := by decide +kernel
theorem d_SeriesBook_fieldOf_97 : decode prog_11_method_12_code 97 = .ok (.iaload, 1) := by decide +kernel
theorem d_SeriesBook_fieldOf_98 : decode prog_11_method_12_code 98 = .ok (.i2l, 1) := by decide +kernel
theorem d_SeriesBook_fieldOf_99 : decode prog_11_method_12_code 99 = .ok (.lreturn, 1) := by decide +kernel
theorem d_SeriesBook_fieldOf_71 : decode prog_11_method_12_code 71 = .ok (.iload_n 3, 1) := by decide +kernel
theorem d_SeriesBook_fieldOf_72 : decode prog_11_method_12_code 72 = .ok (.iconst 2, 1) := by decide +kernel
theorem d_SeriesBook_fieldOf_73 : decode prog_11_method_12_code 73 = .ok (.if_icmp .ne 14, 3) := by decide +kernel
theorem d_SeriesBook_fieldOf_87 : decode prog_11_method_12_code 87 = .ok (.ldc2_w 88, 3) := by decide +kernel
theorem d_SeriesBook_fieldOf_76 : decode prog_11_method_12_code 76 = .ok (.aload_n 0, 1) := by decide +kernel
theorem d_SeriesBook_fieldOf_77 : decode prog_11_method_12_code 77 = .ok (.getfield 26, 3) := by decide +kernel
theorem d_SeriesBook_fieldOf_80 : decode prog_11_method_12_code 80 = .ok (.iload 4, 2) := by decide +kernel
theorem d_SeriesBook_fieldOf_82 : decode prog_11_method_12_code 82 = .ok (.iaload, 1) := by decide +kernel
theorem d_SeriesBook_fieldOf_83 : decode prog_11_method_12_code 83 = .ok (.i2l, 1) := by decide +kernel
theorem d_SeriesBook_fieldOf_84 : decode prog_11_method_12_code 84 = .ok (.goto 6, 3) := by decide +kernel
theorem d_SeriesBook_fieldOf_52 : decode prog_11_method_12_code 52 = .ok (.iload_n 3, 1) := by decide +kernel
theorem d_SeriesBook_fieldOf_53 : decode prog_11_method_12_code 53 = .ok (.iconst 2, 1) := by decide +kernel
theorem d_SeriesBook_fieldOf_54 : decode prog_11_method_12_code 54 = .ok (.if_icmp .ne 13, 3) := by decide +kernel
theorem d_SeriesBook_fieldOf_67 : decode prog_11_method_12_code 67 = .ok (.ldc2_w 88, 3) := by decide +kernel
theorem d_SeriesBook_fieldOf_57 : decode prog_11_method_12_code 57 = .ok (.aload_n 0, 1) := by decide +kernel
theorem d_SeriesBook_fieldOf_58 : decode prog_11_method_12_code 58 = .ok (.getfield 22, 3) := by decide +kernel
theorem d_SeriesBook_fieldOf_61 : decode prog_11_method_12_code 61 = .ok (.iload 4, 2) := by decide +kernel
theorem d_SeriesBook_fieldOf_63 : decode prog_11_method_12_code 63 = .ok (.laload, 1) := by decide +kernel
theorem d_SeriesBook_fieldOf_64 : decode prog_11_method_12_code 64 = .ok (.goto 6, 3) := by decide +kernel
theorem d_SeriesBook_fieldOf_10 : decode prog_11_method_12_code 10 = .ok (.ldc2_w 88, 3) := by decide +kernel
theorem d_SeriesBook_fieldOf_13 : decode prog_11_method_12_code 13 = .ok (.lreturn, 1) := by decide +kernel
theorem d_SeriesBook_fieldOf_119 : decode prog_11_method_12_code 119 = .ok (.lreturn, 1) := by decide +kernel
theorem d_SeriesBook_fieldOf_90 : decode prog_11_method_12_code 90 = .ok (.lreturn, 1) := by decide +kernel
theorem d_SeriesBook_fieldOf_70 : decode prog_11_method_12_code 70 = .ok (.lreturn, 1) := by decide +kernel
theorem d_String_init2_8 : decode prog_23_method_150_code 8 = .ok (.astore_n 3, 1) := by decide +kernel
theorem d_String_init2_9 : decode prog_23_method_150_code 9 = .ok (.aload_n 1, 1) := by decide +kernel
theorem d_String_init2_10 : decode prog_23_method_150_code 10 = .ok (.invokevirtual 549, 3) := by decide +kernel
theorem d_StringBuilder_length_4 : decode prog_24_method_93_code 4 = .ok (.ireturn, 1) := by decide +kernel
theorem d_Arrays_copyOfRangeByte_5 : decode prog_32_method_133_code 5 = .ok (.iload_n 2, 1) := by decide +kernel
theorem d_Arrays_copyOfRangeByte_6 : decode prog_32_method_133_code 6 = .ok (.iload_n 1, 1) := by decide +kernel
theorem d_Arrays_copyOfRangeByte_7 : decode prog_32_method_133_code 7 = .ok (.isub, 1) := by decide +kernel
theorem d_Arrays_copyOfRangeByte_8 : decode prog_32_method_133_code 8 = .ok (.istore_n 3, 1) := by decide +kernel
theorem d_Arrays_copyOfRangeByte_9 : decode prog_32_method_133_code 9 = .ok (.iload_n 3, 1) := by decide +kernel
theorem d_Arrays_copyOfRangeByte_10 : decode prog_32_method_133_code 10 = .ok (.newarray .byte, 2) := by decide +kernel
theorem d_Arrays_copyOfRangeByte_12 : decode prog_32_method_133_code 12 = .ok (.astore 4, 2) := by decide +kernel
theorem d_Arrays_copyOfRangeByte_14 : decode prog_32_method_133_code 14 = .ok (.aload_n 0, 1) := by decide +kernel
theorem d_Arrays_copyOfRangeByte_15 : decode prog_32_method_133_code 15 = .ok (.iload_n 1, 1) := by decide +kernel
theorem d_Arrays_copyOfRangeByte_16 : decode prog_32_method_133_code 16 = .ok (.aload 4, 2) := by decide +kernel
theorem d_Arrays_copyOfRangeByte_18 : decode prog_32_method_133_code 18 = .ok (.iconst 0, 1) := by decide +kernel
theorem d_Arrays_copyOfRangeByte_19 : decode prog_32_method_133_code 19 = .ok (.aload_n 0, 1) := by decide +kernel
theorem d_Arrays_copyOfRangeByte_20 : decode prog_32_method_133_code 20 = .ok (.arraylength, 1) := by decide +kernel
theorem d_Arrays_copyOfRangeByte_21 : decode prog_32_method_133_code 21 = .ok (.iload_n 1, 1) := by decide +kernel
theorem d_Arrays_copyOfRangeByte_22 : decode prog_32_method_133_code 22 = .ok (.isub, 1) := by decide +kernel
theorem d_Arrays_copyOfRangeByte_23 : decode prog_32_method_133_code 23 = .ok (.iload_n 3, 1) := by decide +kernel
theorem d_Arrays_copyOfRangeByte_24 : decode prog_32_method_133_code 24 = .ok (.invokestatic 304, 3) := by decide +kernel
theorem d_Arrays_copyOfRangeByte_27 : decode prog_32_method_133_code 27 = .ok (.invokestatic 150, 3) := by decide +kernel
theorem d_Arrays_copyOfRangeByte_30 : decode prog_32_method_133_code 30 = .ok (.aload 4, 2) := by decide +kernel
theorem d_Arrays_copyOfRangeByte_32 : decode prog_32_method_133_code 32 = .ok (.areturn, 1) := by decide +kernel
theorem d_No_fate_29 : decode prog_1_method_19_code 29 = .ok (.ireturn, 1) := by decide +kernel
theorem d_No_invoiceOf_35 : decode prog_1_method_20_code 35 = .ok (.lreturn, 1) := by decide +kernel
theorem d_No_total_29 : decode prog_1_method_21_code 29 = .ok (.lreturn, 1) := by decide +kernel
theorem d_SeriesBook_listByteAt_12 : decode prog_11_method_14_code 12 = .ok (.if_icmp .ge 14, 3) := by decide +kernel
theorem d_SeriesBook_listByteAt_15 : decode prog_11_method_14_code 15 = .ok (.aload_n 0, 1) := by decide +kernel
theorem d_SeriesBook_listByteAt_16 : decode prog_11_method_14_code 16 = .ok (.getfield 31, 3) := by decide +kernel
theorem d_SeriesBook_listByteAt_19 : decode prog_11_method_14_code 19 = .ok (.iload_n 1, 1) := by decide +kernel
theorem d_SeriesBook_listByteAt_20 : decode prog_11_method_14_code 20 = .ok (.invokevirtual 96, 3) := by decide +kernel
theorem d_String_charAt_4 : decode prog_23_method_56_code 4 = .ok (.ifCond .eq 12, 3) := by decide +kernel
theorem d_String_charAt_16 : decode prog_23_method_56_code 16 = .ok (.aload_n 0, 1) := by decide +kernel
theorem d_String_charAt_17 : decode prog_23_method_56_code 17 = .ok (.getfield 9, 3) := by decide +kernel
theorem d_String_charAt_20 : decode prog_23_method_56_code 20 = .ok (.iload_n 1, 1) := by decide +kernel
theorem d_String_charAt_21 : decode prog_23_method_56_code 21 = .ok (.invokestatic 498, 3) := by decide +kernel
theorem d_StringUTF16_charAt_5 : decode prog_26_method_83_code 5 = .ok (.aload_n 0, 1) := by decide +kernel
theorem d_StringUTF16_charAt_6 : decode prog_26_method_83_code 6 = .ok (.iload_n 1, 1) := by decide +kernel
theorem d_StringUTF16_charAt_7 : decode prog_26_method_83_code 7 = .ok (.invokestatic 71, 3) := by decide +kernel
theorem d_StringUTF16_charAt_10 : decode prog_26_method_83_code 10 = .ok (.ireturn, 1) := by decide +kernel
theorem d_Mo_series_33 : decode prog_14_method_13_code 33 = .ok (.ifCond .eq 24, 3) := by decide +kernel
theorem d_Mo_series_36 : decode prog_14_method_13_code 36 = .ok (.aload_n 0, 1) := by decide +kernel
theorem d_Mo_series_37 : decode prog_14_method_13_code 37 = .ok (.getfield 71, 3) := by decide +kernel
theorem d_Mo_series_40 : decode prog_14_method_13_code 40 = .ok (.iload_n 1, 1) := by decide +kernel
theorem d_Mo_series_41 : decode prog_14_method_13_code 41 = .ok (.iaload, 1) := by decide +kernel
theorem d_Mo_series_42 : decode prog_14_method_13_code 42 = .ok (.ifCond .ne 15, 3) := by decide +kernel
theorem d_Mo_series_45 : decode prog_14_method_13_code 45 = .ok (.iload_n 2, 1) := by decide +kernel
theorem d_Mo_series_46 : decode prog_14_method_13_code 46 = .ok (.iconst 1, 1) := by decide +kernel
theorem d_Mo_series_47 : decode prog_14_method_13_code 47 = .ok (.if_icmp .lt 10, 3) := by decide +kernel
theorem d_Mo_series_50 : decode prog_14_method_13_code 50 = .ok (.iload_n 2, 1) := by decide +kernel
theorem d_Mo_series_51 : decode prog_14_method_13_code 51 = .ok (.sipush 9999, 3) := by decide +kernel
theorem d_Mo_series_54 : decode prog_14_method_13_code 54 = .ok (.if_icmp .le 5, 3) := by decide +kernel
theorem d_Mo_series_59 : decode prog_14_method_13_code 59 = .ok (.aload_n 0, 1) := by decide +kernel
theorem d_Mo_series_60 : decode prog_14_method_13_code 60 = .ok (.getfield 71, 3) := by decide +kernel
theorem d_Mo_series_63 : decode prog_14_method_13_code 63 = .ok (.iload_n 1, 1) := by decide +kernel
theorem d_Mo_series_64 : decode prog_14_method_13_code 64 = .ok (.iconst 1, 1) := by decide +kernel
theorem d_Mo_series_65 : decode prog_14_method_13_code 65 = .ok (.iastore, 1) := by decide +kernel
theorem d_Mo_series_66 : decode prog_14_method_13_code 66 = .ok (.aload_n 0, 1) := by decide +kernel
theorem d_Mo_series_67 : decode prog_14_method_13_code 67 = .ok (.getfield 74, 3) := by decide +kernel
theorem d_Mo_series_70 : decode prog_14_method_13_code 70 = .ok (.iload_n 1, 1) := by decide +kernel
theorem d_Mo_series_71 : decode prog_14_method_13_code 71 = .ok (.iload_n 2, 1) := by decide +kernel
theorem d_Mo_series_72 : decode prog_14_method_13_code 72 = .ok (.iastore, 1) := by decide +kernel
theorem d_Mo_series_73 : decode prog_14_method_13_code 73 = .ok (.iconst 1, 1) := by decide +kernel
theorem d_Mo_series_74 : decode prog_14_method_13_code 74 = .ok (.ireturn, 1) := by decide +kernel
theorem d_Mo_series_57 : decode prog_14_method_13_code 57 = .ok (.iconst 0, 1) := by decide +kernel
theorem d_Mo_series_58 : decode prog_14_method_13_code 58 = .ok (.ireturn, 1) := by decide +kernel
theorem d_Mo_there_6 : decode prog_14_method_19_code 6 = .ok (.ifCond .eq 16, 3) := by decide +kernel
theorem d_Mo_there_9 : decode prog_14_method_19_code 9 = .ok (.aload_n 0, 1) := by decide +kernel
theorem d_Mo_there_10 : decode prog_14_method_19_code 10 = .ok (.getfield 7, 3) := by decide +kernel
theorem d_Mo_there_13 : decode prog_14_method_19_code 13 = .ok (.iload_n 1, 1) := by decide +kernel
theorem d_Mo_there_14 : decode prog_14_method_19_code 14 = .ok (.baload, 1) := by decide +kernel
theorem d_Mo_there_15 : decode prog_14_method_19_code 15 = .ok (.ifCond .eq 7, 3) := by decide +kernel
theorem d_Mo_there_18 : decode prog_14_method_19_code 18 = .ok (.iconst 1, 1) := by decide +kernel
theorem d_Mo_there_19 : decode prog_14_method_19_code 19 = .ok (.goto 4, 3) := by decide +kernel
theorem d_Mo_there_22 : decode prog_14_method_19_code 22 = .ok (.iconst 0, 1) := by decide +kernel
theorem d_Mo_there_23 : decode prog_14_method_19_code 23 = .ok (.putfield 120, 3) := by decide +kernel
theorem d_Mo_there_26 : decode prog_14_method_19_code 26 = .ok (.aload_n 0, 1) := by decide +kernel
theorem d_Mo_there_27 : decode prog_14_method_19_code 27 = .ok (.iload_n 1, 1) := by decide +kernel
theorem d_Mo_there_28 : decode prog_14_method_19_code 28 = .ok (.invokevirtual 163, 3) := by decide +kernel
theorem d_Mo_there_31 : decode prog_14_method_19_code 31 = .ok (.ifCond .eq 14, 3) := by decide +kernel
theorem d_Mo_there_34 : decode prog_14_method_19_code 34 = .ok (.aload_n 0, 1) := by decide +kernel
theorem d_Mo_there_35 : decode prog_14_method_19_code 35 = .ok (.getfield 120, 3) := by decide +kernel
theorem d_Mo_there_38 : decode prog_14_method_19_code 38 = .ok (.ifCond .ne 7, 3) := by decide +kernel
theorem d_Mo_there_41 : decode prog_14_method_19_code 41 = .ok (.iconst 1, 1) := by decide +kernel
theorem d_Mo_there_42 : decode prog_14_method_19_code 42 = .ok (.goto 4, 3) := by decide +kernel
theorem d_Mo_there_45 : decode prog_14_method_19_code 45 = .ok (.iconst 0, 1) := by decide +kernel
theorem d_Mo_there_46 : decode prog_14_method_19_code 46 = .ok (.ireturn, 1) := by decide +kernel
theorem d_Mo_copyBranch_93 : decode prog_14_method_6_code 93 = .ok (.iinc 3 1, 3) := by decide +kernel
theorem d_Mo_copyBranch_96 : decode prog_14_method_6_code 96 = .ok (.goto (-22), 3) := by decide +kernel
theorem d_Mo_report_5 : decode prog_14_method_22_code 5 = .ok (.ifCond .eq 51, 3) := by decide +kernel
theorem d_Mo_report_8 : decode prog_14_method_22_code 8 = .ok (.iload_n 2, 1) := by decide +kernel
theorem d_Mo_report_9 : decode prog_14_method_22_code 9 = .ok (.invokestatic 144, 3) := by decide +kernel
theorem d_Mo_report_12 : decode prog_14_method_22_code 12 = .ok (.ifCond .eq 44, 3) := by decide +kernel
theorem d_Mo_report_15 : decode prog_14_method_22_code 15 = .ok (.aload_n 0, 1) := by decide +kernel
theorem d_Mo_report_16 : decode prog_14_method_22_code 16 = .ok (.getfield 65, 3) := by decide +kernel
theorem d_Mo_report_19 : decode prog_14_method_22_code 19 = .ok (.iload_n 1, 1) := by decide +kernel
theorem d_Mo_report_20 : decode prog_14_method_22_code 20 = .ok (.baload, 1) := by decide +kernel
theorem d_Mo_report_21 : decode prog_14_method_22_code 21 = .ok (.ifCond .ne 35, 3) := by decide +kernel
theorem d_Mo_report_24 : decode prog_14_method_22_code 24 = .ok (.aload_n 0, 1) := by decide +kernel
theorem d_Mo_report_25 : decode prog_14_method_22_code 25 = .ok (.getfield 68, 3) := by decide +kernel
theorem d_Mo_report_28 : decode prog_14_method_22_code 28 = .ok (.iload_n 1, 1) := by decide +kernel
theorem d_Mo_report_29 : decode prog_14_method_22_code 29 = .ok (.baload, 1) := by decide +kernel
theorem d_Mo_report_30 : decode prog_14_method_22_code 30 = .ok (.ifCond .ne 26, 3) := by decide +kernel
theorem d_Mo_report_33 : decode prog_14_method_22_code 33 = .ok (.aload_n 0, 1) := by decide +kernel
theorem d_Mo_report_34 : decode prog_14_method_22_code 34 = .ok (.getfield 26, 3) := by decide +kernel
theorem d_Mo_report_37 : decode prog_14_method_22_code 37 = .ok (.iconst 3, 1) := by decide +kernel
theorem d_Mo_report_38 : decode prog_14_method_22_code 38 = .ok (.iload_n 1, 1) := by decide +kernel
theorem d_Mo_report_39 : decode prog_14_method_22_code 39 = .ok (.imul, 1) := by decide +kernel
theorem d_Mo_report_40 : decode prog_14_method_22_code 40 = .ok (.iload_n 2, 1) := by decide +kernel
theorem d_Mo_report_41 : decode prog_14_method_22_code 41 = .ok (.iadd, 1) := by decide +kernel
theorem d_Mo_report_42 : decode prog_14_method_22_code 42 = .ok (.iaload, 1) := by decide +kernel
theorem d_Mo_report_43 : decode prog_14_method_22_code 43 = .ok (.aload_n 0, 1) := by decide +kernel
theorem d_Mo_report_44 : decode prog_14_method_22_code 44 = .ok (.getfield 23, 3) := by decide +kernel
theorem d_Mo_report_47 : decode prog_14_method_22_code 47 = .ok (.iconst 3, 1) := by decide +kernel
theorem d_Mo_report_48 : decode prog_14_method_22_code 48 = .ok (.iload_n 1, 1) := by decide +kernel
theorem d_Mo_report_49 : decode prog_14_method_22_code 49 = .ok (.imul, 1) := by decide +kernel
theorem d_Mo_report_50 : decode prog_14_method_22_code 50 = .ok (.iload_n 2, 1) := by decide +kernel
theorem d_Mo_report_51 : decode prog_14_method_22_code 51 = .ok (.iadd, 1) := by decide +kernel
theorem d_Mo_report_52 : decode prog_14_method_22_code 52 = .ok (.iaload, 1) := by decide +kernel
theorem d_Mo_report_53 : decode prog_14_method_22_code 53 = .ok (.if_icmp .ne 17, 3) := by decide +kernel
theorem d_Mo_report_70 : decode prog_14_method_22_code 70 = .ok (.aload_n 0, 1) := by decide +kernel
theorem d_Mo_report_71 : decode prog_14_method_22_code 71 = .ok (.getfield 23, 3) := by decide +kernel
theorem d_Mo_report_74 : decode prog_14_method_22_code 74 = .ok (.iconst 3, 1) := by decide +kernel
theorem d_Mo_report_75 : decode prog_14_method_22_code 75 = .ok (.iload_n 1, 1) := by decide +kernel
theorem d_Mo_report_76 : decode prog_14_method_22_code 76 = .ok (.imul, 1) := by decide +kernel
theorem d_Mo_report_77 : decode prog_14_method_22_code 77 = .ok (.iload_n 2, 1) := by decide +kernel
theorem d_Mo_report_78 : decode prog_14_method_22_code 78 = .ok (.iadd, 1) := by decide +kernel
theorem d_Mo_report_79 : decode prog_14_method_22_code 79 = .ok (.iaload, 1) := by decide +kernel
theorem d_Mo_report_80 : decode prog_14_method_22_code 80 = .ok (.aload_n 0, 1) := by decide +kernel
theorem d_Mo_report_81 : decode prog_14_method_22_code 81 = .ok (.getfield 26, 3) := by decide +kernel
theorem d_Mo_report_84 : decode prog_14_method_22_code 84 = .ok (.iconst 3, 1) := by decide +kernel
theorem d_Mo_report_85 : decode prog_14_method_22_code 85 = .ok (.iload_n 1, 1) := by decide +kernel
theorem d_Mo_report_86 : decode prog_14_method_22_code 86 = .ok (.imul, 1) := by decide +kernel
theorem d_Mo_report_87 : decode prog_14_method_22_code 87 = .ok (.iload_n 2, 1) := by decide +kernel
theorem d_Mo_report_88 : decode prog_14_method_22_code 88 = .ok (.iadd, 1) := by decide +kernel
theorem d_Mo_report_89 : decode prog_14_method_22_code 89 = .ok (.iaload, 1) := by decide +kernel
theorem d_Mo_report_90 : decode prog_14_method_22_code 90 = .ok (.isub, 1) := by decide +kernel
theorem d_Mo_report_91 : decode prog_14_method_22_code 91 = .ok (.istore_n 3, 1) := by decide +kernel
theorem d_Mo_report_92 : decode prog_14_method_22_code 92 = .ok (.aload_n 0, 1) := by decide +kernel
theorem d_Mo_report_93 : decode prog_14_method_22_code 93 = .ok (.getfield 53, 3) := by decide +kernel
theorem d_Mo_report_96 : decode prog_14_method_22_code 96 = .ok (.iload_n 1, 1) := by decide +kernel
theorem d_Mo_report_97 : decode prog_14_method_22_code 97 = .ok (.dup2, 1) := by decide +kernel
theorem d_Mo_report_98 : decode prog_14_method_22_code 98 = .ok (.iaload, 1) := by decide +kernel
theorem d_Mo_report_99 : decode prog_14_method_22_code 99 = .ok (.iconst 1, 1) := by decide +kernel
theorem d_Mo_report_100 : decode prog_14_method_22_code 100 = .ok (.iadd, 1) := by decide +kernel
theorem d_Mo_report_101 : decode prog_14_method_22_code 101 = .ok (.iastore, 1) := by decide +kernel
theorem d_Mo_report_102 : decode prog_14_method_22_code 102 = .ok (.aload_n 0, 1) := by decide +kernel
theorem d_Mo_report_103 : decode prog_14_method_22_code 103 = .ok (.getfield 56, 3) := by decide +kernel
theorem d_Mo_report_106 : decode prog_14_method_22_code 106 = .ok (.iload_n 1, 1) := by decide +kernel
theorem d_Mo_report_107 : decode prog_14_method_22_code 107 = .ok (.iconst 2, 1) := by decide +kernel
theorem d_Mo_report_108 : decode prog_14_method_22_code 108 = .ok (.iastore, 1) := by decide +kernel
theorem d_Mo_report_109 : decode prog_14_method_22_code 109 = .ok (.aload_n 0, 1) := by decide +kernel
theorem d_Mo_report_110 : decode prog_14_method_22_code 110 = .ok (.getfield 59, 3) := by decide +kernel
theorem d_Mo_report_113 : decode prog_14_method_22_code 113 = .ok (.iload_n 1, 1) := by decide +kernel
theorem d_Mo_report_114 : decode prog_14_method_22_code 114 = .ok (.iload_n 2, 1) := by decide +kernel
theorem d_Mo_report_115 : decode prog_14_method_22_code 115 = .ok (.iastore, 1) := by decide +kernel
theorem d_Mo_report_116 : decode prog_14_method_22_code 116 = .ok (.aload_n 0, 1) := by decide +kernel
theorem d_Mo_report_117 : decode prog_14_method_22_code 117 = .ok (.getfield 62, 3) := by decide +kernel
theorem d_Mo_report_120 : decode prog_14_method_22_code 120 = .ok (.iload_n 1, 1) := by decide +kernel
theorem d_Mo_report_121 : decode prog_14_method_22_code 121 = .ok (.iload_n 3, 1) := by decide +kernel
theorem d_Mo_report_122 : decode prog_14_method_22_code 122 = .ok (.bipush 30, 2) := by decide +kernel
theorem d_Mo_report_124 : decode prog_14_method_22_code 124 = .ok (.if_icmp .ge 7, 3) := by decide +kernel
theorem d_Mo_report_131 : decode prog_14_method_22_code 131 = .ok (.bipush 30, 2) := by decide +kernel
theorem d_Mo_report_127 : decode prog_14_method_22_code 127 = .ok (.iload_n 3, 1) := by decide +kernel
theorem d_Mo_report_128 : decode prog_14_method_22_code 128 = .ok (.goto 5, 3) := by decide +kernel
theorem d_Mo_report_56 : decode prog_14_method_22_code 56 = .ok (.aload_n 0, 1) := by decide +kernel
theorem d_Mo_report_57 : decode prog_14_method_22_code 57 = .ok (.getfield 120, 3) := by decide +kernel
theorem d_Mo_report_60 : decode prog_14_method_22_code 60 = .ok (.iconst 1, 1) := by decide +kernel
theorem d_Mo_report_61 : decode prog_14_method_22_code 61 = .ok (.if_icmp .ne 7, 3) := by decide +kernel
theorem d_Mo_report_68 : decode prog_14_method_22_code 68 = .ok (.iconst (-1), 1) := by decide +kernel
theorem d_Mo_report_64 : decode prog_14_method_22_code 64 = .ok (.iconst 0, 1) := by decide +kernel
theorem d_Mo_report_65 : decode prog_14_method_22_code 65 = .ok (.goto 4, 3) := by decide +kernel
theorem d_Mo_report_133 : decode prog_14_method_22_code 133 = .ok (.iastore, 1) := by decide +kernel
theorem d_Mo_report_134 : decode prog_14_method_22_code 134 = .ok (.aload_n 0, 1) := by decide +kernel
theorem d_Mo_report_135 : decode prog_14_method_22_code 135 = .ok (.getfield 65, 3) := by decide +kernel
theorem d_Mo_report_138 : decode prog_14_method_22_code 138 = .ok (.iload_n 1, 1) := by decide +kernel
theorem d_Mo_report_139 : decode prog_14_method_22_code 139 = .ok (.iconst 1, 1) := by decide +kernel
theorem d_Mo_report_140 : decode prog_14_method_22_code 140 = .ok (.bastore, 1) := by decide +kernel
theorem d_Mo_report_141 : decode prog_14_method_22_code 141 = .ok (.aload_n 0, 1) := by decide +kernel
theorem d_Mo_report_142 : decode prog_14_method_22_code 142 = .ok (.iload_n 1, 1) := by decide +kernel
theorem d_Mo_report_143 : decode prog_14_method_22_code 143 = .ok (.invokevirtual 173, 3) := by decide +kernel
theorem d_Mo_invoice_5 : decode prog_14_method_26_code 5 = .ok (.ifCond .eq 61, 3) := by decide +kernel
theorem d_Mo_invoice_8 : decode prog_14_method_26_code 8 = .ok (.iload_n 2, 1) := by decide +kernel
theorem d_Mo_invoice_9 : decode prog_14_method_26_code 9 = .ok (.invokestatic 144, 3) := by decide +kernel
theorem d_Mo_invoice_12 : decode prog_14_method_26_code 12 = .ok (.ifCond .eq 54, 3) := by decide +kernel
theorem d_Mo_invoice_15 : decode prog_14_method_26_code 15 = .ok (.aload_n 0, 1) := by decide +kernel
theorem d_Mo_invoice_16 : decode prog_14_method_26_code 16 = .ok (.getfield 17, 3) := by decide +kernel
theorem d_Mo_invoice_19 : decode prog_14_method_26_code 19 = .ok (.iconst 3, 1) := by decide +kernel
theorem d_Mo_invoice_20 : decode prog_14_method_26_code 20 = .ok (.iload_n 1, 1) := by decide +kernel
theorem d_Mo_invoice_21 : decode prog_14_method_26_code 21 = .ok (.imul, 1) := by decide +kernel
theorem d_Mo_invoice_22 : decode prog_14_method_26_code 22 = .ok (.iload_n 2, 1) := by decide +kernel
theorem d_Mo_invoice_23 : decode prog_14_method_26_code 23 = .ok (.iadd, 1) := by decide +kernel
theorem d_Mo_invoice_24 : decode prog_14_method_26_code 24 = .ok (.iaload, 1) := by decide +kernel
theorem d_Mo_invoice_25 : decode prog_14_method_26_code 25 = .ok (.aload_n 0, 1) := by decide +kernel
theorem d_Mo_invoice_26 : decode prog_14_method_26_code 26 = .ok (.getfield 13, 3) := by decide +kernel
theorem d_Mo_invoice_29 : decode prog_14_method_26_code 29 = .ok (.iconst 3, 1) := by decide +kernel
theorem d_Mo_invoice_30 : decode prog_14_method_26_code 30 = .ok (.iload_n 1, 1) := by decide +kernel
theorem d_Mo_invoice_31 : decode prog_14_method_26_code 31 = .ok (.imul, 1) := by decide +kernel
theorem d_Mo_invoice_32 : decode prog_14_method_26_code 32 = .ok (.iload_n 2, 1) := by decide +kernel
theorem d_Mo_invoice_33 : decode prog_14_method_26_code 33 = .ok (.iadd, 1) := by decide +kernel
theorem d_Mo_invoice_34 : decode prog_14_method_26_code 34 = .ok (.iaload, 1) := by decide +kernel
theorem d_Mo_invoice_35 : decode prog_14_method_26_code 35 = .ok (.if_icmp .eq 31, 3) := by decide +kernel
theorem d_Mo_invoice_38 : decode prog_14_method_26_code 38 = .ok (.lload_n 3, 1) := by decide +kernel
theorem d_Mo_invoice_39 : decode prog_14_method_26_code 39 = .ok (.lconst 1, 1) := by decide +kernel
theorem d_Mo_invoice_40 : decode prog_14_method_26_code 40 = .ok (.lcmp, 1) := by decide +kernel
theorem d_Mo_invoice_41 : decode prog_14_method_26_code 41 = .ok (.ifCond .lt 25, 3) := by decide +kernel
theorem d_Mo_invoice_44 : decode prog_14_method_26_code 44 = .ok (.lload_n 3, 1) := by decide +kernel
theorem d_Mo_invoice_45 : decode prog_14_method_26_code 45 = .ok (.ldc2_w 176, 3) := by decide +kernel
theorem d_Mo_invoice_48 : decode prog_14_method_26_code 48 = .ok (.lcmp, 1) := by decide +kernel
theorem d_Mo_invoice_49 : decode prog_14_method_26_code 49 = .ok (.ifCond .gt 17, 3) := by decide +kernel
theorem d_Mo_invoice_52 : decode prog_14_method_26_code 52 = .ok (.aload_n 0, 1) := by decide +kernel
theorem d_Mo_invoice_53 : decode prog_14_method_26_code 53 = .ok (.iconst 3, 1) := by decide +kernel
theorem d_Mo_invoice_54 : decode prog_14_method_26_code 54 = .ok (.iload_n 1, 1) := by decide +kernel
theorem d_Mo_invoice_55 : decode prog_14_method_26_code 55 = .ok (.imul, 1) := by decide +kernel
theorem d_Mo_invoice_56 : decode prog_14_method_26_code 56 = .ok (.iload_n 2, 1) := by decide +kernel
theorem d_Mo_invoice_57 : decode prog_14_method_26_code 57 = .ok (.iadd, 1) := by decide +kernel
theorem d_Mo_invoice_58 : decode prog_14_method_26_code 58 = .ok (.iload 5, 2) := by decide +kernel
theorem d_Mo_invoice_60 : decode prog_14_method_26_code 60 = .ok (.invokevirtual 178, 3) := by decide +kernel
theorem d_Mo_invoice_63 : decode prog_14_method_26_code 63 = .ok (.ifCond .eq 17, 3) := by decide +kernel
theorem d_Mo_invoice_80 : decode prog_14_method_26_code 80 = .ok (.iconst 3, 1) := by decide +kernel
theorem d_Mo_invoice_81 : decode prog_14_method_26_code 81 = .ok (.iload_n 1, 1) := by decide +kernel
theorem d_Mo_invoice_82 : decode prog_14_method_26_code 82 = .ok (.imul, 1) := by decide +kernel
theorem d_Mo_invoice_83 : decode prog_14_method_26_code 83 = .ok (.iload_n 2, 1) := by decide +kernel
theorem d_Mo_invoice_84 : decode prog_14_method_26_code 84 = .ok (.iadd, 1) := by decide +kernel
theorem d_Mo_invoice_85 : decode prog_14_method_26_code 85 = .ok (.istore 6, 2) := by decide +kernel
theorem d_Mo_invoice_87 : decode prog_14_method_26_code 87 = .ok (.aload_n 0, 1) := by decide +kernel
theorem d_Mo_invoice_88 : decode prog_14_method_26_code 88 = .ok (.getfield 17, 3) := by decide +kernel
theorem d_Mo_invoice_91 : decode prog_14_method_26_code 91 = .ok (.iload 6, 2) := by decide +kernel
theorem d_Mo_invoice_93 : decode prog_14_method_26_code 93 = .ok (.iaload, 1) := by decide +kernel
theorem d_Mo_invoice_94 : decode prog_14_method_26_code 94 = .ok (.istore 7, 2) := by decide +kernel
theorem d_Mo_invoice_96 : decode prog_14_method_26_code 96 = .ok (.aload_n 0, 1) := by decide +kernel
theorem d_Mo_invoice_97 : decode prog_14_method_26_code 97 = .ok (.getfield 40, 3) := by decide +kernel
theorem d_Mo_invoice_100 : decode prog_14_method_26_code 100 = .ok (.sipush 300, 3) := by decide +kernel
theorem d_Mo_invoice_103 : decode prog_14_method_26_code 103 = .ok (.iload 6, 2) := by decide +kernel
theorem d_Mo_invoice_105 : decode prog_14_method_26_code 105 = .ok (.imul, 1) := by decide +kernel
theorem d_Mo_invoice_106 : decode prog_14_method_26_code 106 = .ok (.iload 7, 2) := by decide +kernel
theorem d_Mo_invoice_108 : decode prog_14_method_26_code 108 = .ok (.iadd, 1) := by decide +kernel
theorem d_Mo_invoice_109 : decode prog_14_method_26_code 109 = .ok (.lload_n 3, 1) := by decide +kernel
theorem d_Mo_invoice_110 : decode prog_14_method_26_code 110 = .ok (.lastore, 1) := by decide +kernel
theorem d_Mo_invoice_111 : decode prog_14_method_26_code 111 = .ok (.aload_n 0, 1) := by decide +kernel
theorem d_Mo_invoice_112 : decode prog_14_method_26_code 112 = .ok (.getfield 44, 3) := by decide +kernel
theorem d_Mo_invoice_115 : decode prog_14_method_26_code 115 = .ok (.sipush 300, 3) := by decide +kernel
theorem d_Mo_invoice_118 : decode prog_14_method_26_code 118 = .ok (.iload 6, 2) := by decide +kernel
theorem d_Mo_invoice_120 : decode prog_14_method_26_code 120 = .ok (.imul, 1) := by decide +kernel
theorem d_Mo_invoice_121 : decode prog_14_method_26_code 121 = .ok (.iload 7, 2) := by decide +kernel
theorem d_Mo_invoice_123 : decode prog_14_method_26_code 123 = .ok (.iadd, 1) := by decide +kernel
theorem d_Mo_invoice_124 : decode prog_14_method_26_code 124 = .ok (.iload 5, 2) := by decide +kernel
theorem d_Mo_invoice_126 : decode prog_14_method_26_code 126 = .ok (.iastore, 1) := by decide +kernel
theorem d_Mo_invoice_127 : decode prog_14_method_26_code 127 = .ok (.aload_n 0, 1) := by decide +kernel
theorem d_Mo_invoice_128 : decode prog_14_method_26_code 128 = .ok (.getfield 17, 3) := by decide +kernel
theorem d_Mo_invoice_131 : decode prog_14_method_26_code 131 = .ok (.iload 6, 2) := by decide +kernel
theorem d_Mo_invoice_133 : decode prog_14_method_26_code 133 = .ok (.dup2, 1) := by decide +kernel
theorem d_Mo_invoice_134 : decode prog_14_method_26_code 134 = .ok (.iaload, 1) := by decide +kernel
theorem d_Mo_invoice_135 : decode prog_14_method_26_code 135 = .ok (.iconst 1, 1) := by decide +kernel
theorem d_Mo_invoice_136 : decode prog_14_method_26_code 136 = .ok (.iadd, 1) := by decide +kernel
theorem d_Mo_invoice_137 : decode prog_14_method_26_code 137 = .ok (.iastore, 1) := by decide +kernel
theorem d_Mo_invoice_138 : decode prog_14_method_26_code 138 = .ok (.aload_n 0, 1) := by decide +kernel
theorem d_Mo_invoice_139 : decode prog_14_method_26_code 139 = .ok (.iload 6, 2) := by decide +kernel
theorem d_Mo_invoice_141 : decode prog_14_method_26_code 141 = .ok (.iload 7, 2) := by decide +kernel
theorem d_Mo_invoice_143 : decode prog_14_method_26_code 143 = .ok (.iconst 0, 1) := by decide +kernel
theorem d_Mo_invoice_144 : decode prog_14_method_26_code 144 = .ok (.invokevirtual 182, 3) := by decide +kernel
theorem d_Mo_invoice_147 : decode prog_14_method_26_code 147 = .ok (.aload_n 0, 1) := by decide +kernel
theorem d_Mo_invoice_148 : decode prog_14_method_26_code 148 = .ok (.iload_n 1, 1) := by decide +kernel
theorem d_Mo_invoice_149 : decode prog_14_method_26_code 149 = .ok (.invokevirtual 136, 3) := by decide +kernel
theorem d_Mo_voidNext_5 : decode prog_14_method_27_code 5 = .ok (.ifCond .eq 44, 3) := by decide +kernel
theorem d_Mo_voidNext_8 : decode prog_14_method_27_code 8 = .ok (.iload_n 2, 1) := by decide +kernel
theorem d_Mo_voidNext_9 : decode prog_14_method_27_code 9 = .ok (.invokestatic 144, 3) := by decide +kernel
theorem d_Mo_voidNext_12 : decode prog_14_method_27_code 12 = .ok (.ifCond .eq 37, 3) := by decide +kernel
theorem d_Mo_voidNext_15 : decode prog_14_method_27_code 15 = .ok (.aload_n 0, 1) := by decide +kernel
theorem d_Mo_voidNext_16 : decode prog_14_method_27_code 16 = .ok (.getfield 17, 3) := by decide +kernel
theorem d_Mo_voidNext_19 : decode prog_14_method_27_code 19 = .ok (.iconst 3, 1) := by decide +kernel
theorem d_Mo_voidNext_20 : decode prog_14_method_27_code 20 = .ok (.iload_n 1, 1) := by decide +kernel
theorem d_Mo_voidNext_21 : decode prog_14_method_27_code 21 = .ok (.imul, 1) := by decide +kernel
theorem d_Mo_voidNext_22 : decode prog_14_method_27_code 22 = .ok (.iload_n 2, 1) := by decide +kernel
theorem d_Mo_voidNext_23 : decode prog_14_method_27_code 23 = .ok (.iadd, 1) := by decide +kernel
theorem d_Mo_voidNext_24 : decode prog_14_method_27_code 24 = .ok (.iaload, 1) := by decide +kernel
theorem d_Mo_voidNext_25 : decode prog_14_method_27_code 25 = .ok (.aload_n 0, 1) := by decide +kernel
theorem d_Mo_voidNext_26 : decode prog_14_method_27_code 26 = .ok (.getfield 13, 3) := by decide +kernel
theorem d_Mo_voidNext_29 : decode prog_14_method_27_code 29 = .ok (.iconst 3, 1) := by decide +kernel
theorem d_Mo_voidNext_30 : decode prog_14_method_27_code 30 = .ok (.iload_n 1, 1) := by decide +kernel
theorem d_Mo_voidNext_31 : decode prog_14_method_27_code 31 = .ok (.imul, 1) := by decide +kernel
theorem d_Mo_voidNext_32 : decode prog_14_method_27_code 32 = .ok (.iload_n 2, 1) := by decide +kernel
theorem d_Mo_voidNext_33 : decode prog_14_method_27_code 33 = .ok (.iadd, 1) := by decide +kernel
theorem d_Mo_voidNext_34 : decode prog_14_method_27_code 34 = .ok (.iaload, 1) := by decide +kernel
theorem d_Mo_voidNext_35 : decode prog_14_method_27_code 35 = .ok (.if_icmp .eq 14, 3) := by decide +kernel
theorem d_Mo_voidNext_38 : decode prog_14_method_27_code 38 = .ok (.iload_n 3, 1) := by decide +kernel
theorem d_Mo_voidNext_39 : decode prog_14_method_27_code 39 = .ok (.iconst 1, 1) := by decide +kernel
theorem d_Mo_voidNext_40 : decode prog_14_method_27_code 40 = .ok (.if_icmp .lt 9, 3) := by decide +kernel
theorem d_Mo_voidNext_43 : decode prog_14_method_27_code 43 = .ok (.iload_n 3, 1) := by decide +kernel
theorem d_Mo_voidNext_44 : decode prog_14_method_27_code 44 = .ok (.bipush 99, 2) := by decide +kernel
theorem d_Mo_voidNext_46 : decode prog_14_method_27_code 46 = .ok (.if_icmp .le 17, 3) := by decide +kernel
theorem d_Mo_voidNext_63 : decode prog_14_method_27_code 63 = .ok (.iconst 3, 1) := by decide +kernel
theorem d_Mo_voidNext_64 : decode prog_14_method_27_code 64 = .ok (.iload_n 1, 1) := by decide +kernel
theorem d_Mo_voidNext_65 : decode prog_14_method_27_code 65 = .ok (.imul, 1) := by decide +kernel
theorem d_Mo_voidNext_66 : decode prog_14_method_27_code 66 = .ok (.iload_n 2, 1) := by decide +kernel
theorem d_Mo_voidNext_67 : decode prog_14_method_27_code 67 = .ok (.iadd, 1) := by decide +kernel
theorem d_Mo_voidNext_68 : decode prog_14_method_27_code 68 = .ok (.istore 4, 2) := by decide +kernel
theorem d_Mo_voidNext_70 : decode prog_14_method_27_code 70 = .ok (.aload_n 0, 1) := by decide +kernel
theorem d_Mo_voidNext_71 : decode prog_14_method_27_code 71 = .ok (.getfield 17, 3) := by decide +kernel
theorem d_Mo_voidNext_74 : decode prog_14_method_27_code 74 = .ok (.iload 4, 2) := by decide +kernel
theorem d_Mo_voidNext_76 : decode prog_14_method_27_code 76 = .ok (.iaload, 1) := by decide +kernel
theorem d_Mo_voidNext_77 : decode prog_14_method_27_code 77 = .ok (.istore 5, 2) := by decide +kernel
theorem d_Mo_voidNext_79 : decode prog_14_method_27_code 79 = .ok (.aload_n 0, 1) := by decide +kernel
theorem d_Mo_voidNext_80 : decode prog_14_method_27_code 80 = .ok (.getfield 40, 3) := by decide +kernel
theorem d_Mo_voidNext_83 : decode prog_14_method_27_code 83 = .ok (.sipush 300, 3) := by decide +kernel
theorem d_Mo_voidNext_86 : decode prog_14_method_27_code 86 = .ok (.iload 4, 2) := by decide +kernel
theorem d_Mo_voidNext_88 : decode prog_14_method_27_code 88 = .ok (.imul, 1) := by decide +kernel
theorem d_Mo_voidNext_89 : decode prog_14_method_27_code 89 = .ok (.iload 5, 2) := by decide +kernel
theorem d_Mo_voidNext_91 : decode prog_14_method_27_code 91 = .ok (.iadd, 1) := by decide +kernel
theorem d_Mo_voidNext_92 : decode prog_14_method_27_code 92 = .ok (.lconst 0, 1) := by decide +kernel
theorem d_Mo_voidNext_93 : decode prog_14_method_27_code 93 = .ok (.lastore, 1) := by decide +kernel
theorem d_Mo_voidNext_94 : decode prog_14_method_27_code 94 = .ok (.aload_n 0, 1) := by decide +kernel
theorem d_Mo_voidNext_95 : decode prog_14_method_27_code 95 = .ok (.getfield 47, 3) := by decide +kernel
theorem d_Mo_voidNext_98 : decode prog_14_method_27_code 98 = .ok (.sipush 300, 3) := by decide +kernel
theorem d_Mo_voidNext_101 : decode prog_14_method_27_code 101 = .ok (.iload 4, 2) := by decide +kernel
theorem d_Mo_voidNext_103 : decode prog_14_method_27_code 103 = .ok (.imul, 1) := by decide +kernel
theorem d_Mo_voidNext_104 : decode prog_14_method_27_code 104 = .ok (.iload 5, 2) := by decide +kernel
theorem d_Mo_voidNext_106 : decode prog_14_method_27_code 106 = .ok (.iadd, 1) := by decide +kernel
theorem d_Mo_voidNext_107 : decode prog_14_method_27_code 107 = .ok (.iload_n 3, 1) := by decide +kernel
theorem d_Mo_voidNext_108 : decode prog_14_method_27_code 108 = .ok (.i2b, 1) := by decide +kernel
theorem d_Mo_voidNext_109 : decode prog_14_method_27_code 109 = .ok (.bastore, 1) := by decide +kernel
theorem d_Mo_voidNext_110 : decode prog_14_method_27_code 110 = .ok (.aload_n 0, 1) := by decide +kernel
theorem d_Mo_voidNext_111 : decode prog_14_method_27_code 111 = .ok (.getfield 17, 3) := by decide +kernel
theorem d_Mo_voidNext_114 : decode prog_14_method_27_code 114 = .ok (.iload 4, 2) := by decide +kernel
theorem d_Mo_voidNext_116 : decode prog_14_method_27_code 116 = .ok (.dup2, 1) := by decide +kernel
theorem d_Mo_voidNext_117 : decode prog_14_method_27_code 117 = .ok (.iaload, 1) := by decide +kernel
theorem d_Mo_voidNext_118 : decode prog_14_method_27_code 118 = .ok (.iconst 1, 1) := by decide +kernel
theorem d_Mo_voidNext_119 : decode prog_14_method_27_code 119 = .ok (.iadd, 1) := by decide +kernel
theorem d_Mo_voidNext_120 : decode prog_14_method_27_code 120 = .ok (.iastore, 1) := by decide +kernel
theorem d_Mo_voidNext_121 : decode prog_14_method_27_code 121 = .ok (.aload_n 0, 1) := by decide +kernel
theorem d_Mo_voidNext_122 : decode prog_14_method_27_code 122 = .ok (.iload 4, 2) := by decide +kernel
theorem d_Mo_voidNext_124 : decode prog_14_method_27_code 124 = .ok (.iload 5, 2) := by decide +kernel
theorem d_Mo_voidNext_126 : decode prog_14_method_27_code 126 = .ok (.iconst 1, 1) := by decide +kernel
theorem d_Mo_voidNext_127 : decode prog_14_method_27_code 127 = .ok (.invokevirtual 182, 3) := by decide +kernel
theorem d_Mo_voidNext_130 : decode prog_14_method_27_code 130 = .ok (.aload_n 0, 1) := by decide +kernel
theorem d_Mo_voidNext_131 : decode prog_14_method_27_code 131 = .ok (.getfield 29, 3) := by decide +kernel
theorem d_Mo_voidNext_134 : decode prog_14_method_27_code 134 = .ok (.sipush 300, 3) := by decide +kernel
theorem d_Mo_voidNext_137 : decode prog_14_method_27_code 137 = .ok (.iload 4, 2) := by decide +kernel
theorem d_Mo_voidNext_139 : decode prog_14_method_27_code 139 = .ok (.imul, 1) := by decide +kernel
theorem d_Mo_voidNext_140 : decode prog_14_method_27_code 140 = .ok (.iload 5, 2) := by decide +kernel
theorem d_Mo_voidNext_142 : decode prog_14_method_27_code 142 = .ok (.iadd, 1) := by decide +kernel
theorem d_Mo_voidNext_143 : decode prog_14_method_27_code 143 = .ok (.saload, 1) := by decide +kernel
theorem d_Mo_voidNext_144 : decode prog_14_method_27_code 144 = .ok (.ireturn, 1) := by decide +kernel
theorem d_Mo_voidNext_49 : decode prog_14_method_27_code 49 = .ok (.aload_n 0, 1) := by decide +kernel
theorem d_Mo_voidNext_50 : decode prog_14_method_27_code 50 = .ok (.getfield 120, 3) := by decide +kernel
theorem d_Mo_voidNext_53 : decode prog_14_method_27_code 53 = .ok (.iconst 1, 1) := by decide +kernel
theorem d_Mo_voidNext_54 : decode prog_14_method_27_code 54 = .ok (.if_icmp .ne 7, 3) := by decide +kernel
theorem d_Mo_voidNext_61 : decode prog_14_method_27_code 61 = .ok (.iconst (-1), 1) := by decide +kernel
theorem d_Mo_voidNext_57 : decode prog_14_method_27_code 57 = .ok (.iconst 0, 1) := by decide +kernel
theorem d_Mo_voidNext_58 : decode prog_14_method_27_code 58 = .ok (.goto 4, 3) := by decide +kernel
theorem d_Mo_voidNext_62 : decode prog_14_method_27_code 62 = .ok (.ireturn, 1) := by decide +kernel
theorem d_Mo_voidUsed_5 : decode prog_14_method_29_code 5 = .ok (.ifCond .eq 23, 3) := by decide +kernel
theorem d_Mo_voidUsed_8 : decode prog_14_method_29_code 8 = .ok (.iload_n 2, 1) := by decide +kernel
theorem d_Mo_voidUsed_9 : decode prog_14_method_29_code 9 = .ok (.invokestatic 144, 3) := by decide +kernel
theorem d_Mo_voidUsed_12 : decode prog_14_method_29_code 12 = .ok (.ifCond .eq 16, 3) := by decide +kernel
theorem d_Mo_voidUsed_15 : decode prog_14_method_29_code 15 = .ok (.iload 4, 2) := by decide +kernel
theorem d_Mo_voidUsed_17 : decode prog_14_method_29_code 17 = .ok (.iconst 1, 1) := by decide +kernel
theorem d_Mo_voidUsed_18 : decode prog_14_method_29_code 18 = .ok (.if_icmp .lt 10, 3) := by decide +kernel
theorem d_Mo_voidUsed_21 : decode prog_14_method_29_code 21 = .ok (.iload 4, 2) := by decide +kernel
theorem d_Mo_voidUsed_23 : decode prog_14_method_29_code 23 = .ok (.bipush 99, 2) := by decide +kernel
theorem d_Mo_voidUsed_25 : decode prog_14_method_29_code 25 = .ok (.if_icmp .le 5, 3) := by decide +kernel
theorem d_Mo_voidUsed_30 : decode prog_14_method_29_code 30 = .ok (.iconst 3, 1) := by decide +kernel
theorem d_Mo_voidUsed_31 : decode prog_14_method_29_code 31 = .ok (.iload_n 1, 1) := by decide +kernel
theorem d_Mo_voidUsed_32 : decode prog_14_method_29_code 32 = .ok (.imul, 1) := by decide +kernel
theorem d_Mo_voidUsed_33 : decode prog_14_method_29_code 33 = .ok (.iload_n 2, 1) := by decide +kernel
theorem d_Mo_voidUsed_34 : decode prog_14_method_29_code 34 = .ok (.iadd, 1) := by decide +kernel
theorem d_Mo_voidUsed_35 : decode prog_14_method_29_code 35 = .ok (.istore 5, 2) := by decide +kernel
theorem d_Mo_voidUsed_37 : decode prog_14_method_29_code 37 = .ok (.aload_n 0, 1) := by decide +kernel
theorem d_Mo_voidUsed_38 : decode prog_14_method_29_code 38 = .ok (.iload 5, 2) := by decide +kernel
theorem d_Mo_voidUsed_40 : decode prog_14_method_29_code 40 = .ok (.iload_n 3, 1) := by decide +kernel
theorem d_Mo_voidUsed_41 : decode prog_14_method_29_code 41 = .ok (.invokevirtual 186, 3) := by decide +kernel
theorem d_Mo_voidUsed_44 : decode prog_14_method_29_code 44 = .ok (.istore 6, 2) := by decide +kernel
theorem d_Mo_voidUsed_46 : decode prog_14_method_29_code 46 = .ok (.iload 6, 2) := by decide +kernel
theorem d_Mo_voidUsed_48 : decode prog_14_method_29_code 48 = .ok (.iconst (-1), 1) := by decide +kernel
theorem d_Mo_voidUsed_49 : decode prog_14_method_29_code 49 = .ok (.if_icmp .eq 21, 3) := by decide +kernel
theorem d_Mo_voidUsed_52 : decode prog_14_method_29_code 52 = .ok (.aload_n 0, 1) := by decide +kernel
theorem d_Mo_voidUsed_53 : decode prog_14_method_29_code 53 = .ok (.getfield 36, 3) := by decide +kernel
theorem d_Mo_voidUsed_56 : decode prog_14_method_29_code 56 = .ok (.sipush 300, 3) := by decide +kernel
theorem d_Mo_voidUsed_59 : decode prog_14_method_29_code 59 = .ok (.iload 5, 2) := by decide +kernel
theorem d_Mo_voidUsed_61 : decode prog_14_method_29_code 61 = .ok (.imul, 1) := by decide +kernel
theorem d_Mo_voidUsed_62 : decode prog_14_method_29_code 62 = .ok (.iload 6, 2) := by decide +kernel
theorem d_Mo_voidUsed_64 : decode prog_14_method_29_code 64 = .ok (.iadd, 1) := by decide +kernel
theorem d_Mo_voidUsed_65 : decode prog_14_method_29_code 65 = .ok (.baload, 1) := by decide +kernel
theorem d_Mo_voidUsed_66 : decode prog_14_method_29_code 66 = .ok (.iconst 2, 1) := by decide +kernel
theorem d_Mo_voidUsed_67 : decode prog_14_method_29_code 67 = .ok (.if_icmp .eq 5, 3) := by decide +kernel
theorem d_Mo_voidUsed_72 : decode prog_14_method_29_code 72 = .ok (.aload_n 0, 1) := by decide +kernel
theorem d_Mo_voidUsed_73 : decode prog_14_method_29_code 73 = .ok (.getfield 47, 3) := by decide +kernel
theorem d_Mo_voidUsed_76 : decode prog_14_method_29_code 76 = .ok (.sipush 300, 3) := by decide +kernel
theorem d_Mo_voidUsed_79 : decode prog_14_method_29_code 79 = .ok (.iload 5, 2) := by decide +kernel
theorem d_Mo_voidUsed_81 : decode prog_14_method_29_code 81 = .ok (.imul, 1) := by decide +kernel
theorem d_Mo_voidUsed_82 : decode prog_14_method_29_code 82 = .ok (.iload 6, 2) := by decide +kernel
theorem d_Mo_voidUsed_84 : decode prog_14_method_29_code 84 = .ok (.iadd, 1) := by decide +kernel
theorem d_Mo_voidUsed_85 : decode prog_14_method_29_code 85 = .ok (.iload 4, 2) := by decide +kernel
theorem d_Mo_voidUsed_87 : decode prog_14_method_29_code 87 = .ok (.i2b, 1) := by decide +kernel
theorem d_Mo_voidUsed_88 : decode prog_14_method_29_code 88 = .ok (.bastore, 1) := by decide +kernel
theorem d_Mo_voidUsed_89 : decode prog_14_method_29_code 89 = .ok (.aload_n 0, 1) := by decide +kernel
theorem d_Mo_voidUsed_90 : decode prog_14_method_29_code 90 = .ok (.iload 5, 2) := by decide +kernel
theorem d_Mo_voidUsed_92 : decode prog_14_method_29_code 92 = .ok (.iload 6, 2) := by decide +kernel
theorem d_Mo_voidUsed_94 : decode prog_14_method_29_code 94 = .ok (.iconst 1, 1) := by decide +kernel
theorem d_Mo_voidUsed_95 : decode prog_14_method_29_code 95 = .ok (.invokevirtual 182, 3) := by decide +kernel
theorem d_Mo_voidUsed_98 : decode prog_14_method_29_code 98 = .ok (.iconst 1, 1) := by decide +kernel
theorem d_Mo_voidUsed_99 : decode prog_14_method_29_code 99 = .ok (.ireturn, 1) := by decide +kernel
theorem d_Mo_voidUsed_28 : decode prog_14_method_29_code 28 = .ok (.iconst 0, 1) := by decide +kernel
theorem d_Mo_voidUsed_29 : decode prog_14_method_29_code 29 = .ok (.ireturn, 1) := by decide +kernel
theorem d_Mo_voidUsed_70 : decode prog_14_method_29_code 70 = .ok (.iconst 0, 1) := by decide +kernel
theorem d_Mo_voidUsed_71 : decode prog_14_method_29_code 71 = .ok (.ireturn, 1) := by decide +kernel
theorem d_Mo_crash_10 : decode prog_14_method_33_code 10 = .ok (.ifCond .eq 12, 3) := by decide +kernel
theorem d_Mo_crash_13 : decode prog_14_method_33_code 13 = .ok (.aload_n 0, 1) := by decide +kernel
theorem d_Mo_crash_14 : decode prog_14_method_33_code 14 = .ok (.getfield 7, 3) := by decide +kernel
theorem d_Mo_crash_17 : decode prog_14_method_33_code 17 = .ok (.iload_n 1, 1) := by decide +kernel
theorem d_Mo_crash_18 : decode prog_14_method_33_code 18 = .ok (.baload, 1) := by decide +kernel
theorem d_Mo_crash_19 : decode prog_14_method_33_code 19 = .ok (.ifCond .eq 5, 3) := by decide +kernel
theorem d_Mo_crash_24 : decode prog_14_method_33_code 24 = .ok (.aload_n 0, 1) := by decide +kernel
theorem d_Mo_crash_25 : decode prog_14_method_33_code 25 = .ok (.getfield 7, 3) := by decide +kernel
theorem d_Mo_crash_28 : decode prog_14_method_33_code 28 = .ok (.iload_n 1, 1) := by decide +kernel
theorem d_Mo_crash_29 : decode prog_14_method_33_code 29 = .ok (.iconst 1, 1) := by decide +kernel
theorem d_Mo_crash_30 : decode prog_14_method_33_code 30 = .ok (.bastore, 1) := by decide +kernel
theorem d_Mo_crash_31 : decode prog_14_method_33_code 31 = .ok (.iconst 1, 1) := by decide +kernel
theorem d_Mo_crash_32 : decode prog_14_method_33_code 32 = .ok (.ireturn, 1) := by decide +kernel
theorem d_Mo_crash_22 : decode prog_14_method_33_code 22 = .ok (.iconst 0, 1) := by decide +kernel
theorem d_Mo_crash_23 : decode prog_14_method_33_code 23 = .ok (.ireturn, 1) := by decide +kernel
theorem d_Mo_mount_39 : decode prog_14_method_34_code 39 = .ok (.aload_n 0, 1) := by decide +kernel
theorem d_Mo_mount_40 : decode prog_14_method_34_code 40 = .ok (.iconst 1, 1) := by decide +kernel
theorem d_Mo_mount_41 : decode prog_14_method_34_code 41 = .ok (.iconst 0, 1) := by decide +kernel
theorem d_Mo_mount_42 : decode prog_14_method_34_code 42 = .ok (.invokevirtual 127, 3) := by decide +kernel
theorem d_Mo_mount_45 : decode prog_14_method_34_code 45 = .ok (.goto 12, 3) := by decide +kernel
theorem d_Mo_mount_22 : decode prog_14_method_34_code 22 = .ok (.iconst 0, 1) := by decide +kernel
theorem d_Mo_mount_23 : decode prog_14_method_34_code 23 = .ok (.ireturn, 1) := by decide +kernel
theorem d_Mo_mount_57 : decode prog_14_method_34_code 57 = .ok (.iconst 1, 1) := by decide +kernel
theorem d_Mo_mount_58 : decode prog_14_method_34_code 58 = .ok (.ireturn, 1) := by decide +kernel
theorem d_Mo_letter_10 : decode prog_14_method_38_code 10 = .ok (.ifCond .eq 26, 3) := by decide +kernel
theorem d_Mo_letter_13 : decode prog_14_method_38_code 13 = .ok (.iload_n 2, 1) := by decide +kernel
theorem d_Mo_letter_14 : decode prog_14_method_38_code 14 = .ok (.ifCond .lt 22, 3) := by decide +kernel
theorem d_Mo_letter_17 : decode prog_14_method_38_code 17 = .ok (.iload_n 2, 1) := by decide +kernel
theorem d_Mo_letter_18 : decode prog_14_method_38_code 18 = .ok (.iconst 3, 1) := by decide +kernel
theorem d_Mo_letter_19 : decode prog_14_method_38_code 19 = .ok (.if_icmp .ge 17, 3) := by decide +kernel
theorem d_Mo_letter_22 : decode prog_14_method_38_code 22 = .ok (.aload_n 0, 1) := by decide +kernel
theorem d_Mo_letter_23 : decode prog_14_method_38_code 23 = .ok (.getfield 110, 3) := by decide +kernel
theorem d_Mo_letter_26 : decode prog_14_method_38_code 26 = .ok (.bipush 8, 2) := by decide +kernel
theorem d_Mo_letter_28 : decode prog_14_method_38_code 28 = .ok (.iload_n 1, 1) := by decide +kernel
theorem d_Mo_letter_29 : decode prog_14_method_38_code 29 = .ok (.imul, 1) := by decide +kernel
theorem d_Mo_letter_30 : decode prog_14_method_38_code 30 = .ok (.iload_n 2, 1) := by decide +kernel
theorem d_Mo_letter_31 : decode prog_14_method_38_code 31 = .ok (.iadd, 1) := by decide +kernel
theorem d_Mo_letter_32 : decode prog_14_method_38_code 32 = .ok (.iaload, 1) := by decide +kernel
theorem d_Mo_letter_33 : decode prog_14_method_38_code 33 = .ok (.goto 4, 3) := by decide +kernel
theorem d_Mo_letter_36 : decode prog_14_method_38_code 36 = .ok (.iconst (-1), 1) := by decide +kernel
theorem d_Mo_letter_37 : decode prog_14_method_38_code 37 = .ok (.ireturn, 1) := by decide +kernel
theorem d_Mo_deliver_51 : decode prog_14_method_39_code 51 = .ok (.aload_n 0, 1) := by decide +kernel
theorem d_Mo_deliver_52 : decode prog_14_method_39_code 52 = .ok (.getfield 113, 3) := by decide +kernel
theorem d_Mo_deliver_55 : decode prog_14_method_39_code 55 = .ok (.iconst 0, 1) := by decide +kernel
theorem d_Mo_deliver_56 : decode prog_14_method_39_code 56 = .ok (.iaload, 1) := by decide +kernel
theorem d_Mo_deliver_57 : decode prog_14_method_39_code 57 = .ok (.iconst 3, 1) := by decide +kernel
theorem d_Mo_deliver_58 : decode prog_14_method_39_code 58 = .ok (.if_icmp .ne 54, 3) := by decide +kernel
theorem d_Mo_deliver_112 : decode prog_14_method_39_code 112 = .ok (.aload_n 0, 1) := by decide +kernel
theorem d_Mo_deliver_113 : decode prog_14_method_39_code 113 = .ok (.getfield 7, 3) := by decide +kernel
theorem d_Mo_deliver_116 : decode prog_14_method_39_code 116 = .ok (.aload_n 0, 1) := by decide +kernel
theorem d_Mo_deliver_117 : decode prog_14_method_39_code 117 = .ok (.getfield 116, 3) := by decide +kernel
theorem d_Mo_deliver_120 : decode prog_14_method_39_code 120 = .ok (.baload, 1) := by decide +kernel
theorem d_Mo_deliver_121 : decode prog_14_method_39_code 121 = .ok (.ifCond .ne 7, 3) := by decide +kernel
theorem d_Mo_deliver_124 : decode prog_14_method_39_code 124 = .ok (.aload_n 0, 1) := by decide +kernel
theorem d_Mo_deliver_125 : decode prog_14_method_39_code 125 = .ok (.invokevirtual 202, 3) := by decide +kernel
theorem d_Mo_comes_26 : decode prog_14_method_17_code 26 = .ok (.aload_n 0, 1) := by decide +kernel
theorem d_Mo_comes_27 : decode prog_14_method_17_code 27 = .ok (.getfield 98, 3) := by decide +kernel
theorem d_Mo_comes_30 : decode prog_14_method_17_code 30 = .ok (.iload_n 1, 1) := by decide +kernel
theorem d_Mo_comes_31 : decode prog_14_method_17_code 31 = .ok (.iload_n 2, 1) := by decide +kernel
theorem d_Mo_comes_32 : decode prog_14_method_17_code 32 = .ok (.iastore, 1) := by decide +kernel
theorem d_Mo_comes_33 : decode prog_14_method_17_code 33 = .ok (.aload_n 0, 1) := by decide +kernel
theorem d_Mo_comes_34 : decode prog_14_method_17_code 34 = .ok (.getfield 95, 3) := by decide +kernel
theorem d_Mo_comes_37 : decode prog_14_method_17_code 37 = .ok (.iload_n 1, 1) := by decide +kernel
theorem d_Mo_comes_38 : decode prog_14_method_17_code 38 = .ok (.baload, 1) := by decide +kernel
theorem d_Mo_comes_39 : decode prog_14_method_17_code 39 = .ok (.ifCond .eq 13, 3) := by decide +kernel
theorem d_Mo_comes_52 : decode prog_14_method_17_code 52 = .ok (.aload_n 0, 1) := by decide +kernel
theorem d_Mo_comes_53 : decode prog_14_method_17_code 53 = .ok (.getfield 113, 3) := by decide +kernel
theorem d_Mo_comes_56 : decode prog_14_method_17_code 56 = .ok (.iconst 0, 1) := by decide +kernel
theorem d_Mo_comes_57 : decode prog_14_method_17_code 57 = .ok (.iaload, 1) := by decide +kernel
theorem d_Mo_comes_58 : decode prog_14_method_17_code 58 = .ok (.iconst 1, 1) := by decide +kernel
theorem d_Mo_comes_59 : decode prog_14_method_17_code 59 = .ok (.if_icmp .ne 23, 3) := by decide +kernel
theorem d_Mo_comes_82 : decode prog_14_method_17_code 82 = .ok (.aload_n 0, 1) := by decide +kernel
theorem d_Mo_comes_83 : decode prog_14_method_17_code 83 = .ok (.iload_n 1, 1) := by decide +kernel
theorem d_Mo_comes_84 : decode prog_14_method_17_code 84 = .ok (.aload_n 0, 1) := by decide +kernel
theorem d_Mo_comes_85 : decode prog_14_method_17_code 85 = .ok (.getfield 113, 3) := by decide +kernel
theorem d_Mo_comes_88 : decode prog_14_method_17_code 88 = .ok (.iconst 3, 1) := by decide +kernel
theorem d_Mo_comes_89 : decode prog_14_method_17_code 89 = .ok (.iaload, 1) := by decide +kernel
theorem d_Mo_comes_90 : decode prog_14_method_17_code 90 = .ok (.aload_n 0, 1) := by decide +kernel
theorem d_Mo_comes_91 : decode prog_14_method_17_code 91 = .ok (.getfield 113, 3) := by decide +kernel
theorem d_Mo_comes_94 : decode prog_14_method_17_code 94 = .ok (.iconst 5, 1) := by decide +kernel
theorem d_Mo_comes_95 : decode prog_14_method_17_code 95 = .ok (.iaload, 1) := by decide +kernel
theorem d_Mo_comes_96 : decode prog_14_method_17_code 96 = .ok (.aload_n 0, 1) := by decide +kernel
theorem d_Mo_comes_97 : decode prog_14_method_17_code 97 = .ok (.getfield 113, 3) := by decide +kernel
theorem d_Mo_comes_100 : decode prog_14_method_17_code 100 = .ok (.iconst 4, 1) := by decide +kernel
theorem d_Mo_comes_101 : decode prog_14_method_17_code 101 = .ok (.iaload, 1) := by decide +kernel
theorem d_Mo_comes_102 : decode prog_14_method_17_code 102 = .ok (.invokevirtual 156, 3) := by decide +kernel
theorem d_Mo_comes_62 : decode prog_14_method_17_code 62 = .ok (.aload_n 0, 1) := by decide +kernel
theorem d_Mo_comes_63 : decode prog_14_method_17_code 63 = .ok (.iload_n 1, 1) := by decide +kernel
theorem d_Mo_comes_64 : decode prog_14_method_17_code 64 = .ok (.aload_n 0, 1) := by decide +kernel
theorem d_Mo_comes_65 : decode prog_14_method_17_code 65 = .ok (.getfield 113, 3) := by decide +kernel
theorem d_Mo_comes_68 : decode prog_14_method_17_code 68 = .ok (.iconst 3, 1) := by decide +kernel
theorem d_Mo_comes_69 : decode prog_14_method_17_code 69 = .ok (.iaload, 1) := by decide +kernel
theorem d_Mo_comes_70 : decode prog_14_method_17_code 70 = .ok (.aload_n 0, 1) := by decide +kernel
theorem d_Mo_comes_71 : decode prog_14_method_17_code 71 = .ok (.getfield 113, 3) := by decide +kernel
theorem d_Mo_comes_74 : decode prog_14_method_17_code 74 = .ok (.iconst 4, 1) := by decide +kernel
theorem d_Mo_comes_75 : decode prog_14_method_17_code 75 = .ok (.iaload, 1) := by decide +kernel
theorem d_Mo_comes_76 : decode prog_14_method_17_code 76 = .ok (.invokevirtual 152, 3) := by decide +kernel
theorem d_Mo_comes_79 : decode prog_14_method_17_code 79 = .ok (.goto 26, 3) := by decide +kernel
theorem d_Mo_comes_42 : decode prog_14_method_17_code 42 = .ok (.aload_n 0, 1) := by decide +kernel
theorem d_Mo_comes_43 : decode prog_14_method_17_code 43 = .ok (.getfield 101, 3) := by decide +kernel
theorem d_Mo_comes_46 : decode prog_14_method_17_code 46 = .ok (.iload_n 1, 1) := by decide +kernel
theorem d_Mo_comes_47 : decode prog_14_method_17_code 47 = .ok (.iconst 3, 1) := by decide +kernel
theorem d_Mo_comes_48 : decode prog_14_method_17_code 48 = .ok (.iastore, 1) := by decide +kernel
theorem d_Mo_comes_49 : decode prog_14_method_17_code 49 = .ok (.goto 56, 3) := by decide +kernel
theorem d_Mo_comes_136 : decode prog_14_method_17_code 136 = .ok (.return_, 1) := by decide +kernel
theorem d_Mo_comes_105 : decode prog_14_method_17_code 105 = .ok (.aload_n 0, 1) := by decide +kernel
theorem d_Mo_comes_106 : decode prog_14_method_17_code 106 = .ok (.aload_n 0, 1) := by decide +kernel
theorem d_Mo_comes_107 : decode prog_14_method_17_code 107 = .ok (.getfield 116, 3) := by decide +kernel
theorem d_Mo_comes_110 : decode prog_14_method_17_code 110 = .ok (.invokevirtual 136, 3) := by decide +kernel
theorem d_Mo_fate_34 : decode prog_14_method_43_code 34 = .ok (.ifCond .eq 17, 3) := by decide +kernel
theorem d_Mo_fate_37 : decode prog_14_method_43_code 37 = .ok (.aload_n 0, 1) := by decide +kernel
theorem d_Mo_fate_38 : decode prog_14_method_43_code 38 = .ok (.getfield 80, 3) := by decide +kernel
theorem d_Mo_fate_41 : decode prog_14_method_43_code 41 = .ok (.aload_n 0, 1) := by decide +kernel
theorem d_Mo_fate_42 : decode prog_14_method_43_code 42 = .ok (.iload_n 1, 1) := by decide +kernel
theorem d_Mo_fate_43 : decode prog_14_method_43_code 43 = .ok (.iload_n 2, 1) := by decide +kernel
theorem d_Mo_fate_44 : decode prog_14_method_43_code 44 = .ok (.invokevirtual 148, 3) := by decide +kernel
theorem d_Mo_fate_47 : decode prog_14_method_43_code 47 = .ok (.baload, 1) := by decide +kernel
theorem d_Mo_fate_48 : decode prog_14_method_43_code 48 = .ok (.goto 4, 3) := by decide +kernel
theorem d_Mo_fate_51 : decode prog_14_method_43_code 51 = .ok (.iconst 0, 1) := by decide +kernel
theorem d_Mo_fate_52 : decode prog_14_method_43_code 52 = .ok (.ireturn, 1) := by decide +kernel
theorem d_Mo_total_49 : decode prog_14_method_46_code 49 = .ok (.goto 4, 3) := by decide +kernel
theorem d_Mo_total_52 : decode prog_14_method_46_code 52 = .ok (.lconst 0, 1) := by decide +kernel
theorem d_Mo_total_53 : decode prog_14_method_46_code 53 = .ok (.lreturn, 1) := by decide +kernel
theorem d_Mo_listByte_236 : decode prog_14_method_52_code 236 = .ok (.aload_n 0, 1) := by decide +kernel
theorem d_Mo_listByte_237 : decode prog_14_method_52_code 237 = .ok (.bipush 32, 2) := by decide +kernel
theorem d_Mo_listByte_239 : decode prog_14_method_52_code 239 = .ok (.invokevirtual 223, 3) := by decide +kernel
theorem d_Mo_listByte_242 : decode prog_14_method_52_code 242 = .ok (.aload_n 0, 1) := by decide +kernel
theorem d_Mo_listByte_243 : decode prog_14_method_52_code 243 = .ok (.aload_n 0, 1) := by decide +kernel
theorem d_Mo_listByte_244 : decode prog_14_method_52_code 244 = .ok (.iload_n 1, 1) := by decide +kernel
theorem d_Mo_listByte_245 : decode prog_14_method_52_code 245 = .ok (.bipush 6, 2) := by decide +kernel
theorem d_Mo_listByte_247 : decode prog_14_method_52_code 247 = .ok (.invokevirtual 210, 3) := by decide +kernel
theorem d_Mo_listByte_250 : decode prog_14_method_52_code 250 = .ok (.invokevirtual 238, 3) := by decide +kernel
theorem d_Mo_digits_12 : decode prog_14_method_50_code 12 = .ok (.lload_n 1, 1) := by decide +kernel
theorem d_Mo_digits_13 : decode prog_14_method_50_code 13 = .ok (.lconst 0, 1) := by decide +kernel
theorem d_Mo_digits_14 : decode prog_14_method_50_code 14 = .ok (.lcmp, 1) := by decide +kernel
theorem d_Mo_digits_15 : decode prog_14_method_50_code 15 = .ok (.ifCond .ge 8, 3) := by decide +kernel
theorem d_Mo_digits_23 : decode prog_14_method_50_code 23 = .ok (.lload_n 1, 1) := by decide +kernel
theorem d_Mo_digits_18 : decode prog_14_method_50_code 18 = .ok (.lload_n 1, 1) := by decide +kernel
theorem d_Mo_digits_19 : decode prog_14_method_50_code 19 = .ok (.lneg, 1) := by decide +kernel
theorem d_Mo_digits_20 : decode prog_14_method_50_code 20 = .ok (.goto 4, 3) := by decide +kernel
theorem d_Mo_digits_24 : decode prog_14_method_50_code 24 = .ok (.lstore_n 3, 1) := by decide +kernel
theorem d_Mo_digits_25 : decode prog_14_method_50_code 25 = .ok (.lconst 1, 1) := by decide +kernel
theorem d_Mo_digits_26 : decode prog_14_method_50_code 26 = .ok (.lstore 5, 2) := by decide +kernel
theorem d_Mo_digits_28 : decode prog_14_method_50_code 28 = .ok (.lload_n 3, 1) := by decide +kernel
theorem d_Mo_digits_29 : decode prog_14_method_50_code 29 = .ok (.lload 5, 2) := by decide +kernel
theorem d_Mo_digits_31 : decode prog_14_method_50_code 31 = .ok (.ldiv, 1) := by decide +kernel
theorem d_Mo_digits_32 : decode prog_14_method_50_code 32 = .ok (.ldc2_w 226, 3) := by decide +kernel
theorem d_Mo_digits_35 : decode prog_14_method_50_code 35 = .ok (.lcmp, 1) := by decide +kernel
theorem d_Mo_digits_36 : decode prog_14_method_50_code 36 = .ok (.ifCond .le 14, 3) := by decide +kernel
theorem d_Mo_digits_39 : decode prog_14_method_50_code 39 = .ok (.lload 5, 2) := by decide +kernel
theorem d_Mo_digits_41 : decode prog_14_method_50_code 41 = .ok (.ldc2_w 228, 3) := by decide +kernel
theorem d_Mo_digits_44 : decode prog_14_method_50_code 44 = .ok (.lmul, 1) := by decide +kernel
theorem d_Mo_digits_45 : decode prog_14_method_50_code 45 = .ok (.lstore 5, 2) := by decide +kernel
theorem d_Mo_digits_47 : decode prog_14_method_50_code 47 = .ok (.goto (-19), 3) := by decide +kernel
theorem d_Mo_digits_50 : decode prog_14_method_50_code 50 = .ok (.lload 5, 2) := by decide +kernel
theorem d_Mo_digits_52 : decode prog_14_method_50_code 52 = .ok (.lconst 0, 1) := by decide +kernel
theorem d_Mo_digits_53 : decode prog_14_method_50_code 53 = .ok (.lcmp, 1) := by decide +kernel
theorem d_Mo_digits_54 : decode prog_14_method_50_code 54 = .ok (.ifCond .le 31, 3) := by decide +kernel
theorem d_Mo_digits_85 : decode prog_14_method_50_code 85 = .ok (.return_, 1) := by decide +kernel
theorem d_Mo_digits_57 : decode prog_14_method_50_code 57 = .ok (.aload_n 0, 1) := by decide +kernel
theorem d_Mo_digits_58 : decode prog_14_method_50_code 58 = .ok (.ldc2_w 230, 3) := by decide +kernel
theorem d_Mo_digits_61 : decode prog_14_method_50_code 61 = .ok (.lload_n 3, 1) := by decide +kernel
theorem d_Mo_digits_62 : decode prog_14_method_50_code 62 = .ok (.lload 5, 2) := by decide +kernel
theorem d_Mo_digits_64 : decode prog_14_method_50_code 64 = .ok (.ldiv, 1) := by decide +kernel
theorem d_Mo_digits_65 : decode prog_14_method_50_code 65 = .ok (.ldc2_w 228, 3) := by decide +kernel
theorem d_Mo_digits_68 : decode prog_14_method_50_code 68 = .ok (.lrem, 1) := by decide +kernel
theorem d_Mo_digits_69 : decode prog_14_method_50_code 69 = .ok (.ladd, 1) := by decide +kernel
theorem d_Mo_digits_70 : decode prog_14_method_50_code 70 = .ok (.l2i, 1) := by decide +kernel
theorem d_Mo_digits_71 : decode prog_14_method_50_code 71 = .ok (.invokevirtual 223, 3) := by decide +kernel
theorem d_Mo_digits_74 : decode prog_14_method_50_code 74 = .ok (.lload 5, 2) := by decide +kernel
theorem d_Mo_digits_76 : decode prog_14_method_50_code 76 = .ok (.ldc2_w 228, 3) := by decide +kernel
theorem d_Mo_digits_79 : decode prog_14_method_50_code 79 = .ok (.ldiv, 1) := by decide +kernel
theorem d_Mo_digits_80 : decode prog_14_method_50_code 80 = .ok (.lstore 5, 2) := by decide +kernel
theorem d_Mo_digits_82 : decode prog_14_method_50_code 82 = .ok (.goto (-32), 3) := by decide +kernel
theorem d_Mo_money_9 : decode prog_14_method_51_code 9 = .ok (.aload_n 0, 1) := by decide +kernel
theorem d_Mo_money_10 : decode prog_14_method_51_code 10 = .ok (.bipush 46, 2) := by decide +kernel
theorem d_Mo_money_12 : decode prog_14_method_51_code 12 = .ok (.invokevirtual 223, 3) := by decide +kernel
theorem d_Mo_money_15 : decode prog_14_method_51_code 15 = .ok (.aload_n 0, 1) := by decide +kernel
theorem d_Mo_money_16 : decode prog_14_method_51_code 16 = .ok (.ldc2_w 230, 3) := by decide +kernel
theorem d_Mo_money_19 : decode prog_14_method_51_code 19 = .ok (.lload_n 1, 1) := by decide +kernel
theorem d_Mo_money_20 : decode prog_14_method_51_code 20 = .ok (.ldc2_w 228, 3) := by decide +kernel
theorem d_Mo_money_23 : decode prog_14_method_51_code 23 = .ok (.ldiv, 1) := by decide +kernel
theorem d_Mo_money_24 : decode prog_14_method_51_code 24 = .ok (.ldc2_w 228, 3) := by decide +kernel
theorem d_Mo_money_27 : decode prog_14_method_51_code 27 = .ok (.lrem, 1) := by decide +kernel
theorem d_Mo_money_28 : decode prog_14_method_51_code 28 = .ok (.ladd, 1) := by decide +kernel
theorem d_Mo_money_29 : decode prog_14_method_51_code 29 = .ok (.l2i, 1) := by decide +kernel
theorem d_Mo_money_30 : decode prog_14_method_51_code 30 = .ok (.invokevirtual 223, 3) := by decide +kernel
theorem d_Mo_money_33 : decode prog_14_method_51_code 33 = .ok (.aload_n 0, 1) := by decide +kernel
theorem d_Mo_money_34 : decode prog_14_method_51_code 34 = .ok (.ldc2_w 230, 3) := by decide +kernel
theorem d_Mo_money_37 : decode prog_14_method_51_code 37 = .ok (.lload_n 1, 1) := by decide +kernel
theorem d_Mo_money_38 : decode prog_14_method_51_code 38 = .ok (.ldc2_w 228, 3) := by decide +kernel
theorem d_Mo_money_41 : decode prog_14_method_51_code 41 = .ok (.lrem, 1) := by decide +kernel
theorem d_Mo_money_42 : decode prog_14_method_51_code 42 = .ok (.ladd, 1) := by decide +kernel
theorem d_Mo_money_43 : decode prog_14_method_51_code 43 = .ok (.l2i, 1) := by decide +kernel
theorem d_Mo_money_44 : decode prog_14_method_51_code 44 = .ok (.invokevirtual 223, 3) := by decide +kernel
theorem d_Mo_money_47 : decode prog_14_method_51_code 47 = .ok (.aload_n 0, 1) := by decide +kernel
theorem d_Mo_money_48 : decode prog_14_method_51_code 48 = .ok (.bipush 32, 2) := by decide +kernel
theorem d_Mo_money_50 : decode prog_14_method_51_code 50 = .ok (.invokevirtual 223, 3) := by decide +kernel
theorem d_Mo_money_53 : decode prog_14_method_51_code 53 = .ok (.return_, 1) := by decide +kernel
theorem d_No_init_59 : decode prog_1_method_1_code 59 = .ok (.putfield 30, 3) := by decide +kernel
theorem d_No_init_62 : decode prog_1_method_1_code 62 = .ok (.aload_n 0, 1) := by decide +kernel
theorem d_No_init_63 : decode prog_1_method_1_code 63 = .ok (.new 34, 3) := by decide +kernel
theorem d_No_init_66 : decode prog_1_method_1_code 66 = .ok (.dup, 1) := by decide +kernel
theorem d_No_init_67 : decode prog_1_method_1_code 67 = .ok (.invokespecial 36, 3) := by decide +kernel
theorem d_ArrayList_init_4 : decode prog_31_method_2_code 4 = .ok (.aload_n 0, 1) := by decide +kernel
theorem d_ArrayList_init_5 : decode prog_31_method_2_code 5 = .ok (.getstatic 39, 3) := by decide +kernel
theorem d_ArrayList_init_8 : decode prog_31_method_2_code 8 = .ok (.putfield 9, 3) := by decide +kernel
theorem d_ArrayList_init_11 : decode prog_31_method_2_code 11 = .ok (.return_, 1) := by decide +kernel
theorem d_Branch_save_16 : decode prog_4_method_2_code 16 = .ok (.iinc 1 1, 3) := by decide +kernel
theorem d_Branch_save_19 : decode prog_4_method_2_code 19 = .ok (.goto (-17), 3) := by decide +kernel
theorem d_ArrayList_grow2_30 : decode prog_31_method_6_code 30 = .ok (.istore_n 3, 1) := by decide +kernel
theorem d_ArrayList_grow2_31 : decode prog_31_method_6_code 31 = .ok (.aload_n 0, 1) := by decide +kernel
theorem d_ArrayList_grow2_32 : decode prog_31_method_6_code 32 = .ok (.aload_n 0, 1) := by decide +kernel
theorem d_ArrayList_grow2_33 : decode prog_31_method_6_code 33 = .ok (.getfield 9, 3) := by decide +kernel
theorem d_ArrayList_grow2_36 : decode prog_31_method_6_code 36 = .ok (.iload_n 3, 1) := by decide +kernel
theorem d_ArrayList_grow2_37 : decode prog_31_method_6_code 37 = .ok (.invokestatic 66, 3) := by decide +kernel
theorem d_ArrayList_grow2_40 : decode prog_31_method_6_code 40 = .ok (.dup_x1, 1) := by decide +kernel
theorem d_ArrayList_grow2_41 : decode prog_31_method_6_code 41 = .ok (.putfield 9, 3) := by decide +kernel
theorem d_ArrayList_grow2_44 : decode prog_31_method_6_code 44 = .ok (.areturn, 1) := by decide +kernel
theorem d_ArrayList_remove_8 : decode prog_31_method_29_code 8 = .ok (.pop, 1) := by decide +kernel
theorem d_ArrayList_remove_9 : decode prog_31_method_29_code 9 = .ok (.aload_n 0, 1) := by decide +kernel
theorem d_ArrayList_remove_10 : decode prog_31_method_29_code 10 = .ok (.getfield 9, 3) := by decide +kernel
theorem d_ArrayList_remove_13 : decode prog_31_method_29_code 13 = .ok (.astore_n 2, 1) := by decide +kernel
theorem d_ArrayList_remove_14 : decode prog_31_method_29_code 14 = .ok (.aload_n 2, 1) := by decide +kernel
theorem d_ArrayList_remove_15 : decode prog_31_method_29_code 15 = .ok (.iload_n 1, 1) := by decide +kernel
theorem d_ArrayList_remove_16 : decode prog_31_method_29_code 16 = .ok (.aaload, 1) := by decide +kernel
theorem d_ArrayList_remove_17 : decode prog_31_method_29_code 17 = .ok (.astore_n 3, 1) := by decide +kernel
theorem d_ArrayList_remove_18 : decode prog_31_method_29_code 18 = .ok (.aload_n 0, 1) := by decide +kernel
theorem d_ArrayList_remove_19 : decode prog_31_method_29_code 19 = .ok (.aload_n 2, 1) := by decide +kernel
theorem d_ArrayList_remove_20 : decode prog_31_method_29_code 20 = .ok (.iload_n 1, 1) := by decide +kernel
theorem d_ArrayList_remove_21 : decode prog_31_method_29_code 21 = .ok (.invokevirtual 144, 3) := by decide +kernel
theorem d_ArrayList_remove_24 : decode prog_31_method_29_code 24 = .ok (.aload_n 3, 1) := by decide +kernel
theorem d_ArrayList_remove_25 : decode prog_31_method_29_code 25 = .ok (.areturn, 1) := by decide +kernel
theorem d_No_flush_23 : decode prog_1_method_13_code 23 = .ok (.iconst 1, 1) := by decide +kernel
theorem d_No_flush_24 : decode prog_1_method_13_code 24 = .ok (.ireturn, 1) := by decide +kernel
theorem d_No_flush_17 : decode prog_1_method_13_code 17 = .ok (.iconst 0, 1) := by decide +kernel
theorem d_No_flush_18 : decode prog_1_method_13_code 18 = .ok (.ireturn, 1) := by decide +kernel
theorem d_No_mailAt_23 : decode prog_1_method_29_code 23 = .ok (.checkcast 157, 3) := by decide +kernel
theorem d_No_mailAt_26 : decode prog_1_method_29_code 26 = .ok (.goto 4, 3) := by decide +kernel
theorem d_No_mailAt_29 : decode prog_1_method_29_code 29 = .ok (.aconst_null, 1) := by decide +kernel
theorem d_No_mailAt_30 : decode prog_1_method_29_code 30 = .ok (.areturn, 1) := by decide +kernel
theorem d_No_deliver_5 : decode prog_1_method_16_code 5 = .ok (.astore_n 2, 1) := by decide +kernel
theorem d_No_deliver_6 : decode prog_1_method_16_code 6 = .ok (.aload_n 2, 1) := by decide +kernel
theorem d_No_deliver_7 : decode prog_1_method_16_code 7 = .ok (.ifnonnull 5, 3) := by decide +kernel
theorem d_No_deliver_10 : decode prog_1_method_16_code 10 = .ok (.iconst 0, 1) := by decide +kernel
theorem d_No_deliver_11 : decode prog_1_method_16_code 11 = .ok (.ireturn, 1) := by decide +kernel
theorem d_No_deliver_12 : decode prog_1_method_16_code 12 = .ok (.aload_n 0, 1) := by decide +kernel
theorem d_No_deliver_13 : decode prog_1_method_16_code 13 = .ok (.getfield 37, 3) := by decide +kernel
theorem d_No_deliver_16 : decode prog_1_method_16_code 16 = .ok (.iload_n 1, 1) := by decide +kernel
theorem d_No_deliver_17 : decode prog_1_method_16_code 17 = .ok (.invokevirtual 168, 3) := by decide +kernel
theorem d_No_deliver_20 : decode prog_1_method_16_code 20 = .ok (.pop, 1) := by decide +kernel
theorem d_No_deliver_21 : decode prog_1_method_16_code 21 = .ok (.aload_n 2, 1) := by decide +kernel
theorem d_No_deliver_22 : decode prog_1_method_16_code 22 = .ok (.instanceof 72, 3) := by decide +kernel
theorem d_No_deliver_25 : decode prog_1_method_16_code 25 = .ok (.ifCond .eq 16, 3) := by decide +kernel
theorem d_No_deliver_28 : decode prog_1_method_16_code 28 = .ok (.aload_n 2, 1) := by decide +kernel
theorem d_No_deliver_29 : decode prog_1_method_16_code 29 = .ok (.checkcast 72, 3) := by decide +kernel
theorem d_No_deliver_32 : decode prog_1_method_16_code 32 = .ok (.astore_n 3, 1) := by decide +kernel
theorem d_No_deliver_33 : decode prog_1_method_16_code 33 = .ok (.aload_n 0, 1) := by decide +kernel
theorem d_No_deliver_34 : decode prog_1_method_16_code 34 = .ok (.aload_n 3, 1) := by decide +kernel
theorem d_No_deliver_35 : decode prog_1_method_16_code 35 = .ok (.invokevirtual 172, 3) := by decide +kernel
theorem d_Office_take_83 : decode prog_10_method_8_code 83 = .ok (.invokespecial 73, 3) := by decide +kernel
theorem d_Office_take_86 : decode prog_10_method_8_code 86 = .ok (.areturn, 1) := by decide +kernel
theorem d_Office_take_46 : decode prog_10_method_8_code 46 = .ok (.new 28, 3) := by decide +kernel
theorem d_Office_take_49 : decode prog_10_method_8_code 49 = .ok (.dup, 1) := by decide +kernel
theorem d_Office_take_50 : decode prog_10_method_8_code 50 = .ok (.aload_n 1, 1) := by decide +kernel
theorem d_Office_take_51 : decode prog_10_method_8_code 51 = .ok (.iload_n 3, 1) := by decide +kernel
theorem d_Office_take_52 : decode prog_10_method_8_code 52 = .ok (.aconst_null, 1) := by decide +kernel
theorem d_Office_take_53 : decode prog_10_method_8_code 53 = .ok (.invokespecial 73, 3) := by decide +kernel
theorem d_Office_take_56 : decode prog_10_method_8_code 56 = .ok (.areturn, 1) := by decide +kernel
theorem d_Office_take_90 : decode prog_10_method_8_code 90 = .ok (.iload 4, 2) := by decide +kernel
theorem d_Office_take_92 : decode prog_10_method_8_code 92 = .ok (.aload_n 1, 1) := by decide +kernel
theorem d_Office_take_93 : decode prog_10_method_8_code 93 = .ok (.getfield 86, 3) := by decide +kernel
theorem d_Office_take_96 : decode prog_10_method_8_code 96 = .ok (.arraylength, 1) := by decide +kernel
theorem d_Office_take_97 : decode prog_10_method_8_code 97 = .ok (.if_icmp .ge 20, 3) := by decide +kernel
theorem d_Office_take_117 : decode prog_10_method_8_code 117 = .ok (.new 28, 3) := by decide +kernel
theorem d_Office_take_120 : decode prog_10_method_8_code 120 = .ok (.dup, 1) := by decide +kernel
theorem d_Office_take_121 : decode prog_10_method_8_code 121 = .ok (.aload_n 1, 1) := by decide +kernel
theorem d_Office_take_122 : decode prog_10_method_8_code 122 = .ok (.iconst 0, 1) := by decide +kernel
theorem d_Office_take_123 : decode prog_10_method_8_code 123 = .ok (.aconst_null, 1) := by decide +kernel
theorem d_Office_take_124 : decode prog_10_method_8_code 124 = .ok (.invokespecial 73, 3) := by decide +kernel
theorem d_Office_take_127 : decode prog_10_method_8_code 127 = .ok (.areturn, 1) := by decide +kernel
theorem d_Office_take_100 : decode prog_10_method_8_code 100 = .ok (.aload_n 2, 1) := by decide +kernel
theorem d_Office_take_101 : decode prog_10_method_8_code 101 = .ok (.aload_n 1, 1) := by decide +kernel
theorem d_Office_take_102 : decode prog_10_method_8_code 102 = .ok (.getfield 86, 3) := by decide +kernel
theorem d_Office_take_105 : decode prog_10_method_8_code 105 = .ok (.iload 4, 2) := by decide +kernel
theorem d_Office_take_107 : decode prog_10_method_8_code 107 = .ok (.aaload, 1) := by decide +kernel
theorem d_Office_take_108 : decode prog_10_method_8_code 108 = .ok (.invokevirtual 90, 3) := by decide +kernel
theorem d_SeriesBook_enter_8 : decode prog_11_method_9_code 8 = .ok (.istore_n 2, 1) := by decide +kernel
theorem d_SeriesBook_enter_9 : decode prog_11_method_9_code 9 = .ok (.aload_n 1, 1) := by decide +kernel
theorem d_SeriesBook_enter_10 : decode prog_11_method_9_code 10 = .ok (.getfield 78, 3) := by decide +kernel
theorem d_SeriesBook_enter_13 : decode prog_11_method_9_code 13 = .ok (.ifCond .eq 16, 3) := by decide +kernel
theorem d_SeriesBook_enter_29 : decode prog_11_method_9_code 29 = .ok (.iload_n 2, 1) := by decide +kernel
theorem d_SeriesBook_enter_30 : decode prog_11_method_9_code 30 = .ok (.iconst 1, 1) := by decide +kernel
theorem d_SeriesBook_enter_31 : decode prog_11_method_9_code 31 = .ok (.if_icmp .eq 8, 3) := by decide +kernel
theorem d_SeriesBook_enter_34 : decode prog_11_method_9_code 34 = .ok (.iload_n 2, 1) := by decide +kernel
theorem d_SeriesBook_enter_35 : decode prog_11_method_9_code 35 = .ok (.iconst 2, 1) := by decide +kernel
theorem d_SeriesBook_enter_36 : decode prog_11_method_9_code 36 = .ok (.if_icmp .ne 15, 3) := by decide +kernel
theorem d_SeriesBook_enter_16 : decode prog_11_method_9_code 16 = .ok (.iload_n 2, 1) := by decide +kernel
theorem d_SeriesBook_enter_17 : decode prog_11_method_9_code 17 = .ok (.iconst 1, 1) := by decide +kernel
theorem d_SeriesBook_enter_18 : decode prog_11_method_9_code 18 = .ok (.if_icmp .ne 7, 3) := by decide +kernel
theorem d_SeriesBook_enter_25 : decode prog_11_method_9_code 25 = .ok (.iconst 0, 1) := by decide +kernel
theorem d_SeriesBook_enter_26 : decode prog_11_method_9_code 26 = .ok (.goto 26, 3) := by decide +kernel
theorem d_SeriesBook_enter_21 : decode prog_11_method_9_code 21 = .ok (.iconst 1, 1) := by decide +kernel
theorem d_SeriesBook_enter_22 : decode prog_11_method_9_code 22 = .ok (.goto 30, 3) := by decide +kernel
theorem d_SeriesBook_enter_39 : decode prog_11_method_9_code 39 = .ok (.aload_n 0, 1) := by decide +kernel
theorem d_SeriesBook_enter_40 : decode prog_11_method_9_code 40 = .ok (.getfield 11, 3) := by decide +kernel
theorem d_SeriesBook_enter_43 : decode prog_11_method_9_code 43 = .ok (.iconst 2, 1) := by decide +kernel
theorem d_SeriesBook_enter_44 : decode prog_11_method_9_code 44 = .ok (.if_icmp .eq 7, 3) := by decide +kernel
theorem d_SeriesBook_enter_47 : decode prog_11_method_9_code 47 = .ok (.iconst 1, 1) := by decide +kernel
theorem d_SeriesBook_enter_48 : decode prog_11_method_9_code 48 = .ok (.goto 4, 3) := by decide +kernel
theorem d_SeriesBook_enter_51 : decode prog_11_method_9_code 51 = .ok (.iconst 0, 1) := by decide +kernel
theorem d_SeriesBook_enter_52 : decode prog_11_method_9_code 52 = .ok (.istore_n 3, 1) := by decide +kernel
theorem d_SeriesBook_enter_53 : decode prog_11_method_9_code 53 = .ok (.iload_n 3, 1) := by decide +kernel
theorem d_SeriesBook_enter_54 : decode prog_11_method_9_code 54 = .ok (.ifCond .ne 4, 3) := by decide +kernel
theorem d_SeriesBook_enter_58 : decode prog_11_method_9_code 58 = .ok (.aload_n 1, 1) := by decide +kernel
theorem d_SeriesBook_enter_59 : decode prog_11_method_9_code 59 = .ok (.getfield 69, 3) := by decide +kernel
theorem d_SeriesBook_enter_62 : decode prog_11_method_9_code 62 = .ok (.iconst 1, 1) := by decide +kernel
theorem d_SeriesBook_enter_63 : decode prog_11_method_9_code 63 = .ok (.isub, 1) := by decide +kernel
theorem d_SeriesBook_enter_64 : decode prog_11_method_9_code 64 = .ok (.istore 4, 2) := by decide +kernel
theorem d_SeriesBook_enter_66 : decode prog_11_method_9_code 66 = .ok (.aload_n 0, 1) := by decide +kernel
theorem d_SeriesBook_enter_67 : decode prog_11_method_9_code 67 = .ok (.getfield 19, 3) := by decide +kernel
theorem d_SeriesBook_enter_70 : decode prog_11_method_9_code 70 = .ok (.iload 4, 2) := by decide +kernel
theorem d_SeriesBook_enter_72 : decode prog_11_method_9_code 72 = .ok (.aload_n 1, 1) := by decide +kernel
theorem d_SeriesBook_enter_73 : decode prog_11_method_9_code 73 = .ok (.getfield 78, 3) := by decide +kernel
theorem d_SeriesBook_enter_76 : decode prog_11_method_9_code 76 = .ok (.ifCond .eq 7, 3) := by decide +kernel
theorem d_SeriesBook_enter_83 : decode prog_11_method_9_code 83 = .ok (.iconst 3, 1) := by decide +kernel
theorem d_SeriesBook_enter_79 : decode prog_11_method_9_code 79 = .ok (.iconst 2, 1) := by decide +kernel
theorem d_SeriesBook_enter_80 : decode prog_11_method_9_code 80 = .ok (.goto 4, 3) := by decide +kernel
theorem d_SeriesBook_enter_57 : decode prog_11_method_9_code 57 = .ok (.return_, 1) := by decide +kernel
theorem d_SeriesBook_enter_84 : decode prog_11_method_9_code 84 = .ok (.iastore, 1) := by decide +kernel
theorem d_SeriesBook_enter_85 : decode prog_11_method_9_code 85 = .ok (.aload_n 0, 1) := by decide +kernel
theorem d_SeriesBook_enter_86 : decode prog_11_method_9_code 86 = .ok (.getfield 22, 3) := by decide +kernel
theorem d_SeriesBook_enter_89 : decode prog_11_method_9_code 89 = .ok (.iload 4, 2) := by decide +kernel
theorem d_SeriesBook_enter_91 : decode prog_11_method_9_code 91 = .ok (.aload_n 1, 1) := by decide +kernel
theorem d_SeriesBook_enter_92 : decode prog_11_method_9_code 92 = .ok (.getfield 82, 3) := by decide +kernel
theorem d_SeriesBook_enter_95 : decode prog_11_method_9_code 95 = .ok (.lastore, 1) := by decide +kernel
theorem d_SeriesBook_enter_96 : decode prog_11_method_9_code 96 = .ok (.aload_n 0, 1) := by decide +kernel
theorem d_SeriesBook_enter_97 : decode prog_11_method_9_code 97 = .ok (.getfield 26, 3) := by decide +kernel
theorem d_SeriesBook_enter_100 : decode prog_11_method_9_code 100 = .ok (.iload 4, 2) := by decide +kernel
theorem d_SeriesBook_enter_102 : decode prog_11_method_9_code 102 = .ok (.aload_n 1, 1) := by decide +kernel
theorem d_SeriesBook_enter_103 : decode prog_11_method_9_code 103 = .ok (.getfield 85, 3) := by decide +kernel
theorem d_SeriesBook_enter_106 : decode prog_11_method_9_code 106 = .ok (.iastore, 1) := by decide +kernel
theorem d_SeriesBook_enter_107 : decode prog_11_method_9_code 107 = .ok (.return_, 1) := by decide +kernel
theorem d_No_drop_5 : decode prog_1_method_17_code 5 = .ok (.ifnonnull 5, 3) := by decide +kernel
theorem d_No_drop_8 : decode prog_1_method_17_code 8 = .ok (.iconst 0, 1) := by decide +kernel
theorem d_No_drop_9 : decode prog_1_method_17_code 9 = .ok (.ireturn, 1) := by decide +kernel
theorem d_No_drop_10 : decode prog_1_method_17_code 10 = .ok (.aload_n 0, 1) := by decide +kernel
theorem d_No_drop_11 : decode prog_1_method_17_code 11 = .ok (.getfield 37, 3) := by decide +kernel
theorem d_No_drop_14 : decode prog_1_method_17_code 14 = .ok (.iload_n 1, 1) := by decide +kernel
theorem d_No_drop_15 : decode prog_1_method_17_code 15 = .ok (.invokevirtual 168, 3) := by decide +kernel
theorem d_No_drop_18 : decode prog_1_method_17_code 18 = .ok (.pop, 1) := by decide +kernel
theorem d_No_drop_19 : decode prog_1_method_17_code 19 = .ok (.iconst 1, 1) := by decide +kernel
theorem d_No_drop_20 : decode prog_1_method_17_code 20 = .ok (.ireturn, 1) := by decide +kernel
theorem d_No_twin_5 : decode prog_1_method_18_code 5 = .ok (.astore_n 2, 1) := by decide +kernel
theorem d_No_twin_6 : decode prog_1_method_18_code 6 = .ok (.aload_n 2, 1) := by decide +kernel
theorem d_No_twin_7 : decode prog_1_method_18_code 7 = .ok (.ifnull 15, 3) := by decide +kernel
theorem d_No_twin_10 : decode prog_1_method_18_code 10 = .ok (.aload_n 0, 1) := by decide +kernel
theorem d_No_twin_11 : decode prog_1_method_18_code 11 = .ok (.aload_n 2, 1) := by decide +kernel
theorem d_No_twin_12 : decode prog_1_method_18_code 12 = .ok (.invokevirtual 101, 3) := by decide +kernel
theorem d_No_branchFate_20 : decode prog_1_method_22_code 20 = .ok (.iconst (-1), 1) := by decide +kernel
theorem d_No_branchFate_21 : decode prog_1_method_22_code 21 = .ok (.ireturn, 1) := by decide +kernel
theorem d_No_branchFate_45 : decode prog_1_method_22_code 45 = .ok (.ireturn, 1) := by decide +kernel
theorem d_Law_series_8 : decode method_3_code 8 = .ok (.ifCond .eq 7, 3) := by decide +kernel
theorem d_Law_series_15 : decode method_3_code 15 = .ok (.lconst 0, 1) := by decide +kernel
theorem d_Law_series_11 : decode method_3_code 11 = .ok (.lconst 1, 1) := by decide +kernel
theorem d_Law_series_12 : decode method_3_code 12 = .ok (.goto 4, 3) := by decide +kernel
theorem d_Law_series_20 : decode method_3_code 20 = .ok (.astore 4, 2) := by decide +kernel
theorem d_Law_series_22 : decode method_3_code 22 = .ok (.iconst 1, 1) := by decide +kernel
theorem d_Law_series_23 : decode method_3_code 23 = .ok (.ireturn, 1) := by decide +kernel
theorem d_Law_series_16 : decode method_3_code 16 = .ok (.lastore, 1) := by decide +kernel
theorem d_Law_series_17 : decode method_3_code 17 = .ok (.goto 7, 3) := by decide +kernel
theorem d_Law_series_24 : decode method_3_code 24 = .ok (.iconst 0, 1) := by decide +kernel
theorem d_Law_series_25 : decode method_3_code 25 = .ok (.ireturn, 1) := by decide +kernel
theorem d_No_sendNew_14 : decode prog_1_method_31_code 14 = .ok (.aload_n 0, 1) := by decide +kernel
theorem d_No_sendNew_15 : decode prog_1_method_31_code 15 = .ok (.aload_n 2, 1) := by decide +kernel
theorem d_No_sendNew_16 : decode prog_1_method_31_code 16 = .ok (.invokevirtual 101, 3) := by decide +kernel
theorem d_No_report_61 : decode prog_1_method_4_code 61 = .ok (.invokespecial 76, 3) := by decide +kernel
theorem d_No_report_64 : decode prog_1_method_4_code 64 = .ok (.invokevirtual 79, 3) := by decide +kernel
theorem d_BranchSeries_dateFits_4 : decode prog_5_method_9_code 4 = .ok (.astore_n 2, 1) := by decide +kernel
theorem d_BranchSeries_dateFits_5 : decode prog_5_method_9_code 5 = .ok (.aload_n 0, 1) := by decide +kernel
theorem d_BranchSeries_dateFits_6 : decode prog_5_method_9_code 6 = .ok (.getfield 18, 3) := by decide +kernel
theorem d_BranchSeries_dateFits_9 : decode prog_5_method_9_code 9 = .ok (.invokevirtual 21, 3) := by decide +kernel
theorem d_BranchSeries_dateFits_12 : decode prog_5_method_9_code 12 = .ok (.iconst 1, 1) := by decide +kernel
theorem d_BranchSeries_dateFits_13 : decode prog_5_method_9_code 13 = .ok (.isub, 1) := by decide +kernel
theorem d_BranchSeries_dateFits_14 : decode prog_5_method_9_code 14 = .ok (.istore_n 3, 1) := by decide +kernel
theorem d_BranchSeries_dateFits_15 : decode prog_5_method_9_code 15 = .ok (.iload_n 3, 1) := by decide +kernel
theorem d_BranchSeries_dateFits_16 : decode prog_5_method_9_code 16 = .ok (.ifCond .lt 61, 3) := by decide +kernel
theorem d_BranchSeries_dateFits_19 : decode prog_5_method_9_code 19 = .ok (.aload_n 2, 1) := by decide +kernel
theorem d_BranchSeries_dateFits_20 : decode prog_5_method_9_code 20 = .ok (.ifnull 57, 3) := by decide +kernel
theorem d_BranchSeries_dateFits_23 : decode prog_5_method_9_code 23 = .ok (.aload_n 0, 1) := by decide +kernel
theorem d_BranchSeries_dateFits_24 : decode prog_5_method_9_code 24 = .ok (.getfield 18, 3) := by decide +kernel
theorem d_BranchSeries_dateFits_27 : decode prog_5_method_9_code 27 = .ok (.iload_n 3, 1) := by decide +kernel
theorem d_BranchSeries_dateFits_28 : decode prog_5_method_9_code 28 = .ok (.invokevirtual 63, 3) := by decide +kernel
theorem d_BranchSeries_dateFits_31 : decode prog_5_method_9_code 31 = .ok (.checkcast 54, 3) := by decide +kernel
theorem d_BranchSeries_dateFits_34 : decode prog_5_method_9_code 34 = .ok (.astore 4, 2) := by decide +kernel
theorem d_BranchSeries_dateFits_36 : decode prog_5_method_9_code 36 = .ok (.aload 4, 2) := by decide +kernel
theorem d_BranchSeries_dateFits_38 : decode prog_5_method_9_code 38 = .ok (.getfield 81, 3) := by decide +kernel
theorem d_BranchSeries_dateFits_41 : decode prog_5_method_9_code 41 = .ok (.ifCond .eq 30, 3) := by decide +kernel
theorem d_BranchSeries_dateFits_44 : decode prog_5_method_9_code 44 = .ok (.aload_n 2, 1) := by decide +kernel
theorem d_BranchSeries_dateFits_45 : decode prog_5_method_9_code 45 = .ok (.aload 4, 2) := by decide +kernel
theorem d_BranchSeries_dateFits_47 : decode prog_5_method_9_code 47 = .ok (.getfield 85, 3) := by decide +kernel
theorem d_BranchSeries_dateFits_50 : decode prog_5_method_9_code 50 = .ok (.invokevirtual 88, 3) := by decide +kernel
theorem d_BranchSeries_dateFits_53 : decode prog_5_method_9_code 53 = .ok (.ifCond .eq 18, 3) := by decide +kernel
theorem d_BranchSeries_dateFits_56 : decode prog_5_method_9_code 56 = .ok (.iload_n 1, 1) := by decide +kernel
theorem d_BranchSeries_dateFits_57 : decode prog_5_method_9_code 57 = .ok (.aload 4, 2) := by decide +kernel
theorem d_BranchSeries_dateFits_59 : decode prog_5_method_9_code 59 = .ok (.getfield 92, 3) := by decide +kernel
theorem d_BranchSeries_dateFits_62 : decode prog_5_method_9_code 62 = .ok (.if_icmp .lt 7, 3) := by decide +kernel
theorem d_BranchSeries_dateFits_69 : decode prog_5_method_9_code 69 = .ok (.iconst 0, 1) := by decide +kernel
theorem d_BranchSeries_dateFits_65 : decode prog_5_method_9_code 65 = .ok (.iconst 1, 1) := by decide +kernel
theorem d_BranchSeries_dateFits_66 : decode prog_5_method_9_code 66 = .ok (.goto 4, 3) := by decide +kernel
theorem d_BranchSeries_dateFits_77 : decode prog_5_method_9_code 77 = .ok (.iconst 1, 1) := by decide +kernel
theorem d_BranchSeries_dateFits_78 : decode prog_5_method_9_code 78 = .ok (.ireturn, 1) := by decide +kernel
theorem d_BranchSeries_dateFits_71 : decode prog_5_method_9_code 71 = .ok (.iinc 3 (-1), 3) := by decide +kernel
theorem d_BranchSeries_dateFits_74 : decode prog_5_method_9_code 74 = .ok (.goto (-59), 3) := by decide +kernel
theorem d_BranchSeries_dateFits_70 : decode prog_5_method_9_code 70 = .ok (.ireturn, 1) := by decide +kernel
theorem d_No_strike_25 : decode prog_1_method_9_code 25 = .ok (.ireturn, 1) := by decide +kernel
theorem d_ListText_init_12 : decode prog_8_method_1_code 12 = .ok (.putfield 12, 3) := by decide +kernel
theorem d_ListText_init_15 : decode prog_8_method_1_code 15 = .ok (.aload_n 0, 1) := by decide +kernel
theorem d_ListText_init_16 : decode prog_8_method_1_code 16 = .ok (.bipush 20, 2) := by decide +kernel
theorem d_ListText_init_18 : decode prog_8_method_1_code 18 = .ok (.newarray .char, 2) := by decide +kernel
theorem d_ListText_init_20 : decode prog_8_method_1_code 20 = .ok (.putfield 18, 3) := by decide +kernel
theorem d_ListText_init_23 : decode prog_8_method_1_code 23 = .ok (.return_, 1) := by decide +kernel
theorem d_AbstractStringBuilder_ensureCapacityInternal_27 : decode prog_16_method_9_code 27 = .ok (.aload_n 0, 1) := by decide +kernel
theorem d_AbstractStringBuilder_ensureCapacityInternal_28 : decode prog_16_method_9_code 28 = .ok (.getfield 22, 3) := by decide +kernel
theorem d_AbstractStringBuilder_ensureCapacityInternal_31 : decode prog_16_method_9_code 31 = .ok (.ishl, 1) := by decide +kernel
theorem d_AbstractStringBuilder_ensureCapacityInternal_32 : decode prog_16_method_9_code 32 = .ok (.invokestatic 108, 3) := by decide +kernel
theorem d_AbstractStringBuilder_ensureCapacityInternal_35 : decode prog_16_method_9_code 35 = .ok (.putfield 15, 3) := by decide +kernel
theorem d_AbstractStringBuilder_ensureCapacityInternal_38 : decode prog_16_method_9_code 38 = .ok (.return_, 1) := by decide +kernel
theorem d_StringUTF16_checkBoundsOffCount_9 : decode prog_26_method_94_code 9 = .ok (.pop, 1) := by decide +kernel
theorem d_StringUTF16_checkBoundsOffCount_10 : decode prog_26_method_94_code 10 = .ok (.return_, 1) := by decide +kernel
theorem d_StringUTF16_putCharSB_5 : decode prog_26_method_71_code 5 = .ok (.aload_n 0, 1) := by decide +kernel
theorem d_StringUTF16_putCharSB_6 : decode prog_26_method_71_code 6 = .ok (.iload_n 1, 1) := by decide +kernel
theorem d_StringUTF16_putCharSB_7 : decode prog_26_method_71_code 7 = .ok (.iload_n 2, 1) := by decide +kernel
theorem d_StringUTF16_putCharSB_8 : decode prog_26_method_71_code 8 = .ok (.invokestatic 111, 3) := by decide +kernel
theorem d_StringUTF16_putCharSB_11 : decode prog_26_method_71_code 11 = .ok (.return_, 1) := by decide +kernel
theorem d_AbstractStringBuilder_appendNull_10 : decode prog_16_method_26_code 10 = .ok (.aload_n 0, 1) := by decide +kernel
theorem d_AbstractStringBuilder_appendNull_11 : decode prog_16_method_26_code 11 = .ok (.getfield 79, 3) := by decide +kernel
theorem d_AbstractStringBuilder_appendNull_14 : decode prog_16_method_26_code 14 = .ok (.istore_n 1, 1) := by decide +kernel
theorem d_AbstractStringBuilder_appendNull_15 : decode prog_16_method_26_code 15 = .ok (.aload_n 0, 1) := by decide +kernel
theorem d_AbstractStringBuilder_appendNull_16 : decode prog_16_method_26_code 16 = .ok (.getfield 15, 3) := by decide +kernel
theorem d_AbstractStringBuilder_appendNull_19 : decode prog_16_method_26_code 19 = .ok (.astore_n 2, 1) := by decide +kernel
theorem d_AbstractStringBuilder_appendNull_20 : decode prog_16_method_26_code 20 = .ok (.aload_n 0, 1) := by decide +kernel
theorem d_AbstractStringBuilder_appendNull_21 : decode prog_16_method_26_code 21 = .ok (.invokevirtual 83, 3) := by decide +kernel
theorem d_AbstractStringBuilder_appendNull_24 : decode prog_16_method_26_code 24 = .ok (.ifCond .eq 38, 3) := by decide +kernel
theorem d_AbstractStringBuilder_appendNull_62 : decode prog_16_method_26_code 62 = .ok (.aload_n 2, 1) := by decide +kernel
theorem d_AbstractStringBuilder_appendNull_63 : decode prog_16_method_26_code 63 = .ok (.iload_n 1, 1) := by decide +kernel
theorem d_AbstractStringBuilder_appendNull_64 : decode prog_16_method_26_code 64 = .ok (.bipush 110, 2) := by decide +kernel
theorem d_AbstractStringBuilder_appendNull_66 : decode prog_16_method_26_code 66 = .ok (.bipush 117, 2) := by decide +kernel
theorem d_AbstractStringBuilder_appendNull_68 : decode prog_16_method_26_code 68 = .ok (.bipush 108, 2) := by decide +kernel
theorem d_AbstractStringBuilder_appendNull_70 : decode prog_16_method_26_code 70 = .ok (.bipush 108, 2) := by decide +kernel
theorem d_AbstractStringBuilder_appendNull_72 : decode prog_16_method_26_code 72 = .ok (.invokestatic 226, 3) := by decide +kernel
theorem d_StringUTF16_checkBoundsBeginEnd_9 : decode prog_26_method_93_code 9 = .ok (.return_, 1) := by decide +kernel
theorem d_String_init2_13 : decode prog_23_method_150_code 13 = .ok (.istore 4, 2) := by decide +kernel
theorem d_String_init2_15 : decode prog_23_method_150_code 15 = .ok (.aload_n 1, 1) := by decide +kernel
theorem d_String_init2_16 : decode prog_23_method_150_code 16 = .ok (.invokevirtual 1047, 3) := by decide +kernel
theorem d_String_init2_19 : decode prog_23_method_150_code 19 = .ok (.ifCond .eq 22, 3) := by decide +kernel
theorem d_String_init2_41 : decode prog_23_method_150_code 41 = .ok (.getstatic 38, 3) := by decide +kernel
theorem d_String_init2_44 : decode prog_23_method_150_code 44 = .ok (.ifCond .eq 35, 3) := by decide +kernel
theorem d_String_init2_47 : decode prog_23_method_150_code 47 = .ok (.aload_n 1, 1) := by decide +kernel
theorem d_String_init2_48 : decode prog_23_method_150_code 48 = .ok (.getfield 1048, 3) := by decide +kernel
theorem d_String_init2_51 : decode prog_23_method_150_code 51 = .ok (.ifCond .eq 28, 3) := by decide +kernel
theorem d_String_init2_54 : decode prog_23_method_150_code 54 = .ok (.aload_n 0, 1) := by decide +kernel
theorem d_String_init2_55 : decode prog_23_method_150_code 55 = .ok (.aload_n 3, 1) := by decide +kernel
theorem d_String_init2_56 : decode prog_23_method_150_code 56 = .ok (.iconst 0, 1) := by decide +kernel
theorem d_String_init2_57 : decode prog_23_method_150_code 57 = .ok (.iload 4, 2) := by decide +kernel
theorem d_String_init2_59 : decode prog_23_method_150_code 59 = .ok (.invokestatic 1051, 3) := by decide +kernel
theorem d_Arrays_copyOfRange_16 : decode prog_32_method_132_code 16 = .ok (.areturn, 1) := by decide +kernel
theorem d_StringUTF16_compress2_7 : decode prog_26_method_22_code 7 = .ok (.iconst 0, 1) := by decide +kernel
theorem d_StringUTF16_compress2_8 : decode prog_26_method_22_code 8 = .ok (.istore 5, 2) := by decide +kernel
theorem d_StringUTF16_compress2_10 : decode prog_26_method_22_code 10 = .ok (.iload 5, 2) := by decide +kernel
theorem d_StringUTF16_compress2_12 : decode prog_26_method_22_code 12 = .ok (.iload 4, 2) := by decide +kernel
theorem d_StringUTF16_compress2_14 : decode prog_26_method_22_code 14 = .ok (.if_icmp .ge 39, 3) := by decide +kernel
theorem d_StringUTF16_compress2_53 : decode prog_26_method_22_code 53 = .ok (.iload 4, 2) := by decide +kernel
theorem d_StringUTF16_compress2_55 : decode prog_26_method_22_code 55 = .ok (.ireturn, 1) := by decide +kernel
theorem d_StringUTF16_compress2_17 : decode prog_26_method_22_code 17 = .ok (.aload_n 0, 1) := by decide +kernel
theorem d_StringUTF16_compress2_18 : decode prog_26_method_22_code 18 = .ok (.iload_n 1, 1) := by decide +kernel
theorem d_StringUTF16_compress2_19 : decode prog_26_method_22_code 19 = .ok (.invokestatic 71, 3) := by decide +kernel
theorem d_StringUTF16_compress2_22 : decode prog_26_method_22_code 22 = .ok (.istore 6, 2) := by decide +kernel
theorem d_StringUTF16_compress2_24 : decode prog_26_method_22_code 24 = .ok (.iload 6, 2) := by decide +kernel
theorem d_StringUTF16_compress2_26 : decode prog_26_method_22_code 26 = .ok (.sipush 255, 3) := by decide +kernel
theorem d_StringUTF16_compress2_29 : decode prog_26_method_22_code 29 = .ok (.if_icmp .le 6, 3) := by decide +kernel
theorem d_StringUTF16_compress2_35 : decode prog_26_method_22_code 35 = .ok (.aload_n 2, 1) := by decide +kernel
theorem d_StringUTF16_compress2_36 : decode prog_26_method_22_code 36 = .ok (.iload_n 3, 1) := by decide +kernel
theorem d_StringUTF16_compress2_37 : decode prog_26_method_22_code 37 = .ok (.iload 6, 2) := by decide +kernel
theorem d_StringUTF16_compress2_39 : decode prog_26_method_22_code 39 = .ok (.i2b, 1) := by decide +kernel
theorem d_StringUTF16_compress2_40 : decode prog_26_method_22_code 40 = .ok (.bastore, 1) := by decide +kernel
theorem d_StringUTF16_compress2_41 : decode prog_26_method_22_code 41 = .ok (.iinc 1 1, 3) := by decide +kernel
theorem d_StringUTF16_compress2_44 : decode prog_26_method_22_code 44 = .ok (.iinc 3 1, 3) := by decide +kernel
theorem d_StringUTF16_compress2_47 : decode prog_26_method_22_code 47 = .ok (.iinc 5 1, 3) := by decide +kernel
theorem d_StringUTF16_compress2_50 : decode prog_26_method_22_code 50 = .ok (.goto (-40), 3) := by decide +kernel
theorem d_StringUTF16_compress2_32 : decode prog_26_method_22_code 32 = .ok (.iload 5, 2) := by decide +kernel
theorem d_StringUTF16_compress2_34 : decode prog_26_method_22_code 34 = .ok (.ireturn, 1) := by decide +kernel
theorem d_Law_fate_8 : decode method_11_code 8 = .ok (.i2l, 1) := by decide +kernel
theorem d_Law_fate_9 : decode method_11_code 9 = .ok (.lastore, 1) := by decide +kernel
theorem d_Law_fate_10 : decode method_11_code 10 = .ok (.goto 7, 3) := by decide +kernel
theorem d_Law_fate_17 : decode method_11_code 17 = .ok (.iconst 0, 1) := by decide +kernel
theorem d_Law_fate_18 : decode method_11_code 18 = .ok (.ireturn, 1) := by decide +kernel
theorem d_Law_fate_13 : decode method_11_code 13 = .ok (.astore 4, 2) := by decide +kernel
theorem d_Law_fate_15 : decode method_11_code 15 = .ok (.iconst 1, 1) := by decide +kernel
theorem d_Law_fate_16 : decode method_11_code 16 = .ok (.ireturn, 1) := by decide +kernel
theorem d_Law_invoiceOf_10 : decode method_12_code 10 = .ok (.lastore, 1) := by decide +kernel
theorem d_Law_invoiceOf_11 : decode method_12_code 11 = .ok (.goto 7, 3) := by decide +kernel
theorem d_Law_invoiceOf_18 : decode method_12_code 18 = .ok (.iconst 0, 1) := by decide +kernel
theorem d_Law_invoiceOf_19 : decode method_12_code 19 = .ok (.ireturn, 1) := by decide +kernel
theorem d_Law_invoiceOf_14 : decode method_12_code 14 = .ok (.astore 5, 2) := by decide +kernel
theorem d_Law_invoiceOf_16 : decode method_12_code 16 = .ok (.iconst 1, 1) := by decide +kernel
theorem d_Law_invoiceOf_17 : decode method_12_code 17 = .ok (.ireturn, 1) := by decide +kernel
theorem d_Law_total_8 : decode method_13_code 8 = .ok (.lastore, 1) := by decide +kernel
theorem d_Law_total_9 : decode method_13_code 9 = .ok (.goto 7, 3) := by decide +kernel
theorem d_Law_total_16 : decode method_13_code 16 = .ok (.iconst 0, 1) := by decide +kernel
theorem d_Law_total_17 : decode method_13_code 17 = .ok (.ireturn, 1) := by decide +kernel
theorem d_Law_total_12 : decode method_13_code 12 = .ok (.astore 4, 2) := by decide +kernel
theorem d_Law_total_14 : decode method_13_code 14 = .ok (.iconst 1, 1) := by decide +kernel
theorem d_Law_total_15 : decode method_13_code 15 = .ok (.ireturn, 1) := by decide +kernel
theorem d_String_charAt_24 : decode prog_23_method_56_code 24 = .ok (.ireturn, 1) := by decide +kernel
theorem d_String_charAt_7 : decode prog_23_method_56_code 7 = .ok (.aload_n 0, 1) := by decide +kernel
theorem d_String_charAt_8 : decode prog_23_method_56_code 8 = .ok (.getfield 9, 3) := by decide +kernel
theorem d_String_charAt_11 : decode prog_23_method_56_code 11 = .ok (.iload_n 1, 1) := by decide +kernel
theorem d_String_charAt_12 : decode prog_23_method_56_code 12 = .ok (.invokestatic 495, 3) := by decide +kernel
theorem d_String_charAt_15 : decode prog_23_method_56_code 15 = .ok (.ireturn, 1) := by decide +kernel
theorem d_Mo_request_5 : decode prog_14_method_21_code 5 = .ok (.ifCond .eq 52, 3) := by decide +kernel
theorem d_Mo_request_8 : decode prog_14_method_21_code 8 = .ok (.iload_n 2, 1) := by decide +kernel
theorem d_Mo_request_9 : decode prog_14_method_21_code 9 = .ok (.invokestatic 144, 3) := by decide +kernel
theorem d_Mo_request_12 : decode prog_14_method_21_code 12 = .ok (.ifCond .eq 45, 3) := by decide +kernel
theorem d_Mo_request_15 : decode prog_14_method_21_code 15 = .ok (.iload_n 3, 1) := by decide +kernel
theorem d_Mo_request_16 : decode prog_14_method_21_code 16 = .ok (.iconst 1, 1) := by decide +kernel
theorem d_Mo_request_17 : decode prog_14_method_21_code 17 = .ok (.if_icmp .lt 40, 3) := by decide +kernel
theorem d_Mo_request_20 : decode prog_14_method_21_code 20 = .ok (.iload_n 3, 1) := by decide +kernel
theorem d_Mo_request_21 : decode prog_14_method_21_code 21 = .ok (.bipush 100, 2) := by decide +kernel
theorem d_Mo_request_23 : decode prog_14_method_21_code 23 = .ok (.if_icmp .gt 34, 3) := by decide +kernel
theorem d_Mo_request_26 : decode prog_14_method_21_code 26 = .ok (.aload_n 0, 1) := by decide +kernel
theorem d_Mo_request_27 : decode prog_14_method_21_code 27 = .ok (.getfield 65, 3) := by decide +kernel
theorem d_Mo_request_30 : decode prog_14_method_21_code 30 = .ok (.iload_n 1, 1) := by decide +kernel
theorem d_Mo_request_31 : decode prog_14_method_21_code 31 = .ok (.baload, 1) := by decide +kernel
theorem d_Mo_request_32 : decode prog_14_method_21_code 32 = .ok (.ifCond .ne 25, 3) := by decide +kernel
theorem d_Mo_request_35 : decode prog_14_method_21_code 35 = .ok (.aload_n 0, 1) := by decide +kernel
theorem d_Mo_request_36 : decode prog_14_method_21_code 36 = .ok (.getfield 68, 3) := by decide +kernel
theorem d_Mo_request_39 : decode prog_14_method_21_code 39 = .ok (.iload_n 1, 1) := by decide +kernel
theorem d_Mo_request_40 : decode prog_14_method_21_code 40 = .ok (.baload, 1) := by decide +kernel
theorem d_Mo_request_41 : decode prog_14_method_21_code 41 = .ok (.ifCond .ne 16, 3) := by decide +kernel
theorem d_Mo_request_44 : decode prog_14_method_21_code 44 = .ok (.aload_n 0, 1) := by decide +kernel
theorem d_Mo_request_45 : decode prog_14_method_21_code 45 = .ok (.iconst 3, 1) := by decide +kernel
theorem d_Mo_request_46 : decode prog_14_method_21_code 46 = .ok (.iload_n 1, 1) := by decide +kernel
theorem d_Mo_request_47 : decode prog_14_method_21_code 47 = .ok (.imul, 1) := by decide +kernel
theorem d_Mo_request_48 : decode prog_14_method_21_code 48 = .ok (.iload_n 2, 1) := by decide +kernel
theorem d_Mo_request_49 : decode prog_14_method_21_code 49 = .ok (.iadd, 1) := by decide +kernel
theorem d_Mo_request_50 : decode prog_14_method_21_code 50 = .ok (.invokevirtual 169, 3) := by decide +kernel
theorem d_Mo_request_53 : decode prog_14_method_21_code 53 = .ok (.iconst 2, 1) := by decide +kernel
theorem d_Mo_request_54 : decode prog_14_method_21_code 54 = .ok (.if_icmp .lt 17, 3) := by decide +kernel
theorem d_Mo_request_71 : decode prog_14_method_21_code 71 = .ok (.aload_n 0, 1) := by decide +kernel
theorem d_Mo_request_72 : decode prog_14_method_21_code 72 = .ok (.getfield 53, 3) := by decide +kernel
theorem d_Mo_request_75 : decode prog_14_method_21_code 75 = .ok (.iload_n 1, 1) := by decide +kernel
theorem d_Mo_request_76 : decode prog_14_method_21_code 76 = .ok (.dup2, 1) := by decide +kernel
theorem d_Mo_request_77 : decode prog_14_method_21_code 77 = .ok (.iaload, 1) := by decide +kernel
theorem d_Mo_request_78 : decode prog_14_method_21_code 78 = .ok (.iconst 1, 1) := by decide +kernel
theorem d_Mo_request_79 : decode prog_14_method_21_code 79 = .ok (.iadd, 1) := by decide +kernel
theorem d_Mo_request_80 : decode prog_14_method_21_code 80 = .ok (.iastore, 1) := by decide +kernel
theorem d_Mo_request_81 : decode prog_14_method_21_code 81 = .ok (.aload_n 0, 1) := by decide +kernel
theorem d_Mo_request_82 : decode prog_14_method_21_code 82 = .ok (.getfield 56, 3) := by decide +kernel
theorem d_Mo_request_85 : decode prog_14_method_21_code 85 = .ok (.iload_n 1, 1) := by decide +kernel
theorem d_Mo_request_86 : decode prog_14_method_21_code 86 = .ok (.iconst 1, 1) := by decide +kernel
theorem d_Mo_request_87 : decode prog_14_method_21_code 87 = .ok (.iastore, 1) := by decide +kernel
theorem d_Mo_request_88 : decode prog_14_method_21_code 88 = .ok (.aload_n 0, 1) := by decide +kernel
theorem d_Mo_request_89 : decode prog_14_method_21_code 89 = .ok (.getfield 59, 3) := by decide +kernel
theorem d_Mo_request_92 : decode prog_14_method_21_code 92 = .ok (.iload_n 1, 1) := by decide +kernel
theorem d_Mo_request_93 : decode prog_14_method_21_code 93 = .ok (.iload_n 2, 1) := by decide +kernel
theorem d_Mo_request_94 : decode prog_14_method_21_code 94 = .ok (.iastore, 1) := by decide +kernel
theorem d_Mo_request_95 : decode prog_14_method_21_code 95 = .ok (.aload_n 0, 1) := by decide +kernel
theorem d_Mo_request_96 : decode prog_14_method_21_code 96 = .ok (.getfield 62, 3) := by decide +kernel
theorem d_Mo_request_99 : decode prog_14_method_21_code 99 = .ok (.iload_n 1, 1) := by decide +kernel
theorem d_Mo_request_100 : decode prog_14_method_21_code 100 = .ok (.iload_n 3, 1) := by decide +kernel
theorem d_Mo_request_101 : decode prog_14_method_21_code 101 = .ok (.iastore, 1) := by decide +kernel
theorem d_Mo_request_102 : decode prog_14_method_21_code 102 = .ok (.aload_n 0, 1) := by decide +kernel
theorem d_Mo_request_103 : decode prog_14_method_21_code 103 = .ok (.getfield 65, 3) := by decide +kernel
theorem d_Mo_request_106 : decode prog_14_method_21_code 106 = .ok (.iload_n 1, 1) := by decide +kernel
theorem d_Mo_request_107 : decode prog_14_method_21_code 107 = .ok (.iconst 1, 1) := by decide +kernel
theorem d_Mo_request_108 : decode prog_14_method_21_code 108 = .ok (.bastore, 1) := by decide +kernel
theorem d_Mo_request_109 : decode prog_14_method_21_code 109 = .ok (.aload_n 0, 1) := by decide +kernel
theorem d_Mo_request_110 : decode prog_14_method_21_code 110 = .ok (.iload_n 1, 1) := by decide +kernel
theorem d_Mo_request_111 : decode prog_14_method_21_code 111 = .ok (.invokevirtual 173, 3) := by decide +kernel
theorem d_Mo_safe_8 : decode prog_14_method_8_code 8 = .ok (.aload_n 0, 1) := by decide +kernel
theorem d_Mo_safe_9 : decode prog_14_method_8_code 9 = .ok (.iconst 0, 1) := by decide +kernel
theorem d_Mo_safe_10 : decode prog_14_method_8_code 10 = .ok (.iconst 1, 1) := by decide +kernel
theorem d_Mo_safe_11 : decode prog_14_method_8_code 11 = .ok (.invokevirtual 127, 3) := by decide +kernel
theorem d_Mo_safe_14 : decode prog_14_method_8_code 14 = .ok (.goto 12, 3) := by decide +kernel
theorem d_Mo_safe_26 : decode prog_14_method_8_code 26 = .ok (.return_, 1) := by decide +kernel
theorem d_Mo_invoice_152 : decode prog_14_method_26_code 152 = .ok (.aload_n 0, 1) := by decide +kernel
theorem d_Mo_invoice_153 : decode prog_14_method_26_code 153 = .ok (.getfield 29, 3) := by decide +kernel
theorem d_Mo_invoice_156 : decode prog_14_method_26_code 156 = .ok (.sipush 300, 3) := by decide +kernel
theorem d_Mo_invoice_159 : decode prog_14_method_26_code 159 = .ok (.iload 6, 2) := by decide +kernel
theorem d_Mo_invoice_161 : decode prog_14_method_26_code 161 = .ok (.imul, 1) := by decide +kernel
theorem d_Mo_invoice_162 : decode prog_14_method_26_code 162 = .ok (.iload 7, 2) := by decide +kernel
theorem d_Mo_invoice_164 : decode prog_14_method_26_code 164 = .ok (.iadd, 1) := by decide +kernel
theorem d_Mo_invoice_165 : decode prog_14_method_26_code 165 = .ok (.saload, 1) := by decide +kernel
theorem d_Mo_invoice_166 : decode prog_14_method_26_code 166 = .ok (.ireturn, 1) := by decide +kernel
theorem d_Mo_invoice_66 : decode prog_14_method_26_code 66 = .ok (.aload_n 0, 1) := by decide +kernel
theorem d_Mo_invoice_67 : decode prog_14_method_26_code 67 = .ok (.getfield 120, 3) := by decide +kernel
theorem d_Mo_invoice_70 : decode prog_14_method_26_code 70 = .ok (.iconst 1, 1) := by decide +kernel
theorem d_Mo_invoice_71 : decode prog_14_method_26_code 71 = .ok (.if_icmp .ne 7, 3) := by decide +kernel
theorem d_Mo_invoice_78 : decode prog_14_method_26_code 78 = .ok (.iconst (-1), 1) := by decide +kernel
theorem d_Mo_invoice_74 : decode prog_14_method_26_code 74 = .ok (.iconst 0, 1) := by decide +kernel
theorem d_Mo_invoice_75 : decode prog_14_method_26_code 75 = .ok (.goto 4, 3) := by decide +kernel
theorem d_Mo_invoice_79 : decode prog_14_method_26_code 79 = .ok (.ireturn, 1) := by decide +kernel
theorem d_Mo_close_110 : decode prog_14_method_31_code 110 = .ok (.iconst 0, 1) := by decide +kernel
theorem d_Mo_close_111 : decode prog_14_method_31_code 111 = .ok (.ireturn, 1) := by decide +kernel
theorem d_Mo_close_72 : decode prog_14_method_31_code 72 = .ok (.aload_n 0, 1) := by decide +kernel
theorem d_Mo_close_73 : decode prog_14_method_31_code 73 = .ok (.getfield 80, 3) := by decide +kernel
theorem d_Mo_close_76 : decode prog_14_method_31_code 76 = .ok (.aload_n 0, 1) := by decide +kernel
theorem d_Mo_close_77 : decode prog_14_method_31_code 77 = .ok (.iload_n 1, 1) := by decide +kernel
theorem d_Mo_close_78 : decode prog_14_method_31_code 78 = .ok (.iload_n 2, 1) := by decide +kernel
theorem d_Mo_close_79 : decode prog_14_method_31_code 79 = .ok (.invokevirtual 148, 3) := by decide +kernel
theorem d_Mo_close_82 : decode prog_14_method_31_code 82 = .ok (.baload, 1) := by decide +kernel
theorem d_Mo_close_83 : decode prog_14_method_31_code 83 = .ok (.iconst 1, 1) := by decide +kernel
theorem d_Mo_close_84 : decode prog_14_method_31_code 84 = .ok (.if_icmp .ne 5, 3) := by decide +kernel
theorem d_Mo_close_89 : decode prog_14_method_31_code 89 = .ok (.iinc 2 1, 3) := by decide +kernel
theorem d_Mo_close_92 : decode prog_14_method_31_code 92 = .ok (.goto (-30), 3) := by decide +kernel
theorem d_Mo_close_87 : decode prog_14_method_31_code 87 = .ok (.iload_n 2, 1) := by decide +kernel
theorem d_Mo_close_88 : decode prog_14_method_31_code 88 = .ok (.ireturn, 1) := by decide +kernel
theorem d_Mo_close_59 : decode prog_14_method_31_code 59 = .ok (.ireturn, 1) := by decide +kernel
theorem d_Mo_flush_29 : decode prog_14_method_35_code 29 = .ok (.iconst 1, 1) := by decide +kernel
theorem d_Mo_flush_30 : decode prog_14_method_35_code 30 = .ok (.ireturn, 1) := by decide +kernel
theorem d_Mo_flush_22 : decode prog_14_method_35_code 22 = .ok (.iconst 0, 1) := by decide +kernel
theorem d_Mo_flush_23 : decode prog_14_method_35_code 23 = .ok (.ireturn, 1) := by decide +kernel
theorem d_Mo_comes_113 : decode prog_14_method_17_code 113 = .ok (.aload_n 0, 1) := by decide +kernel
theorem d_Mo_comes_114 : decode prog_14_method_17_code 114 = .ok (.iload_n 1, 1) := by decide +kernel
theorem d_Mo_comes_115 : decode prog_14_method_17_code 115 = .ok (.invokevirtual 160, 3) := by decide +kernel
theorem d_Mo_comes_118 : decode prog_14_method_17_code 118 = .ok (.goto 18, 3) := by decide +kernel
theorem d_Mo_listByte_253 : decode prog_14_method_52_code 253 = .ok (.aload_n 0, 1) := by decide +kernel
theorem d_Mo_listByte_254 : decode prog_14_method_52_code 254 = .ok (.aload_n 0, 1) := by decide +kernel
theorem d_Mo_listByte_255 : decode prog_14_method_52_code 255 = .ok (.getfield 74, 3) := by decide +kernel
theorem d_Mo_listByte_258 : decode prog_14_method_52_code 258 = .ok (.iload_n 1, 1) := by decide +kernel
theorem d_Mo_listByte_259 : decode prog_14_method_52_code 259 = .ok (.iaload, 1) := by decide +kernel
theorem d_Mo_listByte_260 : decode prog_14_method_52_code 260 = .ok (.i2l, 1) := by decide +kernel
theorem d_Mo_listByte_261 : decode prog_14_method_52_code 261 = .ok (.invokevirtual 234, 3) := by decide +kernel
theorem d_Mo_listByte_264 : decode prog_14_method_52_code 264 = .ok (.aload_n 0, 1) := by decide +kernel
theorem d_Mo_listByte_265 : decode prog_14_method_52_code 265 = .ok (.bipush 10, 2) := by decide +kernel
theorem d_Mo_listByte_267 : decode prog_14_method_52_code 267 = .ok (.invokevirtual 223, 3) := by decide +kernel
theorem d_Mo_listByte_270 : decode prog_14_method_52_code 270 = .ok (.aload_n 0, 1) := by decide +kernel
theorem d_Mo_listByte_271 : decode prog_14_method_52_code 271 = .ok (.getfield 220, 3) := by decide +kernel
theorem d_Mo_listByte_274 : decode prog_14_method_52_code 274 = .ok (.ireturn, 1) := by decide +kernel
theorem d_Mo_listByte_91 : decode prog_14_method_52_code 91 = .ok (.aload_n 0, 1) := by decide +kernel
theorem d_Mo_listByte_92 : decode prog_14_method_52_code 92 = .ok (.iload_n 1, 1) := by decide +kernel
theorem d_Mo_listByte_93 : decode prog_14_method_52_code 93 = .ok (.iload_n 3, 1) := by decide +kernel
theorem d_Mo_listByte_94 : decode prog_14_method_52_code 94 = .ok (.invokevirtual 148, 3) := by decide +kernel
theorem d_Mo_listByte_97 : decode prog_14_method_52_code 97 = .ok (.istore 4, 2) := by decide +kernel
theorem d_Mo_listByte_99 : decode prog_14_method_52_code 99 = .ok (.aload_n 0, 1) := by decide +kernel
theorem d_Mo_listByte_100 : decode prog_14_method_52_code 100 = .ok (.iload_n 3, 1) := by decide +kernel
theorem d_Mo_listByte_101 : decode prog_14_method_52_code 101 = .ok (.i2l, 1) := by decide +kernel
theorem d_Mo_listByte_102 : decode prog_14_method_52_code 102 = .ok (.invokevirtual 234, 3) := by decide +kernel
theorem d_Mo_listByte_105 : decode prog_14_method_52_code 105 = .ok (.aload_n 0, 1) := by decide +kernel
theorem d_Mo_listByte_106 : decode prog_14_method_52_code 106 = .ok (.bipush 32, 2) := by decide +kernel
theorem d_Mo_listByte_108 : decode prog_14_method_52_code 108 = .ok (.invokevirtual 223, 3) := by decide +kernel
theorem d_Mo_listByte_111 : decode prog_14_method_52_code 111 = .ok (.aload_n 0, 1) := by decide +kernel
theorem d_Mo_listByte_112 : decode prog_14_method_52_code 112 = .ok (.aload_n 0, 1) := by decide +kernel
theorem d_Mo_listByte_113 : decode prog_14_method_52_code 113 = .ok (.getfield 80, 3) := by decide +kernel
theorem d_Mo_listByte_116 : decode prog_14_method_52_code 116 = .ok (.iload 4, 2) := by decide +kernel
theorem d_Mo_listByte_118 : decode prog_14_method_52_code 118 = .ok (.baload, 1) := by decide +kernel
theorem d_Mo_listByte_119 : decode prog_14_method_52_code 119 = .ok (.iconst 2, 1) := by decide +kernel
theorem d_Mo_listByte_120 : decode prog_14_method_52_code 120 = .ok (.if_icmp .ne 8, 3) := by decide +kernel
theorem d_Mo_listByte_128 : decode prog_14_method_52_code 128 = .ok (.aload_n 0, 1) := by decide +kernel
theorem d_Mo_listByte_129 : decode prog_14_method_52_code 129 = .ok (.getfield 80, 3) := by decide +kernel
theorem d_Mo_listByte_132 : decode prog_14_method_52_code 132 = .ok (.iload 4, 2) := by decide +kernel
theorem d_Mo_listByte_134 : decode prog_14_method_52_code 134 = .ok (.baload, 1) := by decide +kernel
theorem d_Mo_listByte_135 : decode prog_14_method_52_code 135 = .ok (.iconst 3, 1) := by decide +kernel
theorem d_Mo_listByte_136 : decode prog_14_method_52_code 136 = .ok (.if_icmp .ne 8, 3) := by decide +kernel
theorem d_Mo_listByte_144 : decode prog_14_method_52_code 144 = .ok (.bipush 76, 2) := by decide +kernel
theorem d_Mo_listByte_139 : decode prog_14_method_52_code 139 = .ok (.bipush 86, 2) := by decide +kernel
theorem d_Mo_listByte_141 : decode prog_14_method_52_code 141 = .ok (.goto 5, 3) := by decide +kernel
theorem d_Mo_listByte_123 : decode prog_14_method_52_code 123 = .ok (.bipush 85, 2) := by decide +kernel
theorem d_Mo_listByte_125 : decode prog_14_method_52_code 125 = .ok (.goto 21, 3) := by decide +kernel
theorem d_Mo_listByte_63 : decode prog_14_method_52_code 63 = .ok (.ireturn, 1) := by decide +kernel
theorem d_Mo_listByte_146 : decode prog_14_method_52_code 146 = .ok (.invokevirtual 223, 3) := by decide +kernel
theorem d_Mo_listByte_149 : decode prog_14_method_52_code 149 = .ok (.aload_n 0, 1) := by decide +kernel
theorem d_Mo_listByte_150 : decode prog_14_method_52_code 150 = .ok (.getfield 80, 3) := by decide +kernel
theorem d_Mo_listByte_153 : decode prog_14_method_52_code 153 = .ok (.iload 4, 2) := by decide +kernel
theorem d_Mo_listByte_155 : decode prog_14_method_52_code 155 = .ok (.baload, 1) := by decide +kernel
theorem d_Mo_listByte_156 : decode prog_14_method_52_code 156 = .ok (.iconst 2, 1) := by decide +kernel
theorem d_Mo_listByte_157 : decode prog_14_method_52_code 157 = .ok (.if_icmp .ne 32, 3) := by decide +kernel
theorem d_Mo_listByte_160 : decode prog_14_method_52_code 160 = .ok (.aload_n 0, 1) := by decide +kernel
theorem d_Mo_listByte_161 : decode prog_14_method_52_code 161 = .ok (.bipush 32, 2) := by decide +kernel
theorem d_Mo_listByte_163 : decode prog_14_method_52_code 163 = .ok (.invokevirtual 223, 3) := by decide +kernel
theorem d_Mo_listByte_166 : decode prog_14_method_52_code 166 = .ok (.aload_n 0, 1) := by decide +kernel
theorem d_Mo_listByte_167 : decode prog_14_method_52_code 167 = .ok (.aload_n 0, 1) := by decide +kernel
theorem d_Mo_listByte_168 : decode prog_14_method_52_code 168 = .ok (.getfield 86, 3) := by decide +kernel
theorem d_Mo_listByte_171 : decode prog_14_method_52_code 171 = .ok (.iload 4, 2) := by decide +kernel
theorem d_Mo_listByte_173 : decode prog_14_method_52_code 173 = .ok (.laload, 1) := by decide +kernel
theorem d_Mo_listByte_174 : decode prog_14_method_52_code 174 = .ok (.invokevirtual 238, 3) := by decide +kernel
theorem d_Mo_listByte_177 : decode prog_14_method_52_code 177 = .ok (.aload_n 0, 1) := by decide +kernel
theorem d_Mo_listByte_178 : decode prog_14_method_52_code 178 = .ok (.aload_n 0, 1) := by decide +kernel
theorem d_Mo_listByte_179 : decode prog_14_method_52_code 179 = .ok (.getfield 89, 3) := by decide +kernel
theorem d_Mo_listByte_182 : decode prog_14_method_52_code 182 = .ok (.iload 4, 2) := by decide +kernel
theorem d_Mo_listByte_184 : decode prog_14_method_52_code 184 = .ok (.iaload, 1) := by decide +kernel
theorem d_Mo_listByte_185 : decode prog_14_method_52_code 185 = .ok (.i2l, 1) := by decide +kernel
theorem d_Mo_listByte_186 : decode prog_14_method_52_code 186 = .ok (.invokevirtual 234, 3) := by decide +kernel
theorem d_Mo_listByte_189 : decode prog_14_method_52_code 189 = .ok (.aload_n 0, 1) := by decide +kernel
theorem d_Mo_listByte_190 : decode prog_14_method_52_code 190 = .ok (.getfield 80, 3) := by decide +kernel
theorem d_Mo_listByte_193 : decode prog_14_method_52_code 193 = .ok (.iload 4, 2) := by decide +kernel
theorem d_Mo_listByte_195 : decode prog_14_method_52_code 195 = .ok (.baload, 1) := by decide +kernel
theorem d_Mo_listByte_196 : decode prog_14_method_52_code 196 = .ok (.iconst 3, 1) := by decide +kernel
theorem d_Mo_listByte_197 : decode prog_14_method_52_code 197 = .ok (.if_icmp .ne 21, 3) := by decide +kernel
theorem d_Mo_listByte_200 : decode prog_14_method_52_code 200 = .ok (.aload_n 0, 1) := by decide +kernel
theorem d_Mo_listByte_201 : decode prog_14_method_52_code 201 = .ok (.bipush 32, 2) := by decide +kernel
theorem d_Mo_listByte_203 : decode prog_14_method_52_code 203 = .ok (.invokevirtual 223, 3) := by decide +kernel
theorem d_Mo_listByte_206 : decode prog_14_method_52_code 206 = .ok (.aload_n 0, 1) := by decide +kernel
theorem d_Mo_listByte_207 : decode prog_14_method_52_code 207 = .ok (.aload_n 0, 1) := by decide +kernel
theorem d_Mo_listByte_208 : decode prog_14_method_52_code 208 = .ok (.getfield 92, 3) := by decide +kernel
theorem d_Mo_listByte_211 : decode prog_14_method_52_code 211 = .ok (.iload 4, 2) := by decide +kernel
theorem d_Mo_listByte_213 : decode prog_14_method_52_code 213 = .ok (.baload, 1) := by decide +kernel
theorem d_Mo_listByte_214 : decode prog_14_method_52_code 214 = .ok (.i2l, 1) := by decide +kernel
theorem d_Mo_listByte_215 : decode prog_14_method_52_code 215 = .ok (.invokevirtual 234, 3) := by decide +kernel
theorem d_Mo_listByte_218 : decode prog_14_method_52_code 218 = .ok (.aload_n 0, 1) := by decide +kernel
theorem d_Mo_listByte_219 : decode prog_14_method_52_code 219 = .ok (.bipush 10, 2) := by decide +kernel
theorem d_Mo_listByte_221 : decode prog_14_method_52_code 221 = .ok (.invokevirtual 223, 3) := by decide +kernel
theorem d_Mo_listByte_224 : decode prog_14_method_52_code 224 = .ok (.iinc 3 1, 3) := by decide +kernel
theorem d_Mo_listByte_227 : decode prog_14_method_52_code 227 = .ok (.goto (-146), 3) := by decide +kernel
theorem d_No_init_70 : decode prog_1_method_1_code 70 = .ok (.putfield 37, 3) := by decide +kernel
theorem d_No_init_73 : decode prog_1_method_1_code 73 = .ok (.return_, 1) := by decide +kernel
theorem d_No_init_30 : decode prog_1_method_1_code 30 = .ok (.aload_n 0, 1) := by decide +kernel
theorem d_No_init_31 : decode prog_1_method_1_code 31 = .ok (.getfield 20, 3) := by decide +kernel
theorem d_No_init_34 : decode prog_1_method_1_code 34 = .ok (.iload_n 3, 1) := by decide +kernel
theorem d_No_init_35 : decode prog_1_method_1_code 35 = .ok (.new 18, 3) := by decide +kernel
theorem d_No_init_38 : decode prog_1_method_1_code 38 = .ok (.dup, 1) := by decide +kernel
theorem d_No_init_39 : decode prog_1_method_1_code 39 = .ok (.iload_n 3, 1) := by decide +kernel
theorem d_No_init_40 : decode prog_1_method_1_code 40 = .ok (.invokespecial 24, 3) := by decide +kernel
theorem d_BranchSeries_init_12 : decode prog_5_method_1_code 12 = .ok (.putfield 12, 3) := by decide +kernel
theorem d_BranchSeries_init_15 : decode prog_5_method_1_code 15 = .ok (.aload_n 0, 1) := by decide +kernel
theorem d_BranchSeries_init_16 : decode prog_5_method_1_code 16 = .ok (.new 9, 3) := by decide +kernel
theorem d_BranchSeries_init_19 : decode prog_5_method_1_code 19 = .ok (.dup, 1) := by decide +kernel
theorem d_BranchSeries_init_20 : decode prog_5_method_1_code 20 = .ok (.invokespecial 11, 3) := by decide +kernel
theorem d_BranchSeries_init_23 : decode prog_5_method_1_code 23 = .ok (.putfield 18, 3) := by decide +kernel
theorem d_BranchSeries_init_26 : decode prog_5_method_1_code 26 = .ok (.return_, 1) := by decide +kernel
theorem d_No_again_34 : decode prog_1_method_5_code 34 = .ok (.aload_n 0, 1) := by decide +kernel
theorem d_No_again_35 : decode prog_1_method_5_code 35 = .ok (.aload_n 3, 1) := by decide +kernel
theorem d_No_again_36 : decode prog_1_method_5_code 36 = .ok (.invokevirtual 101, 3) := by decide +kernel
theorem d_ArrayList_grow_10 : decode prog_31_method_7_code 10 = .ok (.areturn, 1) := by decide +kernel
theorem d_BranchSeries_forget_26 : decode prog_5_method_3_code 26 = .ok (.pop, 1) := by decide +kernel
theorem d_BranchSeries_forget_27 : decode prog_5_method_3_code 27 = .ok (.iinc 1 (-1), 3) := by decide +kernel
theorem d_BranchSeries_forget_30 : decode prog_5_method_3_code 30 = .ok (.goto (-20), 3) := by decide +kernel
theorem d_BranchSeries_forget_43 : decode prog_5_method_3_code 43 = .ok (.iload_n 1, 1) := by decide +kernel
theorem d_BranchSeries_forget_44 : decode prog_5_method_3_code 44 = .ok (.aload_n 0, 1) := by decide +kernel
theorem d_BranchSeries_forget_45 : decode prog_5_method_3_code 45 = .ok (.getfield 29, 3) := by decide +kernel
theorem d_BranchSeries_forget_48 : decode prog_5_method_3_code 48 = .ok (.if_icmp .lt 18, 3) := by decide +kernel
theorem d_BranchSeries_forget_66 : decode prog_5_method_3_code 66 = .ok (.aload_n 0, 1) := by decide +kernel
theorem d_BranchSeries_forget_67 : decode prog_5_method_3_code 67 = .ok (.aload_n 0, 1) := by decide +kernel
theorem d_BranchSeries_forget_68 : decode prog_5_method_3_code 68 = .ok (.getfield 35, 3) := by decide +kernel
theorem d_BranchSeries_forget_71 : decode prog_5_method_3_code 71 = .ok (.putfield 32, 3) := by decide +kernel
theorem d_BranchSeries_forget_74 : decode prog_5_method_3_code 74 = .ok (.aload_n 0, 1) := by decide +kernel
theorem d_BranchSeries_forget_75 : decode prog_5_method_3_code 75 = .ok (.aload_n 0, 1) := by decide +kernel
theorem d_BranchSeries_forget_76 : decode prog_5_method_3_code 76 = .ok (.getfield 41, 3) := by decide +kernel
theorem d_BranchSeries_forget_79 : decode prog_5_method_3_code 79 = .ok (.putfield 38, 3) := by decide +kernel
theorem d_BranchSeries_forget_82 : decode prog_5_method_3_code 82 = .ok (.aload_n 0, 1) := by decide +kernel
theorem d_BranchSeries_forget_83 : decode prog_5_method_3_code 83 = .ok (.aload_n 0, 1) := by decide +kernel
theorem d_BranchSeries_forget_84 : decode prog_5_method_3_code 84 = .ok (.getfield 47, 3) := by decide +kernel
theorem d_BranchSeries_forget_87 : decode prog_5_method_3_code 87 = .ok (.putfield 44, 3) := by decide +kernel
theorem d_BranchSeries_forget_90 : decode prog_5_method_3_code 90 = .ok (.return_, 1) := by decide +kernel
theorem d_BranchSeries_forget_51 : decode prog_5_method_3_code 51 = .ok (.aload_n 0, 1) := by decide +kernel
theorem d_BranchSeries_forget_52 : decode prog_5_method_3_code 52 = .ok (.getfield 18, 3) := by decide +kernel
theorem d_BranchSeries_forget_55 : decode prog_5_method_3_code 55 = .ok (.iload_n 1, 1) := by decide +kernel
theorem d_BranchSeries_forget_56 : decode prog_5_method_3_code 56 = .ok (.invokevirtual 50, 3) := by decide +kernel
theorem d_BranchSeries_forget_59 : decode prog_5_method_3_code 59 = .ok (.pop, 1) := by decide +kernel
theorem d_BranchSeries_forget_60 : decode prog_5_method_3_code 60 = .ok (.iinc 1 (-1), 3) := by decide +kernel
theorem d_BranchSeries_forget_63 : decode prog_5_method_3_code 63 = .ok (.goto (-20), 3) := by decide +kernel
theorem d_No_letter_5 : decode prog_1_method_15_code 5 = .ok (.astore_n 3, 1) := by decide +kernel
theorem d_No_letter_6 : decode prog_1_method_15_code 6 = .ok (.aload_n 3, 1) := by decide +kernel
theorem d_No_letter_7 : decode prog_1_method_15_code 7 = .ok (.ifnonnull 5, 3) := by decide +kernel
theorem d_No_letter_10 : decode prog_1_method_15_code 10 = .ok (.iconst (-1), 1) := by decide +kernel
theorem d_No_letter_11 : decode prog_1_method_15_code 11 = .ok (.ireturn, 1) := by decide +kernel
theorem d_No_letter_12 : decode prog_1_method_15_code 12 = .ok (.iload_n 2, 1) := by decide +kernel
theorem d_No_letter_13 : decode prog_1_method_15_code 13 = .ok (.tableswitch 42 0 2 #[27, 32, 37], 27) := by decide +kernel
theorem d_No_letter_55 : decode prog_1_method_15_code 55 = .ok (.iconst (-1), 1) := by decide +kernel
theorem d_No_letter_56 : decode prog_1_method_15_code 56 = .ok (.ireturn, 1) := by decide +kernel
theorem d_No_letter_50 : decode prog_1_method_15_code 50 = .ok (.aload_n 3, 1) := by decide +kernel
theorem d_No_letter_51 : decode prog_1_method_15_code 51 = .ok (.getfield 165, 3) := by decide +kernel
theorem d_No_letter_54 : decode prog_1_method_15_code 54 = .ok (.ireturn, 1) := by decide +kernel
theorem d_No_letter_45 : decode prog_1_method_15_code 45 = .ok (.aload_n 3, 1) := by decide +kernel
theorem d_No_letter_46 : decode prog_1_method_15_code 46 = .ok (.getfield 162, 3) := by decide +kernel
theorem d_No_letter_49 : decode prog_1_method_15_code 49 = .ok (.ireturn, 1) := by decide +kernel
theorem d_No_letter_40 : decode prog_1_method_15_code 40 = .ok (.aload_n 3, 1) := by decide +kernel
theorem d_No_letter_41 : decode prog_1_method_15_code 41 = .ok (.getfield 156, 3) := by decide +kernel
theorem d_No_letter_44 : decode prog_1_method_15_code 44 = .ok (.ireturn, 1) := by decide +kernel
theorem d_Office_take_111 : decode prog_10_method_8_code 111 = .ok (.iinc 4 1, 3) := by decide +kernel
theorem d_Office_take_114 : decode prog_10_method_8_code 114 = .ok (.goto (-24), 3) := by decide +kernel
theorem d_No_invoice_53 : decode prog_1_method_6_code 53 = .ok (.ifCond .ne 5, 3) := by decide +kernel
theorem d_No_invoice_58 : decode prog_1_method_6_code 58 = .ok (.aload 7, 2) := by decide +kernel
theorem d_No_invoice_60 : decode prog_1_method_6_code 60 = .ok (.iconst 1, 1) := by decide +kernel
theorem d_No_invoice_61 : decode prog_1_method_6_code 61 = .ok (.lload_n 3, 1) := by decide +kernel
theorem d_No_invoice_62 : decode prog_1_method_6_code 62 = .ok (.iload 5, 2) := by decide +kernel
theorem d_No_invoice_64 : decode prog_1_method_6_code 64 = .ok (.invokevirtual 110, 3) := by decide +kernel
theorem d_Law_strike_7 : decode method_9_code 7 = .ok (.i2l, 1) := by decide +kernel
theorem d_Law_strike_8 : decode method_9_code 8 = .ok (.lastore, 1) := by decide +kernel
theorem d_Law_strike_9 : decode method_9_code 9 = .ok (.goto 6, 3) := by decide +kernel
theorem d_Law_strike_15 : decode method_9_code 15 = .ok (.iconst 0, 1) := by decide +kernel
theorem d_Law_strike_16 : decode method_9_code 16 = .ok (.ireturn, 1) := by decide +kernel
theorem d_Law_strike_12 : decode method_9_code 12 = .ok (.astore_n 3, 1) := by decide +kernel
theorem d_Law_strike_13 : decode method_9_code 13 = .ok (.iconst 1, 1) := by decide +kernel
theorem d_Law_strike_14 : decode method_9_code 14 = .ok (.ireturn, 1) := by decide +kernel
theorem d_SeriesBook_shut_13 : decode prog_11_method_5_code 13 = .ok (.aload_n 0, 1) := by decide +kernel
theorem d_SeriesBook_shut_14 : decode prog_11_method_5_code 14 = .ok (.invokevirtual 50, 3) := by decide +kernel
theorem d_AbstractStringBuilder_append_10 : decode prog_16_method_31_code 10 = .ok (.aload_n 0, 1) := by decide +kernel
theorem d_AbstractStringBuilder_append_11 : decode prog_16_method_31_code 11 = .ok (.invokevirtual 83, 3) := by decide +kernel
theorem d_AbstractStringBuilder_append_14 : decode prog_16_method_31_code 14 = .ok (.ifCond .eq 31, 3) := by decide +kernel
theorem d_AbstractStringBuilder_append_17 : decode prog_16_method_31_code 17 = .ok (.iload_n 1, 1) := by decide +kernel
theorem d_AbstractStringBuilder_append_18 : decode prog_16_method_31_code 18 = .ok (.invokestatic 191, 3) := by decide +kernel
theorem d_AbstractStringBuilder_append_21 : decode prog_16_method_31_code 21 = .ok (.ifCond .eq 24, 3) := by decide +kernel
theorem d_AbstractStringBuilder_append_24 : decode prog_16_method_31_code 24 = .ok (.aload_n 0, 1) := by decide +kernel
theorem d_AbstractStringBuilder_append_25 : decode prog_16_method_31_code 25 = .ok (.getfield 15, 3) := by decide +kernel
theorem d_AbstractStringBuilder_append_28 : decode prog_16_method_31_code 28 = .ok (.aload_n 0, 1) := by decide +kernel
theorem d_AbstractStringBuilder_append_29 : decode prog_16_method_31_code 29 = .ok (.dup, 1) := by decide +kernel
theorem d_AbstractStringBuilder_append_30 : decode prog_16_method_31_code 30 = .ok (.getfield 79, 3) := by decide +kernel
theorem d_AbstractStringBuilder_append_33 : decode prog_16_method_31_code 33 = .ok (.dup_x1, 1) := by decide +kernel
theorem d_AbstractStringBuilder_append_34 : decode prog_16_method_31_code 34 = .ok (.iconst 1, 1) := by decide +kernel
theorem d_AbstractStringBuilder_append_35 : decode prog_16_method_31_code 35 = .ok (.iadd, 1) := by decide +kernel
theorem d_AbstractStringBuilder_append_36 : decode prog_16_method_31_code 36 = .ok (.putfield 79, 3) := by decide +kernel
theorem d_AbstractStringBuilder_append_39 : decode prog_16_method_31_code 39 = .ok (.iload_n 1, 1) := by decide +kernel
theorem d_AbstractStringBuilder_append_40 : decode prog_16_method_31_code 40 = .ok (.i2b, 1) := by decide +kernel
theorem d_AbstractStringBuilder_append_41 : decode prog_16_method_31_code 41 = .ok (.bastore, 1) := by decide +kernel
theorem d_AbstractStringBuilder_append_42 : decode prog_16_method_31_code 42 = .ok (.goto 33, 3) := by decide +kernel
theorem d_AbstractStringBuilder_append_45 : decode prog_16_method_31_code 45 = .ok (.aload_n 0, 1) := by decide +kernel
theorem d_AbstractStringBuilder_append_46 : decode prog_16_method_31_code 46 = .ok (.invokevirtual 83, 3) := by decide +kernel
theorem d_AbstractStringBuilder_append_49 : decode prog_16_method_31_code 49 = .ok (.ifCond .eq 7, 3) := by decide +kernel
theorem d_AbstractStringBuilder_append_52 : decode prog_16_method_31_code 52 = .ok (.aload_n 0, 1) := by decide +kernel
theorem d_AbstractStringBuilder_append_53 : decode prog_16_method_31_code 53 = .ok (.invokevirtual 195, 3) := by decide +kernel
theorem d_StringUTF16_inflate_7 : decode prog_26_method_86_code 7 = .ok (.iconst 0, 1) := by decide +kernel
theorem d_StringUTF16_inflate_8 : decode prog_26_method_86_code 8 = .ok (.istore 5, 2) := by decide +kernel
theorem d_StringUTF16_inflate_10 : decode prog_26_method_86_code 10 = .ok (.iload 5, 2) := by decide +kernel
theorem d_StringUTF16_inflate_12 : decode prog_26_method_86_code 12 = .ok (.iload 4, 2) := by decide +kernel
theorem d_StringUTF16_inflate_14 : decode prog_26_method_86_code 14 = .ok (.if_icmp .ge 27, 3) := by decide +kernel
theorem d_StringUTF16_inflate_41 : decode prog_26_method_86_code 41 = .ok (.return_, 1) := by decide +kernel
theorem d_StringUTF16_inflate_17 : decode prog_26_method_86_code 17 = .ok (.aload_n 2, 1) := by decide +kernel
theorem d_StringUTF16_inflate_18 : decode prog_26_method_86_code 18 = .ok (.iload_n 3, 1) := by decide +kernel
theorem d_StringUTF16_inflate_19 : decode prog_26_method_86_code 19 = .ok (.iinc 3 1, 3) := by decide +kernel
theorem d_StringUTF16_inflate_22 : decode prog_26_method_86_code 22 = .ok (.aload_n 0, 1) := by decide +kernel
theorem d_StringUTF16_inflate_23 : decode prog_26_method_86_code 23 = .ok (.iload_n 1, 1) := by decide +kernel
theorem d_StringUTF16_inflate_24 : decode prog_26_method_86_code 24 = .ok (.iinc 1 1, 3) := by decide +kernel
theorem d_StringUTF16_inflate_27 : decode prog_26_method_86_code 27 = .ok (.baload, 1) := by decide +kernel
theorem d_StringUTF16_inflate_28 : decode prog_26_method_86_code 28 = .ok (.sipush 255, 3) := by decide +kernel
theorem d_StringUTF16_inflate_31 : decode prog_26_method_86_code 31 = .ok (.iand, 1) := by decide +kernel
theorem d_StringUTF16_inflate_32 : decode prog_26_method_86_code 32 = .ok (.invokestatic 111, 3) := by decide +kernel
theorem d_StringUTF16_inflate_35 : decode prog_26_method_86_code 35 = .ok (.iinc 5 1, 3) := by decide +kernel
theorem d_StringUTF16_inflate_38 : decode prog_26_method_86_code 38 = .ok (.goto (-28), 3) := by decide +kernel
theorem d_StringUTF16_putCharsAt_12 : decode prog_26_method_81_code 12 = .ok (.aload_n 0, 1) := by decide +kernel
theorem d_StringUTF16_putCharsAt_13 : decode prog_26_method_81_code 13 = .ok (.iload_n 1, 1) := by decide +kernel
theorem d_StringUTF16_putCharsAt_14 : decode prog_26_method_81_code 14 = .ok (.iinc 1 1, 3) := by decide +kernel
theorem d_StringUTF16_putCharsAt_17 : decode prog_26_method_81_code 17 = .ok (.iload_n 2, 1) := by decide +kernel
theorem d_StringUTF16_putCharsAt_18 : decode prog_26_method_81_code 18 = .ok (.invokestatic 111, 3) := by decide +kernel
theorem d_StringUTF16_putCharsAt_21 : decode prog_26_method_81_code 21 = .ok (.aload_n 0, 1) := by decide +kernel
theorem d_StringUTF16_putCharsAt_22 : decode prog_26_method_81_code 22 = .ok (.iload_n 1, 1) := by decide +kernel
theorem d_StringUTF16_putCharsAt_23 : decode prog_26_method_81_code 23 = .ok (.iinc 1 1, 3) := by decide +kernel
theorem d_StringUTF16_putCharsAt_26 : decode prog_26_method_81_code 26 = .ok (.iload_n 3, 1) := by decide +kernel
theorem d_StringUTF16_putCharsAt_27 : decode prog_26_method_81_code 27 = .ok (.invokestatic 111, 3) := by decide +kernel
theorem d_StringUTF16_putCharsAt_30 : decode prog_26_method_81_code 30 = .ok (.aload_n 0, 1) := by decide +kernel
theorem d_StringUTF16_putCharsAt_31 : decode prog_26_method_81_code 31 = .ok (.iload_n 1, 1) := by decide +kernel
theorem d_StringUTF16_putCharsAt_32 : decode prog_26_method_81_code 32 = .ok (.iinc 1 1, 3) := by decide +kernel
theorem d_StringUTF16_putCharsAt_35 : decode prog_26_method_81_code 35 = .ok (.iload 4, 2) := by decide +kernel
theorem d_StringUTF16_putCharsAt_37 : decode prog_26_method_81_code 37 = .ok (.invokestatic 111, 3) := by decide +kernel
theorem d_StringUTF16_putCharsAt_40 : decode prog_26_method_81_code 40 = .ok (.aload_n 0, 1) := by decide +kernel
theorem d_StringUTF16_putCharsAt_41 : decode prog_26_method_81_code 41 = .ok (.iload_n 1, 1) := by decide +kernel
theorem d_StringUTF16_putCharsAt_42 : decode prog_26_method_81_code 42 = .ok (.iinc 1 1, 3) := by decide +kernel
theorem d_StringUTF16_putCharsAt_45 : decode prog_26_method_81_code 45 = .ok (.iload 5, 2) := by decide +kernel
theorem d_StringUTF16_putCharsAt_47 : decode prog_26_method_81_code 47 = .ok (.invokestatic 111, 3) := by decide +kernel
theorem d_StringUTF16_putCharsAt_50 : decode prog_26_method_81_code 50 = .ok (.getstatic 44, 3) := by decide +kernel
theorem d_StringUTF16_putCharsAt_53 : decode prog_26_method_81_code 53 = .ok (.ifCond .ne 17, 3) := by decide +kernel
theorem d_StringUTF16_putCharsAt_70 : decode prog_26_method_81_code 70 = .ok (.iload 6, 2) := by decide +kernel
theorem d_StringUTF16_putCharsAt_72 : decode prog_26_method_81_code 72 = .ok (.ireturn, 1) := by decide +kernel
theorem d_StringUTF16_compress_12 : decode prog_26_method_17_code 12 = .ok (.istore 4, 2) := by decide +kernel
theorem d_StringUTF16_compress_14 : decode prog_26_method_17_code 14 = .ok (.iload 4, 2) := by decide +kernel
theorem d_StringUTF16_compress_16 : decode prog_26_method_17_code 16 = .ok (.iload_n 2, 1) := by decide +kernel
theorem d_StringUTF16_compress_17 : decode prog_26_method_17_code 17 = .ok (.if_icmp .eq 47, 3) := by decide +kernel
theorem d_StringUTF16_compress_20 : decode prog_26_method_17_code 20 = .ok (.aload_n 0, 1) := by decide +kernel
theorem d_StringUTF16_compress_21 : decode prog_26_method_17_code 21 = .ok (.iload_n 1, 1) := by decide +kernel
theorem d_StringUTF16_compress_22 : decode prog_26_method_17_code 22 = .ok (.iconst 1, 1) := by decide +kernel
theorem d_StringUTF16_compress_23 : decode prog_26_method_17_code 23 = .ok (.ishl, 1) := by decide +kernel
theorem d_StringUTF16_compress_24 : decode prog_26_method_17_code 24 = .ok (.iload_n 1, 1) := by decide +kernel
theorem d_StringUTF16_compress_25 : decode prog_26_method_17_code 25 = .ok (.iload_n 2, 1) := by decide +kernel
theorem d_StringUTF16_compress_26 : decode prog_26_method_17_code 26 = .ok (.iadd, 1) := by decide +kernel
theorem d_StringUTF16_compress_27 : decode prog_26_method_17_code 27 = .ok (.invokestatic 11, 3) := by decide +kernel
theorem d_StringUTF16_compress_30 : decode prog_26_method_17_code 30 = .ok (.invokestatic 126, 3) := by decide +kernel
theorem d_StringUTF16_compress_33 : decode prog_26_method_17_code 33 = .ok (.astore 5, 2) := by decide +kernel
theorem d_StringUTF16_compress_35 : decode prog_26_method_17_code 35 = .ok (.aload 5, 2) := by decide +kernel
theorem d_StringUTF16_compress_37 : decode prog_26_method_17_code 37 = .ok (.iload 4, 2) := by decide +kernel
theorem d_StringUTF16_compress_39 : decode prog_26_method_17_code 39 = .ok (.invokestatic 71, 3) := by decide +kernel
theorem d_StringUTF16_compress_42 : decode prog_26_method_17_code 42 = .ok (.sipush 255, 3) := by decide +kernel
theorem d_StringUTF16_compress_45 : decode prog_26_method_17_code 45 = .ok (.if_icmp .gt 16, 3) := by decide +kernel
theorem d_StringUTF16_compress_48 : decode prog_26_method_17_code 48 = .ok (.aload 5, 2) := by decide +kernel
theorem d_StringUTF16_compress_50 : decode prog_26_method_17_code 50 = .ok (.iconst 0, 1) := by decide +kernel
theorem d_StringUTF16_compress_51 : decode prog_26_method_17_code 51 = .ok (.aload_n 3, 1) := by decide +kernel
theorem d_StringUTF16_compress_52 : decode prog_26_method_17_code 52 = .ok (.iconst 0, 1) := by decide +kernel
theorem d_StringUTF16_compress_53 : decode prog_26_method_17_code 53 = .ok (.iload_n 2, 1) := by decide +kernel
theorem d_StringUTF16_compress_54 : decode prog_26_method_17_code 54 = .ok (.invokestatic 123, 3) := by decide +kernel
theorem d_StringUTF16_compress_57 : decode prog_26_method_17_code 57 = .ok (.iload_n 2, 1) := by decide +kernel
theorem d_StringUTF16_compress_58 : decode prog_26_method_17_code 58 = .ok (.if_icmp .eq 6, 3) := by decide +kernel
theorem d_StringUTF16_compress_64 : decode prog_26_method_17_code 64 = .ok (.aload_n 3, 1) := by decide +kernel
theorem d_StringUTF16_compress_65 : decode prog_26_method_17_code 65 = .ok (.areturn, 1) := by decide +kernel
theorem d_StringUTF16_compress_61 : decode prog_26_method_17_code 61 = .ok (.aload 5, 2) := by decide +kernel
theorem d_StringUTF16_compress_63 : decode prog_26_method_17_code 63 = .ok (.areturn, 1) := by decide +kernel
theorem d_SeriesBook_listByteAt_23 : decode prog_11_method_14_code 23 = .ok (.goto 4, 3) := by decide +kernel
theorem d_SeriesBook_listByteAt_26 : decode prog_11_method_14_code 26 = .ok (.iconst (-1), 1) := by decide +kernel
theorem d_SeriesBook_listByteAt_27 : decode prog_11_method_14_code 27 = .ok (.ireturn, 1) := by decide +kernel
theorem d_Mo_sendLatest_5 : decode prog_14_method_11_code 5 = .ok (.aload_n 0, 1) := by decide +kernel
theorem d_Mo_sendLatest_6 : decode prog_14_method_11_code 6 = .ok (.aload_n 0, 1) := by decide +kernel
theorem d_Mo_sendLatest_7 : decode prog_14_method_11_code 7 = .ok (.getfield 56, 3) := by decide +kernel
theorem d_Mo_sendLatest_10 : decode prog_14_method_11_code 10 = .ok (.iload_n 1, 1) := by decide +kernel
theorem d_Mo_sendLatest_11 : decode prog_14_method_11_code 11 = .ok (.iaload, 1) := by decide +kernel
theorem d_Mo_sendLatest_12 : decode prog_14_method_11_code 12 = .ok (.iload_n 1, 1) := by decide +kernel
theorem d_Mo_sendLatest_13 : decode prog_14_method_11_code 13 = .ok (.aload_n 0, 1) := by decide +kernel
theorem d_Mo_sendLatest_14 : decode prog_14_method_11_code 14 = .ok (.getfield 53, 3) := by decide +kernel
theorem d_Mo_sendLatest_17 : decode prog_14_method_11_code 17 = .ok (.iload_n 1, 1) := by decide +kernel
theorem d_Mo_sendLatest_18 : decode prog_14_method_11_code 18 = .ok (.iaload, 1) := by decide +kernel
theorem d_Mo_sendLatest_19 : decode prog_14_method_11_code 19 = .ok (.aload_n 0, 1) := by decide +kernel
theorem d_Mo_sendLatest_20 : decode prog_14_method_11_code 20 = .ok (.getfield 59, 3) := by decide +kernel
theorem d_Mo_sendLatest_23 : decode prog_14_method_11_code 23 = .ok (.iload_n 1, 1) := by decide +kernel
theorem d_Mo_sendLatest_24 : decode prog_14_method_11_code 24 = .ok (.iaload, 1) := by decide +kernel
theorem d_Mo_sendLatest_25 : decode prog_14_method_11_code 25 = .ok (.aload_n 0, 1) := by decide +kernel
theorem d_Mo_sendLatest_26 : decode prog_14_method_11_code 26 = .ok (.getfield 62, 3) := by decide +kernel
theorem d_Mo_sendLatest_29 : decode prog_14_method_11_code 29 = .ok (.iload_n 1, 1) := by decide +kernel
theorem d_Mo_sendLatest_30 : decode prog_14_method_11_code 30 = .ok (.iaload, 1) := by decide +kernel
theorem d_Mo_sendLatest_31 : decode prog_14_method_11_code 31 = .ok (.aload_n 0, 1) := by decide +kernel
theorem d_Mo_sendLatest_32 : decode prog_14_method_11_code 32 = .ok (.getfield 26, 3) := by decide +kernel
theorem d_Mo_sendLatest_35 : decode prog_14_method_11_code 35 = .ok (.iconst 3, 1) := by decide +kernel
theorem d_Mo_sendLatest_36 : decode prog_14_method_11_code 36 = .ok (.iload_n 1, 1) := by decide +kernel
theorem d_Mo_sendLatest_37 : decode prog_14_method_11_code 37 = .ok (.imul, 1) := by decide +kernel
theorem d_Mo_sendLatest_38 : decode prog_14_method_11_code 38 = .ok (.aload_n 0, 1) := by decide +kernel
theorem d_Mo_sendLatest_39 : decode prog_14_method_11_code 39 = .ok (.getfield 59, 3) := by decide +kernel
theorem d_Mo_sendLatest_42 : decode prog_14_method_11_code 42 = .ok (.iload_n 1, 1) := by decide +kernel
theorem d_Mo_sendLatest_43 : decode prog_14_method_11_code 43 = .ok (.iaload, 1) := by decide +kernel
theorem d_Mo_sendLatest_44 : decode prog_14_method_11_code 44 = .ok (.iadd, 1) := by decide +kernel
theorem d_Mo_sendLatest_45 : decode prog_14_method_11_code 45 = .ok (.iaload, 1) := by decide +kernel
theorem d_Mo_sendLatest_46 : decode prog_14_method_11_code 46 = .ok (.iconst 0, 1) := by decide +kernel
theorem d_Mo_sendLatest_47 : decode prog_14_method_11_code 47 = .ok (.invokevirtual 140, 3) := by decide +kernel
theorem d_Mo_sendLatest_50 : decode prog_14_method_11_code 50 = .ok (.return_, 1) := by decide +kernel
theorem d_Mo_report_146 : decode prog_14_method_22_code 146 = .ok (.aload_n 0, 1) := by decide +kernel
theorem d_Mo_report_147 : decode prog_14_method_22_code 147 = .ok (.getfield 53, 3) := by decide +kernel
theorem d_Mo_report_150 : decode prog_14_method_22_code 150 = .ok (.iload_n 1, 1) := by decide +kernel
theorem d_Mo_report_151 : decode prog_14_method_22_code 151 = .ok (.iaload, 1) := by decide +kernel
theorem d_Mo_report_152 : decode prog_14_method_22_code 152 = .ok (.ireturn, 1) := by decide +kernel
theorem d_Mo_report_69 : decode prog_14_method_22_code 69 = .ok (.ireturn, 1) := by decide +kernel
theorem d_Mo_again_38 : decode prog_14_method_23_code 38 = .ok (.iconst 1, 1) := by decide +kernel
theorem d_Mo_again_39 : decode prog_14_method_23_code 39 = .ok (.ireturn, 1) := by decide +kernel
theorem d_Mo_again_31 : decode prog_14_method_23_code 31 = .ok (.iconst 0, 1) := by decide +kernel
theorem d_Mo_again_32 : decode prog_14_method_23_code 32 = .ok (.ireturn, 1) := by decide +kernel
theorem d_Mo_deliver_61 : decode prog_14_method_39_code 61 = .ok (.aload_n 0, 1) := by decide +kernel
theorem d_Mo_deliver_62 : decode prog_14_method_39_code 62 = .ok (.getfield 7, 3) := by decide +kernel
theorem d_Mo_deliver_65 : decode prog_14_method_39_code 65 = .ok (.aload_n 0, 1) := by decide +kernel
theorem d_Mo_deliver_66 : decode prog_14_method_39_code 66 = .ok (.getfield 113, 3) := by decide +kernel
theorem d_Mo_deliver_69 : decode prog_14_method_39_code 69 = .ok (.iconst 1, 1) := by decide +kernel
theorem d_Mo_deliver_70 : decode prog_14_method_39_code 70 = .ok (.iaload, 1) := by decide +kernel
theorem d_Mo_deliver_71 : decode prog_14_method_39_code 71 = .ok (.baload, 1) := by decide +kernel
theorem d_Mo_deliver_72 : decode prog_14_method_39_code 72 = .ok (.ifCond .ne 56, 3) := by decide +kernel
theorem d_Mo_deliver_75 : decode prog_14_method_39_code 75 = .ok (.aload_n 0, 1) := by decide +kernel
theorem d_Mo_deliver_76 : decode prog_14_method_39_code 76 = .ok (.aload_n 0, 1) := by decide +kernel
theorem d_Mo_deliver_77 : decode prog_14_method_39_code 77 = .ok (.getfield 113, 3) := by decide +kernel
theorem d_Mo_deliver_80 : decode prog_14_method_39_code 80 = .ok (.iconst 1, 1) := by decide +kernel
theorem d_Mo_deliver_81 : decode prog_14_method_39_code 81 = .ok (.iaload, 1) := by decide +kernel
theorem d_Mo_deliver_82 : decode prog_14_method_39_code 82 = .ok (.aload_n 0, 1) := by decide +kernel
theorem d_Mo_deliver_83 : decode prog_14_method_39_code 83 = .ok (.getfield 113, 3) := by decide +kernel
theorem d_Mo_deliver_86 : decode prog_14_method_39_code 86 = .ok (.iconst 2, 1) := by decide +kernel
theorem d_Mo_deliver_87 : decode prog_14_method_39_code 87 = .ok (.iaload, 1) := by decide +kernel
theorem d_Mo_deliver_88 : decode prog_14_method_39_code 88 = .ok (.aload_n 0, 1) := by decide +kernel
theorem d_Mo_deliver_89 : decode prog_14_method_39_code 89 = .ok (.getfield 113, 3) := by decide +kernel
theorem d_Mo_deliver_92 : decode prog_14_method_39_code 92 = .ok (.iconst 3, 1) := by decide +kernel
theorem d_Mo_deliver_93 : decode prog_14_method_39_code 93 = .ok (.iaload, 1) := by decide +kernel
theorem d_Mo_deliver_94 : decode prog_14_method_39_code 94 = .ok (.aload_n 0, 1) := by decide +kernel
theorem d_Mo_deliver_95 : decode prog_14_method_39_code 95 = .ok (.getfield 113, 3) := by decide +kernel
theorem d_Mo_deliver_98 : decode prog_14_method_39_code 98 = .ok (.iconst 4, 1) := by decide +kernel
theorem d_Mo_deliver_99 : decode prog_14_method_39_code 99 = .ok (.iaload, 1) := by decide +kernel
theorem d_Mo_deliver_100 : decode prog_14_method_39_code 100 = .ok (.aload_n 0, 1) := by decide +kernel
theorem d_Mo_deliver_101 : decode prog_14_method_39_code 101 = .ok (.getfield 113, 3) := by decide +kernel
theorem d_Mo_deliver_104 : decode prog_14_method_39_code 104 = .ok (.iconst 5, 1) := by decide +kernel
theorem d_Mo_deliver_105 : decode prog_14_method_39_code 105 = .ok (.iaload, 1) := by decide +kernel
theorem d_Mo_deliver_106 : decode prog_14_method_39_code 106 = .ok (.invokevirtual 198, 3) := by decide +kernel
theorem d_Mo_deliver_109 : decode prog_14_method_39_code 109 = .ok (.goto 19, 3) := by decide +kernel
theorem d_Mo_deliver_23 : decode prog_14_method_39_code 23 = .ok (.aload_n 0, 1) := by decide +kernel
theorem d_Mo_deliver_24 : decode prog_14_method_39_code 24 = .ok (.getfield 113, 3) := by decide +kernel
theorem d_Mo_deliver_27 : decode prog_14_method_39_code 27 = .ok (.iload_n 2, 1) := by decide +kernel
theorem d_Mo_deliver_28 : decode prog_14_method_39_code 28 = .ok (.aload_n 0, 1) := by decide +kernel
theorem d_Mo_deliver_29 : decode prog_14_method_39_code 29 = .ok (.getfield 110, 3) := by decide +kernel
theorem d_Mo_deliver_32 : decode prog_14_method_39_code 32 = .ok (.bipush 8, 2) := by decide +kernel
theorem d_Mo_deliver_34 : decode prog_14_method_39_code 34 = .ok (.iload_n 1, 1) := by decide +kernel
theorem d_Mo_deliver_35 : decode prog_14_method_39_code 35 = .ok (.imul, 1) := by decide +kernel
theorem d_Mo_deliver_36 : decode prog_14_method_39_code 36 = .ok (.iload_n 2, 1) := by decide +kernel
theorem d_Mo_deliver_37 : decode prog_14_method_39_code 37 = .ok (.iadd, 1) := by decide +kernel
theorem d_Mo_deliver_38 : decode prog_14_method_39_code 38 = .ok (.iaload, 1) := by decide +kernel
theorem d_Mo_deliver_39 : decode prog_14_method_39_code 39 = .ok (.iastore, 1) := by decide +kernel
theorem d_Mo_deliver_40 : decode prog_14_method_39_code 40 = .ok (.iinc 2 1, 3) := by decide +kernel
theorem d_Mo_deliver_43 : decode prog_14_method_39_code 43 = .ok (.goto (-26), 3) := by decide +kernel
theorem d_Mo_deliver_128 : decode prog_14_method_39_code 128 = .ok (.iconst 1, 1) := by decide +kernel
theorem d_Mo_deliver_129 : decode prog_14_method_39_code 129 = .ok (.ireturn, 1) := by decide +kernel
theorem d_Branch_init_36 : decode prog_4_method_1_code 36 = .ok (.aastore, 1) := by decide +kernel
theorem d_Branch_init_37 : decode prog_4_method_1_code 37 = .ok (.iinc 2 1, 3) := by decide +kernel
theorem d_Branch_init_40 : decode prog_4_method_1_code 40 = .ok (.goto (-21), 3) := by decide +kernel
theorem d_ArrayList_add2_10 : decode prog_31_method_24_code 10 = .ok (.astore_n 2, 1) := by decide +kernel
theorem d_ArrayList_add2_11 : decode prog_31_method_24_code 11 = .ok (.aload_n 2, 1) := by decide +kernel
theorem d_ArrayList_add2_12 : decode prog_31_method_24_code 12 = .ok (.iload_n 3, 1) := by decide +kernel
theorem d_ArrayList_add2_13 : decode prog_31_method_24_code 13 = .ok (.aload_n 1, 1) := by decide +kernel
theorem d_ArrayList_add2_14 : decode prog_31_method_24_code 14 = .ok (.aastore, 1) := by decide +kernel
theorem d_ArrayList_add2_15 : decode prog_31_method_24_code 15 = .ok (.aload_n 0, 1) := by decide +kernel
theorem d_ArrayList_add2_16 : decode prog_31_method_24_code 16 = .ok (.iload_n 3, 1) := by decide +kernel
theorem d_ArrayList_add2_17 : decode prog_31_method_24_code 17 = .ok (.iconst 1, 1) := by decide +kernel
theorem d_ArrayList_add2_18 : decode prog_31_method_24_code 18 = .ok (.iadd, 1) := by decide +kernel
theorem d_ArrayList_add2_19 : decode prog_31_method_24_code 19 = .ok (.putfield 48, 3) := by decide +kernel
theorem d_ArrayList_add2_22 : decode prog_31_method_24_code 22 = .ok (.return_, 1) := by decide +kernel
theorem d_Branch_forget_16 : decode prog_4_method_3_code 16 = .ok (.iinc 1 1, 3) := by decide +kernel
theorem d_Branch_forget_19 : decode prog_4_method_3_code 19 = .ok (.goto (-17), 3) := by decide +kernel
theorem d_Office_answerTo_63 : decode prog_10_method_7_code 63 = .ok (.astore 4, 2) := by decide +kernel
theorem d_Office_answerTo_65 : decode prog_10_method_7_code 65 = .ok (.aload_n 0, 1) := by decide +kernel
theorem d_Office_answerTo_66 : decode prog_10_method_7_code 66 = .ok (.getfield 30, 3) := by decide +kernel
theorem d_Office_answerTo_69 : decode prog_10_method_7_code 69 = .ok (.aload_n 1, 1) := by decide +kernel
theorem d_Office_answerTo_70 : decode prog_10_method_7_code 70 = .ok (.getfield 49, 3) := by decide +kernel
theorem d_Office_answerTo_73 : decode prog_10_method_7_code 73 = .ok (.aload 4, 2) := by decide +kernel
theorem d_Office_answerTo_75 : decode prog_10_method_7_code 75 = .ok (.aastore, 1) := by decide +kernel
theorem d_Office_answerTo_76 : decode prog_10_method_7_code 76 = .ok (.aload_n 0, 1) := by decide +kernel
theorem d_Office_answerTo_77 : decode prog_10_method_7_code 77 = .ok (.invokevirtual 63, 3) := by decide +kernel
theorem d_Office_answerTo_80 : decode prog_10_method_7_code 80 = .ok (.aload 4, 2) := by decide +kernel
theorem d_Office_answerTo_82 : decode prog_10_method_7_code 82 = .ok (.areturn, 1) := by decide +kernel
theorem d_Office_answerTo_56 : decode prog_10_method_7_code 56 = .ok (.aconst_null, 1) := by decide +kernel
theorem d_Office_answerTo_57 : decode prog_10_method_7_code 57 = .ok (.areturn, 1) := by decide +kernel
theorem d_Office_answerTo_44 : decode prog_10_method_7_code 44 = .ok (.aload_n 2, 1) := by decide +kernel
theorem d_Office_answerTo_45 : decode prog_10_method_7_code 45 = .ok (.areturn, 1) := by decide +kernel
theorem d_StringLatin1_inflate_9 : decode prog_25_method_50_code 9 = .ok (.return_, 1) := by decide +kernel
theorem d_AbstractStringBuilder_appendNull_75 : decode prog_16_method_26_code 75 = .ok (.istore_n 1, 1) := by decide +kernel
theorem d_AbstractStringBuilder_appendNull_27 : decode prog_16_method_26_code 27 = .ok (.aload_n 2, 1) := by decide +kernel
theorem d_AbstractStringBuilder_appendNull_28 : decode prog_16_method_26_code 28 = .ok (.iload_n 1, 1) := by decide +kernel
theorem d_AbstractStringBuilder_appendNull_29 : decode prog_16_method_26_code 29 = .ok (.iinc 1 1, 3) := by decide +kernel
theorem d_AbstractStringBuilder_appendNull_32 : decode prog_16_method_26_code 32 = .ok (.bipush 110, 2) := by decide +kernel
theorem d_AbstractStringBuilder_appendNull_34 : decode prog_16_method_26_code 34 = .ok (.bastore, 1) := by decide +kernel
theorem d_AbstractStringBuilder_appendNull_35 : decode prog_16_method_26_code 35 = .ok (.aload_n 2, 1) := by decide +kernel
theorem d_AbstractStringBuilder_appendNull_36 : decode prog_16_method_26_code 36 = .ok (.iload_n 1, 1) := by decide +kernel
theorem d_AbstractStringBuilder_appendNull_37 : decode prog_16_method_26_code 37 = .ok (.iinc 1 1, 3) := by decide +kernel
theorem d_AbstractStringBuilder_appendNull_40 : decode prog_16_method_26_code 40 = .ok (.bipush 117, 2) := by decide +kernel
theorem d_AbstractStringBuilder_appendNull_42 : decode prog_16_method_26_code 42 = .ok (.bastore, 1) := by decide +kernel
theorem d_AbstractStringBuilder_appendNull_43 : decode prog_16_method_26_code 43 = .ok (.aload_n 2, 1) := by decide +kernel
theorem d_AbstractStringBuilder_appendNull_44 : decode prog_16_method_26_code 44 = .ok (.iload_n 1, 1) := by decide +kernel
theorem d_AbstractStringBuilder_appendNull_45 : decode prog_16_method_26_code 45 = .ok (.iinc 1 1, 3) := by decide +kernel
theorem d_AbstractStringBuilder_appendNull_48 : decode prog_16_method_26_code 48 = .ok (.bipush 108, 2) := by decide +kernel
theorem d_AbstractStringBuilder_appendNull_50 : decode prog_16_method_26_code 50 = .ok (.bastore, 1) := by decide +kernel
theorem d_AbstractStringBuilder_appendNull_51 : decode prog_16_method_26_code 51 = .ok (.aload_n 2, 1) := by decide +kernel
theorem d_AbstractStringBuilder_appendNull_52 : decode prog_16_method_26_code 52 = .ok (.iload_n 1, 1) := by decide +kernel
theorem d_AbstractStringBuilder_appendNull_53 : decode prog_16_method_26_code 53 = .ok (.iinc 1 1, 3) := by decide +kernel
theorem d_AbstractStringBuilder_appendNull_56 : decode prog_16_method_26_code 56 = .ok (.bipush 108, 2) := by decide +kernel
theorem d_AbstractStringBuilder_appendNull_58 : decode prog_16_method_26_code 58 = .ok (.bastore, 1) := by decide +kernel
theorem d_AbstractStringBuilder_appendNull_59 : decode prog_16_method_26_code 59 = .ok (.goto 17, 3) := by decide +kernel
theorem d_AbstractStringBuilder_appendNull_76 : decode prog_16_method_26_code 76 = .ok (.aload_n 0, 1) := by decide +kernel
theorem d_AbstractStringBuilder_appendNull_77 : decode prog_16_method_26_code 77 = .ok (.iload_n 1, 1) := by decide +kernel
theorem d_AbstractStringBuilder_appendNull_78 : decode prog_16_method_26_code 78 = .ok (.putfield 79, 3) := by decide +kernel
theorem d_AbstractStringBuilder_appendNull_81 : decode prog_16_method_26_code 81 = .ok (.aload_n 0, 1) := by decide +kernel
theorem d_AbstractStringBuilder_appendNull_82 : decode prog_16_method_26_code 82 = .ok (.areturn, 1) := by decide +kernel
theorem d_String_getBytes_8 : decode prog_23_method_147_code 8 = .ok (.aload_n 0, 1) := by decide +kernel
theorem d_String_getBytes_9 : decode prog_23_method_147_code 9 = .ok (.getfield 9, 3) := by decide +kernel
theorem d_String_getBytes_12 : decode prog_23_method_147_code 12 = .ok (.iconst 0, 1) := by decide +kernel
theorem d_String_getBytes_13 : decode prog_23_method_147_code 13 = .ok (.aload_n 1, 1) := by decide +kernel
theorem d_String_getBytes_14 : decode prog_23_method_147_code 14 = .ok (.iload_n 2, 1) := by decide +kernel
theorem d_String_getBytes_15 : decode prog_23_method_147_code 15 = .ok (.iload_n 3, 1) := by decide +kernel
theorem d_String_getBytes_16 : decode prog_23_method_147_code 16 = .ok (.ishl, 1) := by decide +kernel
theorem d_String_getBytes_17 : decode prog_23_method_147_code 17 = .ok (.aload_n 0, 1) := by decide +kernel
theorem d_String_getBytes_18 : decode prog_23_method_147_code 18 = .ok (.getfield 9, 3) := by decide +kernel
theorem d_String_getBytes_21 : decode prog_23_method_147_code 21 = .ok (.arraylength, 1) := by decide +kernel
theorem d_String_getBytes_22 : decode prog_23_method_147_code 22 = .ok (.invokestatic 212, 3) := by decide +kernel
theorem d_String_getBytes_25 : decode prog_23_method_147_code 25 = .ok (.goto 18, 3) := by decide +kernel
theorem d_String_getBytes_43 : decode prog_23_method_147_code 43 = .ok (.return_, 1) := by decide +kernel
theorem d_String_init2_62 : decode prog_23_method_150_code 62 = .ok (.putfield 9, 3) := by decide +kernel
theorem d_String_init2_65 : decode prog_23_method_150_code 65 = .ok (.aload_n 0, 1) := by decide +kernel
theorem d_String_init2_66 : decode prog_23_method_150_code 66 = .ok (.aload_n 0, 1) := by decide +kernel
theorem d_String_init2_67 : decode prog_23_method_150_code 67 = .ok (.getfield 9, 3) := by decide +kernel
theorem d_String_init2_70 : decode prog_23_method_150_code 70 = .ok (.iload 4, 2) := by decide +kernel
theorem d_String_init2_72 : decode prog_23_method_150_code 72 = .ok (.invokestatic 47, 3) := by decide +kernel
theorem d_String_init2_75 : decode prog_23_method_150_code 75 = .ok (.putfield 15, 3) := by decide +kernel
theorem d_String_init2_78 : decode prog_23_method_150_code 78 = .ok (.return_, 1) := by decide +kernel
theorem d_String_init2_22 : decode prog_23_method_150_code 22 = .ok (.aload_n 0, 1) := by decide +kernel
theorem d_String_init2_23 : decode prog_23_method_150_code 23 = .ok (.iconst 0, 1) := by decide +kernel
theorem d_String_init2_24 : decode prog_23_method_150_code 24 = .ok (.putfield 15, 3) := by decide +kernel
theorem d_String_init2_27 : decode prog_23_method_150_code 27 = .ok (.aload_n 0, 1) := by decide +kernel
theorem d_String_init2_28 : decode prog_23_method_150_code 28 = .ok (.aload_n 3, 1) := by decide +kernel
theorem d_String_init2_29 : decode prog_23_method_150_code 29 = .ok (.iconst 0, 1) := by decide +kernel
theorem d_String_init2_30 : decode prog_23_method_150_code 30 = .ok (.iload 4, 2) := by decide +kernel
theorem d_String_init2_32 : decode prog_23_method_150_code 32 = .ok (.invokestatic 54, 3) := by decide +kernel
theorem d_String_init2_35 : decode prog_23_method_150_code 35 = .ok (.putfield 9, 3) := by decide +kernel
theorem d_String_init2_38 : decode prog_23_method_150_code 38 = .ok (.goto 59, 3) := by decide +kernel
theorem d_String_init2_79 : decode prog_23_method_150_code 79 = .ok (.aload_n 0, 1) := by decide +kernel
theorem d_String_init2_80 : decode prog_23_method_150_code 80 = .ok (.iconst 1, 1) := by decide +kernel
theorem d_String_init2_81 : decode prog_23_method_150_code 81 = .ok (.putfield 15, 3) := by decide +kernel
theorem d_String_init2_84 : decode prog_23_method_150_code 84 = .ok (.aload_n 0, 1) := by decide +kernel
theorem d_String_init2_85 : decode prog_23_method_150_code 85 = .ok (.aload_n 3, 1) := by decide +kernel
theorem d_String_init2_86 : decode prog_23_method_150_code 86 = .ok (.iconst 0, 1) := by decide +kernel
theorem d_String_init2_87 : decode prog_23_method_150_code 87 = .ok (.iload 4, 2) := by decide +kernel
theorem d_String_init2_89 : decode prog_23_method_150_code 89 = .ok (.iconst 1, 1) := by decide +kernel
theorem d_String_init2_90 : decode prog_23_method_150_code 90 = .ok (.ishl, 1) := by decide +kernel
theorem d_String_init2_91 : decode prog_23_method_150_code 91 = .ok (.invokestatic 54, 3) := by decide +kernel
theorem d_String_init2_94 : decode prog_23_method_150_code 94 = .ok (.putfield 9, 3) := by decide +kernel
theorem d_String_init2_97 : decode prog_23_method_150_code 97 = .ok (.return_, 1) := by decide +kernel
theorem d_No_listByte_29 : decode prog_1_method_24_code 29 = .ok (.ireturn, 1) := by decide +kernel
theorem d_Mo_request_114 : decode prog_14_method_21_code 114 = .ok (.aload_n 0, 1) := by decide +kernel
theorem d_Mo_request_115 : decode prog_14_method_21_code 115 = .ok (.getfield 53, 3) := by decide +kernel
theorem d_Mo_request_118 : decode prog_14_method_21_code 118 = .ok (.iload_n 1, 1) := by decide +kernel
theorem d_Mo_request_119 : decode prog_14_method_21_code 119 = .ok (.iaload, 1) := by decide +kernel
theorem d_Mo_request_120 : decode prog_14_method_21_code 120 = .ok (.ireturn, 1) := by decide +kernel
theorem d_Mo_request_57 : decode prog_14_method_21_code 57 = .ok (.aload_n 0, 1) := by decide +kernel
theorem d_Mo_request_58 : decode prog_14_method_21_code 58 = .ok (.getfield 120, 3) := by decide +kernel
theorem d_Mo_request_61 : decode prog_14_method_21_code 61 = .ok (.iconst 1, 1) := by decide +kernel
theorem d_Mo_request_62 : decode prog_14_method_21_code 62 = .ok (.if_icmp .ne 7, 3) := by decide +kernel
theorem d_Mo_request_69 : decode prog_14_method_21_code 69 = .ok (.iconst (-1), 1) := by decide +kernel
theorem d_Mo_request_65 : decode prog_14_method_21_code 65 = .ok (.iconst 0, 1) := by decide +kernel
theorem d_Mo_request_66 : decode prog_14_method_21_code 66 = .ok (.goto 4, 3) := by decide +kernel
theorem d_Mo_request_70 : decode prog_14_method_21_code 70 = .ok (.ireturn, 1) := by decide +kernel
theorem d_No_init_43 : decode prog_1_method_1_code 43 = .ok (.aastore, 1) := by decide +kernel
theorem d_No_init_44 : decode prog_1_method_1_code 44 = .ok (.iinc 3 1, 3) := by decide +kernel
theorem d_No_init_47 : decode prog_1_method_1_code 47 = .ok (.goto (-22), 3) := by decide +kernel
theorem d_ArrayList_add_23 : decode prog_31_method_25_code 23 = .ok (.iconst 1, 1) := by decide +kernel
theorem d_ArrayList_add_24 : decode prog_31_method_25_code 24 = .ok (.ireturn, 1) := by decide +kernel
theorem d_No_crash_28 : decode prog_1_method_11_code 28 = .ok (.iconst 1, 1) := by decide +kernel
theorem d_No_crash_29 : decode prog_1_method_11_code 29 = .ok (.ireturn, 1) := by decide +kernel
theorem d_No_crash_17 : decode prog_1_method_11_code 17 = .ok (.iconst 0, 1) := by decide +kernel
theorem d_No_crash_18 : decode prog_1_method_11_code 18 = .ok (.ireturn, 1) := by decide +kernel
theorem d_No_bringToOffice_19 : decode prog_1_method_32_code 19 = .ok (.astore_n 2, 1) := by decide +kernel
theorem d_No_bringToOffice_20 : decode prog_1_method_32_code 20 = .ok (.aload_n 2, 1) := by decide +kernel
theorem d_No_bringToOffice_21 : decode prog_1_method_32_code 21 = .ok (.ifnull 9, 3) := by decide +kernel
theorem d_No_bringToOffice_24 : decode prog_1_method_32_code 24 = .ok (.aload_n 0, 1) := by decide +kernel
theorem d_No_bringToOffice_25 : decode prog_1_method_32_code 25 = .ok (.aload_n 2, 1) := by decide +kernel
theorem d_No_bringToOffice_26 : decode prog_1_method_32_code 26 = .ok (.invokevirtual 101, 3) := by decide +kernel
theorem d_Branch_read_101 : decode prog_4_method_8_code 101 = .ok (.pop, 1) := by decide +kernel
theorem d_Branch_read_102 : decode prog_4_method_8_code 102 = .ok (.return_, 1) := by decide +kernel
theorem d_BranchSeries_addEvent_19 : decode prog_5_method_6_code 19 = .ok (.pop, 1) := by decide +kernel
theorem d_BranchSeries_addEvent_20 : decode prog_5_method_6_code 20 = .ok (.return_, 1) := by decide +kernel
theorem d_No_voidUsed_62 : decode prog_1_method_8_code 62 = .ok (.iconst 1, 1) := by decide +kernel
theorem d_No_voidUsed_63 : decode prog_1_method_8_code 63 = .ok (.ireturn, 1) := by decide +kernel
theorem d_No_voidUsed_50 : decode prog_1_method_8_code 50 = .ok (.iconst 0, 1) := by decide +kernel
theorem d_No_voidUsed_51 : decode prog_1_method_8_code 51 = .ok (.ireturn, 1) := by decide +kernel
theorem d_AbstractStringBuilder_inflate_31 : decode prog_16_method_11_code 31 = .ok (.aload_n 0, 1) := by decide +kernel
theorem d_AbstractStringBuilder_inflate_32 : decode prog_16_method_11_code 32 = .ok (.aload_n 1, 1) := by decide +kernel
theorem d_AbstractStringBuilder_inflate_33 : decode prog_16_method_11_code 33 = .ok (.putfield 15, 3) := by decide +kernel
theorem d_AbstractStringBuilder_inflate_36 : decode prog_16_method_11_code 36 = .ok (.aload_n 0, 1) := by decide +kernel
theorem d_AbstractStringBuilder_inflate_37 : decode prog_16_method_11_code 37 = .ok (.iconst 1, 1) := by decide +kernel
theorem d_AbstractStringBuilder_inflate_38 : decode prog_16_method_11_code 38 = .ok (.putfield 22, 3) := by decide +kernel
theorem d_AbstractStringBuilder_inflate_41 : decode prog_16_method_11_code 41 = .ok (.return_, 1) := by decide +kernel
theorem d_AbstractStringBuilder_inflate_7 : decode prog_16_method_11_code 7 = .ok (.return_, 1) := by decide +kernel
theorem d_AbstractStringBuilder_append2_8 : decode prog_16_method_22_code 8 = .ok (.areturn, 1) := by decide +kernel
theorem d_AbstractStringBuilder_append2_9 : decode prog_16_method_22_code 9 = .ok (.aload_n 1, 1) := by decide +kernel
theorem d_AbstractStringBuilder_append2_10 : decode prog_16_method_22_code 10 = .ok (.invokevirtual 32, 3) := by decide +kernel
theorem d_AbstractStringBuilder_append2_13 : decode prog_16_method_22_code 13 = .ok (.istore_n 2, 1) := by decide +kernel
theorem d_AbstractStringBuilder_append2_14 : decode prog_16_method_22_code 14 = .ok (.aload_n 0, 1) := by decide +kernel
theorem d_AbstractStringBuilder_append2_15 : decode prog_16_method_22_code 15 = .ok (.aload_n 0, 1) := by decide +kernel
theorem d_AbstractStringBuilder_append2_16 : decode prog_16_method_22_code 16 = .ok (.getfield 79, 3) := by decide +kernel
theorem d_AbstractStringBuilder_append2_19 : decode prog_16_method_22_code 19 = .ok (.iload_n 2, 1) := by decide +kernel
theorem d_AbstractStringBuilder_append2_20 : decode prog_16_method_22_code 20 = .ok (.iadd, 1) := by decide +kernel
theorem d_AbstractStringBuilder_append2_21 : decode prog_16_method_22_code 21 = .ok (.invokevirtual 100, 3) := by decide +kernel
theorem d_AbstractStringBuilder_append2_24 : decode prog_16_method_22_code 24 = .ok (.aload_n 0, 1) := by decide +kernel
theorem d_AbstractStringBuilder_append2_25 : decode prog_16_method_22_code 25 = .ok (.aload_n 0, 1) := by decide +kernel
theorem d_AbstractStringBuilder_append2_26 : decode prog_16_method_22_code 26 = .ok (.getfield 79, 3) := by decide +kernel
theorem d_AbstractStringBuilder_append2_29 : decode prog_16_method_22_code 29 = .ok (.aload_n 1, 1) := by decide +kernel
theorem d_AbstractStringBuilder_append2_30 : decode prog_16_method_22_code 30 = .ok (.invokevirtual 208, 3) := by decide +kernel
theorem d_AbstractStringBuilder_inflateIfNeededFor_21 : decode prog_16_method_71_code 21 = .ok (.return_, 1) := by decide +kernel
theorem d_String_init_6 : decode prog_23_method_53_code 6 = .ok (.return_, 1) := by decide +kernel
theorem d_Law_listByte_8 : decode method_14_code 8 = .ok (.i2l, 1) := by decide +kernel
theorem d_Law_listByte_9 : decode method_14_code 9 = .ok (.lastore, 1) := by decide +kernel
theorem d_Law_listByte_10 : decode method_14_code 10 = .ok (.goto 7, 3) := by decide +kernel
theorem d_Law_listByte_17 : decode method_14_code 17 = .ok (.iconst 0, 1) := by decide +kernel
theorem d_Law_listByte_18 : decode method_14_code 18 = .ok (.ireturn, 1) := by decide +kernel
theorem d_Law_listByte_13 : decode method_14_code 13 = .ok (.astore 4, 2) := by decide +kernel
theorem d_Law_listByte_15 : decode method_14_code 15 = .ok (.iconst 1, 1) := by decide +kernel
theorem d_Law_listByte_16 : decode method_14_code 16 = .ok (.ireturn, 1) := by decide +kernel
theorem d_Law_law_12 : decode code 12 = .ok (.astore_n 1, 1) := by decide +kernel
theorem d_Law_law_13 : decode code 13 = .ok (.new 64, 3) := by decide +kernel
theorem d_Law_law_16 : decode code 16 = .ok (.dup, 1) := by decide +kernel
theorem d_Law_law_17 : decode code 17 = .ok (.aload_n 0, 1) := by decide +kernel
theorem d_Law_law_18 : decode code 18 = .ok (.iconst 0, 1) := by decide +kernel
theorem d_Law_law_19 : decode code 19 = .ok (.invokestatic 55, 3) := by decide +kernel
theorem d_Law_law_22 : decode code 22 = .ok (.invokespecial 66, 3) := by decide +kernel
theorem d_Law_law_25 : decode code 25 = .ok (.astore_n 2, 1) := by decide +kernel
theorem d_Law_law_26 : decode code 26 = .ok (.iconst 1, 1) := by decide +kernel
theorem d_Law_law_27 : decode code 27 = .ok (.newarray .long, 2) := by decide +kernel
theorem d_Law_law_29 : decode code 29 = .ok (.astore_n 3, 1) := by decide +kernel
theorem d_Law_law_30 : decode code 30 = .ok (.iconst 1, 1) := by decide +kernel
theorem d_Law_law_31 : decode code 31 = .ok (.istore 4, 2) := by decide +kernel
theorem d_Law_law_33 : decode code 33 = .ok (.iload 4, 2) := by decide +kernel
theorem d_Law_law_35 : decode code 35 = .ok (.aload_n 0, 1) := by decide +kernel
theorem d_Law_law_36 : decode code 36 = .ok (.arraylength, 1) := by decide +kernel
theorem d_Law_law_37 : decode code 37 = .ok (.bipush 6, 2) := by decide +kernel
theorem d_Law_law_39 : decode code 39 = .ok (.isub, 1) := by decide +kernel
theorem d_Law_law_40 : decode code 40 = .ok (.if_icmp .gt 1353, 3) := by decide +kernel
theorem d_Law_law_1393 : decode code 1393 = .ok (.iconst 1, 1) := by decide +kernel
theorem d_Law_law_1394 : decode code 1394 = .ok (.ireturn, 1) := by decide +kernel
theorem d_Law_law_43 : decode code 43 = .ok (.aload_n 0, 1) := by decide +kernel
theorem d_Law_law_44 : decode code 44 = .ok (.iload 4, 2) := by decide +kernel
theorem d_Law_law_46 : decode code 46 = .ok (.iaload, 1) := by decide +kernel
theorem d_Law_law_47 : decode code 47 = .ok (.bipush 31, 2) := by decide +kernel
theorem d_Law_law_49 : decode code 49 = .ok (.iand, 1) := by decide +kernel
theorem d_Law_law_50 : decode code 50 = .ok (.tableswitch 1337 0 22 #[106, 181, 261, 329, 354, 478, 558, 657, 713, 769, 794, 819, 844, 857, 894, 919, 944, 969, 1037, 1116, 1183, 1232, 1269], 106) := by decide +kernel
theorem d_Law_law_1387 : decode code 1387 = .ok (.iinc 4 6, 3) := by decide +kernel
theorem d_Law_law_1390 : decode code 1390 = .ok (.goto (-1357), 3) := by decide +kernel
theorem d_Law_law_1319 : decode code 1319 = .ok (.aload_n 1, 1) := by decide +kernel
theorem d_Law_law_1320 : decode code 1320 = .ok (.aload_n 0, 1) := by decide +kernel
theorem d_Law_law_1321 : decode code 1321 = .ok (.iload 4, 2) := by decide +kernel
theorem d_Law_law_1323 : decode code 1323 = .ok (.iconst 1, 1) := by decide +kernel
theorem d_Law_law_1324 : decode code 1324 = .ok (.iadd, 1) := by decide +kernel
theorem d_Law_law_1325 : decode code 1325 = .ok (.iaload, 1) := by decide +kernel
theorem d_Law_law_1326 : decode code 1326 = .ok (.aload_n 0, 1) := by decide +kernel
theorem d_Law_law_1327 : decode code 1327 = .ok (.iload 4, 2) := by decide +kernel
theorem d_Law_law_1329 : decode code 1329 = .ok (.iconst 2, 1) := by decide +kernel
theorem d_Law_law_1330 : decode code 1330 = .ok (.iadd, 1) := by decide +kernel
theorem d_Law_law_1331 : decode code 1331 = .ok (.iaload, 1) := by decide +kernel
theorem d_Law_law_1332 : decode code 1332 = .ok (.aload_n 3, 1) := by decide +kernel
theorem d_Law_law_1333 : decode code 1333 = .ok (.invokestatic 156, 3) := by decide +kernel
theorem d_Law_law_1336 : decode code 1336 = .ok (.istore 5, 2) := by decide +kernel
theorem d_Law_law_1338 : decode code 1338 = .ok (.aload_n 2, 1) := by decide +kernel
theorem d_Law_law_1339 : decode code 1339 = .ok (.aload_n 0, 1) := by decide +kernel
theorem d_Law_law_1340 : decode code 1340 = .ok (.iload 4, 2) := by decide +kernel
theorem d_Law_law_1342 : decode code 1342 = .ok (.iconst 1, 1) := by decide +kernel
theorem d_Law_law_1343 : decode code 1343 = .ok (.iadd, 1) := by decide +kernel
theorem d_Law_law_1344 : decode code 1344 = .ok (.iaload, 1) := by decide +kernel
theorem d_Law_law_1345 : decode code 1345 = .ok (.aload_n 0, 1) := by decide +kernel
theorem d_Law_law_1346 : decode code 1346 = .ok (.iload 4, 2) := by decide +kernel
theorem d_Law_law_1348 : decode code 1348 = .ok (.iconst 2, 1) := by decide +kernel
theorem d_Law_law_1349 : decode code 1349 = .ok (.iadd, 1) := by decide +kernel
theorem d_Law_law_1350 : decode code 1350 = .ok (.iaload, 1) := by decide +kernel
theorem d_Law_law_1351 : decode code 1351 = .ok (.invokevirtual 158, 3) := by decide +kernel
theorem d_Law_law_1354 : decode code 1354 = .ok (.istore 6, 2) := by decide +kernel
theorem d_Law_law_1356 : decode code 1356 = .ok (.aload_n 2, 1) := by decide +kernel
theorem d_Law_law_1357 : decode code 1357 = .ok (.invokevirtual 71, 3) := by decide +kernel
theorem d_Law_law_1360 : decode code 1360 = .ok (.iload 5, 2) := by decide +kernel
theorem d_Law_law_1362 : decode code 1362 = .ok (.if_icmp .eq 5, 3) := by decide +kernel
theorem d_Law_law_1367 : decode code 1367 = .ok (.iload 5, 2) := by decide +kernel
theorem d_Law_law_1369 : decode code 1369 = .ok (.ifCond .ne 15, 3) := by decide +kernel
theorem d_Law_law_1372 : decode code 1372 = .ok (.aload_n 3, 1) := by decide +kernel
theorem d_Law_law_1373 : decode code 1373 = .ok (.iconst 0, 1) := by decide +kernel
theorem d_Law_law_1374 : decode code 1374 = .ok (.laload, 1) := by decide +kernel
theorem d_Law_law_1375 : decode code 1375 = .ok (.iload 6, 2) := by decide +kernel
theorem d_Law_law_1377 : decode code 1377 = .ok (.i2l, 1) := by decide +kernel
theorem d_Law_law_1378 : decode code 1378 = .ok (.lcmp, 1) := by decide +kernel
theorem d_Law_law_1379 : decode code 1379 = .ok (.ifCond .eq 5, 3) := by decide +kernel
theorem d_Law_law_1382 : decode code 1382 = .ok (.iconst 0, 1) := by decide +kernel
theorem d_Law_law_1383 : decode code 1383 = .ok (.ireturn, 1) := by decide +kernel
theorem d_Law_law_1365 : decode code 1365 = .ok (.iconst 0, 1) := by decide +kernel
theorem d_Law_law_1366 : decode code 1366 = .ok (.ireturn, 1) := by decide +kernel
theorem d_Law_law_1282 : decode code 1282 = .ok (.aload_n 1, 1) := by decide +kernel
theorem d_Law_law_1283 : decode code 1283 = .ok (.aload_n 0, 1) := by decide +kernel
theorem d_Law_law_1284 : decode code 1284 = .ok (.iload 4, 2) := by decide +kernel
theorem d_Law_law_1286 : decode code 1286 = .ok (.iconst 1, 1) := by decide +kernel
theorem d_Law_law_1287 : decode code 1287 = .ok (.iadd, 1) := by decide +kernel
theorem d_Law_law_1288 : decode code 1288 = .ok (.iaload, 1) := by decide +kernel
theorem d_Law_law_1289 : decode code 1289 = .ok (.aload_n 0, 1) := by decide +kernel
theorem d_Law_law_1290 : decode code 1290 = .ok (.iload 4, 2) := by decide +kernel
theorem d_Law_law_1292 : decode code 1292 = .ok (.iconst 2, 1) := by decide +kernel
theorem d_Law_law_1293 : decode code 1293 = .ok (.iadd, 1) := by decide +kernel
theorem d_Law_law_1294 : decode code 1294 = .ok (.iaload, 1) := by decide +kernel
theorem d_Law_law_1295 : decode code 1295 = .ok (.invokevirtual 152, 3) := by decide +kernel
theorem d_Law_law_1298 : decode code 1298 = .ok (.aload_n 2, 1) := by decide +kernel
theorem d_Law_law_1299 : decode code 1299 = .ok (.aload_n 0, 1) := by decide +kernel
theorem d_Law_law_1300 : decode code 1300 = .ok (.iload 4, 2) := by decide +kernel
theorem d_Law_law_1302 : decode code 1302 = .ok (.iconst 1, 1) := by decide +kernel
theorem d_Law_law_1303 : decode code 1303 = .ok (.iadd, 1) := by decide +kernel
theorem d_Law_law_1304 : decode code 1304 = .ok (.iaload, 1) := by decide +kernel
theorem d_Law_law_1305 : decode code 1305 = .ok (.aload_n 0, 1) := by decide +kernel
theorem d_Law_law_1306 : decode code 1306 = .ok (.iload 4, 2) := by decide +kernel
theorem d_Law_law_1308 : decode code 1308 = .ok (.iconst 2, 1) := by decide +kernel
theorem d_Law_law_1309 : decode code 1309 = .ok (.iadd, 1) := by decide +kernel
theorem d_Law_law_1310 : decode code 1310 = .ok (.iaload, 1) := by decide +kernel
theorem d_Law_law_1311 : decode code 1311 = .ok (.invokevirtual 155, 3) := by decide +kernel
theorem d_Law_law_1314 : decode code 1314 = .ok (.if_icmp .eq 73, 3) := by decide +kernel
theorem d_Law_law_1317 : decode code 1317 = .ok (.iconst 0, 1) := by decide +kernel
theorem d_Law_law_1318 : decode code 1318 = .ok (.ireturn, 1) := by decide +kernel
theorem d_Law_law_1233 : decode code 1233 = .ok (.aload_n 1, 1) := by decide +kernel
theorem d_Law_law_1234 : decode code 1234 = .ok (.aload_n 0, 1) := by decide +kernel
theorem d_Law_law_1235 : decode code 1235 = .ok (.iload 4, 2) := by decide +kernel
theorem d_Law_law_1237 : decode code 1237 = .ok (.iconst 1, 1) := by decide +kernel
theorem d_Law_law_1238 : decode code 1238 = .ok (.iadd, 1) := by decide +kernel
theorem d_Law_law_1239 : decode code 1239 = .ok (.iaload, 1) := by decide +kernel
theorem d_Law_law_1240 : decode code 1240 = .ok (.aload_n 0, 1) := by decide +kernel
theorem d_Law_law_1241 : decode code 1241 = .ok (.iload 4, 2) := by decide +kernel
theorem d_Law_law_1243 : decode code 1243 = .ok (.iconst 2, 1) := by decide +kernel
theorem d_Law_law_1244 : decode code 1244 = .ok (.iadd, 1) := by decide +kernel
theorem d_Law_law_1245 : decode code 1245 = .ok (.iaload, 1) := by decide +kernel
theorem d_Law_law_1246 : decode code 1246 = .ok (.aload_n 0, 1) := by decide +kernel
theorem d_Law_law_1247 : decode code 1247 = .ok (.iload 4, 2) := by decide +kernel
theorem d_Law_law_1249 : decode code 1249 = .ok (.iconst 3, 1) := by decide +kernel
theorem d_Law_law_1250 : decode code 1250 = .ok (.iadd, 1) := by decide +kernel
theorem d_Law_law_1251 : decode code 1251 = .ok (.iaload, 1) := by decide +kernel
theorem d_Law_law_1252 : decode code 1252 = .ok (.invokevirtual 148, 3) := by decide +kernel
theorem d_Law_law_1255 : decode code 1255 = .ok (.aload_n 2, 1) := by decide +kernel
theorem d_Law_law_1256 : decode code 1256 = .ok (.aload_n 0, 1) := by decide +kernel
theorem d_Law_law_1257 : decode code 1257 = .ok (.iload 4, 2) := by decide +kernel
theorem d_Law_law_1259 : decode code 1259 = .ok (.iconst 1, 1) := by decide +kernel
theorem d_Law_law_1260 : decode code 1260 = .ok (.iadd, 1) := by decide +kernel
theorem d_Law_law_1261 : decode code 1261 = .ok (.iaload, 1) := by decide +kernel
theorem d_Law_law_1262 : decode code 1262 = .ok (.aload_n 0, 1) := by decide +kernel
theorem d_Law_law_1263 : decode code 1263 = .ok (.iload 4, 2) := by decide +kernel
theorem d_Law_law_1265 : decode code 1265 = .ok (.iconst 2, 1) := by decide +kernel
theorem d_Law_law_1266 : decode code 1266 = .ok (.iadd, 1) := by decide +kernel
theorem d_Law_law_1267 : decode code 1267 = .ok (.iaload, 1) := by decide +kernel
theorem d_Law_law_1268 : decode code 1268 = .ok (.aload_n 0, 1) := by decide +kernel
theorem d_Law_law_1269 : decode code 1269 = .ok (.iload 4, 2) := by decide +kernel
theorem d_Law_law_1271 : decode code 1271 = .ok (.iconst 3, 1) := by decide +kernel
theorem d_Law_law_1272 : decode code 1272 = .ok (.iadd, 1) := by decide +kernel
theorem d_Law_law_1273 : decode code 1273 = .ok (.iaload, 1) := by decide +kernel
theorem d_Law_law_1274 : decode code 1274 = .ok (.invokevirtual 151, 3) := by decide +kernel
theorem d_Law_law_1277 : decode code 1277 = .ok (.if_icmp .eq 110, 3) := by decide +kernel
theorem d_Law_law_1280 : decode code 1280 = .ok (.iconst 0, 1) := by decide +kernel
theorem d_Law_law_1281 : decode code 1281 = .ok (.ireturn, 1) := by decide +kernel
theorem d_Law_law_1166 : decode code 1166 = .ok (.aload_n 1, 1) := by decide +kernel
theorem d_Law_law_1167 : decode code 1167 = .ok (.aload_n 0, 1) := by decide +kernel
theorem d_Law_law_1168 : decode code 1168 = .ok (.iload 4, 2) := by decide +kernel
theorem d_Law_law_1170 : decode code 1170 = .ok (.iconst 1, 1) := by decide +kernel
theorem d_Law_law_1171 : decode code 1171 = .ok (.iadd, 1) := by decide +kernel
theorem d_Law_law_1172 : decode code 1172 = .ok (.iaload, 1) := by decide +kernel
theorem d_Law_law_1173 : decode code 1173 = .ok (.aload_n 0, 1) := by decide +kernel
theorem d_Law_law_1174 : decode code 1174 = .ok (.iload 4, 2) := by decide +kernel
theorem d_Law_law_1176 : decode code 1176 = .ok (.iconst 2, 1) := by decide +kernel
theorem d_Law_law_1177 : decode code 1177 = .ok (.iadd, 1) := by decide +kernel
theorem d_Law_law_1178 : decode code 1178 = .ok (.iaload, 1) := by decide +kernel
theorem d_Law_law_1179 : decode code 1179 = .ok (.aload_n 3, 1) := by decide +kernel
theorem d_Law_law_1180 : decode code 1180 = .ok (.invokestatic 145, 3) := by decide +kernel
theorem d_Law_law_1183 : decode code 1183 = .ok (.istore 5, 2) := by decide +kernel
theorem d_Law_law_1185 : decode code 1185 = .ok (.aload_n 2, 1) := by decide +kernel
theorem d_Law_law_1186 : decode code 1186 = .ok (.aload_n 0, 1) := by decide +kernel
theorem d_Law_law_1187 : decode code 1187 = .ok (.iload 4, 2) := by decide +kernel
theorem d_Law_law_1189 : decode code 1189 = .ok (.iconst 1, 1) := by decide +kernel
theorem d_Law_law_1190 : decode code 1190 = .ok (.iadd, 1) := by decide +kernel
theorem d_Law_law_1191 : decode code 1191 = .ok (.iaload, 1) := by decide +kernel
theorem d_Law_law_1192 : decode code 1192 = .ok (.aload_n 0, 1) := by decide +kernel
theorem d_Law_law_1193 : decode code 1193 = .ok (.iload 4, 2) := by decide +kernel
theorem d_Law_law_1195 : decode code 1195 = .ok (.iconst 2, 1) := by decide +kernel
theorem d_Law_law_1196 : decode code 1196 = .ok (.iadd, 1) := by decide +kernel
theorem d_Law_law_1197 : decode code 1197 = .ok (.iaload, 1) := by decide +kernel
theorem d_Law_law_1198 : decode code 1198 = .ok (.invokevirtual 147, 3) := by decide +kernel
theorem d_Law_law_1201 : decode code 1201 = .ok (.lstore 6, 2) := by decide +kernel
theorem d_Law_law_1203 : decode code 1203 = .ok (.aload_n 2, 1) := by decide +kernel
theorem d_Law_law_1204 : decode code 1204 = .ok (.invokevirtual 71, 3) := by decide +kernel
theorem d_Law_law_1207 : decode code 1207 = .ok (.iload 5, 2) := by decide +kernel
theorem d_Law_law_1209 : decode code 1209 = .ok (.if_icmp .eq 5, 3) := by decide +kernel
theorem d_Law_law_1214 : decode code 1214 = .ok (.iload 5, 2) := by decide +kernel
theorem d_Law_law_1216 : decode code 1216 = .ok (.ifCond .ne 14, 3) := by decide +kernel
theorem d_Law_law_1219 : decode code 1219 = .ok (.aload_n 3, 1) := by decide +kernel
theorem d_Law_law_1220 : decode code 1220 = .ok (.iconst 0, 1) := by decide +kernel
theorem d_Law_law_1221 : decode code 1221 = .ok (.laload, 1) := by decide +kernel
theorem d_Law_law_1222 : decode code 1222 = .ok (.lload 6, 2) := by decide +kernel
theorem d_Law_law_1224 : decode code 1224 = .ok (.lcmp, 1) := by decide +kernel
theorem d_Law_law_1225 : decode code 1225 = .ok (.ifCond .eq 5, 3) := by decide +kernel
theorem d_Law_law_1228 : decode code 1228 = .ok (.iconst 0, 1) := by decide +kernel
theorem d_Law_law_1229 : decode code 1229 = .ok (.ireturn, 1) := by decide +kernel
theorem d_Law_law_1212 : decode code 1212 = .ok (.iconst 0, 1) := by decide +kernel
theorem d_Law_law_1213 : decode code 1213 = .ok (.ireturn, 1) := by decide +kernel
theorem d_Law_law_1087 : decode code 1087 = .ok (.aload_n 1, 1) := by decide +kernel
theorem d_Law_law_1088 : decode code 1088 = .ok (.aload_n 0, 1) := by decide +kernel
theorem d_Law_law_1089 : decode code 1089 = .ok (.iload 4, 2) := by decide +kernel
theorem d_Law_law_1091 : decode code 1091 = .ok (.iconst 1, 1) := by decide +kernel
theorem d_Law_law_1092 : decode code 1092 = .ok (.iadd, 1) := by decide +kernel
theorem d_Law_law_1093 : decode code 1093 = .ok (.iaload, 1) := by decide +kernel
theorem d_Law_law_1094 : decode code 1094 = .ok (.aload_n 0, 1) := by decide +kernel
theorem d_Law_law_1095 : decode code 1095 = .ok (.iload 4, 2) := by decide +kernel
theorem d_Law_law_1097 : decode code 1097 = .ok (.iconst 2, 1) := by decide +kernel
theorem d_Law_law_1098 : decode code 1098 = .ok (.iadd, 1) := by decide +kernel
theorem d_Law_law_1099 : decode code 1099 = .ok (.iaload, 1) := by decide +kernel
theorem d_Law_law_1100 : decode code 1100 = .ok (.aload_n 0, 1) := by decide +kernel
theorem d_Law_law_1101 : decode code 1101 = .ok (.iload 4, 2) := by decide +kernel
theorem d_Law_law_1103 : decode code 1103 = .ok (.iconst 3, 1) := by decide +kernel
theorem d_Law_law_1104 : decode code 1104 = .ok (.iadd, 1) := by decide +kernel
theorem d_Law_law_1105 : decode code 1105 = .ok (.iaload, 1) := by decide +kernel
theorem d_Law_law_1106 : decode code 1106 = .ok (.aload_n 3, 1) := by decide +kernel
theorem d_Law_law_1107 : decode code 1107 = .ok (.invokestatic 142, 3) := by decide +kernel
theorem d_Law_law_1110 : decode code 1110 = .ok (.istore 5, 2) := by decide +kernel
theorem d_Law_law_1112 : decode code 1112 = .ok (.aload_n 2, 1) := by decide +kernel
theorem d_Law_law_1113 : decode code 1113 = .ok (.aload_n 0, 1) := by decide +kernel
theorem d_Law_law_1114 : decode code 1114 = .ok (.iload 4, 2) := by decide +kernel
theorem d_Law_law_1116 : decode code 1116 = .ok (.iconst 1, 1) := by decide +kernel
theorem d_Law_law_1117 : decode code 1117 = .ok (.iadd, 1) := by decide +kernel
theorem d_Law_law_1118 : decode code 1118 = .ok (.iaload, 1) := by decide +kernel
theorem d_Law_law_1119 : decode code 1119 = .ok (.aload_n 0, 1) := by decide +kernel
theorem d_Law_law_1120 : decode code 1120 = .ok (.iload 4, 2) := by decide +kernel
theorem d_Law_law_1122 : decode code 1122 = .ok (.iconst 2, 1) := by decide +kernel
theorem d_Law_law_1123 : decode code 1123 = .ok (.iadd, 1) := by decide +kernel
theorem d_Law_law_1124 : decode code 1124 = .ok (.iaload, 1) := by decide +kernel
theorem d_Law_law_1125 : decode code 1125 = .ok (.aload_n 0, 1) := by decide +kernel
theorem d_Law_law_1126 : decode code 1126 = .ok (.iload 4, 2) := by decide +kernel
theorem d_Law_law_1128 : decode code 1128 = .ok (.iconst 3, 1) := by decide +kernel
theorem d_Law_law_1129 : decode code 1129 = .ok (.iadd, 1) := by decide +kernel
theorem d_Law_law_1130 : decode code 1130 = .ok (.iaload, 1) := by decide +kernel
theorem d_Law_law_1131 : decode code 1131 = .ok (.invokevirtual 144, 3) := by decide +kernel
theorem d_Law_law_1134 : decode code 1134 = .ok (.lstore 6, 2) := by decide +kernel
theorem d_Law_law_1136 : decode code 1136 = .ok (.aload_n 2, 1) := by decide +kernel
theorem d_Law_law_1137 : decode code 1137 = .ok (.invokevirtual 71, 3) := by decide +kernel
theorem d_Law_law_1140 : decode code 1140 = .ok (.iload 5, 2) := by decide +kernel
theorem d_Law_law_1142 : decode code 1142 = .ok (.if_icmp .eq 5, 3) := by decide +kernel
theorem d_Law_law_1147 : decode code 1147 = .ok (.iload 5, 2) := by decide +kernel
theorem d_Law_law_1149 : decode code 1149 = .ok (.ifCond .ne 14, 3) := by decide +kernel
theorem d_Law_law_1152 : decode code 1152 = .ok (.aload_n 3, 1) := by decide +kernel
theorem d_Law_law_1153 : decode code 1153 = .ok (.iconst 0, 1) := by decide +kernel
theorem d_Law_law_1154 : decode code 1154 = .ok (.laload, 1) := by decide +kernel
theorem d_Law_law_1155 : decode code 1155 = .ok (.lload 6, 2) := by decide +kernel
theorem d_Law_law_1157 : decode code 1157 = .ok (.lcmp, 1) := by decide +kernel
theorem d_Law_law_1158 : decode code 1158 = .ok (.ifCond .eq 5, 3) := by decide +kernel
theorem d_Law_law_1161 : decode code 1161 = .ok (.iconst 0, 1) := by decide +kernel
theorem d_Law_law_1162 : decode code 1162 = .ok (.ireturn, 1) := by decide +kernel
theorem d_Law_law_1145 : decode code 1145 = .ok (.iconst 0, 1) := by decide +kernel
theorem d_Law_law_1146 : decode code 1146 = .ok (.ireturn, 1) := by decide +kernel
theorem d_Law_law_1019 : decode code 1019 = .ok (.aload_n 1, 1) := by decide +kernel
theorem d_Law_law_1020 : decode code 1020 = .ok (.aload_n 0, 1) := by decide +kernel
theorem d_Law_law_1021 : decode code 1021 = .ok (.iload 4, 2) := by decide +kernel
theorem d_Law_law_1023 : decode code 1023 = .ok (.iconst 1, 1) := by decide +kernel
theorem d_Law_law_1024 : decode code 1024 = .ok (.iadd, 1) := by decide +kernel
theorem d_Law_law_1025 : decode code 1025 = .ok (.iaload, 1) := by decide +kernel
theorem d_Law_law_1026 : decode code 1026 = .ok (.aload_n 0, 1) := by decide +kernel
theorem d_Law_law_1027 : decode code 1027 = .ok (.iload 4, 2) := by decide +kernel
theorem d_Law_law_1029 : decode code 1029 = .ok (.iconst 2, 1) := by decide +kernel
theorem d_Law_law_1030 : decode code 1030 = .ok (.iadd, 1) := by decide +kernel
theorem d_Law_law_1031 : decode code 1031 = .ok (.iaload, 1) := by decide +kernel
theorem d_Law_law_1032 : decode code 1032 = .ok (.aload_n 3, 1) := by decide +kernel
theorem d_Law_law_1033 : decode code 1033 = .ok (.invokestatic 139, 3) := by decide +kernel
theorem d_Law_law_1036 : decode code 1036 = .ok (.istore 5, 2) := by decide +kernel
theorem d_Law_law_1038 : decode code 1038 = .ok (.aload_n 2, 1) := by decide +kernel
theorem d_Law_law_1039 : decode code 1039 = .ok (.aload_n 0, 1) := by decide +kernel
theorem d_Law_law_1040 : decode code 1040 = .ok (.iload 4, 2) := by decide +kernel
theorem d_Law_law_1042 : decode code 1042 = .ok (.iconst 1, 1) := by decide +kernel
theorem d_Law_law_1043 : decode code 1043 = .ok (.iadd, 1) := by decide +kernel
theorem d_Law_law_1044 : decode code 1044 = .ok (.iaload, 1) := by decide +kernel
theorem d_Law_law_1045 : decode code 1045 = .ok (.aload_n 0, 1) := by decide +kernel
theorem d_Law_law_1046 : decode code 1046 = .ok (.iload 4, 2) := by decide +kernel
theorem d_Law_law_1048 : decode code 1048 = .ok (.iconst 2, 1) := by decide +kernel
theorem d_Law_law_1049 : decode code 1049 = .ok (.iadd, 1) := by decide +kernel
theorem d_Law_law_1050 : decode code 1050 = .ok (.iaload, 1) := by decide +kernel
theorem d_Law_law_1051 : decode code 1051 = .ok (.invokevirtual 141, 3) := by decide +kernel
theorem d_Law_law_1054 : decode code 1054 = .ok (.istore 6, 2) := by decide +kernel
theorem d_Law_law_1056 : decode code 1056 = .ok (.aload_n 2, 1) := by decide +kernel
theorem d_Law_law_1057 : decode code 1057 = .ok (.invokevirtual 71, 3) := by decide +kernel
theorem d_Law_law_1060 : decode code 1060 = .ok (.iload 5, 2) := by decide +kernel
theorem d_Law_law_1062 : decode code 1062 = .ok (.if_icmp .eq 5, 3) := by decide +kernel
theorem d_Law_law_1067 : decode code 1067 = .ok (.iload 5, 2) := by decide +kernel
theorem d_Law_law_1069 : decode code 1069 = .ok (.ifCond .ne 15, 3) := by decide +kernel
theorem d_Law_law_1072 : decode code 1072 = .ok (.aload_n 3, 1) := by decide +kernel
theorem d_Law_law_1073 : decode code 1073 = .ok (.iconst 0, 1) := by decide +kernel
theorem d_Law_law_1074 : decode code 1074 = .ok (.laload, 1) := by decide +kernel
theorem d_Law_law_1075 : decode code 1075 = .ok (.iload 6, 2) := by decide +kernel
theorem d_Law_law_1077 : decode code 1077 = .ok (.i2l, 1) := by decide +kernel
theorem d_Law_law_1078 : decode code 1078 = .ok (.lcmp, 1) := by decide +kernel
theorem d_Law_law_1079 : decode code 1079 = .ok (.ifCond .eq 5, 3) := by decide +kernel
theorem d_Law_law_1082 : decode code 1082 = .ok (.iconst 0, 1) := by decide +kernel
theorem d_Law_law_1083 : decode code 1083 = .ok (.ireturn, 1) := by decide +kernel
theorem d_Law_law_1065 : decode code 1065 = .ok (.iconst 0, 1) := by decide +kernel
theorem d_Law_law_1066 : decode code 1066 = .ok (.ireturn, 1) := by decide +kernel
theorem d_Law_law_994 : decode code 994 = .ok (.aload_n 1, 1) := by decide +kernel
theorem d_Law_law_995 : decode code 995 = .ok (.aload_n 0, 1) := by decide +kernel
theorem d_Law_law_996 : decode code 996 = .ok (.iload 4, 2) := by decide +kernel
theorem d_Law_law_998 : decode code 998 = .ok (.iconst 1, 1) := by decide +kernel
theorem d_Law_law_999 : decode code 999 = .ok (.iadd, 1) := by decide +kernel
theorem d_Law_law_1000 : decode code 1000 = .ok (.iaload, 1) := by decide +kernel
theorem d_Law_law_1001 : decode code 1001 = .ok (.invokevirtual 135, 3) := by decide +kernel
theorem d_No_send_22 : decode prog_1_method_30_code 22 = .ok (.pop, 1) := by decide +kernel
theorem d_No_send_23 : decode prog_1_method_30_code 23 = .ok (.iconst 1, 1) := by decide +kernel
theorem d_No_send_24 : decode prog_1_method_30_code 24 = .ok (.ireturn, 1) := by decide +kernel
theorem d_No_send_12 : decode prog_1_method_30_code 12 = .ok (.iconst 0, 1) := by decide +kernel
theorem d_No_send_13 : decode prog_1_method_30_code 13 = .ok (.ireturn, 1) := by decide +kernel
theorem d_No_bringToOffice_29 : decode prog_1_method_32_code 29 = .ok (.pop, 1) := by decide +kernel
theorem d_No_bringToOffice_10 : decode prog_1_method_32_code 10 = .ok (.return_, 1) := by decide +kernel
theorem d_No_bringToOffice_30 : decode prog_1_method_32_code 30 = .ok (.return_, 1) := by decide +kernel
theorem d_No_bringToBranch_25 : decode prog_1_method_33_code 25 = .ok (.return_, 1) := by decide +kernel
theorem d_No_twin_15 : decode prog_1_method_18_code 15 = .ok (.ifCond .eq 7, 3) := by decide +kernel
theorem d_No_twin_18 : decode prog_1_method_18_code 18 = .ok (.iconst 1, 1) := by decide +kernel
theorem d_No_twin_19 : decode prog_1_method_18_code 19 = .ok (.goto 4, 3) := by decide +kernel
theorem d_No_twin_22 : decode prog_1_method_18_code 22 = .ok (.iconst 0, 1) := by decide +kernel
theorem d_No_twin_23 : decode prog_1_method_18_code 23 = .ok (.ireturn, 1) := by decide +kernel
theorem d_No_sendNew_19 : decode prog_1_method_31_code 19 = .ok (.pop, 1) := by decide +kernel
theorem d_No_sendNew_20 : decode prog_1_method_31_code 20 = .ok (.aload_n 2, 1) := by decide +kernel
theorem d_No_sendNew_21 : decode prog_1_method_31_code 21 = .ok (.getfield 223, 3) := by decide +kernel
theorem d_No_sendNew_24 : decode prog_1_method_31_code 24 = .ok (.ireturn, 1) := by decide +kernel
theorem d_No_report_67 : decode prog_1_method_4_code 67 = .ok (.ireturn, 1) := by decide +kernel
theorem d_No_report_44 : decode prog_1_method_4_code 44 = .ok (.iconst (-1), 1) := by decide +kernel
theorem d_No_report_45 : decode prog_1_method_4_code 45 = .ok (.ireturn, 1) := by decide +kernel
theorem d_BranchSeries_useUpNext_72 : decode prog_5_method_8_code 72 = .ok (.iload 6, 2) := by decide +kernel
theorem d_BranchSeries_useUpNext_74 : decode prog_5_method_8_code 74 = .ok (.ireturn, 1) := by decide +kernel
theorem d_No_voidNext_49 : decode prog_1_method_7_code 49 = .ok (.ireturn, 1) := by decide +kernel
theorem d_No_voidNext_39 : decode prog_1_method_7_code 39 = .ok (.iconst (-1), 1) := by decide +kernel
theorem d_No_voidNext_40 : decode prog_1_method_7_code 40 = .ok (.ireturn, 1) := by decide +kernel
theorem d_Law_voidUsed_12 : decode method_8_code 12 = .ok (.ifCond .eq 7, 3) := by decide +kernel
theorem d_Law_voidUsed_19 : decode method_8_code 19 = .ok (.lconst 0, 1) := by decide +kernel
theorem d_Law_voidUsed_15 : decode method_8_code 15 = .ok (.lconst 1, 1) := by decide +kernel
theorem d_Law_voidUsed_16 : decode method_8_code 16 = .ok (.goto 4, 3) := by decide +kernel
theorem d_Law_voidUsed_24 : decode method_8_code 24 = .ok (.astore 6, 2) := by decide +kernel
theorem d_Law_voidUsed_26 : decode method_8_code 26 = .ok (.iconst 1, 1) := by decide +kernel
theorem d_Law_voidUsed_27 : decode method_8_code 27 = .ok (.ireturn, 1) := by decide +kernel
theorem d_Law_voidUsed_20 : decode method_8_code 20 = .ok (.lastore, 1) := by decide +kernel
theorem d_Law_voidUsed_21 : decode method_8_code 21 = .ok (.goto 7, 3) := by decide +kernel
theorem d_Law_voidUsed_28 : decode method_8_code 28 = .ok (.iconst 0, 1) := by decide +kernel
theorem d_Law_voidUsed_29 : decode method_8_code 29 = .ok (.ireturn, 1) := by decide +kernel
theorem d_AbstractStringBuilder_append_75 : decode prog_16_method_31_code 75 = .ok (.aload_n 0, 1) := by decide +kernel
theorem d_AbstractStringBuilder_append_76 : decode prog_16_method_31_code 76 = .ok (.areturn, 1) := by decide +kernel
theorem d_AbstractStringBuilder_append_56 : decode prog_16_method_31_code 56 = .ok (.aload_n 0, 1) := by decide +kernel
theorem d_AbstractStringBuilder_append_57 : decode prog_16_method_31_code 57 = .ok (.getfield 15, 3) := by decide +kernel
theorem d_AbstractStringBuilder_append_60 : decode prog_16_method_31_code 60 = .ok (.aload_n 0, 1) := by decide +kernel
theorem d_AbstractStringBuilder_append_61 : decode prog_16_method_31_code 61 = .ok (.dup, 1) := by decide +kernel
theorem d_AbstractStringBuilder_append_62 : decode prog_16_method_31_code 62 = .ok (.getfield 79, 3) := by decide +kernel
theorem d_AbstractStringBuilder_append_65 : decode prog_16_method_31_code 65 = .ok (.dup_x1, 1) := by decide +kernel
theorem d_AbstractStringBuilder_append_66 : decode prog_16_method_31_code 66 = .ok (.iconst 1, 1) := by decide +kernel
theorem d_AbstractStringBuilder_append_67 : decode prog_16_method_31_code 67 = .ok (.iadd, 1) := by decide +kernel
theorem d_AbstractStringBuilder_append_68 : decode prog_16_method_31_code 68 = .ok (.putfield 79, 3) := by decide +kernel
theorem d_AbstractStringBuilder_append_71 : decode prog_16_method_31_code 71 = .ok (.iload_n 1, 1) := by decide +kernel
theorem d_AbstractStringBuilder_append_72 : decode prog_16_method_31_code 72 = .ok (.invokestatic 197, 3) := by decide +kernel
theorem d_AbstractStringBuilder_putStringAt_5 : decode prog_16_method_73_code 5 = .ok (.aload_n 2, 1) := by decide +kernel
theorem d_AbstractStringBuilder_putStringAt_6 : decode prog_16_method_73_code 6 = .ok (.aload_n 0, 1) := by decide +kernel
theorem d_AbstractStringBuilder_putStringAt_7 : decode prog_16_method_73_code 7 = .ok (.getfield 15, 3) := by decide +kernel
theorem d_AbstractStringBuilder_putStringAt_10 : decode prog_16_method_73_code 10 = .ok (.iload_n 1, 1) := by decide +kernel
theorem d_AbstractStringBuilder_putStringAt_11 : decode prog_16_method_73_code 11 = .ok (.aload_n 0, 1) := by decide +kernel
theorem d_AbstractStringBuilder_putStringAt_12 : decode prog_16_method_73_code 12 = .ok (.getfield 22, 3) := by decide +kernel
theorem d_AbstractStringBuilder_putStringAt_15 : decode prog_16_method_73_code 15 = .ok (.invokevirtual 399, 3) := by decide +kernel
theorem d_AbstractStringBuilder_putStringAt_18 : decode prog_16_method_73_code 18 = .ok (.return_, 1) := by decide +kernel
theorem d_StringBuilder_toString_8 : decode prog_24_method_42_code 8 = .ok (.areturn, 1) := by decide +kernel
theorem d_Law_law_1004 : decode code 1004 = .ok (.aload_n 2, 1) := by decide +kernel
theorem d_Law_law_1005 : decode code 1005 = .ok (.aload_n 0, 1) := by decide +kernel
theorem d_Law_law_1006 : decode code 1006 = .ok (.iload 4, 2) := by decide +kernel
theorem d_Law_law_1008 : decode code 1008 = .ok (.iconst 1, 1) := by decide +kernel
theorem d_Law_law_1009 : decode code 1009 = .ok (.iadd, 1) := by decide +kernel
theorem d_Law_law_1010 : decode code 1010 = .ok (.iaload, 1) := by decide +kernel
theorem d_Law_law_1011 : decode code 1011 = .ok (.invokevirtual 138, 3) := by decide +kernel
theorem d_Law_law_1014 : decode code 1014 = .ok (.if_icmp .eq 373, 3) := by decide +kernel
theorem d_Law_law_1017 : decode code 1017 = .ok (.iconst 0, 1) := by decide +kernel
theorem d_Law_law_1018 : decode code 1018 = .ok (.ireturn, 1) := by decide +kernel
theorem d_Law_law_969 : decode code 969 = .ok (.aload_n 1, 1) := by decide +kernel
theorem d_Law_law_970 : decode code 970 = .ok (.aload_n 0, 1) := by decide +kernel
theorem d_Law_law_971 : decode code 971 = .ok (.iload 4, 2) := by decide +kernel
theorem d_Law_law_973 : decode code 973 = .ok (.iconst 1, 1) := by decide +kernel
theorem d_Law_law_974 : decode code 974 = .ok (.iadd, 1) := by decide +kernel
theorem d_Law_law_975 : decode code 975 = .ok (.iaload, 1) := by decide +kernel
theorem d_Law_law_976 : decode code 976 = .ok (.invokevirtual 131, 3) := by decide +kernel
theorem d_Law_law_979 : decode code 979 = .ok (.aload_n 2, 1) := by decide +kernel
theorem d_Law_law_980 : decode code 980 = .ok (.aload_n 0, 1) := by decide +kernel
theorem d_Law_law_981 : decode code 981 = .ok (.iload 4, 2) := by decide +kernel
theorem d_Law_law_983 : decode code 983 = .ok (.iconst 1, 1) := by decide +kernel
theorem d_Law_law_984 : decode code 984 = .ok (.iadd, 1) := by decide +kernel
theorem d_Law_law_985 : decode code 985 = .ok (.iaload, 1) := by decide +kernel
theorem d_Law_law_986 : decode code 986 = .ok (.invokevirtual 134, 3) := by decide +kernel
theorem d_Law_law_989 : decode code 989 = .ok (.if_icmp .eq 398, 3) := by decide +kernel
theorem d_Law_law_992 : decode code 992 = .ok (.iconst 0, 1) := by decide +kernel
theorem d_Law_law_993 : decode code 993 = .ok (.ireturn, 1) := by decide +kernel
theorem d_Law_law_944 : decode code 944 = .ok (.aload_n 1, 1) := by decide +kernel
theorem d_Law_law_945 : decode code 945 = .ok (.aload_n 0, 1) := by decide +kernel
theorem d_Law_law_946 : decode code 946 = .ok (.iload 4, 2) := by decide +kernel
theorem d_Law_law_948 : decode code 948 = .ok (.iconst 1, 1) := by decide +kernel
theorem d_Law_law_949 : decode code 949 = .ok (.iadd, 1) := by decide +kernel
theorem d_Law_law_950 : decode code 950 = .ok (.iaload, 1) := by decide +kernel
theorem d_Law_law_951 : decode code 951 = .ok (.invokevirtual 127, 3) := by decide +kernel
theorem d_No_again_39 : decode prog_1_method_5_code 39 = .ok (.pop, 1) := by decide +kernel
theorem d_No_again_40 : decode prog_1_method_5_code 40 = .ok (.iconst 1, 1) := by decide +kernel
theorem d_No_again_41 : decode prog_1_method_5_code 41 = .ok (.ireturn, 1) := by decide +kernel
theorem d_No_again_17 : decode prog_1_method_5_code 17 = .ok (.iconst 0, 1) := by decide +kernel
theorem d_No_again_18 : decode prog_1_method_5_code 18 = .ok (.ireturn, 1) := by decide +kernel
theorem d_No_deliver_38 : decode prog_1_method_16_code 38 = .ok (.goto 22, 3) := by decide +kernel
theorem d_No_deliver_41 : decode prog_1_method_16_code 41 = .ok (.aload_n 2, 1) := by decide +kernel
theorem d_No_deliver_42 : decode prog_1_method_16_code 42 = .ok (.instanceof 176, 3) := by decide +kernel
theorem d_No_deliver_45 : decode prog_1_method_16_code 45 = .ok (.ifCond .eq 15, 3) := by decide +kernel
theorem d_No_deliver_48 : decode prog_1_method_16_code 48 = .ok (.aload_n 2, 1) := by decide +kernel
theorem d_No_deliver_49 : decode prog_1_method_16_code 49 = .ok (.checkcast 176, 3) := by decide +kernel
theorem d_No_deliver_52 : decode prog_1_method_16_code 52 = .ok (.astore 4, 2) := by decide +kernel
theorem d_No_deliver_54 : decode prog_1_method_16_code 54 = .ok (.aload_n 0, 1) := by decide +kernel
theorem d_No_deliver_55 : decode prog_1_method_16_code 55 = .ok (.aload 4, 2) := by decide +kernel
theorem d_No_deliver_57 : decode prog_1_method_16_code 57 = .ok (.invokevirtual 178, 3) := by decide +kernel
theorem d_No_deliver_60 : decode prog_1_method_16_code 60 = .ok (.iconst 1, 1) := by decide +kernel
theorem d_No_deliver_61 : decode prog_1_method_16_code 61 = .ok (.ireturn, 1) := by decide +kernel
theorem d_No_request_84 : decode prog_1_method_3_code 84 = .ok (.ireturn, 1) := by decide +kernel
theorem d_No_request_60 : decode prog_1_method_3_code 60 = .ok (.iconst (-1), 1) := by decide +kernel
theorem d_No_request_61 : decode prog_1_method_3_code 61 = .ok (.ireturn, 1) := by decide +kernel
theorem d_Law_report_8 : decode method_5_code 8 = .ok (.i2l, 1) := by decide +kernel
theorem d_Law_report_9 : decode method_5_code 9 = .ok (.lastore, 1) := by decide +kernel
theorem d_Law_report_10 : decode method_5_code 10 = .ok (.goto 7, 3) := by decide +kernel
theorem d_Law_report_17 : decode method_5_code 17 = .ok (.iconst 0, 1) := by decide +kernel
theorem d_Law_report_18 : decode method_5_code 18 = .ok (.ireturn, 1) := by decide +kernel
theorem d_Law_report_13 : decode method_5_code 13 = .ok (.astore 4, 2) := by decide +kernel
theorem d_Law_report_15 : decode method_5_code 15 = .ok (.iconst 1, 1) := by decide +kernel
theorem d_Law_report_16 : decode method_5_code 16 = .ok (.ireturn, 1) := by decide +kernel
theorem d_No_invoice_67 : decode prog_1_method_6_code 67 = .ok (.istore 8, 2) := by decide +kernel
theorem d_No_invoice_69 : decode prog_1_method_6_code 69 = .ok (.iload 8, 2) := by decide +kernel
theorem d_No_invoice_71 : decode prog_1_method_6_code 71 = .ok (.iconst (-1), 1) := by decide +kernel
theorem d_No_invoice_72 : decode prog_1_method_6_code 72 = .ok (.if_icmp .eq 8, 3) := by decide +kernel
theorem d_No_invoice_75 : decode prog_1_method_6_code 75 = .ok (.aload 6, 2) := by decide +kernel
theorem d_No_invoice_77 : decode prog_1_method_6_code 77 = .ok (.invokevirtual 98, 3) := by decide +kernel
theorem d_No_invoice_56 : decode prog_1_method_6_code 56 = .ok (.iconst (-1), 1) := by decide +kernel
theorem d_No_invoice_57 : decode prog_1_method_6_code 57 = .ok (.ireturn, 1) := by decide +kernel
theorem d_No_invoice_80 : decode prog_1_method_6_code 80 = .ok (.iload 8, 2) := by decide +kernel
theorem d_No_invoice_82 : decode prog_1_method_6_code 82 = .ok (.ireturn, 1) := by decide +kernel
theorem d_Law_voidNext_10 : decode method_7_code 10 = .ok (.i2l, 1) := by decide +kernel
theorem d_Law_voidNext_11 : decode method_7_code 11 = .ok (.lastore, 1) := by decide +kernel
theorem d_Law_voidNext_12 : decode method_7_code 12 = .ok (.goto 7, 3) := by decide +kernel
theorem d_Law_voidNext_19 : decode method_7_code 19 = .ok (.iconst 0, 1) := by decide +kernel
theorem d_Law_voidNext_20 : decode method_7_code 20 = .ok (.ireturn, 1) := by decide +kernel
theorem d_Law_voidNext_15 : decode method_7_code 15 = .ok (.astore 5, 2) := by decide +kernel
theorem d_Law_voidNext_17 : decode method_7_code 17 = .ok (.iconst 1, 1) := by decide +kernel
theorem d_Law_voidNext_18 : decode method_7_code 18 = .ok (.ireturn, 1) := by decide +kernel
theorem d_StringBuilder_append_5 : decode prog_24_method_14_code 5 = .ok (.pop, 1) := by decide +kernel
theorem d_StringBuilder_append_6 : decode prog_24_method_14_code 6 = .ok (.aload_n 0, 1) := by decide +kernel
theorem d_StringBuilder_append_7 : decode prog_24_method_14_code 7 = .ok (.areturn, 1) := by decide +kernel
theorem d_AbstractStringBuilder_append2_33 : decode prog_16_method_22_code 33 = .ok (.aload_n 0, 1) := by decide +kernel
theorem d_AbstractStringBuilder_append2_34 : decode prog_16_method_22_code 34 = .ok (.dup, 1) := by decide +kernel
theorem d_AbstractStringBuilder_append2_35 : decode prog_16_method_22_code 35 = .ok (.getfield 79, 3) := by decide +kernel
theorem d_AbstractStringBuilder_append2_38 : decode prog_16_method_22_code 38 = .ok (.iload_n 2, 1) := by decide +kernel
theorem d_AbstractStringBuilder_append2_39 : decode prog_16_method_22_code 39 = .ok (.iadd, 1) := by decide +kernel
theorem d_AbstractStringBuilder_append2_40 : decode prog_16_method_22_code 40 = .ok (.putfield 79, 3) := by decide +kernel
theorem d_AbstractStringBuilder_append2_43 : decode prog_16_method_22_code 43 = .ok (.aload_n 0, 1) := by decide +kernel
theorem d_AbstractStringBuilder_append2_44 : decode prog_16_method_22_code 44 = .ok (.areturn, 1) := by decide +kernel
theorem d_Law_law_954 : decode code 954 = .ok (.aload_n 2, 1) := by decide +kernel
theorem d_Law_law_955 : decode code 955 = .ok (.aload_n 0, 1) := by decide +kernel
theorem d_Law_law_956 : decode code 956 = .ok (.iload 4, 2) := by decide +kernel
theorem d_Law_law_958 : decode code 958 = .ok (.iconst 1, 1) := by decide +kernel
theorem d_Law_law_959 : decode code 959 = .ok (.iadd, 1) := by decide +kernel
theorem d_Law_law_960 : decode code 960 = .ok (.iaload, 1) := by decide +kernel
theorem d_Law_law_961 : decode code 961 = .ok (.invokevirtual 130, 3) := by decide +kernel
theorem d_Law_law_964 : decode code 964 = .ok (.if_icmp .eq 423, 3) := by decide +kernel
theorem d_Law_law_967 : decode code 967 = .ok (.iconst 0, 1) := by decide +kernel
theorem d_Law_law_968 : decode code 968 = .ok (.ireturn, 1) := by decide +kernel
theorem d_Law_law_907 : decode code 907 = .ok (.aload_n 1, 1) := by decide +kernel
theorem d_Law_law_908 : decode code 908 = .ok (.aload_n 0, 1) := by decide +kernel
theorem d_Law_law_909 : decode code 909 = .ok (.iload 4, 2) := by decide +kernel
theorem d_Law_law_911 : decode code 911 = .ok (.iconst 1, 1) := by decide +kernel
theorem d_Law_law_912 : decode code 912 = .ok (.iadd, 1) := by decide +kernel
theorem d_Law_law_913 : decode code 913 = .ok (.iaload, 1) := by decide +kernel
theorem d_Law_law_914 : decode code 914 = .ok (.aload_n 0, 1) := by decide +kernel
theorem d_Law_law_915 : decode code 915 = .ok (.iload 4, 2) := by decide +kernel
theorem d_Law_law_917 : decode code 917 = .ok (.iconst 2, 1) := by decide +kernel
theorem d_Law_law_918 : decode code 918 = .ok (.iadd, 1) := by decide +kernel
theorem d_Law_law_919 : decode code 919 = .ok (.iaload, 1) := by decide +kernel
theorem d_Law_law_920 : decode code 920 = .ok (.invokevirtual 123, 3) := by decide +kernel
theorem d_Law_law_923 : decode code 923 = .ok (.aload_n 2, 1) := by decide +kernel
theorem d_Law_law_924 : decode code 924 = .ok (.aload_n 0, 1) := by decide +kernel
theorem d_Law_law_925 : decode code 925 = .ok (.iload 4, 2) := by decide +kernel
theorem d_Law_law_927 : decode code 927 = .ok (.iconst 1, 1) := by decide +kernel
theorem d_Law_law_928 : decode code 928 = .ok (.iadd, 1) := by decide +kernel
theorem d_Law_law_929 : decode code 929 = .ok (.iaload, 1) := by decide +kernel
theorem d_Law_law_930 : decode code 930 = .ok (.aload_n 0, 1) := by decide +kernel
theorem d_Law_law_931 : decode code 931 = .ok (.iload 4, 2) := by decide +kernel
theorem d_Law_law_933 : decode code 933 = .ok (.iconst 2, 1) := by decide +kernel
theorem d_Law_law_934 : decode code 934 = .ok (.iadd, 1) := by decide +kernel
theorem d_Law_law_935 : decode code 935 = .ok (.iaload, 1) := by decide +kernel
theorem d_Law_law_936 : decode code 936 = .ok (.invokevirtual 126, 3) := by decide +kernel
theorem d_Law_law_939 : decode code 939 = .ok (.if_icmp .eq 448, 3) := by decide +kernel
theorem d_Law_law_942 : decode code 942 = .ok (.iconst 0, 1) := by decide +kernel
theorem d_Law_law_943 : decode code 943 = .ok (.ireturn, 1) := by decide +kernel
theorem d_Law_law_894 : decode code 894 = .ok (.aload_n 1, 1) := by decide +kernel
theorem d_Law_law_895 : decode code 895 = .ok (.invokevirtual 119, 3) := by decide +kernel
theorem d_Law_law_898 : decode code 898 = .ok (.aload_n 2, 1) := by decide +kernel
theorem d_Law_law_899 : decode code 899 = .ok (.invokevirtual 122, 3) := by decide +kernel
theorem d_Law_law_902 : decode code 902 = .ok (.if_icmp .eq 485, 3) := by decide +kernel
theorem d_Law_law_905 : decode code 905 = .ok (.iconst 0, 1) := by decide +kernel
theorem d_Law_law_906 : decode code 906 = .ok (.ireturn, 1) := by decide +kernel
theorem d_Law_law_869 : decode code 869 = .ok (.aload_n 1, 1) := by decide +kernel
theorem d_Law_law_870 : decode code 870 = .ok (.aload_n 0, 1) := by decide +kernel
theorem d_Law_law_871 : decode code 871 = .ok (.iload 4, 2) := by decide +kernel
theorem d_Law_law_873 : decode code 873 = .ok (.iconst 1, 1) := by decide +kernel
theorem d_Law_law_874 : decode code 874 = .ok (.iadd, 1) := by decide +kernel
theorem d_Law_law_875 : decode code 875 = .ok (.iaload, 1) := by decide +kernel
theorem d_Law_law_876 : decode code 876 = .ok (.invokevirtual 115, 3) := by decide +kernel
theorem d_Law_law_879 : decode code 879 = .ok (.aload_n 2, 1) := by decide +kernel
theorem d_Law_law_880 : decode code 880 = .ok (.aload_n 0, 1) := by decide +kernel
theorem d_Law_law_881 : decode code 881 = .ok (.iload 4, 2) := by decide +kernel
theorem d_Law_law_883 : decode code 883 = .ok (.iconst 1, 1) := by decide +kernel
theorem d_Law_law_884 : decode code 884 = .ok (.iadd, 1) := by decide +kernel
theorem d_Law_law_885 : decode code 885 = .ok (.iaload, 1) := by decide +kernel
theorem d_Law_law_886 : decode code 886 = .ok (.invokevirtual 118, 3) := by decide +kernel
theorem d_Law_law_889 : decode code 889 = .ok (.if_icmp .eq 498, 3) := by decide +kernel
theorem d_Law_law_892 : decode code 892 = .ok (.iconst 0, 1) := by decide +kernel
theorem d_Law_law_893 : decode code 893 = .ok (.ireturn, 1) := by decide +kernel
theorem d_Law_law_844 : decode code 844 = .ok (.aload_n 1, 1) := by decide +kernel
theorem d_Law_law_845 : decode code 845 = .ok (.aload_n 0, 1) := by decide +kernel
theorem d_Law_law_846 : decode code 846 = .ok (.iload 4, 2) := by decide +kernel
theorem d_Law_law_848 : decode code 848 = .ok (.iconst 1, 1) := by decide +kernel
theorem d_Law_law_849 : decode code 849 = .ok (.iadd, 1) := by decide +kernel
theorem d_Law_law_850 : decode code 850 = .ok (.iaload, 1) := by decide +kernel
theorem d_Law_law_851 : decode code 851 = .ok (.invokevirtual 111, 3) := by decide +kernel
theorem d_Law_law_854 : decode code 854 = .ok (.aload_n 2, 1) := by decide +kernel
theorem d_Law_law_855 : decode code 855 = .ok (.aload_n 0, 1) := by decide +kernel
theorem d_Law_law_856 : decode code 856 = .ok (.iload 4, 2) := by decide +kernel
theorem d_Law_law_858 : decode code 858 = .ok (.iconst 1, 1) := by decide +kernel
theorem d_Law_law_859 : decode code 859 = .ok (.iadd, 1) := by decide +kernel
theorem d_Law_law_860 : decode code 860 = .ok (.iaload, 1) := by decide +kernel
theorem d_Law_law_861 : decode code 861 = .ok (.invokevirtual 114, 3) := by decide +kernel
theorem d_Law_law_864 : decode code 864 = .ok (.if_icmp .eq 523, 3) := by decide +kernel
theorem d_Law_law_867 : decode code 867 = .ok (.iconst 0, 1) := by decide +kernel
theorem d_Law_law_868 : decode code 868 = .ok (.ireturn, 1) := by decide +kernel
theorem d_Law_law_819 : decode code 819 = .ok (.aload_n 1, 1) := by decide +kernel
theorem d_Law_law_820 : decode code 820 = .ok (.aload_n 0, 1) := by decide +kernel
theorem d_Law_law_821 : decode code 821 = .ok (.iload 4, 2) := by decide +kernel
theorem d_Law_law_823 : decode code 823 = .ok (.iconst 1, 1) := by decide +kernel
theorem d_Law_law_824 : decode code 824 = .ok (.iadd, 1) := by decide +kernel
theorem d_Law_law_825 : decode code 825 = .ok (.iaload, 1) := by decide +kernel
theorem d_Law_law_826 : decode code 826 = .ok (.invokevirtual 107, 3) := by decide +kernel
theorem d_Law_law_829 : decode code 829 = .ok (.aload_n 2, 1) := by decide +kernel
theorem d_Law_law_830 : decode code 830 = .ok (.aload_n 0, 1) := by decide +kernel
theorem d_Law_law_831 : decode code 831 = .ok (.iload 4, 2) := by decide +kernel
theorem d_Law_law_833 : decode code 833 = .ok (.iconst 1, 1) := by decide +kernel
theorem d_Law_law_834 : decode code 834 = .ok (.iadd, 1) := by decide +kernel
theorem d_Law_law_835 : decode code 835 = .ok (.iaload, 1) := by decide +kernel
theorem d_Law_law_836 : decode code 836 = .ok (.invokevirtual 110, 3) := by decide +kernel
theorem d_Law_law_839 : decode code 839 = .ok (.if_icmp .eq 548, 3) := by decide +kernel
theorem d_Law_law_842 : decode code 842 = .ok (.iconst 0, 1) := by decide +kernel
theorem d_Law_law_843 : decode code 843 = .ok (.ireturn, 1) := by decide +kernel
theorem d_Law_law_763 : decode code 763 = .ok (.aload_n 1, 1) := by decide +kernel
theorem d_Law_law_764 : decode code 764 = .ok (.aload_n 0, 1) := by decide +kernel
theorem d_Law_law_765 : decode code 765 = .ok (.iload 4, 2) := by decide +kernel
theorem d_Law_law_767 : decode code 767 = .ok (.iconst 1, 1) := by decide +kernel
theorem d_Law_law_768 : decode code 768 = .ok (.iadd, 1) := by decide +kernel
theorem d_Law_law_769 : decode code 769 = .ok (.iaload, 1) := by decide +kernel
theorem d_Law_law_770 : decode code 770 = .ok (.aload_n 3, 1) := by decide +kernel
theorem d_Law_law_771 : decode code 771 = .ok (.invokestatic 104, 3) := by decide +kernel
theorem d_Law_request_10 : decode method_4_code 10 = .ok (.i2l, 1) := by decide +kernel
theorem d_Law_request_11 : decode method_4_code 11 = .ok (.lastore, 1) := by decide +kernel
theorem d_Law_request_12 : decode method_4_code 12 = .ok (.goto 7, 3) := by decide +kernel
theorem d_Law_request_19 : decode method_4_code 19 = .ok (.iconst 0, 1) := by decide +kernel
theorem d_Law_request_20 : decode method_4_code 20 = .ok (.ireturn, 1) := by decide +kernel
theorem d_Law_request_15 : decode method_4_code 15 = .ok (.astore 5, 2) := by decide +kernel
theorem d_Law_request_17 : decode method_4_code 17 = .ok (.iconst 1, 1) := by decide +kernel
theorem d_Law_request_18 : decode method_4_code 18 = .ok (.ireturn, 1) := by decide +kernel
theorem d_Law_invoice_12 : decode method_6_code 12 = .ok (.i2l, 1) := by decide +kernel
theorem d_Law_invoice_13 : decode method_6_code 13 = .ok (.lastore, 1) := by decide +kernel
theorem d_Law_invoice_14 : decode method_6_code 14 = .ok (.goto 7, 3) := by decide +kernel
theorem d_Law_invoice_21 : decode method_6_code 21 = .ok (.iconst 0, 1) := by decide +kernel
theorem d_Law_invoice_22 : decode method_6_code 22 = .ok (.ireturn, 1) := by decide +kernel
theorem d_Law_invoice_17 : decode method_6_code 17 = .ok (.astore 7, 2) := by decide +kernel
theorem d_Law_invoice_19 : decode method_6_code 19 = .ok (.iconst 1, 1) := by decide +kernel
theorem d_Law_invoice_20 : decode method_6_code 20 = .ok (.ireturn, 1) := by decide +kernel
theorem d_ListText_addNumber_15 : decode prog_8_method_5_code 15 = .ok (.pop, 1) := by decide +kernel
theorem d_ListText_addNumber_16 : decode prog_8_method_5_code 16 = .ok (.lload_n 1, 1) := by decide +kernel
theorem d_ListText_addNumber_17 : decode prog_8_method_5_code 17 = .ok (.invokestatic 77, 3) := by decide +kernel
theorem d_ListText_addNumber_20 : decode prog_8_method_5_code 20 = .ok (.lstore_n 3, 1) := by decide +kernel
theorem d_ListText_addNumber_21 : decode prog_8_method_5_code 21 = .ok (.bipush 20, 2) := by decide +kernel
theorem d_ListText_addNumber_23 : decode prog_8_method_5_code 23 = .ok (.istore 5, 2) := by decide +kernel
theorem d_ListText_addNumber_25 : decode prog_8_method_5_code 25 = .ok (.iinc 5 (-1), 3) := by decide +kernel
theorem d_ListText_addNumber_28 : decode prog_8_method_5_code 28 = .ok (.aload_n 0, 1) := by decide +kernel
theorem d_ListText_addNumber_29 : decode prog_8_method_5_code 29 = .ok (.getfield 18, 3) := by decide +kernel
theorem d_ListText_addNumber_32 : decode prog_8_method_5_code 32 = .ok (.iload 5, 2) := by decide +kernel
theorem d_ListText_addNumber_34 : decode prog_8_method_5_code 34 = .ok (.lload_n 3, 1) := by decide +kernel
theorem d_ListText_addNumber_35 : decode prog_8_method_5_code 35 = .ok (.invokestatic 73, 3) := by decide +kernel
theorem d_ListText_addNumber_38 : decode prog_8_method_5_code 38 = .ok (.castore, 1) := by decide +kernel
theorem d_ListText_addNumber_39 : decode prog_8_method_5_code 39 = .ok (.lload_n 3, 1) := by decide +kernel
theorem d_ListText_addNumber_40 : decode prog_8_method_5_code 40 = .ok (.ldc2_w 71, 3) := by decide +kernel
theorem d_ListText_addNumber_43 : decode prog_8_method_5_code 43 = .ok (.ldiv, 1) := by decide +kernel
theorem d_ListText_addNumber_44 : decode prog_8_method_5_code 44 = .ok (.lstore_n 3, 1) := by decide +kernel
theorem d_ListText_addNumber_45 : decode prog_8_method_5_code 45 = .ok (.lload_n 3, 1) := by decide +kernel
theorem d_ListText_addNumber_46 : decode prog_8_method_5_code 46 = .ok (.lconst 0, 1) := by decide +kernel
theorem d_ListText_addNumber_47 : decode prog_8_method_5_code 47 = .ok (.lcmp, 1) := by decide +kernel
theorem d_ListText_addNumber_48 : decode prog_8_method_5_code 48 = .ok (.ifCond .le 8, 3) := by decide +kernel
theorem d_ListText_addNumber_51 : decode prog_8_method_5_code 51 = .ok (.iload 5, 2) := by decide +kernel
theorem d_ListText_addNumber_53 : decode prog_8_method_5_code 53 = .ok (.ifCond .gt (-28), 3) := by decide +kernel
theorem d_ListText_addNumber_56 : decode prog_8_method_5_code 56 = .ok (.iload 5, 2) := by decide +kernel
theorem d_ListText_addNumber_58 : decode prog_8_method_5_code 58 = .ok (.istore 6, 2) := by decide +kernel
theorem d_ListText_addNumber_60 : decode prog_8_method_5_code 60 = .ok (.iload 6, 2) := by decide +kernel
theorem d_ListText_addNumber_62 : decode prog_8_method_5_code 62 = .ok (.bipush 20, 2) := by decide +kernel
theorem d_ListText_addNumber_64 : decode prog_8_method_5_code 64 = .ok (.if_icmp .ge 24, 3) := by decide +kernel
theorem d_ListText_addNumber_88 : decode prog_8_method_5_code 88 = .ok (.return_, 1) := by decide +kernel
theorem d_ListText_addNumber_67 : decode prog_8_method_5_code 67 = .ok (.aload_n 0, 1) := by decide +kernel
theorem d_ListText_addNumber_68 : decode prog_8_method_5_code 68 = .ok (.getfield 12, 3) := by decide +kernel
theorem d_ListText_addNumber_71 : decode prog_8_method_5_code 71 = .ok (.aload_n 0, 1) := by decide +kernel
theorem d_ListText_addNumber_72 : decode prog_8_method_5_code 72 = .ok (.getfield 18, 3) := by decide +kernel
theorem d_ListText_addNumber_75 : decode prog_8_method_5_code 75 = .ok (.iload 6, 2) := by decide +kernel
theorem d_ListText_addNumber_77 : decode prog_8_method_5_code 77 = .ok (.caload, 1) := by decide +kernel
theorem d_ListText_addNumber_78 : decode prog_8_method_5_code 78 = .ok (.invokevirtual 50, 3) := by decide +kernel
theorem d_ListText_addNumber_81 : decode prog_8_method_5_code 81 = .ok (.pop, 1) := by decide +kernel
theorem d_ListText_addNumber_82 : decode prog_8_method_5_code 82 = .ok (.iinc 6 1, 3) := by decide +kernel
theorem d_ListText_addNumber_85 : decode prog_8_method_5_code 85 = .ok (.goto (-25), 3) := by decide +kernel
theorem d_StringBuilder_append2_5 : decode prog_24_method_7_code 5 = .ok (.pop, 1) := by decide +kernel
theorem d_StringBuilder_append2_6 : decode prog_24_method_7_code 6 = .ok (.aload_n 0, 1) := by decide +kernel
theorem d_StringBuilder_append2_7 : decode prog_24_method_7_code 7 = .ok (.areturn, 1) := by decide +kernel
theorem d_ListText_addAmount_9 : decode prog_8_method_4_code 9 = .ok (.aload_n 0, 1) := by decide +kernel
theorem d_ListText_addAmount_10 : decode prog_8_method_4_code 10 = .ok (.getfield 12, 3) := by decide +kernel
theorem d_ListText_addAmount_13 : decode prog_8_method_4_code 13 = .ok (.bipush 46, 2) := by decide +kernel
theorem d_ListText_addAmount_15 : decode prog_8_method_4_code 15 = .ok (.invokevirtual 50, 3) := by decide +kernel
theorem d_ListText_addAmount_18 : decode prog_8_method_4_code 18 = .ok (.pop, 1) := by decide +kernel
theorem d_ListText_addAmount_19 : decode prog_8_method_4_code 19 = .ok (.aload_n 0, 1) := by decide +kernel
theorem d_ListText_addAmount_20 : decode prog_8_method_4_code 20 = .ok (.getfield 12, 3) := by decide +kernel
theorem d_ListText_addAmount_23 : decode prog_8_method_4_code 23 = .ok (.lload_n 1, 1) := by decide +kernel
theorem d_ListText_addAmount_24 : decode prog_8_method_4_code 24 = .ok (.ldc2_w 71, 3) := by decide +kernel
theorem d_ListText_addAmount_27 : decode prog_8_method_4_code 27 = .ok (.ldiv, 1) := by decide +kernel
theorem d_ListText_addAmount_28 : decode prog_8_method_4_code 28 = .ok (.invokestatic 73, 3) := by decide +kernel
theorem d_ListText_addAmount_31 : decode prog_8_method_4_code 31 = .ok (.invokevirtual 50, 3) := by decide +kernel
theorem d_ListText_addAmount_34 : decode prog_8_method_4_code 34 = .ok (.pop, 1) := by decide +kernel
theorem d_ListText_addAmount_35 : decode prog_8_method_4_code 35 = .ok (.aload_n 0, 1) := by decide +kernel
theorem d_ListText_addAmount_36 : decode prog_8_method_4_code 36 = .ok (.getfield 12, 3) := by decide +kernel
theorem d_ListText_addAmount_39 : decode prog_8_method_4_code 39 = .ok (.lload_n 1, 1) := by decide +kernel
theorem d_ListText_addAmount_40 : decode prog_8_method_4_code 40 = .ok (.invokestatic 73, 3) := by decide +kernel
theorem d_ListText_addAmount_43 : decode prog_8_method_4_code 43 = .ok (.invokevirtual 50, 3) := by decide +kernel
theorem d_ListText_addAmount_46 : decode prog_8_method_4_code 46 = .ok (.pop, 1) := by decide +kernel
theorem d_ListText_addAmount_47 : decode prog_8_method_4_code 47 = .ok (.return_, 1) := by decide +kernel
theorem d_ListText_write_56 : decode prog_8_method_2_code 56 = .ok (.pop, 1) := by decide +kernel
theorem d_ListText_write_57 : decode prog_8_method_2_code 57 = .ok (.aload_n 0, 1) := by decide +kernel
theorem d_ListText_write_58 : decode prog_8_method_2_code 58 = .ok (.lload_n 2, 1) := by decide +kernel
theorem d_ListText_write_59 : decode prog_8_method_2_code 59 = .ok (.invokevirtual 46, 3) := by decide +kernel
theorem d_ListText_write_62 : decode prog_8_method_2_code 62 = .ok (.aload_n 0, 1) := by decide +kernel
theorem d_ListText_write_63 : decode prog_8_method_2_code 63 = .ok (.getfield 12, 3) := by decide +kernel
theorem d_ListText_write_66 : decode prog_8_method_2_code 66 = .ok (.bipush 32, 2) := by decide +kernel
theorem d_ListText_write_68 : decode prog_8_method_2_code 68 = .ok (.invokevirtual 50, 3) := by decide +kernel
theorem d_ListText_write_71 : decode prog_8_method_2_code 71 = .ok (.pop, 1) := by decide +kernel
theorem d_ListText_write_72 : decode prog_8_method_2_code 72 = .ok (.aload_n 0, 1) := by decide +kernel
theorem d_ListText_write_73 : decode prog_8_method_2_code 73 = .ok (.aload_n 1, 1) := by decide +kernel
theorem d_ListText_write_74 : decode prog_8_method_2_code 74 = .ok (.getfield 53, 3) := by decide +kernel
theorem d_ListText_write_77 : decode prog_8_method_2_code 77 = .ok (.i2l, 1) := by decide +kernel
theorem d_ListText_write_78 : decode prog_8_method_2_code 78 = .ok (.invokevirtual 56, 3) := by decide +kernel
theorem d_ListText_write_81 : decode prog_8_method_2_code 81 = .ok (.aload_n 0, 1) := by decide +kernel
theorem d_ListText_write_82 : decode prog_8_method_2_code 82 = .ok (.getfield 12, 3) := by decide +kernel
theorem d_ListText_write_85 : decode prog_8_method_2_code 85 = .ok (.bipush 10, 2) := by decide +kernel
theorem d_ListText_write_87 : decode prog_8_method_2_code 87 = .ok (.invokevirtual 50, 3) := by decide +kernel
theorem d_ListText_write_90 : decode prog_8_method_2_code 90 = .ok (.pop, 1) := by decide +kernel
theorem d_ListText_write_91 : decode prog_8_method_2_code 91 = .ok (.aload_n 0, 1) := by decide +kernel
theorem d_ListText_write_92 : decode prog_8_method_2_code 92 = .ok (.getfield 12, 3) := by decide +kernel
theorem d_ListText_write_95 : decode prog_8_method_2_code 95 = .ok (.invokevirtual 59, 3) := by decide +kernel
theorem d_ListText_write_98 : decode prog_8_method_2_code 98 = .ok (.areturn, 1) := by decide +kernel
theorem d_ListText_write_14 : decode prog_8_method_2_code 14 = .ok (.aload_n 0, 1) := by decide +kernel
theorem d_ListText_write_15 : decode prog_8_method_2_code 15 = .ok (.aload_n 1, 1) := by decide +kernel
theorem d_ListText_write_16 : decode prog_8_method_2_code 16 = .ok (.iload 4, 2) := by decide +kernel
theorem d_ListText_write_18 : decode prog_8_method_2_code 18 = .ok (.invokevirtual 28, 3) := by decide +kernel
theorem d_ListText_addLine_6 : decode prog_8_method_3_code 6 = .ok (.aload_n 1, 1) := by decide +kernel
theorem d_ListText_addLine_7 : decode prog_8_method_3_code 7 = .ok (.iload_n 2, 1) := by decide +kernel
theorem d_ListText_addLine_8 : decode prog_8_method_3_code 8 = .ok (.invokevirtual 32, 3) := by decide +kernel
theorem d_ListText_addLine_11 : decode prog_8_method_3_code 11 = .ok (.lookupswitch 91 #[(2, 25), (3, 68)], 25) := by decide +kernel
theorem d_ListText_addLine_102 : decode prog_8_method_3_code 102 = .ok (.aload_n 0, 1) := by decide +kernel
theorem d_ListText_addLine_103 : decode prog_8_method_3_code 103 = .ok (.getfield 12, 3) := by decide +kernel
theorem d_ListText_addLine_106 : decode prog_8_method_3_code 106 = .ok (.ldc 67, 2) := by decide +kernel
theorem d_ListText_addLine_108 : decode prog_8_method_3_code 108 = .ok (.invokevirtual 42, 3) := by decide +kernel
theorem d_ListText_addLine_111 : decode prog_8_method_3_code 111 = .ok (.pop, 1) := by decide +kernel
theorem d_ListText_addLine_79 : decode prog_8_method_3_code 79 = .ok (.aload_n 0, 1) := by decide +kernel
theorem d_ListText_addLine_80 : decode prog_8_method_3_code 80 = .ok (.getfield 12, 3) := by decide +kernel
theorem d_ListText_addLine_83 : decode prog_8_method_3_code 83 = .ok (.ldc 65, 2) := by decide +kernel
theorem d_ListText_addLine_85 : decode prog_8_method_3_code 85 = .ok (.invokevirtual 42, 3) := by decide +kernel
theorem d_ListText_addLine_88 : decode prog_8_method_3_code 88 = .ok (.pop, 1) := by decide +kernel
theorem d_ListText_addLine_89 : decode prog_8_method_3_code 89 = .ok (.aload_n 0, 1) := by decide +kernel
theorem d_ListText_addLine_90 : decode prog_8_method_3_code 90 = .ok (.aload_n 1, 1) := by decide +kernel
theorem d_ListText_addLine_91 : decode prog_8_method_3_code 91 = .ok (.iload_n 2, 1) := by decide +kernel
theorem d_ListText_addLine_92 : decode prog_8_method_3_code 92 = .ok (.iconst 3, 1) := by decide +kernel
theorem d_ListText_addLine_93 : decode prog_8_method_3_code 93 = .ok (.invokevirtual 36, 3) := by decide +kernel
theorem d_ListText_addLine_96 : decode prog_8_method_3_code 96 = .ok (.invokevirtual 56, 3) := by decide +kernel
theorem d_ListText_addLine_99 : decode prog_8_method_3_code 99 = .ok (.goto 13, 3) := by decide +kernel
theorem d_ListText_addLine_36 : decode prog_8_method_3_code 36 = .ok (.aload_n 0, 1) := by decide +kernel
theorem d_ListText_addLine_37 : decode prog_8_method_3_code 37 = .ok (.getfield 12, 3) := by decide +kernel
theorem d_ListText_addLine_40 : decode prog_8_method_3_code 40 = .ok (.ldc 63, 2) := by decide +kernel
theorem d_ListText_addLine_42 : decode prog_8_method_3_code 42 = .ok (.invokevirtual 42, 3) := by decide +kernel
theorem d_ListText_addLine_45 : decode prog_8_method_3_code 45 = .ok (.pop, 1) := by decide +kernel
theorem d_ListText_addLine_46 : decode prog_8_method_3_code 46 = .ok (.aload_n 0, 1) := by decide +kernel
theorem d_ListText_addLine_47 : decode prog_8_method_3_code 47 = .ok (.aload_n 1, 1) := by decide +kernel
theorem d_ListText_addLine_48 : decode prog_8_method_3_code 48 = .ok (.iload_n 2, 1) := by decide +kernel
theorem d_ListText_addLine_49 : decode prog_8_method_3_code 49 = .ok (.iconst 0, 1) := by decide +kernel
theorem d_ListText_addLine_50 : decode prog_8_method_3_code 50 = .ok (.invokevirtual 36, 3) := by decide +kernel
theorem d_ListText_addLine_53 : decode prog_8_method_3_code 53 = .ok (.invokevirtual 46, 3) := by decide +kernel
theorem d_ListText_addLine_56 : decode prog_8_method_3_code 56 = .ok (.aload_n 0, 1) := by decide +kernel
theorem d_ListText_addLine_57 : decode prog_8_method_3_code 57 = .ok (.getfield 12, 3) := by decide +kernel
theorem d_ListText_addLine_60 : decode prog_8_method_3_code 60 = .ok (.bipush 32, 2) := by decide +kernel
theorem d_ListText_addLine_62 : decode prog_8_method_3_code 62 = .ok (.invokevirtual 50, 3) := by decide +kernel
theorem d_ListText_addLine_65 : decode prog_8_method_3_code 65 = .ok (.pop, 1) := by decide +kernel
theorem d_ListText_addLine_66 : decode prog_8_method_3_code 66 = .ok (.aload_n 0, 1) := by decide +kernel
theorem d_ListText_addLine_67 : decode prog_8_method_3_code 67 = .ok (.aload_n 1, 1) := by decide +kernel
theorem d_ListText_addLine_68 : decode prog_8_method_3_code 68 = .ok (.iload_n 2, 1) := by decide +kernel
theorem d_ListText_addLine_69 : decode prog_8_method_3_code 69 = .ok (.iconst 1, 1) := by decide +kernel
theorem d_ListText_addLine_70 : decode prog_8_method_3_code 70 = .ok (.invokevirtual 36, 3) := by decide +kernel
theorem d_ListText_addLine_73 : decode prog_8_method_3_code 73 = .ok (.invokevirtual 56, 3) := by decide +kernel
theorem d_ListText_addLine_76 : decode prog_8_method_3_code 76 = .ok (.goto 36, 3) := by decide +kernel
theorem d_ListText_addLine_112 : decode prog_8_method_3_code 112 = .ok (.aload_n 0, 1) := by decide +kernel
theorem d_ListText_addLine_113 : decode prog_8_method_3_code 113 = .ok (.getfield 12, 3) := by decide +kernel
theorem d_ListText_addLine_116 : decode prog_8_method_3_code 116 = .ok (.bipush 10, 2) := by decide +kernel
theorem d_ListText_addLine_118 : decode prog_8_method_3_code 118 = .ok (.invokevirtual 50, 3) := by decide +kernel
theorem d_ListText_addLine_121 : decode prog_8_method_3_code 121 = .ok (.pop, 1) := by decide +kernel
theorem d_ListText_addLine_122 : decode prog_8_method_3_code 122 = .ok (.return_, 1) := by decide +kernel
theorem d_ListText_write_21 : decode prog_8_method_2_code 21 = .ok (.aload_n 1, 1) := by decide +kernel
theorem d_ListText_write_22 : decode prog_8_method_2_code 22 = .ok (.iload 4, 2) := by decide +kernel
theorem d_ListText_write_24 : decode prog_8_method_2_code 24 = .ok (.invokevirtual 32, 3) := by decide +kernel
theorem d_ListText_write_27 : decode prog_8_method_2_code 27 = .ok (.iconst 2, 1) := by decide +kernel
theorem d_ListText_write_28 : decode prog_8_method_2_code 28 = .ok (.if_icmp .ne 13, 3) := by decide +kernel
theorem d_ListText_write_31 : decode prog_8_method_2_code 31 = .ok (.lload_n 2, 1) := by decide +kernel
theorem d_ListText_write_32 : decode prog_8_method_2_code 32 = .ok (.aload_n 1, 1) := by decide +kernel
theorem d_ListText_write_33 : decode prog_8_method_2_code 33 = .ok (.iload 4, 2) := by decide +kernel
theorem d_ListText_write_35 : decode prog_8_method_2_code 35 = .ok (.iconst 0, 1) := by decide +kernel
theorem d_ListText_write_36 : decode prog_8_method_2_code 36 = .ok (.invokevirtual 36, 3) := by decide +kernel
theorem d_ListText_write_39 : decode prog_8_method_2_code 39 = .ok (.ladd, 1) := by decide +kernel
theorem d_ListText_write_40 : decode prog_8_method_2_code 40 = .ok (.lstore_n 2, 1) := by decide +kernel
theorem d_ListText_write_41 : decode prog_8_method_2_code 41 = .ok (.iinc 4 1, 3) := by decide +kernel
theorem d_ListText_write_44 : decode prog_8_method_2_code 44 = .ok (.goto (-39), 3) := by decide +kernel
theorem d_SeriesBook_shut_17 : decode prog_11_method_5_code 17 = .ok (.putfield 31, 3) := by decide +kernel
theorem d_SeriesBook_shut_20 : decode prog_11_method_5_code 20 = .ok (.return_, 1) := by decide +kernel
theorem d_No_close_42 : decode prog_1_method_10_code 42 = .ok (.aload_n 0, 1) := by decide +kernel
theorem d_No_close_43 : decode prog_1_method_10_code 43 = .ok (.getfield 30, 3) := by decide +kernel
theorem d_No_close_46 : decode prog_1_method_10_code 46 = .ok (.invokevirtual 137, 3) := by decide +kernel
theorem d_No_close_27 : decode prog_1_method_10_code 27 = .ok (.iconst (-1), 1) := by decide +kernel
theorem d_No_close_28 : decode prog_1_method_10_code 28 = .ok (.ireturn, 1) := by decide +kernel
theorem d_No_close_49 : decode prog_1_method_10_code 49 = .ok (.iload_n 3, 1) := by decide +kernel
theorem d_No_close_50 : decode prog_1_method_10_code 50 = .ok (.ireturn, 1) := by decide +kernel
theorem d_Law_close_7 : decode method_10_code 7 = .ok (.i2l, 1) := by decide +kernel
theorem d_Law_close_8 : decode method_10_code 8 = .ok (.lastore, 1) := by decide +kernel
theorem d_Law_close_9 : decode method_10_code 9 = .ok (.goto 6, 3) := by decide +kernel
theorem d_Law_close_15 : decode method_10_code 15 = .ok (.iconst 0, 1) := by decide +kernel
theorem d_Law_close_16 : decode method_10_code 16 = .ok (.ireturn, 1) := by decide +kernel
theorem d_Law_close_12 : decode method_10_code 12 = .ok (.astore_n 3, 1) := by decide +kernel
theorem d_Law_close_13 : decode method_10_code 13 = .ok (.iconst 1, 1) := by decide +kernel
theorem d_Law_close_14 : decode method_10_code 14 = .ok (.ireturn, 1) := by decide +kernel
theorem d_Law_law_774 : decode code 774 = .ok (.istore 5, 2) := by decide +kernel
theorem d_Law_law_776 : decode code 776 = .ok (.aload_n 2, 1) := by decide +kernel
theorem d_Law_law_777 : decode code 777 = .ok (.aload_n 0, 1) := by decide +kernel
theorem d_Law_law_778 : decode code 778 = .ok (.iload 4, 2) := by decide +kernel
theorem d_Law_law_780 : decode code 780 = .ok (.iconst 1, 1) := by decide +kernel
theorem d_Law_law_781 : decode code 781 = .ok (.iadd, 1) := by decide +kernel
theorem d_Law_law_782 : decode code 782 = .ok (.iaload, 1) := by decide +kernel
theorem d_Law_law_783 : decode code 783 = .ok (.invokevirtual 106, 3) := by decide +kernel
theorem d_Law_law_786 : decode code 786 = .ok (.istore 6, 2) := by decide +kernel
theorem d_Law_law_788 : decode code 788 = .ok (.aload_n 2, 1) := by decide +kernel
theorem d_Law_law_789 : decode code 789 = .ok (.invokevirtual 71, 3) := by decide +kernel
theorem d_Law_law_792 : decode code 792 = .ok (.iload 5, 2) := by decide +kernel
theorem d_Law_law_794 : decode code 794 = .ok (.if_icmp .eq 5, 3) := by decide +kernel
theorem d_Law_law_799 : decode code 799 = .ok (.iload 5, 2) := by decide +kernel
theorem d_Law_law_801 : decode code 801 = .ok (.ifCond .ne 15, 3) := by decide +kernel
theorem d_Law_law_804 : decode code 804 = .ok (.aload_n 3, 1) := by decide +kernel
theorem d_Law_law_805 : decode code 805 = .ok (.iconst 0, 1) := by decide +kernel
theorem d_Law_law_806 : decode code 806 = .ok (.laload, 1) := by decide +kernel
theorem d_Law_law_807 : decode code 807 = .ok (.iload 6, 2) := by decide +kernel
theorem d_Law_law_809 : decode code 809 = .ok (.i2l, 1) := by decide +kernel
theorem d_Law_law_810 : decode code 810 = .ok (.lcmp, 1) := by decide +kernel
theorem d_Law_law_811 : decode code 811 = .ok (.ifCond .eq 5, 3) := by decide +kernel
theorem d_Law_law_814 : decode code 814 = .ok (.iconst 0, 1) := by decide +kernel
theorem d_Law_law_815 : decode code 815 = .ok (.ireturn, 1) := by decide +kernel
theorem d_Law_law_797 : decode code 797 = .ok (.iconst 0, 1) := by decide +kernel
theorem d_Law_law_798 : decode code 798 = .ok (.ireturn, 1) := by decide +kernel
theorem d_Law_law_707 : decode code 707 = .ok (.aload_n 1, 1) := by decide +kernel
theorem d_Law_law_708 : decode code 708 = .ok (.aload_n 0, 1) := by decide +kernel
theorem d_Law_law_709 : decode code 709 = .ok (.iload 4, 2) := by decide +kernel
theorem d_Law_law_711 : decode code 711 = .ok (.iconst 1, 1) := by decide +kernel
theorem d_Law_law_712 : decode code 712 = .ok (.iadd, 1) := by decide +kernel
theorem d_Law_law_713 : decode code 713 = .ok (.iaload, 1) := by decide +kernel
theorem d_Law_law_714 : decode code 714 = .ok (.aload_n 3, 1) := by decide +kernel
theorem d_Law_law_715 : decode code 715 = .ok (.invokestatic 100, 3) := by decide +kernel
theorem d_Law_law_718 : decode code 718 = .ok (.istore 5, 2) := by decide +kernel
theorem d_Law_law_720 : decode code 720 = .ok (.aload_n 2, 1) := by decide +kernel
theorem d_Law_law_721 : decode code 721 = .ok (.aload_n 0, 1) := by decide +kernel
theorem d_Law_law_722 : decode code 722 = .ok (.iload 4, 2) := by decide +kernel
theorem d_Law_law_724 : decode code 724 = .ok (.iconst 1, 1) := by decide +kernel
theorem d_Law_law_725 : decode code 725 = .ok (.iadd, 1) := by decide +kernel
theorem d_Law_law_726 : decode code 726 = .ok (.iaload, 1) := by decide +kernel
theorem d_Law_law_727 : decode code 727 = .ok (.invokevirtual 103, 3) := by decide +kernel
theorem d_Law_law_730 : decode code 730 = .ok (.istore 6, 2) := by decide +kernel
theorem d_Law_law_732 : decode code 732 = .ok (.aload_n 2, 1) := by decide +kernel
theorem d_Law_law_733 : decode code 733 = .ok (.invokevirtual 71, 3) := by decide +kernel
theorem d_Law_law_736 : decode code 736 = .ok (.iload 5, 2) := by decide +kernel
theorem d_Law_law_738 : decode code 738 = .ok (.if_icmp .eq 5, 3) := by decide +kernel
theorem d_Law_law_743 : decode code 743 = .ok (.iload 5, 2) := by decide +kernel
theorem d_Law_law_745 : decode code 745 = .ok (.ifCond .ne 15, 3) := by decide +kernel
theorem d_Law_law_748 : decode code 748 = .ok (.aload_n 3, 1) := by decide +kernel
theorem d_Law_law_749 : decode code 749 = .ok (.iconst 0, 1) := by decide +kernel
theorem d_Law_law_750 : decode code 750 = .ok (.laload, 1) := by decide +kernel
theorem d_Law_law_751 : decode code 751 = .ok (.iload 6, 2) := by decide +kernel
theorem d_Law_law_753 : decode code 753 = .ok (.i2l, 1) := by decide +kernel
theorem d_Law_law_754 : decode code 754 = .ok (.lcmp, 1) := by decide +kernel
theorem d_Law_law_755 : decode code 755 = .ok (.ifCond .eq 5, 3) := by decide +kernel
theorem d_Law_law_758 : decode code 758 = .ok (.iconst 0, 1) := by decide +kernel
theorem d_Law_law_759 : decode code 759 = .ok (.ireturn, 1) := by decide +kernel
theorem d_Law_law_741 : decode code 741 = .ok (.iconst 0, 1) := by decide +kernel
theorem d_Law_law_742 : decode code 742 = .ok (.ireturn, 1) := by decide +kernel
theorem d_Law_law_608 : decode code 608 = .ok (.aload_n 1, 1) := by decide +kernel
theorem d_Law_law_609 : decode code 609 = .ok (.aload_n 0, 1) := by decide +kernel
theorem d_Law_law_610 : decode code 610 = .ok (.iload 4, 2) := by decide +kernel
theorem d_Law_law_612 : decode code 612 = .ok (.iconst 1, 1) := by decide +kernel
theorem d_Law_law_613 : decode code 613 = .ok (.iadd, 1) := by decide +kernel
theorem d_Law_law_614 : decode code 614 = .ok (.iaload, 1) := by decide +kernel
theorem d_Law_law_615 : decode code 615 = .ok (.aload_n 0, 1) := by decide +kernel
theorem d_Law_law_616 : decode code 616 = .ok (.iload 4, 2) := by decide +kernel
theorem d_Law_law_618 : decode code 618 = .ok (.iconst 2, 1) := by decide +kernel
theorem d_Law_law_619 : decode code 619 = .ok (.iadd, 1) := by decide +kernel
theorem d_Law_law_620 : decode code 620 = .ok (.iaload, 1) := by decide +kernel
theorem d_Law_law_621 : decode code 621 = .ok (.aload_n 0, 1) := by decide +kernel
theorem d_Law_law_622 : decode code 622 = .ok (.iload 4, 2) := by decide +kernel
theorem d_Law_law_624 : decode code 624 = .ok (.iconst 3, 1) := by decide +kernel
theorem d_Law_law_625 : decode code 625 = .ok (.iadd, 1) := by decide +kernel
theorem d_Law_law_626 : decode code 626 = .ok (.iaload, 1) := by decide +kernel
theorem d_Law_law_627 : decode code 627 = .ok (.aload_n 0, 1) := by decide +kernel
theorem d_Law_law_628 : decode code 628 = .ok (.iload 4, 2) := by decide +kernel
theorem d_Law_law_630 : decode code 630 = .ok (.iconst 4, 1) := by decide +kernel
theorem d_Law_law_631 : decode code 631 = .ok (.iadd, 1) := by decide +kernel
theorem d_Law_law_632 : decode code 632 = .ok (.iaload, 1) := by decide +kernel
theorem d_Law_law_633 : decode code 633 = .ok (.aload_n 3, 1) := by decide +kernel
theorem d_Law_law_634 : decode code 634 = .ok (.invokestatic 96, 3) := by decide +kernel
theorem d_Law_law_637 : decode code 637 = .ok (.istore 5, 2) := by decide +kernel
theorem d_Law_law_639 : decode code 639 = .ok (.aload_n 2, 1) := by decide +kernel
theorem d_Law_law_640 : decode code 640 = .ok (.aload_n 0, 1) := by decide +kernel
theorem d_Law_law_641 : decode code 641 = .ok (.iload 4, 2) := by decide +kernel
theorem d_Law_law_643 : decode code 643 = .ok (.iconst 1, 1) := by decide +kernel
theorem d_Law_law_644 : decode code 644 = .ok (.iadd, 1) := by decide +kernel
theorem d_Law_law_645 : decode code 645 = .ok (.iaload, 1) := by decide +kernel
theorem d_Law_law_646 : decode code 646 = .ok (.aload_n 0, 1) := by decide +kernel
theorem d_Law_law_647 : decode code 647 = .ok (.iload 4, 2) := by decide +kernel
theorem d_Law_law_649 : decode code 649 = .ok (.iconst 2, 1) := by decide +kernel
theorem d_Law_law_650 : decode code 650 = .ok (.iadd, 1) := by decide +kernel
theorem d_Law_law_651 : decode code 651 = .ok (.iaload, 1) := by decide +kernel
theorem d_Law_law_652 : decode code 652 = .ok (.aload_n 0, 1) := by decide +kernel
theorem d_Law_law_653 : decode code 653 = .ok (.iload 4, 2) := by decide +kernel
theorem d_Law_law_655 : decode code 655 = .ok (.iconst 3, 1) := by decide +kernel
theorem d_Law_law_656 : decode code 656 = .ok (.iadd, 1) := by decide +kernel
theorem d_Law_law_657 : decode code 657 = .ok (.iaload, 1) := by decide +kernel
theorem d_Law_law_658 : decode code 658 = .ok (.aload_n 0, 1) := by decide +kernel
theorem d_Law_law_659 : decode code 659 = .ok (.iload 4, 2) := by decide +kernel
theorem d_Law_law_661 : decode code 661 = .ok (.iconst 4, 1) := by decide +kernel
theorem d_Law_law_662 : decode code 662 = .ok (.iadd, 1) := by decide +kernel
theorem d_Law_law_663 : decode code 663 = .ok (.iaload, 1) := by decide +kernel
theorem d_Law_law_664 : decode code 664 = .ok (.invokevirtual 99, 3) := by decide +kernel
theorem d_Law_law_667 : decode code 667 = .ok (.istore 6, 2) := by decide +kernel
theorem d_Law_law_669 : decode code 669 = .ok (.aload_n 2, 1) := by decide +kernel
theorem d_Law_law_670 : decode code 670 = .ok (.invokevirtual 71, 3) := by decide +kernel
theorem d_Law_law_673 : decode code 673 = .ok (.iload 5, 2) := by decide +kernel
theorem d_Law_law_675 : decode code 675 = .ok (.if_icmp .eq 5, 3) := by decide +kernel
theorem d_Law_law_680 : decode code 680 = .ok (.iload 5, 2) := by decide +kernel
theorem d_Law_law_682 : decode code 682 = .ok (.ifCond .ne 22, 3) := by decide +kernel
theorem d_Law_law_685 : decode code 685 = .ok (.aload_n 3, 1) := by decide +kernel
theorem d_Law_law_686 : decode code 686 = .ok (.iconst 0, 1) := by decide +kernel
theorem d_Law_law_687 : decode code 687 = .ok (.laload, 1) := by decide +kernel
theorem d_Law_law_688 : decode code 688 = .ok (.iload 6, 2) := by decide +kernel
theorem d_Law_law_690 : decode code 690 = .ok (.ifCond .eq 7, 3) := by decide +kernel
theorem d_Law_law_697 : decode code 697 = .ok (.lconst 0, 1) := by decide +kernel
theorem d_Law_law_693 : decode code 693 = .ok (.lconst 1, 1) := by decide +kernel
theorem d_Law_law_694 : decode code 694 = .ok (.goto 4, 3) := by decide +kernel
theorem d_Law_law_678 : decode code 678 = .ok (.iconst 0, 1) := by decide +kernel
theorem d_Law_law_679 : decode code 679 = .ok (.ireturn, 1) := by decide +kernel
theorem d_Law_law_528 : decode code 528 = .ok (.aload_n 1, 1) := by decide +kernel
theorem d_Law_law_529 : decode code 529 = .ok (.aload_n 0, 1) := by decide +kernel
theorem d_Law_law_530 : decode code 530 = .ok (.iload 4, 2) := by decide +kernel
theorem d_Law_law_532 : decode code 532 = .ok (.iconst 1, 1) := by decide +kernel
theorem d_Law_law_533 : decode code 533 = .ok (.iadd, 1) := by decide +kernel
theorem d_Law_law_534 : decode code 534 = .ok (.iaload, 1) := by decide +kernel
theorem d_Law_law_535 : decode code 535 = .ok (.aload_n 0, 1) := by decide +kernel
theorem d_Law_law_536 : decode code 536 = .ok (.iload 4, 2) := by decide +kernel
theorem d_Law_law_538 : decode code 538 = .ok (.iconst 2, 1) := by decide +kernel
theorem d_Law_law_539 : decode code 539 = .ok (.iadd, 1) := by decide +kernel
theorem d_Law_law_540 : decode code 540 = .ok (.iaload, 1) := by decide +kernel
theorem d_Law_law_541 : decode code 541 = .ok (.aload_n 0, 1) := by decide +kernel
theorem d_Law_law_542 : decode code 542 = .ok (.iload 4, 2) := by decide +kernel
theorem d_Law_law_544 : decode code 544 = .ok (.iconst 3, 1) := by decide +kernel
theorem d_Law_law_545 : decode code 545 = .ok (.iadd, 1) := by decide +kernel
theorem d_Law_law_546 : decode code 546 = .ok (.iaload, 1) := by decide +kernel
theorem d_Law_law_547 : decode code 547 = .ok (.aload_n 3, 1) := by decide +kernel
theorem d_Law_law_548 : decode code 548 = .ok (.invokestatic 93, 3) := by decide +kernel
theorem d_Law_law_551 : decode code 551 = .ok (.istore 5, 2) := by decide +kernel
theorem d_Law_law_553 : decode code 553 = .ok (.aload_n 2, 1) := by decide +kernel
theorem d_Law_law_554 : decode code 554 = .ok (.aload_n 0, 1) := by decide +kernel
theorem d_Law_law_555 : decode code 555 = .ok (.iload 4, 2) := by decide +kernel
theorem d_Law_law_557 : decode code 557 = .ok (.iconst 1, 1) := by decide +kernel
theorem d_Law_law_558 : decode code 558 = .ok (.iadd, 1) := by decide +kernel
theorem d_Law_law_559 : decode code 559 = .ok (.iaload, 1) := by decide +kernel
theorem d_Law_law_560 : decode code 560 = .ok (.aload_n 0, 1) := by decide +kernel
theorem d_Law_law_561 : decode code 561 = .ok (.iload 4, 2) := by decide +kernel
theorem d_Law_law_563 : decode code 563 = .ok (.iconst 2, 1) := by decide +kernel
theorem d_Law_law_564 : decode code 564 = .ok (.iadd, 1) := by decide +kernel
theorem d_Law_law_565 : decode code 565 = .ok (.iaload, 1) := by decide +kernel
theorem d_Law_law_566 : decode code 566 = .ok (.aload_n 0, 1) := by decide +kernel
theorem d_Law_law_567 : decode code 567 = .ok (.iload 4, 2) := by decide +kernel
theorem d_Law_law_569 : decode code 569 = .ok (.iconst 3, 1) := by decide +kernel
theorem d_Law_law_570 : decode code 570 = .ok (.iadd, 1) := by decide +kernel
theorem d_Law_law_571 : decode code 571 = .ok (.iaload, 1) := by decide +kernel
theorem d_Law_law_572 : decode code 572 = .ok (.invokevirtual 95, 3) := by decide +kernel
theorem d_Law_law_575 : decode code 575 = .ok (.istore 6, 2) := by decide +kernel
theorem d_Law_law_577 : decode code 577 = .ok (.aload_n 2, 1) := by decide +kernel
theorem d_Law_law_578 : decode code 578 = .ok (.invokevirtual 71, 3) := by decide +kernel
theorem d_Law_law_581 : decode code 581 = .ok (.iload 5, 2) := by decide +kernel
theorem d_Law_law_583 : decode code 583 = .ok (.if_icmp .eq 5, 3) := by decide +kernel
theorem d_Law_law_588 : decode code 588 = .ok (.iload 5, 2) := by decide +kernel
theorem d_Law_law_590 : decode code 590 = .ok (.ifCond .ne 15, 3) := by decide +kernel
theorem d_Law_law_593 : decode code 593 = .ok (.aload_n 3, 1) := by decide +kernel
theorem d_Law_law_594 : decode code 594 = .ok (.iconst 0, 1) := by decide +kernel
theorem d_Law_law_595 : decode code 595 = .ok (.laload, 1) := by decide +kernel
theorem d_Law_law_596 : decode code 596 = .ok (.iload 6, 2) := by decide +kernel
theorem d_Law_law_598 : decode code 598 = .ok (.i2l, 1) := by decide +kernel
theorem d_Law_law_599 : decode code 599 = .ok (.lcmp, 1) := by decide +kernel
theorem d_Law_law_600 : decode code 600 = .ok (.ifCond .eq 5, 3) := by decide +kernel
theorem d_Law_law_603 : decode code 603 = .ok (.iconst 0, 1) := by decide +kernel
theorem d_Law_law_604 : decode code 604 = .ok (.ireturn, 1) := by decide +kernel
theorem d_Law_law_586 : decode code 586 = .ok (.iconst 0, 1) := by decide +kernel
theorem d_Law_law_587 : decode code 587 = .ok (.ireturn, 1) := by decide +kernel
theorem d_Law_law_404 : decode code 404 = .ok (.aload_n 1, 1) := by decide +kernel
theorem d_Law_law_405 : decode code 405 = .ok (.aload_n 0, 1) := by decide +kernel
theorem d_Law_law_406 : decode code 406 = .ok (.iload 4, 2) := by decide +kernel
theorem d_Law_law_408 : decode code 408 = .ok (.iconst 1, 1) := by decide +kernel
theorem d_Law_law_409 : decode code 409 = .ok (.iadd, 1) := by decide +kernel
theorem d_Law_law_410 : decode code 410 = .ok (.iaload, 1) := by decide +kernel
theorem d_Law_law_411 : decode code 411 = .ok (.aload_n 0, 1) := by decide +kernel
theorem d_Law_law_412 : decode code 412 = .ok (.iload 4, 2) := by decide +kernel
theorem d_Law_law_414 : decode code 414 = .ok (.iconst 2, 1) := by decide +kernel
theorem d_Law_law_415 : decode code 415 = .ok (.iadd, 1) := by decide +kernel
theorem d_Law_law_416 : decode code 416 = .ok (.iaload, 1) := by decide +kernel
theorem d_Law_law_417 : decode code 417 = .ok (.aload_n 0, 1) := by decide +kernel
theorem d_Law_law_418 : decode code 418 = .ok (.iload 4, 2) := by decide +kernel
theorem d_Law_law_420 : decode code 420 = .ok (.iconst 3, 1) := by decide +kernel
theorem d_Law_law_421 : decode code 421 = .ok (.iadd, 1) := by decide +kernel
theorem d_Law_law_422 : decode code 422 = .ok (.iaload, 1) := by decide +kernel
theorem d_Law_law_423 : decode code 423 = .ok (.i2l, 1) := by decide +kernel
theorem d_Law_law_424 : decode code 424 = .ok (.bipush 32, 2) := by decide +kernel
theorem d_Law_law_426 : decode code 426 = .ok (.lshl, 1) := by decide +kernel
theorem d_Law_law_427 : decode code 427 = .ok (.aload_n 0, 1) := by decide +kernel
theorem d_Law_law_428 : decode code 428 = .ok (.iload 4, 2) := by decide +kernel
theorem d_Law_law_430 : decode code 430 = .ok (.iconst 4, 1) := by decide +kernel
theorem d_Law_law_431 : decode code 431 = .ok (.iadd, 1) := by decide +kernel
theorem d_Law_law_432 : decode code 432 = .ok (.iaload, 1) := by decide +kernel
theorem d_Law_law_433 : decode code 433 = .ok (.i2l, 1) := by decide +kernel
theorem d_Law_law_434 : decode code 434 = .ok (.ldc2_w 87, 3) := by decide +kernel
theorem d_Law_law_437 : decode code 437 = .ok (.land, 1) := by decide +kernel
theorem d_Law_law_438 : decode code 438 = .ok (.lor, 1) := by decide +kernel
theorem d_Law_law_439 : decode code 439 = .ok (.aload_n 0, 1) := by decide +kernel
theorem d_Law_law_440 : decode code 440 = .ok (.iload 4, 2) := by decide +kernel
theorem d_Law_law_442 : decode code 442 = .ok (.iconst 5, 1) := by decide +kernel
theorem d_Law_law_443 : decode code 443 = .ok (.iadd, 1) := by decide +kernel
theorem d_Law_law_444 : decode code 444 = .ok (.iaload, 1) := by decide +kernel
theorem d_Law_law_445 : decode code 445 = .ok (.aload_n 3, 1) := by decide +kernel
theorem d_Law_law_446 : decode code 446 = .ok (.invokestatic 89, 3) := by decide +kernel
theorem d_Law_law_449 : decode code 449 = .ok (.istore 5, 2) := by decide +kernel
theorem d_Law_law_451 : decode code 451 = .ok (.aload_n 2, 1) := by decide +kernel
theorem d_Law_law_452 : decode code 452 = .ok (.aload_n 0, 1) := by decide +kernel
theorem d_Law_law_453 : decode code 453 = .ok (.iload 4, 2) := by decide +kernel
theorem d_Law_law_455 : decode code 455 = .ok (.iconst 1, 1) := by decide +kernel
theorem d_Law_law_456 : decode code 456 = .ok (.iadd, 1) := by decide +kernel
theorem d_Law_law_457 : decode code 457 = .ok (.iaload, 1) := by decide +kernel
theorem d_Law_law_458 : decode code 458 = .ok (.aload_n 0, 1) := by decide +kernel
theorem d_Law_law_459 : decode code 459 = .ok (.iload 4, 2) := by decide +kernel
theorem d_Law_law_461 : decode code 461 = .ok (.iconst 2, 1) := by decide +kernel
theorem d_Law_law_462 : decode code 462 = .ok (.iadd, 1) := by decide +kernel
theorem d_Law_law_463 : decode code 463 = .ok (.iaload, 1) := by decide +kernel
theorem d_Law_law_464 : decode code 464 = .ok (.aload_n 0, 1) := by decide +kernel
theorem d_Law_law_465 : decode code 465 = .ok (.iload 4, 2) := by decide +kernel
theorem d_Law_law_467 : decode code 467 = .ok (.iconst 3, 1) := by decide +kernel
theorem d_Law_law_468 : decode code 468 = .ok (.iadd, 1) := by decide +kernel
theorem d_Law_law_469 : decode code 469 = .ok (.iaload, 1) := by decide +kernel
theorem d_Law_law_470 : decode code 470 = .ok (.i2l, 1) := by decide +kernel
theorem d_Law_law_471 : decode code 471 = .ok (.bipush 32, 2) := by decide +kernel
theorem d_Law_law_473 : decode code 473 = .ok (.lshl, 1) := by decide +kernel
theorem d_Law_law_474 : decode code 474 = .ok (.aload_n 0, 1) := by decide +kernel
theorem d_Law_law_475 : decode code 475 = .ok (.iload 4, 2) := by decide +kernel
theorem d_Law_law_477 : decode code 477 = .ok (.iconst 4, 1) := by decide +kernel
theorem d_Law_law_478 : decode code 478 = .ok (.iadd, 1) := by decide +kernel
theorem d_Law_law_479 : decode code 479 = .ok (.iaload, 1) := by decide +kernel
theorem d_Law_law_480 : decode code 480 = .ok (.i2l, 1) := by decide +kernel
theorem d_Law_law_481 : decode code 481 = .ok (.ldc2_w 87, 3) := by decide +kernel
theorem d_Law_law_484 : decode code 484 = .ok (.land, 1) := by decide +kernel
theorem d_Law_law_485 : decode code 485 = .ok (.lor, 1) := by decide +kernel
theorem d_Law_law_486 : decode code 486 = .ok (.aload_n 0, 1) := by decide +kernel
theorem d_Law_law_487 : decode code 487 = .ok (.iload 4, 2) := by decide +kernel
theorem d_Law_law_489 : decode code 489 = .ok (.iconst 5, 1) := by decide +kernel
theorem d_Law_law_490 : decode code 490 = .ok (.iadd, 1) := by decide +kernel
theorem d_Law_law_491 : decode code 491 = .ok (.iaload, 1) := by decide +kernel
theorem d_Law_law_492 : decode code 492 = .ok (.invokevirtual 92, 3) := by decide +kernel
theorem d_Law_law_495 : decode code 495 = .ok (.istore 6, 2) := by decide +kernel
theorem d_Law_law_497 : decode code 497 = .ok (.aload_n 2, 1) := by decide +kernel
theorem d_Law_law_498 : decode code 498 = .ok (.invokevirtual 71, 3) := by decide +kernel
theorem d_Law_law_501 : decode code 501 = .ok (.iload 5, 2) := by decide +kernel
theorem d_Law_law_503 : decode code 503 = .ok (.if_icmp .eq 5, 3) := by decide +kernel
theorem d_Law_law_508 : decode code 508 = .ok (.iload 5, 2) := by decide +kernel
theorem d_Law_law_510 : decode code 510 = .ok (.ifCond .ne 15, 3) := by decide +kernel
theorem d_Law_law_513 : decode code 513 = .ok (.aload_n 3, 1) := by decide +kernel
theorem d_Law_law_514 : decode code 514 = .ok (.iconst 0, 1) := by decide +kernel
theorem d_Law_law_515 : decode code 515 = .ok (.laload, 1) := by decide +kernel
theorem d_Law_law_516 : decode code 516 = .ok (.iload 6, 2) := by decide +kernel
theorem d_Law_law_518 : decode code 518 = .ok (.i2l, 1) := by decide +kernel
theorem d_Law_law_519 : decode code 519 = .ok (.lcmp, 1) := by decide +kernel
theorem d_Law_law_520 : decode code 520 = .ok (.ifCond .eq 5, 3) := by decide +kernel
theorem d_Law_law_523 : decode code 523 = .ok (.iconst 0, 1) := by decide +kernel
theorem d_Law_law_524 : decode code 524 = .ok (.ireturn, 1) := by decide +kernel
theorem d_Law_law_506 : decode code 506 = .ok (.iconst 0, 1) := by decide +kernel
theorem d_Law_law_507 : decode code 507 = .ok (.ireturn, 1) := by decide +kernel
theorem d_Law_law_379 : decode code 379 = .ok (.aload_n 1, 1) := by decide +kernel
theorem d_Law_law_380 : decode code 380 = .ok (.aload_n 0, 1) := by decide +kernel
theorem d_Law_law_381 : decode code 381 = .ok (.iload 4, 2) := by decide +kernel
theorem d_Law_law_383 : decode code 383 = .ok (.iconst 1, 1) := by decide +kernel
theorem d_Law_law_384 : decode code 384 = .ok (.iadd, 1) := by decide +kernel
theorem d_Law_law_385 : decode code 385 = .ok (.iaload, 1) := by decide +kernel
theorem d_Law_law_386 : decode code 386 = .ok (.invokevirtual 82, 3) := by decide +kernel
theorem d_Law_law_389 : decode code 389 = .ok (.aload_n 2, 1) := by decide +kernel
theorem d_Law_law_390 : decode code 390 = .ok (.aload_n 0, 1) := by decide +kernel
theorem d_Law_law_391 : decode code 391 = .ok (.iload 4, 2) := by decide +kernel
theorem d_Law_law_393 : decode code 393 = .ok (.iconst 1, 1) := by decide +kernel
theorem d_Law_law_394 : decode code 394 = .ok (.iadd, 1) := by decide +kernel
theorem d_Law_law_395 : decode code 395 = .ok (.iaload, 1) := by decide +kernel
theorem d_Law_law_396 : decode code 396 = .ok (.invokevirtual 86, 3) := by decide +kernel
theorem d_Law_law_399 : decode code 399 = .ok (.if_icmp .eq 988, 3) := by decide +kernel
theorem d_Law_law_402 : decode code 402 = .ok (.iconst 0, 1) := by decide +kernel
theorem d_Law_law_403 : decode code 403 = .ok (.ireturn, 1) := by decide +kernel
theorem d_Law_law_311 : decode code 311 = .ok (.aload_n 1, 1) := by decide +kernel
theorem d_Law_law_312 : decode code 312 = .ok (.aload_n 0, 1) := by decide +kernel
theorem d_Law_law_313 : decode code 313 = .ok (.iload 4, 2) := by decide +kernel
theorem d_Law_law_315 : decode code 315 = .ok (.iconst 1, 1) := by decide +kernel
theorem d_Law_law_316 : decode code 316 = .ok (.iadd, 1) := by decide +kernel
theorem d_Law_law_317 : decode code 317 = .ok (.iaload, 1) := by decide +kernel
theorem d_Law_law_318 : decode code 318 = .ok (.aload_n 0, 1) := by decide +kernel
theorem d_Law_law_319 : decode code 319 = .ok (.iload 4, 2) := by decide +kernel
theorem d_Law_law_321 : decode code 321 = .ok (.iconst 2, 1) := by decide +kernel
theorem d_Law_law_322 : decode code 322 = .ok (.iadd, 1) := by decide +kernel
theorem d_Law_law_323 : decode code 323 = .ok (.iaload, 1) := by decide +kernel
theorem d_Law_law_324 : decode code 324 = .ok (.aload_n 3, 1) := by decide +kernel
theorem d_Law_law_325 : decode code 325 = .ok (.invokestatic 79, 3) := by decide +kernel
theorem d_Law_law_328 : decode code 328 = .ok (.istore 5, 2) := by decide +kernel
theorem d_Law_law_330 : decode code 330 = .ok (.aload_n 2, 1) := by decide +kernel
theorem d_Law_law_331 : decode code 331 = .ok (.aload_n 0, 1) := by decide +kernel
theorem d_Law_law_332 : decode code 332 = .ok (.iload 4, 2) := by decide +kernel
theorem d_Law_law_334 : decode code 334 = .ok (.iconst 1, 1) := by decide +kernel
theorem d_Law_law_335 : decode code 335 = .ok (.iadd, 1) := by decide +kernel
theorem d_Law_law_336 : decode code 336 = .ok (.iaload, 1) := by decide +kernel
theorem d_Law_law_337 : decode code 337 = .ok (.aload_n 0, 1) := by decide +kernel
theorem d_Law_law_338 : decode code 338 = .ok (.iload 4, 2) := by decide +kernel
theorem d_Law_law_340 : decode code 340 = .ok (.iconst 2, 1) := by decide +kernel
theorem d_Law_law_341 : decode code 341 = .ok (.iadd, 1) := by decide +kernel
theorem d_Law_law_342 : decode code 342 = .ok (.iaload, 1) := by decide +kernel
theorem d_Law_law_343 : decode code 343 = .ok (.invokevirtual 81, 3) := by decide +kernel
theorem d_Law_law_346 : decode code 346 = .ok (.istore 6, 2) := by decide +kernel
theorem d_Law_law_348 : decode code 348 = .ok (.aload_n 2, 1) := by decide +kernel
theorem d_Law_law_349 : decode code 349 = .ok (.invokevirtual 71, 3) := by decide +kernel
theorem d_Law_law_352 : decode code 352 = .ok (.iload 5, 2) := by decide +kernel
theorem d_Law_law_354 : decode code 354 = .ok (.if_icmp .eq 5, 3) := by decide +kernel
theorem d_Law_law_359 : decode code 359 = .ok (.iload 5, 2) := by decide +kernel
theorem d_Law_law_361 : decode code 361 = .ok (.ifCond .ne 15, 3) := by decide +kernel
theorem d_Law_law_364 : decode code 364 = .ok (.aload_n 3, 1) := by decide +kernel
theorem d_Law_law_365 : decode code 365 = .ok (.iconst 0, 1) := by decide +kernel
theorem d_Law_law_366 : decode code 366 = .ok (.laload, 1) := by decide +kernel
theorem d_Law_law_367 : decode code 367 = .ok (.iload 6, 2) := by decide +kernel
theorem d_Law_law_369 : decode code 369 = .ok (.i2l, 1) := by decide +kernel
theorem d_Law_law_370 : decode code 370 = .ok (.lcmp, 1) := by decide +kernel
theorem d_Law_law_371 : decode code 371 = .ok (.ifCond .eq 5, 3) := by decide +kernel
theorem d_Law_law_374 : decode code 374 = .ok (.iconst 0, 1) := by decide +kernel
theorem d_Law_law_375 : decode code 375 = .ok (.ireturn, 1) := by decide +kernel
theorem d_Law_law_357 : decode code 357 = .ok (.iconst 0, 1) := by decide +kernel
theorem d_Law_law_358 : decode code 358 = .ok (.ireturn, 1) := by decide +kernel
theorem d_Law_law_231 : decode code 231 = .ok (.aload_n 1, 1) := by decide +kernel
theorem d_Law_law_232 : decode code 232 = .ok (.aload_n 0, 1) := by decide +kernel
theorem d_Law_law_233 : decode code 233 = .ok (.iload 4, 2) := by decide +kernel
theorem d_Law_law_235 : decode code 235 = .ok (.iconst 1, 1) := by decide +kernel
theorem d_Law_law_236 : decode code 236 = .ok (.iadd, 1) := by decide +kernel
theorem d_Law_law_237 : decode code 237 = .ok (.iaload, 1) := by decide +kernel
theorem d_Law_law_238 : decode code 238 = .ok (.aload_n 0, 1) := by decide +kernel
theorem d_Law_law_239 : decode code 239 = .ok (.iload 4, 2) := by decide +kernel
theorem d_Law_law_241 : decode code 241 = .ok (.iconst 2, 1) := by decide +kernel
theorem d_Law_law_242 : decode code 242 = .ok (.iadd, 1) := by decide +kernel
theorem d_Law_law_243 : decode code 243 = .ok (.iaload, 1) := by decide +kernel
theorem d_Law_law_244 : decode code 244 = .ok (.aload_n 0, 1) := by decide +kernel
theorem d_Law_law_245 : decode code 245 = .ok (.iload 4, 2) := by decide +kernel
theorem d_Law_law_247 : decode code 247 = .ok (.iconst 3, 1) := by decide +kernel
theorem d_Law_law_248 : decode code 248 = .ok (.iadd, 1) := by decide +kernel
theorem d_Law_law_249 : decode code 249 = .ok (.iaload, 1) := by decide +kernel
theorem d_Law_law_250 : decode code 250 = .ok (.aload_n 3, 1) := by decide +kernel
theorem d_Law_law_251 : decode code 251 = .ok (.invokestatic 75, 3) := by decide +kernel
theorem d_Law_law_254 : decode code 254 = .ok (.istore 5, 2) := by decide +kernel
theorem d_Law_law_256 : decode code 256 = .ok (.aload_n 2, 1) := by decide +kernel
theorem d_Law_law_257 : decode code 257 = .ok (.aload_n 0, 1) := by decide +kernel
theorem d_Law_law_258 : decode code 258 = .ok (.iload 4, 2) := by decide +kernel
theorem d_Law_law_260 : decode code 260 = .ok (.iconst 1, 1) := by decide +kernel
theorem d_Law_law_261 : decode code 261 = .ok (.iadd, 1) := by decide +kernel
theorem d_Law_law_262 : decode code 262 = .ok (.iaload, 1) := by decide +kernel
theorem d_Law_law_263 : decode code 263 = .ok (.aload_n 0, 1) := by decide +kernel
theorem d_Law_law_264 : decode code 264 = .ok (.iload 4, 2) := by decide +kernel
theorem d_Law_law_266 : decode code 266 = .ok (.iconst 2, 1) := by decide +kernel
theorem d_Law_law_267 : decode code 267 = .ok (.iadd, 1) := by decide +kernel
theorem d_Law_law_268 : decode code 268 = .ok (.iaload, 1) := by decide +kernel
theorem d_Law_law_269 : decode code 269 = .ok (.aload_n 0, 1) := by decide +kernel
theorem d_Law_law_270 : decode code 270 = .ok (.iload 4, 2) := by decide +kernel
theorem d_Law_law_272 : decode code 272 = .ok (.iconst 3, 1) := by decide +kernel
theorem d_Law_law_273 : decode code 273 = .ok (.iadd, 1) := by decide +kernel
theorem d_Law_law_274 : decode code 274 = .ok (.iaload, 1) := by decide +kernel
theorem d_Law_law_275 : decode code 275 = .ok (.invokevirtual 78, 3) := by decide +kernel
theorem d_Law_law_278 : decode code 278 = .ok (.istore 6, 2) := by decide +kernel
theorem d_Law_law_280 : decode code 280 = .ok (.aload_n 2, 1) := by decide +kernel
theorem d_Law_law_281 : decode code 281 = .ok (.invokevirtual 71, 3) := by decide +kernel
theorem d_Law_law_284 : decode code 284 = .ok (.iload 5, 2) := by decide +kernel
theorem d_Law_law_286 : decode code 286 = .ok (.if_icmp .eq 5, 3) := by decide +kernel
theorem d_Law_law_291 : decode code 291 = .ok (.iload 5, 2) := by decide +kernel
theorem d_Law_law_293 : decode code 293 = .ok (.ifCond .ne 15, 3) := by decide +kernel
theorem d_Law_law_296 : decode code 296 = .ok (.aload_n 3, 1) := by decide +kernel
theorem d_Law_law_297 : decode code 297 = .ok (.iconst 0, 1) := by decide +kernel
theorem d_Law_law_298 : decode code 298 = .ok (.laload, 1) := by decide +kernel
theorem d_Law_law_299 : decode code 299 = .ok (.iload 6, 2) := by decide +kernel
theorem d_Law_law_301 : decode code 301 = .ok (.i2l, 1) := by decide +kernel
theorem d_Law_law_302 : decode code 302 = .ok (.lcmp, 1) := by decide +kernel
theorem d_Law_law_303 : decode code 303 = .ok (.ifCond .eq 5, 3) := by decide +kernel
theorem d_Law_law_306 : decode code 306 = .ok (.iconst 0, 1) := by decide +kernel
theorem d_Law_law_307 : decode code 307 = .ok (.ireturn, 1) := by decide +kernel
theorem d_Law_law_289 : decode code 289 = .ok (.iconst 0, 1) := by decide +kernel
theorem d_Law_law_290 : decode code 290 = .ok (.ireturn, 1) := by decide +kernel
theorem d_Law_law_156 : decode code 156 = .ok (.aload_n 1, 1) := by decide +kernel
theorem d_Law_law_157 : decode code 157 = .ok (.aload_n 0, 1) := by decide +kernel
theorem d_Law_law_158 : decode code 158 = .ok (.iload 4, 2) := by decide +kernel
theorem d_Law_law_160 : decode code 160 = .ok (.iconst 1, 1) := by decide +kernel
theorem d_Law_law_161 : decode code 161 = .ok (.iadd, 1) := by decide +kernel
theorem d_Law_law_162 : decode code 162 = .ok (.iaload, 1) := by decide +kernel
theorem d_Law_law_163 : decode code 163 = .ok (.aload_n 0, 1) := by decide +kernel
theorem d_Law_law_164 : decode code 164 = .ok (.iload 4, 2) := by decide +kernel
theorem d_Law_law_166 : decode code 166 = .ok (.iconst 2, 1) := by decide +kernel
theorem d_Law_law_167 : decode code 167 = .ok (.iadd, 1) := by decide +kernel
theorem d_Law_law_168 : decode code 168 = .ok (.iaload, 1) := by decide +kernel
theorem d_Law_law_169 : decode code 169 = .ok (.aload_n 3, 1) := by decide +kernel
theorem d_Law_law_170 : decode code 170 = .ok (.invokestatic 67, 3) := by decide +kernel
theorem d_Law_law_173 : decode code 173 = .ok (.istore 5, 2) := by decide +kernel
theorem d_Law_law_175 : decode code 175 = .ok (.aload_n 2, 1) := by decide +kernel
theorem d_Law_law_176 : decode code 176 = .ok (.aload_n 0, 1) := by decide +kernel
theorem d_Law_law_177 : decode code 177 = .ok (.iload 4, 2) := by decide +kernel
theorem d_Law_law_179 : decode code 179 = .ok (.iconst 1, 1) := by decide +kernel
theorem d_Law_law_180 : decode code 180 = .ok (.iadd, 1) := by decide +kernel
theorem d_Law_law_181 : decode code 181 = .ok (.iaload, 1) := by decide +kernel
theorem d_Law_law_182 : decode code 182 = .ok (.aload_n 0, 1) := by decide +kernel
theorem d_Law_law_183 : decode code 183 = .ok (.iload 4, 2) := by decide +kernel
theorem d_Law_law_185 : decode code 185 = .ok (.iconst 2, 1) := by decide +kernel
theorem d_Law_law_186 : decode code 186 = .ok (.iadd, 1) := by decide +kernel
theorem d_Law_law_187 : decode code 187 = .ok (.iaload, 1) := by decide +kernel
theorem d_Law_law_188 : decode code 188 = .ok (.invokevirtual 70, 3) := by decide +kernel
theorem d_Law_law_191 : decode code 191 = .ok (.istore 6, 2) := by decide +kernel
theorem d_Law_law_193 : decode code 193 = .ok (.aload_n 2, 1) := by decide +kernel
theorem d_Law_law_194 : decode code 194 = .ok (.invokevirtual 71, 3) := by decide +kernel
theorem d_Law_law_197 : decode code 197 = .ok (.iload 5, 2) := by decide +kernel
theorem d_Law_law_199 : decode code 199 = .ok (.if_icmp .eq 5, 3) := by decide +kernel
theorem d_Law_law_204 : decode code 204 = .ok (.iload 5, 2) := by decide +kernel
theorem d_Law_law_206 : decode code 206 = .ok (.ifCond .ne 22, 3) := by decide +kernel
theorem d_Law_law_209 : decode code 209 = .ok (.aload_n 3, 1) := by decide +kernel
theorem d_Law_law_210 : decode code 210 = .ok (.iconst 0, 1) := by decide +kernel
theorem d_Law_law_211 : decode code 211 = .ok (.laload, 1) := by decide +kernel
theorem d_Law_law_212 : decode code 212 = .ok (.iload 6, 2) := by decide +kernel
theorem d_Law_law_214 : decode code 214 = .ok (.ifCond .eq 7, 3) := by decide +kernel
theorem d_Law_law_221 : decode code 221 = .ok (.lconst 0, 1) := by decide +kernel
theorem d_Law_law_217 : decode code 217 = .ok (.lconst 1, 1) := by decide +kernel
theorem d_Law_law_218 : decode code 218 = .ok (.goto 4, 3) := by decide +kernel
theorem d_Law_law_202 : decode code 202 = .ok (.iconst 0, 1) := by decide +kernel
theorem d_Law_law_203 : decode code 203 = .ok (.ireturn, 1) := by decide +kernel
theorem d_Law_law_1384 : decode code 1384 = .ok (.goto 3, 3) := by decide +kernel
theorem d_Law_law_1230 : decode code 1230 = .ok (.goto 157, 3) := by decide +kernel
theorem d_Law_law_1163 : decode code 1163 = .ok (.goto 224, 3) := by decide +kernel
theorem d_Law_law_1084 : decode code 1084 = .ok (.goto 303, 3) := by decide +kernel
theorem d_Law_law_816 : decode code 816 = .ok (.goto 571, 3) := by decide +kernel
theorem d_Law_law_760 : decode code 760 = .ok (.goto 627, 3) := by decide +kernel
theorem d_Law_law_704 : decode code 704 = .ok (.goto 683, 3) := by decide +kernel
theorem d_Law_law_698 : decode code 698 = .ok (.lcmp, 1) := by decide +kernel
theorem d_Law_law_699 : decode code 699 = .ok (.ifCond .eq 5, 3) := by decide +kernel
theorem d_Law_law_702 : decode code 702 = .ok (.iconst 0, 1) := by decide +kernel
theorem d_Law_law_703 : decode code 703 = .ok (.ireturn, 1) := by decide +kernel
theorem d_Law_law_605 : decode code 605 = .ok (.goto 782, 3) := by decide +kernel
theorem d_Law_law_525 : decode code 525 = .ok (.goto 862, 3) := by decide +kernel
theorem d_Law_law_376 : decode code 376 = .ok (.goto 1011, 3) := by decide +kernel
theorem d_Law_law_308 : decode code 308 = .ok (.goto 1079, 3) := by decide +kernel
theorem d_Law_law_228 : decode code 228 = .ok (.goto 1159, 3) := by decide +kernel
theorem d_Law_law_222 : decode code 222 = .ok (.lcmp, 1) := by decide +kernel
theorem d_Law_law_223 : decode code 223 = .ok (.ifCond .eq 5, 3) := by decide +kernel
theorem d_Law_law_226 : decode code 226 = .ok (.iconst 0, 1) := by decide +kernel
theorem d_Law_law_227 : decode code 227 = .ok (.ireturn, 1) := by decide +kernel
