theorem dX12_figure_53 : decode cX12_figure 53 = .ok (.ifCond .eq 17, 3) := by decide +kernel
theorem dX12_figure_56 : decode cX12_figure 56 = .ok (.aload_n 0, 1) := by decide +kernel
theorem dX12_figure_57 : decode cX12_figure 57 = .ok (.invokevirtual 178, 3) := by decide +kernel
theorem dX12_figure_60 : decode cX12_figure 60 = .ok (.bipush 48, 2) := by decide +kernel
theorem dX12_figure_62 : decode cX12_figure 62 = .ok (.bipush 57, 2) := by decide +kernel
theorem dX12_figure_64 : decode cX12_figure 64 = .ok (.invokestatic 114, 3) := by decide +kernel
theorem dX12_figure_67 : decode cX12_figure 67 = .ok (.ifCond .eq 7, 3) := by decide +kernel
theorem dX12_figure_70 : decode cX12_figure 70 = .ok (.aload_n 0, 1) := by decide +kernel
theorem dX12_figure_71 : decode cX12_figure 71 = .ok (.invokevirtual 175, 3) := by decide +kernel
theorem dX12_figure_74 : decode cX12_figure 74 = .ok (.aload_n 0, 1) := by decide +kernel
theorem dX12_figure_75 : decode cX12_figure 75 = .ok (.iconst 1, 1) := by decide +kernel
theorem dX12_figure_76 : decode cX12_figure 76 = .ok (.iload_n 1, 1) := by decide +kernel
theorem dX12_figure_77 : decode cX12_figure 77 = .ok (.invokevirtual 182, 3) := by decide +kernel
theorem dX12_figure_80 : decode cX12_figure 80 = .ok (.return_, 1) := by decide +kernel
theorem dX12_operand_0 : decode cX12_operand 0 = .ok (.aload_n 0, 1) := by decide +kernel
theorem dX12_operand_1 : decode cX12_operand 1 = .ok (.invokevirtual 178, 3) := by decide +kernel
theorem dX12_operand_4 : decode cX12_operand 4 = .ok (.istore_n 1, 1) := by decide +kernel
theorem dX12_operand_5 : decode cX12_operand 5 = .ok (.iload_n 1, 1) := by decide +kernel
theorem dX12_operand_6 : decode cX12_operand 6 = .ok (.invokestatic 186, 3) := by decide +kernel
theorem dX12_operand_9 : decode cX12_operand 9 = .ok (.ifCond .lt 25, 3) := by decide +kernel
theorem dX12_operand_12 : decode cX12_operand 12 = .ok (.aload_n 0, 1) := by decide +kernel
theorem dX12_operand_13 : decode cX12_operand 13 = .ok (.iconst 2, 1) := by decide +kernel
theorem dX12_operand_14 : decode cX12_operand 14 = .ok (.iload_n 1, 1) := by decide +kernel
theorem dX12_operand_15 : decode cX12_operand 15 = .ok (.invokestatic 186, 3) := by decide +kernel
theorem dX12_operand_18 : decode cX12_operand 18 = .ok (.invokevirtual 182, 3) := by decide +kernel
theorem dX12_operand_21 : decode cX12_operand 21 = .ok (.aload_n 0, 1) := by decide +kernel
theorem dX12_operand_22 : decode cX12_operand 22 = .ok (.dup, 1) := by decide +kernel
theorem dX12_operand_23 : decode cX12_operand 23 = .ok (.getfield 163, 3) := by decide +kernel
theorem dX12_operand_26 : decode cX12_operand 26 = .ok (.iconst 1, 1) := by decide +kernel
theorem dX12_operand_27 : decode cX12_operand 27 = .ok (.iadd, 1) := by decide +kernel
theorem dX12_operand_28 : decode cX12_operand 28 = .ok (.putfield 163, 3) := by decide +kernel
theorem dX12_operand_31 : decode cX12_operand 31 = .ok (.goto 123, 3) := by decide +kernel
theorem dX12_operand_34 : decode cX12_operand 34 = .ok (.iload_n 1, 1) := by decide +kernel
theorem dX12_operand_35 : decode cX12_operand 35 = .ok (.bipush 33, 2) := by decide +kernel
theorem dX12_operand_37 : decode cX12_operand 37 = .ok (.if_icmp .eq 9, 3) := by decide +kernel
theorem dX12_operand_40 : decode cX12_operand 40 = .ok (.iload_n 1, 1) := by decide +kernel
theorem dX12_operand_41 : decode cX12_operand 41 = .ok (.bipush 45, 2) := by decide +kernel
theorem dX12_operand_43 : decode cX12_operand 43 = .ok (.if_icmp .ne 44, 3) := by decide +kernel
theorem dX12_operand_46 : decode cX12_operand 46 = .ok (.aload_n 0, 1) := by decide +kernel
theorem dX12_operand_47 : decode cX12_operand 47 = .ok (.invokevirtual 190, 3) := by decide +kernel
theorem dX12_operand_50 : decode cX12_operand 50 = .ok (.ifCond .ne 4, 3) := by decide +kernel
theorem dX12_operand_53 : decode cX12_operand 53 = .ok (.return_, 1) := by decide +kernel
theorem dX12_operand_54 : decode cX12_operand 54 = .ok (.aload_n 0, 1) := by decide +kernel
theorem dX12_operand_55 : decode cX12_operand 55 = .ok (.invokevirtual 194, 3) := by decide +kernel
theorem dX12_operand_58 : decode cX12_operand 58 = .ok (.aload_n 0, 1) := by decide +kernel
theorem dX12_operand_59 : decode cX12_operand 59 = .ok (.dup, 1) := by decide +kernel
theorem dX12_operand_60 : decode cX12_operand 60 = .ok (.getfield 172, 3) := by decide +kernel
theorem dX12_operand_63 : decode cX12_operand 63 = .ok (.iconst 1, 1) := by decide +kernel
theorem dX12_operand_64 : decode cX12_operand 64 = .ok (.isub, 1) := by decide +kernel
theorem dX12_operand_65 : decode cX12_operand 65 = .ok (.putfield 172, 3) := by decide +kernel
theorem dX12_operand_68 : decode cX12_operand 68 = .ok (.aload_n 0, 1) := by decide +kernel
theorem dX12_operand_69 : decode cX12_operand 69 = .ok (.iload_n 1, 1) := by decide +kernel
theorem dX12_operand_70 : decode cX12_operand 70 = .ok (.bipush 33, 2) := by decide +kernel
theorem dX12_operand_72 : decode cX12_operand 72 = .ok (.if_icmp .ne 7, 3) := by decide +kernel
theorem dX12_operand_75 : decode cX12_operand 75 = .ok (.iconst 3, 1) := by decide +kernel
theorem dX12_operand_76 : decode cX12_operand 76 = .ok (.goto 4, 3) := by decide +kernel
theorem dX12_operand_79 : decode cX12_operand 79 = .ok (.iconst 4, 1) := by decide +kernel
theorem dX12_operand_80 : decode cX12_operand 80 = .ok (.iconst 0, 1) := by decide +kernel
theorem dX12_operand_81 : decode cX12_operand 81 = .ok (.invokevirtual 182, 3) := by decide +kernel
theorem dX12_operand_84 : decode cX12_operand 84 = .ok (.goto 70, 3) := by decide +kernel
theorem dX12_operand_87 : decode cX12_operand 87 = .ok (.iload_n 1, 1) := by decide +kernel
theorem dX12_operand_88 : decode cX12_operand 88 = .ok (.bipush 40, 2) := by decide +kernel
theorem dX12_operand_90 : decode cX12_operand 90 = .ok (.if_icmp .ne 60, 3) := by decide +kernel
theorem dX12_operand_93 : decode cX12_operand 93 = .ok (.aload_n 0, 1) := by decide +kernel
theorem dX12_operand_94 : decode cX12_operand 94 = .ok (.invokevirtual 190, 3) := by decide +kernel
theorem dX12_operand_97 : decode cX12_operand 97 = .ok (.ifCond .ne 4, 3) := by decide +kernel
theorem dX12_operand_100 : decode cX12_operand 100 = .ok (.return_, 1) := by decide +kernel
theorem dX12_operand_101 : decode cX12_operand 101 = .ok (.aload_n 0, 1) := by decide +kernel
theorem dX12_operand_102 : decode cX12_operand 102 = .ok (.invokevirtual 197, 3) := by decide +kernel
theorem dX12_operand_105 : decode cX12_operand 105 = .ok (.aload_n 0, 1) := by decide +kernel
theorem dX12_operand_106 : decode cX12_operand 106 = .ok (.getfield 166, 3) := by decide +kernel
theorem dX12_operand_109 : decode cX12_operand 109 = .ok (.ifCond .lt 4, 3) := by decide +kernel
theorem dX12_operand_112 : decode cX12_operand 112 = .ok (.return_, 1) := by decide +kernel
theorem dX12_operand_113 : decode cX12_operand 113 = .ok (.aload_n 0, 1) := by decide +kernel
theorem dX12_operand_114 : decode cX12_operand 114 = .ok (.invokevirtual 178, 3) := by decide +kernel
theorem dX12_operand_117 : decode cX12_operand 117 = .ok (.bipush 41, 2) := by decide +kernel
theorem dX12_operand_119 : decode cX12_operand 119 = .ok (.if_icmp .eq 8, 3) := by decide +kernel
theorem dX12_operand_122 : decode cX12_operand 122 = .ok (.aload_n 0, 1) := by decide +kernel
theorem dX12_operand_123 : decode cX12_operand 123 = .ok (.invokevirtual 175, 3) := by decide +kernel
theorem dX12_operand_126 : decode cX12_operand 126 = .ok (.return_, 1) := by decide +kernel
theorem dX12_operand_127 : decode cX12_operand 127 = .ok (.aload_n 0, 1) := by decide +kernel
theorem dX12_operand_128 : decode cX12_operand 128 = .ok (.dup, 1) := by decide +kernel
theorem dX12_operand_129 : decode cX12_operand 129 = .ok (.getfield 163, 3) := by decide +kernel
theorem dX12_operand_132 : decode cX12_operand 132 = .ok (.iconst 1, 1) := by decide +kernel
theorem dX12_operand_133 : decode cX12_operand 133 = .ok (.iadd, 1) := by decide +kernel
theorem dX12_operand_134 : decode cX12_operand 134 = .ok (.putfield 163, 3) := by decide +kernel
theorem dX12_operand_137 : decode cX12_operand 137 = .ok (.aload_n 0, 1) := by decide +kernel
theorem dX12_operand_138 : decode cX12_operand 138 = .ok (.dup, 1) := by decide +kernel
theorem dX12_operand_139 : decode cX12_operand 139 = .ok (.getfield 172, 3) := by decide +kernel
theorem dX12_operand_142 : decode cX12_operand 142 = .ok (.iconst 1, 1) := by decide +kernel
theorem dX12_operand_143 : decode cX12_operand 143 = .ok (.isub, 1) := by decide +kernel
theorem dX12_operand_144 : decode cX12_operand 144 = .ok (.putfield 172, 3) := by decide +kernel
theorem dX12_operand_147 : decode cX12_operand 147 = .ok (.goto 7, 3) := by decide +kernel
theorem dX12_operand_150 : decode cX12_operand 150 = .ok (.aload_n 0, 1) := by decide +kernel
theorem dX12_operand_151 : decode cX12_operand 151 = .ok (.invokevirtual 200, 3) := by decide +kernel
theorem dX12_operand_154 : decode cX12_operand 154 = .ok (.return_, 1) := by decide +kernel
theorem dX12_product_0 : decode cX12_product 0 = .ok (.aload_n 0, 1) := by decide +kernel
theorem dX12_product_1 : decode cX12_product 1 = .ok (.invokevirtual 194, 3) := by decide +kernel
theorem dX12_product_4 : decode cX12_product 4 = .ok (.aload_n 0, 1) := by decide +kernel
theorem dX12_product_5 : decode cX12_product 5 = .ok (.getfield 166, 3) := by decide +kernel
theorem dX12_product_8 : decode cX12_product 8 = .ok (.ifCond .ge 58, 3) := by decide +kernel
theorem dX12_product_11 : decode cX12_product 11 = .ok (.aload_n 0, 1) := by decide +kernel
theorem dX12_product_12 : decode cX12_product 12 = .ok (.invokevirtual 178, 3) := by decide +kernel
theorem dX12_product_15 : decode cX12_product 15 = .ok (.bipush 42, 2) := by decide +kernel
theorem dX12_product_17 : decode cX12_product 17 = .ok (.if_icmp .eq 21, 3) := by decide +kernel
theorem dX12_product_20 : decode cX12_product 20 = .ok (.aload_n 0, 1) := by decide +kernel
theorem dX12_product_21 : decode cX12_product 21 = .ok (.invokevirtual 178, 3) := by decide +kernel
theorem dX12_product_24 : decode cX12_product 24 = .ok (.bipush 47, 2) := by decide +kernel
theorem dX12_product_26 : decode cX12_product 26 = .ok (.if_icmp .eq 12, 3) := by decide +kernel
theorem dX12_product_29 : decode cX12_product 29 = .ok (.aload_n 0, 1) := by decide +kernel
theorem dX12_product_30 : decode cX12_product 30 = .ok (.invokevirtual 178, 3) := by decide +kernel
theorem dX12_product_33 : decode cX12_product 33 = .ok (.bipush 37, 2) := by decide +kernel
theorem dX12_product_35 : decode cX12_product 35 = .ok (.if_icmp .ne 31, 3) := by decide +kernel
theorem dX12_product_38 : decode cX12_product 38 = .ok (.aload_n 0, 1) := by decide +kernel
theorem dX12_product_39 : decode cX12_product 39 = .ok (.invokevirtual 178, 3) := by decide +kernel
theorem dX12_product_42 : decode cX12_product 42 = .ok (.istore_n 1, 1) := by decide +kernel
theorem dX12_product_43 : decode cX12_product 43 = .ok (.aload_n 0, 1) := by decide +kernel
theorem dX12_product_44 : decode cX12_product 44 = .ok (.dup, 1) := by decide +kernel
theorem dX12_product_45 : decode cX12_product 45 = .ok (.getfield 163, 3) := by decide +kernel
theorem dX12_product_48 : decode cX12_product 48 = .ok (.iconst 1, 1) := by decide +kernel
theorem dX12_product_49 : decode cX12_product 49 = .ok (.iadd, 1) := by decide +kernel
theorem dX12_product_50 : decode cX12_product 50 = .ok (.putfield 163, 3) := by decide +kernel
theorem dX12_product_53 : decode cX12_product 53 = .ok (.aload_n 0, 1) := by decide +kernel
theorem dX12_product_54 : decode cX12_product 54 = .ok (.invokevirtual 194, 3) := by decide +kernel
theorem dX12_product_57 : decode cX12_product 57 = .ok (.aload_n 0, 1) := by decide +kernel
theorem dX12_product_58 : decode cX12_product 58 = .ok (.iload_n 1, 1) := by decide +kernel
theorem dX12_product_59 : decode cX12_product 59 = .ok (.iconst 0, 1) := by decide +kernel
theorem dX12_product_60 : decode cX12_product 60 = .ok (.invokevirtual 182, 3) := by decide +kernel
theorem dX12_product_63 : decode cX12_product 63 = .ok (.goto (-59), 3) := by decide +kernel
theorem dX12_product_66 : decode cX12_product 66 = .ok (.return_, 1) := by decide +kernel
theorem dX12_oneSum_0 : decode cX12_oneSum 0 = .ok (.aload_n 0, 1) := by decide +kernel
theorem dX12_oneSum_1 : decode cX12_oneSum 1 = .ok (.invokevirtual 203, 3) := by decide +kernel
theorem dX12_oneSum_4 : decode cX12_oneSum 4 = .ok (.aload_n 0, 1) := by decide +kernel
theorem dX12_oneSum_5 : decode cX12_oneSum 5 = .ok (.getfield 166, 3) := by decide +kernel
theorem dX12_oneSum_8 : decode cX12_oneSum 8 = .ok (.ifCond .ge 49, 3) := by decide +kernel
theorem dX12_oneSum_11 : decode cX12_oneSum 11 = .ok (.aload_n 0, 1) := by decide +kernel
theorem dX12_oneSum_12 : decode cX12_oneSum 12 = .ok (.invokevirtual 178, 3) := by decide +kernel
theorem dX12_oneSum_15 : decode cX12_oneSum 15 = .ok (.bipush 43, 2) := by decide +kernel
theorem dX12_oneSum_17 : decode cX12_oneSum 17 = .ok (.if_icmp .eq 12, 3) := by decide +kernel
theorem dX12_oneSum_20 : decode cX12_oneSum 20 = .ok (.aload_n 0, 1) := by decide +kernel
theorem dX12_oneSum_21 : decode cX12_oneSum 21 = .ok (.invokevirtual 178, 3) := by decide +kernel
theorem dX12_oneSum_24 : decode cX12_oneSum 24 = .ok (.bipush 45, 2) := by decide +kernel
theorem dX12_oneSum_26 : decode cX12_oneSum 26 = .ok (.if_icmp .ne 31, 3) := by decide +kernel
theorem dX12_oneSum_29 : decode cX12_oneSum 29 = .ok (.aload_n 0, 1) := by decide +kernel
theorem dX12_oneSum_30 : decode cX12_oneSum 30 = .ok (.invokevirtual 178, 3) := by decide +kernel
theorem dX12_oneSum_33 : decode cX12_oneSum 33 = .ok (.istore_n 1, 1) := by decide +kernel
theorem dX12_oneSum_34 : decode cX12_oneSum 34 = .ok (.aload_n 0, 1) := by decide +kernel
theorem dX12_oneSum_35 : decode cX12_oneSum 35 = .ok (.dup, 1) := by decide +kernel
theorem dX12_oneSum_36 : decode cX12_oneSum 36 = .ok (.getfield 163, 3) := by decide +kernel
theorem dX12_oneSum_39 : decode cX12_oneSum 39 = .ok (.iconst 1, 1) := by decide +kernel
theorem dX12_oneSum_40 : decode cX12_oneSum 40 = .ok (.iadd, 1) := by decide +kernel
theorem dX12_oneSum_41 : decode cX12_oneSum 41 = .ok (.putfield 163, 3) := by decide +kernel
theorem dX12_oneSum_44 : decode cX12_oneSum 44 = .ok (.aload_n 0, 1) := by decide +kernel
theorem dX12_oneSum_45 : decode cX12_oneSum 45 = .ok (.invokevirtual 203, 3) := by decide +kernel
theorem dX12_oneSum_48 : decode cX12_oneSum 48 = .ok (.aload_n 0, 1) := by decide +kernel
theorem dX12_oneSum_49 : decode cX12_oneSum 49 = .ok (.iload_n 1, 1) := by decide +kernel
theorem dX12_oneSum_50 : decode cX12_oneSum 50 = .ok (.iconst 0, 1) := by decide +kernel
theorem dX12_oneSum_51 : decode cX12_oneSum 51 = .ok (.invokevirtual 182, 3) := by decide +kernel
theorem dX12_oneSum_54 : decode cX12_oneSum 54 = .ok (.goto (-50), 3) := by decide +kernel
theorem dX12_oneSum_57 : decode cX12_oneSum 57 = .ok (.return_, 1) := by decide +kernel
theorem dX12_compared_0 : decode cX12_compared 0 = .ok (.aload_n 0, 1) := by decide +kernel
theorem dX12_compared_1 : decode cX12_compared 1 = .ok (.invokevirtual 206, 3) := by decide +kernel
theorem dX12_compared_4 : decode cX12_compared 4 = .ok (.aload_n 0, 1) := by decide +kernel
theorem dX12_compared_5 : decode cX12_compared 5 = .ok (.invokevirtual 178, 3) := by decide +kernel
theorem dX12_compared_8 : decode cX12_compared 8 = .ok (.istore_n 1, 1) := by decide +kernel
theorem dX12_compared_9 : decode cX12_compared 9 = .ok (.aload_n 0, 1) := by decide +kernel
theorem dX12_compared_10 : decode cX12_compared 10 = .ok (.getfield 166, 3) := by decide +kernel
theorem dX12_compared_13 : decode cX12_compared 13 = .ok (.ifCond .ge 21, 3) := by decide +kernel
theorem dX12_compared_16 : decode cX12_compared 16 = .ok (.iload_n 1, 1) := by decide +kernel
theorem dX12_compared_17 : decode cX12_compared 17 = .ok (.bipush 60, 2) := by decide +kernel
theorem dX12_compared_19 : decode cX12_compared 19 = .ok (.if_icmp .eq 16, 3) := by decide +kernel
theorem dX12_compared_22 : decode cX12_compared 22 = .ok (.iload_n 1, 1) := by decide +kernel
theorem dX12_compared_23 : decode cX12_compared 23 = .ok (.bipush 61, 2) := by decide +kernel
theorem dX12_compared_25 : decode cX12_compared 25 = .ok (.if_icmp .eq 10, 3) := by decide +kernel
theorem dX12_compared_28 : decode cX12_compared 28 = .ok (.iload_n 1, 1) := by decide +kernel
theorem dX12_compared_29 : decode cX12_compared 29 = .ok (.bipush 62, 2) := by decide +kernel
theorem dX12_compared_31 : decode cX12_compared 31 = .ok (.if_icmp .eq 4, 3) := by decide +kernel
theorem dX12_compared_34 : decode cX12_compared 34 = .ok (.return_, 1) := by decide +kernel
theorem dX12_compared_35 : decode cX12_compared 35 = .ok (.aload_n 0, 1) := by decide +kernel
theorem dX12_compared_36 : decode cX12_compared 36 = .ok (.dup, 1) := by decide +kernel
theorem dX12_compared_37 : decode cX12_compared 37 = .ok (.getfield 163, 3) := by decide +kernel
theorem dX12_compared_40 : decode cX12_compared 40 = .ok (.iconst 1, 1) := by decide +kernel
theorem dX12_compared_41 : decode cX12_compared 41 = .ok (.iadd, 1) := by decide +kernel
theorem dX12_compared_42 : decode cX12_compared 42 = .ok (.putfield 163, 3) := by decide +kernel
theorem dX12_compared_45 : decode cX12_compared 45 = .ok (.aload_n 0, 1) := by decide +kernel
theorem dX12_compared_46 : decode cX12_compared 46 = .ok (.invokevirtual 206, 3) := by decide +kernel
theorem dX12_compared_49 : decode cX12_compared 49 = .ok (.aload_n 0, 1) := by decide +kernel
theorem dX12_compared_50 : decode cX12_compared 50 = .ok (.iload_n 1, 1) := by decide +kernel
theorem dX12_compared_51 : decode cX12_compared 51 = .ok (.iconst 0, 1) := by decide +kernel
theorem dX12_compared_52 : decode cX12_compared 52 = .ok (.invokevirtual 182, 3) := by decide +kernel
theorem dX12_compared_55 : decode cX12_compared 55 = .ok (.return_, 1) := by decide +kernel
theorem dX12_both_0 : decode cX12_both 0 = .ok (.aload_n 0, 1) := by decide +kernel
theorem dX12_both_1 : decode cX12_both 1 = .ok (.invokevirtual 209, 3) := by decide +kernel
theorem dX12_both_4 : decode cX12_both 4 = .ok (.aload_n 0, 1) := by decide +kernel
theorem dX12_both_5 : decode cX12_both 5 = .ok (.getfield 166, 3) := by decide +kernel
theorem dX12_both_8 : decode cX12_both 8 = .ok (.ifCond .ge 36, 3) := by decide +kernel
theorem dX12_both_11 : decode cX12_both 11 = .ok (.aload_n 0, 1) := by decide +kernel
theorem dX12_both_12 : decode cX12_both 12 = .ok (.invokevirtual 178, 3) := by decide +kernel
theorem dX12_both_15 : decode cX12_both 15 = .ok (.bipush 38, 2) := by decide +kernel
theorem dX12_both_17 : decode cX12_both 17 = .ok (.if_icmp .ne 27, 3) := by decide +kernel
theorem dX12_both_20 : decode cX12_both 20 = .ok (.aload_n 0, 1) := by decide +kernel
theorem dX12_both_21 : decode cX12_both 21 = .ok (.dup, 1) := by decide +kernel
theorem dX12_both_22 : decode cX12_both 22 = .ok (.getfield 163, 3) := by decide +kernel
theorem dX12_both_25 : decode cX12_both 25 = .ok (.iconst 1, 1) := by decide +kernel
theorem dX12_both_26 : decode cX12_both 26 = .ok (.iadd, 1) := by decide +kernel
theorem dX12_both_27 : decode cX12_both 27 = .ok (.putfield 163, 3) := by decide +kernel
theorem dX12_both_30 : decode cX12_both 30 = .ok (.aload_n 0, 1) := by decide +kernel
theorem dX12_both_31 : decode cX12_both 31 = .ok (.invokevirtual 209, 3) := by decide +kernel
theorem dX12_both_34 : decode cX12_both 34 = .ok (.aload_n 0, 1) := by decide +kernel
theorem dX12_both_35 : decode cX12_both 35 = .ok (.bipush 38, 2) := by decide +kernel
theorem dX12_both_37 : decode cX12_both 37 = .ok (.iconst 0, 1) := by decide +kernel
theorem dX12_both_38 : decode cX12_both 38 = .ok (.invokevirtual 182, 3) := by decide +kernel
theorem dX12_both_41 : decode cX12_both 41 = .ok (.goto (-37), 3) := by decide +kernel
theorem dX12_both_44 : decode cX12_both 44 = .ok (.return_, 1) := by decide +kernel
theorem dX12_either_0 : decode cX12_either 0 = .ok (.aload_n 0, 1) := by decide +kernel
theorem dX12_either_1 : decode cX12_either 1 = .ok (.invokevirtual 212, 3) := by decide +kernel
theorem dX12_either_4 : decode cX12_either 4 = .ok (.aload_n 0, 1) := by decide +kernel
theorem dX12_either_5 : decode cX12_either 5 = .ok (.getfield 166, 3) := by decide +kernel
theorem dX12_either_8 : decode cX12_either 8 = .ok (.ifCond .ge 36, 3) := by decide +kernel
theorem dX12_either_11 : decode cX12_either 11 = .ok (.aload_n 0, 1) := by decide +kernel
theorem dX12_either_12 : decode cX12_either 12 = .ok (.invokevirtual 178, 3) := by decide +kernel
theorem dX12_either_15 : decode cX12_either 15 = .ok (.bipush 124, 2) := by decide +kernel
theorem dX12_either_17 : decode cX12_either 17 = .ok (.if_icmp .ne 27, 3) := by decide +kernel
theorem dX12_either_20 : decode cX12_either 20 = .ok (.aload_n 0, 1) := by decide +kernel
theorem dX12_either_21 : decode cX12_either 21 = .ok (.dup, 1) := by decide +kernel
theorem dX12_either_22 : decode cX12_either 22 = .ok (.getfield 163, 3) := by decide +kernel
theorem dX12_either_25 : decode cX12_either 25 = .ok (.iconst 1, 1) := by decide +kernel
theorem dX12_either_26 : decode cX12_either 26 = .ok (.iadd, 1) := by decide +kernel
theorem dX12_either_27 : decode cX12_either 27 = .ok (.putfield 163, 3) := by decide +kernel
theorem dX12_either_30 : decode cX12_either 30 = .ok (.aload_n 0, 1) := by decide +kernel
theorem dX12_either_31 : decode cX12_either 31 = .ok (.invokevirtual 212, 3) := by decide +kernel
theorem dX12_either_34 : decode cX12_either 34 = .ok (.aload_n 0, 1) := by decide +kernel
theorem dX12_either_35 : decode cX12_either 35 = .ok (.bipush 124, 2) := by decide +kernel
theorem dX12_either_37 : decode cX12_either 37 = .ok (.iconst 0, 1) := by decide +kernel
theorem dX12_either_38 : decode cX12_either 38 = .ok (.invokevirtual 182, 3) := by decide +kernel
theorem dX12_either_41 : decode cX12_either 41 = .ok (.goto (-37), 3) := by decide +kernel
theorem dX12_either_44 : decode cX12_either 44 = .ok (.return_, 1) := by decide +kernel
theorem dX12_line_0 : decode cX12_line 0 = .ok (.bipush 122, 2) := by decide +kernel
theorem dX12_line_2 : decode cX12_line 2 = .ok (.aload_n 0, 1) := by decide +kernel
theorem dX12_line_3 : decode cX12_line 3 = .ok (.getfield 47, 3) := by decide +kernel
theorem dX12_line_6 : decode cX12_line 6 = .ok (.iconst 2, 1) := by decide +kernel
theorem dX12_line_7 : decode cX12_line 7 = .ok (.iaload, 1) := by decide +kernel
theorem dX12_line_8 : decode cX12_line 8 = .ok (.iadd, 1) := by decide +kernel
theorem dX12_line_9 : decode cX12_line 9 = .ok (.istore_n 1, 1) := by decide +kernel
theorem dX12_line_10 : decode cX12_line 10 = .ok (.aload_n 0, 1) := by decide +kernel
theorem dX12_line_11 : decode cX12_line 11 = .ok (.getfield 50, 3) := by decide +kernel
theorem dX12_line_14 : decode cX12_line 14 = .ok (.iload_n 1, 1) := by decide +kernel
theorem dX12_line_15 : decode cX12_line 15 = .ok (.aload_n 0, 1) := by decide +kernel
theorem dX12_line_16 : decode cX12_line 16 = .ok (.getfield 169, 3) := by decide +kernel
theorem dX12_line_19 : decode cX12_line 19 = .ok (.i2s, 1) := by decide +kernel
theorem dX12_line_20 : decode cX12_line 20 = .ok (.sastore, 1) := by decide +kernel
theorem dX12_line_21 : decode cX12_line 21 = .ok (.aload_n 0, 1) := by decide +kernel
theorem dX12_line_22 : decode cX12_line 22 = .ok (.invokevirtual 197, 3) := by decide +kernel
theorem dX12_line_25 : decode cX12_line 25 = .ok (.aload_n 0, 1) := by decide +kernel
theorem dX12_line_26 : decode cX12_line 26 = .ok (.getfield 166, 3) := by decide +kernel
theorem dX12_line_29 : decode cX12_line 29 = .ok (.ifCond .ge 37, 3) := by decide +kernel
theorem dX12_line_32 : decode cX12_line 32 = .ok (.aload_n 0, 1) := by decide +kernel
theorem dX12_line_33 : decode cX12_line 33 = .ok (.invokevirtual 178, 3) := by decide +kernel
theorem dX12_line_36 : decode cX12_line 36 = .ok (.bipush 63, 2) := by decide +kernel
theorem dX12_line_38 : decode cX12_line 38 = .ok (.if_icmp .ne 28, 3) := by decide +kernel
theorem dX12_line_41 : decode cX12_line 41 = .ok (.aload_n 0, 1) := by decide +kernel
theorem dX12_line_42 : decode cX12_line 42 = .ok (.dup, 1) := by decide +kernel
theorem dX12_line_43 : decode cX12_line 43 = .ok (.getfield 163, 3) := by decide +kernel
theorem dX12_line_46 : decode cX12_line 46 = .ok (.iconst 1, 1) := by decide +kernel
theorem dX12_line_47 : decode cX12_line 47 = .ok (.iadd, 1) := by decide +kernel
theorem dX12_line_48 : decode cX12_line 48 = .ok (.putfield 163, 3) := by decide +kernel
theorem dX12_line_51 : decode cX12_line 51 = .ok (.aload_n 0, 1) := by decide +kernel
theorem dX12_line_52 : decode cX12_line 52 = .ok (.getfield 50, 3) := by decide +kernel
theorem dX12_line_55 : decode cX12_line 55 = .ok (.iload_n 1, 1) := by decide +kernel
theorem dX12_line_56 : decode cX12_line 56 = .ok (.aload_n 0, 1) := by decide +kernel
theorem dX12_line_57 : decode cX12_line 57 = .ok (.getfield 169, 3) := by decide +kernel
theorem dX12_line_60 : decode cX12_line 60 = .ok (.i2s, 1) := by decide +kernel
theorem dX12_line_61 : decode cX12_line 61 = .ok (.sastore, 1) := by decide +kernel
theorem dX12_line_62 : decode cX12_line 62 = .ok (.aload_n 0, 1) := by decide +kernel
theorem dX12_line_63 : decode cX12_line 63 = .ok (.invokevirtual 197, 3) := by decide +kernel
theorem dX12_line_66 : decode cX12_line 66 = .ok (.aload_n 0, 1) := by decide +kernel
theorem dX12_line_67 : decode cX12_line 67 = .ok (.getfield 54, 3) := by decide +kernel
theorem dX12_line_70 : decode cX12_line 70 = .ok (.iload_n 1, 1) := by decide +kernel
theorem dX12_line_71 : decode cX12_line 71 = .ok (.aload_n 0, 1) := by decide +kernel
theorem dX12_line_72 : decode cX12_line 72 = .ok (.getfield 169, 3) := by decide +kernel
theorem dX12_line_75 : decode cX12_line 75 = .ok (.i2s, 1) := by decide +kernel
theorem dX12_line_76 : decode cX12_line 76 = .ok (.sastore, 1) := by decide +kernel
theorem dX12_line_77 : decode cX12_line 77 = .ok (.aload_n 0, 1) := by decide +kernel
theorem dX12_line_78 : decode cX12_line 78 = .ok (.getfield 47, 3) := by decide +kernel
theorem dX12_line_81 : decode cX12_line 81 = .ok (.iconst 2, 1) := by decide +kernel
theorem dX12_line_82 : decode cX12_line 82 = .ok (.dup2, 1) := by decide +kernel
theorem dX12_line_83 : decode cX12_line 83 = .ok (.iaload, 1) := by decide +kernel
theorem dX12_line_84 : decode cX12_line 84 = .ok (.iconst 1, 1) := by decide +kernel
theorem dX12_line_85 : decode cX12_line 85 = .ok (.iadd, 1) := by decide +kernel
theorem dX12_line_86 : decode cX12_line 86 = .ok (.iastore, 1) := by decide +kernel
theorem dX12_line_87 : decode cX12_line 87 = .ok (.return_, 1) := by decide +kernel
theorem dX12_readText_0 : decode cX12_readText 0 = .ok (.aload_n 0, 1) := by decide +kernel
theorem dX12_readText_1 : decode cX12_readText 1 = .ok (.iconst 0, 1) := by decide +kernel
theorem dX12_readText_2 : decode cX12_readText 2 = .ok (.putfield 163, 3) := by decide +kernel
theorem dX12_readText_5 : decode cX12_readText 5 = .ok (.aload_n 0, 1) := by decide +kernel
theorem dX12_readText_6 : decode cX12_readText 6 = .ok (.iconst (-1), 1) := by decide +kernel
theorem dX12_readText_7 : decode cX12_readText 7 = .ok (.putfield 166, 3) := by decide +kernel
theorem dX12_readText_10 : decode cX12_readText 10 = .ok (.aload_n 0, 1) := by decide +kernel
theorem dX12_readText_11 : decode cX12_readText 11 = .ok (.iconst 0, 1) := by decide +kernel
theorem dX12_readText_12 : decode cX12_readText 12 = .ok (.putfield 172, 3) := by decide +kernel
theorem dX12_readText_15 : decode cX12_readText 15 = .ok (.aload_n 0, 1) := by decide +kernel
theorem dX12_readText_16 : decode cX12_readText 16 = .ok (.iconst 0, 1) := by decide +kernel
theorem dX12_readText_17 : decode cX12_readText 17 = .ok (.putfield 169, 3) := by decide +kernel
theorem dX12_readText_20 : decode cX12_readText 20 = .ok (.aload_n 0, 1) := by decide +kernel
theorem dX12_readText_21 : decode cX12_readText 21 = .ok (.getfield 47, 3) := by decide +kernel
theorem dX12_readText_24 : decode cX12_readText 24 = .ok (.iconst 2, 1) := by decide +kernel
theorem dX12_readText_25 : decode cX12_readText 25 = .ok (.iconst 0, 1) := by decide +kernel
theorem dX12_readText_26 : decode cX12_readText 26 = .ok (.iastore, 1) := by decide +kernel
theorem dX12_readText_27 : decode cX12_readText 27 = .ok (.aload_n 0, 1) := by decide +kernel
theorem dX12_readText_28 : decode cX12_readText 28 = .ok (.invokevirtual 215, 3) := by decide +kernel
theorem dX12_readText_31 : decode cX12_readText 31 = .ok (.aload_n 0, 1) := by decide +kernel
theorem dX12_readText_32 : decode cX12_readText 32 = .ok (.getfield 166, 3) := by decide +kernel
theorem dX12_readText_35 : decode cX12_readText 35 = .ok (.ifCond .ge 29, 3) := by decide +kernel
theorem dX12_readText_38 : decode cX12_readText 38 = .ok (.aload_n 0, 1) := by decide +kernel
theorem dX12_readText_39 : decode cX12_readText 39 = .ok (.invokevirtual 178, 3) := by decide +kernel
theorem dX12_readText_42 : decode cX12_readText 42 = .ok (.bipush 59, 2) := by decide +kernel
theorem dX12_readText_44 : decode cX12_readText 44 = .ok (.if_icmp .ne 20, 3) := by decide +kernel
theorem dX12_readText_47 : decode cX12_readText 47 = .ok (.aload_n 0, 1) := by decide +kernel
theorem dX12_readText_48 : decode cX12_readText 48 = .ok (.dup, 1) := by decide +kernel
theorem dX12_readText_49 : decode cX12_readText 49 = .ok (.getfield 163, 3) := by decide +kernel
theorem dX12_readText_52 : decode cX12_readText 52 = .ok (.iconst 1, 1) := by decide +kernel
theorem dX12_readText_53 : decode cX12_readText 53 = .ok (.iadd, 1) := by decide +kernel
theorem dX12_readText_54 : decode cX12_readText 54 = .ok (.putfield 163, 3) := by decide +kernel
theorem dX12_readText_57 : decode cX12_readText 57 = .ok (.aload_n 0, 1) := by decide +kernel
theorem dX12_readText_58 : decode cX12_readText 58 = .ok (.invokevirtual 215, 3) := by decide +kernel
theorem dX12_readText_61 : decode cX12_readText 61 = .ok (.goto (-30), 3) := by decide +kernel
theorem dX12_readText_64 : decode cX12_readText 64 = .ok (.aload_n 0, 1) := by decide +kernel
theorem dX12_readText_65 : decode cX12_readText 65 = .ok (.getfield 166, 3) := by decide +kernel
theorem dX12_readText_68 : decode cX12_readText 68 = .ok (.ifCond .ge 18, 3) := by decide +kernel
theorem dX12_readText_71 : decode cX12_readText 71 = .ok (.aload_n 0, 1) := by decide +kernel
theorem dX12_readText_72 : decode cX12_readText 72 = .ok (.getfield 163, 3) := by decide +kernel
theorem dX12_readText_75 : decode cX12_readText 75 = .ok (.aload_n 0, 1) := by decide +kernel
theorem dX12_readText_76 : decode cX12_readText 76 = .ok (.getfield 160, 3) := by decide +kernel
theorem dX12_readText_79 : decode cX12_readText 79 = .ok (.if_icmp .ge 7, 3) := by decide +kernel
theorem dX12_readText_82 : decode cX12_readText 82 = .ok (.aload_n 0, 1) := by decide +kernel
theorem dX12_readText_83 : decode cX12_readText 83 = .ok (.invokevirtual 175, 3) := by decide +kernel
theorem dX12_readText_86 : decode cX12_readText 86 = .ok (.aload_n 0, 1) := by decide +kernel
theorem dX12_readText_87 : decode cX12_readText 87 = .ok (.iconst 0, 1) := by decide +kernel
theorem dX12_readText_88 : decode cX12_readText 88 = .ok (.putfield 160, 3) := by decide +kernel
theorem dX12_readText_91 : decode cX12_readText 91 = .ok (.aload_n 0, 1) := by decide +kernel
theorem dX12_readText_92 : decode cX12_readText 92 = .ok (.getfield 166, 3) := by decide +kernel
theorem dX12_readText_95 : decode cX12_readText 95 = .ok (.ifCond .lt 8, 3) := by decide +kernel
theorem dX12_readText_98 : decode cX12_readText 98 = .ok (.aload_n 0, 1) := by decide +kernel
theorem dX12_readText_99 : decode cX12_readText 99 = .ok (.getfield 166, 3) := by decide +kernel
theorem dX12_readText_102 : decode cX12_readText 102 = .ok (.ireturn, 1) := by decide +kernel
theorem dX12_readText_103 : decode cX12_readText 103 = .ok (.iconst 0, 1) := by decide +kernel
theorem dX12_readText_104 : decode cX12_readText 104 = .ok (.istore_n 2, 1) := by decide +kernel
theorem dX12_readText_105 : decode cX12_readText 105 = .ok (.iload_n 2, 1) := by decide +kernel
theorem dX12_readText_106 : decode cX12_readText 106 = .ok (.aload_n 0, 1) := by decide +kernel
theorem dX12_readText_107 : decode cX12_readText 107 = .ok (.getfield 169, 3) := by decide +kernel
theorem dX12_readText_110 : decode cX12_readText 110 = .ok (.if_icmp .ge 53, 3) := by decide +kernel
theorem dX12_readText_113 : decode cX12_readText 113 = .ok (.aload_n 0, 1) := by decide +kernel
theorem dX12_readText_114 : decode cX12_readText 114 = .ok (.getfield 41, 3) := by decide +kernel
theorem dX12_readText_117 : decode cX12_readText 117 = .ok (.sipush 130, 3) := by decide +kernel
theorem dX12_readText_120 : decode cX12_readText 120 = .ok (.iload_n 1, 1) := by decide +kernel
theorem dX12_readText_121 : decode cX12_readText 121 = .ok (.imul, 1) := by decide +kernel
theorem dX12_readText_122 : decode cX12_readText 122 = .ok (.iload_n 2, 1) := by decide +kernel
theorem dX12_readText_123 : decode cX12_readText 123 = .ok (.iadd, 1) := by decide +kernel
theorem dX12_readText_124 : decode cX12_readText 124 = .ok (.aload_n 0, 1) := by decide +kernel
theorem dX12_readText_125 : decode cX12_readText 125 = .ok (.getfield 41, 3) := by decide +kernel
theorem dX12_readText_128 : decode cX12_readText 128 = .ok (.sipush 260, 3) := by decide +kernel
theorem dX12_readText_131 : decode cX12_readText 131 = .ok (.iload_n 2, 1) := by decide +kernel
theorem dX12_readText_132 : decode cX12_readText 132 = .ok (.iadd, 1) := by decide +kernel
theorem dX12_readText_133 : decode cX12_readText 133 = .ok (.baload, 1) := by decide +kernel
theorem dX12_readText_134 : decode cX12_readText 134 = .ok (.bastore, 1) := by decide +kernel
theorem dX12_readText_135 : decode cX12_readText 135 = .ok (.aload_n 0, 1) := by decide +kernel
theorem dX12_readText_136 : decode cX12_readText 136 = .ok (.getfield 44, 3) := by decide +kernel
theorem dX12_readText_139 : decode cX12_readText 139 = .ok (.sipush 130, 3) := by decide +kernel
theorem dX12_readText_142 : decode cX12_readText 142 = .ok (.iload_n 1, 1) := by decide +kernel
theorem dX12_readText_143 : decode cX12_readText 143 = .ok (.imul, 1) := by decide +kernel
theorem dX12_readText_144 : decode cX12_readText 144 = .ok (.iload_n 2, 1) := by decide +kernel
theorem dX12_readText_145 : decode cX12_readText 145 = .ok (.iadd, 1) := by decide +kernel
theorem dX12_readText_146 : decode cX12_readText 146 = .ok (.aload_n 0, 1) := by decide +kernel
theorem dX12_readText_147 : decode cX12_readText 147 = .ok (.getfield 44, 3) := by decide +kernel
theorem dX12_readText_150 : decode cX12_readText 150 = .ok (.sipush 260, 3) := by decide +kernel
theorem dX12_readText_153 : decode cX12_readText 153 = .ok (.iload_n 2, 1) := by decide +kernel
theorem dX12_readText_154 : decode cX12_readText 154 = .ok (.iadd, 1) := by decide +kernel
theorem dX12_readText_155 : decode cX12_readText 155 = .ok (.iaload, 1) := by decide +kernel
theorem dX12_readText_156 : decode cX12_readText 156 = .ok (.iastore, 1) := by decide +kernel
theorem dX12_readText_157 : decode cX12_readText 157 = .ok (.iinc 2 1, 3) := by decide +kernel
theorem dX12_readText_160 : decode cX12_readText 160 = .ok (.goto (-55), 3) := by decide +kernel
theorem dX12_readText_163 : decode cX12_readText 163 = .ok (.aload_n 0, 1) := by decide +kernel
theorem dX12_readText_164 : decode cX12_readText 164 = .ok (.getfield 47, 3) := by decide +kernel
theorem dX12_readText_167 : decode cX12_readText 167 = .ok (.iload_n 1, 1) := by decide +kernel
theorem dX12_readText_168 : decode cX12_readText 168 = .ok (.aload_n 0, 1) := by decide +kernel
theorem dX12_readText_169 : decode cX12_readText 169 = .ok (.getfield 47, 3) := by decide +kernel
theorem dX12_readText_172 : decode cX12_readText 172 = .ok (.iconst 2, 1) := by decide +kernel
theorem dX12_readText_173 : decode cX12_readText 173 = .ok (.iaload, 1) := by decide +kernel
theorem dX12_readText_174 : decode cX12_readText 174 = .ok (.iastore, 1) := by decide +kernel
theorem dX12_readText_175 : decode cX12_readText 175 = .ok (.iconst 0, 1) := by decide +kernel
theorem dX12_readText_176 : decode cX12_readText 176 = .ok (.istore_n 2, 1) := by decide +kernel
theorem dX12_readText_177 : decode cX12_readText 177 = .ok (.iload_n 2, 1) := by decide +kernel
theorem dX12_readText_178 : decode cX12_readText 178 = .ok (.aload_n 0, 1) := by decide +kernel
theorem dX12_readText_179 : decode cX12_readText 179 = .ok (.getfield 47, 3) := by decide +kernel
theorem dX12_readText_182 : decode cX12_readText 182 = .ok (.iload_n 1, 1) := by decide +kernel
theorem dX12_readText_183 : decode cX12_readText 183 = .ok (.iaload, 1) := by decide +kernel
theorem dX12_readText_184 : decode cX12_readText 184 = .ok (.if_icmp .ge 49, 3) := by decide +kernel
theorem dX12_readText_187 : decode cX12_readText 187 = .ok (.aload_n 0, 1) := by decide +kernel
theorem dX12_readText_188 : decode cX12_readText 188 = .ok (.getfield 50, 3) := by decide +kernel
theorem dX12_readText_191 : decode cX12_readText 191 = .ok (.bipush 61, 2) := by decide +kernel
theorem dX12_readText_193 : decode cX12_readText 193 = .ok (.iload_n 1, 1) := by decide +kernel
theorem dX12_readText_194 : decode cX12_readText 194 = .ok (.imul, 1) := by decide +kernel
theorem dX12_readText_195 : decode cX12_readText 195 = .ok (.iload_n 2, 1) := by decide +kernel
theorem dX12_readText_196 : decode cX12_readText 196 = .ok (.iadd, 1) := by decide +kernel
theorem dX12_readText_197 : decode cX12_readText 197 = .ok (.aload_n 0, 1) := by decide +kernel
theorem dX12_readText_198 : decode cX12_readText 198 = .ok (.getfield 50, 3) := by decide +kernel
theorem dX12_readText_201 : decode cX12_readText 201 = .ok (.bipush 122, 2) := by decide +kernel
theorem dX12_readText_203 : decode cX12_readText 203 = .ok (.iload_n 2, 1) := by decide +kernel
theorem dX12_readText_204 : decode cX12_readText 204 = .ok (.iadd, 1) := by decide +kernel
theorem dX12_readText_205 : decode cX12_readText 205 = .ok (.saload, 1) := by decide +kernel
theorem dX12_readText_206 : decode cX12_readText 206 = .ok (.sastore, 1) := by decide +kernel
theorem dX12_readText_207 : decode cX12_readText 207 = .ok (.aload_n 0, 1) := by decide +kernel
theorem dX12_readText_208 : decode cX12_readText 208 = .ok (.getfield 54, 3) := by decide +kernel
theorem dX12_readText_211 : decode cX12_readText 211 = .ok (.bipush 61, 2) := by decide +kernel
theorem dX12_readText_213 : decode cX12_readText 213 = .ok (.iload_n 1, 1) := by decide +kernel
theorem dX12_readText_214 : decode cX12_readText 214 = .ok (.imul, 1) := by decide +kernel
theorem dX12_readText_215 : decode cX12_readText 215 = .ok (.iload_n 2, 1) := by decide +kernel
theorem dX12_readText_216 : decode cX12_readText 216 = .ok (.iadd, 1) := by decide +kernel
theorem dX12_readText_217 : decode cX12_readText 217 = .ok (.aload_n 0, 1) := by decide +kernel
theorem dX12_readText_218 : decode cX12_readText 218 = .ok (.getfield 54, 3) := by decide +kernel
theorem dX12_readText_221 : decode cX12_readText 221 = .ok (.bipush 122, 2) := by decide +kernel
theorem dX12_readText_223 : decode cX12_readText 223 = .ok (.iload_n 2, 1) := by decide +kernel
theorem dX12_readText_224 : decode cX12_readText 224 = .ok (.iadd, 1) := by decide +kernel
theorem dX12_readText_225 : decode cX12_readText 225 = .ok (.saload, 1) := by decide +kernel
theorem dX12_readText_226 : decode cX12_readText 226 = .ok (.sastore, 1) := by decide +kernel
theorem dX12_readText_227 : decode cX12_readText 227 = .ok (.iinc 2 1, 3) := by decide +kernel
theorem dX12_readText_230 : decode cX12_readText 230 = .ok (.goto (-53), 3) := by decide +kernel
theorem dX12_readText_233 : decode cX12_readText 233 = .ok (.iconst (-1), 1) := by decide +kernel
theorem dX12_readText_234 : decode cX12_readText 234 = .ok (.ireturn, 1) := by decide +kernel
theorem dX12_twoOf_0 : decode cX12_twoOf 0 = .ok (.iload_n 0, 1) := by decide +kernel
theorem dX12_twoOf_1 : decode cX12_twoOf 1 = .ok (.tableswitch 217 37 62 #[153, 203, 217, 217, 217, 127, 119, 217, 123, 217, 131, 217, 217, 217, 217, 217, 217, 217, 217, 217, 217, 217, 217, 170, 181, 192], 119) := by decide +kernel
theorem dX12_twoOf_120 : decode cX12_twoOf 120 = .ok (.iload_n 1, 1) := by decide +kernel
theorem dX12_twoOf_121 : decode cX12_twoOf 121 = .ok (.iload_n 2, 1) := by decide +kernel
theorem dX12_twoOf_122 : decode cX12_twoOf 122 = .ok (.iadd, 1) := by decide +kernel
theorem dX12_twoOf_123 : decode cX12_twoOf 123 = .ok (.ireturn, 1) := by decide +kernel
theorem dX12_twoOf_124 : decode cX12_twoOf 124 = .ok (.iload_n 1, 1) := by decide +kernel
theorem dX12_twoOf_125 : decode cX12_twoOf 125 = .ok (.iload_n 2, 1) := by decide +kernel
theorem dX12_twoOf_126 : decode cX12_twoOf 126 = .ok (.isub, 1) := by decide +kernel
theorem dX12_twoOf_127 : decode cX12_twoOf 127 = .ok (.ireturn, 1) := by decide +kernel
theorem dX12_twoOf_128 : decode cX12_twoOf 128 = .ok (.iload_n 1, 1) := by decide +kernel
theorem dX12_twoOf_129 : decode cX12_twoOf 129 = .ok (.iload_n 2, 1) := by decide +kernel
theorem dX12_twoOf_130 : decode cX12_twoOf 130 = .ok (.imul, 1) := by decide +kernel
theorem dX12_twoOf_131 : decode cX12_twoOf 131 = .ok (.ireturn, 1) := by decide +kernel
theorem dX12_twoOf_132 : decode cX12_twoOf 132 = .ok (.iload_n 2, 1) := by decide +kernel
theorem dX12_twoOf_133 : decode cX12_twoOf 133 = .ok (.ifCond .ne 7, 3) := by decide +kernel
theorem dX12_twoOf_136 : decode cX12_twoOf 136 = .ok (.iconst 0, 1) := by decide +kernel
theorem dX12_twoOf_137 : decode cX12_twoOf 137 = .ok (.goto 16, 3) := by decide +kernel
theorem dX12_twoOf_140 : decode cX12_twoOf 140 = .ok (.iload_n 2, 1) := by decide +kernel
theorem dX12_twoOf_141 : decode cX12_twoOf 141 = .ok (.iconst (-1), 1) := by decide +kernel
theorem dX12_twoOf_142 : decode cX12_twoOf 142 = .ok (.if_icmp .ne 8, 3) := by decide +kernel
theorem dX12_twoOf_145 : decode cX12_twoOf 145 = .ok (.iload_n 1, 1) := by decide +kernel
theorem dX12_twoOf_146 : decode cX12_twoOf 146 = .ok (.ineg, 1) := by decide +kernel
theorem dX12_twoOf_147 : decode cX12_twoOf 147 = .ok (.goto 6, 3) := by decide +kernel
theorem dX12_twoOf_150 : decode cX12_twoOf 150 = .ok (.iload_n 1, 1) := by decide +kernel
theorem dX12_twoOf_151 : decode cX12_twoOf 151 = .ok (.iload_n 2, 1) := by decide +kernel
theorem dX12_twoOf_152 : decode cX12_twoOf 152 = .ok (.idiv, 1) := by decide +kernel
theorem dX12_twoOf_153 : decode cX12_twoOf 153 = .ok (.ireturn, 1) := by decide +kernel
theorem dX12_twoOf_154 : decode cX12_twoOf 154 = .ok (.iload_n 2, 1) := by decide +kernel
theorem dX12_twoOf_155 : decode cX12_twoOf 155 = .ok (.ifCond .eq 8, 3) := by decide +kernel
theorem dX12_twoOf_158 : decode cX12_twoOf 158 = .ok (.iload_n 2, 1) := by decide +kernel
theorem dX12_twoOf_159 : decode cX12_twoOf 159 = .ok (.iconst (-1), 1) := by decide +kernel
theorem dX12_twoOf_160 : decode cX12_twoOf 160 = .ok (.if_icmp .ne 7, 3) := by decide +kernel
theorem dX12_twoOf_163 : decode cX12_twoOf 163 = .ok (.iconst 0, 1) := by decide +kernel
theorem dX12_twoOf_164 : decode cX12_twoOf 164 = .ok (.goto 6, 3) := by decide +kernel
theorem dX12_twoOf_167 : decode cX12_twoOf 167 = .ok (.iload_n 1, 1) := by decide +kernel
theorem dX12_twoOf_168 : decode cX12_twoOf 168 = .ok (.iload_n 2, 1) := by decide +kernel
theorem dX12_twoOf_169 : decode cX12_twoOf 169 = .ok (.irem, 1) := by decide +kernel
theorem dX12_twoOf_170 : decode cX12_twoOf 170 = .ok (.ireturn, 1) := by decide +kernel
theorem dX12_twoOf_171 : decode cX12_twoOf 171 = .ok (.iload_n 1, 1) := by decide +kernel
theorem dX12_twoOf_172 : decode cX12_twoOf 172 = .ok (.iload_n 2, 1) := by decide +kernel
theorem dX12_twoOf_173 : decode cX12_twoOf 173 = .ok (.if_icmp .ge 7, 3) := by decide +kernel
theorem dX12_twoOf_176 : decode cX12_twoOf 176 = .ok (.iconst 1, 1) := by decide +kernel
theorem dX12_twoOf_177 : decode cX12_twoOf 177 = .ok (.goto 4, 3) := by decide +kernel
theorem dX12_twoOf_180 : decode cX12_twoOf 180 = .ok (.iconst 0, 1) := by decide +kernel
theorem dX12_twoOf_181 : decode cX12_twoOf 181 = .ok (.ireturn, 1) := by decide +kernel
theorem dX12_twoOf_182 : decode cX12_twoOf 182 = .ok (.iload_n 1, 1) := by decide +kernel
theorem dX12_twoOf_183 : decode cX12_twoOf 183 = .ok (.iload_n 2, 1) := by decide +kernel
theorem dX12_twoOf_184 : decode cX12_twoOf 184 = .ok (.if_icmp .ne 7, 3) := by decide +kernel
theorem dX12_twoOf_187 : decode cX12_twoOf 187 = .ok (.iconst 1, 1) := by decide +kernel
theorem dX12_twoOf_188 : decode cX12_twoOf 188 = .ok (.goto 4, 3) := by decide +kernel
theorem dX12_twoOf_191 : decode cX12_twoOf 191 = .ok (.iconst 0, 1) := by decide +kernel
theorem dX12_twoOf_192 : decode cX12_twoOf 192 = .ok (.ireturn, 1) := by decide +kernel
theorem dX12_twoOf_193 : decode cX12_twoOf 193 = .ok (.iload_n 1, 1) := by decide +kernel
theorem dX12_twoOf_194 : decode cX12_twoOf 194 = .ok (.iload_n 2, 1) := by decide +kernel
theorem dX12_twoOf_195 : decode cX12_twoOf 195 = .ok (.if_icmp .le 7, 3) := by decide +kernel
theorem dX12_twoOf_198 : decode cX12_twoOf 198 = .ok (.iconst 1, 1) := by decide +kernel
theorem dX12_twoOf_199 : decode cX12_twoOf 199 = .ok (.goto 4, 3) := by decide +kernel
theorem dX12_twoOf_202 : decode cX12_twoOf 202 = .ok (.iconst 0, 1) := by decide +kernel
theorem dX12_twoOf_203 : decode cX12_twoOf 203 = .ok (.ireturn, 1) := by decide +kernel
theorem dX12_twoOf_204 : decode cX12_twoOf 204 = .ok (.iload_n 1, 1) := by decide +kernel
theorem dX12_twoOf_205 : decode cX12_twoOf 205 = .ok (.ifCond .eq 11, 3) := by decide +kernel
theorem dX12_twoOf_208 : decode cX12_twoOf 208 = .ok (.iload_n 2, 1) := by decide +kernel
theorem dX12_twoOf_209 : decode cX12_twoOf 209 = .ok (.ifCond .eq 7, 3) := by decide +kernel
theorem dX12_twoOf_212 : decode cX12_twoOf 212 = .ok (.iconst 1, 1) := by decide +kernel
theorem dX12_twoOf_213 : decode cX12_twoOf 213 = .ok (.goto 4, 3) := by decide +kernel
theorem dX12_twoOf_216 : decode cX12_twoOf 216 = .ok (.iconst 0, 1) := by decide +kernel
theorem dX12_twoOf_217 : decode cX12_twoOf 217 = .ok (.ireturn, 1) := by decide +kernel
theorem dX12_twoOf_218 : decode cX12_twoOf 218 = .ok (.iload_n 1, 1) := by decide +kernel
theorem dX12_twoOf_219 : decode cX12_twoOf 219 = .ok (.ifCond .ne 7, 3) := by decide +kernel
theorem dX12_twoOf_222 : decode cX12_twoOf 222 = .ok (.iload_n 2, 1) := by decide +kernel
theorem dX12_twoOf_223 : decode cX12_twoOf 223 = .ok (.ifCond .eq 7, 3) := by decide +kernel
theorem dX12_twoOf_226 : decode cX12_twoOf 226 = .ok (.iconst 1, 1) := by decide +kernel
theorem dX12_twoOf_227 : decode cX12_twoOf 227 = .ok (.goto 4, 3) := by decide +kernel
theorem dX12_twoOf_230 : decode cX12_twoOf 230 = .ok (.iconst 0, 1) := by decide +kernel
theorem dX12_twoOf_231 : decode cX12_twoOf 231 = .ok (.ireturn, 1) := by decide +kernel
theorem dX12_worked_0 : decode cX12_worked 0 = .ok (.iconst 0, 1) := by decide +kernel
theorem dX12_worked_1 : decode cX12_worked 1 = .ok (.istore 4, 2) := by decide +kernel
theorem dX12_worked_3 : decode cX12_worked 3 = .ok (.sipush 130, 3) := by decide +kernel
theorem dX12_worked_6 : decode cX12_worked 6 = .ok (.iload_n 1, 1) := by decide +kernel
theorem dX12_worked_7 : decode cX12_worked 7 = .ok (.imul, 1) := by decide +kernel
theorem dX12_worked_8 : decode cX12_worked 8 = .ok (.iload_n 2, 1) := by decide +kernel
theorem dX12_worked_9 : decode cX12_worked 9 = .ok (.iadd, 1) := by decide +kernel
theorem dX12_worked_10 : decode cX12_worked 10 = .ok (.istore 5, 2) := by decide +kernel
theorem dX12_worked_12 : decode cX12_worked 12 = .ok (.iload 5, 2) := by decide +kernel
theorem dX12_worked_14 : decode cX12_worked 14 = .ok (.sipush 130, 3) := by decide +kernel
theorem dX12_worked_17 : decode cX12_worked 17 = .ok (.iload_n 1, 1) := by decide +kernel
theorem dX12_worked_18 : decode cX12_worked 18 = .ok (.imul, 1) := by decide +kernel
theorem dX12_worked_19 : decode cX12_worked 19 = .ok (.iload_n 3, 1) := by decide +kernel
theorem dX12_worked_20 : decode cX12_worked 20 = .ok (.iadd, 1) := by decide +kernel
theorem dX12_worked_21 : decode cX12_worked 21 = .ok (.if_icmp .ge 167, 3) := by decide +kernel
theorem dX12_worked_24 : decode cX12_worked 24 = .ok (.aload_n 0, 1) := by decide +kernel
theorem dX12_worked_25 : decode cX12_worked 25 = .ok (.getfield 41, 3) := by decide +kernel
theorem dX12_worked_28 : decode cX12_worked 28 = .ok (.iload 5, 2) := by decide +kernel
theorem dX12_worked_30 : decode cX12_worked 30 = .ok (.baload, 1) := by decide +kernel
theorem dX12_worked_31 : decode cX12_worked 31 = .ok (.istore 6, 2) := by decide +kernel
theorem dX12_worked_33 : decode cX12_worked 33 = .ok (.iload 6, 2) := by decide +kernel
theorem dX12_worked_35 : decode cX12_worked 35 = .ok (.iconst 1, 1) := by decide +kernel
theorem dX12_worked_36 : decode cX12_worked 36 = .ok (.if_icmp .eq 9, 3) := by decide +kernel
theorem dX12_worked_39 : decode cX12_worked 39 = .ok (.iload 6, 2) := by decide +kernel
theorem dX12_worked_41 : decode cX12_worked 41 = .ok (.iconst 2, 1) := by decide +kernel
theorem dX12_worked_42 : decode cX12_worked 42 = .ok (.if_icmp .ne 44, 3) := by decide +kernel
theorem dX12_worked_45 : decode cX12_worked 45 = .ok (.aload_n 0, 1) := by decide +kernel
theorem dX12_worked_46 : decode cX12_worked 46 = .ok (.getfield 60, 3) := by decide +kernel
theorem dX12_worked_49 : decode cX12_worked 49 = .ok (.iload 4, 2) := by decide +kernel
theorem dX12_worked_51 : decode cX12_worked 51 = .ok (.iload 6, 2) := by decide +kernel
theorem dX12_worked_53 : decode cX12_worked 53 = .ok (.iconst 1, 1) := by decide +kernel
theorem dX12_worked_54 : decode cX12_worked 54 = .ok (.if_icmp .ne 13, 3) := by decide +kernel
theorem dX12_worked_57 : decode cX12_worked 57 = .ok (.aload_n 0, 1) := by decide +kernel
theorem dX12_worked_58 : decode cX12_worked 58 = .ok (.getfield 44, 3) := by decide +kernel
theorem dX12_worked_61 : decode cX12_worked 61 = .ok (.iload 5, 2) := by decide +kernel
theorem dX12_worked_63 : decode cX12_worked 63 = .ok (.iaload, 1) := by decide +kernel
theorem dX12_worked_64 : decode cX12_worked 64 = .ok (.goto 15, 3) := by decide +kernel
theorem dX12_worked_67 : decode cX12_worked 67 = .ok (.aload_n 0, 1) := by decide +kernel
theorem dX12_worked_68 : decode cX12_worked 68 = .ok (.getfield 57, 3) := by decide +kernel
theorem dX12_worked_71 : decode cX12_worked 71 = .ok (.aload_n 0, 1) := by decide +kernel
theorem dX12_worked_72 : decode cX12_worked 72 = .ok (.getfield 44, 3) := by decide +kernel
theorem dX12_worked_75 : decode cX12_worked 75 = .ok (.iload 5, 2) := by decide +kernel
theorem dX12_worked_77 : decode cX12_worked 77 = .ok (.iaload, 1) := by decide +kernel
theorem dX12_worked_78 : decode cX12_worked 78 = .ok (.iaload, 1) := by decide +kernel
theorem dX12_worked_79 : decode cX12_worked 79 = .ok (.iastore, 1) := by decide +kernel
theorem dX12_worked_80 : decode cX12_worked 80 = .ok (.iinc 4 1, 3) := by decide +kernel
theorem dX12_worked_83 : decode cX12_worked 83 = .ok (.goto 99, 3) := by decide +kernel
theorem dX12_worked_86 : decode cX12_worked 86 = .ok (.iload 6, 2) := by decide +kernel
theorem dX12_worked_88 : decode cX12_worked 88 = .ok (.iconst 3, 1) := by decide +kernel
theorem dX12_worked_89 : decode cX12_worked 89 = .ok (.if_icmp .ne 32, 3) := by decide +kernel
theorem dX12_worked_92 : decode cX12_worked 92 = .ok (.aload_n 0, 1) := by decide +kernel
theorem dX12_worked_93 : decode cX12_worked 93 = .ok (.getfield 60, 3) := by decide +kernel
theorem dX12_worked_96 : decode cX12_worked 96 = .ok (.iload 4, 2) := by decide +kernel
theorem dX12_worked_98 : decode cX12_worked 98 = .ok (.iconst 1, 1) := by decide +kernel
theorem dX12_worked_99 : decode cX12_worked 99 = .ok (.isub, 1) := by decide +kernel
theorem dX12_worked_100 : decode cX12_worked 100 = .ok (.aload_n 0, 1) := by decide +kernel
theorem dX12_worked_101 : decode cX12_worked 101 = .ok (.getfield 60, 3) := by decide +kernel
theorem dX12_worked_104 : decode cX12_worked 104 = .ok (.iload 4, 2) := by decide +kernel
theorem dX12_worked_106 : decode cX12_worked 106 = .ok (.iconst 1, 1) := by decide +kernel
theorem dX12_worked_107 : decode cX12_worked 107 = .ok (.isub, 1) := by decide +kernel
theorem dX12_worked_108 : decode cX12_worked 108 = .ok (.iaload, 1) := by decide +kernel
theorem dX12_worked_109 : decode cX12_worked 109 = .ok (.ifCond .ne 7, 3) := by decide +kernel
theorem dX12_worked_112 : decode cX12_worked 112 = .ok (.iconst 1, 1) := by decide +kernel
theorem dX12_worked_113 : decode cX12_worked 113 = .ok (.goto 4, 3) := by decide +kernel
theorem dX12_worked_116 : decode cX12_worked 116 = .ok (.iconst 0, 1) := by decide +kernel
theorem dX12_worked_117 : decode cX12_worked 117 = .ok (.iastore, 1) := by decide +kernel
theorem dX12_worked_118 : decode cX12_worked 118 = .ok (.goto 64, 3) := by decide +kernel
theorem dX12_worked_121 : decode cX12_worked 121 = .ok (.iload 6, 2) := by decide +kernel
theorem dX12_worked_123 : decode cX12_worked 123 = .ok (.iconst 4, 1) := by decide +kernel
theorem dX12_worked_124 : decode cX12_worked 124 = .ok (.if_icmp .ne 25, 3) := by decide +kernel
theorem dX12_worked_127 : decode cX12_worked 127 = .ok (.aload_n 0, 1) := by decide +kernel
theorem dX12_worked_128 : decode cX12_worked 128 = .ok (.getfield 60, 3) := by decide +kernel
theorem dX12_worked_131 : decode cX12_worked 131 = .ok (.iload 4, 2) := by decide +kernel
theorem dX12_worked_133 : decode cX12_worked 133 = .ok (.iconst 1, 1) := by decide +kernel
theorem dX12_worked_134 : decode cX12_worked 134 = .ok (.isub, 1) := by decide +kernel
theorem dX12_worked_135 : decode cX12_worked 135 = .ok (.aload_n 0, 1) := by decide +kernel
theorem dX12_worked_136 : decode cX12_worked 136 = .ok (.getfield 60, 3) := by decide +kernel
theorem dX12_worked_139 : decode cX12_worked 139 = .ok (.iload 4, 2) := by decide +kernel
theorem dX12_worked_141 : decode cX12_worked 141 = .ok (.iconst 1, 1) := by decide +kernel
theorem dX12_worked_142 : decode cX12_worked 142 = .ok (.isub, 1) := by decide +kernel
theorem dX12_worked_143 : decode cX12_worked 143 = .ok (.iaload, 1) := by decide +kernel
theorem dX12_worked_144 : decode cX12_worked 144 = .ok (.ineg, 1) := by decide +kernel
theorem dX12_worked_145 : decode cX12_worked 145 = .ok (.iastore, 1) := by decide +kernel
theorem dX12_worked_146 : decode cX12_worked 146 = .ok (.goto 36, 3) := by decide +kernel
theorem dX12_worked_149 : decode cX12_worked 149 = .ok (.iinc 4 (-1), 3) := by decide +kernel
theorem dX12_worked_152 : decode cX12_worked 152 = .ok (.aload_n 0, 1) := by decide +kernel
theorem dX12_worked_153 : decode cX12_worked 153 = .ok (.getfield 60, 3) := by decide +kernel
theorem dX12_worked_156 : decode cX12_worked 156 = .ok (.iload 4, 2) := by decide +kernel
theorem dX12_worked_158 : decode cX12_worked 158 = .ok (.iconst 1, 1) := by decide +kernel
theorem dX12_worked_159 : decode cX12_worked 159 = .ok (.isub, 1) := by decide +kernel
theorem dX12_worked_160 : decode cX12_worked 160 = .ok (.iload 6, 2) := by decide +kernel
theorem dX12_worked_162 : decode cX12_worked 162 = .ok (.aload_n 0, 1) := by decide +kernel
theorem dX12_worked_163 : decode cX12_worked 163 = .ok (.getfield 60, 3) := by decide +kernel
theorem dX12_worked_166 : decode cX12_worked 166 = .ok (.iload 4, 2) := by decide +kernel
theorem dX12_worked_168 : decode cX12_worked 168 = .ok (.iconst 1, 1) := by decide +kernel
theorem dX12_worked_169 : decode cX12_worked 169 = .ok (.isub, 1) := by decide +kernel
theorem dX12_worked_170 : decode cX12_worked 170 = .ok (.iaload, 1) := by decide +kernel
theorem dX12_worked_171 : decode cX12_worked 171 = .ok (.aload_n 0, 1) := by decide +kernel
theorem dX12_worked_172 : decode cX12_worked 172 = .ok (.getfield 60, 3) := by decide +kernel
theorem dX12_worked_175 : decode cX12_worked 175 = .ok (.iload 4, 2) := by decide +kernel
theorem dX12_worked_177 : decode cX12_worked 177 = .ok (.iaload, 1) := by decide +kernel
theorem dX12_worked_178 : decode cX12_worked 178 = .ok (.invokestatic 218, 3) := by decide +kernel
theorem dX12_worked_181 : decode cX12_worked 181 = .ok (.iastore, 1) := by decide +kernel
theorem dX12_worked_182 : decode cX12_worked 182 = .ok (.iinc 5 1, 3) := by decide +kernel
theorem dX12_worked_185 : decode cX12_worked 185 = .ok (.goto (-173), 3) := by decide +kernel
theorem dX12_worked_188 : decode cX12_worked 188 = .ok (.aload_n 0, 1) := by decide +kernel
theorem dX12_worked_189 : decode cX12_worked 189 = .ok (.getfield 60, 3) := by decide +kernel
theorem dX12_worked_192 : decode cX12_worked 192 = .ok (.iconst 0, 1) := by decide +kernel
theorem dX12_worked_193 : decode cX12_worked 193 = .ok (.iaload, 1) := by decide +kernel
theorem dX12_worked_194 : decode cX12_worked 194 = .ok (.ireturn, 1) := by decide +kernel
theorem dX12_gives_0 : decode cX12_gives 0 = .ok (.iconst 0, 1) := by decide +kernel
theorem dX12_gives_1 : decode cX12_gives 1 = .ok (.istore_n 2, 1) := by decide +kernel
theorem dX12_gives_2 : decode cX12_gives 2 = .ok (.bipush 61, 2) := by decide +kernel
theorem dX12_gives_4 : decode cX12_gives 4 = .ok (.iload_n 1, 1) := by decide +kernel
theorem dX12_gives_5 : decode cX12_gives 5 = .ok (.imul, 1) := by decide +kernel
theorem dX12_gives_6 : decode cX12_gives 6 = .ok (.istore_n 3, 1) := by decide +kernel
theorem dX12_gives_7 : decode cX12_gives 7 = .ok (.iload_n 3, 1) := by decide +kernel
theorem dX12_gives_8 : decode cX12_gives 8 = .ok (.bipush 61, 2) := by decide +kernel
theorem dX12_gives_10 : decode cX12_gives 10 = .ok (.iload_n 1, 1) := by decide +kernel
theorem dX12_gives_11 : decode cX12_gives 11 = .ok (.imul, 1) := by decide +kernel
theorem dX12_gives_12 : decode cX12_gives 12 = .ok (.aload_n 0, 1) := by decide +kernel
theorem dX12_gives_13 : decode cX12_gives 13 = .ok (.getfield 47, 3) := by decide +kernel
theorem dX12_gives_16 : decode cX12_gives 16 = .ok (.iload_n 1, 1) := by decide +kernel
theorem dX12_gives_17 : decode cX12_gives 17 = .ok (.iaload, 1) := by decide +kernel
theorem dX12_gives_18 : decode cX12_gives 18 = .ok (.iadd, 1) := by decide +kernel
theorem dX12_gives_19 : decode cX12_gives 19 = .ok (.if_icmp .ge 59, 3) := by decide +kernel
theorem dX12_gives_22 : decode cX12_gives 22 = .ok (.aload_n 0, 1) := by decide +kernel
theorem dX12_gives_23 : decode cX12_gives 23 = .ok (.getfield 50, 3) := by decide +kernel
theorem dX12_gives_26 : decode cX12_gives 26 = .ok (.iload_n 3, 1) := by decide +kernel
theorem dX12_gives_27 : decode cX12_gives 27 = .ok (.saload, 1) := by decide +kernel
theorem dX12_gives_28 : decode cX12_gives 28 = .ok (.iload_n 2, 1) := by decide +kernel
theorem dX12_gives_29 : decode cX12_gives 29 = .ok (.if_icmp .eq 18, 3) := by decide +kernel
theorem dX12_gives_32 : decode cX12_gives 32 = .ok (.aload_n 0, 1) := by decide +kernel
theorem dX12_gives_33 : decode cX12_gives 33 = .ok (.iload_n 1, 1) := by decide +kernel
theorem dX12_gives_34 : decode cX12_gives 34 = .ok (.iload_n 2, 1) := by decide +kernel
theorem dX12_gives_35 : decode cX12_gives 35 = .ok (.aload_n 0, 1) := by decide +kernel
theorem dX12_gives_36 : decode cX12_gives 36 = .ok (.getfield 50, 3) := by decide +kernel
theorem dX12_gives_39 : decode cX12_gives 39 = .ok (.iload_n 3, 1) := by decide +kernel
theorem dX12_gives_40 : decode cX12_gives 40 = .ok (.saload, 1) := by decide +kernel
theorem dX12_gives_41 : decode cX12_gives 41 = .ok (.invokevirtual 221, 3) := by decide +kernel
theorem dX12_gives_44 : decode cX12_gives 44 = .ok (.ifCond .eq 21, 3) := by decide +kernel
theorem dX12_gives_47 : decode cX12_gives 47 = .ok (.aload_n 0, 1) := by decide +kernel
theorem dX12_gives_48 : decode cX12_gives 48 = .ok (.iload_n 1, 1) := by decide +kernel
theorem dX12_gives_49 : decode cX12_gives 49 = .ok (.aload_n 0, 1) := by decide +kernel
theorem dX12_gives_50 : decode cX12_gives 50 = .ok (.getfield 50, 3) := by decide +kernel
theorem dX12_gives_53 : decode cX12_gives 53 = .ok (.iload_n 3, 1) := by decide +kernel
theorem dX12_gives_54 : decode cX12_gives 54 = .ok (.saload, 1) := by decide +kernel
theorem dX12_gives_55 : decode cX12_gives 55 = .ok (.aload_n 0, 1) := by decide +kernel
theorem dX12_gives_56 : decode cX12_gives 56 = .ok (.getfield 54, 3) := by decide +kernel
theorem dX12_gives_59 : decode cX12_gives 59 = .ok (.iload_n 3, 1) := by decide +kernel
theorem dX12_gives_60 : decode cX12_gives 60 = .ok (.saload, 1) := by decide +kernel
theorem dX12_gives_61 : decode cX12_gives 61 = .ok (.invokevirtual 221, 3) := by decide +kernel
theorem dX12_gives_64 : decode cX12_gives 64 = .ok (.ireturn, 1) := by decide +kernel
theorem dX12_gives_65 : decode cX12_gives 65 = .ok (.aload_n 0, 1) := by decide +kernel
theorem dX12_gives_66 : decode cX12_gives 66 = .ok (.getfield 54, 3) := by decide +kernel
theorem dX12_gives_69 : decode cX12_gives 69 = .ok (.iload_n 3, 1) := by decide +kernel
theorem dX12_gives_70 : decode cX12_gives 70 = .ok (.saload, 1) := by decide +kernel
theorem dX12_gives_71 : decode cX12_gives 71 = .ok (.istore_n 2, 1) := by decide +kernel
theorem dX12_gives_72 : decode cX12_gives 72 = .ok (.iinc 3 1, 3) := by decide +kernel
theorem dX12_gives_75 : decode cX12_gives 75 = .ok (.goto (-68), 3) := by decide +kernel
theorem dX12_gives_78 : decode cX12_gives 78 = .ok (.iconst 0, 1) := by decide +kernel
theorem dX12_gives_79 : decode cX12_gives 79 = .ok (.ireturn, 1) := by decide +kernel
theorem dX12_law_0 : decode cX12_law 0 = .ok (.iload_n 1, 1) := by decide +kernel
theorem dX12_law_1 : decode cX12_law 1 = .ok (.iconst 0, 1) := by decide +kernel
theorem dX12_law_2 : decode cX12_law 2 = .ok (.iconst 1, 1) := by decide +kernel
theorem dX12_law_3 : decode cX12_law 3 = .ok (.invokestatic 114, 3) := by decide +kernel
theorem dX12_law_6 : decode cX12_law 6 = .ok (.ifCond .ne 5, 3) := by decide +kernel
theorem dX12_law_9 : decode cX12_law 9 = .ok (.iconst (-1), 1) := by decide +kernel
theorem dX12_law_10 : decode cX12_law 10 = .ok (.ireturn, 1) := by decide +kernel
theorem dX12_law_11 : decode cX12_law 11 = .ok (.aload_n 0, 1) := by decide +kernel
theorem dX12_law_12 : decode cX12_law 12 = .ok (.iload_n 1, 1) := by decide +kernel
theorem dX12_law_13 : decode cX12_law 13 = .ok (.invokevirtual 224, 3) := by decide +kernel
theorem dX12_law_16 : decode cX12_law 16 = .ok (.istore_n 2, 1) := by decide +kernel
theorem dX12_law_17 : decode cX12_law 17 = .ok (.iload_n 2, 1) := by decide +kernel
theorem dX12_law_18 : decode cX12_law 18 = .ok (.ifCond .lt 8, 3) := by decide +kernel
theorem dX12_law_21 : decode cX12_law 21 = .ok (.bipush (-100), 2) := by decide +kernel
theorem dX12_law_23 : decode cX12_law 23 = .ok (.iload_n 2, 1) := by decide +kernel
theorem dX12_law_24 : decode cX12_law 24 = .ok (.isub, 1) := by decide +kernel
theorem dX12_law_25 : decode cX12_law 25 = .ok (.ireturn, 1) := by decide +kernel
theorem dX12_law_26 : decode cX12_law 26 = .ok (.aload_n 0, 1) := by decide +kernel
theorem dX12_law_27 : decode cX12_law 27 = .ok (.getfield 63, 3) := by decide +kernel
theorem dX12_law_30 : decode cX12_law 30 = .ok (.iload_n 1, 1) := by decide +kernel
theorem dX12_law_31 : decode cX12_law 31 = .ok (.iconst 1, 1) := by decide +kernel
theorem dX12_law_32 : decode cX12_law 32 = .ok (.bastore, 1) := by decide +kernel
theorem dX12_law_33 : decode cX12_law 33 = .ok (.iconst 1, 1) := by decide +kernel
theorem dX12_law_34 : decode cX12_law 34 = .ok (.ireturn, 1) := by decide +kernel
theorem dX12_mayGo_0 : decode cX12_mayGo 0 = .ok (.aload_n 0, 1) := by decide +kernel
theorem dX12_mayGo_1 : decode cX12_mayGo 1 = .ok (.getfield 63, 3) := by decide +kernel
theorem dX12_mayGo_4 : decode cX12_mayGo 4 = .ok (.iconst 0, 1) := by decide +kernel
theorem dX12_mayGo_5 : decode cX12_mayGo 5 = .ok (.baload, 1) := by decide +kernel
theorem dX12_mayGo_6 : decode cX12_mayGo 6 = .ok (.ifCond .ne 5, 3) := by decide +kernel
theorem dX12_mayGo_9 : decode cX12_mayGo 9 = .ok (.iconst 1, 1) := by decide +kernel
theorem dX12_mayGo_10 : decode cX12_mayGo 10 = .ok (.ireturn, 1) := by decide +kernel
theorem dX12_mayGo_11 : decode cX12_mayGo 11 = .ok (.aload_n 0, 1) := by decide +kernel
theorem dX12_mayGo_12 : decode cX12_mayGo 12 = .ok (.getfield 57, 3) := by decide +kernel
theorem dX12_mayGo_15 : decode cX12_mayGo 15 = .ok (.iconst 0, 1) := by decide +kernel
theorem dX12_mayGo_16 : decode cX12_mayGo 16 = .ok (.iload 4, 2) := by decide +kernel
theorem dX12_mayGo_18 : decode cX12_mayGo 18 = .ok (.iastore, 1) := by decide +kernel
theorem dX12_mayGo_19 : decode cX12_mayGo 19 = .ok (.aload_n 0, 1) := by decide +kernel
theorem dX12_mayGo_20 : decode cX12_mayGo 20 = .ok (.getfield 57, 3) := by decide +kernel
theorem dX12_mayGo_23 : decode cX12_mayGo 23 = .ok (.iconst 1, 1) := by decide +kernel
theorem dX12_mayGo_24 : decode cX12_mayGo 24 = .ok (.iload_n 2, 1) := by decide +kernel
theorem dX12_mayGo_25 : decode cX12_mayGo 25 = .ok (.iastore, 1) := by decide +kernel
theorem dX12_mayGo_26 : decode cX12_mayGo 26 = .ok (.aload_n 0, 1) := by decide +kernel
theorem dX12_mayGo_27 : decode cX12_mayGo 27 = .ok (.getfield 57, 3) := by decide +kernel
theorem dX12_mayGo_30 : decode cX12_mayGo 30 = .ok (.iconst 2, 1) := by decide +kernel
theorem dX12_mayGo_31 : decode cX12_mayGo 31 = .ok (.iload_n 1, 1) := by decide +kernel
theorem dX12_mayGo_32 : decode cX12_mayGo 32 = .ok (.iastore, 1) := by decide +kernel
theorem dX12_mayGo_33 : decode cX12_mayGo 33 = .ok (.aload_n 0, 1) := by decide +kernel
theorem dX12_mayGo_34 : decode cX12_mayGo 34 = .ok (.getfield 57, 3) := by decide +kernel
theorem dX12_mayGo_37 : decode cX12_mayGo 37 = .ok (.iconst 3, 1) := by decide +kernel
theorem dX12_mayGo_38 : decode cX12_mayGo 38 = .ok (.aload_n 0, 1) := by decide +kernel
theorem dX12_mayGo_39 : decode cX12_mayGo 39 = .ok (.getfield 19, 3) := by decide +kernel
theorem dX12_mayGo_42 : decode cX12_mayGo 42 = .ok (.iload_n 1, 1) := by decide +kernel
theorem dX12_mayGo_43 : decode cX12_mayGo 43 = .ok (.iaload, 1) := by decide +kernel
theorem dX12_mayGo_44 : decode cX12_mayGo 44 = .ok (.iastore, 1) := by decide +kernel
theorem dX12_mayGo_45 : decode cX12_mayGo 45 = .ok (.aload_n 0, 1) := by decide +kernel
theorem dX12_mayGo_46 : decode cX12_mayGo 46 = .ok (.getfield 57, 3) := by decide +kernel
theorem dX12_mayGo_49 : decode cX12_mayGo 49 = .ok (.iconst 4, 1) := by decide +kernel
theorem dX12_mayGo_50 : decode cX12_mayGo 50 = .ok (.iload_n 3, 1) := by decide +kernel
theorem dX12_mayGo_51 : decode cX12_mayGo 51 = .ok (.iastore, 1) := by decide +kernel
theorem dX12_mayGo_52 : decode cX12_mayGo 52 = .ok (.aload_n 0, 1) := by decide +kernel
theorem dX12_mayGo_53 : decode cX12_mayGo 53 = .ok (.getfield 57, 3) := by decide +kernel
theorem dX12_mayGo_56 : decode cX12_mayGo 56 = .ok (.iconst 5, 1) := by decide +kernel
theorem dX12_mayGo_57 : decode cX12_mayGo 57 = .ok (.iconst 0, 1) := by decide +kernel
theorem dX12_mayGo_58 : decode cX12_mayGo 58 = .ok (.iastore, 1) := by decide +kernel
theorem dX12_mayGo_59 : decode cX12_mayGo 59 = .ok (.aload_n 0, 1) := by decide +kernel
theorem dX12_mayGo_60 : decode cX12_mayGo 60 = .ok (.iconst 0, 1) := by decide +kernel
theorem dX12_mayGo_61 : decode cX12_mayGo 61 = .ok (.invokevirtual 227, 3) := by decide +kernel
theorem dX12_mayGo_64 : decode cX12_mayGo 64 = .ok (.ifCond .eq 7, 3) := by decide +kernel
theorem dX12_mayGo_67 : decode cX12_mayGo 67 = .ok (.iconst 1, 1) := by decide +kernel
theorem dX12_mayGo_68 : decode cX12_mayGo 68 = .ok (.goto 4, 3) := by decide +kernel
theorem dX12_mayGo_71 : decode cX12_mayGo 71 = .ok (.iconst 0, 1) := by decide +kernel
theorem dX12_mayGo_72 : decode cX12_mayGo 72 = .ok (.ireturn, 1) := by decide +kernel
theorem dX12_comesTo_0 : decode cX12_comesTo 0 = .ok (.aload_n 0, 1) := by decide +kernel
theorem dX12_comesTo_1 : decode cX12_comesTo 1 = .ok (.getfield 63, 3) := by decide +kernel
theorem dX12_comesTo_4 : decode cX12_comesTo 4 = .ok (.iconst 1, 1) := by decide +kernel
theorem dX12_comesTo_5 : decode cX12_comesTo 5 = .ok (.baload, 1) := by decide +kernel
theorem dX12_comesTo_6 : decode cX12_comesTo 6 = .ok (.ifCond .ne 6, 3) := by decide +kernel
theorem dX12_comesTo_9 : decode cX12_comesTo 9 = .ok (.bipush 6, 2) := by decide +kernel
theorem dX12_comesTo_11 : decode cX12_comesTo 11 = .ok (.ireturn, 1) := by decide +kernel
theorem dX12_comesTo_12 : decode cX12_comesTo 12 = .ok (.aload_n 0, 1) := by decide +kernel
theorem dX12_comesTo_13 : decode cX12_comesTo 13 = .ok (.getfield 57, 3) := by decide +kernel
theorem dX12_comesTo_16 : decode cX12_comesTo 16 = .ok (.iconst 0, 1) := by decide +kernel
theorem dX12_comesTo_17 : decode cX12_comesTo 17 = .ok (.iload_n 3, 1) := by decide +kernel
theorem dX12_comesTo_18 : decode cX12_comesTo 18 = .ok (.iastore, 1) := by decide +kernel
theorem dX12_comesTo_19 : decode cX12_comesTo 19 = .ok (.aload_n 0, 1) := by decide +kernel
theorem dX12_comesTo_20 : decode cX12_comesTo 20 = .ok (.getfield 57, 3) := by decide +kernel
theorem dX12_comesTo_23 : decode cX12_comesTo 23 = .ok (.iconst 1, 1) := by decide +kernel
theorem dX12_comesTo_24 : decode cX12_comesTo 24 = .ok (.iload_n 1, 1) := by decide +kernel
theorem dX12_comesTo_25 : decode cX12_comesTo 25 = .ok (.iastore, 1) := by decide +kernel
theorem dX12_comesTo_26 : decode cX12_comesTo 26 = .ok (.aload_n 0, 1) := by decide +kernel
theorem dX12_comesTo_27 : decode cX12_comesTo 27 = .ok (.getfield 57, 3) := by decide +kernel
theorem dX12_comesTo_30 : decode cX12_comesTo 30 = .ok (.iconst 2, 1) := by decide +kernel
theorem dX12_comesTo_31 : decode cX12_comesTo 31 = .ok (.iconst 0, 1) := by decide +kernel
theorem dX12_comesTo_32 : decode cX12_comesTo 32 = .ok (.iastore, 1) := by decide +kernel
theorem dX12_comesTo_33 : decode cX12_comesTo 33 = .ok (.aload_n 0, 1) := by decide +kernel
theorem dX12_comesTo_34 : decode cX12_comesTo 34 = .ok (.getfield 57, 3) := by decide +kernel
theorem dX12_comesTo_37 : decode cX12_comesTo 37 = .ok (.iconst 3, 1) := by decide +kernel
theorem dX12_comesTo_38 : decode cX12_comesTo 38 = .ok (.iconst 0, 1) := by decide +kernel
theorem dX12_comesTo_39 : decode cX12_comesTo 39 = .ok (.iastore, 1) := by decide +kernel
theorem dX12_comesTo_40 : decode cX12_comesTo 40 = .ok (.aload_n 0, 1) := by decide +kernel
theorem dX12_comesTo_41 : decode cX12_comesTo 41 = .ok (.getfield 57, 3) := by decide +kernel
theorem dX12_comesTo_44 : decode cX12_comesTo 44 = .ok (.iconst 4, 1) := by decide +kernel
theorem dX12_comesTo_45 : decode cX12_comesTo 45 = .ok (.iconst 0, 1) := by decide +kernel
theorem dX12_comesTo_46 : decode cX12_comesTo 46 = .ok (.iastore, 1) := by decide +kernel
theorem dX12_comesTo_47 : decode cX12_comesTo 47 = .ok (.aload_n 0, 1) := by decide +kernel
theorem dX12_comesTo_48 : decode cX12_comesTo 48 = .ok (.getfield 57, 3) := by decide +kernel
theorem dX12_comesTo_51 : decode cX12_comesTo 51 = .ok (.iconst 5, 1) := by decide +kernel
theorem dX12_comesTo_52 : decode cX12_comesTo 52 = .ok (.iload_n 2, 1) := by decide +kernel
theorem dX12_comesTo_53 : decode cX12_comesTo 53 = .ok (.iastore, 1) := by decide +kernel
theorem dX12_comesTo_54 : decode cX12_comesTo 54 = .ok (.aload_n 0, 1) := by decide +kernel
theorem dX12_comesTo_55 : decode cX12_comesTo 55 = .ok (.iconst 1, 1) := by decide +kernel
theorem dX12_comesTo_56 : decode cX12_comesTo 56 = .ok (.invokevirtual 227, 3) := by decide +kernel
theorem dX12_comesTo_59 : decode cX12_comesTo 59 = .ok (.istore 4, 2) := by decide +kernel
theorem dX12_comesTo_61 : decode cX12_comesTo 61 = .ok (.iload 4, 2) := by decide +kernel
theorem dX12_comesTo_63 : decode cX12_comesTo 63 = .ok (.ifCond .ge 7, 3) := by decide +kernel
theorem dX12_comesTo_66 : decode cX12_comesTo 66 = .ok (.iconst 0, 1) := by decide +kernel
theorem dX12_comesTo_67 : decode cX12_comesTo 67 = .ok (.goto 17, 3) := by decide +kernel
theorem dX12_comesTo_70 : decode cX12_comesTo 70 = .ok (.iload 4, 2) := by decide +kernel
theorem dX12_comesTo_72 : decode cX12_comesTo 72 = .ok (.bipush 12, 2) := by decide +kernel
theorem dX12_comesTo_74 : decode cX12_comesTo 74 = .ok (.if_icmp .le 8, 3) := by decide +kernel
theorem dX12_comesTo_77 : decode cX12_comesTo 77 = .ok (.bipush 12, 2) := by decide +kernel
theorem dX12_comesTo_79 : decode cX12_comesTo 79 = .ok (.goto 5, 3) := by decide +kernel
theorem dX12_comesTo_82 : decode cX12_comesTo 82 = .ok (.iload 4, 2) := by decide +kernel
theorem dX12_comesTo_84 : decode cX12_comesTo 84 = .ok (.ireturn, 1) := by decide +kernel
theorem dX12_isGateWay_0 : decode cX12_isGateWay 0 = .ok (.iload_n 1, 1) := by decide +kernel
theorem dX12_isGateWay_1 : decode cX12_isGateWay 1 = .ok (.ifCond .lt 26, 3) := by decide +kernel
theorem dX12_isGateWay_4 : decode cX12_isGateWay 4 = .ok (.aload_n 0, 1) := by decide +kernel
theorem dX12_isGateWay_5 : decode cX12_isGateWay 5 = .ok (.iload_n 1, 1) := by decide +kernel
theorem dX12_isGateWay_6 : decode cX12_isGateWay 6 = .ok (.bipush 10, 2) := by decide +kernel
theorem dX12_isGateWay_8 : decode cX12_isGateWay 8 = .ok (.idiv, 1) := by decide +kernel
theorem dX12_isGateWay_9 : decode cX12_isGateWay 9 = .ok (.invokevirtual 157, 3) := by decide +kernel
theorem dX12_isGateWay_12 : decode cX12_isGateWay 12 = .ok (.ifCond .eq 15, 3) := by decide +kernel
theorem dX12_isGateWay_15 : decode cX12_isGateWay 15 = .ok (.iload_n 1, 1) := by decide +kernel
theorem dX12_isGateWay_16 : decode cX12_isGateWay 16 = .ok (.bipush 10, 2) := by decide +kernel
theorem dX12_isGateWay_18 : decode cX12_isGateWay 18 = .ok (.irem, 1) := by decide +kernel
theorem dX12_isGateWay_19 : decode cX12_isGateWay 19 = .ok (.iconst 1, 1) := by decide +kernel
theorem dX12_isGateWay_20 : decode cX12_isGateWay 20 = .ok (.if_icmp .gt 7, 3) := by decide +kernel
theorem dX12_isGateWay_23 : decode cX12_isGateWay 23 = .ok (.iconst 1, 1) := by decide +kernel
theorem dX12_isGateWay_24 : decode cX12_isGateWay 24 = .ok (.goto 4, 3) := by decide +kernel
theorem dX12_isGateWay_27 : decode cX12_isGateWay 27 = .ok (.iconst 0, 1) := by decide +kernel
theorem dX12_isGateWay_28 : decode cX12_isGateWay 28 = .ok (.ireturn, 1) := by decide +kernel
theorem dX12_may_0 : decode cX12_may 0 = .ok (.aload_n 0, 1) := by decide +kernel
theorem dX12_may_1 : decode cX12_may 1 = .ok (.iload_n 1, 1) := by decide +kernel
theorem dX12_may_2 : decode cX12_may 2 = .ok (.invokevirtual 151, 3) := by decide +kernel
theorem dX12_may_5 : decode cX12_may 5 = .ok (.ifCond .eq 18, 3) := by decide +kernel
theorem dX12_may_8 : decode cX12_may 8 = .ok (.aload_n 0, 1) := by decide +kernel
theorem dX12_may_9 : decode cX12_may 9 = .ok (.iload_n 2, 1) := by decide +kernel
theorem dX12_may_10 : decode cX12_may 10 = .ok (.invokevirtual 230, 3) := by decide +kernel
theorem dX12_may_13 : decode cX12_may 13 = .ok (.ifCond .eq 10, 3) := by decide +kernel
theorem dX12_may_16 : decode cX12_may 16 = .ok (.iload_n 3, 1) := by decide +kernel
theorem dX12_may_17 : decode cX12_may 17 = .ok (.invokestatic 121, 3) := by decide +kernel
theorem dX12_may_20 : decode cX12_may 20 = .ok (.ifCond .ne 5, 3) := by decide +kernel
theorem dX12_may_23 : decode cX12_may 23 = .ok (.iconst (-1), 1) := by decide +kernel
theorem dX12_may_24 : decode cX12_may 24 = .ok (.ireturn, 1) := by decide +kernel
theorem dX12_may_25 : decode cX12_may 25 = .ok (.aload_n 0, 1) := by decide +kernel
theorem dX12_may_26 : decode cX12_may 26 = .ok (.iload_n 1, 1) := by decide +kernel
theorem dX12_may_27 : decode cX12_may 27 = .ok (.iload_n 2, 1) := by decide +kernel
theorem dX12_may_28 : decode cX12_may 28 = .ok (.bipush 10, 2) := by decide +kernel
theorem dX12_may_30 : decode cX12_may 30 = .ok (.idiv, 1) := by decide +kernel
theorem dX12_may_31 : decode cX12_may 31 = .ok (.iload_n 2, 1) := by decide +kernel
theorem dX12_may_32 : decode cX12_may 32 = .ok (.bipush 10, 2) := by decide +kernel
theorem dX12_may_34 : decode cX12_may 34 = .ok (.irem, 1) := by decide +kernel
theorem dX12_may_35 : decode cX12_may 35 = .ok (.iload_n 3, 1) := by decide +kernel
theorem dX12_may_36 : decode cX12_may 36 = .ok (.invokevirtual 233, 3) := by decide +kernel
theorem dX12_may_39 : decode cX12_may 39 = .ok (.ifCond .eq 7, 3) := by decide +kernel
theorem dX12_may_42 : decode cX12_may 42 = .ok (.iconst 1, 1) := by decide +kernel
theorem dX12_may_43 : decode cX12_may 43 = .ok (.goto 4, 3) := by decide +kernel
theorem dX12_may_46 : decode cX12_may 46 = .ok (.iconst 0, 1) := by decide +kernel
theorem dX12_may_47 : decode cX12_may 47 = .ok (.ireturn, 1) := by decide +kernel
theorem dX12_comes_0 : decode cX12_comes 0 = .ok (.iload_n 1, 1) := by decide +kernel
theorem dX12_comes_1 : decode cX12_comes 1 = .ok (.ifCond .lt 37, 3) := by decide +kernel
theorem dX12_comes_4 : decode cX12_comes 4 = .ok (.aload_n 0, 1) := by decide +kernel
theorem dX12_comes_5 : decode cX12_comes 5 = .ok (.iload_n 1, 1) := by decide +kernel
theorem dX12_comes_6 : decode cX12_comes 6 = .ok (.bipush 10, 2) := by decide +kernel
theorem dX12_comes_8 : decode cX12_comes 8 = .ok (.idiv, 1) := by decide +kernel
theorem dX12_comes_9 : decode cX12_comes 9 = .ok (.invokevirtual 157, 3) := by decide +kernel
theorem dX12_comes_12 : decode cX12_comes 12 = .ok (.ifCond .eq 26, 3) := by decide +kernel
theorem dX12_comes_15 : decode cX12_comes 15 = .ok (.iload_n 2, 1) := by decide +kernel
theorem dX12_comes_16 : decode cX12_comes 16 = .ok (.invokestatic 121, 3) := by decide +kernel
theorem dX12_comes_19 : decode cX12_comes 19 = .ok (.ifCond .eq 19, 3) := by decide +kernel
theorem dX12_comes_22 : decode cX12_comes 22 = .ok (.aload_n 0, 1) := by decide +kernel
theorem dX12_comes_23 : decode cX12_comes 23 = .ok (.iload_n 1, 1) := by decide +kernel
theorem dX12_comes_24 : decode cX12_comes 24 = .ok (.bipush 10, 2) := by decide +kernel
theorem dX12_comes_26 : decode cX12_comes 26 = .ok (.idiv, 1) := by decide +kernel
theorem dX12_comes_27 : decode cX12_comes 27 = .ok (.iload_n 1, 1) := by decide +kernel
theorem dX12_comes_28 : decode cX12_comes 28 = .ok (.bipush 10, 2) := by decide +kernel
theorem dX12_comes_30 : decode cX12_comes 30 = .ok (.irem, 1) := by decide +kernel
theorem dX12_comes_31 : decode cX12_comes 31 = .ok (.iload_n 2, 1) := by decide +kernel
theorem dX12_comes_32 : decode cX12_comes 32 = .ok (.invokevirtual 237, 3) := by decide +kernel
theorem dX12_comes_35 : decode cX12_comes 35 = .ok (.goto 4, 3) := by decide +kernel
theorem dX12_comes_38 : decode cX12_comes 38 = .ok (.iconst (-1), 1) := by decide +kernel
theorem dX12_comes_39 : decode cX12_comes 39 = .ok (.ireturn, 1) := by decide +kernel
theorem dX12_waitsIn_0 : decode cX12_waitsIn 0 = .ok (.iload_n 3, 1) := by decide +kernel
theorem dX12_waitsIn_1 : decode cX12_waitsIn 1 = .ok (.iload_n 1, 1) := by decide +kernel
theorem dX12_waitsIn_2 : decode cX12_waitsIn 2 = .ok (.ishr, 1) := by decide +kernel
theorem dX12_waitsIn_3 : decode cX12_waitsIn 3 = .ok (.iconst 1, 1) := by decide +kernel
theorem dX12_waitsIn_4 : decode cX12_waitsIn 4 = .ok (.iand, 1) := by decide +kernel
theorem dX12_waitsIn_5 : decode cX12_waitsIn 5 = .ok (.iconst 1, 1) := by decide +kernel
theorem dX12_waitsIn_6 : decode cX12_waitsIn 6 = .ok (.if_icmp .ne 19, 3) := by decide +kernel
theorem dX12_waitsIn_9 : decode cX12_waitsIn 9 = .ok (.iload_n 2, 1) := by decide +kernel
theorem dX12_waitsIn_10 : decode cX12_waitsIn 10 = .ok (.aload_n 0, 1) := by decide +kernel
theorem dX12_waitsIn_11 : decode cX12_waitsIn 11 = .ok (.getfield 16, 3) := by decide +kernel
theorem dX12_waitsIn_14 : decode cX12_waitsIn 14 = .ok (.iload_n 1, 1) := by decide +kernel
theorem dX12_waitsIn_15 : decode cX12_waitsIn 15 = .ok (.iaload, 1) := by decide +kernel
theorem dX12_waitsIn_16 : decode cX12_waitsIn 16 = .ok (.if_icmp .lt 7, 3) := by decide +kernel
theorem dX12_waitsIn_19 : decode cX12_waitsIn 19 = .ok (.iconst 1, 1) := by decide +kernel
theorem dX12_waitsIn_20 : decode cX12_waitsIn 20 = .ok (.goto 4, 3) := by decide +kernel
theorem dX12_waitsIn_23 : decode cX12_waitsIn 23 = .ok (.iconst 0, 1) := by decide +kernel
theorem dX12_waitsIn_24 : decode cX12_waitsIn 24 = .ok (.ireturn, 1) := by decide +kernel
theorem dX12_waitsIn_25 : decode cX12_waitsIn 25 = .ok (.iload 4, 2) := by decide +kernel
theorem dX12_waitsIn_27 : decode cX12_waitsIn 27 = .ok (.iload_n 1, 1) := by decide +kernel
theorem dX12_waitsIn_28 : decode cX12_waitsIn 28 = .ok (.ishr, 1) := by decide +kernel
theorem dX12_waitsIn_29 : decode cX12_waitsIn 29 = .ok (.iconst 1, 1) := by decide +kernel
theorem dX12_waitsIn_30 : decode cX12_waitsIn 30 = .ok (.iand, 1) := by decide +kernel
theorem dX12_waitsIn_31 : decode cX12_waitsIn 31 = .ok (.ifCond .ne 17, 3) := by decide +kernel
theorem dX12_waitsIn_34 : decode cX12_waitsIn 34 = .ok (.iload_n 2, 1) := by decide +kernel
theorem dX12_waitsIn_35 : decode cX12_waitsIn 35 = .ok (.aload_n 0, 1) := by decide +kernel
theorem dX12_waitsIn_36 : decode cX12_waitsIn 36 = .ok (.getfield 13, 3) := by decide +kernel
theorem dX12_waitsIn_39 : decode cX12_waitsIn 39 = .ok (.iload_n 1, 1) := by decide +kernel
theorem dX12_waitsIn_40 : decode cX12_waitsIn 40 = .ok (.iaload, 1) := by decide +kernel
theorem dX12_waitsIn_41 : decode cX12_waitsIn 41 = .ok (.if_icmp .lt 7, 3) := by decide +kernel
theorem dX12_waitsIn_44 : decode cX12_waitsIn 44 = .ok (.iconst 1, 1) := by decide +kernel
theorem dX12_waitsIn_45 : decode cX12_waitsIn 45 = .ok (.goto 4, 3) := by decide +kernel
theorem dX12_waitsIn_48 : decode cX12_waitsIn 48 = .ok (.iconst 0, 1) := by decide +kernel
theorem dX12_waitsIn_49 : decode cX12_waitsIn 49 = .ok (.ireturn, 1) := by decide +kernel
theorem dX12_of_0 : decode cX12_of 0 = .ok (.iload_n 2, 1) := by decide +kernel
theorem dX12_of_1 : decode cX12_of 1 = .ok (.bipush 10, 2) := by decide +kernel
theorem dX12_of_3 : decode cX12_of 3 = .ok (.if_icmp .ne 22, 3) := by decide +kernel
theorem dX12_of_6 : decode cX12_of 6 = .ok (.aload_n 0, 1) := by decide +kernel
theorem dX12_of_7 : decode cX12_of 7 = .ok (.iload_n 1, 1) := by decide +kernel
theorem dX12_of_8 : decode cX12_of 8 = .ok (.invokevirtual 157, 3) := by decide +kernel
theorem dX12_of_11 : decode cX12_of 11 = .ok (.ifCond .eq 12, 3) := by decide +kernel
theorem dX12_of_14 : decode cX12_of 14 = .ok (.aload_n 0, 1) := by decide +kernel
theorem dX12_of_15 : decode cX12_of 15 = .ok (.getfield 7, 3) := by decide +kernel
theorem dX12_of_18 : decode cX12_of 18 = .ok (.iload_n 1, 1) := by decide +kernel
theorem dX12_of_19 : decode cX12_of 19 = .ok (.iaload, 1) := by decide +kernel
theorem dX12_of_20 : decode cX12_of 20 = .ok (.goto 4, 3) := by decide +kernel
theorem dX12_of_23 : decode cX12_of 23 = .ok (.iconst (-1), 1) := by decide +kernel
theorem dX12_of_24 : decode cX12_of 24 = .ok (.ireturn, 1) := by decide +kernel
theorem dX12_of_25 : decode cX12_of 25 = .ok (.aload_n 0, 1) := by decide +kernel
theorem dX12_of_26 : decode cX12_of 26 = .ok (.iload_n 1, 1) := by decide +kernel
theorem dX12_of_27 : decode cX12_of 27 = .ok (.invokevirtual 151, 3) := by decide +kernel
theorem dX12_of_30 : decode cX12_of 30 = .ok (.ifCond .ne 5, 3) := by decide +kernel
theorem dX12_of_33 : decode cX12_of 33 = .ok (.iconst (-1), 1) := by decide +kernel
theorem dX12_of_34 : decode cX12_of 34 = .ok (.ireturn, 1) := by decide +kernel
theorem dX12_of_35 : decode cX12_of 35 = .ok (.iload_n 2, 1) := by decide +kernel
theorem dX12_of_36 : decode cX12_of 36 = .ok (.tableswitch 133 0 6 #[44, 51, 58, 65, 82, 91, 126], 44) := by decide +kernel
theorem dX12_of_80 : decode cX12_of 80 = .ok (.aload_n 0, 1) := by decide +kernel
theorem dX12_of_81 : decode cX12_of 81 = .ok (.getfield 13, 3) := by decide +kernel
theorem dX12_of_84 : decode cX12_of 84 = .ok (.iload_n 1, 1) := by decide +kernel
theorem dX12_of_85 : decode cX12_of 85 = .ok (.iaload, 1) := by decide +kernel
theorem dX12_of_86 : decode cX12_of 86 = .ok (.ireturn, 1) := by decide +kernel
theorem dX12_of_87 : decode cX12_of 87 = .ok (.aload_n 0, 1) := by decide +kernel
theorem dX12_of_88 : decode cX12_of 88 = .ok (.getfield 16, 3) := by decide +kernel
theorem dX12_of_91 : decode cX12_of 91 = .ok (.iload_n 1, 1) := by decide +kernel
theorem dX12_of_92 : decode cX12_of 92 = .ok (.iaload, 1) := by decide +kernel
theorem dX12_of_93 : decode cX12_of 93 = .ok (.ireturn, 1) := by decide +kernel
theorem dX12_of_94 : decode cX12_of 94 = .ok (.aload_n 0, 1) := by decide +kernel
theorem dX12_of_95 : decode cX12_of 95 = .ok (.getfield 19, 3) := by decide +kernel
theorem dX12_of_98 : decode cX12_of 98 = .ok (.iload_n 1, 1) := by decide +kernel
theorem dX12_of_99 : decode cX12_of 99 = .ok (.iaload, 1) := by decide +kernel
theorem dX12_of_100 : decode cX12_of 100 = .ok (.ireturn, 1) := by decide +kernel
theorem dX12_of_101 : decode cX12_of 101 = .ok (.aload_n 0, 1) := by decide +kernel
theorem dX12_of_102 : decode cX12_of 102 = .ok (.getfield 240, 3) := by decide +kernel
theorem dX12_of_105 : decode cX12_of 105 = .ok (.iload_n 1, 1) := by decide +kernel
theorem dX12_of_106 : decode cX12_of 106 = .ok (.ishr, 1) := by decide +kernel
theorem dX12_of_107 : decode cX12_of 107 = .ok (.iconst 1, 1) := by decide +kernel
theorem dX12_of_108 : decode cX12_of 108 = .ok (.iand, 1) := by decide +kernel
theorem dX12_of_109 : decode cX12_of 109 = .ok (.ifCond .ne 7, 3) := by decide +kernel
theorem dX12_of_112 : decode cX12_of 112 = .ok (.iconst 1, 1) := by decide +kernel
theorem dX12_of_113 : decode cX12_of 113 = .ok (.goto 4, 3) := by decide +kernel
theorem dX12_of_116 : decode cX12_of 116 = .ok (.iconst 0, 1) := by decide +kernel
theorem dX12_of_117 : decode cX12_of 117 = .ok (.ireturn, 1) := by decide +kernel
theorem dX12_of_118 : decode cX12_of 118 = .ok (.aload_n 0, 1) := by decide +kernel
theorem dX12_of_119 : decode cX12_of 119 = .ok (.getfield 243, 3) := by decide +kernel
theorem dX12_of_122 : decode cX12_of 122 = .ok (.iload_n 1, 1) := by decide +kernel
theorem dX12_of_123 : decode cX12_of 123 = .ok (.ishr, 1) := by decide +kernel
theorem dX12_of_124 : decode cX12_of 124 = .ok (.iconst 1, 1) := by decide +kernel
theorem dX12_of_125 : decode cX12_of 125 = .ok (.iand, 1) := by decide +kernel
theorem dX12_of_126 : decode cX12_of 126 = .ok (.ireturn, 1) := by decide +kernel
theorem dX12_of_127 : decode cX12_of 127 = .ok (.aload_n 0, 1) := by decide +kernel
theorem dX12_of_128 : decode cX12_of 128 = .ok (.getfield 246, 3) := by decide +kernel
theorem dX12_of_131 : decode cX12_of 131 = .ok (.bipush 60, 2) := by decide +kernel
theorem dX12_of_133 : decode cX12_of 133 = .ok (.if_icmp .ge 27, 3) := by decide +kernel
theorem dX12_of_136 : decode cX12_of 136 = .ok (.aload_n 0, 1) := by decide +kernel
theorem dX12_of_137 : decode cX12_of 137 = .ok (.iload_n 1, 1) := by decide +kernel
theorem dX12_of_138 : decode cX12_of 138 = .ok (.aload_n 0, 1) := by decide +kernel
theorem dX12_of_139 : decode cX12_of 139 = .ok (.getfield 246, 3) := by decide +kernel
theorem dX12_of_142 : decode cX12_of 142 = .ok (.aload_n 0, 1) := by decide +kernel
theorem dX12_of_143 : decode cX12_of 143 = .ok (.getfield 240, 3) := by decide +kernel
theorem dX12_of_146 : decode cX12_of 146 = .ok (.aload_n 0, 1) := by decide +kernel
theorem dX12_of_147 : decode cX12_of 147 = .ok (.getfield 243, 3) := by decide +kernel
theorem dX12_of_150 : decode cX12_of 150 = .ok (.invokevirtual 249, 3) := by decide +kernel
theorem dX12_of_153 : decode cX12_of 153 = .ok (.ifCond .eq 7, 3) := by decide +kernel
theorem dX12_of_156 : decode cX12_of 156 = .ok (.iconst 1, 1) := by decide +kernel
theorem dX12_of_157 : decode cX12_of 157 = .ok (.goto 4, 3) := by decide +kernel
theorem dX12_of_160 : decode cX12_of 160 = .ok (.iconst 0, 1) := by decide +kernel
theorem dX12_of_161 : decode cX12_of 161 = .ok (.ireturn, 1) := by decide +kernel
theorem dX12_of_162 : decode cX12_of 162 = .ok (.aload_n 0, 1) := by decide +kernel
theorem dX12_of_163 : decode cX12_of 163 = .ok (.getfield 22, 3) := by decide +kernel
theorem dX12_of_166 : decode cX12_of 166 = .ok (.iload_n 1, 1) := by decide +kernel
theorem dX12_of_167 : decode cX12_of 167 = .ok (.iaload, 1) := by decide +kernel
theorem dX12_of_168 : decode cX12_of 168 = .ok (.ireturn, 1) := by decide +kernel
theorem dX12_of_169 : decode cX12_of 169 = .ok (.iconst (-1), 1) := by decide +kernel
theorem dX12_of_170 : decode cX12_of 170 = .ok (.ireturn, 1) := by decide +kernel
theorem dX12_canPass_0 : decode cX12_canPass 0 = .ok (.iload_n 3, 1) := by decide +kernel
theorem dX12_canPass_1 : decode cX12_canPass 1 = .ok (.invokestatic 252, 3) := by decide +kernel
theorem dX12_canPass_4 : decode cX12_canPass 4 = .ok (.aload_n 0, 1) := by decide +kernel
theorem dX12_canPass_5 : decode cX12_canPass 5 = .ok (.getfield 7, 3) := by decide +kernel
theorem dX12_canPass_8 : decode cX12_canPass 8 = .ok (.iload_n 1, 1) := by decide +kernel
theorem dX12_canPass_9 : decode cX12_canPass 9 = .ok (.iaload, 1) := by decide +kernel
theorem dX12_canPass_10 : decode cX12_canPass 10 = .ok (.if_icmp .eq 5, 3) := by decide +kernel
theorem dX12_canPass_13 : decode cX12_canPass 13 = .ok (.iconst 0, 1) := by decide +kernel
theorem dX12_canPass_14 : decode cX12_canPass 14 = .ok (.ireturn, 1) := by decide +kernel
theorem dX12_canPass_15 : decode cX12_canPass 15 = .ok (.iconst 0, 1) := by decide +kernel
theorem dX12_canPass_16 : decode cX12_canPass 16 = .ok (.istore 4, 2) := by decide +kernel
theorem dX12_canPass_18 : decode cX12_canPass 18 = .ok (.iload 4, 2) := by decide +kernel
theorem dX12_canPass_20 : decode cX12_canPass 20 = .ok (.aload_n 0, 1) := by decide +kernel
theorem dX12_canPass_21 : decode cX12_canPass 21 = .ok (.getfield 118, 3) := by decide +kernel
theorem dX12_canPass_24 : decode cX12_canPass 24 = .ok (.if_icmp .ge 51, 3) := by decide +kernel
theorem dX12_canPass_27 : decode cX12_canPass 27 = .ok (.iload_n 3, 1) := by decide +kernel
theorem dX12_canPass_28 : decode cX12_canPass 28 = .ok (.iload 4, 2) := by decide +kernel
theorem dX12_canPass_30 : decode cX12_canPass 30 = .ok (.ishr, 1) := by decide +kernel
theorem dX12_canPass_31 : decode cX12_canPass 31 = .ok (.iconst 1, 1) := by decide +kernel
theorem dX12_canPass_32 : decode cX12_canPass 32 = .ok (.iand, 1) := by decide +kernel
theorem dX12_canPass_33 : decode cX12_canPass 33 = .ok (.ifCond .ne 6, 3) := by decide +kernel
theorem dX12_canPass_36 : decode cX12_canPass 36 = .ok (.goto 33, 3) := by decide +kernel
theorem dX12_canPass_39 : decode cX12_canPass 39 = .ok (.aload_n 0, 1) := by decide +kernel
theorem dX12_canPass_40 : decode cX12_canPass 40 = .ok (.getfield 240, 3) := by decide +kernel
theorem dX12_canPass_43 : decode cX12_canPass 43 = .ok (.iload 4, 2) := by decide +kernel
theorem dX12_canPass_45 : decode cX12_canPass 45 = .ok (.ishr, 1) := by decide +kernel
theorem dX12_canPass_46 : decode cX12_canPass 46 = .ok (.iconst 1, 1) := by decide +kernel
theorem dX12_canPass_47 : decode cX12_canPass 47 = .ok (.iand, 1) := by decide +kernel
theorem dX12_canPass_48 : decode cX12_canPass 48 = .ok (.iload_n 2, 1) := by decide +kernel
theorem dX12_canPass_49 : decode cX12_canPass 49 = .ok (.if_icmp .ne 18, 3) := by decide +kernel
theorem dX12_canPass_52 : decode cX12_canPass 52 = .ok (.aload_n 0, 1) := by decide +kernel
theorem dX12_canPass_53 : decode cX12_canPass 53 = .ok (.iload 4, 2) := by decide +kernel
theorem dX12_canPass_55 : decode cX12_canPass 55 = .ok (.iload_n 1, 1) := by decide +kernel
theorem dX12_canPass_56 : decode cX12_canPass 56 = .ok (.iload_n 2, 1) := by decide +kernel
theorem dX12_canPass_57 : decode cX12_canPass 57 = .ok (.aload_n 0, 1) := by decide +kernel
theorem dX12_canPass_58 : decode cX12_canPass 58 = .ok (.getfield 246, 3) := by decide +kernel
theorem dX12_canPass_61 : decode cX12_canPass 61 = .ok (.invokevirtual 233, 3) := by decide +kernel
theorem dX12_canPass_64 : decode cX12_canPass 64 = .ok (.ifCond .ne 5, 3) := by decide +kernel
theorem dX12_canPass_67 : decode cX12_canPass 67 = .ok (.iconst 0, 1) := by decide +kernel
theorem dX12_canPass_68 : decode cX12_canPass 68 = .ok (.ireturn, 1) := by decide +kernel
theorem dX12_canPass_69 : decode cX12_canPass 69 = .ok (.iinc 4 1, 3) := by decide +kernel
theorem dX12_canPass_72 : decode cX12_canPass 72 = .ok (.goto (-54), 3) := by decide +kernel
theorem dX12_canPass_75 : decode cX12_canPass 75 = .ok (.iconst 1, 1) := by decide +kernel
theorem dX12_canPass_76 : decode cX12_canPass 76 = .ok (.ireturn, 1) := by decide +kernel
theorem dX12_pass_0 : decode cX12_pass 0 = .ok (.aload_n 0, 1) := by decide +kernel
theorem dX12_pass_1 : decode cX12_pass 1 = .ok (.iload_n 1, 1) := by decide +kernel
theorem dX12_pass_2 : decode cX12_pass 2 = .ok (.invokevirtual 230, 3) := by decide +kernel
theorem dX12_pass_5 : decode cX12_pass 5 = .ok (.ifCond .eq 16, 3) := by decide +kernel
theorem dX12_pass_8 : decode cX12_pass 8 = .ok (.iload_n 2, 1) := by decide +kernel
theorem dX12_pass_9 : decode cX12_pass 9 = .ok (.ifCond .lt 12, 3) := by decide +kernel
theorem dX12_pass_12 : decode cX12_pass 12 = .ok (.iload_n 2, 1) := by decide +kernel
theorem dX12_pass_13 : decode cX12_pass 13 = .ok (.aload_n 0, 1) := by decide +kernel
theorem dX12_pass_14 : decode cX12_pass 14 = .ok (.getfield 118, 3) := by decide +kernel
theorem dX12_pass_17 : decode cX12_pass 17 = .ok (.ishr, 1) := by decide +kernel
theorem dX12_pass_18 : decode cX12_pass 18 = .ok (.ifCond .eq 5, 3) := by decide +kernel
theorem dX12_pass_21 : decode cX12_pass 21 = .ok (.iconst (-1), 1) := by decide +kernel
theorem dX12_pass_22 : decode cX12_pass 22 = .ok (.ireturn, 1) := by decide +kernel
theorem dX12_pass_23 : decode cX12_pass 23 = .ok (.aload_n 0, 1) := by decide +kernel
theorem dX12_pass_24 : decode cX12_pass 24 = .ok (.getfield 246, 3) := by decide +kernel
theorem dX12_pass_27 : decode cX12_pass 27 = .ok (.bipush 60, 2) := by decide +kernel
theorem dX12_pass_29 : decode cX12_pass 29 = .ok (.if_icmp .ne 6, 3) := by decide +kernel
theorem dX12_pass_32 : decode cX12_pass 32 = .ok (.bipush (-5), 2) := by decide +kernel
theorem dX12_pass_34 : decode cX12_pass 34 = .ok (.ireturn, 1) := by decide +kernel
theorem dX12_pass_35 : decode cX12_pass 35 = .ok (.aload_n 0, 1) := by decide +kernel
theorem dX12_pass_36 : decode cX12_pass 36 = .ok (.iload_n 1, 1) := by decide +kernel
theorem dX12_pass_37 : decode cX12_pass 37 = .ok (.bipush 10, 2) := by decide +kernel
theorem dX12_pass_39 : decode cX12_pass 39 = .ok (.idiv, 1) := by decide +kernel
theorem dX12_pass_40 : decode cX12_pass 40 = .ok (.iload_n 1, 1) := by decide +kernel
theorem dX12_pass_41 : decode cX12_pass 41 = .ok (.bipush 10, 2) := by decide +kernel
theorem dX12_pass_43 : decode cX12_pass 43 = .ok (.irem, 1) := by decide +kernel
theorem dX12_pass_44 : decode cX12_pass 44 = .ok (.iload_n 2, 1) := by decide +kernel
theorem dX12_pass_45 : decode cX12_pass 45 = .ok (.invokevirtual 255, 3) := by decide +kernel
theorem dX12_pass_48 : decode cX12_pass 48 = .ok (.ifCond .ne 6, 3) := by decide +kernel
theorem dX12_pass_51 : decode cX12_pass 51 = .ok (.bipush (-2), 2) := by decide +kernel
theorem dX12_pass_53 : decode cX12_pass 53 = .ok (.ireturn, 1) := by decide +kernel
theorem dX12_pass_54 : decode cX12_pass 54 = .ok (.aload_n 0, 1) := by decide +kernel
theorem dX12_pass_55 : decode cX12_pass 55 = .ok (.dup, 1) := by decide +kernel
theorem dX12_pass_56 : decode cX12_pass 56 = .ok (.getfield 240, 3) := by decide +kernel
theorem dX12_pass_59 : decode cX12_pass 59 = .ok (.iload_n 2, 1) := by decide +kernel
theorem dX12_pass_60 : decode cX12_pass 60 = .ok (.ixor, 1) := by decide +kernel
theorem dX12_pass_61 : decode cX12_pass 61 = .ok (.putfield 240, 3) := by decide +kernel
theorem dX12_pass_64 : decode cX12_pass 64 = .ok (.iload_n 1, 1) := by decide +kernel
theorem dX12_pass_65 : decode cX12_pass 65 = .ok (.bipush 10, 2) := by decide +kernel
theorem dX12_pass_67 : decode cX12_pass 67 = .ok (.irem, 1) := by decide +kernel
theorem dX12_pass_68 : decode cX12_pass 68 = .ok (.ifCond .ne 13, 3) := by decide +kernel
theorem dX12_pass_71 : decode cX12_pass 71 = .ok (.aload_n 0, 1) := by decide +kernel
theorem dX12_pass_72 : decode cX12_pass 72 = .ok (.dup, 1) := by decide +kernel
theorem dX12_pass_73 : decode cX12_pass 73 = .ok (.getfield 243, 3) := by decide +kernel
theorem dX12_pass_76 : decode cX12_pass 76 = .ok (.iload_n 2, 1) := by decide +kernel
theorem dX12_pass_77 : decode cX12_pass 77 = .ok (.ior, 1) := by decide +kernel
theorem dX12_pass_78 : decode cX12_pass 78 = .ok (.putfield 243, 3) := by decide +kernel
theorem dX12_pass_81 : decode cX12_pass 81 = .ok (.aload_n 0, 1) := by decide +kernel
theorem dX12_pass_82 : decode cX12_pass 82 = .ok (.getfield 118, 3) := by decide +kernel
theorem dX12_pass_85 : decode cX12_pass 85 = .ok (.aload_n 0, 1) := by decide +kernel
theorem dX12_pass_86 : decode cX12_pass 86 = .ok (.getfield 240, 3) := by decide +kernel
theorem dX12_pass_89 : decode cX12_pass 89 = .ok (.invokestatic 252, 3) := by decide +kernel
theorem dX12_pass_92 : decode cX12_pass 92 = .ok (.isub, 1) := by decide +kernel
theorem dX12_pass_93 : decode cX12_pass 93 = .ok (.ireturn, 1) := by decide +kernel
theorem dX12_tick_0 : decode cX12_tick 0 = .ok (.iload_n 1, 1) := by decide +kernel
theorem dX12_tick_1 : decode cX12_tick 1 = .ok (.iconst 1, 1) := by decide +kernel
theorem dX12_tick_2 : decode cX12_tick 2 = .ok (.bipush 60, 2) := by decide +kernel
theorem dX12_tick_4 : decode cX12_tick 4 = .ok (.invokestatic 114, 3) := by decide +kernel
theorem dX12_tick_7 : decode cX12_tick 7 = .ok (.ifCond .ne 5, 3) := by decide +kernel
theorem dX12_tick_10 : decode cX12_tick 10 = .ok (.iconst (-1), 1) := by decide +kernel
theorem dX12_tick_11 : decode cX12_tick 11 = .ok (.ireturn, 1) := by decide +kernel
theorem dX12_tick_12 : decode cX12_tick 12 = .ok (.aload_n 0, 1) := by decide +kernel
theorem dX12_tick_13 : decode cX12_tick 13 = .ok (.getfield 246, 3) := by decide +kernel
theorem dX12_tick_16 : decode cX12_tick 16 = .ok (.iload_n 1, 1) := by decide +kernel
theorem dX12_tick_17 : decode cX12_tick 17 = .ok (.iadd, 1) := by decide +kernel
theorem dX12_tick_18 : decode cX12_tick 18 = .ok (.bipush 60, 2) := by decide +kernel
theorem dX12_tick_20 : decode cX12_tick 20 = .ok (.if_icmp .le 6, 3) := by decide +kernel
theorem dX12_tick_23 : decode cX12_tick 23 = .ok (.bipush (-5), 2) := by decide +kernel
theorem dX12_tick_25 : decode cX12_tick 25 = .ok (.ireturn, 1) := by decide +kernel
theorem dX12_tick_26 : decode cX12_tick 26 = .ok (.iconst 0, 1) := by decide +kernel
theorem dX12_tick_27 : decode cX12_tick 27 = .ok (.istore_n 2, 1) := by decide +kernel
theorem dX12_tick_28 : decode cX12_tick 28 = .ok (.iload_n 2, 1) := by decide +kernel
theorem dX12_tick_29 : decode cX12_tick 29 = .ok (.iload_n 1, 1) := by decide +kernel
theorem dX12_tick_30 : decode cX12_tick 30 = .ok (.if_icmp .ge 70, 3) := by decide +kernel
theorem dX12_tick_33 : decode cX12_tick 33 = .ok (.iconst 0, 1) := by decide +kernel
theorem dX12_tick_34 : decode cX12_tick 34 = .ok (.istore_n 3, 1) := by decide +kernel
theorem dX12_tick_35 : decode cX12_tick 35 = .ok (.iload_n 3, 1) := by decide +kernel
theorem dX12_tick_36 : decode cX12_tick 36 = .ok (.aload_n 0, 1) := by decide +kernel
theorem dX12_tick_37 : decode cX12_tick 37 = .ok (.getfield 118, 3) := by decide +kernel
theorem dX12_tick_40 : decode cX12_tick 40 = .ok (.if_icmp .ge 44, 3) := by decide +kernel
theorem dX12_tick_43 : decode cX12_tick 43 = .ok (.aload_n 0, 1) := by decide +kernel
theorem dX12_tick_44 : decode cX12_tick 44 = .ok (.iload_n 3, 1) := by decide +kernel
theorem dX12_tick_45 : decode cX12_tick 45 = .ok (.aload_n 0, 1) := by decide +kernel
theorem dX12_tick_46 : decode cX12_tick 46 = .ok (.getfield 246, 3) := by decide +kernel
theorem dX12_tick_49 : decode cX12_tick 49 = .ok (.aload_n 0, 1) := by decide +kernel
theorem dX12_tick_50 : decode cX12_tick 50 = .ok (.getfield 240, 3) := by decide +kernel
theorem dX12_tick_53 : decode cX12_tick 53 = .ok (.aload_n 0, 1) := by decide +kernel
theorem dX12_tick_54 : decode cX12_tick 54 = .ok (.getfield 243, 3) := by decide +kernel
theorem dX12_tick_57 : decode cX12_tick 57 = .ok (.invokevirtual 249, 3) := by decide +kernel
theorem dX12_tick_60 : decode cX12_tick 60 = .ok (.ifCond .eq 18, 3) := by decide +kernel
theorem dX12_tick_63 : decode cX12_tick 63 = .ok (.aload_n 0, 1) := by decide +kernel
theorem dX12_tick_64 : decode cX12_tick 64 = .ok (.getfield 22, 3) := by decide +kernel
theorem dX12_tick_67 : decode cX12_tick 67 = .ok (.iload_n 3, 1) := by decide +kernel
theorem dX12_tick_68 : decode cX12_tick 68 = .ok (.dup2, 1) := by decide +kernel
theorem dX12_tick_69 : decode cX12_tick 69 = .ok (.iaload, 1) := by decide +kernel
theorem dX12_tick_70 : decode cX12_tick 70 = .ok (.aload_n 0, 1) := by decide +kernel
theorem dX12_tick_71 : decode cX12_tick 71 = .ok (.getfield 19, 3) := by decide +kernel
theorem dX12_tick_74 : decode cX12_tick 74 = .ok (.iload_n 3, 1) := by decide +kernel
theorem dX12_tick_75 : decode cX12_tick 75 = .ok (.iaload, 1) := by decide +kernel
theorem dX12_tick_76 : decode cX12_tick 76 = .ok (.iadd, 1) := by decide +kernel
theorem dX12_tick_77 : decode cX12_tick 77 = .ok (.iastore, 1) := by decide +kernel
theorem dX12_tick_78 : decode cX12_tick 78 = .ok (.iinc 3 1, 3) := by decide +kernel
theorem dX12_tick_81 : decode cX12_tick 81 = .ok (.goto (-46), 3) := by decide +kernel
theorem dX12_tick_84 : decode cX12_tick 84 = .ok (.aload_n 0, 1) := by decide +kernel
theorem dX12_tick_85 : decode cX12_tick 85 = .ok (.dup, 1) := by decide +kernel
theorem dX12_tick_86 : decode cX12_tick 86 = .ok (.getfield 246, 3) := by decide +kernel
theorem dX12_tick_89 : decode cX12_tick 89 = .ok (.iconst 1, 1) := by decide +kernel
theorem dX12_tick_90 : decode cX12_tick 90 = .ok (.iadd, 1) := by decide +kernel
theorem dX12_tick_91 : decode cX12_tick 91 = .ok (.putfield 246, 3) := by decide +kernel
theorem dX12_tick_94 : decode cX12_tick 94 = .ok (.iinc 2 1, 3) := by decide +kernel
theorem dX12_tick_97 : decode cX12_tick 97 = .ok (.goto (-69), 3) := by decide +kernel
theorem dX12_tick_100 : decode cX12_tick 100 = .ok (.aload_n 0, 1) := by decide +kernel
theorem dX12_tick_101 : decode cX12_tick 101 = .ok (.getfield 246, 3) := by decide +kernel
theorem dX12_tick_104 : decode cX12_tick 104 = .ok (.ireturn, 1) := by decide +kernel
theorem dX12_isSum_0 : decode cX12_isSum 0 = .ok (.iload_n 1, 1) := by decide +kernel
theorem dX12_isSum_1 : decode cX12_isSum 1 = .ok (.ifCond .ne 5, 3) := by decide +kernel
theorem dX12_isSum_4 : decode cX12_isSum 4 = .ok (.iconst 1, 1) := by decide +kernel
theorem dX12_isSum_5 : decode cX12_isSum 5 = .ok (.ireturn, 1) := by decide +kernel
theorem dX12_isSum_6 : decode cX12_isSum 6 = .ok (.iconst 0, 1) := by decide +kernel
theorem dX12_isSum_7 : decode cX12_isSum 7 = .ok (.istore_n 2, 1) := by decide +kernel
theorem dX12_isSum_8 : decode cX12_isSum 8 = .ok (.iload_n 2, 1) := by decide +kernel
theorem dX12_isSum_9 : decode cX12_isSum 9 = .ok (.aload_n 0, 1) := by decide +kernel
theorem dX12_isSum_10 : decode cX12_isSum 10 = .ok (.getfield 111, 3) := by decide +kernel
theorem dX12_isSum_13 : decode cX12_isSum 13 = .ok (.if_icmp .ge 36, 3) := by decide +kernel
theorem dX12_isSum_16 : decode cX12_isSum 16 = .ok (.aload_n 0, 1) := by decide +kernel
theorem dX12_isSum_17 : decode cX12_isSum 17 = .ok (.getfield 7, 3) := by decide +kernel
theorem dX12_isSum_20 : decode cX12_isSum 20 = .ok (.iload_n 2, 1) := by decide +kernel
theorem dX12_isSum_21 : decode cX12_isSum 21 = .ok (.iaload, 1) := by decide +kernel
theorem dX12_isSum_22 : decode cX12_isSum 22 = .ok (.iload_n 1, 1) := by decide +kernel
theorem dX12_isSum_23 : decode cX12_isSum 23 = .ok (.if_icmp .gt 20, 3) := by decide +kernel
theorem dX12_isSum_26 : decode cX12_isSum 26 = .ok (.aload_n 0, 1) := by decide +kernel
theorem dX12_isSum_27 : decode cX12_isSum 27 = .ok (.iload_n 1, 1) := by decide +kernel
theorem dX12_isSum_28 : decode cX12_isSum 28 = .ok (.aload_n 0, 1) := by decide +kernel
theorem dX12_isSum_29 : decode cX12_isSum 29 = .ok (.getfield 7, 3) := by decide +kernel
theorem dX12_isSum_32 : decode cX12_isSum 32 = .ok (.iload_n 2, 1) := by decide +kernel
theorem dX12_isSum_33 : decode cX12_isSum 33 = .ok (.iaload, 1) := by decide +kernel
theorem dX12_isSum_34 : decode cX12_isSum 34 = .ok (.isub, 1) := by decide +kernel
theorem dX12_isSum_35 : decode cX12_isSum 35 = .ok (.invokevirtual 258, 3) := by decide +kernel
theorem dX12_isSum_38 : decode cX12_isSum 38 = .ok (.ifCond .eq 5, 3) := by decide +kernel
theorem dX12_isSum_41 : decode cX12_isSum 41 = .ok (.iconst 1, 1) := by decide +kernel
theorem dX12_isSum_42 : decode cX12_isSum 42 = .ok (.ireturn, 1) := by decide +kernel
theorem dX12_isSum_43 : decode cX12_isSum 43 = .ok (.iinc 2 1, 3) := by decide +kernel
theorem dX12_isSum_46 : decode cX12_isSum 46 = .ok (.goto (-38), 3) := by decide +kernel
theorem dX12_isSum_49 : decode cX12_isSum 49 = .ok (.iconst 0, 1) := by decide +kernel
theorem dX12_isSum_50 : decode cX12_isSum 50 = .ok (.ireturn, 1) := by decide +kernel
theorem dX12_isFirst_0 : decode cX12_isFirst 0 = .ok (.iload 4, 2) := by decide +kernel
theorem dX12_isFirst_2 : decode cX12_isFirst 2 = .ok (.iconst 1, 1) := by decide +kernel
theorem dX12_isFirst_3 : decode cX12_isFirst 3 = .ok (.if_icmp .ne 13, 3) := by decide +kernel
theorem dX12_isFirst_6 : decode cX12_isFirst 6 = .ok (.aload_n 0, 1) := by decide +kernel
theorem dX12_isFirst_7 : decode cX12_isFirst 7 = .ok (.getfield 19, 3) := by decide +kernel
theorem dX12_isFirst_10 : decode cX12_isFirst 10 = .ok (.iload_n 1, 1) := by decide +kernel
theorem dX12_isFirst_11 : decode cX12_isFirst 11 = .ok (.iaload, 1) := by decide +kernel
theorem dX12_isFirst_12 : decode cX12_isFirst 12 = .ok (.ineg, 1) := by decide +kernel
theorem dX12_isFirst_13 : decode cX12_isFirst 13 = .ok (.goto 22, 3) := by decide +kernel
theorem dX12_isFirst_16 : decode cX12_isFirst 16 = .ok (.iload_n 3, 1) := by decide +kernel
theorem dX12_isFirst_17 : decode cX12_isFirst 17 = .ok (.ifCond .ne 12, 3) := by decide +kernel
theorem dX12_isFirst_20 : decode cX12_isFirst 20 = .ok (.aload_n 0, 1) := by decide +kernel
theorem dX12_isFirst_21 : decode cX12_isFirst 21 = .ok (.getfield 13, 3) := by decide +kernel
theorem dX12_isFirst_24 : decode cX12_isFirst 24 = .ok (.iload_n 1, 1) := by decide +kernel
theorem dX12_isFirst_25 : decode cX12_isFirst 25 = .ok (.iaload, 1) := by decide +kernel
theorem dX12_isFirst_26 : decode cX12_isFirst 26 = .ok (.goto 9, 3) := by decide +kernel
theorem dX12_isFirst_29 : decode cX12_isFirst 29 = .ok (.aload_n 0, 1) := by decide +kernel
theorem dX12_isFirst_30 : decode cX12_isFirst 30 = .ok (.getfield 16, 3) := by decide +kernel
theorem dX12_isFirst_33 : decode cX12_isFirst 33 = .ok (.iload_n 1, 1) := by decide +kernel
theorem dX12_isFirst_34 : decode cX12_isFirst 34 = .ok (.iaload, 1) := by decide +kernel
theorem dX12_isFirst_35 : decode cX12_isFirst 35 = .ok (.istore 5, 2) := by decide +kernel
theorem dX12_isFirst_37 : decode cX12_isFirst 37 = .ok (.iload 4, 2) := by decide +kernel
theorem dX12_isFirst_39 : decode cX12_isFirst 39 = .ok (.iconst 1, 1) := by decide +kernel
theorem dX12_isFirst_40 : decode cX12_isFirst 40 = .ok (.if_icmp .ne 13, 3) := by decide +kernel
theorem dX12_isFirst_43 : decode cX12_isFirst 43 = .ok (.aload_n 0, 1) := by decide +kernel
theorem dX12_isFirst_44 : decode cX12_isFirst 44 = .ok (.getfield 19, 3) := by decide +kernel
theorem dX12_isFirst_47 : decode cX12_isFirst 47 = .ok (.iload_n 2, 1) := by decide +kernel
theorem dX12_isFirst_48 : decode cX12_isFirst 48 = .ok (.iaload, 1) := by decide +kernel
theorem dX12_isFirst_49 : decode cX12_isFirst 49 = .ok (.ineg, 1) := by decide +kernel
theorem dX12_isFirst_50 : decode cX12_isFirst 50 = .ok (.goto 22, 3) := by decide +kernel
theorem dX12_isFirst_53 : decode cX12_isFirst 53 = .ok (.iload_n 3, 1) := by decide +kernel
theorem dX12_isFirst_54 : decode cX12_isFirst 54 = .ok (.ifCond .ne 12, 3) := by decide +kernel
theorem dX12_isFirst_57 : decode cX12_isFirst 57 = .ok (.aload_n 0, 1) := by decide +kernel
theorem dX12_isFirst_58 : decode cX12_isFirst 58 = .ok (.getfield 13, 3) := by decide +kernel
theorem dX12_isFirst_61 : decode cX12_isFirst 61 = .ok (.iload_n 2, 1) := by decide +kernel
theorem dX12_isFirst_62 : decode cX12_isFirst 62 = .ok (.iaload, 1) := by decide +kernel
theorem dX12_isFirst_63 : decode cX12_isFirst 63 = .ok (.goto 9, 3) := by decide +kernel
theorem dX12_isFirst_66 : decode cX12_isFirst 66 = .ok (.aload_n 0, 1) := by decide +kernel
theorem dX12_isFirst_67 : decode cX12_isFirst 67 = .ok (.getfield 16, 3) := by decide +kernel
theorem dX12_isFirst_70 : decode cX12_isFirst 70 = .ok (.iload_n 2, 1) := by decide +kernel
theorem dX12_isFirst_71 : decode cX12_isFirst 71 = .ok (.iaload, 1) := by decide +kernel
theorem dX12_isFirst_72 : decode cX12_isFirst 72 = .ok (.istore 6, 2) := by decide +kernel
theorem dX12_isFirst_74 : decode cX12_isFirst 74 = .ok (.iload 5, 2) := by decide +kernel
theorem dX12_isFirst_76 : decode cX12_isFirst 76 = .ok (.iload 6, 2) := by decide +kernel
theorem dX12_isFirst_78 : decode cX12_isFirst 78 = .ok (.if_icmp .lt 15, 3) := by decide +kernel
theorem dX12_isFirst_81 : decode cX12_isFirst 81 = .ok (.iload 5, 2) := by decide +kernel
theorem dX12_isFirst_83 : decode cX12_isFirst 83 = .ok (.iload 6, 2) := by decide +kernel
theorem dX12_isFirst_85 : decode cX12_isFirst 85 = .ok (.if_icmp .ne 12, 3) := by decide +kernel
theorem dX12_isFirst_88 : decode cX12_isFirst 88 = .ok (.iload_n 1, 1) := by decide +kernel
theorem dX12_isFirst_89 : decode cX12_isFirst 89 = .ok (.iload_n 2, 1) := by decide +kernel
theorem dX12_isFirst_90 : decode cX12_isFirst 90 = .ok (.if_icmp .ge 7, 3) := by decide +kernel
theorem dX12_isFirst_93 : decode cX12_isFirst 93 = .ok (.iconst 1, 1) := by decide +kernel
theorem dX12_isFirst_94 : decode cX12_isFirst 94 = .ok (.goto 4, 3) := by decide +kernel
theorem dX12_isFirst_97 : decode cX12_isFirst 97 = .ok (.iconst 0, 1) := by decide +kernel
theorem dX12_isFirst_98 : decode cX12_isFirst 98 = .ok (.ireturn, 1) := by decide +kernel
theorem dX12_firstOnes_0 : decode cX12_firstOnes 0 = .ok (.iconst 0, 1) := by decide +kernel
theorem dX12_firstOnes_1 : decode cX12_firstOnes 1 = .ok (.istore 5, 2) := by decide +kernel
theorem dX12_firstOnes_3 : decode cX12_firstOnes 3 = .ok (.iconst 0, 1) := by decide +kernel
theorem dX12_firstOnes_4 : decode cX12_firstOnes 4 = .ok (.istore 6, 2) := by decide +kernel
theorem dX12_firstOnes_6 : decode cX12_firstOnes 6 = .ok (.iload 6, 2) := by decide +kernel
theorem dX12_firstOnes_8 : decode cX12_firstOnes 8 = .ok (.aload_n 0, 1) := by decide +kernel
theorem dX12_firstOnes_9 : decode cX12_firstOnes 9 = .ok (.getfield 118, 3) := by decide +kernel
theorem dX12_firstOnes_12 : decode cX12_firstOnes 12 = .ok (.if_icmp .ge 61, 3) := by decide +kernel
theorem dX12_firstOnes_15 : decode cX12_firstOnes 15 = .ok (.aload_n 0, 1) := by decide +kernel
theorem dX12_firstOnes_16 : decode cX12_firstOnes 16 = .ok (.getfield 261, 3) := by decide +kernel
theorem dX12_firstOnes_19 : decode cX12_firstOnes 19 = .ok (.iload 6, 2) := by decide +kernel
theorem dX12_firstOnes_21 : decode cX12_firstOnes 21 = .ok (.ishr, 1) := by decide +kernel
theorem dX12_firstOnes_22 : decode cX12_firstOnes 22 = .ok (.iconst 1, 1) := by decide +kernel
theorem dX12_firstOnes_23 : decode cX12_firstOnes 23 = .ok (.iand, 1) := by decide +kernel
theorem dX12_firstOnes_24 : decode cX12_firstOnes 24 = .ok (.iload_n 2, 1) := by decide +kernel
theorem dX12_firstOnes_25 : decode cX12_firstOnes 25 = .ok (.if_icmp .ne 42, 3) := by decide +kernel
theorem dX12_firstOnes_28 : decode cX12_firstOnes 28 = .ok (.aload_n 0, 1) := by decide +kernel
theorem dX12_firstOnes_29 : decode cX12_firstOnes 29 = .ok (.iload 6, 2) := by decide +kernel
theorem dX12_firstOnes_31 : decode cX12_firstOnes 31 = .ok (.iload_n 3, 1) := by decide +kernel
theorem dX12_firstOnes_32 : decode cX12_firstOnes 32 = .ok (.aload_n 0, 1) := by decide +kernel
theorem dX12_firstOnes_33 : decode cX12_firstOnes 33 = .ok (.getfield 261, 3) := by decide +kernel
theorem dX12_firstOnes_36 : decode cX12_firstOnes 36 = .ok (.aload_n 0, 1) := by decide +kernel
theorem dX12_firstOnes_37 : decode cX12_firstOnes 37 = .ok (.getfield 264, 3) := by decide +kernel
theorem dX12_firstOnes_40 : decode cX12_firstOnes 40 = .ok (.invokevirtual 249, 3) := by decide +kernel
theorem dX12_firstOnes_43 : decode cX12_firstOnes 43 = .ok (.ifCond .eq 24, 3) := by decide +kernel
theorem dX12_firstOnes_46 : decode cX12_firstOnes 46 = .ok (.aload_n 0, 1) := by decide +kernel
theorem dX12_firstOnes_47 : decode cX12_firstOnes 47 = .ok (.iload 6, 2) := by decide +kernel
theorem dX12_firstOnes_49 : decode cX12_firstOnes 49 = .ok (.iload_n 1, 1) := by decide +kernel
theorem dX12_firstOnes_50 : decode cX12_firstOnes 50 = .ok (.iload_n 2, 1) := by decide +kernel
theorem dX12_firstOnes_51 : decode cX12_firstOnes 51 = .ok (.iload_n 3, 1) := by decide +kernel
theorem dX12_firstOnes_52 : decode cX12_firstOnes 52 = .ok (.invokevirtual 233, 3) := by decide +kernel
theorem dX12_firstOnes_55 : decode cX12_firstOnes 55 = .ok (.ifCond .eq 12, 3) := by decide +kernel
theorem dX12_firstOnes_58 : decode cX12_firstOnes 58 = .ok (.iload 5, 2) := by decide +kernel
theorem dX12_firstOnes_60 : decode cX12_firstOnes 60 = .ok (.iconst 1, 1) := by decide +kernel
theorem dX12_firstOnes_61 : decode cX12_firstOnes 61 = .ok (.iload 6, 2) := by decide +kernel
theorem dX12_firstOnes_63 : decode cX12_firstOnes 63 = .ok (.ishl, 1) := by decide +kernel
theorem dX12_firstOnes_64 : decode cX12_firstOnes 64 = .ok (.ior, 1) := by decide +kernel
theorem dX12_firstOnes_65 : decode cX12_firstOnes 65 = .ok (.istore 5, 2) := by decide +kernel
theorem dX12_firstOnes_67 : decode cX12_firstOnes 67 = .ok (.iinc 6 1, 3) := by decide +kernel
theorem dX12_firstOnes_70 : decode cX12_firstOnes 70 = .ok (.goto (-64), 3) := by decide +kernel
theorem dX12_firstOnes_73 : decode cX12_firstOnes 73 = .ok (.iload 5, 2) := by decide +kernel
theorem dX12_firstOnes_75 : decode cX12_firstOnes 75 = .ok (.invokestatic 252, 3) := by decide +kernel
theorem dX12_firstOnes_78 : decode cX12_firstOnes 78 = .ok (.aload_n 0, 1) := by decide +kernel
theorem dX12_firstOnes_79 : decode cX12_firstOnes 79 = .ok (.getfield 7, 3) := by decide +kernel
theorem dX12_firstOnes_82 : decode cX12_firstOnes 82 = .ok (.iload_n 1, 1) := by decide +kernel
theorem dX12_firstOnes_83 : decode cX12_firstOnes 83 = .ok (.iaload, 1) := by decide +kernel
theorem dX12_firstOnes_84 : decode cX12_firstOnes 84 = .ok (.if_icmp .ge 5, 3) := by decide +kernel
theorem dX12_firstOnes_87 : decode cX12_firstOnes 87 = .ok (.iconst 0, 1) := by decide +kernel
theorem dX12_firstOnes_88 : decode cX12_firstOnes 88 = .ok (.ireturn, 1) := by decide +kernel
theorem dX12_firstOnes_89 : decode cX12_firstOnes 89 = .ok (.iconst 0, 1) := by decide +kernel
theorem dX12_firstOnes_90 : decode cX12_firstOnes 90 = .ok (.istore 6, 2) := by decide +kernel
theorem dX12_firstOnes_92 : decode cX12_firstOnes 92 = .ok (.iconst 0, 1) := by decide +kernel
theorem dX12_firstOnes_93 : decode cX12_firstOnes 93 = .ok (.istore 7, 2) := by decide +kernel
theorem dX12_firstOnes_95 : decode cX12_firstOnes 95 = .ok (.iload 7, 2) := by decide +kernel
theorem dX12_firstOnes_97 : decode cX12_firstOnes 97 = .ok (.aload_n 0, 1) := by decide +kernel
theorem dX12_firstOnes_98 : decode cX12_firstOnes 98 = .ok (.getfield 7, 3) := by decide +kernel
theorem dX12_firstOnes_101 : decode cX12_firstOnes 101 = .ok (.iload_n 1, 1) := by decide +kernel
theorem dX12_firstOnes_102 : decode cX12_firstOnes 102 = .ok (.iaload, 1) := by decide +kernel
theorem dX12_firstOnes_103 : decode cX12_firstOnes 103 = .ok (.if_icmp .ge 83, 3) := by decide +kernel
theorem dX12_firstOnes_106 : decode cX12_firstOnes 106 = .ok (.iconst (-1), 1) := by decide +kernel
theorem dX12_firstOnes_107 : decode cX12_firstOnes 107 = .ok (.istore 8, 2) := by decide +kernel
theorem dX12_firstOnes_109 : decode cX12_firstOnes 109 = .ok (.iconst 0, 1) := by decide +kernel
theorem dX12_firstOnes_110 : decode cX12_firstOnes 110 = .ok (.istore 9, 2) := by decide +kernel
theorem dX12_firstOnes_112 : decode cX12_firstOnes 112 = .ok (.iload 9, 2) := by decide +kernel
theorem dX12_firstOnes_114 : decode cX12_firstOnes 114 = .ok (.aload_n 0, 1) := by decide +kernel
theorem dX12_firstOnes_115 : decode cX12_firstOnes 115 = .ok (.getfield 118, 3) := by decide +kernel
theorem dX12_firstOnes_118 : decode cX12_firstOnes 118 = .ok (.if_icmp .ge 53, 3) := by decide +kernel
theorem dX12_firstOnes_121 : decode cX12_firstOnes 121 = .ok (.iload 5, 2) := by decide +kernel
theorem dX12_firstOnes_123 : decode cX12_firstOnes 123 = .ok (.iload 9, 2) := by decide +kernel
theorem dX12_firstOnes_125 : decode cX12_firstOnes 125 = .ok (.ishr, 1) := by decide +kernel
theorem dX12_firstOnes_126 : decode cX12_firstOnes 126 = .ok (.iconst 1, 1) := by decide +kernel
theorem dX12_firstOnes_127 : decode cX12_firstOnes 127 = .ok (.iand, 1) := by decide +kernel
theorem dX12_firstOnes_128 : decode cX12_firstOnes 128 = .ok (.iconst 1, 1) := by decide +kernel
theorem dX12_firstOnes_129 : decode cX12_firstOnes 129 = .ok (.if_icmp .ne 36, 3) := by decide +kernel
theorem dX12_firstOnes_132 : decode cX12_firstOnes 132 = .ok (.iload 6, 2) := by decide +kernel
theorem dX12_firstOnes_134 : decode cX12_firstOnes 134 = .ok (.iload 9, 2) := by decide +kernel
theorem dX12_firstOnes_136 : decode cX12_firstOnes 136 = .ok (.ishr, 1) := by decide +kernel
theorem dX12_firstOnes_137 : decode cX12_firstOnes 137 = .ok (.iconst 1, 1) := by decide +kernel
theorem dX12_firstOnes_138 : decode cX12_firstOnes 138 = .ok (.iand, 1) := by decide +kernel
theorem dX12_firstOnes_139 : decode cX12_firstOnes 139 = .ok (.ifCond .ne 26, 3) := by decide +kernel
theorem dX12_firstOnes_142 : decode cX12_firstOnes 142 = .ok (.iload 8, 2) := by decide +kernel
theorem dX12_firstOnes_144 : decode cX12_firstOnes 144 = .ok (.ifCond .lt 17, 3) := by decide +kernel
theorem dX12_firstOnes_147 : decode cX12_firstOnes 147 = .ok (.aload_n 0, 1) := by decide +kernel
theorem dX12_firstOnes_148 : decode cX12_firstOnes 148 = .ok (.iload 9, 2) := by decide +kernel
theorem dX12_firstOnes_150 : decode cX12_firstOnes 150 = .ok (.iload 8, 2) := by decide +kernel
theorem dX12_firstOnes_152 : decode cX12_firstOnes 152 = .ok (.iload_n 2, 1) := by decide +kernel
theorem dX12_firstOnes_153 : decode cX12_firstOnes 153 = .ok (.iload 4, 2) := by decide +kernel
theorem dX12_firstOnes_155 : decode cX12_firstOnes 155 = .ok (.invokevirtual 267, 3) := by decide +kernel
theorem dX12_firstOnes_158 : decode cX12_firstOnes 158 = .ok (.ifCond .eq 7, 3) := by decide +kernel
theorem dX12_firstOnes_161 : decode cX12_firstOnes 161 = .ok (.iload 9, 2) := by decide +kernel
theorem dX12_firstOnes_163 : decode cX12_firstOnes 163 = .ok (.istore 8, 2) := by decide +kernel
theorem dX12_firstOnes_165 : decode cX12_firstOnes 165 = .ok (.iinc 9 1, 3) := by decide +kernel
theorem dX12_firstOnes_168 : decode cX12_firstOnes 168 = .ok (.goto (-56), 3) := by decide +kernel
theorem dX12_firstOnes_171 : decode cX12_firstOnes 171 = .ok (.iload 6, 2) := by decide +kernel
theorem dX12_firstOnes_173 : decode cX12_firstOnes 173 = .ok (.iconst 1, 1) := by decide +kernel
theorem dX12_firstOnes_174 : decode cX12_firstOnes 174 = .ok (.iload 8, 2) := by decide +kernel
theorem dX12_firstOnes_176 : decode cX12_firstOnes 176 = .ok (.ishl, 1) := by decide +kernel
theorem dX12_firstOnes_177 : decode cX12_firstOnes 177 = .ok (.ior, 1) := by decide +kernel
theorem dX12_firstOnes_178 : decode cX12_firstOnes 178 = .ok (.istore 6, 2) := by decide +kernel
theorem dX12_firstOnes_180 : decode cX12_firstOnes 180 = .ok (.iinc 7 1, 3) := by decide +kernel
theorem dX12_firstOnes_183 : decode cX12_firstOnes 183 = .ok (.goto (-88), 3) := by decide +kernel
theorem dX12_firstOnes_186 : decode cX12_firstOnes 186 = .ok (.iload 6, 2) := by decide +kernel
theorem dX12_firstOnes_188 : decode cX12_firstOnes 188 = .ok (.ireturn, 1) := by decide +kernel
theorem dX12_passesOnce_0 : decode cX12_passesOnce 0 = .ok (.aload_n 0, 1) := by decide +kernel
theorem dX12_passesOnce_1 : decode cX12_passesOnce 1 = .ok (.iload_n 1, 1) := by decide +kernel
theorem dX12_passesOnce_2 : decode cX12_passesOnce 2 = .ok (.iload_n 2, 1) := by decide +kernel
theorem dX12_passesOnce_3 : decode cX12_passesOnce 3 = .ok (.iload_n 3, 1) := by decide +kernel
theorem dX12_passesOnce_4 : decode cX12_passesOnce 4 = .ok (.iload 4, 2) := by decide +kernel
theorem dX12_passesOnce_6 : decode cX12_passesOnce 6 = .ok (.invokevirtual 270, 3) := by decide +kernel
theorem dX12_passesOnce_9 : decode cX12_passesOnce 9 = .ok (.istore 5, 2) := by decide +kernel
theorem dX12_passesOnce_11 : decode cX12_passesOnce 11 = .ok (.iload 5, 2) := by decide +kernel
theorem dX12_passesOnce_13 : decode cX12_passesOnce 13 = .ok (.ifCond .ne 5, 3) := by decide +kernel
theorem dX12_passesOnce_16 : decode cX12_passesOnce 16 = .ok (.iconst 0, 1) := by decide +kernel
theorem dX12_passesOnce_17 : decode cX12_passesOnce 17 = .ok (.ireturn, 1) := by decide +kernel
theorem dX12_passesOnce_18 : decode cX12_passesOnce 18 = .ok (.iload_n 2, 1) := by decide +kernel
theorem dX12_passesOnce_19 : decode cX12_passesOnce 19 = .ok (.ifCond .ne 28, 3) := by decide +kernel
theorem dX12_passesOnce_22 : decode cX12_passesOnce 22 = .ok (.iload 4, 2) := by decide +kernel
theorem dX12_passesOnce_24 : decode cX12_passesOnce 24 = .ok (.iconst 2, 1) := by decide +kernel
theorem dX12_passesOnce_25 : decode cX12_passesOnce 25 = .ok (.if_icmp .ne 22, 3) := by decide +kernel
theorem dX12_passesOnce_28 : decode cX12_passesOnce 28 = .ok (.aload_n 0, 1) := by decide +kernel
theorem dX12_passesOnce_29 : decode cX12_passesOnce 29 = .ok (.aload_n 0, 1) := by decide +kernel
theorem dX12_passesOnce_30 : decode cX12_passesOnce 30 = .ok (.getfield 261, 3) := by decide +kernel
theorem dX12_passesOnce_33 : decode cX12_passesOnce 33 = .ok (.iload 5, 2) := by decide +kernel
theorem dX12_passesOnce_35 : decode cX12_passesOnce 35 = .ok (.ior, 1) := by decide +kernel
theorem dX12_passesOnce_36 : decode cX12_passesOnce 36 = .ok (.invokestatic 252, 3) := by decide +kernel
theorem dX12_passesOnce_39 : decode cX12_passesOnce 39 = .ok (.invokevirtual 258, 3) := by decide +kernel
theorem dX12_passesOnce_42 : decode cX12_passesOnce 42 = .ok (.ifCond .ne 5, 3) := by decide +kernel
theorem dX12_passesOnce_45 : decode cX12_passesOnce 45 = .ok (.iconst 0, 1) := by decide +kernel
theorem dX12_passesOnce_46 : decode cX12_passesOnce 46 = .ok (.ireturn, 1) := by decide +kernel
theorem dX12_passesOnce_47 : decode cX12_passesOnce 47 = .ok (.aload_n 0, 1) := by decide +kernel
theorem dX12_passesOnce_48 : decode cX12_passesOnce 48 = .ok (.dup, 1) := by decide +kernel
theorem dX12_passesOnce_49 : decode cX12_passesOnce 49 = .ok (.getfield 261, 3) := by decide +kernel
theorem dX12_passesOnce_52 : decode cX12_passesOnce 52 = .ok (.iload 5, 2) := by decide +kernel
theorem dX12_passesOnce_54 : decode cX12_passesOnce 54 = .ok (.ixor, 1) := by decide +kernel
theorem dX12_passesOnce_55 : decode cX12_passesOnce 55 = .ok (.putfield 261, 3) := by decide +kernel
theorem dX12_passesOnce_58 : decode cX12_passesOnce 58 = .ok (.iload_n 2, 1) := by decide +kernel
theorem dX12_passesOnce_59 : decode cX12_passesOnce 59 = .ok (.ifCond .ne 14, 3) := by decide +kernel
theorem dX12_passesOnce_62 : decode cX12_passesOnce 62 = .ok (.aload_n 0, 1) := by decide +kernel
theorem dX12_passesOnce_63 : decode cX12_passesOnce 63 = .ok (.dup, 1) := by decide +kernel
theorem dX12_passesOnce_64 : decode cX12_passesOnce 64 = .ok (.getfield 264, 3) := by decide +kernel
theorem dX12_passesOnce_67 : decode cX12_passesOnce 67 = .ok (.iload 5, 2) := by decide +kernel
theorem dX12_passesOnce_69 : decode cX12_passesOnce 69 = .ok (.ior, 1) := by decide +kernel
theorem dX12_passesOnce_70 : decode cX12_passesOnce 70 = .ok (.putfield 264, 3) := by decide +kernel
theorem dX12_passesOnce_73 : decode cX12_passesOnce 73 = .ok (.iconst 0, 1) := by decide +kernel
theorem dX12_passesOnce_74 : decode cX12_passesOnce 74 = .ok (.istore 6, 2) := by decide +kernel
theorem dX12_passesOnce_76 : decode cX12_passesOnce 76 = .ok (.iload 6, 2) := by decide +kernel
theorem dX12_passesOnce_78 : decode cX12_passesOnce 78 = .ok (.aload_n 0, 1) := by decide +kernel
theorem dX12_passesOnce_79 : decode cX12_passesOnce 79 = .ok (.getfield 118, 3) := by decide +kernel
theorem dX12_passesOnce_82 : decode cX12_passesOnce 82 = .ok (.if_icmp .ge 45, 3) := by decide +kernel
theorem dX12_passesOnce_85 : decode cX12_passesOnce 85 = .ok (.iload 5, 2) := by decide +kernel
theorem dX12_passesOnce_87 : decode cX12_passesOnce 87 = .ok (.iload 6, 2) := by decide +kernel
theorem dX12_passesOnce_89 : decode cX12_passesOnce 89 = .ok (.ishr, 1) := by decide +kernel
theorem dX12_passesOnce_90 : decode cX12_passesOnce 90 = .ok (.iconst 1, 1) := by decide +kernel
theorem dX12_passesOnce_91 : decode cX12_passesOnce 91 = .ok (.iand, 1) := by decide +kernel
theorem dX12_passesOnce_92 : decode cX12_passesOnce 92 = .ok (.ifCond .ne 6, 3) := by decide +kernel
theorem dX12_passesOnce_95 : decode cX12_passesOnce 95 = .ok (.goto 26, 3) := by decide +kernel
theorem dX12_passesOnce_98 : decode cX12_passesOnce 98 = .ok (.iload_n 2, 1) := by decide +kernel
theorem dX12_passesOnce_99 : decode cX12_passesOnce 99 = .ok (.ifCond .ne 14, 3) := by decide +kernel
theorem dX12_passesOnce_102 : decode cX12_passesOnce 102 = .ok (.aload_n 0, 1) := by decide +kernel
theorem dX12_passesOnce_103 : decode cX12_passesOnce 103 = .ok (.getfield 67, 3) := by decide +kernel
theorem dX12_passesOnce_106 : decode cX12_passesOnce 106 = .ok (.iload 6, 2) := by decide +kernel
theorem dX12_passesOnce_108 : decode cX12_passesOnce 108 = .ok (.iload_n 3, 1) := by decide +kernel
theorem dX12_passesOnce_109 : decode cX12_passesOnce 109 = .ok (.iastore, 1) := by decide +kernel
theorem dX12_passesOnce_110 : decode cX12_passesOnce 110 = .ok (.goto 11, 3) := by decide +kernel
theorem dX12_passesOnce_113 : decode cX12_passesOnce 113 = .ok (.aload_n 0, 1) := by decide +kernel
theorem dX12_passesOnce_114 : decode cX12_passesOnce 114 = .ok (.getfield 70, 3) := by decide +kernel
theorem dX12_passesOnce_117 : decode cX12_passesOnce 117 = .ok (.iload 6, 2) := by decide +kernel
theorem dX12_passesOnce_119 : decode cX12_passesOnce 119 = .ok (.iload_n 3, 1) := by decide +kernel
theorem dX12_passesOnce_120 : decode cX12_passesOnce 120 = .ok (.iastore, 1) := by decide +kernel
theorem dX12_passesOnce_121 : decode cX12_passesOnce 121 = .ok (.iinc 6 1, 3) := by decide +kernel
theorem dX12_passesOnce_124 : decode cX12_passesOnce 124 = .ok (.goto (-48), 3) := by decide +kernel
theorem dX12_passesOnce_127 : decode cX12_passesOnce 127 = .ok (.aload_n 0, 1) := by decide +kernel
theorem dX12_passesOnce_128 : decode cX12_passesOnce 128 = .ok (.dup, 1) := by decide +kernel
theorem dX12_passesOnce_129 : decode cX12_passesOnce 129 = .ok (.getfield 274, 3) := by decide +kernel
theorem dX12_passesOnce_132 : decode cX12_passesOnce 132 = .ok (.iconst 1, 1) := by decide +kernel
theorem dX12_passesOnce_133 : decode cX12_passesOnce 133 = .ok (.iadd, 1) := by decide +kernel
theorem dX12_passesOnce_134 : decode cX12_passesOnce 134 = .ok (.putfield 274, 3) := by decide +kernel
theorem dX12_passesOnce_137 : decode cX12_passesOnce 137 = .ok (.iconst 1, 1) := by decide +kernel
theorem dX12_passesOnce_138 : decode cX12_passesOnce 138 = .ok (.ireturn, 1) := by decide +kernel
theorem dX12_goDay_0 : decode cX12_goDay 0 = .ok (.aload_n 0, 1) := by decide +kernel
theorem dX12_goDay_1 : decode cX12_goDay 1 = .ok (.iconst 0, 1) := by decide +kernel
theorem dX12_goDay_2 : decode cX12_goDay 2 = .ok (.putfield 261, 3) := by decide +kernel
theorem dX12_goDay_5 : decode cX12_goDay 5 = .ok (.aload_n 0, 1) := by decide +kernel
theorem dX12_goDay_6 : decode cX12_goDay 6 = .ok (.iconst 0, 1) := by decide +kernel
theorem dX12_goDay_7 : decode cX12_goDay 7 = .ok (.putfield 264, 3) := by decide +kernel
theorem dX12_goDay_10 : decode cX12_goDay 10 = .ok (.aload_n 0, 1) := by decide +kernel
theorem dX12_goDay_11 : decode cX12_goDay 11 = .ok (.iconst 0, 1) := by decide +kernel
theorem dX12_goDay_12 : decode cX12_goDay 12 = .ok (.putfield 277, 3) := by decide +kernel
theorem dX12_goDay_15 : decode cX12_goDay 15 = .ok (.aload_n 0, 1) := by decide +kernel
theorem dX12_goDay_16 : decode cX12_goDay 16 = .ok (.iconst 0, 1) := by decide +kernel
theorem dX12_goDay_17 : decode cX12_goDay 17 = .ok (.putfield 274, 3) := by decide +kernel
theorem dX12_goDay_20 : decode cX12_goDay 20 = .ok (.iconst 0, 1) := by decide +kernel
theorem dX12_goDay_21 : decode cX12_goDay 21 = .ok (.istore_n 2, 1) := by decide +kernel
theorem dX12_goDay_22 : decode cX12_goDay 22 = .ok (.iload_n 2, 1) := by decide +kernel
theorem dX12_goDay_23 : decode cX12_goDay 23 = .ok (.bipush 12, 2) := by decide +kernel
theorem dX12_goDay_25 : decode cX12_goDay 25 = .ok (.if_icmp .ge 25, 3) := by decide +kernel
theorem dX12_goDay_28 : decode cX12_goDay 28 = .ok (.aload_n 0, 1) := by decide +kernel
theorem dX12_goDay_29 : decode cX12_goDay 29 = .ok (.getfield 67, 3) := by decide +kernel
theorem dX12_goDay_32 : decode cX12_goDay 32 = .ok (.iload_n 2, 1) := by decide +kernel
theorem dX12_goDay_33 : decode cX12_goDay 33 = .ok (.bipush (-2), 2) := by decide +kernel
theorem dX12_goDay_35 : decode cX12_goDay 35 = .ok (.iastore, 1) := by decide +kernel
theorem dX12_goDay_36 : decode cX12_goDay 36 = .ok (.aload_n 0, 1) := by decide +kernel
theorem dX12_goDay_37 : decode cX12_goDay 37 = .ok (.getfield 70, 3) := by decide +kernel
theorem dX12_goDay_40 : decode cX12_goDay 40 = .ok (.iload_n 2, 1) := by decide +kernel
theorem dX12_goDay_41 : decode cX12_goDay 41 = .ok (.bipush (-2), 2) := by decide +kernel
theorem dX12_goDay_43 : decode cX12_goDay 43 = .ok (.iastore, 1) := by decide +kernel
theorem dX12_goDay_44 : decode cX12_goDay 44 = .ok (.iinc 2 1, 3) := by decide +kernel
theorem dX12_goDay_47 : decode cX12_goDay 47 = .ok (.goto (-25), 3) := by decide +kernel
theorem dX12_goDay_50 : decode cX12_goDay 50 = .ok (.iconst 0, 1) := by decide +kernel
theorem dX12_goDay_51 : decode cX12_goDay 51 = .ok (.istore_n 2, 1) := by decide +kernel
theorem dX12_goDay_52 : decode cX12_goDay 52 = .ok (.iload_n 2, 1) := by decide +kernel
theorem dX12_goDay_53 : decode cX12_goDay 53 = .ok (.bipush 60, 2) := by decide +kernel
theorem dX12_goDay_55 : decode cX12_goDay 55 = .ok (.if_icmp .ge 110, 3) := by decide +kernel
theorem dX12_goDay_58 : decode cX12_goDay 58 = .ok (.iconst 0, 1) := by decide +kernel
theorem dX12_goDay_59 : decode cX12_goDay 59 = .ok (.istore_n 3, 1) := by decide +kernel
theorem dX12_goDay_60 : decode cX12_goDay 60 = .ok (.iload_n 3, 1) := by decide +kernel
theorem dX12_goDay_61 : decode cX12_goDay 61 = .ok (.aload_n 0, 1) := by decide +kernel
theorem dX12_goDay_62 : decode cX12_goDay 62 = .ok (.getfield 111, 3) := by decide +kernel
theorem dX12_goDay_65 : decode cX12_goDay 65 = .ok (.if_icmp .ge 46, 3) := by decide +kernel
theorem dX12_goDay_68 : decode cX12_goDay 68 = .ok (.iconst 0, 1) := by decide +kernel
theorem dX12_goDay_69 : decode cX12_goDay 69 = .ok (.istore 4, 2) := by decide +kernel
theorem dX12_goDay_71 : decode cX12_goDay 71 = .ok (.iload 4, 2) := by decide +kernel
theorem dX12_goDay_73 : decode cX12_goDay 73 = .ok (.iconst 2, 1) := by decide +kernel
theorem dX12_goDay_74 : decode cX12_goDay 74 = .ok (.if_icmp .ge 31, 3) := by decide +kernel
theorem dX12_goDay_77 : decode cX12_goDay 77 = .ok (.iconst 1, 1) := by decide +kernel
theorem dX12_goDay_78 : decode cX12_goDay 78 = .ok (.istore 5, 2) := by decide +kernel
theorem dX12_goDay_80 : decode cX12_goDay 80 = .ok (.iload 5, 2) := by decide +kernel
theorem dX12_goDay_82 : decode cX12_goDay 82 = .ok (.ifCond .eq 17, 3) := by decide +kernel
theorem dX12_goDay_85 : decode cX12_goDay 85 = .ok (.aload_n 0, 1) := by decide +kernel
theorem dX12_goDay_86 : decode cX12_goDay 86 = .ok (.iload_n 3, 1) := by decide +kernel
theorem dX12_goDay_87 : decode cX12_goDay 87 = .ok (.iload 4, 2) := by decide +kernel
theorem dX12_goDay_89 : decode cX12_goDay 89 = .ok (.iload_n 2, 1) := by decide +kernel
theorem dX12_goDay_90 : decode cX12_goDay 90 = .ok (.iload_n 1, 1) := by decide +kernel
theorem dX12_goDay_91 : decode cX12_goDay 91 = .ok (.invokevirtual 280, 3) := by decide +kernel
theorem dX12_goDay_94 : decode cX12_goDay 94 = .ok (.istore 5, 2) := by decide +kernel
theorem dX12_goDay_96 : decode cX12_goDay 96 = .ok (.goto (-16), 3) := by decide +kernel
theorem dX12_goDay_99 : decode cX12_goDay 99 = .ok (.iinc 4 1, 3) := by decide +kernel
theorem dX12_goDay_102 : decode cX12_goDay 102 = .ok (.goto (-31), 3) := by decide +kernel
theorem dX12_goDay_105 : decode cX12_goDay 105 = .ok (.iinc 3 1, 3) := by decide +kernel
theorem dX12_goDay_108 : decode cX12_goDay 108 = .ok (.goto (-48), 3) := by decide +kernel
theorem dX12_goDay_111 : decode cX12_goDay 111 = .ok (.iconst 0, 1) := by decide +kernel
theorem dX12_goDay_112 : decode cX12_goDay 112 = .ok (.istore_n 3, 1) := by decide +kernel
theorem dX12_goDay_113 : decode cX12_goDay 113 = .ok (.iload_n 3, 1) := by decide +kernel
theorem dX12_goDay_114 : decode cX12_goDay 114 = .ok (.aload_n 0, 1) := by decide +kernel
theorem dX12_goDay_115 : decode cX12_goDay 115 = .ok (.getfield 118, 3) := by decide +kernel
theorem dX12_goDay_118 : decode cX12_goDay 118 = .ok (.if_icmp .ge 41, 3) := by decide +kernel
theorem dX12_goDay_121 : decode cX12_goDay 121 = .ok (.aload_n 0, 1) := by decide +kernel
theorem dX12_goDay_122 : decode cX12_goDay 122 = .ok (.iload_n 3, 1) := by decide +kernel
theorem dX12_goDay_123 : decode cX12_goDay 123 = .ok (.iload_n 2, 1) := by decide +kernel
theorem dX12_goDay_124 : decode cX12_goDay 124 = .ok (.aload_n 0, 1) := by decide +kernel
theorem dX12_goDay_125 : decode cX12_goDay 125 = .ok (.getfield 261, 3) := by decide +kernel
theorem dX12_goDay_128 : decode cX12_goDay 128 = .ok (.aload_n 0, 1) := by decide +kernel
theorem dX12_goDay_129 : decode cX12_goDay 129 = .ok (.getfield 264, 3) := by decide +kernel
theorem dX12_goDay_132 : decode cX12_goDay 132 = .ok (.invokevirtual 249, 3) := by decide +kernel
theorem dX12_goDay_135 : decode cX12_goDay 135 = .ok (.ifCond .eq 18, 3) := by decide +kernel
theorem dX12_goDay_138 : decode cX12_goDay 138 = .ok (.aload_n 0, 1) := by decide +kernel
theorem dX12_goDay_139 : decode cX12_goDay 139 = .ok (.dup, 1) := by decide +kernel
theorem dX12_goDay_140 : decode cX12_goDay 140 = .ok (.getfield 277, 3) := by decide +kernel
theorem dX12_goDay_143 : decode cX12_goDay 143 = .ok (.aload_n 0, 1) := by decide +kernel
theorem dX12_goDay_144 : decode cX12_goDay 144 = .ok (.getfield 19, 3) := by decide +kernel
theorem dX12_goDay_147 : decode cX12_goDay 147 = .ok (.iload_n 3, 1) := by decide +kernel
theorem dX12_goDay_148 : decode cX12_goDay 148 = .ok (.iaload, 1) := by decide +kernel
theorem dX12_goDay_149 : decode cX12_goDay 149 = .ok (.iadd, 1) := by decide +kernel
theorem dX12_goDay_150 : decode cX12_goDay 150 = .ok (.putfield 277, 3) := by decide +kernel
theorem dX12_goDay_153 : decode cX12_goDay 153 = .ok (.iinc 3 1, 3) := by decide +kernel
theorem dX12_goDay_156 : decode cX12_goDay 156 = .ok (.goto (-43), 3) := by decide +kernel
theorem dX12_goDay_159 : decode cX12_goDay 159 = .ok (.iinc 2 1, 3) := by decide +kernel
theorem dX12_goDay_162 : decode cX12_goDay 162 = .ok (.goto (-110), 3) := by decide +kernel
theorem dX12_goDay_165 : decode cX12_goDay 165 = .ok (.return_, 1) := by decide +kernel
theorem dX12_day_0 : decode cX12_day 0 = .ok (.iload_n 1, 1) := by decide +kernel
theorem dX12_day_1 : decode cX12_day 1 = .ok (.iconst 0, 1) := by decide +kernel
theorem dX12_day_2 : decode cX12_day 2 = .ok (.iconst 2, 1) := by decide +kernel
theorem dX12_day_3 : decode cX12_day 3 = .ok (.invokestatic 114, 3) := by decide +kernel
theorem dX12_day_6 : decode cX12_day 6 = .ok (.ifCond .eq 20, 3) := by decide +kernel
theorem dX12_day_9 : decode cX12_day 9 = .ok (.aload_n 0, 1) := by decide +kernel
theorem dX12_day_10 : decode cX12_day 10 = .ok (.iload_n 2, 1) := by decide +kernel
theorem dX12_day_11 : decode cX12_day 11 = .ok (.invokevirtual 151, 3) := by decide +kernel
theorem dX12_day_14 : decode cX12_day 14 = .ok (.ifCond .eq 12, 3) := by decide +kernel
theorem dX12_day_17 : decode cX12_day 17 = .ok (.iload_n 3, 1) := by decide +kernel
theorem dX12_day_18 : decode cX12_day 18 = .ok (.iconst 0, 1) := by decide +kernel
theorem dX12_day_19 : decode cX12_day 19 = .ok (.iconst 1, 1) := by decide +kernel
theorem dX12_day_20 : decode cX12_day 20 = .ok (.invokestatic 114, 3) := by decide +kernel
theorem dX12_day_23 : decode cX12_day 23 = .ok (.ifCond .ne 5, 3) := by decide +kernel
theorem dX12_day_26 : decode cX12_day 26 = .ok (.iconst (-1), 1) := by decide +kernel
theorem dX12_day_27 : decode cX12_day 27 = .ok (.ireturn, 1) := by decide +kernel
theorem dX12_day_28 : decode cX12_day 28 = .ok (.aload_n 0, 1) := by decide +kernel
theorem dX12_day_29 : decode cX12_day 29 = .ok (.iload_n 1, 1) := by decide +kernel
theorem dX12_day_30 : decode cX12_day 30 = .ok (.invokevirtual 283, 3) := by decide +kernel
theorem dX12_day_33 : decode cX12_day 33 = .ok (.iload_n 3, 1) := by decide +kernel
theorem dX12_day_34 : decode cX12_day 34 = .ok (.ifCond .ne 12, 3) := by decide +kernel
theorem dX12_day_37 : decode cX12_day 37 = .ok (.aload_n 0, 1) := by decide +kernel
theorem dX12_day_38 : decode cX12_day 38 = .ok (.getfield 67, 3) := by decide +kernel
theorem dX12_day_41 : decode cX12_day 41 = .ok (.iload_n 2, 1) := by decide +kernel
theorem dX12_day_42 : decode cX12_day 42 = .ok (.iaload, 1) := by decide +kernel
theorem dX12_day_43 : decode cX12_day 43 = .ok (.goto 9, 3) := by decide +kernel
theorem dX12_day_46 : decode cX12_day 46 = .ok (.aload_n 0, 1) := by decide +kernel
theorem dX12_day_47 : decode cX12_day 47 = .ok (.getfield 70, 3) := by decide +kernel
theorem dX12_day_50 : decode cX12_day 50 = .ok (.iload_n 2, 1) := by decide +kernel
theorem dX12_day_51 : decode cX12_day 51 = .ok (.iaload, 1) := by decide +kernel
theorem dX12_day_52 : decode cX12_day 52 = .ok (.ireturn, 1) := by decide +kernel
theorem dX12_sum_0 : decode cX12_sum 0 = .ok (.iload_n 1, 1) := by decide +kernel
theorem dX12_sum_1 : decode cX12_sum 1 = .ok (.iconst 0, 1) := by decide +kernel
theorem dX12_sum_2 : decode cX12_sum 2 = .ok (.iconst 2, 1) := by decide +kernel
theorem dX12_sum_3 : decode cX12_sum 3 = .ok (.invokestatic 114, 3) := by decide +kernel
theorem dX12_sum_6 : decode cX12_sum 6 = .ok (.ifCond .eq 12, 3) := by decide +kernel
theorem dX12_sum_9 : decode cX12_sum 9 = .ok (.iload_n 2, 1) := by decide +kernel
theorem dX12_sum_10 : decode cX12_sum 10 = .ok (.iconst 0, 1) := by decide +kernel
theorem dX12_sum_11 : decode cX12_sum 11 = .ok (.iconst 2, 1) := by decide +kernel
theorem dX12_sum_12 : decode cX12_sum 12 = .ok (.invokestatic 114, 3) := by decide +kernel
theorem dX12_sum_15 : decode cX12_sum 15 = .ok (.ifCond .ne 5, 3) := by decide +kernel
theorem dX12_sum_18 : decode cX12_sum 18 = .ok (.iconst (-1), 1) := by decide +kernel
theorem dX12_sum_19 : decode cX12_sum 19 = .ok (.ireturn, 1) := by decide +kernel
theorem dX12_sum_20 : decode cX12_sum 20 = .ok (.aload_n 0, 1) := by decide +kernel
theorem dX12_sum_21 : decode cX12_sum 21 = .ok (.iload_n 1, 1) := by decide +kernel
theorem dX12_sum_22 : decode cX12_sum 22 = .ok (.invokevirtual 283, 3) := by decide +kernel
theorem dX12_sum_25 : decode cX12_sum 25 = .ok (.iload_n 2, 1) := by decide +kernel
theorem dX12_sum_26 : decode cX12_sum 26 = .ok (.ifCond .ne 10, 3) := by decide +kernel
theorem dX12_sum_29 : decode cX12_sum 29 = .ok (.aload_n 0, 1) := by decide +kernel
theorem dX12_sum_30 : decode cX12_sum 30 = .ok (.getfield 277, 3) := by decide +kernel
theorem dX12_sum_33 : decode cX12_sum 33 = .ok (.goto 22, 3) := by decide +kernel
theorem dX12_sum_36 : decode cX12_sum 36 = .ok (.iload_n 2, 1) := by decide +kernel
theorem dX12_sum_37 : decode cX12_sum 37 = .ok (.iconst 1, 1) := by decide +kernel
theorem dX12_sum_38 : decode cX12_sum 38 = .ok (.if_icmp .ne 10, 3) := by decide +kernel
theorem dX12_sum_41 : decode cX12_sum 41 = .ok (.aload_n 0, 1) := by decide +kernel
theorem dX12_sum_42 : decode cX12_sum 42 = .ok (.getfield 274, 3) := by decide +kernel
theorem dX12_sum_45 : decode cX12_sum 45 = .ok (.goto 10, 3) := by decide +kernel
theorem dX12_sum_48 : decode cX12_sum 48 = .ok (.aload_n 0, 1) := by decide +kernel
theorem dX12_sum_49 : decode cX12_sum 49 = .ok (.getfield 261, 3) := by decide +kernel
theorem dX12_sum_52 : decode cX12_sum 52 = .ok (.invokestatic 252, 3) := by decide +kernel
theorem dX12_sum_55 : decode cX12_sum 55 = .ok (.ireturn, 1) := by decide +kernel
theorem dX12_waitingCost_0 : decode cX12_waitingCost 0 = .ok (.iconst 0, 1) := by decide +kernel
theorem dX12_waitingCost_1 : decode cX12_waitingCost 1 = .ok (.istore 4, 2) := by decide +kernel
theorem dX12_waitingCost_3 : decode cX12_waitingCost 3 = .ok (.iconst 0, 1) := by decide +kernel
theorem dX12_waitingCost_4 : decode cX12_waitingCost 4 = .ok (.istore 5, 2) := by decide +kernel
theorem dX12_waitingCost_6 : decode cX12_waitingCost 6 = .ok (.iload 5, 2) := by decide +kernel
theorem dX12_waitingCost_8 : decode cX12_waitingCost 8 = .ok (.aload_n 0, 1) := by decide +kernel
theorem dX12_waitingCost_9 : decode cX12_waitingCost 9 = .ok (.getfield 118, 3) := by decide +kernel
theorem dX12_waitingCost_12 : decode cX12_waitingCost 12 = .ok (.if_icmp .ge 33, 3) := by decide +kernel
theorem dX12_waitingCost_15 : decode cX12_waitingCost 15 = .ok (.aload_n 0, 1) := by decide +kernel
theorem dX12_waitingCost_16 : decode cX12_waitingCost 16 = .ok (.iload 5, 2) := by decide +kernel
theorem dX12_waitingCost_18 : decode cX12_waitingCost 18 = .ok (.iload_n 1, 1) := by decide +kernel
theorem dX12_waitingCost_19 : decode cX12_waitingCost 19 = .ok (.iload_n 2, 1) := by decide +kernel
theorem dX12_waitingCost_20 : decode cX12_waitingCost 20 = .ok (.iload_n 3, 1) := by decide +kernel
theorem dX12_waitingCost_21 : decode cX12_waitingCost 21 = .ok (.invokevirtual 249, 3) := by decide +kernel
theorem dX12_waitingCost_24 : decode cX12_waitingCost 24 = .ok (.ifCond .eq 15, 3) := by decide +kernel
theorem dX12_waitingCost_27 : decode cX12_waitingCost 27 = .ok (.iload 4, 2) := by decide +kernel
theorem dX12_waitingCost_29 : decode cX12_waitingCost 29 = .ok (.aload_n 0, 1) := by decide +kernel
theorem dX12_waitingCost_30 : decode cX12_waitingCost 30 = .ok (.getfield 19, 3) := by decide +kernel
theorem dX12_waitingCost_33 : decode cX12_waitingCost 33 = .ok (.iload 5, 2) := by decide +kernel
theorem dX12_waitingCost_35 : decode cX12_waitingCost 35 = .ok (.iaload, 1) := by decide +kernel
theorem dX12_waitingCost_36 : decode cX12_waitingCost 36 = .ok (.iadd, 1) := by decide +kernel
theorem dX12_waitingCost_37 : decode cX12_waitingCost 37 = .ok (.istore 4, 2) := by decide +kernel
theorem dX12_waitingCost_39 : decode cX12_waitingCost 39 = .ok (.iinc 5 1, 3) := by decide +kernel
theorem dX12_waitingCost_42 : decode cX12_waitingCost 42 = .ok (.goto (-36), 3) := by decide +kernel
theorem dX12_waitingCost_45 : decode cX12_waitingCost 45 = .ok (.iload 4, 2) := by decide +kernel
theorem dX12_waitingCost_47 : decode cX12_waitingCost 47 = .ok (.ireturn, 1) := by decide +kernel
theorem dX12_mayOf_0 : decode cX12_mayOf 0 = .ok (.iconst 0, 1) := by decide +kernel
theorem dX12_mayOf_1 : decode cX12_mayOf 1 = .ok (.istore_n 3, 1) := by decide +kernel
theorem dX12_mayOf_2 : decode cX12_mayOf 2 = .ok (.iconst 0, 1) := by decide +kernel
theorem dX12_mayOf_3 : decode cX12_mayOf 3 = .ok (.istore 4, 2) := by decide +kernel
theorem dX12_mayOf_5 : decode cX12_mayOf 5 = .ok (.iload 4, 2) := by decide +kernel
theorem dX12_mayOf_7 : decode cX12_mayOf 7 = .ok (.aload_n 0, 1) := by decide +kernel
theorem dX12_mayOf_8 : decode cX12_mayOf 8 = .ok (.getfield 118, 3) := by decide +kernel
theorem dX12_mayOf_11 : decode cX12_mayOf 11 = .ok (.if_icmp .ge 28, 3) := by decide +kernel
theorem dX12_mayOf_14 : decode cX12_mayOf 14 = .ok (.aload_n 0, 1) := by decide +kernel
theorem dX12_mayOf_15 : decode cX12_mayOf 15 = .ok (.iload 4, 2) := by decide +kernel
theorem dX12_mayOf_17 : decode cX12_mayOf 17 = .ok (.iconst 0, 1) := by decide +kernel
theorem dX12_mayOf_18 : decode cX12_mayOf 18 = .ok (.iload_n 1, 1) := by decide +kernel
theorem dX12_mayOf_19 : decode cX12_mayOf 19 = .ok (.iload_n 2, 1) := by decide +kernel
theorem dX12_mayOf_20 : decode cX12_mayOf 20 = .ok (.invokevirtual 233, 3) := by decide +kernel
theorem dX12_mayOf_23 : decode cX12_mayOf 23 = .ok (.ifCond .eq 10, 3) := by decide +kernel
theorem dX12_mayOf_26 : decode cX12_mayOf 26 = .ok (.iload_n 3, 1) := by decide +kernel
theorem dX12_mayOf_27 : decode cX12_mayOf 27 = .ok (.iconst 1, 1) := by decide +kernel
theorem dX12_mayOf_28 : decode cX12_mayOf 28 = .ok (.iload 4, 2) := by decide +kernel
theorem dX12_mayOf_30 : decode cX12_mayOf 30 = .ok (.ishl, 1) := by decide +kernel
theorem dX12_mayOf_31 : decode cX12_mayOf 31 = .ok (.ior, 1) := by decide +kernel
theorem dX12_mayOf_32 : decode cX12_mayOf 32 = .ok (.istore_n 3, 1) := by decide +kernel
theorem dX12_mayOf_33 : decode cX12_mayOf 33 = .ok (.iinc 4 1, 3) := by decide +kernel
theorem dX12_mayOf_36 : decode cX12_mayOf 36 = .ok (.goto (-31), 3) := by decide +kernel
theorem dX12_mayOf_39 : decode cX12_mayOf 39 = .ok (.iload_n 3, 1) := by decide +kernel
theorem dX12_mayOf_40 : decode cX12_mayOf 40 = .ok (.ireturn, 1) := by decide +kernel
theorem dX12_waitingFor_0 : decode cX12_waitingFor 0 = .ok (.iconst 0, 1) := by decide +kernel
theorem dX12_waitingFor_1 : decode cX12_waitingFor 1 = .ok (.istore 5, 2) := by decide +kernel
theorem dX12_waitingFor_3 : decode cX12_waitingFor 3 = .ok (.iconst 0, 1) := by decide +kernel
theorem dX12_waitingFor_4 : decode cX12_waitingFor 4 = .ok (.istore 6, 2) := by decide +kernel
theorem dX12_waitingFor_6 : decode cX12_waitingFor 6 = .ok (.iload 6, 2) := by decide +kernel
theorem dX12_waitingFor_8 : decode cX12_waitingFor 8 = .ok (.aload_n 0, 1) := by decide +kernel
theorem dX12_waitingFor_9 : decode cX12_waitingFor 9 = .ok (.getfield 118, 3) := by decide +kernel
theorem dX12_waitingFor_12 : decode cX12_waitingFor 12 = .ok (.if_icmp .ge 41, 3) := by decide +kernel
theorem dX12_waitingFor_15 : decode cX12_waitingFor 15 = .ok (.iload_n 3, 1) := by decide +kernel
theorem dX12_waitingFor_16 : decode cX12_waitingFor 16 = .ok (.iload 6, 2) := by decide +kernel
theorem dX12_waitingFor_18 : decode cX12_waitingFor 18 = .ok (.ishr, 1) := by decide +kernel
theorem dX12_waitingFor_19 : decode cX12_waitingFor 19 = .ok (.iconst 1, 1) := by decide +kernel
theorem dX12_waitingFor_20 : decode cX12_waitingFor 20 = .ok (.iand, 1) := by decide +kernel
theorem dX12_waitingFor_21 : decode cX12_waitingFor 21 = .ok (.iload_n 1, 1) := by decide +kernel
theorem dX12_waitingFor_22 : decode cX12_waitingFor 22 = .ok (.if_icmp .ne 25, 3) := by decide +kernel
theorem dX12_waitingFor_25 : decode cX12_waitingFor 25 = .ok (.aload_n 0, 1) := by decide +kernel
theorem dX12_waitingFor_26 : decode cX12_waitingFor 26 = .ok (.iload 6, 2) := by decide +kernel
theorem dX12_waitingFor_28 : decode cX12_waitingFor 28 = .ok (.iload_n 2, 1) := by decide +kernel
theorem dX12_waitingFor_29 : decode cX12_waitingFor 29 = .ok (.iload_n 3, 1) := by decide +kernel
theorem dX12_waitingFor_30 : decode cX12_waitingFor 30 = .ok (.iload 4, 2) := by decide +kernel
theorem dX12_waitingFor_32 : decode cX12_waitingFor 32 = .ok (.invokevirtual 249, 3) := by decide +kernel
theorem dX12_waitingFor_35 : decode cX12_waitingFor 35 = .ok (.ifCond .eq 12, 3) := by decide +kernel
theorem dX12_waitingFor_38 : decode cX12_waitingFor 38 = .ok (.iload 5, 2) := by decide +kernel
theorem dX12_waitingFor_40 : decode cX12_waitingFor 40 = .ok (.iconst 1, 1) := by decide +kernel
theorem dX12_waitingFor_41 : decode cX12_waitingFor 41 = .ok (.iload 6, 2) := by decide +kernel
theorem dX12_waitingFor_43 : decode cX12_waitingFor 43 = .ok (.ishl, 1) := by decide +kernel
theorem dX12_waitingFor_44 : decode cX12_waitingFor 44 = .ok (.ior, 1) := by decide +kernel
theorem dX12_waitingFor_45 : decode cX12_waitingFor 45 = .ok (.istore 5, 2) := by decide +kernel
theorem dX12_waitingFor_47 : decode cX12_waitingFor 47 = .ok (.iinc 6 1, 3) := by decide +kernel
theorem dX12_waitingFor_50 : decode cX12_waitingFor 50 = .ok (.goto (-44), 3) := by decide +kernel
theorem dX12_waitingFor_53 : decode cX12_waitingFor 53 = .ok (.iload 5, 2) := by decide +kernel
theorem dX12_waitingFor_55 : decode cX12_waitingFor 55 = .ok (.ireturn, 1) := by decide +kernel
theorem dX12_bestIn_0 : decode cX12_bestIn 0 = .ok (.aload_n 0, 1) := by decide +kernel
theorem dX12_bestIn_1 : decode cX12_bestIn 1 = .ok (.iconst 1, 1) := by decide +kernel
theorem dX12_bestIn_2 : decode cX12_bestIn 2 = .ok (.iload_n 1, 1) := by decide +kernel
theorem dX12_bestIn_3 : decode cX12_bestIn 3 = .ok (.iload_n 2, 1) := by decide +kernel
theorem dX12_bestIn_4 : decode cX12_bestIn 4 = .ok (.iload_n 3, 1) := by decide +kernel
theorem dX12_bestIn_5 : decode cX12_bestIn 5 = .ok (.invokevirtual 287, 3) := by decide +kernel
theorem dX12_bestIn_8 : decode cX12_bestIn 8 = .ok (.iload 4, 2) := by decide +kernel
theorem dX12_bestIn_10 : decode cX12_bestIn 10 = .ok (.iand, 1) := by decide +kernel
theorem dX12_bestIn_11 : decode cX12_bestIn 11 = .ok (.istore 5, 2) := by decide +kernel
theorem dX12_bestIn_13 : decode cX12_bestIn 13 = .ok (.ldc_w 290, 3) := by decide +kernel
theorem dX12_bestIn_16 : decode cX12_bestIn 16 = .ok (.istore 6, 2) := by decide +kernel
theorem dX12_bestIn_18 : decode cX12_bestIn 18 = .ok (.iconst 0, 1) := by decide +kernel
theorem dX12_bestIn_19 : decode cX12_bestIn 19 = .ok (.istore 7, 2) := by decide +kernel
theorem dX12_bestIn_21 : decode cX12_bestIn 21 = .ok (.iload 7, 2) := by decide +kernel
theorem dX12_bestIn_23 : decode cX12_bestIn 23 = .ok (.iload 5, 2) := by decide +kernel
theorem dX12_bestIn_25 : decode cX12_bestIn 25 = .ok (.if_icmp .gt 75, 3) := by decide +kernel
theorem dX12_bestIn_28 : decode cX12_bestIn 28 = .ok (.iload 7, 2) := by decide +kernel
theorem dX12_bestIn_30 : decode cX12_bestIn 30 = .ok (.iload 5, 2) := by decide +kernel
theorem dX12_bestIn_32 : decode cX12_bestIn 32 = .ok (.iconst (-1), 1) := by decide +kernel
theorem dX12_bestIn_33 : decode cX12_bestIn 33 = .ok (.ixor, 1) := by decide +kernel
theorem dX12_bestIn_34 : decode cX12_bestIn 34 = .ok (.iand, 1) := by decide +kernel
theorem dX12_bestIn_35 : decode cX12_bestIn 35 = .ok (.ifCond .ne 59, 3) := by decide +kernel
theorem dX12_bestIn_38 : decode cX12_bestIn 38 = .ok (.iload 7, 2) := by decide +kernel
theorem dX12_bestIn_40 : decode cX12_bestIn 40 = .ok (.invokestatic 252, 3) := by decide +kernel
theorem dX12_bestIn_43 : decode cX12_bestIn 43 = .ok (.aload_n 0, 1) := by decide +kernel
theorem dX12_bestIn_44 : decode cX12_bestIn 44 = .ok (.getfield 7, 3) := by decide +kernel
theorem dX12_bestIn_47 : decode cX12_bestIn 47 = .ok (.iconst 0, 1) := by decide +kernel
theorem dX12_bestIn_48 : decode cX12_bestIn 48 = .ok (.iaload, 1) := by decide +kernel
theorem dX12_bestIn_49 : decode cX12_bestIn 49 = .ok (.irem, 1) := by decide +kernel
theorem dX12_bestIn_50 : decode cX12_bestIn 50 = .ok (.ifCond .eq 6, 3) := by decide +kernel
theorem dX12_bestIn_53 : decode cX12_bestIn 53 = .ok (.goto 41, 3) := by decide +kernel
theorem dX12_bestIn_56 : decode cX12_bestIn 56 = .ok (.aload_n 0, 1) := by decide +kernel
theorem dX12_bestIn_57 : decode cX12_bestIn 57 = .ok (.iload_n 1, 1) := by decide +kernel
theorem dX12_bestIn_58 : decode cX12_bestIn 58 = .ok (.iload_n 2, 1) := by decide +kernel
theorem dX12_bestIn_59 : decode cX12_bestIn 59 = .ok (.iload 7, 2) := by decide +kernel
theorem dX12_bestIn_61 : decode cX12_bestIn 61 = .ok (.ixor, 1) := by decide +kernel
theorem dX12_bestIn_62 : decode cX12_bestIn 62 = .ok (.iload_n 3, 1) := by decide +kernel
theorem dX12_bestIn_63 : decode cX12_bestIn 63 = .ok (.invokevirtual 291, 3) := by decide +kernel
theorem dX12_bestIn_66 : decode cX12_bestIn 66 = .ok (.aload_n 0, 1) := by decide +kernel
theorem dX12_bestIn_67 : decode cX12_bestIn 67 = .ok (.getfield 76, 3) := by decide +kernel
theorem dX12_bestIn_70 : decode cX12_bestIn 70 = .ok (.bipush 32, 2) := by decide +kernel
theorem dX12_bestIn_72 : decode cX12_bestIn 72 = .ok (.iload_n 2, 1) := by decide +kernel
theorem dX12_bestIn_73 : decode cX12_bestIn 73 = .ok (.iload 7, 2) := by decide +kernel
theorem dX12_bestIn_75 : decode cX12_bestIn 75 = .ok (.ixor, 1) := by decide +kernel
theorem dX12_bestIn_76 : decode cX12_bestIn 76 = .ok (.imul, 1) := by decide +kernel
theorem dX12_bestIn_77 : decode cX12_bestIn 77 = .ok (.iload_n 3, 1) := by decide +kernel
theorem dX12_bestIn_78 : decode cX12_bestIn 78 = .ok (.iadd, 1) := by decide +kernel
theorem dX12_bestIn_79 : decode cX12_bestIn 79 = .ok (.iaload, 1) := by decide +kernel
theorem dX12_bestIn_80 : decode cX12_bestIn 80 = .ok (.iadd, 1) := by decide +kernel
theorem dX12_bestIn_81 : decode cX12_bestIn 81 = .ok (.istore 8, 2) := by decide +kernel
theorem dX12_bestIn_83 : decode cX12_bestIn 83 = .ok (.iload 8, 2) := by decide +kernel
theorem dX12_bestIn_85 : decode cX12_bestIn 85 = .ok (.iload 6, 2) := by decide +kernel
theorem dX12_bestIn_87 : decode cX12_bestIn 87 = .ok (.if_icmp .ge 7, 3) := by decide +kernel
theorem dX12_bestIn_90 : decode cX12_bestIn 90 = .ok (.iload 8, 2) := by decide +kernel
theorem dX12_bestIn_92 : decode cX12_bestIn 92 = .ok (.istore 6, 2) := by decide +kernel
theorem dX12_bestIn_94 : decode cX12_bestIn 94 = .ok (.iinc 7 1, 3) := by decide +kernel
theorem dX12_bestIn_97 : decode cX12_bestIn 97 = .ok (.goto (-76), 3) := by decide +kernel
theorem dX12_bestIn_100 : decode cX12_bestIn 100 = .ok (.iload 6, 2) := by decide +kernel
theorem dX12_bestIn_102 : decode cX12_bestIn 102 = .ok (.ireturn, 1) := by decide +kernel
theorem dX12_bestOut_0 : decode cX12_bestOut 0 = .ok (.aload_n 0, 1) := by decide +kernel
theorem dX12_bestOut_1 : decode cX12_bestOut 1 = .ok (.iconst 0, 1) := by decide +kernel
theorem dX12_bestOut_2 : decode cX12_bestOut 2 = .ok (.iload_n 1, 1) := by decide +kernel
theorem dX12_bestOut_3 : decode cX12_bestOut 3 = .ok (.iload_n 2, 1) := by decide +kernel
theorem dX12_bestOut_4 : decode cX12_bestOut 4 = .ok (.iload_n 3, 1) := by decide +kernel
theorem dX12_bestOut_5 : decode cX12_bestOut 5 = .ok (.invokevirtual 287, 3) := by decide +kernel
theorem dX12_bestOut_8 : decode cX12_bestOut 8 = .ok (.iload 4, 2) := by decide +kernel
theorem dX12_bestOut_10 : decode cX12_bestOut 10 = .ok (.iand, 1) := by decide +kernel
theorem dX12_bestOut_11 : decode cX12_bestOut 11 = .ok (.istore 6, 2) := by decide +kernel
theorem dX12_bestOut_13 : decode cX12_bestOut 13 = .ok (.ldc_w 290, 3) := by decide +kernel
theorem dX12_bestOut_16 : decode cX12_bestOut 16 = .ok (.istore 7, 2) := by decide +kernel
theorem dX12_bestOut_18 : decode cX12_bestOut 18 = .ok (.iconst 0, 1) := by decide +kernel
theorem dX12_bestOut_19 : decode cX12_bestOut 19 = .ok (.istore 8, 2) := by decide +kernel
theorem dX12_bestOut_21 : decode cX12_bestOut 21 = .ok (.iload 8, 2) := by decide +kernel
theorem dX12_bestOut_23 : decode cX12_bestOut 23 = .ok (.iload 6, 2) := by decide +kernel
theorem dX12_bestOut_25 : decode cX12_bestOut 25 = .ok (.if_icmp .gt 65, 3) := by decide +kernel
theorem dX12_bestOut_28 : decode cX12_bestOut 28 = .ok (.iload 8, 2) := by decide +kernel
theorem dX12_bestOut_30 : decode cX12_bestOut 30 = .ok (.iload 6, 2) := by decide +kernel
theorem dX12_bestOut_32 : decode cX12_bestOut 32 = .ok (.iconst (-1), 1) := by decide +kernel
theorem dX12_bestOut_33 : decode cX12_bestOut 33 = .ok (.ixor, 1) := by decide +kernel
theorem dX12_bestOut_34 : decode cX12_bestOut 34 = .ok (.iand, 1) := by decide +kernel
theorem dX12_bestOut_35 : decode cX12_bestOut 35 = .ok (.ifCond .ne 49, 3) := by decide +kernel
theorem dX12_bestOut_38 : decode cX12_bestOut 38 = .ok (.iload 8, 2) := by decide +kernel
theorem dX12_bestOut_40 : decode cX12_bestOut 40 = .ok (.invokestatic 252, 3) := by decide +kernel
theorem dX12_bestOut_43 : decode cX12_bestOut 43 = .ok (.aload_n 0, 1) := by decide +kernel
theorem dX12_bestOut_44 : decode cX12_bestOut 44 = .ok (.getfield 7, 3) := by decide +kernel
theorem dX12_bestOut_47 : decode cX12_bestOut 47 = .ok (.iconst 0, 1) := by decide +kernel
theorem dX12_bestOut_48 : decode cX12_bestOut 48 = .ok (.iaload, 1) := by decide +kernel
theorem dX12_bestOut_49 : decode cX12_bestOut 49 = .ok (.irem, 1) := by decide +kernel
theorem dX12_bestOut_50 : decode cX12_bestOut 50 = .ok (.ifCond .eq 6, 3) := by decide +kernel
theorem dX12_bestOut_53 : decode cX12_bestOut 53 = .ok (.goto 31, 3) := by decide +kernel
theorem dX12_bestOut_56 : decode cX12_bestOut 56 = .ok (.aload_n 0, 1) := by decide +kernel
theorem dX12_bestOut_57 : decode cX12_bestOut 57 = .ok (.iload_n 1, 1) := by decide +kernel
theorem dX12_bestOut_58 : decode cX12_bestOut 58 = .ok (.iload_n 2, 1) := by decide +kernel
theorem dX12_bestOut_59 : decode cX12_bestOut 59 = .ok (.iload 8, 2) := by decide +kernel
theorem dX12_bestOut_61 : decode cX12_bestOut 61 = .ok (.ior, 1) := by decide +kernel
theorem dX12_bestOut_62 : decode cX12_bestOut 62 = .ok (.iload_n 3, 1) := by decide +kernel
theorem dX12_bestOut_63 : decode cX12_bestOut 63 = .ok (.iload 8, 2) := by decide +kernel
theorem dX12_bestOut_65 : decode cX12_bestOut 65 = .ok (.ior, 1) := by decide +kernel
theorem dX12_bestOut_66 : decode cX12_bestOut 66 = .ok (.iload 5, 2) := by decide +kernel
theorem dX12_bestOut_68 : decode cX12_bestOut 68 = .ok (.invokevirtual 294, 3) := by decide +kernel
theorem dX12_bestOut_71 : decode cX12_bestOut 71 = .ok (.istore 9, 2) := by decide +kernel
theorem dX12_bestOut_73 : decode cX12_bestOut 73 = .ok (.iload 9, 2) := by decide +kernel
theorem dX12_bestOut_75 : decode cX12_bestOut 75 = .ok (.iload 7, 2) := by decide +kernel
theorem dX12_bestOut_77 : decode cX12_bestOut 77 = .ok (.if_icmp .ge 7, 3) := by decide +kernel
theorem dX12_bestOut_80 : decode cX12_bestOut 80 = .ok (.iload 9, 2) := by decide +kernel
theorem dX12_bestOut_82 : decode cX12_bestOut 82 = .ok (.istore 7, 2) := by decide +kernel
theorem dX12_bestOut_84 : decode cX12_bestOut 84 = .ok (.iinc 8 1, 3) := by decide +kernel
theorem dX12_bestOut_87 : decode cX12_bestOut 87 = .ok (.goto (-66), 3) := by decide +kernel
theorem dX12_bestOut_90 : decode cX12_bestOut 90 = .ok (.iload 7, 2) := by decide +kernel
theorem dX12_bestOut_92 : decode cX12_bestOut 92 = .ok (.ireturn, 1) := by decide +kernel
theorem dX12_best_0 : decode cX12_best 0 = .ok (.aload_n 0, 1) := by decide +kernel
theorem dX12_best_1 : decode cX12_best 1 = .ok (.getfield 118, 3) := by decide +kernel
theorem dX12_best_4 : decode cX12_best 4 = .ok (.iconst 5, 1) := by decide +kernel
theorem dX12_best_5 : decode cX12_best 5 = .ok (.if_icmp .gt 10, 3) := by decide +kernel
theorem dX12_best_8 : decode cX12_best 8 = .ok (.aload_n 0, 1) := by decide +kernel
theorem dX12_best_9 : decode cX12_best 9 = .ok (.getfield 111, 3) := by decide +kernel
theorem dX12_best_12 : decode cX12_best 12 = .ok (.ifCond .ne 6, 3) := by decide +kernel
theorem dX12_best_15 : decode cX12_best 15 = .ok (.bipush (-5), 2) := by decide +kernel
theorem dX12_best_17 : decode cX12_best 17 = .ok (.ireturn, 1) := by decide +kernel
theorem dX12_best_18 : decode cX12_best 18 = .ok (.iconst 0, 1) := by decide +kernel
theorem dX12_best_19 : decode cX12_best 19 = .ok (.istore_n 1, 1) := by decide +kernel
theorem dX12_best_20 : decode cX12_best 20 = .ok (.iload_n 1, 1) := by decide +kernel
theorem dX12_best_21 : decode cX12_best 21 = .ok (.sipush 1024, 3) := by decide +kernel
theorem dX12_best_24 : decode cX12_best 24 = .ok (.if_icmp .ge 16, 3) := by decide +kernel
theorem dX12_best_27 : decode cX12_best 27 = .ok (.aload_n 0, 1) := by decide +kernel
theorem dX12_best_28 : decode cX12_best 28 = .ok (.getfield 76, 3) := by decide +kernel
theorem dX12_best_31 : decode cX12_best 31 = .ok (.iload_n 1, 1) := by decide +kernel
theorem dX12_best_32 : decode cX12_best 32 = .ok (.iconst 0, 1) := by decide +kernel
theorem dX12_best_33 : decode cX12_best 33 = .ok (.iastore, 1) := by decide +kernel
theorem dX12_best_34 : decode cX12_best 34 = .ok (.iinc 1 1, 3) := by decide +kernel
theorem dX12_best_37 : decode cX12_best 37 = .ok (.goto (-17), 3) := by decide +kernel
theorem dX12_best_40 : decode cX12_best 40 = .ok (.iconst 1, 1) := by decide +kernel
theorem dX12_best_41 : decode cX12_best 41 = .ok (.aload_n 0, 1) := by decide +kernel
theorem dX12_best_42 : decode cX12_best 42 = .ok (.getfield 118, 3) := by decide +kernel
theorem dX12_best_45 : decode cX12_best 45 = .ok (.ishl, 1) := by decide +kernel
theorem dX12_best_46 : decode cX12_best 46 = .ok (.iconst 1, 1) := by decide +kernel
theorem dX12_best_47 : decode cX12_best 47 = .ok (.isub, 1) := by decide +kernel
theorem dX12_best_48 : decode cX12_best 48 = .ok (.istore_n 1, 1) := by decide +kernel
theorem dX12_best_49 : decode cX12_best 49 = .ok (.bipush 59, 2) := by decide +kernel
theorem dX12_best_51 : decode cX12_best 51 = .ok (.istore_n 2, 1) := by decide +kernel
theorem dX12_best_52 : decode cX12_best 52 = .ok (.iload_n 2, 1) := by decide +kernel
theorem dX12_best_53 : decode cX12_best 53 = .ok (.ifCond .lt 121, 3) := by decide +kernel
theorem dX12_best_56 : decode cX12_best 56 = .ok (.aload_n 0, 1) := by decide +kernel
theorem dX12_best_57 : decode cX12_best 57 = .ok (.iconst 0, 1) := by decide +kernel
theorem dX12_best_58 : decode cX12_best 58 = .ok (.iload_n 2, 1) := by decide +kernel
theorem dX12_best_59 : decode cX12_best 59 = .ok (.invokevirtual 297, 3) := by decide +kernel
theorem dX12_best_62 : decode cX12_best 62 = .ok (.istore_n 3, 1) := by decide +kernel
theorem dX12_best_63 : decode cX12_best 63 = .ok (.aload_n 0, 1) := by decide +kernel
theorem dX12_best_64 : decode cX12_best 64 = .ok (.iconst 1, 1) := by decide +kernel
theorem dX12_best_65 : decode cX12_best 65 = .ok (.iload_n 2, 1) := by decide +kernel
theorem dX12_best_66 : decode cX12_best 66 = .ok (.invokevirtual 297, 3) := by decide +kernel
theorem dX12_best_69 : decode cX12_best 69 = .ok (.istore 4, 2) := by decide +kernel
theorem dX12_best_71 : decode cX12_best 71 = .ok (.iconst 0, 1) := by decide +kernel
theorem dX12_best_72 : decode cX12_best 72 = .ok (.istore 5, 2) := by decide +kernel
theorem dX12_best_74 : decode cX12_best 74 = .ok (.iload 5, 2) := by decide +kernel
theorem dX12_best_76 : decode cX12_best 76 = .ok (.iload_n 1, 1) := by decide +kernel
theorem dX12_best_77 : decode cX12_best 77 = .ok (.if_icmp .gt 60, 3) := by decide +kernel
theorem dX12_best_80 : decode cX12_best 80 = .ok (.iconst 0, 1) := by decide +kernel
theorem dX12_best_81 : decode cX12_best 81 = .ok (.istore 6, 2) := by decide +kernel
theorem dX12_best_83 : decode cX12_best 83 = .ok (.iload 6, 2) := by decide +kernel
theorem dX12_best_85 : decode cX12_best 85 = .ok (.iload 5, 2) := by decide +kernel
theorem dX12_best_87 : decode cX12_best 87 = .ok (.if_icmp .gt 44, 3) := by decide +kernel
theorem dX12_best_90 : decode cX12_best 90 = .ok (.iload 6, 2) := by decide +kernel
theorem dX12_best_92 : decode cX12_best 92 = .ok (.iload 5, 2) := by decide +kernel
theorem dX12_best_94 : decode cX12_best 94 = .ok (.iconst (-1), 1) := by decide +kernel
theorem dX12_best_95 : decode cX12_best 95 = .ok (.ixor, 1) := by decide +kernel
theorem dX12_best_96 : decode cX12_best 96 = .ok (.iand, 1) := by decide +kernel
theorem dX12_best_97 : decode cX12_best 97 = .ok (.ifCond .ne 28, 3) := by decide +kernel
theorem dX12_best_100 : decode cX12_best 100 = .ok (.aload_n 0, 1) := by decide +kernel
theorem dX12_best_101 : decode cX12_best 101 = .ok (.getfield 73, 3) := by decide +kernel
theorem dX12_best_104 : decode cX12_best 104 = .ok (.bipush 32, 2) := by decide +kernel
theorem dX12_best_106 : decode cX12_best 106 = .ok (.iload 6, 2) := by decide +kernel
theorem dX12_best_108 : decode cX12_best 108 = .ok (.imul, 1) := by decide +kernel
theorem dX12_best_109 : decode cX12_best 109 = .ok (.iload 5, 2) := by decide +kernel
theorem dX12_best_111 : decode cX12_best 111 = .ok (.iadd, 1) := by decide +kernel
theorem dX12_best_112 : decode cX12_best 112 = .ok (.aload_n 0, 1) := by decide +kernel
theorem dX12_best_113 : decode cX12_best 113 = .ok (.iload_n 2, 1) := by decide +kernel
theorem dX12_best_114 : decode cX12_best 114 = .ok (.iload 6, 2) := by decide +kernel
theorem dX12_best_116 : decode cX12_best 116 = .ok (.iload 5, 2) := by decide +kernel
theorem dX12_best_118 : decode cX12_best 118 = .ok (.iload_n 3, 1) := by decide +kernel
theorem dX12_best_119 : decode cX12_best 119 = .ok (.iload 4, 2) := by decide +kernel
theorem dX12_best_121 : decode cX12_best 121 = .ok (.invokevirtual 300, 3) := by decide +kernel
theorem dX12_best_124 : decode cX12_best 124 = .ok (.iastore, 1) := by decide +kernel
theorem dX12_best_125 : decode cX12_best 125 = .ok (.iinc 6 1, 3) := by decide +kernel
theorem dX12_best_128 : decode cX12_best 128 = .ok (.goto (-45), 3) := by decide +kernel
theorem dX12_best_131 : decode cX12_best 131 = .ok (.iinc 5 1, 3) := by decide +kernel
theorem dX12_best_134 : decode cX12_best 134 = .ok (.goto (-60), 3) := by decide +kernel
theorem dX12_best_137 : decode cX12_best 137 = .ok (.iconst 0, 1) := by decide +kernel
theorem dX12_best_138 : decode cX12_best 138 = .ok (.istore 5, 2) := by decide +kernel
theorem dX12_best_140 : decode cX12_best 140 = .ok (.iload 5, 2) := by decide +kernel
theorem dX12_best_142 : decode cX12_best 142 = .ok (.sipush 1024, 3) := by decide +kernel
theorem dX12_best_145 : decode cX12_best 145 = .ok (.if_icmp .ge 23, 3) := by decide +kernel
theorem dX12_best_148 : decode cX12_best 148 = .ok (.aload_n 0, 1) := by decide +kernel
theorem dX12_best_149 : decode cX12_best 149 = .ok (.getfield 76, 3) := by decide +kernel
theorem dX12_best_152 : decode cX12_best 152 = .ok (.iload 5, 2) := by decide +kernel
theorem dX12_best_154 : decode cX12_best 154 = .ok (.aload_n 0, 1) := by decide +kernel
theorem dX12_best_155 : decode cX12_best 155 = .ok (.getfield 73, 3) := by decide +kernel
theorem dX12_best_158 : decode cX12_best 158 = .ok (.iload 5, 2) := by decide +kernel
theorem dX12_best_160 : decode cX12_best 160 = .ok (.iaload, 1) := by decide +kernel
theorem dX12_best_161 : decode cX12_best 161 = .ok (.iastore, 1) := by decide +kernel
theorem dX12_best_162 : decode cX12_best 162 = .ok (.iinc 5 1, 3) := by decide +kernel
theorem dX12_best_165 : decode cX12_best 165 = .ok (.goto (-25), 3) := by decide +kernel
theorem dX12_best_168 : decode cX12_best 168 = .ok (.iinc 2 (-1), 3) := by decide +kernel
theorem dX12_best_171 : decode cX12_best 171 = .ok (.goto (-119), 3) := by decide +kernel
theorem dX12_best_174 : decode cX12_best 174 = .ok (.aload_n 0, 1) := by decide +kernel
theorem dX12_best_175 : decode cX12_best 175 = .ok (.getfield 76, 3) := by decide +kernel
theorem dX12_best_178 : decode cX12_best 178 = .ok (.iconst 0, 1) := by decide +kernel
theorem dX12_best_179 : decode cX12_best 179 = .ok (.iaload, 1) := by decide +kernel
theorem dX12_best_180 : decode cX12_best 180 = .ok (.ireturn, 1) := by decide +kernel
theorem dX12_isCounts_0 : decode cX12_isCounts 0 = .ok (.iload_n 1, 1) := by decide +kernel
theorem dX12_isCounts_1 : decode cX12_isCounts 1 = .ok (.ifCond .lt 27, 3) := by decide +kernel
theorem dX12_isCounts_4 : decode cX12_isCounts 4 = .ok (.iload_n 1, 1) := by decide +kernel
theorem dX12_isCounts_5 : decode cX12_isCounts 5 = .ok (.bipush 100, 2) := by decide +kernel
theorem dX12_isCounts_7 : decode cX12_isCounts 7 = .ok (.irem, 1) := by decide +kernel
theorem dX12_isCounts_8 : decode cX12_isCounts 8 = .ok (.bipush 40, 2) := by decide +kernel
theorem dX12_isCounts_10 : decode cX12_isCounts 10 = .ok (.if_icmp .gt 18, 3) := by decide +kernel
theorem dX12_isCounts_13 : decode cX12_isCounts 13 = .ok (.iload_n 1, 1) := by decide +kernel
theorem dX12_isCounts_14 : decode cX12_isCounts 14 = .ok (.bipush 100, 2) := by decide +kernel
theorem dX12_isCounts_16 : decode cX12_isCounts 16 = .ok (.idiv, 1) := by decide +kernel
theorem dX12_isCounts_17 : decode cX12_isCounts 17 = .ok (.iload_n 1, 1) := by decide +kernel
theorem dX12_isCounts_18 : decode cX12_isCounts 18 = .ok (.bipush 100, 2) := by decide +kernel
theorem dX12_isCounts_20 : decode cX12_isCounts 20 = .ok (.irem, 1) := by decide +kernel
theorem dX12_isCounts_21 : decode cX12_isCounts 21 = .ok (.if_icmp .gt 7, 3) := by decide +kernel
theorem dX12_isCounts_24 : decode cX12_isCounts 24 = .ok (.iconst 1, 1) := by decide +kernel
theorem dX12_isCounts_25 : decode cX12_isCounts 25 = .ok (.goto 4, 3) := by decide +kernel
theorem dX12_isCounts_28 : decode cX12_isCounts 28 = .ok (.iconst 0, 1) := by decide +kernel
theorem dX12_isCounts_29 : decode cX12_isCounts 29 = .ok (.ireturn, 1) := by decide +kernel
theorem dX12_findLevels_0 : decode cX12_findLevels 0 = .ok (.iconst 0, 1) := by decide +kernel
theorem dX12_findLevels_1 : decode cX12_findLevels 1 = .ok (.istore_n 3, 1) := by decide +kernel
theorem dX12_findLevels_2 : decode cX12_findLevels 2 = .ok (.iload_n 3, 1) := by decide +kernel
theorem dX12_findLevels_3 : decode cX12_findLevels 3 = .ok (.bipush 40, 2) := by decide +kernel
theorem dX12_findLevels_5 : decode cX12_findLevels 5 = .ok (.if_icmp .gt 18, 3) := by decide +kernel
theorem dX12_findLevels_8 : decode cX12_findLevels 8 = .ok (.aload_n 0, 1) := by decide +kernel
theorem dX12_findLevels_9 : decode cX12_findLevels 9 = .ok (.getfield 79, 3) := by decide +kernel
theorem dX12_findLevels_12 : decode cX12_findLevels 12 = .ok (.iload_n 3, 1) := by decide +kernel
theorem dX12_findLevels_13 : decode cX12_findLevels 13 = .ok (.ldc_w 290, 3) := by decide +kernel
theorem dX12_findLevels_16 : decode cX12_findLevels 16 = .ok (.iastore, 1) := by decide +kernel
theorem dX12_findLevels_17 : decode cX12_findLevels 17 = .ok (.iinc 3 1, 3) := by decide +kernel
theorem dX12_findLevels_20 : decode cX12_findLevels 20 = .ok (.goto (-18), 3) := by decide +kernel
theorem dX12_findLevels_23 : decode cX12_findLevels 23 = .ok (.aload_n 0, 1) := by decide +kernel
theorem dX12_findLevels_24 : decode cX12_findLevels 24 = .ok (.getfield 79, 3) := by decide +kernel
theorem dX12_findLevels_27 : decode cX12_findLevels 27 = .ok (.iload_n 1, 1) := by decide +kernel
theorem dX12_findLevels_28 : decode cX12_findLevels 28 = .ok (.iconst 0, 1) := by decide +kernel
theorem dX12_findLevels_29 : decode cX12_findLevels 29 = .ok (.iastore, 1) := by decide +kernel
theorem dX12_findLevels_30 : decode cX12_findLevels 30 = .ok (.iconst 1, 1) := by decide +kernel
theorem dX12_findLevels_31 : decode cX12_findLevels 31 = .ok (.istore_n 3, 1) := by decide +kernel
theorem dX12_findLevels_32 : decode cX12_findLevels 32 = .ok (.iload_n 3, 1) := by decide +kernel
theorem dX12_findLevels_33 : decode cX12_findLevels 33 = .ok (.ifCond .eq 152, 3) := by decide +kernel
theorem dX12_findLevels_36 : decode cX12_findLevels 36 = .ok (.iconst 0, 1) := by decide +kernel
theorem dX12_findLevels_37 : decode cX12_findLevels 37 = .ok (.istore_n 3, 1) := by decide +kernel
theorem dX12_findLevels_38 : decode cX12_findLevels 38 = .ok (.iconst 0, 1) := by decide +kernel
theorem dX12_findLevels_39 : decode cX12_findLevels 39 = .ok (.istore 4, 2) := by decide +kernel
theorem dX12_findLevels_41 : decode cX12_findLevels 41 = .ok (.iload 4, 2) := by decide +kernel
theorem dX12_findLevels_43 : decode cX12_findLevels 43 = .ok (.iload_n 2, 1) := by decide +kernel
theorem dX12_findLevels_44 : decode cX12_findLevels 44 = .ok (.if_icmp .gt 138, 3) := by decide +kernel
theorem dX12_findLevels_47 : decode cX12_findLevels 47 = .ok (.iconst 0, 1) := by decide +kernel
theorem dX12_findLevels_48 : decode cX12_findLevels 48 = .ok (.istore 5, 2) := by decide +kernel
theorem dX12_findLevels_50 : decode cX12_findLevels 50 = .ok (.iload 5, 2) := by decide +kernel
theorem dX12_findLevels_52 : decode cX12_findLevels 52 = .ok (.aload_n 0, 1) := by decide +kernel
theorem dX12_findLevels_53 : decode cX12_findLevels 53 = .ok (.getfield 111, 3) := by decide +kernel
theorem dX12_findLevels_56 : decode cX12_findLevels 56 = .ok (.if_icmp .ge 120, 3) := by decide +kernel
theorem dX12_findLevels_59 : decode cX12_findLevels 59 = .ok (.aload_n 0, 1) := by decide +kernel
theorem dX12_findLevels_60 : decode cX12_findLevels 60 = .ok (.getfield 7, 3) := by decide +kernel
theorem dX12_findLevels_63 : decode cX12_findLevels 63 = .ok (.iload 5, 2) := by decide +kernel
theorem dX12_findLevels_65 : decode cX12_findLevels 65 = .ok (.iaload, 1) := by decide +kernel
theorem dX12_findLevels_66 : decode cX12_findLevels 66 = .ok (.istore 6, 2) := by decide +kernel
theorem dX12_findLevels_68 : decode cX12_findLevels 68 = .ok (.iload 4, 2) := by decide +kernel
theorem dX12_findLevels_70 : decode cX12_findLevels 70 = .ok (.iload 6, 2) := by decide +kernel
theorem dX12_findLevels_72 : decode cX12_findLevels 72 = .ok (.if_icmp .lt 46, 3) := by decide +kernel
theorem dX12_findLevels_75 : decode cX12_findLevels 75 = .ok (.aload_n 0, 1) := by decide +kernel
theorem dX12_findLevels_76 : decode cX12_findLevels 76 = .ok (.getfield 79, 3) := by decide +kernel
theorem dX12_findLevels_79 : decode cX12_findLevels 79 = .ok (.iload 4, 2) := by decide +kernel
theorem dX12_findLevels_81 : decode cX12_findLevels 81 = .ok (.iaload, 1) := by decide +kernel
theorem dX12_findLevels_82 : decode cX12_findLevels 82 = .ok (.iconst 1, 1) := by decide +kernel
theorem dX12_findLevels_83 : decode cX12_findLevels 83 = .ok (.iadd, 1) := by decide +kernel
theorem dX12_findLevels_84 : decode cX12_findLevels 84 = .ok (.aload_n 0, 1) := by decide +kernel
theorem dX12_findLevels_85 : decode cX12_findLevels 85 = .ok (.getfield 79, 3) := by decide +kernel
theorem dX12_findLevels_88 : decode cX12_findLevels 88 = .ok (.iload 4, 2) := by decide +kernel
theorem dX12_findLevels_90 : decode cX12_findLevels 90 = .ok (.iload 6, 2) := by decide +kernel
theorem dX12_findLevels_92 : decode cX12_findLevels 92 = .ok (.isub, 1) := by decide +kernel
theorem dX12_findLevels_93 : decode cX12_findLevels 93 = .ok (.iaload, 1) := by decide +kernel
theorem dX12_findLevels_94 : decode cX12_findLevels 94 = .ok (.if_icmp .ge 24, 3) := by decide +kernel
theorem dX12_findLevels_97 : decode cX12_findLevels 97 = .ok (.aload_n 0, 1) := by decide +kernel
theorem dX12_findLevels_98 : decode cX12_findLevels 98 = .ok (.getfield 79, 3) := by decide +kernel
theorem dX12_findLevels_101 : decode cX12_findLevels 101 = .ok (.iload 4, 2) := by decide +kernel
theorem dX12_findLevels_103 : decode cX12_findLevels 103 = .ok (.iload 6, 2) := by decide +kernel
theorem dX12_findLevels_105 : decode cX12_findLevels 105 = .ok (.isub, 1) := by decide +kernel
theorem dX12_findLevels_106 : decode cX12_findLevels 106 = .ok (.aload_n 0, 1) := by decide +kernel
theorem dX12_findLevels_107 : decode cX12_findLevels 107 = .ok (.getfield 79, 3) := by decide +kernel
theorem dX12_findLevels_110 : decode cX12_findLevels 110 = .ok (.iload 4, 2) := by decide +kernel
theorem dX12_findLevels_112 : decode cX12_findLevels 112 = .ok (.iaload, 1) := by decide +kernel
theorem dX12_findLevels_113 : decode cX12_findLevels 113 = .ok (.iconst 1, 1) := by decide +kernel
theorem dX12_findLevels_114 : decode cX12_findLevels 114 = .ok (.iadd, 1) := by decide +kernel
theorem dX12_findLevels_115 : decode cX12_findLevels 115 = .ok (.iastore, 1) := by decide +kernel
theorem dX12_findLevels_116 : decode cX12_findLevels 116 = .ok (.iconst 1, 1) := by decide +kernel
theorem dX12_findLevels_117 : decode cX12_findLevels 117 = .ok (.istore_n 3, 1) := by decide +kernel
theorem dX12_findLevels_118 : decode cX12_findLevels 118 = .ok (.iload 4, 2) := by decide +kernel
theorem dX12_findLevels_120 : decode cX12_findLevels 120 = .ok (.iload 6, 2) := by decide +kernel
theorem dX12_findLevels_122 : decode cX12_findLevels 122 = .ok (.iadd, 1) := by decide +kernel
theorem dX12_findLevels_123 : decode cX12_findLevels 123 = .ok (.iload_n 2, 1) := by decide +kernel
theorem dX12_findLevels_124 : decode cX12_findLevels 124 = .ok (.if_icmp .gt 46, 3) := by decide +kernel
theorem dX12_findLevels_127 : decode cX12_findLevels 127 = .ok (.aload_n 0, 1) := by decide +kernel
theorem dX12_findLevels_128 : decode cX12_findLevels 128 = .ok (.getfield 79, 3) := by decide +kernel
theorem dX12_findLevels_131 : decode cX12_findLevels 131 = .ok (.iload 4, 2) := by decide +kernel
theorem dX12_findLevels_133 : decode cX12_findLevels 133 = .ok (.iaload, 1) := by decide +kernel
theorem dX12_findLevels_134 : decode cX12_findLevels 134 = .ok (.iconst 1, 1) := by decide +kernel
theorem dX12_findLevels_135 : decode cX12_findLevels 135 = .ok (.iadd, 1) := by decide +kernel
theorem dX12_findLevels_136 : decode cX12_findLevels 136 = .ok (.aload_n 0, 1) := by decide +kernel
theorem dX12_findLevels_137 : decode cX12_findLevels 137 = .ok (.getfield 79, 3) := by decide +kernel
theorem dX12_findLevels_140 : decode cX12_findLevels 140 = .ok (.iload 4, 2) := by decide +kernel
theorem dX12_findLevels_142 : decode cX12_findLevels 142 = .ok (.iload 6, 2) := by decide +kernel
theorem dX12_findLevels_144 : decode cX12_findLevels 144 = .ok (.iadd, 1) := by decide +kernel
theorem dX12_findLevels_145 : decode cX12_findLevels 145 = .ok (.iaload, 1) := by decide +kernel
theorem dX12_findLevels_146 : decode cX12_findLevels 146 = .ok (.if_icmp .ge 24, 3) := by decide +kernel
theorem dX12_findLevels_149 : decode cX12_findLevels 149 = .ok (.aload_n 0, 1) := by decide +kernel
theorem dX12_findLevels_150 : decode cX12_findLevels 150 = .ok (.getfield 79, 3) := by decide +kernel
theorem dX12_findLevels_153 : decode cX12_findLevels 153 = .ok (.iload 4, 2) := by decide +kernel
theorem dX12_findLevels_155 : decode cX12_findLevels 155 = .ok (.iload 6, 2) := by decide +kernel
theorem dX12_findLevels_157 : decode cX12_findLevels 157 = .ok (.iadd, 1) := by decide +kernel
theorem dX12_findLevels_158 : decode cX12_findLevels 158 = .ok (.aload_n 0, 1) := by decide +kernel
theorem dX12_findLevels_159 : decode cX12_findLevels 159 = .ok (.getfield 79, 3) := by decide +kernel
theorem dX12_findLevels_162 : decode cX12_findLevels 162 = .ok (.iload 4, 2) := by decide +kernel
theorem dX12_findLevels_164 : decode cX12_findLevels 164 = .ok (.iaload, 1) := by decide +kernel
theorem dX12_findLevels_165 : decode cX12_findLevels 165 = .ok (.iconst 1, 1) := by decide +kernel
theorem dX12_findLevels_166 : decode cX12_findLevels 166 = .ok (.iadd, 1) := by decide +kernel
theorem dX12_findLevels_167 : decode cX12_findLevels 167 = .ok (.iastore, 1) := by decide +kernel
theorem dX12_findLevels_168 : decode cX12_findLevels 168 = .ok (.iconst 1, 1) := by decide +kernel
theorem dX12_findLevels_169 : decode cX12_findLevels 169 = .ok (.istore_n 3, 1) := by decide +kernel
theorem dX12_findLevels_170 : decode cX12_findLevels 170 = .ok (.iinc 5 1, 3) := by decide +kernel
theorem dX12_findLevels_173 : decode cX12_findLevels 173 = .ok (.goto (-123), 3) := by decide +kernel
theorem dX12_findLevels_176 : decode cX12_findLevels 176 = .ok (.iinc 4 1, 3) := by decide +kernel
theorem dX12_findLevels_179 : decode cX12_findLevels 179 = .ok (.goto (-138), 3) := by decide +kernel
theorem dX12_findLevels_182 : decode cX12_findLevels 182 = .ok (.goto (-150), 3) := by decide +kernel
theorem dX12_findLevels_185 : decode cX12_findLevels 185 = .ok (.return_, 1) := by decide +kernel
theorem dX12_reach_0 : decode cX12_reach 0 = .ok (.aload_n 0, 1) := by decide +kernel
theorem dX12_reach_1 : decode cX12_reach 1 = .ok (.iload_n 1, 1) := by decide +kernel
theorem dX12_reach_2 : decode cX12_reach 2 = .ok (.invokevirtual 304, 3) := by decide +kernel
theorem dX12_reach_5 : decode cX12_reach 5 = .ok (.ifCond .ne 7, 3) := by decide +kernel
theorem dX12_reach_8 : decode cX12_reach 8 = .ok (.ldc2_w 307, 3) := by decide +kernel
theorem dX12_reach_11 : decode cX12_reach 11 = .ok (.lreturn, 1) := by decide +kernel
theorem dX12_reach_12 : decode cX12_reach 12 = .ok (.aload_n 0, 1) := by decide +kernel
theorem dX12_reach_13 : decode cX12_reach 13 = .ok (.iload_n 1, 1) := by decide +kernel
theorem dX12_reach_14 : decode cX12_reach 14 = .ok (.bipush 100, 2) := by decide +kernel
theorem dX12_reach_16 : decode cX12_reach 16 = .ok (.idiv, 1) := by decide +kernel
theorem dX12_reach_17 : decode cX12_reach 17 = .ok (.iload_n 1, 1) := by decide +kernel
theorem dX12_reach_18 : decode cX12_reach 18 = .ok (.bipush 100, 2) := by decide +kernel
theorem dX12_reach_20 : decode cX12_reach 20 = .ok (.irem, 1) := by decide +kernel
theorem dX12_reach_21 : decode cX12_reach 21 = .ok (.invokevirtual 309, 3) := by decide +kernel
theorem dX12_reach_24 : decode cX12_reach 24 = .ok (.lconst 0, 1) := by decide +kernel
theorem dX12_reach_25 : decode cX12_reach 25 = .ok (.lstore_n 2, 1) := by decide +kernel
theorem dX12_reach_26 : decode cX12_reach 26 = .ok (.iconst 0, 1) := by decide +kernel
theorem dX12_reach_27 : decode cX12_reach 27 = .ok (.istore 4, 2) := by decide +kernel
theorem dX12_reach_29 : decode cX12_reach 29 = .ok (.iload 4, 2) := by decide +kernel
theorem dX12_reach_31 : decode cX12_reach 31 = .ok (.iload_n 1, 1) := by decide +kernel
theorem dX12_reach_32 : decode cX12_reach 32 = .ok (.bipush 100, 2) := by decide +kernel
theorem dX12_reach_34 : decode cX12_reach 34 = .ok (.irem, 1) := by decide +kernel
theorem dX12_reach_35 : decode cX12_reach 35 = .ok (.if_icmp .gt 29, 3) := by decide +kernel
theorem dX12_reach_38 : decode cX12_reach 38 = .ok (.aload_n 0, 1) := by decide +kernel
theorem dX12_reach_39 : decode cX12_reach 39 = .ok (.getfield 79, 3) := by decide +kernel
theorem dX12_reach_42 : decode cX12_reach 42 = .ok (.iload 4, 2) := by decide +kernel
theorem dX12_reach_44 : decode cX12_reach 44 = .ok (.iaload, 1) := by decide +kernel
theorem dX12_reach_45 : decode cX12_reach 45 = .ok (.ldc_w 290, 3) := by decide +kernel
theorem dX12_reach_48 : decode cX12_reach 48 = .ok (.if_icmp .ge 10, 3) := by decide +kernel
theorem dX12_reach_51 : decode cX12_reach 51 = .ok (.lload_n 2, 1) := by decide +kernel
theorem dX12_reach_52 : decode cX12_reach 52 = .ok (.lconst 1, 1) := by decide +kernel
theorem dX12_reach_53 : decode cX12_reach 53 = .ok (.iload 4, 2) := by decide +kernel
theorem dX12_reach_55 : decode cX12_reach 55 = .ok (.lshl, 1) := by decide +kernel
theorem dX12_reach_56 : decode cX12_reach 56 = .ok (.lor, 1) := by decide +kernel
theorem dX12_reach_57 : decode cX12_reach 57 = .ok (.lstore_n 2, 1) := by decide +kernel
theorem dX12_reach_58 : decode cX12_reach 58 = .ok (.iinc 4 1, 3) := by decide +kernel
theorem dX12_reach_61 : decode cX12_reach 61 = .ok (.goto (-32), 3) := by decide +kernel
theorem dX12_reach_64 : decode cX12_reach 64 = .ok (.lload_n 2, 1) := by decide +kernel
theorem dX12_reach_65 : decode cX12_reach 65 = .ok (.lreturn, 1) := by decide +kernel
theorem dX12_steps_0 : decode cX12_steps 0 = .ok (.aload_n 0, 1) := by decide +kernel
theorem dX12_steps_1 : decode cX12_steps 1 = .ok (.iload_n 1, 1) := by decide +kernel
theorem dX12_steps_2 : decode cX12_steps 2 = .ok (.invokevirtual 304, 3) := by decide +kernel
theorem dX12_steps_5 : decode cX12_steps 5 = .ok (.ifCond .eq 15, 3) := by decide +kernel
theorem dX12_steps_8 : decode cX12_steps 8 = .ok (.iload_n 2, 1) := by decide +kernel
theorem dX12_steps_9 : decode cX12_steps 9 = .ok (.iconst 0, 1) := by decide +kernel
theorem dX12_steps_10 : decode cX12_steps 10 = .ok (.iload_n 1, 1) := by decide +kernel
theorem dX12_steps_11 : decode cX12_steps 11 = .ok (.bipush 100, 2) := by decide +kernel
theorem dX12_steps_13 : decode cX12_steps 13 = .ok (.irem, 1) := by decide +kernel
theorem dX12_steps_14 : decode cX12_steps 14 = .ok (.invokestatic 114, 3) := by decide +kernel
theorem dX12_steps_17 : decode cX12_steps 17 = .ok (.ifCond .ne 5, 3) := by decide +kernel
theorem dX12_steps_20 : decode cX12_steps 20 = .ok (.iconst (-1), 1) := by decide +kernel
theorem dX12_steps_21 : decode cX12_steps 21 = .ok (.ireturn, 1) := by decide +kernel
theorem dX12_steps_22 : decode cX12_steps 22 = .ok (.aload_n 0, 1) := by decide +kernel
theorem dX12_steps_23 : decode cX12_steps 23 = .ok (.iload_n 1, 1) := by decide +kernel
theorem dX12_steps_24 : decode cX12_steps 24 = .ok (.bipush 100, 2) := by decide +kernel
theorem dX12_steps_26 : decode cX12_steps 26 = .ok (.idiv, 1) := by decide +kernel
theorem dX12_steps_27 : decode cX12_steps 27 = .ok (.iload_n 1, 1) := by decide +kernel
theorem dX12_steps_28 : decode cX12_steps 28 = .ok (.bipush 100, 2) := by decide +kernel
theorem dX12_steps_30 : decode cX12_steps 30 = .ok (.irem, 1) := by decide +kernel
theorem dX12_steps_31 : decode cX12_steps 31 = .ok (.invokevirtual 309, 3) := by decide +kernel
theorem dX12_steps_34 : decode cX12_steps 34 = .ok (.aload_n 0, 1) := by decide +kernel
theorem dX12_steps_35 : decode cX12_steps 35 = .ok (.getfield 79, 3) := by decide +kernel
theorem dX12_steps_38 : decode cX12_steps 38 = .ok (.iload_n 2, 1) := by decide +kernel
theorem dX12_steps_39 : decode cX12_steps 39 = .ok (.iaload, 1) := by decide +kernel
theorem dX12_steps_40 : decode cX12_steps 40 = .ok (.ldc_w 290, 3) := by decide +kernel
theorem dX12_steps_43 : decode cX12_steps 43 = .ok (.if_icmp .ge 12, 3) := by decide +kernel
theorem dX12_steps_46 : decode cX12_steps 46 = .ok (.aload_n 0, 1) := by decide +kernel
theorem dX12_steps_47 : decode cX12_steps 47 = .ok (.getfield 79, 3) := by decide +kernel
theorem dX12_steps_50 : decode cX12_steps 50 = .ok (.iload_n 2, 1) := by decide +kernel
theorem dX12_steps_51 : decode cX12_steps 51 = .ok (.iaload, 1) := by decide +kernel
theorem dX12_steps_52 : decode cX12_steps 52 = .ok (.goto 5, 3) := by decide +kernel
theorem dX12_steps_55 : decode cX12_steps 55 = .ok (.bipush (-2), 2) := by decide +kernel
theorem dX12_steps_57 : decode cX12_steps 57 = .ok (.ireturn, 1) := by decide +kernel
theorem dX12_boat_0 : decode cX12_boat 0 = .ok (.aload_n 0, 1) := by decide +kernel
theorem dX12_boat_1 : decode cX12_boat 1 = .ok (.iload_n 1, 1) := by decide +kernel
theorem dX12_boat_2 : decode cX12_boat 2 = .ok (.invokevirtual 304, 3) := by decide +kernel
theorem dX12_boat_5 : decode cX12_boat 5 = .ok (.ifCond .eq 31, 3) := by decide +kernel
theorem dX12_boat_8 : decode cX12_boat 8 = .ok (.iload_n 2, 1) := by decide +kernel
theorem dX12_boat_9 : decode cX12_boat 9 = .ok (.ifCond .lt 27, 3) := by decide +kernel
theorem dX12_boat_12 : decode cX12_boat 12 = .ok (.iload_n 2, 1) := by decide +kernel
theorem dX12_boat_13 : decode cX12_boat 13 = .ok (.bipush 100, 2) := by decide +kernel
theorem dX12_boat_15 : decode cX12_boat 15 = .ok (.idiv, 1) := by decide +kernel
theorem dX12_boat_16 : decode cX12_boat 16 = .ok (.iconst 1, 1) := by decide +kernel
theorem dX12_boat_17 : decode cX12_boat 17 = .ok (.bipush 9, 2) := by decide +kernel
theorem dX12_boat_19 : decode cX12_boat 19 = .ok (.invokestatic 114, 3) := by decide +kernel
theorem dX12_boat_22 : decode cX12_boat 22 = .ok (.ifCond .eq 14, 3) := by decide +kernel
theorem dX12_boat_25 : decode cX12_boat 25 = .ok (.iload_n 2, 1) := by decide +kernel
theorem dX12_boat_26 : decode cX12_boat 26 = .ok (.bipush 100, 2) := by decide +kernel
theorem dX12_boat_28 : decode cX12_boat 28 = .ok (.irem, 1) := by decide +kernel
theorem dX12_boat_29 : decode cX12_boat 29 = .ok (.iload_n 1, 1) := by decide +kernel
theorem dX12_boat_30 : decode cX12_boat 30 = .ok (.bipush 100, 2) := by decide +kernel
theorem dX12_boat_32 : decode cX12_boat 32 = .ok (.irem, 1) := by decide +kernel
theorem dX12_boat_33 : decode cX12_boat 33 = .ok (.if_icmp .le 5, 3) := by decide +kernel
theorem dX12_boat_36 : decode cX12_boat 36 = .ok (.iconst (-1), 1) := by decide +kernel
theorem dX12_boat_37 : decode cX12_boat 37 = .ok (.ireturn, 1) := by decide +kernel
theorem dX12_boat_38 : decode cX12_boat 38 = .ok (.iload_n 1, 1) := by decide +kernel
theorem dX12_boat_39 : decode cX12_boat 39 = .ok (.bipush 100, 2) := by decide +kernel
theorem dX12_boat_41 : decode cX12_boat 41 = .ok (.irem, 1) := by decide +kernel
theorem dX12_boat_42 : decode cX12_boat 42 = .ok (.istore_n 3, 1) := by decide +kernel
theorem dX12_boat_43 : decode cX12_boat 43 = .ok (.iconst 0, 1) := by decide +kernel
theorem dX12_boat_44 : decode cX12_boat 44 = .ok (.istore 4, 2) := by decide +kernel
theorem dX12_boat_46 : decode cX12_boat 46 = .ok (.iload 4, 2) := by decide +kernel
theorem dX12_boat_48 : decode cX12_boat 48 = .ok (.bipush 40, 2) := by decide +kernel
theorem dX12_boat_50 : decode cX12_boat 50 = .ok (.if_icmp .gt 19, 3) := by decide +kernel
theorem dX12_boat_53 : decode cX12_boat 53 = .ok (.aload_n 0, 1) := by decide +kernel
theorem dX12_boat_54 : decode cX12_boat 54 = .ok (.getfield 79, 3) := by decide +kernel
theorem dX12_boat_57 : decode cX12_boat 57 = .ok (.iload 4, 2) := by decide +kernel
theorem dX12_boat_59 : decode cX12_boat 59 = .ok (.ldc_w 290, 3) := by decide +kernel
theorem dX12_boat_62 : decode cX12_boat 62 = .ok (.iastore, 1) := by decide +kernel
theorem dX12_boat_63 : decode cX12_boat 63 = .ok (.iinc 4 1, 3) := by decide +kernel
theorem dX12_boat_66 : decode cX12_boat 66 = .ok (.goto (-20), 3) := by decide +kernel
theorem dX12_boat_69 : decode cX12_boat 69 = .ok (.aload_n 0, 1) := by decide +kernel
theorem dX12_boat_70 : decode cX12_boat 70 = .ok (.getfield 79, 3) := by decide +kernel
theorem dX12_boat_73 : decode cX12_boat 73 = .ok (.iload_n 1, 1) := by decide +kernel
theorem dX12_boat_74 : decode cX12_boat 74 = .ok (.bipush 100, 2) := by decide +kernel
theorem dX12_boat_76 : decode cX12_boat 76 = .ok (.idiv, 1) := by decide +kernel
theorem dX12_boat_77 : decode cX12_boat 77 = .ok (.iconst 0, 1) := by decide +kernel
theorem dX12_boat_78 : decode cX12_boat 78 = .ok (.iastore, 1) := by decide +kernel
theorem dX12_boat_79 : decode cX12_boat 79 = .ok (.iconst 1, 1) := by decide +kernel
theorem dX12_boat_80 : decode cX12_boat 80 = .ok (.istore 4, 2) := by decide +kernel
theorem dX12_boat_82 : decode cX12_boat 82 = .ok (.iload 4, 2) := by decide +kernel
theorem dX12_boat_84 : decode cX12_boat 84 = .ok (.ifCond .eq 153, 3) := by decide +kernel
theorem dX12_boat_87 : decode cX12_boat 87 = .ok (.iconst 0, 1) := by decide +kernel
theorem dX12_boat_88 : decode cX12_boat 88 = .ok (.istore 4, 2) := by decide +kernel
theorem dX12_boat_90 : decode cX12_boat 90 = .ok (.iconst 0, 1) := by decide +kernel
theorem dX12_boat_91 : decode cX12_boat 91 = .ok (.istore 5, 2) := by decide +kernel
theorem dX12_boat_93 : decode cX12_boat 93 = .ok (.iload 5, 2) := by decide +kernel
theorem dX12_boat_95 : decode cX12_boat 95 = .ok (.iload_n 3, 1) := by decide +kernel
theorem dX12_boat_96 : decode cX12_boat 96 = .ok (.if_icmp .gt 138, 3) := by decide +kernel
theorem dX12_boat_99 : decode cX12_boat 99 = .ok (.iconst 0, 1) := by decide +kernel
theorem dX12_boat_100 : decode cX12_boat 100 = .ok (.istore 6, 2) := by decide +kernel
theorem dX12_boat_102 : decode cX12_boat 102 = .ok (.iload 6, 2) := by decide +kernel
theorem dX12_boat_104 : decode cX12_boat 104 = .ok (.iload_n 3, 1) := by decide +kernel
theorem dX12_boat_105 : decode cX12_boat 105 = .ok (.if_icmp .gt 123, 3) := by decide +kernel
theorem dX12_boat_108 : decode cX12_boat 108 = .ok (.iload 5, 2) := by decide +kernel
theorem dX12_boat_110 : decode cX12_boat 110 = .ok (.iload 6, 2) := by decide +kernel
theorem dX12_boat_112 : decode cX12_boat 112 = .ok (.if_icmp .ge 11, 3) := by decide +kernel
theorem dX12_boat_115 : decode cX12_boat 115 = .ok (.iload 6, 2) := by decide +kernel
theorem dX12_boat_117 : decode cX12_boat 117 = .ok (.iload 5, 2) := by decide +kernel
theorem dX12_boat_119 : decode cX12_boat 119 = .ok (.isub, 1) := by decide +kernel
theorem dX12_boat_120 : decode cX12_boat 120 = .ok (.goto 8, 3) := by decide +kernel
theorem dX12_boat_123 : decode cX12_boat 123 = .ok (.iload 5, 2) := by decide +kernel
theorem dX12_boat_125 : decode cX12_boat 125 = .ok (.iload 6, 2) := by decide +kernel
theorem dX12_boat_127 : decode cX12_boat 127 = .ok (.isub, 1) := by decide +kernel
theorem dX12_boat_128 : decode cX12_boat 128 = .ok (.istore 7, 2) := by decide +kernel
theorem dX12_boat_130 : decode cX12_boat 130 = .ok (.iload 7, 2) := by decide +kernel
theorem dX12_boat_132 : decode cX12_boat 132 = .ok (.iload_n 2, 1) := by decide +kernel
theorem dX12_boat_133 : decode cX12_boat 133 = .ok (.bipush 100, 2) := by decide +kernel
theorem dX12_boat_135 : decode cX12_boat 135 = .ok (.idiv, 1) := by decide +kernel
theorem dX12_boat_136 : decode cX12_boat 136 = .ok (.if_icmp .gt 15, 3) := by decide +kernel
theorem dX12_boat_139 : decode cX12_boat 139 = .ok (.aload_n 0, 1) := by decide +kernel
theorem dX12_boat_140 : decode cX12_boat 140 = .ok (.getfield 79, 3) := by decide +kernel
theorem dX12_boat_143 : decode cX12_boat 143 = .ok (.iload 5, 2) := by decide +kernel
theorem dX12_boat_145 : decode cX12_boat 145 = .ok (.iaload, 1) := by decide +kernel
theorem dX12_boat_146 : decode cX12_boat 146 = .ok (.iconst 1, 1) := by decide +kernel
theorem dX12_boat_147 : decode cX12_boat 147 = .ok (.iadd, 1) := by decide +kernel
theorem dX12_boat_148 : decode cX12_boat 148 = .ok (.goto 6, 3) := by decide +kernel
theorem dX12_boat_151 : decode cX12_boat 151 = .ok (.ldc_w 290, 3) := by decide +kernel
theorem dX12_boat_154 : decode cX12_boat 154 = .ok (.istore 8, 2) := by decide +kernel
theorem dX12_boat_156 : decode cX12_boat 156 = .ok (.iconst 0, 1) := by decide +kernel
theorem dX12_boat_157 : decode cX12_boat 157 = .ok (.istore 9, 2) := by decide +kernel
theorem dX12_boat_159 : decode cX12_boat 159 = .ok (.iload 9, 2) := by decide +kernel
theorem dX12_boat_161 : decode cX12_boat 161 = .ok (.aload_n 0, 1) := by decide +kernel
theorem dX12_boat_162 : decode cX12_boat 162 = .ok (.getfield 111, 3) := by decide +kernel
theorem dX12_boat_165 : decode cX12_boat 165 = .ok (.if_icmp .ge 30, 3) := by decide +kernel
theorem dX12_boat_168 : decode cX12_boat 168 = .ok (.aload_n 0, 1) := by decide +kernel
theorem dX12_boat_169 : decode cX12_boat 169 = .ok (.getfield 7, 3) := by decide +kernel
theorem dX12_boat_172 : decode cX12_boat 172 = .ok (.iload 9, 2) := by decide +kernel
theorem dX12_boat_174 : decode cX12_boat 174 = .ok (.iaload, 1) := by decide +kernel
theorem dX12_boat_175 : decode cX12_boat 175 = .ok (.iload 7, 2) := by decide +kernel
theorem dX12_boat_177 : decode cX12_boat 177 = .ok (.if_icmp .ne 12, 3) := by decide +kernel
theorem dX12_boat_180 : decode cX12_boat 180 = .ok (.aload_n 0, 1) := by decide +kernel
theorem dX12_boat_181 : decode cX12_boat 181 = .ok (.getfield 79, 3) := by decide +kernel
theorem dX12_boat_184 : decode cX12_boat 184 = .ok (.iload 5, 2) := by decide +kernel
theorem dX12_boat_186 : decode cX12_boat 186 = .ok (.iaload, 1) := by decide +kernel
theorem dX12_boat_187 : decode cX12_boat 187 = .ok (.istore 8, 2) := by decide +kernel
theorem dX12_boat_189 : decode cX12_boat 189 = .ok (.iinc 9 1, 3) := by decide +kernel
theorem dX12_boat_192 : decode cX12_boat 192 = .ok (.goto (-33), 3) := by decide +kernel
theorem dX12_boat_195 : decode cX12_boat 195 = .ok (.iload 8, 2) := by decide +kernel
theorem dX12_boat_197 : decode cX12_boat 197 = .ok (.aload_n 0, 1) := by decide +kernel
theorem dX12_boat_198 : decode cX12_boat 198 = .ok (.getfield 79, 3) := by decide +kernel
theorem dX12_boat_201 : decode cX12_boat 201 = .ok (.iload 6, 2) := by decide +kernel
theorem dX12_boat_203 : decode cX12_boat 203 = .ok (.iaload, 1) := by decide +kernel
theorem dX12_boat_204 : decode cX12_boat 204 = .ok (.if_icmp .lt 6, 3) := by decide +kernel
theorem dX12_boat_207 : decode cX12_boat 207 = .ok (.goto 15, 3) := by decide +kernel
theorem dX12_boat_210 : decode cX12_boat 210 = .ok (.aload_n 0, 1) := by decide +kernel
theorem dX12_boat_211 : decode cX12_boat 211 = .ok (.getfield 79, 3) := by decide +kernel
theorem dX12_boat_214 : decode cX12_boat 214 = .ok (.iload 6, 2) := by decide +kernel
theorem dX12_boat_216 : decode cX12_boat 216 = .ok (.iload 8, 2) := by decide +kernel
theorem dX12_boat_218 : decode cX12_boat 218 = .ok (.iastore, 1) := by decide +kernel
theorem dX12_boat_219 : decode cX12_boat 219 = .ok (.iconst 1, 1) := by decide +kernel
theorem dX12_boat_220 : decode cX12_boat 220 = .ok (.istore 4, 2) := by decide +kernel
theorem dX12_boat_222 : decode cX12_boat 222 = .ok (.iinc 6 1, 3) := by decide +kernel
theorem dX12_boat_225 : decode cX12_boat 225 = .ok (.goto (-123), 3) := by decide +kernel
theorem dX12_boat_228 : decode cX12_boat 228 = .ok (.iinc 5 1, 3) := by decide +kernel
theorem dX12_boat_231 : decode cX12_boat 231 = .ok (.goto (-138), 3) := by decide +kernel
theorem dX12_boat_234 : decode cX12_boat 234 = .ok (.goto (-152), 3) := by decide +kernel
theorem dX12_boat_237 : decode cX12_boat 237 = .ok (.aload_n 0, 1) := by decide +kernel
theorem dX12_boat_238 : decode cX12_boat 238 = .ok (.getfield 79, 3) := by decide +kernel
theorem dX12_boat_241 : decode cX12_boat 241 = .ok (.iload_n 2, 1) := by decide +kernel
theorem dX12_boat_242 : decode cX12_boat 242 = .ok (.bipush 100, 2) := by decide +kernel
theorem dX12_boat_244 : decode cX12_boat 244 = .ok (.irem, 1) := by decide +kernel
theorem dX12_boat_245 : decode cX12_boat 245 = .ok (.iaload, 1) := by decide +kernel
theorem dX12_boat_246 : decode cX12_boat 246 = .ok (.ldc_w 290, 3) := by decide +kernel
theorem dX12_boat_249 : decode cX12_boat 249 = .ok (.if_icmp .ge 15, 3) := by decide +kernel
theorem dX12_boat_252 : decode cX12_boat 252 = .ok (.aload_n 0, 1) := by decide +kernel
theorem dX12_boat_253 : decode cX12_boat 253 = .ok (.getfield 79, 3) := by decide +kernel
theorem dX12_boat_256 : decode cX12_boat 256 = .ok (.iload_n 2, 1) := by decide +kernel
theorem dX12_boat_257 : decode cX12_boat 257 = .ok (.bipush 100, 2) := by decide +kernel
theorem dX12_boat_259 : decode cX12_boat 259 = .ok (.irem, 1) := by decide +kernel
theorem dX12_boat_260 : decode cX12_boat 260 = .ok (.iaload, 1) := by decide +kernel
theorem dX12_boat_261 : decode cX12_boat 261 = .ok (.goto 5, 3) := by decide +kernel
theorem dX12_boat_264 : decode cX12_boat 264 = .ok (.bipush (-2), 2) := by decide +kernel
theorem dX12_boat_266 : decode cX12_boat 266 = .ok (.ireturn, 1) := by decide +kernel
theorem dX12_relax_0 : decode cX12_relax 0 = .ok (.aload_n 0, 1) := by decide +kernel
theorem dX12_relax_1 : decode cX12_relax 1 = .ok (.getfield 82, 3) := by decide +kernel
theorem dX12_relax_4 : decode cX12_relax 4 = .ok (.iload_n 1, 1) := by decide +kernel
theorem dX12_relax_5 : decode cX12_relax 5 = .ok (.iaload, 1) := by decide +kernel
theorem dX12_relax_6 : decode cX12_relax 6 = .ok (.iconst 1, 1) := by decide +kernel
theorem dX12_relax_7 : decode cX12_relax 7 = .ok (.iadd, 1) := by decide +kernel
theorem dX12_relax_8 : decode cX12_relax 8 = .ok (.istore 4, 2) := by decide +kernel
theorem dX12_relax_10 : decode cX12_relax 10 = .ok (.iload 4, 2) := by decide +kernel
theorem dX12_relax_12 : decode cX12_relax 12 = .ok (.aload_n 0, 1) := by decide +kernel
theorem dX12_relax_13 : decode cX12_relax 13 = .ok (.getfield 82, 3) := by decide +kernel
theorem dX12_relax_16 : decode cX12_relax 16 = .ok (.bipush 10, 2) := by decide +kernel
theorem dX12_relax_18 : decode cX12_relax 18 = .ok (.iload_n 2, 1) := by decide +kernel
theorem dX12_relax_19 : decode cX12_relax 19 = .ok (.imul, 1) := by decide +kernel
theorem dX12_relax_20 : decode cX12_relax 20 = .ok (.iload_n 3, 1) := by decide +kernel
theorem dX12_relax_21 : decode cX12_relax 21 = .ok (.iadd, 1) := by decide +kernel
theorem dX12_relax_22 : decode cX12_relax 22 = .ok (.iaload, 1) := by decide +kernel
theorem dX12_relax_23 : decode cX12_relax 23 = .ok (.if_icmp .lt 5, 3) := by decide +kernel
theorem dX12_relax_26 : decode cX12_relax 26 = .ok (.iconst 0, 1) := by decide +kernel
theorem dX12_relax_27 : decode cX12_relax 27 = .ok (.ireturn, 1) := by decide +kernel
theorem dX12_relax_28 : decode cX12_relax 28 = .ok (.aload_n 0, 1) := by decide +kernel
theorem dX12_relax_29 : decode cX12_relax 29 = .ok (.getfield 82, 3) := by decide +kernel
theorem dX12_relax_32 : decode cX12_relax 32 = .ok (.bipush 10, 2) := by decide +kernel
theorem dX12_relax_34 : decode cX12_relax 34 = .ok (.iload_n 2, 1) := by decide +kernel
theorem dX12_relax_35 : decode cX12_relax 35 = .ok (.imul, 1) := by decide +kernel
theorem dX12_relax_36 : decode cX12_relax 36 = .ok (.iload_n 3, 1) := by decide +kernel
theorem dX12_relax_37 : decode cX12_relax 37 = .ok (.iadd, 1) := by decide +kernel
theorem dX12_relax_38 : decode cX12_relax 38 = .ok (.iload 4, 2) := by decide +kernel
theorem dX12_relax_40 : decode cX12_relax 40 = .ok (.iastore, 1) := by decide +kernel
theorem dX12_relax_41 : decode cX12_relax 41 = .ok (.iconst 1, 1) := by decide +kernel
theorem dX12_relax_42 : decode cX12_relax 42 = .ok (.ireturn, 1) := by decide +kernel
theorem dX12_escorted_0 : decode cX12_escorted 0 = .ok (.iconst 0, 1) := by decide +kernel
theorem dX12_escorted_1 : decode cX12_escorted 1 = .ok (.istore 4, 2) := by decide +kernel
theorem dX12_escorted_3 : decode cX12_escorted 3 = .ok (.iload 4, 2) := by decide +kernel
theorem dX12_escorted_5 : decode cX12_escorted 5 = .ok (.bipush 100, 2) := by decide +kernel
theorem dX12_escorted_7 : decode cX12_escorted 7 = .ok (.if_icmp .ge 19, 3) := by decide +kernel
theorem dX12_escorted_10 : decode cX12_escorted 10 = .ok (.aload_n 0, 1) := by decide +kernel
theorem dX12_escorted_11 : decode cX12_escorted 11 = .ok (.getfield 82, 3) := by decide +kernel
theorem dX12_escorted_14 : decode cX12_escorted 14 = .ok (.iload 4, 2) := by decide +kernel
theorem dX12_escorted_16 : decode cX12_escorted 16 = .ok (.ldc_w 290, 3) := by decide +kernel
theorem dX12_escorted_19 : decode cX12_escorted 19 = .ok (.iastore, 1) := by decide +kernel
theorem dX12_escorted_20 : decode cX12_escorted 20 = .ok (.iinc 4 1, 3) := by decide +kernel
theorem dX12_escorted_23 : decode cX12_escorted 23 = .ok (.goto (-20), 3) := by decide +kernel
theorem dX12_escorted_26 : decode cX12_escorted 26 = .ok (.aload_n 0, 1) := by decide +kernel
theorem dX12_escorted_27 : decode cX12_escorted 27 = .ok (.getfield 82, 3) := by decide +kernel
theorem dX12_escorted_30 : decode cX12_escorted 30 = .ok (.bipush 10, 2) := by decide +kernel
theorem dX12_escorted_32 : decode cX12_escorted 32 = .ok (.iload_n 2, 1) := by decide +kernel
theorem dX12_escorted_33 : decode cX12_escorted 33 = .ok (.imul, 1) := by decide +kernel
theorem dX12_escorted_34 : decode cX12_escorted 34 = .ok (.iload_n 3, 1) := by decide +kernel
theorem dX12_escorted_35 : decode cX12_escorted 35 = .ok (.iadd, 1) := by decide +kernel
theorem dX12_escorted_36 : decode cX12_escorted 36 = .ok (.iconst 0, 1) := by decide +kernel
theorem dX12_escorted_37 : decode cX12_escorted 37 = .ok (.iastore, 1) := by decide +kernel
theorem dX12_escorted_38 : decode cX12_escorted 38 = .ok (.iconst 1, 1) := by decide +kernel
theorem dX12_escorted_39 : decode cX12_escorted 39 = .ok (.istore 4, 2) := by decide +kernel
theorem dX12_escorted_41 : decode cX12_escorted 41 = .ok (.iload 4, 2) := by decide +kernel
theorem dX12_escorted_43 : decode cX12_escorted 43 = .ok (.ifCond .eq 170, 3) := by decide +kernel
theorem dX12_escorted_46 : decode cX12_escorted 46 = .ok (.iconst 0, 1) := by decide +kernel
theorem dX12_escorted_47 : decode cX12_escorted 47 = .ok (.istore 4, 2) := by decide +kernel
theorem dX12_escorted_49 : decode cX12_escorted 49 = .ok (.iconst 0, 1) := by decide +kernel
theorem dX12_escorted_50 : decode cX12_escorted 50 = .ok (.istore 5, 2) := by decide +kernel
theorem dX12_escorted_52 : decode cX12_escorted 52 = .ok (.iload 5, 2) := by decide +kernel
theorem dX12_escorted_54 : decode cX12_escorted 54 = .ok (.iload_n 2, 1) := by decide +kernel
theorem dX12_escorted_55 : decode cX12_escorted 55 = .ok (.if_icmp .gt 155, 3) := by decide +kernel
theorem dX12_escorted_58 : decode cX12_escorted 58 = .ok (.iconst 0, 1) := by decide +kernel
theorem dX12_escorted_59 : decode cX12_escorted 59 = .ok (.istore 6, 2) := by decide +kernel
theorem dX12_escorted_61 : decode cX12_escorted 61 = .ok (.iload 6, 2) := by decide +kernel
theorem dX12_escorted_63 : decode cX12_escorted 63 = .ok (.iload_n 3, 1) := by decide +kernel
theorem dX12_escorted_64 : decode cX12_escorted 64 = .ok (.if_icmp .gt 140, 3) := by decide +kernel
theorem dX12_escorted_67 : decode cX12_escorted 67 = .ok (.aload_n 0, 1) := by decide +kernel
theorem dX12_escorted_68 : decode cX12_escorted 68 = .ok (.getfield 82, 3) := by decide +kernel
theorem dX12_escorted_71 : decode cX12_escorted 71 = .ok (.bipush 10, 2) := by decide +kernel
theorem dX12_escorted_73 : decode cX12_escorted 73 = .ok (.iload 5, 2) := by decide +kernel
theorem dX12_escorted_75 : decode cX12_escorted 75 = .ok (.imul, 1) := by decide +kernel
theorem dX12_escorted_76 : decode cX12_escorted 76 = .ok (.iload 6, 2) := by decide +kernel
theorem dX12_escorted_78 : decode cX12_escorted 78 = .ok (.iadd, 1) := by decide +kernel
theorem dX12_escorted_79 : decode cX12_escorted 79 = .ok (.iaload, 1) := by decide +kernel
theorem dX12_escorted_80 : decode cX12_escorted 80 = .ok (.ldc_w 290, 3) := by decide +kernel
theorem dX12_escorted_83 : decode cX12_escorted 83 = .ok (.if_icmp .lt 6, 3) := by decide +kernel
theorem dX12_escorted_86 : decode cX12_escorted 86 = .ok (.goto 112, 3) := by decide +kernel
theorem dX12_escorted_89 : decode cX12_escorted 89 = .ok (.iconst 0, 1) := by decide +kernel
theorem dX12_escorted_90 : decode cX12_escorted 90 = .ok (.istore 7, 2) := by decide +kernel
theorem dX12_escorted_92 : decode cX12_escorted 92 = .ok (.iload 7, 2) := by decide +kernel
theorem dX12_escorted_94 : decode cX12_escorted 94 = .ok (.iload_n 1, 1) := by decide +kernel
theorem dX12_escorted_95 : decode cX12_escorted 95 = .ok (.if_icmp .gt 103, 3) := by decide +kernel
theorem dX12_escorted_98 : decode cX12_escorted 98 = .ok (.iload_n 1, 1) := by decide +kernel
theorem dX12_escorted_99 : decode cX12_escorted 99 = .ok (.iload 7, 2) := by decide +kernel
theorem dX12_escorted_101 : decode cX12_escorted 101 = .ok (.isub, 1) := by decide +kernel
theorem dX12_escorted_102 : decode cX12_escorted 102 = .ok (.istore 8, 2) := by decide +kernel
theorem dX12_escorted_104 : decode cX12_escorted 104 = .ok (.iload 7, 2) := by decide +kernel
theorem dX12_escorted_106 : decode cX12_escorted 106 = .ok (.iload 5, 2) := by decide +kernel
theorem dX12_escorted_108 : decode cX12_escorted 108 = .ok (.if_icmp .gt 38, 3) := by decide +kernel
theorem dX12_escorted_111 : decode cX12_escorted 111 = .ok (.iload 8, 2) := by decide +kernel
theorem dX12_escorted_113 : decode cX12_escorted 113 = .ok (.iload 6, 2) := by decide +kernel
theorem dX12_escorted_115 : decode cX12_escorted 115 = .ok (.if_icmp .gt 31, 3) := by decide +kernel
theorem dX12_escorted_118 : decode cX12_escorted 118 = .ok (.aload_n 0, 1) := by decide +kernel
theorem dX12_escorted_119 : decode cX12_escorted 119 = .ok (.bipush 10, 2) := by decide +kernel
theorem dX12_escorted_121 : decode cX12_escorted 121 = .ok (.iload 5, 2) := by decide +kernel
theorem dX12_escorted_123 : decode cX12_escorted 123 = .ok (.imul, 1) := by decide +kernel
theorem dX12_escorted_124 : decode cX12_escorted 124 = .ok (.iload 6, 2) := by decide +kernel
theorem dX12_escorted_126 : decode cX12_escorted 126 = .ok (.iadd, 1) := by decide +kernel
theorem dX12_escorted_127 : decode cX12_escorted 127 = .ok (.iload 5, 2) := by decide +kernel
theorem dX12_escorted_129 : decode cX12_escorted 129 = .ok (.iload 7, 2) := by decide +kernel
theorem dX12_escorted_131 : decode cX12_escorted 131 = .ok (.isub, 1) := by decide +kernel
theorem dX12_escorted_132 : decode cX12_escorted 132 = .ok (.iload 6, 2) := by decide +kernel
theorem dX12_escorted_134 : decode cX12_escorted 134 = .ok (.iload 8, 2) := by decide +kernel
theorem dX12_escorted_136 : decode cX12_escorted 136 = .ok (.isub, 1) := by decide +kernel
theorem dX12_escorted_137 : decode cX12_escorted 137 = .ok (.invokevirtual 312, 3) := by decide +kernel
theorem dX12_escorted_140 : decode cX12_escorted 140 = .ok (.ifCond .eq 6, 3) := by decide +kernel
theorem dX12_escorted_143 : decode cX12_escorted 143 = .ok (.iconst 1, 1) := by decide +kernel
theorem dX12_escorted_144 : decode cX12_escorted 144 = .ok (.istore 4, 2) := by decide +kernel
theorem dX12_escorted_146 : decode cX12_escorted 146 = .ok (.iload 7, 2) := by decide +kernel
theorem dX12_escorted_148 : decode cX12_escorted 148 = .ok (.iload_n 2, 1) := by decide +kernel
theorem dX12_escorted_149 : decode cX12_escorted 149 = .ok (.iload 5, 2) := by decide +kernel
theorem dX12_escorted_151 : decode cX12_escorted 151 = .ok (.isub, 1) := by decide +kernel
theorem dX12_escorted_152 : decode cX12_escorted 152 = .ok (.if_icmp .gt 40, 3) := by decide +kernel
theorem dX12_escorted_155 : decode cX12_escorted 155 = .ok (.iload 8, 2) := by decide +kernel
theorem dX12_escorted_157 : decode cX12_escorted 157 = .ok (.iload_n 3, 1) := by decide +kernel
theorem dX12_escorted_158 : decode cX12_escorted 158 = .ok (.iload 6, 2) := by decide +kernel
theorem dX12_escorted_160 : decode cX12_escorted 160 = .ok (.isub, 1) := by decide +kernel
theorem dX12_escorted_161 : decode cX12_escorted 161 = .ok (.if_icmp .gt 31, 3) := by decide +kernel
theorem dX12_escorted_164 : decode cX12_escorted 164 = .ok (.aload_n 0, 1) := by decide +kernel
theorem dX12_escorted_165 : decode cX12_escorted 165 = .ok (.bipush 10, 2) := by decide +kernel
theorem dX12_escorted_167 : decode cX12_escorted 167 = .ok (.iload 5, 2) := by decide +kernel
theorem dX12_escorted_169 : decode cX12_escorted 169 = .ok (.imul, 1) := by decide +kernel
theorem dX12_escorted_170 : decode cX12_escorted 170 = .ok (.iload 6, 2) := by decide +kernel
theorem dX12_escorted_172 : decode cX12_escorted 172 = .ok (.iadd, 1) := by decide +kernel
theorem dX12_escorted_173 : decode cX12_escorted 173 = .ok (.iload 5, 2) := by decide +kernel
theorem dX12_escorted_175 : decode cX12_escorted 175 = .ok (.iload 7, 2) := by decide +kernel
theorem dX12_escorted_177 : decode cX12_escorted 177 = .ok (.iadd, 1) := by decide +kernel
theorem dX12_escorted_178 : decode cX12_escorted 178 = .ok (.iload 6, 2) := by decide +kernel
theorem dX12_escorted_180 : decode cX12_escorted 180 = .ok (.iload 8, 2) := by decide +kernel
theorem dX12_escorted_182 : decode cX12_escorted 182 = .ok (.iadd, 1) := by decide +kernel
theorem dX12_escorted_183 : decode cX12_escorted 183 = .ok (.invokevirtual 312, 3) := by decide +kernel
theorem dX12_escorted_186 : decode cX12_escorted 186 = .ok (.ifCond .eq 6, 3) := by decide +kernel
theorem dX12_escorted_189 : decode cX12_escorted 189 = .ok (.iconst 1, 1) := by decide +kernel
theorem dX12_escorted_190 : decode cX12_escorted 190 = .ok (.istore 4, 2) := by decide +kernel
theorem dX12_escorted_192 : decode cX12_escorted 192 = .ok (.iinc 7 1, 3) := by decide +kernel
theorem dX12_escorted_195 : decode cX12_escorted 195 = .ok (.goto (-103), 3) := by decide +kernel
theorem dX12_escorted_198 : decode cX12_escorted 198 = .ok (.iinc 6 1, 3) := by decide +kernel
theorem dX12_escorted_201 : decode cX12_escorted 201 = .ok (.goto (-140), 3) := by decide +kernel
theorem dX12_escorted_204 : decode cX12_escorted 204 = .ok (.iinc 5 1, 3) := by decide +kernel
theorem dX12_escorted_207 : decode cX12_escorted 207 = .ok (.goto (-155), 3) := by decide +kernel
theorem dX12_escorted_210 : decode cX12_escorted 210 = .ok (.goto (-169), 3) := by decide +kernel
theorem dX12_escorted_213 : decode cX12_escorted 213 = .ok (.aload_n 0, 1) := by decide +kernel
theorem dX12_escorted_214 : decode cX12_escorted 214 = .ok (.getfield 82, 3) := by decide +kernel
theorem dX12_escorted_217 : decode cX12_escorted 217 = .ok (.iload_n 3, 1) := by decide +kernel
theorem dX12_escorted_218 : decode cX12_escorted 218 = .ok (.iaload, 1) := by decide +kernel
theorem dX12_escorted_219 : decode cX12_escorted 219 = .ok (.ireturn, 1) := by decide +kernel
theorem dX12_escort_0 : decode cX12_escort 0 = .ok (.iload_n 1, 1) := by decide +kernel
theorem dX12_escort_1 : decode cX12_escort 1 = .ok (.ifCond .lt 23, 3) := by decide +kernel
theorem dX12_escort_4 : decode cX12_escort 4 = .ok (.aload_n 0, 1) := by decide +kernel
theorem dX12_escort_5 : decode cX12_escort 5 = .ok (.iload_n 1, 1) := by decide +kernel
theorem dX12_escort_6 : decode cX12_escort 6 = .ok (.bipush 10, 2) := by decide +kernel
theorem dX12_escort_8 : decode cX12_escort 8 = .ok (.idiv, 1) := by decide +kernel
theorem dX12_escort_9 : decode cX12_escort 9 = .ok (.invokevirtual 157, 3) := by decide +kernel
theorem dX12_escort_12 : decode cX12_escort 12 = .ok (.ifCond .eq 12, 3) := by decide +kernel
theorem dX12_escort_15 : decode cX12_escort 15 = .ok (.iload_n 2, 1) := by decide +kernel
theorem dX12_escort_16 : decode cX12_escort 16 = .ok (.iconst 0, 1) := by decide +kernel
theorem dX12_escort_17 : decode cX12_escort 17 = .ok (.iconst 1, 1) := by decide +kernel
theorem dX12_escort_18 : decode cX12_escort 18 = .ok (.invokestatic 114, 3) := by decide +kernel
theorem dX12_escort_21 : decode cX12_escort 21 = .ok (.ifCond .ne 5, 3) := by decide +kernel
theorem dX12_escort_24 : decode cX12_escort 24 = .ok (.iconst (-1), 1) := by decide +kernel
theorem dX12_escort_25 : decode cX12_escort 25 = .ok (.ireturn, 1) := by decide +kernel
theorem dX12_escort_26 : decode cX12_escort 26 = .ok (.iconst 0, 1) := by decide +kernel
theorem dX12_escort_27 : decode cX12_escort 27 = .ok (.istore_n 3, 1) := by decide +kernel
theorem dX12_escort_28 : decode cX12_escort 28 = .ok (.iload_n 3, 1) := by decide +kernel
theorem dX12_escort_29 : decode cX12_escort 29 = .ok (.bipush 9, 2) := by decide +kernel
theorem dX12_escort_31 : decode cX12_escort 31 = .ok (.if_icmp .gt 48, 3) := by decide +kernel
theorem dX12_escort_34 : decode cX12_escort 34 = .ok (.aload_n 0, 1) := by decide +kernel
theorem dX12_escort_35 : decode cX12_escort 35 = .ok (.aload_n 0, 1) := by decide +kernel
theorem dX12_escort_36 : decode cX12_escort 36 = .ok (.getfield 7, 3) := by decide +kernel
theorem dX12_escort_39 : decode cX12_escort 39 = .ok (.iload_n 1, 1) := by decide +kernel
theorem dX12_escort_40 : decode cX12_escort 40 = .ok (.bipush 10, 2) := by decide +kernel
theorem dX12_escort_42 : decode cX12_escort 42 = .ok (.idiv, 1) := by decide +kernel
theorem dX12_escort_43 : decode cX12_escort 43 = .ok (.iaload, 1) := by decide +kernel
theorem dX12_escort_44 : decode cX12_escort 44 = .ok (.iload_n 1, 1) := by decide +kernel
theorem dX12_escort_45 : decode cX12_escort 45 = .ok (.bipush 10, 2) := by decide +kernel
theorem dX12_escort_47 : decode cX12_escort 47 = .ok (.irem, 1) := by decide +kernel
theorem dX12_escort_48 : decode cX12_escort 48 = .ok (.iload_n 3, 1) := by decide +kernel
theorem dX12_escort_49 : decode cX12_escort 49 = .ok (.invokevirtual 315, 3) := by decide +kernel
theorem dX12_escort_52 : decode cX12_escort 52 = .ok (.istore 4, 2) := by decide +kernel
theorem dX12_escort_54 : decode cX12_escort 54 = .ok (.iload 4, 2) := by decide +kernel
theorem dX12_escort_56 : decode cX12_escort 56 = .ok (.ldc_w 290, 3) := by decide +kernel
theorem dX12_escort_59 : decode cX12_escort 59 = .ok (.if_icmp .ge 14, 3) := by decide +kernel
theorem dX12_escort_62 : decode cX12_escort 62 = .ok (.iload_n 2, 1) := by decide +kernel
theorem dX12_escort_63 : decode cX12_escort 63 = .ok (.ifCond .ne 7, 3) := by decide +kernel
theorem dX12_escort_66 : decode cX12_escort 66 = .ok (.iload_n 3, 1) := by decide +kernel
theorem dX12_escort_67 : decode cX12_escort 67 = .ok (.goto 5, 3) := by decide +kernel
theorem dX12_escort_70 : decode cX12_escort 70 = .ok (.iload 4, 2) := by decide +kernel
theorem dX12_escort_72 : decode cX12_escort 72 = .ok (.ireturn, 1) := by decide +kernel
theorem dX12_escort_73 : decode cX12_escort 73 = .ok (.iinc 3 1, 3) := by decide +kernel
theorem dX12_escort_76 : decode cX12_escort 76 = .ok (.goto (-48), 3) := by decide +kernel
theorem dX12_escort_79 : decode cX12_escort 79 = .ok (.bipush (-2), 2) := by decide +kernel
theorem dX12_escort_81 : decode cX12_escort 81 = .ok (.ireturn, 1) := by decide +kernel
theorem dX12_isSoon_0 : decode cX12_isSoon 0 = .ok (.iload_n 1, 1) := by decide +kernel
theorem dX12_isSoon_1 : decode cX12_isSoon 1 = .ok (.ifCond .ne 5, 3) := by decide +kernel
theorem dX12_isSoon_4 : decode cX12_isSoon 4 = .ok (.iconst 1, 1) := by decide +kernel
theorem dX12_isSoon_5 : decode cX12_isSoon 5 = .ok (.ireturn, 1) := by decide +kernel
theorem dX12_isSoon_6 : decode cX12_isSoon 6 = .ok (.iload_n 2, 1) := by decide +kernel
theorem dX12_isSoon_7 : decode cX12_isSoon 7 = .ok (.aload_n 0, 1) := by decide +kernel
theorem dX12_isSoon_8 : decode cX12_isSoon 8 = .ok (.getfield 111, 3) := by decide +kernel
theorem dX12_isSoon_11 : decode cX12_isSoon 11 = .ok (.if_icmp .ne 5, 3) := by decide +kernel
theorem dX12_isSoon_14 : decode cX12_isSoon 14 = .ok (.iconst 0, 1) := by decide +kernel
theorem dX12_isSoon_15 : decode cX12_isSoon 15 = .ok (.ireturn, 1) := by decide +kernel
theorem dX12_isSoon_16 : decode cX12_isSoon 16 = .ok (.iconst 0, 1) := by decide +kernel
theorem dX12_isSoon_17 : decode cX12_isSoon 17 = .ok (.istore 4, 2) := by decide +kernel
theorem dX12_isSoon_19 : decode cX12_isSoon 19 = .ok (.iload 4, 2) := by decide +kernel
theorem dX12_isSoon_21 : decode cX12_isSoon 21 = .ok (.iload_n 3, 1) := by decide +kernel
theorem dX12_isSoon_22 : decode cX12_isSoon 22 = .ok (.if_icmp .gt 46, 3) := by decide +kernel
theorem dX12_isSoon_25 : decode cX12_isSoon 25 = .ok (.iload 4, 2) := by decide +kernel
theorem dX12_isSoon_27 : decode cX12_isSoon 27 = .ok (.aload_n 0, 1) := by decide +kernel
theorem dX12_isSoon_28 : decode cX12_isSoon 28 = .ok (.getfield 7, 3) := by decide +kernel
theorem dX12_isSoon_31 : decode cX12_isSoon 31 = .ok (.iload_n 2, 1) := by decide +kernel
theorem dX12_isSoon_32 : decode cX12_isSoon 32 = .ok (.iaload, 1) := by decide +kernel
theorem dX12_isSoon_33 : decode cX12_isSoon 33 = .ok (.imul, 1) := by decide +kernel
theorem dX12_isSoon_34 : decode cX12_isSoon 34 = .ok (.iload_n 1, 1) := by decide +kernel
theorem dX12_isSoon_35 : decode cX12_isSoon 35 = .ok (.if_icmp .gt 33, 3) := by decide +kernel
theorem dX12_isSoon_38 : decode cX12_isSoon 38 = .ok (.aload_n 0, 1) := by decide +kernel
theorem dX12_isSoon_39 : decode cX12_isSoon 39 = .ok (.iload_n 1, 1) := by decide +kernel
theorem dX12_isSoon_40 : decode cX12_isSoon 40 = .ok (.iload 4, 2) := by decide +kernel
theorem dX12_isSoon_42 : decode cX12_isSoon 42 = .ok (.aload_n 0, 1) := by decide +kernel
theorem dX12_isSoon_43 : decode cX12_isSoon 43 = .ok (.getfield 7, 3) := by decide +kernel
theorem dX12_isSoon_46 : decode cX12_isSoon 46 = .ok (.iload_n 2, 1) := by decide +kernel
theorem dX12_isSoon_47 : decode cX12_isSoon 47 = .ok (.iaload, 1) := by decide +kernel
theorem dX12_isSoon_48 : decode cX12_isSoon 48 = .ok (.imul, 1) := by decide +kernel
theorem dX12_isSoon_49 : decode cX12_isSoon 49 = .ok (.isub, 1) := by decide +kernel
theorem dX12_isSoon_50 : decode cX12_isSoon 50 = .ok (.iload_n 2, 1) := by decide +kernel
theorem dX12_isSoon_51 : decode cX12_isSoon 51 = .ok (.iconst 1, 1) := by decide +kernel
theorem dX12_isSoon_52 : decode cX12_isSoon 52 = .ok (.iadd, 1) := by decide +kernel
theorem dX12_isSoon_53 : decode cX12_isSoon 53 = .ok (.iload_n 3, 1) := by decide +kernel
theorem dX12_isSoon_54 : decode cX12_isSoon 54 = .ok (.invokevirtual 318, 3) := by decide +kernel
theorem dX12_isSoon_57 : decode cX12_isSoon 57 = .ok (.ifCond .eq 5, 3) := by decide +kernel
theorem dX12_isSoon_60 : decode cX12_isSoon 60 = .ok (.iconst 1, 1) := by decide +kernel
theorem dX12_isSoon_61 : decode cX12_isSoon 61 = .ok (.ireturn, 1) := by decide +kernel
theorem dX12_isSoon_62 : decode cX12_isSoon 62 = .ok (.iinc 4 1, 3) := by decide +kernel
theorem dX12_isSoon_65 : decode cX12_isSoon 65 = .ok (.goto (-46), 3) := by decide +kernel
theorem dX12_isSoon_68 : decode cX12_isSoon 68 = .ok (.iconst 0, 1) := by decide +kernel
theorem dX12_isSoon_69 : decode cX12_isSoon 69 = .ok (.ireturn, 1) := by decide +kernel
theorem dX12_soon_0 : decode cX12_soon 0 = .ok (.iload_n 1, 1) := by decide +kernel
theorem dX12_soon_1 : decode cX12_soon 1 = .ok (.iconst 0, 1) := by decide +kernel
theorem dX12_soon_2 : decode cX12_soon 2 = .ok (.bipush 60, 2) := by decide +kernel
theorem dX12_soon_4 : decode cX12_soon 4 = .ok (.invokestatic 114, 3) := by decide +kernel
theorem dX12_soon_7 : decode cX12_soon 7 = .ok (.ifCond .ne 5, 3) := by decide +kernel
theorem dX12_soon_10 : decode cX12_soon 10 = .ok (.iconst (-1), 1) := by decide +kernel
theorem dX12_soon_11 : decode cX12_soon 11 = .ok (.ireturn, 1) := by decide +kernel
theorem dX12_soon_12 : decode cX12_soon 12 = .ok (.iconst 0, 1) := by decide +kernel
theorem dX12_soon_13 : decode cX12_soon 13 = .ok (.istore_n 2, 1) := by decide +kernel
theorem dX12_soon_14 : decode cX12_soon 14 = .ok (.iload_n 2, 1) := by decide +kernel
theorem dX12_soon_15 : decode cX12_soon 15 = .ok (.bipush 60, 2) := by decide +kernel
theorem dX12_soon_17 : decode cX12_soon 17 = .ok (.if_icmp .gt 21, 3) := by decide +kernel
theorem dX12_soon_20 : decode cX12_soon 20 = .ok (.aload_n 0, 1) := by decide +kernel
theorem dX12_soon_21 : decode cX12_soon 21 = .ok (.iload_n 1, 1) := by decide +kernel
theorem dX12_soon_22 : decode cX12_soon 22 = .ok (.iconst 0, 1) := by decide +kernel
theorem dX12_soon_23 : decode cX12_soon 23 = .ok (.iload_n 2, 1) := by decide +kernel
theorem dX12_soon_24 : decode cX12_soon 24 = .ok (.invokevirtual 318, 3) := by decide +kernel
theorem dX12_soon_27 : decode cX12_soon 27 = .ok (.ifCond .eq 5, 3) := by decide +kernel
theorem dX12_soon_30 : decode cX12_soon 30 = .ok (.iload_n 2, 1) := by decide +kernel
theorem dX12_soon_31 : decode cX12_soon 31 = .ok (.ireturn, 1) := by decide +kernel
theorem dX12_soon_32 : decode cX12_soon 32 = .ok (.iinc 2 1, 3) := by decide +kernel
theorem dX12_soon_35 : decode cX12_soon 35 = .ok (.goto (-21), 3) := by decide +kernel
theorem dX12_soon_38 : decode cX12_soon 38 = .ok (.bipush (-2), 2) := by decide +kernel
theorem dX12_soon_40 : decode cX12_soon 40 = .ok (.ireturn, 1) := by decide +kernel
theorem dX12_common_0 : decode cX12_common 0 = .ok (.lload_n 0, 1) := by decide +kernel
theorem dX12_common_1 : decode cX12_common 1 = .ok (.lstore 4, 2) := by decide +kernel
theorem dX12_common_3 : decode cX12_common 3 = .ok (.lload_n 2, 1) := by decide +kernel
theorem dX12_common_4 : decode cX12_common 4 = .ok (.lstore 6, 2) := by decide +kernel
theorem dX12_common_6 : decode cX12_common 6 = .ok (.lload 6, 2) := by decide +kernel
theorem dX12_common_8 : decode cX12_common 8 = .ok (.lconst 0, 1) := by decide +kernel
theorem dX12_common_9 : decode cX12_common 9 = .ok (.lcmp, 1) := by decide +kernel
theorem dX12_common_10 : decode cX12_common 10 = .ok (.ifCond .eq 21, 3) := by decide +kernel
theorem dX12_common_13 : decode cX12_common 13 = .ok (.lload 4, 2) := by decide +kernel
theorem dX12_common_15 : decode cX12_common 15 = .ok (.lload 6, 2) := by decide +kernel
theorem dX12_common_17 : decode cX12_common 17 = .ok (.lrem, 1) := by decide +kernel
theorem dX12_common_18 : decode cX12_common 18 = .ok (.lstore 8, 2) := by decide +kernel
theorem dX12_common_20 : decode cX12_common 20 = .ok (.lload 6, 2) := by decide +kernel
theorem dX12_common_22 : decode cX12_common 22 = .ok (.lstore 4, 2) := by decide +kernel
theorem dX12_common_24 : decode cX12_common 24 = .ok (.lload 8, 2) := by decide +kernel
theorem dX12_common_26 : decode cX12_common 26 = .ok (.lstore 6, 2) := by decide +kernel
theorem dX12_common_28 : decode cX12_common 28 = .ok (.goto (-22), 3) := by decide +kernel
theorem dX12_common_31 : decode cX12_common 31 = .ok (.lload 4, 2) := by decide +kernel
theorem dX12_common_33 : decode cX12_common 33 = .ok (.lreturn, 1) := by decide +kernel
theorem dX12_power_0 : decode cX12_power 0 = .ok (.lconst 1, 1) := by decide +kernel
theorem dX12_power_1 : decode cX12_power 1 = .ok (.lstore_n 1, 1) := by decide +kernel
theorem dX12_power_2 : decode cX12_power 2 = .ok (.iconst 0, 1) := by decide +kernel
theorem dX12_power_3 : decode cX12_power 3 = .ok (.istore_n 3, 1) := by decide +kernel
theorem dX12_power_4 : decode cX12_power 4 = .ok (.iload_n 3, 1) := by decide +kernel
theorem dX12_power_5 : decode cX12_power 5 = .ok (.iload_n 0, 1) := by decide +kernel
theorem dX12_power_6 : decode cX12_power 6 = .ok (.if_icmp .ge 15, 3) := by decide +kernel
theorem dX12_power_9 : decode cX12_power 9 = .ok (.lload_n 1, 1) := by decide +kernel
theorem dX12_power_10 : decode cX12_power 10 = .ok (.ldc2_w 321, 3) := by decide +kernel
theorem dX12_power_13 : decode cX12_power 13 = .ok (.lmul, 1) := by decide +kernel
theorem dX12_power_14 : decode cX12_power 14 = .ok (.lstore_n 1, 1) := by decide +kernel
theorem dX12_power_15 : decode cX12_power 15 = .ok (.iinc 3 1, 3) := by decide +kernel
theorem dX12_power_18 : decode cX12_power 18 = .ok (.goto (-14), 3) := by decide +kernel
theorem dX12_power_21 : decode cX12_power 21 = .ok (.lload_n 1, 1) := by decide +kernel
theorem dX12_power_22 : decode cX12_power 22 = .ok (.lreturn, 1) := by decide +kernel
theorem dX12_waiting_0 : decode cX12_waiting 0 = .ok (.iload 4, 2) := by decide +kernel
theorem dX12_waiting_2 : decode cX12_waiting 2 = .ok (.ifCond .eq 13, 3) := by decide +kernel
theorem dX12_waiting_5 : decode cX12_waiting 5 = .ok (.iload_n 2, 1) := by decide +kernel
theorem dX12_waiting_6 : decode cX12_waiting 6 = .ok (.aload_n 0, 1) := by decide +kernel
theorem dX12_waiting_7 : decode cX12_waiting 7 = .ok (.getfield 7, 3) := by decide +kernel
theorem dX12_waiting_10 : decode cX12_waiting 10 = .ok (.iload_n 1, 1) := by decide +kernel
theorem dX12_waiting_11 : decode cX12_waiting 11 = .ok (.iaload, 1) := by decide +kernel
theorem dX12_waiting_12 : decode cX12_waiting 12 = .ok (.if_icmp .ne 5, 3) := by decide +kernel
theorem dX12_waiting_15 : decode cX12_waiting 15 = .ok (.lconst 0, 1) := by decide +kernel
theorem dX12_waiting_16 : decode cX12_waiting 16 = .ok (.lreturn, 1) := by decide +kernel
theorem dX12_waiting_17 : decode cX12_waiting 17 = .ok (.aload_n 0, 1) := by decide +kernel
theorem dX12_waiting_18 : decode cX12_waiting 18 = .ok (.iload_n 1, 1) := by decide +kernel
theorem dX12_waiting_19 : decode cX12_waiting 19 = .ok (.iload_n 2, 1) := by decide +kernel
theorem dX12_waiting_20 : decode cX12_waiting 20 = .ok (.iload_n 3, 1) := by decide +kernel
theorem dX12_waiting_21 : decode cX12_waiting 21 = .ok (.invokevirtual 237, 3) := by decide +kernel
theorem dX12_waiting_24 : decode cX12_waiting 24 = .ok (.istore 5, 2) := by decide +kernel
theorem dX12_waiting_26 : decode cX12_waiting 26 = .ok (.iload 4, 2) := by decide +kernel
theorem dX12_waiting_28 : decode cX12_waiting 28 = .ok (.invokestatic 323, 3) := by decide +kernel
theorem dX12_waiting_31 : decode cX12_waiting 31 = .ok (.iload 5, 2) := by decide +kernel
theorem dX12_waiting_33 : decode cX12_waiting 33 = .ok (.i2l, 1) := by decide +kernel
theorem dX12_waiting_34 : decode cX12_waiting 34 = .ok (.aload_n 0, 1) := by decide +kernel
theorem dX12_waiting_35 : decode cX12_waiting 35 = .ok (.iload_n 1, 1) := by decide +kernel
theorem dX12_waiting_36 : decode cX12_waiting 36 = .ok (.iload_n 2, 1) := by decide +kernel
theorem dX12_waiting_37 : decode cX12_waiting 37 = .ok (.iconst 1, 1) := by decide +kernel
theorem dX12_waiting_38 : decode cX12_waiting 38 = .ok (.iadd, 1) := by decide +kernel
theorem dX12_waiting_39 : decode cX12_waiting 39 = .ok (.iload_n 3, 1) := by decide +kernel
theorem dX12_waiting_40 : decode cX12_waiting 40 = .ok (.iconst 1, 1) := by decide +kernel
theorem dX12_waiting_41 : decode cX12_waiting 41 = .ok (.iadd, 1) := by decide +kernel
theorem dX12_waiting_42 : decode cX12_waiting 42 = .ok (.iload 4, 2) := by decide +kernel
theorem dX12_waiting_44 : decode cX12_waiting 44 = .ok (.iconst 1, 1) := by decide +kernel
theorem dX12_waiting_45 : decode cX12_waiting 45 = .ok (.isub, 1) := by decide +kernel
theorem dX12_waiting_46 : decode cX12_waiting 46 = .ok (.invokevirtual 327, 3) := by decide +kernel
theorem dX12_waiting_49 : decode cX12_waiting 49 = .ok (.lmul, 1) := by decide +kernel
theorem dX12_waiting_50 : decode cX12_waiting 50 = .ok (.ladd, 1) := by decide +kernel
theorem dX12_waiting_51 : decode cX12_waiting 51 = .ok (.bipush 12, 2) := by decide +kernel
theorem dX12_waiting_53 : decode cX12_waiting 53 = .ok (.iload 5, 2) := by decide +kernel
theorem dX12_waiting_55 : decode cX12_waiting 55 = .ok (.isub, 1) := by decide +kernel
theorem dX12_waiting_56 : decode cX12_waiting 56 = .ok (.i2l, 1) := by decide +kernel
theorem dX12_waiting_57 : decode cX12_waiting 57 = .ok (.aload_n 0, 1) := by decide +kernel
theorem dX12_waiting_58 : decode cX12_waiting 58 = .ok (.iload_n 1, 1) := by decide +kernel
theorem dX12_waiting_59 : decode cX12_waiting 59 = .ok (.iload_n 2, 1) := by decide +kernel
theorem dX12_waiting_60 : decode cX12_waiting 60 = .ok (.iload_n 3, 1) := by decide +kernel
theorem dX12_waiting_61 : decode cX12_waiting 61 = .ok (.iconst 1, 1) := by decide +kernel
theorem dX12_waiting_62 : decode cX12_waiting 62 = .ok (.iadd, 1) := by decide +kernel
theorem dX12_waiting_63 : decode cX12_waiting 63 = .ok (.iload 4, 2) := by decide +kernel
theorem dX12_waiting_65 : decode cX12_waiting 65 = .ok (.iconst 1, 1) := by decide +kernel
theorem dX12_waiting_66 : decode cX12_waiting 66 = .ok (.isub, 1) := by decide +kernel
theorem dX12_waiting_67 : decode cX12_waiting 67 = .ok (.invokevirtual 327, 3) := by decide +kernel
theorem dX12_waiting_70 : decode cX12_waiting 70 = .ok (.lmul, 1) := by decide +kernel
theorem dX12_waiting_71 : decode cX12_waiting 71 = .ok (.ladd, 1) := by decide +kernel
theorem dX12_waiting_72 : decode cX12_waiting 72 = .ok (.lreturn, 1) := by decide +kernel
theorem dX12_waits_0 : decode cX12_waits 0 = .ok (.iload_n 1, 1) := by decide +kernel
theorem dX12_waits_1 : decode cX12_waits 1 = .ok (.ifCond .lt 43, 3) := by decide +kernel
theorem dX12_waits_4 : decode cX12_waits 4 = .ok (.aload_n 0, 1) := by decide +kernel
theorem dX12_waits_5 : decode cX12_waits 5 = .ok (.iload_n 1, 1) := by decide +kernel
theorem dX12_waits_6 : decode cX12_waits 6 = .ok (.bipush 100, 2) := by decide +kernel
theorem dX12_waits_8 : decode cX12_waits 8 = .ok (.idiv, 1) := by decide +kernel
theorem dX12_waits_9 : decode cX12_waits 9 = .ok (.invokevirtual 157, 3) := by decide +kernel
theorem dX12_waits_12 : decode cX12_waits 12 = .ok (.ifCond .eq 32, 3) := by decide +kernel
theorem dX12_waits_15 : decode cX12_waits 15 = .ok (.iload_n 1, 1) := by decide +kernel
theorem dX12_waits_16 : decode cX12_waits 16 = .ok (.bipush 100, 2) := by decide +kernel
theorem dX12_waits_18 : decode cX12_waits 18 = .ok (.irem, 1) := by decide +kernel
theorem dX12_waits_19 : decode cX12_waits 19 = .ok (.invokestatic 121, 3) := by decide +kernel
theorem dX12_waits_22 : decode cX12_waits 22 = .ok (.ifCond .eq 22, 3) := by decide +kernel
theorem dX12_waits_25 : decode cX12_waits 25 = .ok (.iload_n 2, 1) := by decide +kernel
theorem dX12_waits_26 : decode cX12_waits 26 = .ok (.iconst 0, 1) := by decide +kernel
theorem dX12_waits_27 : decode cX12_waits 27 = .ok (.bipush 8, 2) := by decide +kernel
theorem dX12_waits_29 : decode cX12_waits 29 = .ok (.invokestatic 114, 3) := by decide +kernel
theorem dX12_waits_32 : decode cX12_waits 32 = .ok (.ifCond .eq 12, 3) := by decide +kernel
theorem dX12_waits_35 : decode cX12_waits 35 = .ok (.iload_n 3, 1) := by decide +kernel
theorem dX12_waits_36 : decode cX12_waits 36 = .ok (.iconst 0, 1) := by decide +kernel
theorem dX12_waits_37 : decode cX12_waits 37 = .ok (.iconst 1, 1) := by decide +kernel
theorem dX12_waits_38 : decode cX12_waits 38 = .ok (.invokestatic 114, 3) := by decide +kernel
theorem dX12_waits_41 : decode cX12_waits 41 = .ok (.ifCond .ne 7, 3) := by decide +kernel
theorem dX12_waits_44 : decode cX12_waits 44 = .ok (.ldc2_w 333, 3) := by decide +kernel
theorem dX12_waits_47 : decode cX12_waits 47 = .ok (.lreturn, 1) := by decide +kernel
theorem dX12_waits_48 : decode cX12_waits 48 = .ok (.aload_n 0, 1) := by decide +kernel
theorem dX12_waits_49 : decode cX12_waits 49 = .ok (.iload_n 1, 1) := by decide +kernel
theorem dX12_waits_50 : decode cX12_waits 50 = .ok (.bipush 100, 2) := by decide +kernel
theorem dX12_waits_52 : decode cX12_waits 52 = .ok (.idiv, 1) := by decide +kernel
theorem dX12_waits_53 : decode cX12_waits 53 = .ok (.iconst 0, 1) := by decide +kernel
theorem dX12_waits_54 : decode cX12_waits 54 = .ok (.iload_n 1, 1) := by decide +kernel
theorem dX12_waits_55 : decode cX12_waits 55 = .ok (.bipush 100, 2) := by decide +kernel
theorem dX12_waits_57 : decode cX12_waits 57 = .ok (.irem, 1) := by decide +kernel
theorem dX12_waits_58 : decode cX12_waits 58 = .ok (.iload_n 2, 1) := by decide +kernel
theorem dX12_waits_59 : decode cX12_waits 59 = .ok (.invokevirtual 327, 3) := by decide +kernel
theorem dX12_waits_62 : decode cX12_waits 62 = .ok (.lstore 4, 2) := by decide +kernel
theorem dX12_waits_64 : decode cX12_waits 64 = .ok (.iload_n 2, 1) := by decide +kernel
theorem dX12_waits_65 : decode cX12_waits 65 = .ok (.invokestatic 323, 3) := by decide +kernel
theorem dX12_waits_68 : decode cX12_waits 68 = .ok (.lstore 6, 2) := by decide +kernel
theorem dX12_waits_70 : decode cX12_waits 70 = .ok (.lload 4, 2) := by decide +kernel
theorem dX12_waits_72 : decode cX12_waits 72 = .ok (.lload 6, 2) := by decide +kernel
theorem dX12_waits_74 : decode cX12_waits 74 = .ok (.invokestatic 335, 3) := by decide +kernel
theorem dX12_waits_77 : decode cX12_waits 77 = .ok (.lstore 8, 2) := by decide +kernel
theorem dX12_waits_79 : decode cX12_waits 79 = .ok (.iload_n 3, 1) := by decide +kernel
theorem dX12_waits_80 : decode cX12_waits 80 = .ok (.ifCond .ne 11, 3) := by decide +kernel
theorem dX12_waits_83 : decode cX12_waits 83 = .ok (.lload 4, 2) := by decide +kernel
theorem dX12_waits_85 : decode cX12_waits 85 = .ok (.lload 8, 2) := by decide +kernel
theorem dX12_waits_87 : decode cX12_waits 87 = .ok (.ldiv, 1) := by decide +kernel
theorem dX12_waits_88 : decode cX12_waits 88 = .ok (.goto 8, 3) := by decide +kernel
theorem dX12_waits_91 : decode cX12_waits 91 = .ok (.lload 6, 2) := by decide +kernel
theorem dX12_waits_93 : decode cX12_waits 93 = .ok (.lload 8, 2) := by decide +kernel
theorem dX12_waits_95 : decode cX12_waits 95 = .ok (.ldiv, 1) := by decide +kernel
theorem dX12_waits_96 : decode cX12_waits 96 = .ok (.lreturn, 1) := by decide +kernel
theorem dX12_drawn_0 : decode cX12_drawn 0 = .ok (.iload_n 2, 1) := by decide +kernel
theorem dX12_drawn_1 : decode cX12_drawn 1 = .ok (.iconst 1, 1) := by decide +kernel
theorem dX12_drawn_2 : decode cX12_drawn 2 = .ok (.bipush 30, 2) := by decide +kernel
theorem dX12_drawn_4 : decode cX12_drawn 4 = .ok (.invokestatic 114, 3) := by decide +kernel
theorem dX12_drawn_7 : decode cX12_drawn 7 = .ok (.ifCond .eq 11, 3) := by decide +kernel
theorem dX12_drawn_10 : decode cX12_drawn 10 = .ok (.aload_n 0, 1) := by decide +kernel
theorem dX12_drawn_11 : decode cX12_drawn 11 = .ok (.iload_n 3, 1) := by decide +kernel
theorem dX12_drawn_12 : decode cX12_drawn 12 = .ok (.invokevirtual 157, 3) := by decide +kernel
theorem dX12_drawn_15 : decode cX12_drawn 15 = .ok (.ifCond .ne 5, 3) := by decide +kernel
theorem dX12_drawn_18 : decode cX12_drawn 18 = .ok (.iconst (-1), 1) := by decide +kernel
theorem dX12_drawn_19 : decode cX12_drawn 19 = .ok (.ireturn, 1) := by decide +kernel
theorem dX12_drawn_20 : decode cX12_drawn 20 = .ok (.iload_n 1, 1) := by decide +kernel
theorem dX12_drawn_21 : decode cX12_drawn 21 = .ok (.istore 4, 2) := by decide +kernel
theorem dX12_drawn_23 : decode cX12_drawn 23 = .ok (.iconst 0, 1) := by decide +kernel
theorem dX12_drawn_24 : decode cX12_drawn 24 = .ok (.istore 5, 2) := by decide +kernel
theorem dX12_drawn_26 : decode cX12_drawn 26 = .ok (.iconst 0, 1) := by decide +kernel
theorem dX12_drawn_27 : decode cX12_drawn 27 = .ok (.istore 6, 2) := by decide +kernel
theorem dX12_drawn_29 : decode cX12_drawn 29 = .ok (.iload 6, 2) := by decide +kernel
theorem dX12_drawn_31 : decode cX12_drawn 31 = .ok (.iload_n 2, 1) := by decide +kernel
theorem dX12_drawn_32 : decode cX12_drawn 32 = .ok (.if_icmp .ge 87, 3) := by decide +kernel
theorem dX12_drawn_35 : decode cX12_drawn 35 = .ok (.iconst 0, 1) := by decide +kernel
theorem dX12_drawn_36 : decode cX12_drawn 36 = .ok (.istore 7, 2) := by decide +kernel
theorem dX12_drawn_38 : decode cX12_drawn 38 = .ok (.iconst 0, 1) := by decide +kernel
theorem dX12_drawn_39 : decode cX12_drawn 39 = .ok (.istore 8, 2) := by decide +kernel
