theorem dX11_init_169 : decode cX11_init 169 = .ok (.new 80, 3) := by decide +kernel
theorem dX11_init_172 : decode cX11_init 172 = .ok (.dup, 1) := by decide +kernel
theorem dX11_init_173 : decode cX11_init 173 = .ok (.invokespecial 86, 3) := by decide +kernel
theorem dX11_init_176 : decode cX11_init 176 = .ok (.aastore, 1) := by decide +kernel
theorem dX11_init_177 : decode cX11_init 177 = .ok (.iinc 1 1, 3) := by decide +kernel
theorem dX11_init_180 : decode cX11_init 180 = .ok (.goto (-22), 3) := by decide +kernel
theorem dX11_init_183 : decode cX11_init 183 = .ok (.return_, 1) := by decide +kernel
theorem dX11_gate_0 : decode cX11_gate 0 = .ok (.iload_n 1, 1) := by decide +kernel
theorem dX11_gate_1 : decode cX11_gate 1 = .ok (.invokestatic 87, 3) := by decide +kernel
theorem dX11_gate_4 : decode cX11_gate 4 = .ok (.ifCond .ne 5, 3) := by decide +kernel
theorem dX11_gate_7 : decode cX11_gate 7 = .ok (.iconst (-1), 1) := by decide +kernel
theorem dX11_gate_8 : decode cX11_gate 8 = .ok (.ireturn, 1) := by decide +kernel
theorem dX11_gate_9 : decode cX11_gate 9 = .ok (.aload_n 0, 1) := by decide +kernel
theorem dX11_gate_10 : decode cX11_gate 10 = .ok (.getfield 10, 3) := by decide +kernel
theorem dX11_gate_13 : decode cX11_gate 13 = .ok (.iload_n 1, 1) := by decide +kernel
theorem dX11_gate_14 : decode cX11_gate 14 = .ok (.invokevirtual 91, 3) := by decide +kernel
theorem dX11_gate_17 : decode cX11_gate 17 = .ok (.ireturn, 1) := by decide +kernel
theorem dX11_person_0 : decode cX11_person 0 = .ok (.iload_n 1, 1) := by decide +kernel
theorem dX11_person_1 : decode cX11_person 1 = .ok (.ifCond .lt 18, 3) := by decide +kernel
theorem dX11_person_4 : decode cX11_person 4 = .ok (.iload_n 1, 1) := by decide +kernel
theorem dX11_person_5 : decode cX11_person 5 = .ok (.bipush 100, 2) := by decide +kernel
theorem dX11_person_7 : decode cX11_person 7 = .ok (.idiv, 1) := by decide +kernel
theorem dX11_person_8 : decode cX11_person 8 = .ok (.iload_n 1, 1) := by decide +kernel
theorem dX11_person_9 : decode cX11_person 9 = .ok (.bipush 100, 2) := by decide +kernel
theorem dX11_person_11 : decode cX11_person 11 = .ok (.irem, 1) := by decide +kernel
theorem dX11_person_12 : decode cX11_person 12 = .ok (.iload_n 2, 1) := by decide +kernel
theorem dX11_person_13 : decode cX11_person 13 = .ok (.invokestatic 95, 3) := by decide +kernel
theorem dX11_person_16 : decode cX11_person 16 = .ok (.ifCond .ne 5, 3) := by decide +kernel
theorem dX11_person_19 : decode cX11_person 19 = .ok (.iconst (-1), 1) := by decide +kernel
theorem dX11_person_20 : decode cX11_person 20 = .ok (.ireturn, 1) := by decide +kernel
theorem dX11_person_21 : decode cX11_person 21 = .ok (.aload_n 0, 1) := by decide +kernel
theorem dX11_person_22 : decode cX11_person 22 = .ok (.getfield 19, 3) := by decide +kernel
theorem dX11_person_25 : decode cX11_person 25 = .ok (.iload_n 1, 1) := by decide +kernel
theorem dX11_person_26 : decode cX11_person 26 = .ok (.bipush 100, 2) := by decide +kernel
theorem dX11_person_28 : decode cX11_person 28 = .ok (.idiv, 1) := by decide +kernel
theorem dX11_person_29 : decode cX11_person 29 = .ok (.iload_n 1, 1) := by decide +kernel
theorem dX11_person_30 : decode cX11_person 30 = .ok (.bipush 100, 2) := by decide +kernel
theorem dX11_person_32 : decode cX11_person 32 = .ok (.irem, 1) := by decide +kernel
theorem dX11_person_33 : decode cX11_person 33 = .ok (.iload_n 2, 1) := by decide +kernel
theorem dX11_person_34 : decode cX11_person 34 = .ok (.invokevirtual 99, 3) := by decide +kernel
theorem dX11_person_37 : decode cX11_person 37 = .ok (.ireturn, 1) := by decide +kernel
theorem dX11_people_0 : decode cX11_people 0 = .ok (.iload_n 1, 1) := by decide +kernel
theorem dX11_people_1 : decode cX11_people 1 = .ok (.invokestatic 102, 3) := by decide +kernel
theorem dX11_people_4 : decode cX11_people 4 = .ok (.ifCond .eq 14, 3) := by decide +kernel
theorem dX11_people_7 : decode cX11_people 7 = .ok (.iload_n 3, 1) := by decide +kernel
theorem dX11_people_8 : decode cX11_people 8 = .ok (.iconst 1, 1) := by decide +kernel
theorem dX11_people_9 : decode cX11_people 9 = .ok (.if_icmp .lt 9, 3) := by decide +kernel
theorem dX11_people_12 : decode cX11_people 12 = .ok (.iload_n 3, 1) := by decide +kernel
theorem dX11_people_13 : decode cX11_people 13 = .ok (.bipush 12, 2) := by decide +kernel
theorem dX11_people_15 : decode cX11_people 15 = .ok (.if_icmp .le 5, 3) := by decide +kernel
theorem dX11_people_18 : decode cX11_people 18 = .ok (.iconst (-1), 1) := by decide +kernel
theorem dX11_people_19 : decode cX11_people 19 = .ok (.ireturn, 1) := by decide +kernel
theorem dX11_people_20 : decode cX11_people 20 = .ok (.aload_n 0, 1) := by decide +kernel
theorem dX11_people_21 : decode cX11_people 21 = .ok (.getfield 82, 3) := by decide +kernel
theorem dX11_people_24 : decode cX11_people 24 = .ok (.iload_n 1, 1) := by decide +kernel
theorem dX11_people_25 : decode cX11_people 25 = .ok (.aaload, 1) := by decide +kernel
theorem dX11_people_26 : decode cX11_people 26 = .ok (.astore 4, 2) := by decide +kernel
theorem dX11_people_28 : decode cX11_people 28 = .ok (.aload 4, 2) := by decide +kernel
theorem dX11_people_30 : decode cX11_people 30 = .ok (.invokevirtual 105, 3) := by decide +kernel
theorem dX11_people_33 : decode cX11_people 33 = .ok (.ifCond .eq 5, 3) := by decide +kernel
theorem dX11_people_36 : decode cX11_people 36 = .ok (.iconst 0, 1) := by decide +kernel
theorem dX11_people_37 : decode cX11_people 37 = .ok (.ireturn, 1) := by decide +kernel
theorem dX11_people_38 : decode cX11_people 38 = .ok (.aload 4, 2) := by decide +kernel
theorem dX11_people_40 : decode cX11_people 40 = .ok (.invokevirtual 109, 3) := by decide +kernel
theorem dX11_people_43 : decode cX11_people 43 = .ok (.ifCond .eq 14, 3) := by decide +kernel
theorem dX11_people_46 : decode cX11_people 46 = .ok (.aload_n 0, 1) := by decide +kernel
theorem dX11_people_47 : decode cX11_people 47 = .ok (.aload 4, 2) := by decide +kernel
theorem dX11_people_49 : decode cX11_people 49 = .ok (.iload_n 2, 1) := by decide +kernel
theorem dX11_people_50 : decode cX11_people 50 = .ok (.iload_n 3, 1) := by decide +kernel
theorem dX11_people_51 : decode cX11_people 51 = .ok (.invokevirtual 112, 3) := by decide +kernel
theorem dX11_people_54 : decode cX11_people 54 = .ok (.goto 5, 3) := by decide +kernel
theorem dX11_people_57 : decode cX11_people 57 = .ok (.bipush (-12), 2) := by decide +kernel
theorem dX11_people_59 : decode cX11_people 59 = .ok (.ireturn, 1) := by decide +kernel
theorem dX11_comeFrom_0 : decode cX11_comeFrom 0 = .ok (.iconst 0, 1) := by decide +kernel
theorem dX11_comeFrom_1 : decode cX11_comeFrom 1 = .ok (.istore 4, 2) := by decide +kernel
theorem dX11_comeFrom_3 : decode cX11_comeFrom 3 = .ok (.iload 4, 2) := by decide +kernel
theorem dX11_comeFrom_5 : decode cX11_comeFrom 5 = .ok (.iload_n 3, 1) := by decide +kernel
theorem dX11_comeFrom_6 : decode cX11_comeFrom 6 = .ok (.if_icmp .ge 115, 3) := by decide +kernel
theorem dX11_comeFrom_9 : decode cX11_comeFrom 9 = .ok (.iload_n 2, 1) := by decide +kernel
theorem dX11_comeFrom_10 : decode cX11_comeFrom 10 = .ok (.i2l, 1) := by decide +kernel
theorem dX11_comeFrom_11 : decode cX11_comeFrom 11 = .ok (.ldc2_w 116, 3) := by decide +kernel
theorem dX11_comeFrom_14 : decode cX11_comeFrom 14 = .ok (.iload 4, 2) := by decide +kernel
theorem dX11_comeFrom_16 : decode cX11_comeFrom 16 = .ok (.i2l, 1) := by decide +kernel
theorem dX11_comeFrom_17 : decode cX11_comeFrom 17 = .ok (.lmul, 1) := by decide +kernel
theorem dX11_comeFrom_18 : decode cX11_comeFrom 18 = .ok (.ladd, 1) := by decide +kernel
theorem dX11_comeFrom_19 : decode cX11_comeFrom 19 = .ok (.lstore 5, 2) := by decide +kernel
theorem dX11_comeFrom_21 : decode cX11_comeFrom 21 = .ok (.lload 5, 2) := by decide +kernel
theorem dX11_comeFrom_23 : decode cX11_comeFrom 23 = .ok (.lconst 0, 1) := by decide +kernel
theorem dX11_comeFrom_24 : decode cX11_comeFrom 24 = .ok (.lcmp, 1) := by decide +kernel
theorem dX11_comeFrom_25 : decode cX11_comeFrom 25 = .ok (.ifCond .lt 18, 3) := by decide +kernel
theorem dX11_comeFrom_28 : decode cX11_comeFrom 28 = .ok (.lload 5, 2) := by decide +kernel
theorem dX11_comeFrom_30 : decode cX11_comeFrom 30 = .ok (.ldc2_w 118, 3) := by decide +kernel
theorem dX11_comeFrom_33 : decode cX11_comeFrom 33 = .ok (.ladd, 1) := by decide +kernel
theorem dX11_comeFrom_34 : decode cX11_comeFrom 34 = .ok (.aload_n 1, 1) := by decide +kernel
theorem dX11_comeFrom_35 : decode cX11_comeFrom 35 = .ok (.getfield 120, 3) := by decide +kernel
theorem dX11_comeFrom_38 : decode cX11_comeFrom 38 = .ok (.i2l, 1) := by decide +kernel
theorem dX11_comeFrom_39 : decode cX11_comeFrom 39 = .ok (.lcmp, 1) := by decide +kernel
theorem dX11_comeFrom_40 : decode cX11_comeFrom 40 = .ok (.ifCond .lt 6, 3) := by decide +kernel
theorem dX11_comeFrom_43 : decode cX11_comeFrom 43 = .ok (.iload 4, 2) := by decide +kernel
theorem dX11_comeFrom_45 : decode cX11_comeFrom 45 = .ok (.ireturn, 1) := by decide +kernel
theorem dX11_comeFrom_46 : decode cX11_comeFrom 46 = .ok (.lload 5, 2) := by decide +kernel
theorem dX11_comeFrom_48 : decode cX11_comeFrom 48 = .ok (.l2i, 1) := by decide +kernel
theorem dX11_comeFrom_49 : decode cX11_comeFrom 49 = .ok (.istore 7, 2) := by decide +kernel
theorem dX11_comeFrom_51 : decode cX11_comeFrom 51 = .ok (.aload_n 1, 1) := by decide +kernel
theorem dX11_comeFrom_52 : decode cX11_comeFrom 52 = .ok (.iload 7, 2) := by decide +kernel
theorem dX11_comeFrom_54 : decode cX11_comeFrom 54 = .ok (.invokevirtual 124, 3) := by decide +kernel
theorem dX11_comeFrom_57 : decode cX11_comeFrom 57 = .ok (.l2i, 1) := by decide +kernel
theorem dX11_comeFrom_58 : decode cX11_comeFrom 58 = .ok (.istore 8, 2) := by decide +kernel
theorem dX11_comeFrom_60 : decode cX11_comeFrom 60 = .ok (.aload_n 1, 1) := by decide +kernel
theorem dX11_comeFrom_61 : decode cX11_comeFrom 61 = .ok (.iload 7, 2) := by decide +kernel
theorem dX11_comeFrom_63 : decode cX11_comeFrom 63 = .ok (.iconst 1, 1) := by decide +kernel
theorem dX11_comeFrom_64 : decode cX11_comeFrom 64 = .ok (.iadd, 1) := by decide +kernel
theorem dX11_comeFrom_65 : decode cX11_comeFrom 65 = .ok (.invokevirtual 124, 3) := by decide +kernel
theorem dX11_comeFrom_68 : decode cX11_comeFrom 68 = .ok (.l2i, 1) := by decide +kernel
theorem dX11_comeFrom_69 : decode cX11_comeFrom 69 = .ok (.istore 9, 2) := by decide +kernel
theorem dX11_comeFrom_71 : decode cX11_comeFrom 71 = .ok (.aload_n 1, 1) := by decide +kernel
theorem dX11_comeFrom_72 : decode cX11_comeFrom 72 = .ok (.iload 7, 2) := by decide +kernel
theorem dX11_comeFrom_74 : decode cX11_comeFrom 74 = .ok (.iconst 2, 1) := by decide +kernel
theorem dX11_comeFrom_75 : decode cX11_comeFrom 75 = .ok (.iadd, 1) := by decide +kernel
theorem dX11_comeFrom_76 : decode cX11_comeFrom 76 = .ok (.invokevirtual 124, 3) := by decide +kernel
theorem dX11_comeFrom_79 : decode cX11_comeFrom 79 = .ok (.l2i, 1) := by decide +kernel
theorem dX11_comeFrom_80 : decode cX11_comeFrom 80 = .ok (.istore 10, 2) := by decide +kernel
theorem dX11_comeFrom_82 : decode cX11_comeFrom 82 = .ok (.iload 8, 2) := by decide +kernel
theorem dX11_comeFrom_84 : decode cX11_comeFrom 84 = .ok (.iload 9, 2) := by decide +kernel
theorem dX11_comeFrom_86 : decode cX11_comeFrom 86 = .ok (.iload 10, 2) := by decide +kernel
theorem dX11_comeFrom_88 : decode cX11_comeFrom 88 = .ok (.invokestatic 95, 3) := by decide +kernel
theorem dX11_comeFrom_91 : decode cX11_comeFrom 91 = .ok (.ifCond .eq 21, 3) := by decide +kernel
theorem dX11_comeFrom_94 : decode cX11_comeFrom 94 = .ok (.aload_n 0, 1) := by decide +kernel
theorem dX11_comeFrom_95 : decode cX11_comeFrom 95 = .ok (.getfield 19, 3) := by decide +kernel
theorem dX11_comeFrom_98 : decode cX11_comeFrom 98 = .ok (.iload 8, 2) := by decide +kernel
theorem dX11_comeFrom_100 : decode cX11_comeFrom 100 = .ok (.iload 9, 2) := by decide +kernel
theorem dX11_comeFrom_102 : decode cX11_comeFrom 102 = .ok (.iload 10, 2) := by decide +kernel
theorem dX11_comeFrom_104 : decode cX11_comeFrom 104 = .ok (.invokevirtual 99, 3) := by decide +kernel
theorem dX11_comeFrom_107 : decode cX11_comeFrom 107 = .ok (.bipush (-3), 2) := by decide +kernel
theorem dX11_comeFrom_109 : decode cX11_comeFrom 109 = .ok (.if_icmp .ne 6, 3) := by decide +kernel
theorem dX11_comeFrom_112 : decode cX11_comeFrom 112 = .ok (.iload 4, 2) := by decide +kernel
theorem dX11_comeFrom_114 : decode cX11_comeFrom 114 = .ok (.ireturn, 1) := by decide +kernel
theorem dX11_comeFrom_115 : decode cX11_comeFrom 115 = .ok (.iinc 4 1, 3) := by decide +kernel
theorem dX11_comeFrom_118 : decode cX11_comeFrom 118 = .ok (.goto (-115), 3) := by decide +kernel
theorem dX11_comeFrom_121 : decode cX11_comeFrom 121 = .ok (.iload_n 3, 1) := by decide +kernel
theorem dX11_comeFrom_122 : decode cX11_comeFrom 122 = .ok (.ireturn, 1) := by decide +kernel
theorem dX11_mend_0 : decode cX11_mend 0 = .ok (.aload_n 0, 1) := by decide +kernel
theorem dX11_mend_1 : decode cX11_mend 1 = .ok (.iload_n 1, 1) := by decide +kernel
theorem dX11_mend_2 : decode cX11_mend 2 = .ok (.iload_n 2, 1) := by decide +kernel
theorem dX11_mend_3 : decode cX11_mend 3 = .ok (.iload_n 3, 1) := by decide +kernel
theorem dX11_mend_4 : decode cX11_mend 4 = .ok (.invokevirtual 128, 3) := by decide +kernel
theorem dX11_mend_7 : decode cX11_mend 7 = .ok (.ifCond .ne 5, 3) := by decide +kernel
theorem dX11_mend_10 : decode cX11_mend 10 = .ok (.iconst (-1), 1) := by decide +kernel
theorem dX11_mend_11 : decode cX11_mend 11 = .ok (.ireturn, 1) := by decide +kernel
theorem dX11_mend_12 : decode cX11_mend 12 = .ok (.aload_n 0, 1) := by decide +kernel
theorem dX11_mend_13 : decode cX11_mend 13 = .ok (.iload_n 1, 1) := by decide +kernel
theorem dX11_mend_14 : decode cX11_mend 14 = .ok (.iload_n 2, 1) := by decide +kernel
theorem dX11_mend_15 : decode cX11_mend 15 = .ok (.iload_n 3, 1) := by decide +kernel
theorem dX11_mend_16 : decode cX11_mend 16 = .ok (.invokevirtual 131, 3) := by decide +kernel
theorem dX11_mend_19 : decode cX11_mend 19 = .ok (.istore 4, 2) := by decide +kernel
theorem dX11_mend_21 : decode cX11_mend 21 = .ok (.iload 4, 2) := by decide +kernel
theorem dX11_mend_23 : decode cX11_mend 23 = .ok (.iload_n 3, 1) := by decide +kernel
theorem dX11_mend_24 : decode cX11_mend 24 = .ok (.if_icmp .eq 15, 3) := by decide +kernel
theorem dX11_mend_27 : decode cX11_mend 27 = .ok (.aload_n 0, 1) := by decide +kernel
theorem dX11_mend_28 : decode cX11_mend 28 = .ok (.getfield 65, 3) := by decide +kernel
theorem dX11_mend_31 : decode cX11_mend 31 = .ok (.iload_n 1, 1) := by decide +kernel
theorem dX11_mend_32 : decode cX11_mend 32 = .ok (.iload_n 2, 1) := by decide +kernel
theorem dX11_mend_33 : decode cX11_mend 33 = .ok (.iload 4, 2) := by decide +kernel
theorem dX11_mend_35 : decode cX11_mend 35 = .ok (.iload_n 3, 1) := by decide +kernel
theorem dX11_mend_36 : decode cX11_mend 36 = .ok (.invokevirtual 134, 3) := by decide +kernel
theorem dX11_mend_39 : decode cX11_mend 39 = .ok (.iload 4, 2) := by decide +kernel
theorem dX11_mend_41 : decode cX11_mend 41 = .ok (.ireturn, 1) := by decide +kernel
theorem dX11_canBecome_0 : decode cX11_canBecome 0 = .ok (.iload_n 2, 1) := by decide +kernel
theorem dX11_canBecome_1 : decode cX11_canBecome 1 = .ok (.tableswitch 115 0 2 #[27, 55, 91], 27) := by decide +kernel
theorem dX11_canBecome_28 : decode cX11_canBecome 28 = .ok (.aload_n 0, 1) := by decide +kernel
theorem dX11_canBecome_29 : decode cX11_canBecome 29 = .ok (.getfield 19, 3) := by decide +kernel
theorem dX11_canBecome_32 : decode cX11_canBecome 32 = .ok (.iload_n 1, 1) := by decide +kernel
theorem dX11_canBecome_33 : decode cX11_canBecome 33 = .ok (.invokevirtual 137, 3) := by decide +kernel
theorem dX11_canBecome_36 : decode cX11_canBecome 36 = .ok (.ifCond .eq 18, 3) := by decide +kernel
theorem dX11_canBecome_39 : decode cX11_canBecome 39 = .ok (.iload_n 3, 1) := by decide +kernel
theorem dX11_canBecome_40 : decode cX11_canBecome 40 = .ok (.iconst 1, 1) := by decide +kernel
theorem dX11_canBecome_41 : decode cX11_canBecome 41 = .ok (.if_icmp .lt 13, 3) := by decide +kernel
theorem dX11_canBecome_44 : decode cX11_canBecome 44 = .ok (.iload_n 3, 1) := by decide +kernel
theorem dX11_canBecome_45 : decode cX11_canBecome 45 = .ok (.bipush 9, 2) := by decide +kernel
theorem dX11_canBecome_47 : decode cX11_canBecome 47 = .ok (.if_icmp .gt 7, 3) := by decide +kernel
theorem dX11_canBecome_50 : decode cX11_canBecome 50 = .ok (.iconst 1, 1) := by decide +kernel
theorem dX11_canBecome_51 : decode cX11_canBecome 51 = .ok (.goto 4, 3) := by decide +kernel
theorem dX11_canBecome_54 : decode cX11_canBecome 54 = .ok (.iconst 0, 1) := by decide +kernel
theorem dX11_canBecome_55 : decode cX11_canBecome 55 = .ok (.ireturn, 1) := by decide +kernel
theorem dX11_canBecome_56 : decode cX11_canBecome 56 = .ok (.aload_n 0, 1) := by decide +kernel
theorem dX11_canBecome_57 : decode cX11_canBecome 57 = .ok (.getfield 19, 3) := by decide +kernel
theorem dX11_canBecome_60 : decode cX11_canBecome 60 = .ok (.iload_n 1, 1) := by decide +kernel
theorem dX11_canBecome_61 : decode cX11_canBecome 61 = .ok (.invokevirtual 137, 3) := by decide +kernel
theorem dX11_canBecome_64 : decode cX11_canBecome 64 = .ok (.ifCond .eq 26, 3) := by decide +kernel
theorem dX11_canBecome_67 : decode cX11_canBecome 67 = .ok (.iload_n 3, 1) := by decide +kernel
theorem dX11_canBecome_68 : decode cX11_canBecome 68 = .ok (.aload_n 0, 1) := by decide +kernel
theorem dX11_canBecome_69 : decode cX11_canBecome 69 = .ok (.getfield 19, 3) := by decide +kernel
theorem dX11_canBecome_72 : decode cX11_canBecome 72 = .ok (.getfield 140, 3) := by decide +kernel
theorem dX11_canBecome_75 : decode cX11_canBecome 75 = .ok (.iload_n 1, 1) := by decide +kernel
theorem dX11_canBecome_76 : decode cX11_canBecome 76 = .ok (.iaload, 1) := by decide +kernel
theorem dX11_canBecome_77 : decode cX11_canBecome 77 = .ok (.if_icmp .le 13, 3) := by decide +kernel
theorem dX11_canBecome_80 : decode cX11_canBecome 80 = .ok (.iload_n 3, 1) := by decide +kernel
theorem dX11_canBecome_81 : decode cX11_canBecome 81 = .ok (.bipush 60, 2) := by decide +kernel
theorem dX11_canBecome_83 : decode cX11_canBecome 83 = .ok (.if_icmp .gt 7, 3) := by decide +kernel
theorem dX11_canBecome_86 : decode cX11_canBecome 86 = .ok (.iconst 1, 1) := by decide +kernel
theorem dX11_canBecome_87 : decode cX11_canBecome 87 = .ok (.goto 4, 3) := by decide +kernel
theorem dX11_canBecome_90 : decode cX11_canBecome 90 = .ok (.iconst 0, 1) := by decide +kernel
theorem dX11_canBecome_91 : decode cX11_canBecome 91 = .ok (.ireturn, 1) := by decide +kernel
theorem dX11_canBecome_92 : decode cX11_canBecome 92 = .ok (.aload_n 0, 1) := by decide +kernel
theorem dX11_canBecome_93 : decode cX11_canBecome 93 = .ok (.getfield 10, 3) := by decide +kernel
theorem dX11_canBecome_96 : decode cX11_canBecome 96 = .ok (.iload_n 1, 1) := by decide +kernel
theorem dX11_canBecome_97 : decode cX11_canBecome 97 = .ok (.invokevirtual 143, 3) := by decide +kernel
theorem dX11_canBecome_100 : decode cX11_canBecome 100 = .ok (.ifCond .eq 14, 3) := by decide +kernel
theorem dX11_canBecome_103 : decode cX11_canBecome 103 = .ok (.iload_n 3, 1) := by decide +kernel
theorem dX11_canBecome_104 : decode cX11_canBecome 104 = .ok (.invokestatic 87, 3) := by decide +kernel
theorem dX11_canBecome_107 : decode cX11_canBecome 107 = .ok (.ifCond .eq 7, 3) := by decide +kernel
theorem dX11_canBecome_110 : decode cX11_canBecome 110 = .ok (.iconst 1, 1) := by decide +kernel
theorem dX11_canBecome_111 : decode cX11_canBecome 111 = .ok (.goto 4, 3) := by decide +kernel
theorem dX11_canBecome_114 : decode cX11_canBecome 114 = .ok (.iconst 0, 1) := by decide +kernel
theorem dX11_canBecome_115 : decode cX11_canBecome 115 = .ok (.ireturn, 1) := by decide +kernel
theorem dX11_canBecome_116 : decode cX11_canBecome 116 = .ok (.iconst 0, 1) := by decide +kernel
theorem dX11_canBecome_117 : decode cX11_canBecome 117 = .ok (.ireturn, 1) := by decide +kernel
theorem dX11_become_0 : decode cX11_become 0 = .ok (.iload_n 2, 1) := by decide +kernel
theorem dX11_become_1 : decode cX11_become 1 = .ok (.iconst 2, 1) := by decide +kernel
theorem dX11_become_2 : decode cX11_become 2 = .ok (.if_icmp .ne 31, 3) := by decide +kernel
theorem dX11_become_5 : decode cX11_become 5 = .ok (.aload_n 0, 1) := by decide +kernel
theorem dX11_become_6 : decode cX11_become 6 = .ok (.getfield 10, 3) := by decide +kernel
theorem dX11_become_9 : decode cX11_become 9 = .ok (.iload_n 1, 1) := by decide +kernel
theorem dX11_become_10 : decode cX11_become 10 = .ok (.invokevirtual 143, 3) := by decide +kernel
theorem dX11_become_13 : decode cX11_become 13 = .ok (.ifCond .eq 18, 3) := by decide +kernel
theorem dX11_become_16 : decode cX11_become 16 = .ok (.aload_n 0, 1) := by decide +kernel
theorem dX11_become_17 : decode cX11_become 17 = .ok (.getfield 10, 3) := by decide +kernel
theorem dX11_become_20 : decode cX11_become 20 = .ok (.getfield 144, 3) := by decide +kernel
theorem dX11_become_23 : decode cX11_become 23 = .ok (.iload_n 1, 1) := by decide +kernel
theorem dX11_become_24 : decode cX11_become 24 = .ok (.iload_n 3, 1) := by decide +kernel
theorem dX11_become_25 : decode cX11_become 25 = .ok (.invokestatic 147, 3) := by decide +kernel
theorem dX11_become_28 : decode cX11_become 28 = .ok (.goto 4, 3) := by decide +kernel
theorem dX11_become_31 : decode cX11_become 31 = .ok (.iconst (-1), 1) := by decide +kernel
theorem dX11_become_32 : decode cX11_become 32 = .ok (.ireturn, 1) := by decide +kernel
theorem dX11_become_33 : decode cX11_become 33 = .ok (.aload_n 0, 1) := by decide +kernel
theorem dX11_become_34 : decode cX11_become 34 = .ok (.getfield 19, 3) := by decide +kernel
theorem dX11_become_37 : decode cX11_become 37 = .ok (.iload_n 1, 1) := by decide +kernel
theorem dX11_become_38 : decode cX11_become 38 = .ok (.invokevirtual 137, 3) := by decide +kernel
theorem dX11_become_41 : decode cX11_become 41 = .ok (.ifCond .ne 5, 3) := by decide +kernel
theorem dX11_become_44 : decode cX11_become 44 = .ok (.iconst (-1), 1) := by decide +kernel
theorem dX11_become_45 : decode cX11_become 45 = .ok (.ireturn, 1) := by decide +kernel
theorem dX11_become_46 : decode cX11_become 46 = .ok (.iload_n 2, 1) := by decide +kernel
theorem dX11_become_47 : decode cX11_become 47 = .ok (.ifCond .ne 13, 3) := by decide +kernel
theorem dX11_become_50 : decode cX11_become 50 = .ok (.aload_n 0, 1) := by decide +kernel
theorem dX11_become_51 : decode cX11_become 51 = .ok (.getfield 19, 3) := by decide +kernel
theorem dX11_become_54 : decode cX11_become 54 = .ok (.getfield 151, 3) := by decide +kernel
theorem dX11_become_57 : decode cX11_become 57 = .ok (.goto 10, 3) := by decide +kernel
theorem dX11_become_60 : decode cX11_become 60 = .ok (.aload_n 0, 1) := by decide +kernel
theorem dX11_become_61 : decode cX11_become 61 = .ok (.getfield 19, 3) := by decide +kernel
theorem dX11_become_64 : decode cX11_become 64 = .ok (.getfield 154, 3) := by decide +kernel
theorem dX11_become_67 : decode cX11_become 67 = .ok (.iload_n 1, 1) := by decide +kernel
theorem dX11_become_68 : decode cX11_become 68 = .ok (.iload_n 3, 1) := by decide +kernel
theorem dX11_become_69 : decode cX11_become 69 = .ok (.invokestatic 147, 3) := by decide +kernel
theorem dX11_become_72 : decode cX11_become 72 = .ok (.ireturn, 1) := by decide +kernel
theorem dX11_replace_0 : decode cX11_replace 0 = .ok (.aload_n 0, 1) := by decide +kernel
theorem dX11_replace_1 : decode cX11_replace 1 = .ok (.iload_n 1, 1) := by decide +kernel
theorem dX11_replace_2 : decode cX11_replace 2 = .ok (.iaload, 1) := by decide +kernel
theorem dX11_replace_3 : decode cX11_replace 3 = .ok (.istore_n 3, 1) := by decide +kernel
theorem dX11_replace_4 : decode cX11_replace 4 = .ok (.aload_n 0, 1) := by decide +kernel
theorem dX11_replace_5 : decode cX11_replace 5 = .ok (.iload_n 1, 1) := by decide +kernel
theorem dX11_replace_6 : decode cX11_replace 6 = .ok (.iload_n 2, 1) := by decide +kernel
theorem dX11_replace_7 : decode cX11_replace 7 = .ok (.iastore, 1) := by decide +kernel
theorem dX11_replace_8 : decode cX11_replace 8 = .ok (.iload_n 3, 1) := by decide +kernel
theorem dX11_replace_9 : decode cX11_replace 9 = .ok (.ireturn, 1) := by decide +kernel
theorem dX11_of_0 : decode cX11_of 0 = .ok (.iload_n 2, 1) := by decide +kernel
theorem dX11_of_1 : decode cX11_of 1 = .ok (.bipush 10, 2) := by decide +kernel
theorem dX11_of_3 : decode cX11_of 3 = .ok (.if_icmp .ne 28, 3) := by decide +kernel
theorem dX11_of_6 : decode cX11_of 6 = .ok (.aload_n 0, 1) := by decide +kernel
theorem dX11_of_7 : decode cX11_of 7 = .ok (.getfield 10, 3) := by decide +kernel
theorem dX11_of_10 : decode cX11_of 10 = .ok (.iload_n 1, 1) := by decide +kernel
theorem dX11_of_11 : decode cX11_of 11 = .ok (.invokevirtual 143, 3) := by decide +kernel
theorem dX11_of_14 : decode cX11_of 14 = .ok (.ifCond .eq 15, 3) := by decide +kernel
theorem dX11_of_17 : decode cX11_of 17 = .ok (.aload_n 0, 1) := by decide +kernel
theorem dX11_of_18 : decode cX11_of 18 = .ok (.getfield 10, 3) := by decide +kernel
theorem dX11_of_21 : decode cX11_of 21 = .ok (.getfield 144, 3) := by decide +kernel
theorem dX11_of_24 : decode cX11_of 24 = .ok (.iload_n 1, 1) := by decide +kernel
theorem dX11_of_25 : decode cX11_of 25 = .ok (.iaload, 1) := by decide +kernel
theorem dX11_of_26 : decode cX11_of 26 = .ok (.goto 4, 3) := by decide +kernel
theorem dX11_of_29 : decode cX11_of 29 = .ok (.iconst (-1), 1) := by decide +kernel
theorem dX11_of_30 : decode cX11_of 30 = .ok (.ireturn, 1) := by decide +kernel
theorem dX11_of_31 : decode cX11_of 31 = .ok (.aload_n 0, 1) := by decide +kernel
theorem dX11_of_32 : decode cX11_of 32 = .ok (.getfield 19, 3) := by decide +kernel
theorem dX11_of_35 : decode cX11_of 35 = .ok (.iload_n 1, 1) := by decide +kernel
theorem dX11_of_36 : decode cX11_of 36 = .ok (.invokevirtual 137, 3) := by decide +kernel
theorem dX11_of_39 : decode cX11_of 39 = .ok (.ifCond .ne 5, 3) := by decide +kernel
theorem dX11_of_42 : decode cX11_of 42 = .ok (.iconst (-1), 1) := by decide +kernel
theorem dX11_of_43 : decode cX11_of 43 = .ok (.ireturn, 1) := by decide +kernel
theorem dX11_of_44 : decode cX11_of 44 = .ok (.iload_n 2, 1) := by decide +kernel
theorem dX11_of_45 : decode cX11_of 45 = .ok (.tableswitch 134 0 6 #[43, 53, 63, 73, 87, 99, 124], 43) := by decide +kernel
theorem dX11_of_88 : decode cX11_of 88 = .ok (.aload_n 0, 1) := by decide +kernel
theorem dX11_of_89 : decode cX11_of 89 = .ok (.getfield 19, 3) := by decide +kernel
theorem dX11_of_92 : decode cX11_of 92 = .ok (.getfield 140, 3) := by decide +kernel
theorem dX11_of_95 : decode cX11_of 95 = .ok (.iload_n 1, 1) := by decide +kernel
theorem dX11_of_96 : decode cX11_of 96 = .ok (.iaload, 1) := by decide +kernel
theorem dX11_of_97 : decode cX11_of 97 = .ok (.ireturn, 1) := by decide +kernel
theorem dX11_of_98 : decode cX11_of 98 = .ok (.aload_n 0, 1) := by decide +kernel
theorem dX11_of_99 : decode cX11_of 99 = .ok (.getfield 19, 3) := by decide +kernel
theorem dX11_of_102 : decode cX11_of 102 = .ok (.getfield 154, 3) := by decide +kernel
theorem dX11_of_105 : decode cX11_of 105 = .ok (.iload_n 1, 1) := by decide +kernel
theorem dX11_of_106 : decode cX11_of 106 = .ok (.iaload, 1) := by decide +kernel
theorem dX11_of_107 : decode cX11_of 107 = .ok (.ireturn, 1) := by decide +kernel
theorem dX11_of_108 : decode cX11_of 108 = .ok (.aload_n 0, 1) := by decide +kernel
theorem dX11_of_109 : decode cX11_of 109 = .ok (.getfield 19, 3) := by decide +kernel
theorem dX11_of_112 : decode cX11_of 112 = .ok (.getfield 151, 3) := by decide +kernel
theorem dX11_of_115 : decode cX11_of 115 = .ok (.iload_n 1, 1) := by decide +kernel
theorem dX11_of_116 : decode cX11_of 116 = .ok (.iaload, 1) := by decide +kernel
theorem dX11_of_117 : decode cX11_of 117 = .ok (.ireturn, 1) := by decide +kernel
theorem dX11_of_118 : decode cX11_of 118 = .ok (.iconst 1, 1) := by decide +kernel
theorem dX11_of_119 : decode cX11_of 119 = .ok (.aload_n 0, 1) := by decide +kernel
theorem dX11_of_120 : decode cX11_of 120 = .ok (.getfield 39, 3) := by decide +kernel
theorem dX11_of_123 : decode cX11_of 123 = .ok (.getfield 157, 3) := by decide +kernel
theorem dX11_of_126 : decode cX11_of 126 = .ok (.iload_n 1, 1) := by decide +kernel
theorem dX11_of_127 : decode cX11_of 127 = .ok (.invokestatic 160, 3) := by decide +kernel
theorem dX11_of_130 : decode cX11_of 130 = .ok (.isub, 1) := by decide +kernel
theorem dX11_of_131 : decode cX11_of 131 = .ok (.ireturn, 1) := by decide +kernel
theorem dX11_of_132 : decode cX11_of 132 = .ok (.aload_n 0, 1) := by decide +kernel
theorem dX11_of_133 : decode cX11_of 133 = .ok (.getfield 39, 3) := by decide +kernel
theorem dX11_of_136 : decode cX11_of 136 = .ok (.getfield 164, 3) := by decide +kernel
theorem dX11_of_139 : decode cX11_of 139 = .ok (.iload_n 1, 1) := by decide +kernel
theorem dX11_of_140 : decode cX11_of 140 = .ok (.invokestatic 160, 3) := by decide +kernel
theorem dX11_of_143 : decode cX11_of 143 = .ok (.ireturn, 1) := by decide +kernel
theorem dX11_of_144 : decode cX11_of 144 = .ok (.aload_n 0, 1) := by decide +kernel
theorem dX11_of_145 : decode cX11_of 145 = .ok (.getfield 39, 3) := by decide +kernel
theorem dX11_of_148 : decode cX11_of 148 = .ok (.getfield 167, 3) := by decide +kernel
theorem dX11_of_151 : decode cX11_of 151 = .ok (.bipush 60, 2) := by decide +kernel
theorem dX11_of_153 : decode cX11_of 153 = .ok (.if_icmp .ge 14, 3) := by decide +kernel
theorem dX11_of_156 : decode cX11_of 156 = .ok (.aload_n 0, 1) := by decide +kernel
theorem dX11_of_157 : decode cX11_of 157 = .ok (.invokevirtual 170, 3) := by decide +kernel
theorem dX11_of_160 : decode cX11_of 160 = .ok (.iload_n 1, 1) := by decide +kernel
theorem dX11_of_161 : decode cX11_of 161 = .ok (.invokestatic 160, 3) := by decide +kernel
theorem dX11_of_164 : decode cX11_of 164 = .ok (.goto 4, 3) := by decide +kernel
theorem dX11_of_167 : decode cX11_of 167 = .ok (.iconst 0, 1) := by decide +kernel
theorem dX11_of_168 : decode cX11_of 168 = .ok (.ireturn, 1) := by decide +kernel
theorem dX11_of_169 : decode cX11_of 169 = .ok (.aload_n 0, 1) := by decide +kernel
theorem dX11_of_170 : decode cX11_of 170 = .ok (.getfield 39, 3) := by decide +kernel
theorem dX11_of_173 : decode cX11_of 173 = .ok (.getfield 174, 3) := by decide +kernel
theorem dX11_of_176 : decode cX11_of 176 = .ok (.iload_n 1, 1) := by decide +kernel
theorem dX11_of_177 : decode cX11_of 177 = .ok (.iaload, 1) := by decide +kernel
theorem dX11_of_178 : decode cX11_of 178 = .ok (.ireturn, 1) := by decide +kernel
theorem dX11_of_179 : decode cX11_of 179 = .ok (.iconst (-1), 1) := by decide +kernel
theorem dX11_of_180 : decode cX11_of 180 = .ok (.ireturn, 1) := by decide +kernel
theorem dX11_feed_0 : decode cX11_feed 0 = .ok (.iload_n 1, 1) := by decide +kernel
theorem dX11_feed_1 : decode cX11_feed 1 = .ok (.ifCond .lt 10, 3) := by decide +kernel
theorem dX11_feed_4 : decode cX11_feed 4 = .ok (.iload_n 1, 1) := by decide +kernel
theorem dX11_feed_5 : decode cX11_feed 5 = .ok (.sipush 255, 3) := by decide +kernel
theorem dX11_feed_8 : decode cX11_feed 8 = .ok (.if_icmp .le 5, 3) := by decide +kernel
theorem dX11_feed_11 : decode cX11_feed 11 = .ok (.iconst (-1), 1) := by decide +kernel
theorem dX11_feed_12 : decode cX11_feed 12 = .ok (.ireturn, 1) := by decide +kernel
theorem dX11_feed_13 : decode cX11_feed 13 = .ok (.aload_n 0, 1) := by decide +kernel
theorem dX11_feed_14 : decode cX11_feed 14 = .ok (.getfield 177, 3) := by decide +kernel
theorem dX11_feed_17 : decode cX11_feed 17 = .ok (.bipush 120, 2) := by decide +kernel
theorem dX11_feed_19 : decode cX11_feed 19 = .ok (.if_icmp .lt 6, 3) := by decide +kernel
theorem dX11_feed_22 : decode cX11_feed 22 = .ok (.bipush (-3), 2) := by decide +kernel
theorem dX11_feed_24 : decode cX11_feed 24 = .ok (.ireturn, 1) := by decide +kernel
theorem dX11_feed_25 : decode cX11_feed 25 = .ok (.aload_n 0, 1) := by decide +kernel
theorem dX11_feed_26 : decode cX11_feed 26 = .ok (.getfield 23, 3) := by decide +kernel
theorem dX11_feed_29 : decode cX11_feed 29 = .ok (.aload_n 0, 1) := by decide +kernel
theorem dX11_feed_30 : decode cX11_feed 30 = .ok (.getfield 177, 3) := by decide +kernel
theorem dX11_feed_33 : decode cX11_feed 33 = .ok (.iload_n 1, 1) := by decide +kernel
theorem dX11_feed_34 : decode cX11_feed 34 = .ok (.iastore, 1) := by decide +kernel
theorem dX11_feed_35 : decode cX11_feed 35 = .ok (.aload_n 0, 1) := by decide +kernel
theorem dX11_feed_36 : decode cX11_feed 36 = .ok (.dup, 1) := by decide +kernel
theorem dX11_feed_37 : decode cX11_feed 37 = .ok (.getfield 177, 3) := by decide +kernel
theorem dX11_feed_40 : decode cX11_feed 40 = .ok (.iconst 1, 1) := by decide +kernel
theorem dX11_feed_41 : decode cX11_feed 41 = .ok (.iadd, 1) := by decide +kernel
theorem dX11_feed_42 : decode cX11_feed 42 = .ok (.putfield 177, 3) := by decide +kernel
theorem dX11_feed_45 : decode cX11_feed 45 = .ok (.aload_n 0, 1) := by decide +kernel
theorem dX11_feed_46 : decode cX11_feed 46 = .ok (.getfield 177, 3) := by decide +kernel
theorem dX11_feed_49 : decode cX11_feed 49 = .ok (.ireturn, 1) := by decide +kernel
theorem dX11_law_0 : decode cX11_law 0 = .ok (.iload_n 1, 1) := by decide +kernel
theorem dX11_law_1 : decode cX11_law 1 = .ok (.ifCond .eq 10, 3) := by decide +kernel
theorem dX11_law_4 : decode cX11_law 4 = .ok (.iload_n 1, 1) := by decide +kernel
theorem dX11_law_5 : decode cX11_law 5 = .ok (.iconst 1, 1) := by decide +kernel
theorem dX11_law_6 : decode cX11_law 6 = .ok (.if_icmp .eq 5, 3) := by decide +kernel
theorem dX11_law_9 : decode cX11_law 9 = .ok (.iconst (-1), 1) := by decide +kernel
theorem dX11_law_10 : decode cX11_law 10 = .ok (.ireturn, 1) := by decide +kernel
theorem dX11_law_11 : decode cX11_law 11 = .ok (.aload_n 0, 1) := by decide +kernel
theorem dX11_law_12 : decode cX11_law 12 = .ok (.getfield 32, 3) := by decide +kernel
theorem dX11_law_15 : decode cX11_law 15 = .ok (.iload_n 1, 1) := by decide +kernel
theorem dX11_law_16 : decode cX11_law 16 = .ok (.aload_n 0, 1) := by decide +kernel
theorem dX11_law_17 : decode cX11_law 17 = .ok (.getfield 177, 3) := by decide +kernel
theorem dX11_law_20 : decode cX11_law 20 = .ok (.invokevirtual 180, 3) := by decide +kernel
theorem dX11_law_23 : decode cX11_law 23 = .ok (.istore_n 2, 1) := by decide +kernel
theorem dX11_law_24 : decode cX11_law 24 = .ok (.aload_n 0, 1) := by decide +kernel
theorem dX11_law_25 : decode cX11_law 25 = .ok (.iconst 0, 1) := by decide +kernel
theorem dX11_law_26 : decode cX11_law 26 = .ok (.putfield 177, 3) := by decide +kernel
theorem dX11_law_29 : decode cX11_law 29 = .ok (.iload_n 2, 1) := by decide +kernel
theorem dX11_law_30 : decode cX11_law 30 = .ok (.iconst (-1), 1) := by decide +kernel
theorem dX11_law_31 : decode cX11_law 31 = .ok (.if_icmp .ne 7, 3) := by decide +kernel
theorem dX11_law_34 : decode cX11_law 34 = .ok (.iconst 1, 1) := by decide +kernel
theorem dX11_law_35 : decode cX11_law 35 = .ok (.goto 7, 3) := by decide +kernel
theorem dX11_law_38 : decode cX11_law 38 = .ok (.bipush (-100), 2) := by decide +kernel
theorem dX11_law_40 : decode cX11_law 40 = .ok (.iload_n 2, 1) := by decide +kernel
theorem dX11_law_41 : decode cX11_law 41 = .ok (.isub, 1) := by decide +kernel
theorem dX11_law_42 : decode cX11_law 42 = .ok (.ireturn, 1) := by decide +kernel
theorem dX11_may_0 : decode cX11_may 0 = .ok (.aload_n 0, 1) := by decide +kernel
theorem dX11_may_1 : decode cX11_may 1 = .ok (.getfield 19, 3) := by decide +kernel
theorem dX11_may_4 : decode cX11_may 4 = .ok (.iload_n 1, 1) := by decide +kernel
theorem dX11_may_5 : decode cX11_may 5 = .ok (.invokevirtual 137, 3) := by decide +kernel
theorem dX11_may_8 : decode cX11_may 8 = .ok (.ifCond .eq 18, 3) := by decide +kernel
theorem dX11_may_11 : decode cX11_may 11 = .ok (.aload_n 0, 1) := by decide +kernel
theorem dX11_may_12 : decode cX11_may 12 = .ok (.iload_n 2, 1) := by decide +kernel
theorem dX11_may_13 : decode cX11_may 13 = .ok (.invokevirtual 184, 3) := by decide +kernel
theorem dX11_may_16 : decode cX11_may 16 = .ok (.ifCond .eq 10, 3) := by decide +kernel
theorem dX11_may_19 : decode cX11_may 19 = .ok (.iload_n 3, 1) := by decide +kernel
theorem dX11_may_20 : decode cX11_may 20 = .ok (.invokestatic 187, 3) := by decide +kernel
theorem dX11_may_23 : decode cX11_may 23 = .ok (.ifCond .ne 5, 3) := by decide +kernel
theorem dX11_may_26 : decode cX11_may 26 = .ok (.iconst (-1), 1) := by decide +kernel
theorem dX11_may_27 : decode cX11_may 27 = .ok (.ireturn, 1) := by decide +kernel
theorem dX11_may_28 : decode cX11_may 28 = .ok (.aload_n 0, 1) := by decide +kernel
theorem dX11_may_29 : decode cX11_may 29 = .ok (.getfield 32, 3) := by decide +kernel
theorem dX11_may_32 : decode cX11_may 32 = .ok (.aload_n 0, 1) := by decide +kernel
theorem dX11_may_33 : decode cX11_may 33 = .ok (.getfield 19, 3) := by decide +kernel
theorem dX11_may_36 : decode cX11_may 36 = .ok (.iload_n 1, 1) := by decide +kernel
theorem dX11_may_37 : decode cX11_may 37 = .ok (.iload_n 2, 1) := by decide +kernel
theorem dX11_may_38 : decode cX11_may 38 = .ok (.bipush 10, 2) := by decide +kernel
theorem dX11_may_40 : decode cX11_may 40 = .ok (.idiv, 1) := by decide +kernel
theorem dX11_may_41 : decode cX11_may 41 = .ok (.iload_n 2, 1) := by decide +kernel
theorem dX11_may_42 : decode cX11_may 42 = .ok (.bipush 10, 2) := by decide +kernel
theorem dX11_may_44 : decode cX11_may 44 = .ok (.irem, 1) := by decide +kernel
theorem dX11_may_45 : decode cX11_may 45 = .ok (.iload_n 3, 1) := by decide +kernel
theorem dX11_may_46 : decode cX11_may 46 = .ok (.invokevirtual 190, 3) := by decide +kernel
theorem dX11_may_49 : decode cX11_may 49 = .ok (.ifCond .eq 7, 3) := by decide +kernel
theorem dX11_may_52 : decode cX11_may 52 = .ok (.iconst 1, 1) := by decide +kernel
theorem dX11_may_53 : decode cX11_may 53 = .ok (.goto 4, 3) := by decide +kernel
theorem dX11_may_56 : decode cX11_may 56 = .ok (.iconst 0, 1) := by decide +kernel
theorem dX11_may_57 : decode cX11_may 57 = .ok (.ireturn, 1) := by decide +kernel
theorem dX11_comes_0 : decode cX11_comes 0 = .ok (.iload_n 1, 1) := by decide +kernel
theorem dX11_comes_1 : decode cX11_comes 1 = .ok (.ifCond .lt 24, 3) := by decide +kernel
theorem dX11_comes_4 : decode cX11_comes 4 = .ok (.aload_n 0, 1) := by decide +kernel
theorem dX11_comes_5 : decode cX11_comes 5 = .ok (.getfield 10, 3) := by decide +kernel
theorem dX11_comes_8 : decode cX11_comes 8 = .ok (.iload_n 1, 1) := by decide +kernel
theorem dX11_comes_9 : decode cX11_comes 9 = .ok (.bipush 10, 2) := by decide +kernel
theorem dX11_comes_11 : decode cX11_comes 11 = .ok (.idiv, 1) := by decide +kernel
theorem dX11_comes_12 : decode cX11_comes 12 = .ok (.invokevirtual 143, 3) := by decide +kernel
theorem dX11_comes_15 : decode cX11_comes 15 = .ok (.ifCond .eq 10, 3) := by decide +kernel
theorem dX11_comes_18 : decode cX11_comes 18 = .ok (.iload_n 2, 1) := by decide +kernel
theorem dX11_comes_19 : decode cX11_comes 19 = .ok (.invokestatic 187, 3) := by decide +kernel
theorem dX11_comes_22 : decode cX11_comes 22 = .ok (.ifCond .ne 5, 3) := by decide +kernel
theorem dX11_comes_25 : decode cX11_comes 25 = .ok (.iconst (-1), 1) := by decide +kernel
theorem dX11_comes_26 : decode cX11_comes 26 = .ok (.ireturn, 1) := by decide +kernel
theorem dX11_comes_27 : decode cX11_comes 27 = .ok (.aload_n 0, 1) := by decide +kernel
theorem dX11_comes_28 : decode cX11_comes 28 = .ok (.getfield 32, 3) := by decide +kernel
theorem dX11_comes_31 : decode cX11_comes 31 = .ok (.iload_n 1, 1) := by decide +kernel
theorem dX11_comes_32 : decode cX11_comes 32 = .ok (.bipush 10, 2) := by decide +kernel
theorem dX11_comes_34 : decode cX11_comes 34 = .ok (.idiv, 1) := by decide +kernel
theorem dX11_comes_35 : decode cX11_comes 35 = .ok (.iload_n 1, 1) := by decide +kernel
theorem dX11_comes_36 : decode cX11_comes 36 = .ok (.bipush 10, 2) := by decide +kernel
theorem dX11_comes_38 : decode cX11_comes 38 = .ok (.irem, 1) := by decide +kernel
theorem dX11_comes_39 : decode cX11_comes 39 = .ok (.iload_n 2, 1) := by decide +kernel
theorem dX11_comes_40 : decode cX11_comes 40 = .ok (.invokevirtual 194, 3) := by decide +kernel
theorem dX11_comes_43 : decode cX11_comes 43 = .ok (.ireturn, 1) := by decide +kernel
theorem dX11_pass_0 : decode cX11_pass 0 = .ok (.aload_n 0, 1) := by decide +kernel
theorem dX11_pass_1 : decode cX11_pass 1 = .ok (.iload_n 1, 1) := by decide +kernel
theorem dX11_pass_2 : decode cX11_pass 2 = .ok (.invokevirtual 184, 3) := by decide +kernel
theorem dX11_pass_5 : decode cX11_pass 5 = .ok (.ifCond .eq 20, 3) := by decide +kernel
theorem dX11_pass_8 : decode cX11_pass 8 = .ok (.iload_n 2, 1) := by decide +kernel
theorem dX11_pass_9 : decode cX11_pass 9 = .ok (.ifCond .lt 16, 3) := by decide +kernel
theorem dX11_pass_12 : decode cX11_pass 12 = .ok (.iload_n 2, 1) := by decide +kernel
theorem dX11_pass_13 : decode cX11_pass 13 = .ok (.iconst 1, 1) := by decide +kernel
theorem dX11_pass_14 : decode cX11_pass 14 = .ok (.aload_n 0, 1) := by decide +kernel
theorem dX11_pass_15 : decode cX11_pass 15 = .ok (.getfield 19, 3) := by decide +kernel
theorem dX11_pass_18 : decode cX11_pass 18 = .ok (.getfield 197, 3) := by decide +kernel
theorem dX11_pass_21 : decode cX11_pass 21 = .ok (.ishl, 1) := by decide +kernel
theorem dX11_pass_22 : decode cX11_pass 22 = .ok (.if_icmp .lt 5, 3) := by decide +kernel
theorem dX11_pass_25 : decode cX11_pass 25 = .ok (.iconst (-1), 1) := by decide +kernel
theorem dX11_pass_26 : decode cX11_pass 26 = .ok (.ireturn, 1) := by decide +kernel
theorem dX11_pass_27 : decode cX11_pass 27 = .ok (.aload_n 0, 1) := by decide +kernel
theorem dX11_pass_28 : decode cX11_pass 28 = .ok (.getfield 39, 3) := by decide +kernel
theorem dX11_pass_31 : decode cX11_pass 31 = .ok (.getfield 167, 3) := by decide +kernel
theorem dX11_pass_34 : decode cX11_pass 34 = .ok (.bipush 60, 2) := by decide +kernel
theorem dX11_pass_36 : decode cX11_pass 36 = .ok (.if_icmp .lt 6, 3) := by decide +kernel
theorem dX11_pass_39 : decode cX11_pass 39 = .ok (.bipush (-5), 2) := by decide +kernel
theorem dX11_pass_41 : decode cX11_pass 41 = .ok (.ireturn, 1) := by decide +kernel
theorem dX11_pass_42 : decode cX11_pass 42 = .ok (.iload_n 1, 1) := by decide +kernel
theorem dX11_pass_43 : decode cX11_pass 43 = .ok (.bipush 10, 2) := by decide +kernel
theorem dX11_pass_45 : decode cX11_pass 45 = .ok (.irem, 1) := by decide +kernel
theorem dX11_pass_46 : decode cX11_pass 46 = .ok (.ifCond .ne 15, 3) := by decide +kernel
theorem dX11_pass_49 : decode cX11_pass 49 = .ok (.aload_n 0, 1) := by decide +kernel
theorem dX11_pass_50 : decode cX11_pass 50 = .ok (.getfield 39, 3) := by decide +kernel
theorem dX11_pass_53 : decode cX11_pass 53 = .ok (.getfield 157, 3) := by decide +kernel
theorem dX11_pass_56 : decode cX11_pass 56 = .ok (.iconst (-1), 1) := by decide +kernel
theorem dX11_pass_57 : decode cX11_pass 57 = .ok (.ixor, 1) := by decide +kernel
theorem dX11_pass_58 : decode cX11_pass 58 = .ok (.goto 10, 3) := by decide +kernel
theorem dX11_pass_61 : decode cX11_pass 61 = .ok (.aload_n 0, 1) := by decide +kernel
theorem dX11_pass_62 : decode cX11_pass 62 = .ok (.getfield 39, 3) := by decide +kernel
theorem dX11_pass_65 : decode cX11_pass 65 = .ok (.getfield 157, 3) := by decide +kernel
theorem dX11_pass_68 : decode cX11_pass 68 = .ok (.istore_n 3, 1) := by decide +kernel
theorem dX11_pass_69 : decode cX11_pass 69 = .ok (.iload_n 2, 1) := by decide +kernel
theorem dX11_pass_70 : decode cX11_pass 70 = .ok (.invokestatic 200, 3) := by decide +kernel
theorem dX11_pass_73 : decode cX11_pass 73 = .ok (.aload_n 0, 1) := by decide +kernel
theorem dX11_pass_74 : decode cX11_pass 74 = .ok (.getfield 10, 3) := by decide +kernel
theorem dX11_pass_77 : decode cX11_pass 77 = .ok (.iload_n 1, 1) := by decide +kernel
theorem dX11_pass_78 : decode cX11_pass 78 = .ok (.bipush 10, 2) := by decide +kernel
theorem dX11_pass_80 : decode cX11_pass 80 = .ok (.idiv, 1) := by decide +kernel
theorem dX11_pass_81 : decode cX11_pass 81 = .ok (.invokevirtual 205, 3) := by decide +kernel
theorem dX11_pass_84 : decode cX11_pass 84 = .ok (.if_icmp .ne 11, 3) := by decide +kernel
theorem dX11_pass_87 : decode cX11_pass 87 = .ok (.iload_n 2, 1) := by decide +kernel
theorem dX11_pass_88 : decode cX11_pass 88 = .ok (.iload_n 3, 1) := by decide +kernel
theorem dX11_pass_89 : decode cX11_pass 89 = .ok (.iconst (-1), 1) := by decide +kernel
theorem dX11_pass_90 : decode cX11_pass 90 = .ok (.ixor, 1) := by decide +kernel
theorem dX11_pass_91 : decode cX11_pass 91 = .ok (.iand, 1) := by decide +kernel
theorem dX11_pass_92 : decode cX11_pass 92 = .ok (.ifCond .eq 6, 3) := by decide +kernel
theorem dX11_pass_95 : decode cX11_pass 95 = .ok (.bipush (-2), 2) := by decide +kernel
theorem dX11_pass_97 : decode cX11_pass 97 = .ok (.ireturn, 1) := by decide +kernel
theorem dX11_pass_98 : decode cX11_pass 98 = .ok (.aload_n 0, 1) := by decide +kernel
theorem dX11_pass_99 : decode cX11_pass 99 = .ok (.getfield 32, 3) := by decide +kernel
theorem dX11_pass_102 : decode cX11_pass 102 = .ok (.aload_n 0, 1) := by decide +kernel
theorem dX11_pass_103 : decode cX11_pass 103 = .ok (.getfield 19, 3) := by decide +kernel
theorem dX11_pass_106 : decode cX11_pass 106 = .ok (.iload_n 2, 1) := by decide +kernel
theorem dX11_pass_107 : decode cX11_pass 107 = .ok (.iload_n 1, 1) := by decide +kernel
theorem dX11_pass_108 : decode cX11_pass 108 = .ok (.bipush 10, 2) := by decide +kernel
theorem dX11_pass_110 : decode cX11_pass 110 = .ok (.idiv, 1) := by decide +kernel
theorem dX11_pass_111 : decode cX11_pass 111 = .ok (.iload_n 1, 1) := by decide +kernel
theorem dX11_pass_112 : decode cX11_pass 112 = .ok (.bipush 10, 2) := by decide +kernel
theorem dX11_pass_114 : decode cX11_pass 114 = .ok (.irem, 1) := by decide +kernel
theorem dX11_pass_115 : decode cX11_pass 115 = .ok (.aload_n 0, 1) := by decide +kernel
theorem dX11_pass_116 : decode cX11_pass 116 = .ok (.getfield 39, 3) := by decide +kernel
theorem dX11_pass_119 : decode cX11_pass 119 = .ok (.getfield 167, 3) := by decide +kernel
theorem dX11_pass_122 : decode cX11_pass 122 = .ok (.invokevirtual 208, 3) := by decide +kernel
theorem dX11_pass_125 : decode cX11_pass 125 = .ok (.iload_n 2, 1) := by decide +kernel
theorem dX11_pass_126 : decode cX11_pass 126 = .ok (.if_icmp .eq 6, 3) := by decide +kernel
theorem dX11_pass_129 : decode cX11_pass 129 = .ok (.bipush (-2), 2) := by decide +kernel
theorem dX11_pass_131 : decode cX11_pass 131 = .ok (.ireturn, 1) := by decide +kernel
theorem dX11_pass_132 : decode cX11_pass 132 = .ok (.aload_n 0, 1) := by decide +kernel
theorem dX11_pass_133 : decode cX11_pass 133 = .ok (.getfield 39, 3) := by decide +kernel
theorem dX11_pass_136 : decode cX11_pass 136 = .ok (.iload_n 2, 1) := by decide +kernel
theorem dX11_pass_137 : decode cX11_pass 137 = .ok (.iload_n 1, 1) := by decide +kernel
theorem dX11_pass_138 : decode cX11_pass 138 = .ok (.bipush 10, 2) := by decide +kernel
theorem dX11_pass_140 : decode cX11_pass 140 = .ok (.irem, 1) := by decide +kernel
theorem dX11_pass_141 : decode cX11_pass 141 = .ok (.invokevirtual 212, 3) := by decide +kernel
theorem dX11_pass_144 : decode cX11_pass 144 = .ok (.aload_n 0, 1) := by decide +kernel
theorem dX11_pass_145 : decode cX11_pass 145 = .ok (.invokevirtual 216, 3) := by decide +kernel
theorem dX11_pass_148 : decode cX11_pass 148 = .ok (.ireturn, 1) := by decide +kernel
theorem dX11_tick_0 : decode cX11_tick 0 = .ok (.iload_n 1, 1) := by decide +kernel
theorem dX11_tick_1 : decode cX11_tick 1 = .ok (.iconst 1, 1) := by decide +kernel
theorem dX11_tick_2 : decode cX11_tick 2 = .ok (.if_icmp .lt 9, 3) := by decide +kernel
theorem dX11_tick_5 : decode cX11_tick 5 = .ok (.iload_n 1, 1) := by decide +kernel
theorem dX11_tick_6 : decode cX11_tick 6 = .ok (.bipush 60, 2) := by decide +kernel
theorem dX11_tick_8 : decode cX11_tick 8 = .ok (.if_icmp .le 5, 3) := by decide +kernel
theorem dX11_tick_11 : decode cX11_tick 11 = .ok (.iconst (-1), 1) := by decide +kernel
theorem dX11_tick_12 : decode cX11_tick 12 = .ok (.ireturn, 1) := by decide +kernel
theorem dX11_tick_13 : decode cX11_tick 13 = .ok (.aload_n 0, 1) := by decide +kernel
theorem dX11_tick_14 : decode cX11_tick 14 = .ok (.getfield 39, 3) := by decide +kernel
theorem dX11_tick_17 : decode cX11_tick 17 = .ok (.getfield 167, 3) := by decide +kernel
theorem dX11_tick_20 : decode cX11_tick 20 = .ok (.iload_n 1, 1) := by decide +kernel
theorem dX11_tick_21 : decode cX11_tick 21 = .ok (.iadd, 1) := by decide +kernel
theorem dX11_tick_22 : decode cX11_tick 22 = .ok (.bipush 60, 2) := by decide +kernel
theorem dX11_tick_24 : decode cX11_tick 24 = .ok (.if_icmp .le 6, 3) := by decide +kernel
theorem dX11_tick_27 : decode cX11_tick 27 = .ok (.bipush (-5), 2) := by decide +kernel
theorem dX11_tick_29 : decode cX11_tick 29 = .ok (.ireturn, 1) := by decide +kernel
theorem dX11_tick_30 : decode cX11_tick 30 = .ok (.iconst 0, 1) := by decide +kernel
theorem dX11_tick_31 : decode cX11_tick 31 = .ok (.istore_n 2, 1) := by decide +kernel
theorem dX11_tick_32 : decode cX11_tick 32 = .ok (.iload_n 2, 1) := by decide +kernel
theorem dX11_tick_33 : decode cX11_tick 33 = .ok (.iload_n 1, 1) := by decide +kernel
theorem dX11_tick_34 : decode cX11_tick 34 = .ok (.if_icmp .ge 37, 3) := by decide +kernel
theorem dX11_tick_37 : decode cX11_tick 37 = .ok (.aload_n 0, 1) := by decide +kernel
theorem dX11_tick_38 : decode cX11_tick 38 = .ok (.getfield 39, 3) := by decide +kernel
theorem dX11_tick_41 : decode cX11_tick 41 = .ok (.aload_n 0, 1) := by decide +kernel
theorem dX11_tick_42 : decode cX11_tick 42 = .ok (.getfield 19, 3) := by decide +kernel
theorem dX11_tick_45 : decode cX11_tick 45 = .ok (.aload_n 0, 1) := by decide +kernel
theorem dX11_tick_46 : decode cX11_tick 46 = .ok (.invokevirtual 170, 3) := by decide +kernel
theorem dX11_tick_49 : decode cX11_tick 49 = .ok (.invokevirtual 219, 3) := by decide +kernel
theorem dX11_tick_52 : decode cX11_tick 52 = .ok (.aload_n 0, 1) := by decide +kernel
theorem dX11_tick_53 : decode cX11_tick 53 = .ok (.getfield 39, 3) := by decide +kernel
theorem dX11_tick_56 : decode cX11_tick 56 = .ok (.dup, 1) := by decide +kernel
theorem dX11_tick_57 : decode cX11_tick 57 = .ok (.getfield 167, 3) := by decide +kernel
theorem dX11_tick_60 : decode cX11_tick 60 = .ok (.iconst 1, 1) := by decide +kernel
theorem dX11_tick_61 : decode cX11_tick 61 = .ok (.iadd, 1) := by decide +kernel
theorem dX11_tick_62 : decode cX11_tick 62 = .ok (.putfield 167, 3) := by decide +kernel
theorem dX11_tick_65 : decode cX11_tick 65 = .ok (.iinc 2 1, 3) := by decide +kernel
theorem dX11_tick_68 : decode cX11_tick 68 = .ok (.goto (-36), 3) := by decide +kernel
theorem dX11_tick_71 : decode cX11_tick 71 = .ok (.aload_n 0, 1) := by decide +kernel
theorem dX11_tick_72 : decode cX11_tick 72 = .ok (.getfield 39, 3) := by decide +kernel
theorem dX11_tick_75 : decode cX11_tick 75 = .ok (.getfield 167, 3) := by decide +kernel
theorem dX11_tick_78 : decode cX11_tick 78 = .ok (.ireturn, 1) := by decide +kernel
theorem dX11_waitingNow_0 : decode cX11_waitingNow 0 = .ok (.aload_n 0, 1) := by decide +kernel
theorem dX11_waitingNow_1 : decode cX11_waitingNow 1 = .ok (.getfield 19, 3) := by decide +kernel
theorem dX11_waitingNow_4 : decode cX11_waitingNow 4 = .ok (.aload_n 0, 1) := by decide +kernel
theorem dX11_waitingNow_5 : decode cX11_waitingNow 5 = .ok (.getfield 39, 3) := by decide +kernel
theorem dX11_waitingNow_8 : decode cX11_waitingNow 8 = .ok (.getfield 167, 3) := by decide +kernel
theorem dX11_waitingNow_11 : decode cX11_waitingNow 11 = .ok (.aload_n 0, 1) := by decide +kernel
theorem dX11_waitingNow_12 : decode cX11_waitingNow 12 = .ok (.getfield 39, 3) := by decide +kernel
theorem dX11_waitingNow_15 : decode cX11_waitingNow 15 = .ok (.getfield 164, 3) := by decide +kernel
theorem dX11_waitingNow_18 : decode cX11_waitingNow 18 = .ok (.invokevirtual 223, 3) := by decide +kernel
theorem dX11_waitingNow_21 : decode cX11_waitingNow 21 = .ok (.aload_n 0, 1) := by decide +kernel
theorem dX11_waitingNow_22 : decode cX11_waitingNow 22 = .ok (.getfield 19, 3) := by decide +kernel
theorem dX11_waitingNow_25 : decode cX11_waitingNow 25 = .ok (.aload_n 0, 1) := by decide +kernel
theorem dX11_waitingNow_26 : decode cX11_waitingNow 26 = .ok (.getfield 39, 3) := by decide +kernel
theorem dX11_waitingNow_29 : decode cX11_waitingNow 29 = .ok (.getfield 167, 3) := by decide +kernel
theorem dX11_waitingNow_32 : decode cX11_waitingNow 32 = .ok (.aload_n 0, 1) := by decide +kernel
theorem dX11_waitingNow_33 : decode cX11_waitingNow 33 = .ok (.getfield 39, 3) := by decide +kernel
theorem dX11_waitingNow_36 : decode cX11_waitingNow 36 = .ok (.getfield 157, 3) := by decide +kernel
theorem dX11_waitingNow_39 : decode cX11_waitingNow 39 = .ok (.invokevirtual 226, 3) := by decide +kernel
theorem dX11_waitingNow_42 : decode cX11_waitingNow 42 = .ok (.ior, 1) := by decide +kernel
theorem dX11_waitingNow_43 : decode cX11_waitingNow 43 = .ok (.ireturn, 1) := by decide +kernel
theorem dX11_peopleWithin_0 : decode cX11_peopleWithin 0 = .ok (.aload_n 0, 1) := by decide +kernel
theorem dX11_peopleWithin_1 : decode cX11_peopleWithin 1 = .ok (.getfield 19, 3) := by decide +kernel
theorem dX11_peopleWithin_4 : decode cX11_peopleWithin 4 = .ok (.getfield 197, 3) := by decide +kernel
theorem dX11_peopleWithin_7 : decode cX11_peopleWithin 7 = .ok (.aload_n 0, 1) := by decide +kernel
theorem dX11_peopleWithin_8 : decode cX11_peopleWithin 8 = .ok (.getfield 39, 3) := by decide +kernel
theorem dX11_peopleWithin_11 : decode cX11_peopleWithin 11 = .ok (.getfield 157, 3) := by decide +kernel
theorem dX11_peopleWithin_14 : decode cX11_peopleWithin 14 = .ok (.invokestatic 200, 3) := by decide +kernel
theorem dX11_peopleWithin_17 : decode cX11_peopleWithin 17 = .ok (.isub, 1) := by decide +kernel
theorem dX11_peopleWithin_18 : decode cX11_peopleWithin 18 = .ok (.ireturn, 1) := by decide +kernel
theorem dX11_day_0 : decode cX11_day 0 = .ok (.iload_n 1, 1) := by decide +kernel
theorem dX11_day_1 : decode cX11_day 1 = .ok (.invokestatic 229, 3) := by decide +kernel
theorem dX11_day_4 : decode cX11_day 4 = .ok (.ifCond .eq 23, 3) := by decide +kernel
theorem dX11_day_7 : decode cX11_day 7 = .ok (.aload_n 0, 1) := by decide +kernel
theorem dX11_day_8 : decode cX11_day 8 = .ok (.getfield 19, 3) := by decide +kernel
theorem dX11_day_11 : decode cX11_day 11 = .ok (.iload_n 2, 1) := by decide +kernel
theorem dX11_day_12 : decode cX11_day 12 = .ok (.invokevirtual 137, 3) := by decide +kernel
theorem dX11_day_15 : decode cX11_day 15 = .ok (.ifCond .eq 12, 3) := by decide +kernel
theorem dX11_day_18 : decode cX11_day 18 = .ok (.iload_n 3, 1) := by decide +kernel
theorem dX11_day_19 : decode cX11_day 19 = .ok (.ifCond .lt 8, 3) := by decide +kernel
theorem dX11_day_22 : decode cX11_day 22 = .ok (.iload_n 3, 1) := by decide +kernel
theorem dX11_day_23 : decode cX11_day 23 = .ok (.iconst 1, 1) := by decide +kernel
theorem dX11_day_24 : decode cX11_day 24 = .ok (.if_icmp .le 5, 3) := by decide +kernel
theorem dX11_day_27 : decode cX11_day 27 = .ok (.iconst (-1), 1) := by decide +kernel
theorem dX11_day_28 : decode cX11_day 28 = .ok (.ireturn, 1) := by decide +kernel
theorem dX11_day_29 : decode cX11_day 29 = .ok (.aload_n 0, 1) := by decide +kernel
theorem dX11_day_30 : decode cX11_day 30 = .ok (.getfield 51, 3) := by decide +kernel
theorem dX11_day_33 : decode cX11_day 33 = .ok (.iload_n 1, 1) := by decide +kernel
theorem dX11_day_34 : decode cX11_day 34 = .ok (.invokevirtual 232, 3) := by decide +kernel
theorem dX11_day_37 : decode cX11_day 37 = .ok (.iload_n 3, 1) := by decide +kernel
theorem dX11_day_38 : decode cX11_day 38 = .ok (.ifCond .ne 15, 3) := by decide +kernel
theorem dX11_day_41 : decode cX11_day 41 = .ok (.aload_n 0, 1) := by decide +kernel
theorem dX11_day_42 : decode cX11_day 42 = .ok (.getfield 51, 3) := by decide +kernel
theorem dX11_day_45 : decode cX11_day 45 = .ok (.getfield 236, 3) := by decide +kernel
theorem dX11_day_48 : decode cX11_day 48 = .ok (.iload_n 2, 1) := by decide +kernel
theorem dX11_day_49 : decode cX11_day 49 = .ok (.iaload, 1) := by decide +kernel
theorem dX11_day_50 : decode cX11_day 50 = .ok (.goto 12, 3) := by decide +kernel
theorem dX11_day_53 : decode cX11_day 53 = .ok (.aload_n 0, 1) := by decide +kernel
theorem dX11_day_54 : decode cX11_day 54 = .ok (.getfield 51, 3) := by decide +kernel
theorem dX11_day_57 : decode cX11_day 57 = .ok (.getfield 239, 3) := by decide +kernel
theorem dX11_day_60 : decode cX11_day 60 = .ok (.iload_n 2, 1) := by decide +kernel
theorem dX11_day_61 : decode cX11_day 61 = .ok (.iaload, 1) := by decide +kernel
theorem dX11_day_62 : decode cX11_day 62 = .ok (.ireturn, 1) := by decide +kernel
theorem dX11_sum_0 : decode cX11_sum 0 = .ok (.iload_n 1, 1) := by decide +kernel
theorem dX11_sum_1 : decode cX11_sum 1 = .ok (.invokestatic 229, 3) := by decide +kernel
theorem dX11_sum_4 : decode cX11_sum 4 = .ok (.ifCond .eq 12, 3) := by decide +kernel
theorem dX11_sum_7 : decode cX11_sum 7 = .ok (.iload_n 2, 1) := by decide +kernel
theorem dX11_sum_8 : decode cX11_sum 8 = .ok (.ifCond .lt 8, 3) := by decide +kernel
theorem dX11_sum_11 : decode cX11_sum 11 = .ok (.iload_n 2, 1) := by decide +kernel
theorem dX11_sum_12 : decode cX11_sum 12 = .ok (.iconst 2, 1) := by decide +kernel
theorem dX11_sum_13 : decode cX11_sum 13 = .ok (.if_icmp .le 5, 3) := by decide +kernel
theorem dX11_sum_16 : decode cX11_sum 16 = .ok (.iconst (-1), 1) := by decide +kernel
theorem dX11_sum_17 : decode cX11_sum 17 = .ok (.ireturn, 1) := by decide +kernel
theorem dX11_sum_18 : decode cX11_sum 18 = .ok (.aload_n 0, 1) := by decide +kernel
theorem dX11_sum_19 : decode cX11_sum 19 = .ok (.getfield 51, 3) := by decide +kernel
theorem dX11_sum_22 : decode cX11_sum 22 = .ok (.iload_n 1, 1) := by decide +kernel
theorem dX11_sum_23 : decode cX11_sum 23 = .ok (.invokevirtual 232, 3) := by decide +kernel
theorem dX11_sum_26 : decode cX11_sum 26 = .ok (.iload_n 2, 1) := by decide +kernel
theorem dX11_sum_27 : decode cX11_sum 27 = .ok (.ifCond .ne 11, 3) := by decide +kernel
theorem dX11_sum_30 : decode cX11_sum 30 = .ok (.aload_n 0, 1) := by decide +kernel
theorem dX11_sum_31 : decode cX11_sum 31 = .ok (.getfield 51, 3) := by decide +kernel
theorem dX11_sum_34 : decode cX11_sum 34 = .ok (.getfield 242, 3) := by decide +kernel
theorem dX11_sum_37 : decode cX11_sum 37 = .ok (.ireturn, 1) := by decide +kernel
theorem dX11_sum_38 : decode cX11_sum 38 = .ok (.iload_n 2, 1) := by decide +kernel
theorem dX11_sum_39 : decode cX11_sum 39 = .ok (.iconst 1, 1) := by decide +kernel
theorem dX11_sum_40 : decode cX11_sum 40 = .ok (.if_icmp .ne 13, 3) := by decide +kernel
theorem dX11_sum_43 : decode cX11_sum 43 = .ok (.aload_n 0, 1) := by decide +kernel
theorem dX11_sum_44 : decode cX11_sum 44 = .ok (.getfield 51, 3) := by decide +kernel
theorem dX11_sum_47 : decode cX11_sum 47 = .ok (.getfield 245, 3) := by decide +kernel
theorem dX11_sum_50 : decode cX11_sum 50 = .ok (.goto 13, 3) := by decide +kernel
theorem dX11_sum_53 : decode cX11_sum 53 = .ok (.aload_n 0, 1) := by decide +kernel
theorem dX11_sum_54 : decode cX11_sum 54 = .ok (.getfield 51, 3) := by decide +kernel
theorem dX11_sum_57 : decode cX11_sum 57 = .ok (.getfield 248, 3) := by decide +kernel
theorem dX11_sum_60 : decode cX11_sum 60 = .ok (.invokestatic 200, 3) := by decide +kernel
theorem dX11_sum_63 : decode cX11_sum 63 = .ok (.ireturn, 1) := by decide +kernel
theorem dX11_best_0 : decode cX11_best 0 = .ok (.aload_n 0, 1) := by decide +kernel
theorem dX11_best_1 : decode cX11_best 1 = .ok (.getfield 19, 3) := by decide +kernel
theorem dX11_best_4 : decode cX11_best 4 = .ok (.getfield 197, 3) := by decide +kernel
theorem dX11_best_7 : decode cX11_best 7 = .ok (.iconst 5, 1) := by decide +kernel
theorem dX11_best_8 : decode cX11_best 8 = .ok (.if_icmp .gt 13, 3) := by decide +kernel
theorem dX11_best_11 : decode cX11_best 11 = .ok (.aload_n 0, 1) := by decide +kernel
theorem dX11_best_12 : decode cX11_best 12 = .ok (.getfield 10, 3) := by decide +kernel
theorem dX11_best_15 : decode cX11_best 15 = .ok (.getfield 249, 3) := by decide +kernel
theorem dX11_best_18 : decode cX11_best 18 = .ok (.ifCond .ne 6, 3) := by decide +kernel
theorem dX11_best_21 : decode cX11_best 21 = .ok (.bipush (-5), 2) := by decide +kernel
theorem dX11_best_23 : decode cX11_best 23 = .ok (.ireturn, 1) := by decide +kernel
theorem dX11_best_24 : decode cX11_best 24 = .ok (.aload_n 0, 1) := by decide +kernel
theorem dX11_best_25 : decode cX11_best 25 = .ok (.getfield 58, 3) := by decide +kernel
theorem dX11_best_28 : decode cX11_best 28 = .ok (.invokevirtual 250, 3) := by decide +kernel
theorem dX11_best_31 : decode cX11_best 31 = .ok (.ireturn, 1) := by decide +kernel
theorem dX11_reach_0 : decode cX11_reach 0 = .ok (.iload_n 1, 1) := by decide +kernel
theorem dX11_reach_1 : decode cX11_reach 1 = .ok (.invokestatic 252, 3) := by decide +kernel
theorem dX11_reach_4 : decode cX11_reach 4 = .ok (.ifCond .eq 23, 3) := by decide +kernel
theorem dX11_reach_7 : decode cX11_reach 7 = .ok (.aload_n 0, 1) := by decide +kernel
theorem dX11_reach_8 : decode cX11_reach 8 = .ok (.getfield 10, 3) := by decide +kernel
theorem dX11_reach_11 : decode cX11_reach 11 = .ok (.lconst 1, 1) := by decide +kernel
theorem dX11_reach_12 : decode cX11_reach 12 = .ok (.iload_n 1, 1) := by decide +kernel
theorem dX11_reach_13 : decode cX11_reach 13 = .ok (.bipush 100, 2) := by decide +kernel
theorem dX11_reach_15 : decode cX11_reach 15 = .ok (.idiv, 1) := by decide +kernel
theorem dX11_reach_16 : decode cX11_reach 16 = .ok (.lshl, 1) := by decide +kernel
theorem dX11_reach_17 : decode cX11_reach 17 = .ok (.iload_n 1, 1) := by decide +kernel
theorem dX11_reach_18 : decode cX11_reach 18 = .ok (.bipush 100, 2) := by decide +kernel
theorem dX11_reach_20 : decode cX11_reach 20 = .ok (.irem, 1) := by decide +kernel
theorem dX11_reach_21 : decode cX11_reach 21 = .ok (.invokevirtual 255, 3) := by decide +kernel
theorem dX11_reach_24 : decode cX11_reach 24 = .ok (.goto 6, 3) := by decide +kernel
theorem dX11_reach_27 : decode cX11_reach 27 = .ok (.ldc2_w 259, 3) := by decide +kernel
theorem dX11_reach_30 : decode cX11_reach 30 = .ok (.lreturn, 1) := by decide +kernel
theorem dX11_steps_0 : decode cX11_steps 0 = .ok (.iload_n 1, 1) := by decide +kernel
theorem dX11_steps_1 : decode cX11_steps 1 = .ok (.invokestatic 252, 3) := by decide +kernel
theorem dX11_steps_4 : decode cX11_steps 4 = .ok (.ifCond .eq 15, 3) := by decide +kernel
theorem dX11_steps_7 : decode cX11_steps 7 = .ok (.iload_n 2, 1) := by decide +kernel
theorem dX11_steps_8 : decode cX11_steps 8 = .ok (.ifCond .lt 11, 3) := by decide +kernel
theorem dX11_steps_11 : decode cX11_steps 11 = .ok (.iload_n 2, 1) := by decide +kernel
theorem dX11_steps_12 : decode cX11_steps 12 = .ok (.iload_n 1, 1) := by decide +kernel
theorem dX11_steps_13 : decode cX11_steps 13 = .ok (.bipush 100, 2) := by decide +kernel
theorem dX11_steps_15 : decode cX11_steps 15 = .ok (.irem, 1) := by decide +kernel
theorem dX11_steps_16 : decode cX11_steps 16 = .ok (.if_icmp .le 5, 3) := by decide +kernel
theorem dX11_steps_19 : decode cX11_steps 19 = .ok (.iconst (-1), 1) := by decide +kernel
theorem dX11_steps_20 : decode cX11_steps 20 = .ok (.ireturn, 1) := by decide +kernel
theorem dX11_steps_21 : decode cX11_steps 21 = .ok (.aload_n 0, 1) := by decide +kernel
theorem dX11_steps_22 : decode cX11_steps 22 = .ok (.getfield 10, 3) := by decide +kernel
theorem dX11_steps_25 : decode cX11_steps 25 = .ok (.iload_n 1, 1) := by decide +kernel
theorem dX11_steps_26 : decode cX11_steps 26 = .ok (.bipush 100, 2) := by decide +kernel
theorem dX11_steps_28 : decode cX11_steps 28 = .ok (.idiv, 1) := by decide +kernel
theorem dX11_steps_29 : decode cX11_steps 29 = .ok (.iload_n 1, 1) := by decide +kernel
theorem dX11_steps_30 : decode cX11_steps 30 = .ok (.bipush 100, 2) := by decide +kernel
theorem dX11_steps_32 : decode cX11_steps 32 = .ok (.irem, 1) := by decide +kernel
theorem dX11_steps_33 : decode cX11_steps 33 = .ok (.iload_n 2, 1) := by decide +kernel
theorem dX11_steps_34 : decode cX11_steps 34 = .ok (.invokevirtual 261, 3) := by decide +kernel
theorem dX11_steps_37 : decode cX11_steps 37 = .ok (.ireturn, 1) := by decide +kernel
theorem dX11_boat_0 : decode cX11_boat 0 = .ok (.iload_n 1, 1) := by decide +kernel
theorem dX11_boat_1 : decode cX11_boat 1 = .ok (.invokestatic 252, 3) := by decide +kernel
theorem dX11_boat_4 : decode cX11_boat 4 = .ok (.ifCond .eq 29, 3) := by decide +kernel
theorem dX11_boat_7 : decode cX11_boat 7 = .ok (.iload_n 2, 1) := by decide +kernel
theorem dX11_boat_8 : decode cX11_boat 8 = .ok (.bipush 100, 2) := by decide +kernel
theorem dX11_boat_10 : decode cX11_boat 10 = .ok (.if_icmp .lt 23, 3) := by decide +kernel
theorem dX11_boat_13 : decode cX11_boat 13 = .ok (.iload_n 2, 1) := by decide +kernel
theorem dX11_boat_14 : decode cX11_boat 14 = .ok (.bipush 100, 2) := by decide +kernel
theorem dX11_boat_16 : decode cX11_boat 16 = .ok (.idiv, 1) := by decide +kernel
theorem dX11_boat_17 : decode cX11_boat 17 = .ok (.bipush 9, 2) := by decide +kernel
theorem dX11_boat_19 : decode cX11_boat 19 = .ok (.if_icmp .gt 14, 3) := by decide +kernel
theorem dX11_boat_22 : decode cX11_boat 22 = .ok (.iload_n 2, 1) := by decide +kernel
theorem dX11_boat_23 : decode cX11_boat 23 = .ok (.bipush 100, 2) := by decide +kernel
theorem dX11_boat_25 : decode cX11_boat 25 = .ok (.irem, 1) := by decide +kernel
theorem dX11_boat_26 : decode cX11_boat 26 = .ok (.iload_n 1, 1) := by decide +kernel
theorem dX11_boat_27 : decode cX11_boat 27 = .ok (.bipush 100, 2) := by decide +kernel
theorem dX11_boat_29 : decode cX11_boat 29 = .ok (.irem, 1) := by decide +kernel
theorem dX11_boat_30 : decode cX11_boat 30 = .ok (.if_icmp .le 5, 3) := by decide +kernel
theorem dX11_boat_33 : decode cX11_boat 33 = .ok (.iconst (-1), 1) := by decide +kernel
theorem dX11_boat_34 : decode cX11_boat 34 = .ok (.ireturn, 1) := by decide +kernel
theorem dX11_boat_35 : decode cX11_boat 35 = .ok (.aload_n 0, 1) := by decide +kernel
theorem dX11_boat_36 : decode cX11_boat 36 = .ok (.getfield 10, 3) := by decide +kernel
theorem dX11_boat_39 : decode cX11_boat 39 = .ok (.iload_n 1, 1) := by decide +kernel
theorem dX11_boat_40 : decode cX11_boat 40 = .ok (.bipush 100, 2) := by decide +kernel
theorem dX11_boat_42 : decode cX11_boat 42 = .ok (.idiv, 1) := by decide +kernel
theorem dX11_boat_43 : decode cX11_boat 43 = .ok (.iload_n 1, 1) := by decide +kernel
theorem dX11_boat_44 : decode cX11_boat 44 = .ok (.bipush 100, 2) := by decide +kernel
theorem dX11_boat_46 : decode cX11_boat 46 = .ok (.irem, 1) := by decide +kernel
theorem dX11_boat_47 : decode cX11_boat 47 = .ok (.iload_n 2, 1) := by decide +kernel
theorem dX11_boat_48 : decode cX11_boat 48 = .ok (.bipush 100, 2) := by decide +kernel
theorem dX11_boat_50 : decode cX11_boat 50 = .ok (.idiv, 1) := by decide +kernel
theorem dX11_boat_51 : decode cX11_boat 51 = .ok (.iload_n 2, 1) := by decide +kernel
theorem dX11_boat_52 : decode cX11_boat 52 = .ok (.bipush 100, 2) := by decide +kernel
theorem dX11_boat_54 : decode cX11_boat 54 = .ok (.irem, 1) := by decide +kernel
theorem dX11_boat_55 : decode cX11_boat 55 = .ok (.invokevirtual 264, 3) := by decide +kernel
theorem dX11_boat_58 : decode cX11_boat 58 = .ok (.ireturn, 1) := by decide +kernel
theorem dX11_escort_0 : decode cX11_escort 0 = .ok (.iload_n 1, 1) := by decide +kernel
theorem dX11_escort_1 : decode cX11_escort 1 = .ok (.ifCond .lt 26, 3) := by decide +kernel
theorem dX11_escort_4 : decode cX11_escort 4 = .ok (.aload_n 0, 1) := by decide +kernel
theorem dX11_escort_5 : decode cX11_escort 5 = .ok (.getfield 10, 3) := by decide +kernel
theorem dX11_escort_8 : decode cX11_escort 8 = .ok (.iload_n 1, 1) := by decide +kernel
theorem dX11_escort_9 : decode cX11_escort 9 = .ok (.bipush 10, 2) := by decide +kernel
theorem dX11_escort_11 : decode cX11_escort 11 = .ok (.idiv, 1) := by decide +kernel
theorem dX11_escort_12 : decode cX11_escort 12 = .ok (.invokevirtual 143, 3) := by decide +kernel
theorem dX11_escort_15 : decode cX11_escort 15 = .ok (.ifCond .eq 12, 3) := by decide +kernel
theorem dX11_escort_18 : decode cX11_escort 18 = .ok (.iload_n 2, 1) := by decide +kernel
theorem dX11_escort_19 : decode cX11_escort 19 = .ok (.ifCond .lt 8, 3) := by decide +kernel
theorem dX11_escort_22 : decode cX11_escort 22 = .ok (.iload_n 2, 1) := by decide +kernel
theorem dX11_escort_23 : decode cX11_escort 23 = .ok (.iconst 1, 1) := by decide +kernel
theorem dX11_escort_24 : decode cX11_escort 24 = .ok (.if_icmp .le 5, 3) := by decide +kernel
theorem dX11_escort_27 : decode cX11_escort 27 = .ok (.iconst (-1), 1) := by decide +kernel
theorem dX11_escort_28 : decode cX11_escort 28 = .ok (.ireturn, 1) := by decide +kernel
theorem dX11_escort_29 : decode cX11_escort 29 = .ok (.aload_n 0, 1) := by decide +kernel
theorem dX11_escort_30 : decode cX11_escort 30 = .ok (.getfield 10, 3) := by decide +kernel
theorem dX11_escort_33 : decode cX11_escort 33 = .ok (.iload_n 1, 1) := by decide +kernel
theorem dX11_escort_34 : decode cX11_escort 34 = .ok (.bipush 10, 2) := by decide +kernel
theorem dX11_escort_36 : decode cX11_escort 36 = .ok (.idiv, 1) := by decide +kernel
theorem dX11_escort_37 : decode cX11_escort 37 = .ok (.invokevirtual 205, 3) := by decide +kernel
theorem dX11_escort_40 : decode cX11_escort 40 = .ok (.istore_n 3, 1) := by decide +kernel
theorem dX11_escort_41 : decode cX11_escort 41 = .ok (.iload_n 1, 1) := by decide +kernel
theorem dX11_escort_42 : decode cX11_escort 42 = .ok (.bipush 10, 2) := by decide +kernel
theorem dX11_escort_44 : decode cX11_escort 44 = .ok (.irem, 1) := by decide +kernel
theorem dX11_escort_45 : decode cX11_escort 45 = .ok (.iload_n 3, 1) := by decide +kernel
theorem dX11_escort_46 : decode cX11_escort 46 = .ok (.irem, 1) := by decide +kernel
theorem dX11_escort_47 : decode cX11_escort 47 = .ok (.ifCond .eq 6, 3) := by decide +kernel
theorem dX11_escort_50 : decode cX11_escort 50 = .ok (.bipush (-2), 2) := by decide +kernel
theorem dX11_escort_52 : decode cX11_escort 52 = .ok (.ireturn, 1) := by decide +kernel
theorem dX11_escort_53 : decode cX11_escort 53 = .ok (.iload_n 2, 1) := by decide +kernel
theorem dX11_escort_54 : decode cX11_escort 54 = .ok (.ifCond .ne 7, 3) := by decide +kernel
theorem dX11_escort_57 : decode cX11_escort 57 = .ok (.iconst 0, 1) := by decide +kernel
theorem dX11_escort_58 : decode cX11_escort 58 = .ok (.goto 9, 3) := by decide +kernel
theorem dX11_escort_61 : decode cX11_escort 61 = .ok (.iload_n 1, 1) := by decide +kernel
theorem dX11_escort_62 : decode cX11_escort 62 = .ok (.bipush 10, 2) := by decide +kernel
theorem dX11_escort_64 : decode cX11_escort 64 = .ok (.irem, 1) := by decide +kernel
theorem dX11_escort_65 : decode cX11_escort 65 = .ok (.iload_n 3, 1) := by decide +kernel
theorem dX11_escort_66 : decode cX11_escort 66 = .ok (.idiv, 1) := by decide +kernel
theorem dX11_escort_67 : decode cX11_escort 67 = .ok (.ireturn, 1) := by decide +kernel
theorem dX11_soon_0 : decode cX11_soon 0 = .ok (.iload_n 1, 1) := by decide +kernel
theorem dX11_soon_1 : decode cX11_soon 1 = .ok (.ifCond .lt 9, 3) := by decide +kernel
theorem dX11_soon_4 : decode cX11_soon 4 = .ok (.iload_n 1, 1) := by decide +kernel
theorem dX11_soon_5 : decode cX11_soon 5 = .ok (.bipush 60, 2) := by decide +kernel
theorem dX11_soon_7 : decode cX11_soon 7 = .ok (.if_icmp .le 5, 3) := by decide +kernel
theorem dX11_soon_10 : decode cX11_soon 10 = .ok (.iconst (-1), 1) := by decide +kernel
theorem dX11_soon_11 : decode cX11_soon 11 = .ok (.ireturn, 1) := by decide +kernel
theorem dX11_soon_12 : decode cX11_soon 12 = .ok (.aload_n 0, 1) := by decide +kernel
theorem dX11_soon_13 : decode cX11_soon 13 = .ok (.getfield 10, 3) := by decide +kernel
theorem dX11_soon_16 : decode cX11_soon 16 = .ok (.iload_n 1, 1) := by decide +kernel
theorem dX11_soon_17 : decode cX11_soon 17 = .ok (.invokevirtual 268, 3) := by decide +kernel
theorem dX11_soon_20 : decode cX11_soon 20 = .ok (.ireturn, 1) := by decide +kernel
theorem dX11_waits_0 : decode cX11_waits 0 = .ok (.iload_n 1, 1) := by decide +kernel
theorem dX11_waits_1 : decode cX11_waits 1 = .ok (.ifCond .lt 27, 3) := by decide +kernel
theorem dX11_waits_4 : decode cX11_waits 4 = .ok (.aload_n 0, 1) := by decide +kernel
theorem dX11_waits_5 : decode cX11_waits 5 = .ok (.getfield 10, 3) := by decide +kernel
theorem dX11_waits_8 : decode cX11_waits 8 = .ok (.iload_n 1, 1) := by decide +kernel
theorem dX11_waits_9 : decode cX11_waits 9 = .ok (.bipush 100, 2) := by decide +kernel
theorem dX11_waits_11 : decode cX11_waits 11 = .ok (.idiv, 1) := by decide +kernel
theorem dX11_waits_12 : decode cX11_waits 12 = .ok (.invokevirtual 143, 3) := by decide +kernel
theorem dX11_waits_15 : decode cX11_waits 15 = .ok (.ifCond .eq 13, 3) := by decide +kernel
theorem dX11_waits_18 : decode cX11_waits 18 = .ok (.iload_n 1, 1) := by decide +kernel
theorem dX11_waits_19 : decode cX11_waits 19 = .ok (.bipush 100, 2) := by decide +kernel
theorem dX11_waits_21 : decode cX11_waits 21 = .ok (.irem, 1) := by decide +kernel
theorem dX11_waits_22 : decode cX11_waits 22 = .ok (.invokestatic 187, 3) := by decide +kernel
theorem dX11_waits_25 : decode cX11_waits 25 = .ok (.ifCond .ne 7, 3) := by decide +kernel
theorem dX11_waits_28 : decode cX11_waits 28 = .ok (.ldc2_w 273, 3) := by decide +kernel
theorem dX11_waits_31 : decode cX11_waits 31 = .ok (.lreturn, 1) := by decide +kernel
theorem dX11_waits_32 : decode cX11_waits 32 = .ok (.iload_n 2, 1) := by decide +kernel
theorem dX11_waits_33 : decode cX11_waits 33 = .ok (.ifCond .lt 18, 3) := by decide +kernel
theorem dX11_waits_36 : decode cX11_waits 36 = .ok (.iload_n 2, 1) := by decide +kernel
theorem dX11_waits_37 : decode cX11_waits 37 = .ok (.bipush 8, 2) := by decide +kernel
theorem dX11_waits_39 : decode cX11_waits 39 = .ok (.if_icmp .gt 12, 3) := by decide +kernel
theorem dX11_waits_42 : decode cX11_waits 42 = .ok (.iload_n 3, 1) := by decide +kernel
theorem dX11_waits_43 : decode cX11_waits 43 = .ok (.ifCond .lt 8, 3) := by decide +kernel
theorem dX11_waits_46 : decode cX11_waits 46 = .ok (.iload_n 3, 1) := by decide +kernel
theorem dX11_waits_47 : decode cX11_waits 47 = .ok (.iconst 1, 1) := by decide +kernel
theorem dX11_waits_48 : decode cX11_waits 48 = .ok (.if_icmp .le 7, 3) := by decide +kernel
theorem dX11_waits_51 : decode cX11_waits 51 = .ok (.ldc2_w 273, 3) := by decide +kernel
theorem dX11_waits_54 : decode cX11_waits 54 = .ok (.lreturn, 1) := by decide +kernel
theorem dX11_waits_55 : decode cX11_waits 55 = .ok (.lconst 1, 1) := by decide +kernel
theorem dX11_waits_56 : decode cX11_waits 56 = .ok (.lstore 4, 2) := by decide +kernel
theorem dX11_waits_58 : decode cX11_waits 58 = .ok (.iconst 1, 1) := by decide +kernel
theorem dX11_waits_59 : decode cX11_waits 59 = .ok (.istore 6, 2) := by decide +kernel
theorem dX11_waits_61 : decode cX11_waits 61 = .ok (.iload 6, 2) := by decide +kernel
theorem dX11_waits_63 : decode cX11_waits 63 = .ok (.iload_n 2, 1) := by decide +kernel
theorem dX11_waits_64 : decode cX11_waits 64 = .ok (.if_icmp .ge 17, 3) := by decide +kernel
theorem dX11_waits_67 : decode cX11_waits 67 = .ok (.lload 4, 2) := by decide +kernel
theorem dX11_waits_69 : decode cX11_waits 69 = .ok (.ldc2_w 275, 3) := by decide +kernel
theorem dX11_waits_72 : decode cX11_waits 72 = .ok (.lmul, 1) := by decide +kernel
theorem dX11_waits_73 : decode cX11_waits 73 = .ok (.lstore 4, 2) := by decide +kernel
theorem dX11_waits_75 : decode cX11_waits 75 = .ok (.iinc 6 1, 3) := by decide +kernel
theorem dX11_waits_78 : decode cX11_waits 78 = .ok (.goto (-17), 3) := by decide +kernel
theorem dX11_waits_81 : decode cX11_waits 81 = .ok (.aload_n 0, 1) := by decide +kernel
theorem dX11_waits_82 : decode cX11_waits 82 = .ok (.iload_n 1, 1) := by decide +kernel
theorem dX11_waits_83 : decode cX11_waits 83 = .ok (.bipush 100, 2) := by decide +kernel
theorem dX11_waits_85 : decode cX11_waits 85 = .ok (.idiv, 1) := by decide +kernel
theorem dX11_waits_86 : decode cX11_waits 86 = .ok (.iload_n 1, 1) := by decide +kernel
theorem dX11_waits_87 : decode cX11_waits 87 = .ok (.bipush 100, 2) := by decide +kernel
theorem dX11_waits_89 : decode cX11_waits 89 = .ok (.irem, 1) := by decide +kernel
theorem dX11_waits_90 : decode cX11_waits 90 = .ok (.iload_n 2, 1) := by decide +kernel
theorem dX11_waits_91 : decode cX11_waits 91 = .ok (.invokevirtual 277, 3) := by decide +kernel
theorem dX11_waits_94 : decode cX11_waits 94 = .ok (.lstore 6, 2) := by decide +kernel
theorem dX11_waits_96 : decode cX11_waits 96 = .ok (.lload 6, 2) := by decide +kernel
theorem dX11_waits_98 : decode cX11_waits 98 = .ok (.lload 4, 2) := by decide +kernel
theorem dX11_waits_100 : decode cX11_waits 100 = .ok (.invokestatic 281, 3) := by decide +kernel
theorem dX11_waits_103 : decode cX11_waits 103 = .ok (.lstore 8, 2) := by decide +kernel
theorem dX11_waits_105 : decode cX11_waits 105 = .ok (.iload_n 3, 1) := by decide +kernel
theorem dX11_waits_106 : decode cX11_waits 106 = .ok (.ifCond .ne 8, 3) := by decide +kernel
theorem dX11_waits_109 : decode cX11_waits 109 = .ok (.lload 6, 2) := by decide +kernel
theorem dX11_waits_111 : decode cX11_waits 111 = .ok (.goto 5, 3) := by decide +kernel
theorem dX11_waits_114 : decode cX11_waits 114 = .ok (.lload 4, 2) := by decide +kernel
theorem dX11_waits_116 : decode cX11_waits 116 = .ok (.lload 8, 2) := by decide +kernel
theorem dX11_waits_118 : decode cX11_waits 118 = .ok (.ldiv, 1) := by decide +kernel
theorem dX11_waits_119 : decode cX11_waits 119 = .ok (.lreturn, 1) := by decide +kernel
theorem dX11_summedWaits_0 : decode cX11_summedWaits 0 = .ok (.iconst 0, 1) := by decide +kernel
theorem dX11_summedWaits_1 : decode cX11_summedWaits 1 = .ok (.istore 4, 2) := by decide +kernel
theorem dX11_summedWaits_3 : decode cX11_summedWaits 3 = .ok (.iload 4, 2) := by decide +kernel
theorem dX11_summedWaits_5 : decode cX11_summedWaits 5 = .ok (.bipush 6, 2) := by decide +kernel
theorem dX11_summedWaits_7 : decode cX11_summedWaits 7 = .ok (.if_icmp .ge 26, 3) := by decide +kernel
theorem dX11_summedWaits_10 : decode cX11_summedWaits 10 = .ok (.aload_n 0, 1) := by decide +kernel
theorem dX11_summedWaits_11 : decode cX11_summedWaits 11 = .ok (.getfield 69, 3) := by decide +kernel
theorem dX11_summedWaits_14 : decode cX11_summedWaits 14 = .ok (.iload 4, 2) := by decide +kernel
theorem dX11_summedWaits_16 : decode cX11_summedWaits 16 = .ok (.iload 4, 2) := by decide +kernel
theorem dX11_summedWaits_18 : decode cX11_summedWaits 18 = .ok (.ifCond .ne 7, 3) := by decide +kernel
theorem dX11_summedWaits_21 : decode cX11_summedWaits 21 = .ok (.lconst 1, 1) := by decide +kernel
theorem dX11_summedWaits_22 : decode cX11_summedWaits 22 = .ok (.goto 4, 3) := by decide +kernel
theorem dX11_summedWaits_25 : decode cX11_summedWaits 25 = .ok (.lconst 0, 1) := by decide +kernel
theorem dX11_summedWaits_26 : decode cX11_summedWaits 26 = .ok (.lastore, 1) := by decide +kernel
theorem dX11_summedWaits_27 : decode cX11_summedWaits 27 = .ok (.iinc 4 1, 3) := by decide +kernel
theorem dX11_summedWaits_30 : decode cX11_summedWaits 30 = .ok (.goto (-27), 3) := by decide +kernel
theorem dX11_summedWaits_33 : decode cX11_summedWaits 33 = .ok (.aload_n 0, 1) := by decide +kernel
theorem dX11_summedWaits_34 : decode cX11_summedWaits 34 = .ok (.getfield 10, 3) := by decide +kernel
theorem dX11_summedWaits_37 : decode cX11_summedWaits 37 = .ok (.iload_n 1, 1) := by decide +kernel
theorem dX11_summedWaits_38 : decode cX11_summedWaits 38 = .ok (.invokevirtual 205, 3) := by decide +kernel
theorem dX11_summedWaits_41 : decode cX11_summedWaits 41 = .ok (.istore 4, 2) := by decide +kernel
theorem dX11_summedWaits_43 : decode cX11_summedWaits 43 = .ok (.lconst 0, 1) := by decide +kernel
theorem dX11_summedWaits_44 : decode cX11_summedWaits 44 = .ok (.lstore 5, 2) := by decide +kernel
theorem dX11_summedWaits_46 : decode cX11_summedWaits 46 = .ok (.iconst 0, 1) := by decide +kernel
theorem dX11_summedWaits_47 : decode cX11_summedWaits 47 = .ok (.istore 7, 2) := by decide +kernel
theorem dX11_summedWaits_49 : decode cX11_summedWaits 49 = .ok (.iload 7, 2) := by decide +kernel
theorem dX11_summedWaits_51 : decode cX11_summedWaits 51 = .ok (.iload_n 3, 1) := by decide +kernel
theorem dX11_summedWaits_52 : decode cX11_summedWaits 52 = .ok (.if_icmp .ge 56, 3) := by decide +kernel
theorem dX11_summedWaits_55 : decode cX11_summedWaits 55 = .ok (.lload 5, 2) := by decide +kernel
theorem dX11_summedWaits_57 : decode cX11_summedWaits 57 = .ok (.ldc2_w 275, 3) := by decide +kernel
theorem dX11_summedWaits_60 : decode cX11_summedWaits 60 = .ok (.lmul, 1) := by decide +kernel
theorem dX11_summedWaits_61 : decode cX11_summedWaits 61 = .ok (.lstore 5, 2) := by decide +kernel
theorem dX11_summedWaits_63 : decode cX11_summedWaits 63 = .ok (.iconst 0, 1) := by decide +kernel
theorem dX11_summedWaits_64 : decode cX11_summedWaits 64 = .ok (.istore 8, 2) := by decide +kernel
theorem dX11_summedWaits_66 : decode cX11_summedWaits 66 = .ok (.iload 8, 2) := by decide +kernel
theorem dX11_summedWaits_68 : decode cX11_summedWaits 68 = .ok (.iload 4, 2) := by decide +kernel
theorem dX11_summedWaits_70 : decode cX11_summedWaits 70 = .ok (.if_icmp .ge 21, 3) := by decide +kernel
theorem dX11_summedWaits_73 : decode cX11_summedWaits 73 = .ok (.lload 5, 2) := by decide +kernel
theorem dX11_summedWaits_75 : decode cX11_summedWaits 75 = .ok (.aload_n 0, 1) := by decide +kernel
theorem dX11_summedWaits_76 : decode cX11_summedWaits 76 = .ok (.getfield 69, 3) := by decide +kernel
theorem dX11_summedWaits_79 : decode cX11_summedWaits 79 = .ok (.iload 8, 2) := by decide +kernel
theorem dX11_summedWaits_81 : decode cX11_summedWaits 81 = .ok (.laload, 1) := by decide +kernel
theorem dX11_summedWaits_82 : decode cX11_summedWaits 82 = .ok (.ladd, 1) := by decide +kernel
theorem dX11_summedWaits_83 : decode cX11_summedWaits 83 = .ok (.lstore 5, 2) := by decide +kernel
theorem dX11_summedWaits_85 : decode cX11_summedWaits 85 = .ok (.iinc 8 1, 3) := by decide +kernel
theorem dX11_summedWaits_88 : decode cX11_summedWaits 88 = .ok (.goto (-22), 3) := by decide +kernel
theorem dX11_summedWaits_91 : decode cX11_summedWaits 91 = .ok (.aload_n 0, 1) := by decide +kernel
theorem dX11_summedWaits_92 : decode cX11_summedWaits 92 = .ok (.iload_n 1, 1) := by decide +kernel
theorem dX11_summedWaits_93 : decode cX11_summedWaits 93 = .ok (.iload_n 2, 1) := by decide +kernel
theorem dX11_summedWaits_94 : decode cX11_summedWaits 94 = .ok (.iload 7, 2) := by decide +kernel
theorem dX11_summedWaits_96 : decode cX11_summedWaits 96 = .ok (.iadd, 1) := by decide +kernel
theorem dX11_summedWaits_97 : decode cX11_summedWaits 97 = .ok (.iload 4, 2) := by decide +kernel
theorem dX11_summedWaits_99 : decode cX11_summedWaits 99 = .ok (.invokevirtual 285, 3) := by decide +kernel
theorem dX11_summedWaits_102 : decode cX11_summedWaits 102 = .ok (.iinc 7 1, 3) := by decide +kernel
theorem dX11_summedWaits_105 : decode cX11_summedWaits 105 = .ok (.goto (-56), 3) := by decide +kernel
theorem dX11_summedWaits_108 : decode cX11_summedWaits 108 = .ok (.lload 5, 2) := by decide +kernel
theorem dX11_summedWaits_110 : decode cX11_summedWaits 110 = .ok (.lreturn, 1) := by decide +kernel
theorem dX11_oneMoreLook_0 : decode cX11_oneMoreLook 0 = .ok (.iload_n 3, 1) := by decide +kernel
theorem dX11_oneMoreLook_1 : decode cX11_oneMoreLook 1 = .ok (.iconst 1, 1) := by decide +kernel
theorem dX11_oneMoreLook_2 : decode cX11_oneMoreLook 2 = .ok (.isub, 1) := by decide +kernel
theorem dX11_oneMoreLook_3 : decode cX11_oneMoreLook 3 = .ok (.istore 4, 2) := by decide +kernel
theorem dX11_oneMoreLook_5 : decode cX11_oneMoreLook 5 = .ok (.iload 4, 2) := by decide +kernel
theorem dX11_oneMoreLook_7 : decode cX11_oneMoreLook 7 = .ok (.ifCond .lt 85, 3) := by decide +kernel
theorem dX11_oneMoreLook_10 : decode cX11_oneMoreLook 10 = .ok (.aload_n 0, 1) := by decide +kernel
theorem dX11_oneMoreLook_11 : decode cX11_oneMoreLook 11 = .ok (.getfield 69, 3) := by decide +kernel
theorem dX11_oneMoreLook_14 : decode cX11_oneMoreLook 14 = .ok (.iload 4, 2) := by decide +kernel
theorem dX11_oneMoreLook_16 : decode cX11_oneMoreLook 16 = .ok (.laload, 1) := by decide +kernel
theorem dX11_oneMoreLook_17 : decode cX11_oneMoreLook 17 = .ok (.lconst 0, 1) := by decide +kernel
theorem dX11_oneMoreLook_18 : decode cX11_oneMoreLook 18 = .ok (.lcmp, 1) := by decide +kernel
theorem dX11_oneMoreLook_19 : decode cX11_oneMoreLook 19 = .ok (.ifCond .ne 7, 3) := by decide +kernel
theorem dX11_oneMoreLook_22 : decode cX11_oneMoreLook 22 = .ok (.iconst 0, 1) := by decide +kernel
theorem dX11_oneMoreLook_23 : decode cX11_oneMoreLook 23 = .ok (.goto 14, 3) := by decide +kernel
theorem dX11_oneMoreLook_26 : decode cX11_oneMoreLook 26 = .ok (.aload_n 0, 1) := by decide +kernel
theorem dX11_oneMoreLook_27 : decode cX11_oneMoreLook 27 = .ok (.getfield 32, 3) := by decide +kernel
theorem dX11_oneMoreLook_30 : decode cX11_oneMoreLook 30 = .ok (.iload_n 1, 1) := by decide +kernel
theorem dX11_oneMoreLook_31 : decode cX11_oneMoreLook 31 = .ok (.iload 4, 2) := by decide +kernel
theorem dX11_oneMoreLook_33 : decode cX11_oneMoreLook 33 = .ok (.iload_n 2, 1) := by decide +kernel
theorem dX11_oneMoreLook_34 : decode cX11_oneMoreLook 34 = .ok (.invokevirtual 194, 3) := by decide +kernel
theorem dX11_oneMoreLook_37 : decode cX11_oneMoreLook 37 = .ok (.istore 5, 2) := by decide +kernel
theorem dX11_oneMoreLook_39 : decode cX11_oneMoreLook 39 = .ok (.iload 4, 2) := by decide +kernel
theorem dX11_oneMoreLook_41 : decode cX11_oneMoreLook 41 = .ok (.iconst 1, 1) := by decide +kernel
theorem dX11_oneMoreLook_42 : decode cX11_oneMoreLook 42 = .ok (.iadd, 1) := by decide +kernel
theorem dX11_oneMoreLook_43 : decode cX11_oneMoreLook 43 = .ok (.iload_n 3, 1) := by decide +kernel
theorem dX11_oneMoreLook_44 : decode cX11_oneMoreLook 44 = .ok (.if_icmp .ge 26, 3) := by decide +kernel
theorem dX11_oneMoreLook_47 : decode cX11_oneMoreLook 47 = .ok (.aload_n 0, 1) := by decide +kernel
theorem dX11_oneMoreLook_48 : decode cX11_oneMoreLook 48 = .ok (.getfield 69, 3) := by decide +kernel
theorem dX11_oneMoreLook_51 : decode cX11_oneMoreLook 51 = .ok (.iload 4, 2) := by decide +kernel
theorem dX11_oneMoreLook_53 : decode cX11_oneMoreLook 53 = .ok (.iconst 1, 1) := by decide +kernel
theorem dX11_oneMoreLook_54 : decode cX11_oneMoreLook 54 = .ok (.iadd, 1) := by decide +kernel
theorem dX11_oneMoreLook_55 : decode cX11_oneMoreLook 55 = .ok (.dup2, 1) := by decide +kernel
theorem dX11_oneMoreLook_56 : decode cX11_oneMoreLook 56 = .ok (.laload, 1) := by decide +kernel
theorem dX11_oneMoreLook_57 : decode cX11_oneMoreLook 57 = .ok (.aload_n 0, 1) := by decide +kernel
theorem dX11_oneMoreLook_58 : decode cX11_oneMoreLook 58 = .ok (.getfield 69, 3) := by decide +kernel
theorem dX11_oneMoreLook_61 : decode cX11_oneMoreLook 61 = .ok (.iload 4, 2) := by decide +kernel
theorem dX11_oneMoreLook_63 : decode cX11_oneMoreLook 63 = .ok (.laload, 1) := by decide +kernel
theorem dX11_oneMoreLook_64 : decode cX11_oneMoreLook 64 = .ok (.iload 5, 2) := by decide +kernel
theorem dX11_oneMoreLook_66 : decode cX11_oneMoreLook 66 = .ok (.i2l, 1) := by decide +kernel
theorem dX11_oneMoreLook_67 : decode cX11_oneMoreLook 67 = .ok (.lmul, 1) := by decide +kernel
theorem dX11_oneMoreLook_68 : decode cX11_oneMoreLook 68 = .ok (.ladd, 1) := by decide +kernel
theorem dX11_oneMoreLook_69 : decode cX11_oneMoreLook 69 = .ok (.lastore, 1) := by decide +kernel
theorem dX11_oneMoreLook_70 : decode cX11_oneMoreLook 70 = .ok (.aload_n 0, 1) := by decide +kernel
theorem dX11_oneMoreLook_71 : decode cX11_oneMoreLook 71 = .ok (.getfield 69, 3) := by decide +kernel
theorem dX11_oneMoreLook_74 : decode cX11_oneMoreLook 74 = .ok (.iload 4, 2) := by decide +kernel
theorem dX11_oneMoreLook_76 : decode cX11_oneMoreLook 76 = .ok (.dup2, 1) := by decide +kernel
theorem dX11_oneMoreLook_77 : decode cX11_oneMoreLook 77 = .ok (.laload, 1) := by decide +kernel
theorem dX11_oneMoreLook_78 : decode cX11_oneMoreLook 78 = .ok (.bipush 12, 2) := by decide +kernel
theorem dX11_oneMoreLook_80 : decode cX11_oneMoreLook 80 = .ok (.iload 5, 2) := by decide +kernel
theorem dX11_oneMoreLook_82 : decode cX11_oneMoreLook 82 = .ok (.isub, 1) := by decide +kernel
theorem dX11_oneMoreLook_83 : decode cX11_oneMoreLook 83 = .ok (.i2l, 1) := by decide +kernel
theorem dX11_oneMoreLook_84 : decode cX11_oneMoreLook 84 = .ok (.lmul, 1) := by decide +kernel
theorem dX11_oneMoreLook_85 : decode cX11_oneMoreLook 85 = .ok (.lastore, 1) := by decide +kernel
theorem dX11_oneMoreLook_86 : decode cX11_oneMoreLook 86 = .ok (.iinc 4 (-1), 3) := by decide +kernel
theorem dX11_oneMoreLook_89 : decode cX11_oneMoreLook 89 = .ok (.goto (-84), 3) := by decide +kernel
theorem dX11_oneMoreLook_92 : decode cX11_oneMoreLook 92 = .ok (.return_, 1) := by decide +kernel
theorem dX11_commonDivisor_0 : decode cX11_commonDivisor 0 = .ok (.lload_n 0, 1) := by decide +kernel
theorem dX11_commonDivisor_1 : decode cX11_commonDivisor 1 = .ok (.lstore 4, 2) := by decide +kernel
theorem dX11_commonDivisor_3 : decode cX11_commonDivisor 3 = .ok (.lload_n 2, 1) := by decide +kernel
theorem dX11_commonDivisor_4 : decode cX11_commonDivisor 4 = .ok (.lstore 6, 2) := by decide +kernel
theorem dX11_commonDivisor_6 : decode cX11_commonDivisor 6 = .ok (.iconst 0, 1) := by decide +kernel
theorem dX11_commonDivisor_7 : decode cX11_commonDivisor 7 = .ok (.istore 8, 2) := by decide +kernel
theorem dX11_commonDivisor_9 : decode cX11_commonDivisor 9 = .ok (.iload 8, 2) := by decide +kernel
theorem dX11_commonDivisor_11 : decode cX11_commonDivisor 11 = .ok (.sipush 200, 3) := by decide +kernel
theorem dX11_commonDivisor_14 : decode cX11_commonDivisor 14 = .ok (.if_icmp .ge 31, 3) := by decide +kernel
theorem dX11_commonDivisor_17 : decode cX11_commonDivisor 17 = .ok (.lload 6, 2) := by decide +kernel
theorem dX11_commonDivisor_19 : decode cX11_commonDivisor 19 = .ok (.lconst 0, 1) := by decide +kernel
theorem dX11_commonDivisor_20 : decode cX11_commonDivisor 20 = .ok (.lcmp, 1) := by decide +kernel
theorem dX11_commonDivisor_21 : decode cX11_commonDivisor 21 = .ok (.ifCond .eq 24, 3) := by decide +kernel
theorem dX11_commonDivisor_24 : decode cX11_commonDivisor 24 = .ok (.lload 4, 2) := by decide +kernel
theorem dX11_commonDivisor_26 : decode cX11_commonDivisor 26 = .ok (.lload 6, 2) := by decide +kernel
theorem dX11_commonDivisor_28 : decode cX11_commonDivisor 28 = .ok (.lrem, 1) := by decide +kernel
theorem dX11_commonDivisor_29 : decode cX11_commonDivisor 29 = .ok (.lstore 9, 2) := by decide +kernel
theorem dX11_commonDivisor_31 : decode cX11_commonDivisor 31 = .ok (.lload 6, 2) := by decide +kernel
theorem dX11_commonDivisor_33 : decode cX11_commonDivisor 33 = .ok (.lstore 4, 2) := by decide +kernel
theorem dX11_commonDivisor_35 : decode cX11_commonDivisor 35 = .ok (.lload 9, 2) := by decide +kernel
theorem dX11_commonDivisor_37 : decode cX11_commonDivisor 37 = .ok (.lstore 6, 2) := by decide +kernel
theorem dX11_commonDivisor_39 : decode cX11_commonDivisor 39 = .ok (.iinc 8 1, 3) := by decide +kernel
theorem dX11_commonDivisor_42 : decode cX11_commonDivisor 42 = .ok (.goto (-33), 3) := by decide +kernel
theorem dX11_commonDivisor_45 : decode cX11_commonDivisor 45 = .ok (.lload 4, 2) := by decide +kernel
theorem dX11_commonDivisor_47 : decode cX11_commonDivisor 47 = .ok (.lconst 0, 1) := by decide +kernel
theorem dX11_commonDivisor_48 : decode cX11_commonDivisor 48 = .ok (.lcmp, 1) := by decide +kernel
theorem dX11_commonDivisor_49 : decode cX11_commonDivisor 49 = .ok (.ifCond .le 8, 3) := by decide +kernel
theorem dX11_commonDivisor_52 : decode cX11_commonDivisor 52 = .ok (.lload 4, 2) := by decide +kernel
theorem dX11_commonDivisor_54 : decode cX11_commonDivisor 54 = .ok (.goto 4, 3) := by decide +kernel
theorem dX11_commonDivisor_57 : decode cX11_commonDivisor 57 = .ok (.lconst 1, 1) := by decide +kernel
theorem dX11_commonDivisor_58 : decode cX11_commonDivisor 58 = .ok (.lreturn, 1) := by decide +kernel
theorem dX11_drawn_0 : decode cX11_drawn 0 = .ok (.iload_n 2, 1) := by decide +kernel
theorem dX11_drawn_1 : decode cX11_drawn 1 = .ok (.iconst 1, 1) := by decide +kernel
theorem dX11_drawn_2 : decode cX11_drawn 2 = .ok (.if_icmp .lt 20, 3) := by decide +kernel
theorem dX11_drawn_5 : decode cX11_drawn 5 = .ok (.iload_n 2, 1) := by decide +kernel
theorem dX11_drawn_6 : decode cX11_drawn 6 = .ok (.bipush 30, 2) := by decide +kernel
theorem dX11_drawn_8 : decode cX11_drawn 8 = .ok (.if_icmp .gt 14, 3) := by decide +kernel
theorem dX11_drawn_11 : decode cX11_drawn 11 = .ok (.aload_n 0, 1) := by decide +kernel
theorem dX11_drawn_12 : decode cX11_drawn 12 = .ok (.getfield 10, 3) := by decide +kernel
theorem dX11_drawn_15 : decode cX11_drawn 15 = .ok (.iload_n 3, 1) := by decide +kernel
theorem dX11_drawn_16 : decode cX11_drawn 16 = .ok (.invokevirtual 143, 3) := by decide +kernel
theorem dX11_drawn_19 : decode cX11_drawn 19 = .ok (.ifCond .ne 5, 3) := by decide +kernel
theorem dX11_drawn_22 : decode cX11_drawn 22 = .ok (.iconst (-1), 1) := by decide +kernel
theorem dX11_drawn_23 : decode cX11_drawn 23 = .ok (.ireturn, 1) := by decide +kernel
theorem dX11_drawn_24 : decode cX11_drawn 24 = .ok (.aload_n 0, 1) := by decide +kernel
theorem dX11_drawn_25 : decode cX11_drawn 25 = .ok (.getfield 10, 3) := by decide +kernel
theorem dX11_drawn_28 : decode cX11_drawn 28 = .ok (.iload_n 3, 1) := by decide +kernel
theorem dX11_drawn_29 : decode cX11_drawn 29 = .ok (.invokevirtual 205, 3) := by decide +kernel
theorem dX11_drawn_32 : decode cX11_drawn 32 = .ok (.istore 4, 2) := by decide +kernel
theorem dX11_drawn_34 : decode cX11_drawn 34 = .ok (.iload_n 1, 1) := by decide +kernel
theorem dX11_drawn_35 : decode cX11_drawn 35 = .ok (.istore 5, 2) := by decide +kernel
theorem dX11_drawn_37 : decode cX11_drawn 37 = .ok (.iconst 0, 1) := by decide +kernel
theorem dX11_drawn_38 : decode cX11_drawn 38 = .ok (.istore 6, 2) := by decide +kernel
theorem dX11_drawn_40 : decode cX11_drawn 40 = .ok (.iconst 0, 1) := by decide +kernel
theorem dX11_drawn_41 : decode cX11_drawn 41 = .ok (.istore 7, 2) := by decide +kernel
theorem dX11_drawn_43 : decode cX11_drawn 43 = .ok (.iload 7, 2) := by decide +kernel
theorem dX11_drawn_45 : decode cX11_drawn 45 = .ok (.iload_n 2, 1) := by decide +kernel
theorem dX11_drawn_46 : decode cX11_drawn 46 = .ok (.if_icmp .ge 83, 3) := by decide +kernel
theorem dX11_drawn_49 : decode cX11_drawn 49 = .ok (.iconst 0, 1) := by decide +kernel
theorem dX11_drawn_50 : decode cX11_drawn 50 = .ok (.istore 8, 2) := by decide +kernel
theorem dX11_drawn_52 : decode cX11_drawn 52 = .ok (.iconst 0, 1) := by decide +kernel
theorem dX11_drawn_53 : decode cX11_drawn 53 = .ok (.istore 9, 2) := by decide +kernel
theorem dX11_drawn_55 : decode cX11_drawn 55 = .ok (.iload 9, 2) := by decide +kernel
theorem dX11_drawn_57 : decode cX11_drawn 57 = .ok (.bipush 60, 2) := by decide +kernel
theorem dX11_drawn_59 : decode cX11_drawn 59 = .ok (.if_icmp .ge 64, 3) := by decide +kernel
theorem dX11_drawn_62 : decode cX11_drawn 62 = .ok (.iload 5, 2) := by decide +kernel
theorem dX11_drawn_64 : decode cX11_drawn 64 = .ok (.ldc_w 289, 3) := by decide +kernel
theorem dX11_drawn_67 : decode cX11_drawn 67 = .ok (.imul, 1) := by decide +kernel
theorem dX11_drawn_68 : decode cX11_drawn 68 = .ok (.sipush 12345, 3) := by decide +kernel
theorem dX11_drawn_71 : decode cX11_drawn 71 = .ok (.iadd, 1) := by decide +kernel
theorem dX11_drawn_72 : decode cX11_drawn 72 = .ok (.istore 5, 2) := by decide +kernel
theorem dX11_drawn_74 : decode cX11_drawn 74 = .ok (.iload 5, 2) := by decide +kernel
theorem dX11_drawn_76 : decode cX11_drawn 76 = .ok (.bipush 8, 2) := by decide +kernel
theorem dX11_drawn_78 : decode cX11_drawn 78 = .ok (.iushr, 1) := by decide +kernel
theorem dX11_drawn_79 : decode cX11_drawn 79 = .ok (.bipush 12, 2) := by decide +kernel
theorem dX11_drawn_81 : decode cX11_drawn 81 = .ok (.irem, 1) := by decide +kernel
theorem dX11_drawn_82 : decode cX11_drawn 82 = .ok (.aload_n 0, 1) := by decide +kernel
theorem dX11_drawn_83 : decode cX11_drawn 83 = .ok (.getfield 32, 3) := by decide +kernel
theorem dX11_drawn_86 : decode cX11_drawn 86 = .ok (.iload_n 3, 1) := by decide +kernel
theorem dX11_drawn_87 : decode cX11_drawn 87 = .ok (.iload 8, 2) := by decide +kernel
theorem dX11_drawn_89 : decode cX11_drawn 89 = .ok (.iload 9, 2) := by decide +kernel
theorem dX11_drawn_91 : decode cX11_drawn 91 = .ok (.invokevirtual 194, 3) := by decide +kernel
theorem dX11_drawn_94 : decode cX11_drawn 94 = .ok (.if_icmp .ge 6, 3) := by decide +kernel
theorem dX11_drawn_97 : decode cX11_drawn 97 = .ok (.iinc 8 1, 3) := by decide +kernel
theorem dX11_drawn_100 : decode cX11_drawn 100 = .ok (.iload 8, 2) := by decide +kernel
theorem dX11_drawn_102 : decode cX11_drawn 102 = .ok (.iload 4, 2) := by decide +kernel
theorem dX11_drawn_104 : decode cX11_drawn 104 = .ok (.if_icmp .lt 13, 3) := by decide +kernel
theorem dX11_drawn_107 : decode cX11_drawn 107 = .ok (.iload 6, 2) := by decide +kernel
theorem dX11_drawn_109 : decode cX11_drawn 109 = .ok (.iload 4, 2) := by decide +kernel
theorem dX11_drawn_111 : decode cX11_drawn 111 = .ok (.iadd, 1) := by decide +kernel
theorem dX11_drawn_112 : decode cX11_drawn 112 = .ok (.istore 6, 2) := by decide +kernel
theorem dX11_drawn_114 : decode cX11_drawn 114 = .ok (.iconst 0, 1) := by decide +kernel
theorem dX11_drawn_115 : decode cX11_drawn 115 = .ok (.istore 8, 2) := by decide +kernel
theorem dX11_drawn_117 : decode cX11_drawn 117 = .ok (.iinc 9 1, 3) := by decide +kernel
theorem dX11_drawn_120 : decode cX11_drawn 120 = .ok (.goto (-65), 3) := by decide +kernel
theorem dX11_drawn_123 : decode cX11_drawn 123 = .ok (.iinc 7 1, 3) := by decide +kernel
theorem dX11_drawn_126 : decode cX11_drawn 126 = .ok (.goto (-83), 3) := by decide +kernel
theorem dX11_drawn_129 : decode cX11_drawn 129 = .ok (.iload 6, 2) := by decide +kernel
theorem dX11_drawn_131 : decode cX11_drawn 131 = .ok (.ireturn, 1) := by decide +kernel
theorem dX11_judge_0 : decode cX11_judge 0 = .ok (.aload_n 0, 1) := by decide +kernel
theorem dX11_judge_1 : decode cX11_judge 1 = .ok (.iload_n 1, 1) := by decide +kernel
theorem dX11_judge_2 : decode cX11_judge 2 = .ok (.iload_n 2, 1) := by decide +kernel
theorem dX11_judge_3 : decode cX11_judge 3 = .ok (.invokevirtual 290, 3) := by decide +kernel
theorem dX11_judge_6 : decode cX11_judge 6 = .ok (.istore_n 3, 1) := by decide +kernel
theorem dX11_judge_7 : decode cX11_judge 7 = .ok (.iload_n 3, 1) := by decide +kernel
theorem dX11_judge_8 : decode cX11_judge 8 = .ok (.ifCond .eq 5, 3) := by decide +kernel
theorem dX11_judge_11 : decode cX11_judge 11 = .ok (.iload_n 3, 1) := by decide +kernel
theorem dX11_judge_12 : decode cX11_judge 12 = .ok (.ireturn, 1) := by decide +kernel
theorem dX11_judge_13 : decode cX11_judge 13 = .ok (.aload_n 0, 1) := by decide +kernel
theorem dX11_judge_14 : decode cX11_judge 14 = .ok (.aload_n 0, 1) := by decide +kernel
theorem dX11_judge_15 : decode cX11_judge 15 = .ok (.getfield 82, 3) := by decide +kernel
theorem dX11_judge_18 : decode cX11_judge 18 = .ok (.iload_n 1, 1) := by decide +kernel
theorem dX11_judge_19 : decode cX11_judge 19 = .ok (.aaload, 1) := by decide +kernel
theorem dX11_judge_20 : decode cX11_judge 20 = .ok (.iload_n 2, 1) := by decide +kernel
theorem dX11_judge_21 : decode cX11_judge 21 = .ok (.iconst (-1), 1) := by decide +kernel
theorem dX11_judge_22 : decode cX11_judge 22 = .ok (.invokevirtual 293, 3) := by decide +kernel
theorem dX11_judge_25 : decode cX11_judge 25 = .ok (.istore 4, 2) := by decide +kernel
theorem dX11_judge_27 : decode cX11_judge 27 = .ok (.iload 4, 2) := by decide +kernel
theorem dX11_judge_29 : decode cX11_judge 29 = .ok (.ifCond .lt 8, 3) := by decide +kernel
theorem dX11_judge_32 : decode cX11_judge 32 = .ok (.bipush (-2), 2) := by decide +kernel
theorem dX11_judge_34 : decode cX11_judge 34 = .ok (.goto 7, 3) := by decide +kernel
theorem dX11_judge_37 : decode cX11_judge 37 = .ok (.iconst (-1), 1) := by decide +kernel
theorem dX11_judge_38 : decode cX11_judge 38 = .ok (.iload 4, 2) := by decide +kernel
theorem dX11_judge_40 : decode cX11_judge 40 = .ok (.isub, 1) := by decide +kernel
theorem dX11_judge_41 : decode cX11_judge 41 = .ok (.ireturn, 1) := by decide +kernel
theorem dX11_within_0 : decode cX11_within 0 = .ok (.aload_n 0, 1) := by decide +kernel
theorem dX11_within_1 : decode cX11_within 1 = .ok (.iload_n 1, 1) := by decide +kernel
theorem dX11_within_2 : decode cX11_within 2 = .ok (.iload_n 2, 1) := by decide +kernel
theorem dX11_within_3 : decode cX11_within 3 = .ok (.invokevirtual 290, 3) := by decide +kernel
theorem dX11_within_6 : decode cX11_within 6 = .ok (.istore_n 3, 1) := by decide +kernel
theorem dX11_within_7 : decode cX11_within 7 = .ok (.iload_n 3, 1) := by decide +kernel
theorem dX11_within_8 : decode cX11_within 8 = .ok (.ifCond .eq 5, 3) := by decide +kernel
theorem dX11_within_11 : decode cX11_within 11 = .ok (.iload_n 3, 1) := by decide +kernel
theorem dX11_within_12 : decode cX11_within 12 = .ok (.ireturn, 1) := by decide +kernel
theorem dX11_within_13 : decode cX11_within 13 = .ok (.aload_n 0, 1) := by decide +kernel
theorem dX11_within_14 : decode cX11_within 14 = .ok (.aload_n 0, 1) := by decide +kernel
theorem dX11_within_15 : decode cX11_within 15 = .ok (.getfield 82, 3) := by decide +kernel
theorem dX11_within_18 : decode cX11_within 18 = .ok (.iload_n 1, 1) := by decide +kernel
theorem dX11_within_19 : decode cX11_within 19 = .ok (.aaload, 1) := by decide +kernel
theorem dX11_within_20 : decode cX11_within 20 = .ok (.iload_n 2, 1) := by decide +kernel
theorem dX11_within_21 : decode cX11_within 21 = .ok (.iconst (-1), 1) := by decide +kernel
theorem dX11_within_22 : decode cX11_within 22 = .ok (.invokevirtual 293, 3) := by decide +kernel
theorem dX11_within_25 : decode cX11_within 25 = .ok (.istore 4, 2) := by decide +kernel
theorem dX11_within_27 : decode cX11_within 27 = .ok (.iload 4, 2) := by decide +kernel
theorem dX11_within_29 : decode cX11_within 29 = .ok (.ifCond .lt 8, 3) := by decide +kernel
theorem dX11_within_32 : decode cX11_within 32 = .ok (.iload 4, 2) := by decide +kernel
theorem dX11_within_34 : decode cX11_within 34 = .ok (.goto 5, 3) := by decide +kernel
theorem dX11_within_37 : decode cX11_within 37 = .ok (.bipush (-5), 2) := by decide +kernel
theorem dX11_within_39 : decode cX11_within 39 = .ok (.ireturn, 1) := by decide +kernel
theorem dX11_refusalOfBook_0 : decode cX11_refusalOfBook 0 = .ok (.iload_n 1, 1) := by decide +kernel
theorem dX11_refusalOfBook_1 : decode cX11_refusalOfBook 1 = .ok (.invokestatic 102, 3) := by decide +kernel
theorem dX11_refusalOfBook_4 : decode cX11_refusalOfBook 4 = .ok (.ifCond .eq 13, 3) := by decide +kernel
theorem dX11_refusalOfBook_7 : decode cX11_refusalOfBook 7 = .ok (.iload_n 2, 1) := by decide +kernel
theorem dX11_refusalOfBook_8 : decode cX11_refusalOfBook 8 = .ok (.ifCond .lt 9, 3) := by decide +kernel
theorem dX11_refusalOfBook_11 : decode cX11_refusalOfBook 11 = .ok (.iload_n 2, 1) := by decide +kernel
theorem dX11_refusalOfBook_12 : decode cX11_refusalOfBook 12 = .ok (.bipush 40, 2) := by decide +kernel
theorem dX11_refusalOfBook_14 : decode cX11_refusalOfBook 14 = .ok (.if_icmp .le 5, 3) := by decide +kernel
theorem dX11_refusalOfBook_17 : decode cX11_refusalOfBook 17 = .ok (.iconst (-1), 1) := by decide +kernel
theorem dX11_refusalOfBook_18 : decode cX11_refusalOfBook 18 = .ok (.ireturn, 1) := by decide +kernel
theorem dX11_refusalOfBook_19 : decode cX11_refusalOfBook 19 = .ok (.aload_n 0, 1) := by decide +kernel
theorem dX11_refusalOfBook_20 : decode cX11_refusalOfBook 20 = .ok (.getfield 82, 3) := by decide +kernel
theorem dX11_refusalOfBook_23 : decode cX11_refusalOfBook 23 = .ok (.iload_n 1, 1) := by decide +kernel
theorem dX11_refusalOfBook_24 : decode cX11_refusalOfBook 24 = .ok (.aaload, 1) := by decide +kernel
theorem dX11_refusalOfBook_25 : decode cX11_refusalOfBook 25 = .ok (.invokevirtual 109, 3) := by decide +kernel
theorem dX11_refusalOfBook_28 : decode cX11_refusalOfBook 28 = .ok (.ifCond .eq 5, 3) := by decide +kernel
theorem dX11_refusalOfBook_31 : decode cX11_refusalOfBook 31 = .ok (.iconst 0, 1) := by decide +kernel
theorem dX11_refusalOfBook_32 : decode cX11_refusalOfBook 32 = .ok (.ireturn, 1) := by decide +kernel
theorem dX11_refusalOfBook_33 : decode cX11_refusalOfBook 33 = .ok (.aload_n 0, 1) := by decide +kernel
theorem dX11_refusalOfBook_34 : decode cX11_refusalOfBook 34 = .ok (.getfield 82, 3) := by decide +kernel
theorem dX11_refusalOfBook_37 : decode cX11_refusalOfBook 37 = .ok (.iload_n 1, 1) := by decide +kernel
theorem dX11_refusalOfBook_38 : decode cX11_refusalOfBook 38 = .ok (.aaload, 1) := by decide +kernel
theorem dX11_refusalOfBook_39 : decode cX11_refusalOfBook 39 = .ok (.invokevirtual 105, 3) := by decide +kernel
theorem dX11_refusalOfBook_42 : decode cX11_refusalOfBook 42 = .ok (.ifCond .eq 8, 3) := by decide +kernel
theorem dX11_refusalOfBook_45 : decode cX11_refusalOfBook 45 = .ok (.bipush (-11), 2) := by decide +kernel
theorem dX11_refusalOfBook_47 : decode cX11_refusalOfBook 47 = .ok (.goto 5, 3) := by decide +kernel
theorem dX11_refusalOfBook_50 : decode cX11_refusalOfBook 50 = .ok (.bipush (-12), 2) := by decide +kernel
theorem dX11_refusalOfBook_52 : decode cX11_refusalOfBook 52 = .ok (.ireturn, 1) := by decide +kernel
theorem dX11_turned_0 : decode cX11_turned 0 = .ok (.iload_n 2, 1) := by decide +kernel
theorem dX11_turned_1 : decode cX11_turned 1 = .ok (.invokestatic 252, 3) := by decide +kernel
theorem dX11_turned_4 : decode cX11_turned 4 = .ok (.ifCond .eq 12, 3) := by decide +kernel
theorem dX11_turned_7 : decode cX11_turned 7 = .ok (.iload_n 3, 1) := by decide +kernel
theorem dX11_turned_8 : decode cX11_turned 8 = .ok (.ifCond .lt 8, 3) := by decide +kernel
theorem dX11_turned_11 : decode cX11_turned 11 = .ok (.iload_n 3, 1) := by decide +kernel
theorem dX11_turned_12 : decode cX11_turned 12 = .ok (.iconst 1, 1) := by decide +kernel
theorem dX11_turned_13 : decode cX11_turned 13 = .ok (.if_icmp .le 5, 3) := by decide +kernel
theorem dX11_turned_16 : decode cX11_turned 16 = .ok (.iconst (-1), 1) := by decide +kernel
theorem dX11_turned_17 : decode cX11_turned 17 = .ok (.ireturn, 1) := by decide +kernel
theorem dX11_turned_18 : decode cX11_turned 18 = .ok (.aload_n 0, 1) := by decide +kernel
theorem dX11_turned_19 : decode cX11_turned 19 = .ok (.iload_n 1, 1) := by decide +kernel
theorem dX11_turned_20 : decode cX11_turned 20 = .ok (.iload_n 2, 1) := by decide +kernel
theorem dX11_turned_21 : decode cX11_turned 21 = .ok (.bipush 100, 2) := by decide +kernel
theorem dX11_turned_23 : decode cX11_turned 23 = .ok (.irem, 1) := by decide +kernel
theorem dX11_turned_24 : decode cX11_turned 24 = .ok (.invokevirtual 290, 3) := by decide +kernel
theorem dX11_turned_27 : decode cX11_turned 27 = .ok (.istore 4, 2) := by decide +kernel
theorem dX11_turned_29 : decode cX11_turned 29 = .ok (.iload 4, 2) := by decide +kernel
theorem dX11_turned_31 : decode cX11_turned 31 = .ok (.ifCond .eq 6, 3) := by decide +kernel
theorem dX11_turned_34 : decode cX11_turned 34 = .ok (.iload 4, 2) := by decide +kernel
theorem dX11_turned_36 : decode cX11_turned 36 = .ok (.ireturn, 1) := by decide +kernel
theorem dX11_turned_37 : decode cX11_turned 37 = .ok (.aload_n 0, 1) := by decide +kernel
theorem dX11_turned_38 : decode cX11_turned 38 = .ok (.getfield 82, 3) := by decide +kernel
theorem dX11_turned_41 : decode cX11_turned 41 = .ok (.iload_n 1, 1) := by decide +kernel
theorem dX11_turned_42 : decode cX11_turned 42 = .ok (.aaload, 1) := by decide +kernel
theorem dX11_turned_43 : decode cX11_turned 43 = .ok (.astore 5, 2) := by decide +kernel
theorem dX11_turned_45 : decode cX11_turned 45 = .ok (.iconst 0, 1) := by decide +kernel
theorem dX11_turned_46 : decode cX11_turned 46 = .ok (.istore 6, 2) := by decide +kernel
theorem dX11_turned_48 : decode cX11_turned 48 = .ok (.bipush (-2), 2) := by decide +kernel
theorem dX11_turned_50 : decode cX11_turned 50 = .ok (.istore 7, 2) := by decide +kernel
theorem dX11_turned_52 : decode cX11_turned 52 = .ok (.aload 5, 2) := by decide +kernel
theorem dX11_turned_54 : decode cX11_turned 54 = .ok (.getfield 120, 3) := by decide +kernel
theorem dX11_turned_57 : decode cX11_turned 57 = .ok (.iconst 2, 1) := by decide +kernel
theorem dX11_turned_58 : decode cX11_turned 58 = .ok (.idiv, 1) := by decide +kernel
theorem dX11_turned_59 : decode cX11_turned 59 = .ok (.iconst 1, 1) := by decide +kernel
theorem dX11_turned_60 : decode cX11_turned 60 = .ok (.isub, 1) := by decide +kernel
theorem dX11_turned_61 : decode cX11_turned 61 = .ok (.istore 8, 2) := by decide +kernel
theorem dX11_turned_63 : decode cX11_turned 63 = .ok (.iload 8, 2) := by decide +kernel
theorem dX11_turned_65 : decode cX11_turned 65 = .ok (.ifCond .lt 35, 3) := by decide +kernel
theorem dX11_turned_68 : decode cX11_turned 68 = .ok (.aload_n 0, 1) := by decide +kernel
theorem dX11_turned_69 : decode cX11_turned 69 = .ok (.aload 5, 2) := by decide +kernel
theorem dX11_turned_71 : decode cX11_turned 71 = .ok (.iload_n 2, 1) := by decide +kernel
theorem dX11_turned_72 : decode cX11_turned 72 = .ok (.bipush 100, 2) := by decide +kernel
theorem dX11_turned_74 : decode cX11_turned 74 = .ok (.irem, 1) := by decide +kernel
theorem dX11_turned_75 : decode cX11_turned 75 = .ok (.iload 8, 2) := by decide +kernel
theorem dX11_turned_77 : decode cX11_turned 77 = .ok (.invokevirtual 293, 3) := by decide +kernel
theorem dX11_turned_80 : decode cX11_turned 80 = .ok (.iload_n 2, 1) := by decide +kernel
theorem dX11_turned_81 : decode cX11_turned 81 = .ok (.bipush 100, 2) := by decide +kernel
theorem dX11_turned_83 : decode cX11_turned 83 = .ok (.idiv, 1) := by decide +kernel
theorem dX11_turned_84 : decode cX11_turned 84 = .ok (.if_icmp .ne 10, 3) := by decide +kernel
theorem dX11_turned_87 : decode cX11_turned 87 = .ok (.iinc 6 1, 3) := by decide +kernel
theorem dX11_turned_90 : decode cX11_turned 90 = .ok (.iload 8, 2) := by decide +kernel
theorem dX11_turned_92 : decode cX11_turned 92 = .ok (.istore 7, 2) := by decide +kernel
theorem dX11_turned_94 : decode cX11_turned 94 = .ok (.iinc 8 (-1), 3) := by decide +kernel
theorem dX11_turned_97 : decode cX11_turned 97 = .ok (.goto (-34), 3) := by decide +kernel
theorem dX11_turned_100 : decode cX11_turned 100 = .ok (.iload_n 3, 1) := by decide +kernel
theorem dX11_turned_101 : decode cX11_turned 101 = .ok (.ifCond .ne 8, 3) := by decide +kernel
theorem dX11_turned_104 : decode cX11_turned 104 = .ok (.iload 6, 2) := by decide +kernel
theorem dX11_turned_106 : decode cX11_turned 106 = .ok (.goto 5, 3) := by decide +kernel
theorem dX11_turned_109 : decode cX11_turned 109 = .ok (.iload 7, 2) := by decide +kernel
theorem dX11_turned_111 : decode cX11_turned 111 = .ok (.ireturn, 1) := by decide +kernel
theorem dX11_readBook_0 : decode cX11_readBook 0 = .ok (.iload_n 2, 1) := by decide +kernel
theorem dX11_readBook_1 : decode cX11_readBook 1 = .ok (.istore 4, 2) := by decide +kernel
theorem dX11_readBook_3 : decode cX11_readBook 3 = .ok (.iconst 0, 1) := by decide +kernel
theorem dX11_readBook_4 : decode cX11_readBook 4 = .ok (.istore 5, 2) := by decide +kernel
theorem dX11_readBook_6 : decode cX11_readBook 6 = .ok (.iload 5, 2) := by decide +kernel
theorem dX11_readBook_8 : decode cX11_readBook 8 = .ok (.aload_n 1, 1) := by decide +kernel
theorem dX11_readBook_9 : decode cX11_readBook 9 = .ok (.getfield 120, 3) := by decide +kernel
theorem dX11_readBook_12 : decode cX11_readBook 12 = .ok (.if_icmp .ge 124, 3) := by decide +kernel
theorem dX11_readBook_15 : decode cX11_readBook 15 = .ok (.iload 5, 2) := by decide +kernel
theorem dX11_readBook_17 : decode cX11_readBook 17 = .ok (.iconst 2, 1) := by decide +kernel
theorem dX11_readBook_18 : decode cX11_readBook 18 = .ok (.idiv, 1) := by decide +kernel
theorem dX11_readBook_19 : decode cX11_readBook 19 = .ok (.istore 6, 2) := by decide +kernel
theorem dX11_readBook_21 : decode cX11_readBook 21 = .ok (.iload 5, 2) := by decide +kernel
theorem dX11_readBook_23 : decode cX11_readBook 23 = .ok (.iconst 1, 1) := by decide +kernel
theorem dX11_readBook_24 : decode cX11_readBook 24 = .ok (.iadd, 1) := by decide +kernel
theorem dX11_readBook_25 : decode cX11_readBook 25 = .ok (.aload_n 1, 1) := by decide +kernel
theorem dX11_readBook_26 : decode cX11_readBook 26 = .ok (.getfield 120, 3) := by decide +kernel
theorem dX11_readBook_29 : decode cX11_readBook 29 = .ok (.if_icmp .lt 8, 3) := by decide +kernel
theorem dX11_readBook_32 : decode cX11_readBook 32 = .ok (.iconst (-1), 1) := by decide +kernel
theorem dX11_readBook_33 : decode cX11_readBook 33 = .ok (.iload 6, 2) := by decide +kernel
theorem dX11_readBook_35 : decode cX11_readBook 35 = .ok (.isub, 1) := by decide +kernel
theorem dX11_readBook_36 : decode cX11_readBook 36 = .ok (.ireturn, 1) := by decide +kernel
theorem dX11_readBook_37 : decode cX11_readBook 37 = .ok (.aload_n 1, 1) := by decide +kernel
theorem dX11_readBook_38 : decode cX11_readBook 38 = .ok (.iload 5, 2) := by decide +kernel
theorem dX11_readBook_40 : decode cX11_readBook 40 = .ok (.invokevirtual 124, 3) := by decide +kernel
theorem dX11_readBook_43 : decode cX11_readBook 43 = .ok (.l2i, 1) := by decide +kernel
theorem dX11_readBook_44 : decode cX11_readBook 44 = .ok (.istore 7, 2) := by decide +kernel
theorem dX11_readBook_46 : decode cX11_readBook 46 = .ok (.aload_n 1, 1) := by decide +kernel
theorem dX11_readBook_47 : decode cX11_readBook 47 = .ok (.iload 5, 2) := by decide +kernel
theorem dX11_readBook_49 : decode cX11_readBook 49 = .ok (.iconst 1, 1) := by decide +kernel
theorem dX11_readBook_50 : decode cX11_readBook 50 = .ok (.iadd, 1) := by decide +kernel
theorem dX11_readBook_51 : decode cX11_readBook 51 = .ok (.invokevirtual 124, 3) := by decide +kernel
theorem dX11_readBook_54 : decode cX11_readBook 54 = .ok (.l2i, 1) := by decide +kernel
theorem dX11_readBook_55 : decode cX11_readBook 55 = .ok (.istore 8, 2) := by decide +kernel
theorem dX11_readBook_57 : decode cX11_readBook 57 = .ok (.iload 6, 2) := by decide +kernel
theorem dX11_readBook_59 : decode cX11_readBook 59 = .ok (.iload_n 3, 1) := by decide +kernel
theorem dX11_readBook_60 : decode cX11_readBook 60 = .ok (.if_icmp .ne 9, 3) := by decide +kernel
theorem dX11_readBook_63 : decode cX11_readBook 63 = .ok (.iload 8, 2) := by decide +kernel
theorem dX11_readBook_65 : decode cX11_readBook 65 = .ok (.ineg, 1) := by decide +kernel
theorem dX11_readBook_66 : decode cX11_readBook 66 = .ok (.goto 5, 3) := by decide +kernel
theorem dX11_readBook_69 : decode cX11_readBook 69 = .ok (.iload 8, 2) := by decide +kernel
theorem dX11_readBook_71 : decode cX11_readBook 71 = .ok (.istore 9, 2) := by decide +kernel
theorem dX11_readBook_73 : decode cX11_readBook 73 = .ok (.aload_n 0, 1) := by decide +kernel
theorem dX11_readBook_74 : decode cX11_readBook 74 = .ok (.getfield 10, 3) := by decide +kernel
theorem dX11_readBook_77 : decode cX11_readBook 77 = .ok (.iload 7, 2) := by decide +kernel
theorem dX11_readBook_79 : decode cX11_readBook 79 = .ok (.invokevirtual 143, 3) := by decide +kernel
theorem dX11_readBook_82 : decode cX11_readBook 82 = .ok (.ifCond .eq 20, 3) := by decide +kernel
theorem dX11_readBook_85 : decode cX11_readBook 85 = .ok (.iload 9, 2) := by decide +kernel
theorem dX11_readBook_87 : decode cX11_readBook 87 = .ok (.invokestatic 296, 3) := by decide +kernel
theorem dX11_readBook_90 : decode cX11_readBook 90 = .ok (.aload_n 0, 1) := by decide +kernel
theorem dX11_readBook_91 : decode cX11_readBook 91 = .ok (.getfield 10, 3) := by decide +kernel
theorem dX11_readBook_94 : decode cX11_readBook 94 = .ok (.iload 7, 2) := by decide +kernel
theorem dX11_readBook_96 : decode cX11_readBook 96 = .ok (.invokevirtual 205, 3) := by decide +kernel
theorem dX11_readBook_99 : decode cX11_readBook 99 = .ok (.if_icmp .eq 8, 3) := by decide +kernel
theorem dX11_readBook_102 : decode cX11_readBook 102 = .ok (.iconst (-1), 1) := by decide +kernel
theorem dX11_readBook_103 : decode cX11_readBook 103 = .ok (.iload 6, 2) := by decide +kernel
theorem dX11_readBook_105 : decode cX11_readBook 105 = .ok (.isub, 1) := by decide +kernel
theorem dX11_readBook_106 : decode cX11_readBook 106 = .ok (.ireturn, 1) := by decide +kernel
theorem dX11_readBook_107 : decode cX11_readBook 107 = .ok (.iload 4, 2) := by decide +kernel
theorem dX11_readBook_109 : decode cX11_readBook 109 = .ok (.iload 9, 2) := by decide +kernel
theorem dX11_readBook_111 : decode cX11_readBook 111 = .ok (.isub, 1) := by decide +kernel
theorem dX11_readBook_112 : decode cX11_readBook 112 = .ok (.istore 4, 2) := by decide +kernel
theorem dX11_readBook_114 : decode cX11_readBook 114 = .ok (.iload 4, 2) := by decide +kernel
theorem dX11_readBook_116 : decode cX11_readBook 116 = .ok (.ifCond .lt 9, 3) := by decide +kernel
theorem dX11_readBook_119 : decode cX11_readBook 119 = .ok (.iload 4, 2) := by decide +kernel
theorem dX11_readBook_121 : decode cX11_readBook 121 = .ok (.iload_n 2, 1) := by decide +kernel
theorem dX11_readBook_122 : decode cX11_readBook 122 = .ok (.if_icmp .le 8, 3) := by decide +kernel
theorem dX11_readBook_125 : decode cX11_readBook 125 = .ok (.iconst (-1), 1) := by decide +kernel
theorem dX11_readBook_126 : decode cX11_readBook 126 = .ok (.iload 6, 2) := by decide +kernel
theorem dX11_readBook_128 : decode cX11_readBook 128 = .ok (.isub, 1) := by decide +kernel
theorem dX11_readBook_129 : decode cX11_readBook 129 = .ok (.ireturn, 1) := by decide +kernel
theorem dX11_readBook_130 : decode cX11_readBook 130 = .ok (.iinc 5 2, 3) := by decide +kernel
theorem dX11_readBook_133 : decode cX11_readBook 133 = .ok (.goto (-127), 3) := by decide +kernel
theorem dX11_readBook_136 : decode cX11_readBook 136 = .ok (.iload 4, 2) := by decide +kernel
theorem dX11_readBook_138 : decode cX11_readBook 138 = .ok (.ireturn, 1) := by decide +kernel
theorem dX11_image_0 : decode cX11_image 0 = .ok (.aload_n 0, 1) := by decide +kernel
theorem dX11_image_1 : decode cX11_image 1 = .ok (.getfield 43, 3) := by decide +kernel
theorem dX11_image_4 : decode cX11_image 4 = .ok (.aload_n 0, 1) := by decide +kernel
theorem dX11_image_5 : decode cX11_image 5 = .ok (.getfield 39, 3) := by decide +kernel
theorem dX11_image_8 : decode cX11_image 8 = .ok (.invokevirtual 301, 3) := by decide +kernel
theorem dX11_image_11 : decode cX11_image 11 = .ok (.aload_n 0, 1) := by decide +kernel
theorem dX11_image_12 : decode cX11_image 12 = .ok (.iconst 1, 1) := by decide +kernel
theorem dX11_image_13 : decode cX11_image 13 = .ok (.putfield 305, 3) := by decide +kernel
theorem dX11_image_16 : decode cX11_image 16 = .ok (.aload_n 0, 1) := by decide +kernel
theorem dX11_image_17 : decode cX11_image 17 = .ok (.getfield 39, 3) := by decide +kernel
theorem dX11_image_20 : decode cX11_image 20 = .ok (.getfield 167, 3) := by decide +kernel
theorem dX11_image_23 : decode cX11_image 23 = .ok (.ireturn, 1) := by decide +kernel
theorem dX11_back_0 : decode cX11_back 0 = .ok (.aload_n 0, 1) := by decide +kernel
theorem dX11_back_1 : decode cX11_back 1 = .ok (.getfield 305, 3) := by decide +kernel
theorem dX11_back_4 : decode cX11_back 4 = .ok (.ifCond .ne 6, 3) := by decide +kernel
theorem dX11_back_7 : decode cX11_back 7 = .ok (.bipush (-5), 2) := by decide +kernel
theorem dX11_back_9 : decode cX11_back 9 = .ok (.ireturn, 1) := by decide +kernel
theorem dX11_back_10 : decode cX11_back 10 = .ok (.aload_n 0, 1) := by decide +kernel
theorem dX11_back_11 : decode cX11_back 11 = .ok (.getfield 39, 3) := by decide +kernel
theorem dX11_back_14 : decode cX11_back 14 = .ok (.aload_n 0, 1) := by decide +kernel
theorem dX11_back_15 : decode cX11_back 15 = .ok (.getfield 43, 3) := by decide +kernel
theorem dX11_back_18 : decode cX11_back 18 = .ok (.invokevirtual 301, 3) := by decide +kernel
theorem dX11_back_21 : decode cX11_back 21 = .ok (.aload_n 0, 1) := by decide +kernel
theorem dX11_back_22 : decode cX11_back 22 = .ok (.getfield 39, 3) := by decide +kernel
theorem dX11_back_25 : decode cX11_back 25 = .ok (.getfield 167, 3) := by decide +kernel
theorem dX11_back_28 : decode cX11_back 28 = .ok (.ireturn, 1) := by decide +kernel
theorem dX11_undo_0 : decode cX11_undo 0 = .ok (.aload_n 0, 1) := by decide +kernel
theorem dX11_undo_1 : decode cX11_undo 1 = .ok (.getfield 65, 3) := by decide +kernel
theorem dX11_undo_4 : decode cX11_undo 4 = .ok (.invokevirtual 309, 3) := by decide +kernel
theorem dX11_undo_7 : decode cX11_undo 7 = .ok (.istore_n 1, 1) := by decide +kernel
theorem dX11_undo_8 : decode cX11_undo 8 = .ok (.iload_n 1, 1) := by decide +kernel
theorem dX11_undo_9 : decode cX11_undo 9 = .ok (.ifCond .ge 6, 3) := by decide +kernel
theorem dX11_undo_12 : decode cX11_undo 12 = .ok (.bipush (-5), 2) := by decide +kernel
theorem dX11_undo_14 : decode cX11_undo 14 = .ok (.ireturn, 1) := by decide +kernel
theorem dX11_undo_15 : decode cX11_undo 15 = .ok (.aload_n 0, 1) := by decide +kernel
theorem dX11_undo_16 : decode cX11_undo 16 = .ok (.aload_n 0, 1) := by decide +kernel
theorem dX11_undo_17 : decode cX11_undo 17 = .ok (.getfield 65, 3) := by decide +kernel
theorem dX11_undo_20 : decode cX11_undo 20 = .ok (.getfield 312, 3) := by decide +kernel
theorem dX11_undo_23 : decode cX11_undo 23 = .ok (.iload_n 1, 1) := by decide +kernel
theorem dX11_undo_24 : decode cX11_undo 24 = .ok (.iaload, 1) := by decide +kernel
theorem dX11_undo_25 : decode cX11_undo 25 = .ok (.aload_n 0, 1) := by decide +kernel
theorem dX11_undo_26 : decode cX11_undo 26 = .ok (.getfield 65, 3) := by decide +kernel
theorem dX11_undo_29 : decode cX11_undo 29 = .ok (.getfield 313, 3) := by decide +kernel
theorem dX11_undo_32 : decode cX11_undo 32 = .ok (.iload_n 1, 1) := by decide +kernel
theorem dX11_undo_33 : decode cX11_undo 33 = .ok (.iaload, 1) := by decide +kernel
theorem dX11_undo_34 : decode cX11_undo 34 = .ok (.aload_n 0, 1) := by decide +kernel
theorem dX11_undo_35 : decode cX11_undo 35 = .ok (.getfield 65, 3) := by decide +kernel
theorem dX11_undo_38 : decode cX11_undo 38 = .ok (.getfield 316, 3) := by decide +kernel
theorem dX11_undo_41 : decode cX11_undo 41 = .ok (.iload_n 1, 1) := by decide +kernel
theorem dX11_undo_42 : decode cX11_undo 42 = .ok (.iaload, 1) := by decide +kernel
theorem dX11_undo_43 : decode cX11_undo 43 = .ok (.invokevirtual 131, 3) := by decide +kernel
theorem dX11_undo_46 : decode cX11_undo 46 = .ok (.pop, 1) := by decide +kernel
theorem dX11_undo_47 : decode cX11_undo 47 = .ok (.aload_n 0, 1) := by decide +kernel
theorem dX11_undo_48 : decode cX11_undo 48 = .ok (.getfield 65, 3) := by decide +kernel
theorem dX11_undo_51 : decode cX11_undo 51 = .ok (.invokevirtual 319, 3) := by decide +kernel
theorem dX11_undo_54 : decode cX11_undo 54 = .ok (.ireturn, 1) := by decide +kernel
theorem dX11_redo_0 : decode cX11_redo 0 = .ok (.aload_n 0, 1) := by decide +kernel
theorem dX11_redo_1 : decode cX11_redo 1 = .ok (.getfield 65, 3) := by decide +kernel
theorem dX11_redo_4 : decode cX11_redo 4 = .ok (.invokevirtual 322, 3) := by decide +kernel
theorem dX11_redo_7 : decode cX11_redo 7 = .ok (.istore_n 1, 1) := by decide +kernel
theorem dX11_redo_8 : decode cX11_redo 8 = .ok (.iload_n 1, 1) := by decide +kernel
theorem dX11_redo_9 : decode cX11_redo 9 = .ok (.ifCond .ge 6, 3) := by decide +kernel
theorem dX11_redo_12 : decode cX11_redo 12 = .ok (.bipush (-5), 2) := by decide +kernel
theorem dX11_redo_14 : decode cX11_redo 14 = .ok (.ireturn, 1) := by decide +kernel
theorem dX11_redo_15 : decode cX11_redo 15 = .ok (.aload_n 0, 1) := by decide +kernel
theorem dX11_redo_16 : decode cX11_redo 16 = .ok (.aload_n 0, 1) := by decide +kernel
theorem dX11_redo_17 : decode cX11_redo 17 = .ok (.getfield 65, 3) := by decide +kernel
theorem dX11_redo_20 : decode cX11_redo 20 = .ok (.getfield 312, 3) := by decide +kernel
theorem dX11_redo_23 : decode cX11_redo 23 = .ok (.iload_n 1, 1) := by decide +kernel
theorem dX11_redo_24 : decode cX11_redo 24 = .ok (.iaload, 1) := by decide +kernel
theorem dX11_redo_25 : decode cX11_redo 25 = .ok (.aload_n 0, 1) := by decide +kernel
theorem dX11_redo_26 : decode cX11_redo 26 = .ok (.getfield 65, 3) := by decide +kernel
theorem dX11_redo_29 : decode cX11_redo 29 = .ok (.getfield 313, 3) := by decide +kernel
theorem dX11_redo_32 : decode cX11_redo 32 = .ok (.iload_n 1, 1) := by decide +kernel
theorem dX11_redo_33 : decode cX11_redo 33 = .ok (.iaload, 1) := by decide +kernel
theorem dX11_redo_34 : decode cX11_redo 34 = .ok (.aload_n 0, 1) := by decide +kernel
theorem dX11_redo_35 : decode cX11_redo 35 = .ok (.getfield 65, 3) := by decide +kernel
theorem dX11_redo_38 : decode cX11_redo 38 = .ok (.getfield 325, 3) := by decide +kernel
theorem dX11_redo_41 : decode cX11_redo 41 = .ok (.iload_n 1, 1) := by decide +kernel
theorem dX11_redo_42 : decode cX11_redo 42 = .ok (.iaload, 1) := by decide +kernel
theorem dX11_redo_43 : decode cX11_redo 43 = .ok (.invokevirtual 131, 3) := by decide +kernel
theorem dX11_redo_46 : decode cX11_redo 46 = .ok (.pop, 1) := by decide +kernel
theorem dX11_redo_47 : decode cX11_redo 47 = .ok (.aload_n 0, 1) := by decide +kernel
theorem dX11_redo_48 : decode cX11_redo 48 = .ok (.getfield 65, 3) := by decide +kernel
theorem dX11_redo_51 : decode cX11_redo 51 = .ok (.invokevirtual 328, 3) := by decide +kernel
theorem dX11_redo_54 : decode cX11_redo 54 = .ok (.ireturn, 1) := by decide +kernel
theorem dX11_body_0 : decode cX11_body 0 = .ok (.iload_n 1, 1) := by decide +kernel
theorem dX11_body_1 : decode cX11_body 1 = .ok (.invokestatic 331, 3) := by decide +kernel
theorem dX11_body_4 : decode cX11_body 4 = .ok (.ifCond .ne 5, 3) := by decide +kernel
theorem dX11_body_7 : decode cX11_body 7 = .ok (.iconst (-1), 1) := by decide +kernel
theorem dX11_body_8 : decode cX11_body 8 = .ok (.ireturn, 1) := by decide +kernel
theorem dX11_body_9 : decode cX11_body 9 = .ok (.aload_n 0, 1) := by decide +kernel
theorem dX11_body_10 : decode cX11_body 10 = .ok (.getfield 76, 3) := by decide +kernel
theorem dX11_body_13 : decode cX11_body 13 = .ok (.iload_n 1, 1) := by decide +kernel
theorem dX11_body_14 : decode cX11_body 14 = .ok (.invokevirtual 334, 3) := by decide +kernel
theorem dX11_body_17 : decode cX11_body 17 = .ok (.ireturn, 1) := by decide +kernel
theorem dX11_act_0 : decode cX11_act 0 = .ok (.aload_n 0, 1) := by decide +kernel
theorem dX11_act_1 : decode cX11_act 1 = .ok (.getfield 76, 3) := by decide +kernel
theorem dX11_act_4 : decode cX11_act 4 = .ok (.iload_n 1, 1) := by decide +kernel
theorem dX11_act_5 : decode cX11_act 5 = .ok (.iload_n 2, 1) := by decide +kernel
theorem dX11_act_6 : decode cX11_act 6 = .ok (.iload_n 3, 1) := by decide +kernel
theorem dX11_act_7 : decode cX11_act 7 = .ok (.invokevirtual 335, 3) := by decide +kernel
theorem dX11_act_10 : decode cX11_act 10 = .ok (.ireturn, 1) := by decide +kernel
theorem dX11_trace_0 : decode cX11_trace 0 = .ok (.iload_n 1, 1) := by decide +kernel
theorem dX11_trace_1 : decode cX11_trace 1 = .ok (.ifCond .lt 26, 3) := by decide +kernel
theorem dX11_trace_4 : decode cX11_trace 4 = .ok (.iload_n 1, 1) := by decide +kernel
theorem dX11_trace_5 : decode cX11_trace 5 = .ok (.aload_n 0, 1) := by decide +kernel
theorem dX11_trace_6 : decode cX11_trace 6 = .ok (.getfield 76, 3) := by decide +kernel
theorem dX11_trace_9 : decode cX11_trace 9 = .ok (.invokevirtual 338, 3) := by decide +kernel
theorem dX11_trace_12 : decode cX11_trace 12 = .ok (.if_icmp .ge 15, 3) := by decide +kernel
theorem dX11_trace_15 : decode cX11_trace 15 = .ok (.aload_n 0, 1) := by decide +kernel
theorem dX11_trace_16 : decode cX11_trace 16 = .ok (.getfield 76, 3) := by decide +kernel
theorem dX11_trace_19 : decode cX11_trace 19 = .ok (.getfield 341, 3) := by decide +kernel
theorem dX11_trace_22 : decode cX11_trace 22 = .ok (.iload_n 1, 1) := by decide +kernel
theorem dX11_trace_23 : decode cX11_trace 23 = .ok (.iaload, 1) := by decide +kernel
theorem dX11_trace_24 : decode cX11_trace 24 = .ok (.goto 4, 3) := by decide +kernel
theorem dX11_trace_27 : decode cX11_trace 27 = .ok (.iconst (-1), 1) := by decide +kernel
theorem dX11_trace_28 : decode cX11_trace 28 = .ok (.ireturn, 1) := by decide +kernel
theorem dX11_keep_0 : decode cX11_keep 0 = .ok (.iload_n 1, 1) := by decide +kernel
theorem dX11_keep_1 : decode cX11_keep 1 = .ok (.invokestatic 102, 3) := by decide +kernel
theorem dX11_keep_4 : decode cX11_keep 4 = .ok (.ifCond .eq 19, 3) := by decide +kernel
theorem dX11_keep_7 : decode cX11_keep 7 = .ok (.iload_n 2, 1) := by decide +kernel
theorem dX11_keep_8 : decode cX11_keep 8 = .ok (.iconst (-1), 1) := by decide +kernel
theorem dX11_keep_9 : decode cX11_keep 9 = .ok (.if_icmp .eq 16, 3) := by decide +kernel
theorem dX11_keep_12 : decode cX11_keep 12 = .ok (.aload_n 0, 1) := by decide +kernel
theorem dX11_keep_13 : decode cX11_keep 13 = .ok (.getfield 76, 3) := by decide +kernel
theorem dX11_keep_16 : decode cX11_keep 16 = .ok (.iload_n 2, 1) := by decide +kernel
theorem dX11_keep_17 : decode cX11_keep 17 = .ok (.invokevirtual 344, 3) := by decide +kernel
theorem dX11_keep_20 : decode cX11_keep 20 = .ok (.ifCond .ne 5, 3) := by decide +kernel
theorem dX11_keep_23 : decode cX11_keep 23 = .ok (.iconst (-1), 1) := by decide +kernel
theorem dX11_keep_24 : decode cX11_keep 24 = .ok (.ireturn, 1) := by decide +kernel
theorem dX11_keep_25 : decode cX11_keep 25 = .ok (.aload_n 0, 1) := by decide +kernel
theorem dX11_keep_26 : decode cX11_keep 26 = .ok (.getfield 82, 3) := by decide +kernel
theorem dX11_keep_29 : decode cX11_keep 29 = .ok (.iload_n 1, 1) := by decide +kernel
theorem dX11_keep_30 : decode cX11_keep 30 = .ok (.aaload, 1) := by decide +kernel
theorem dX11_keep_31 : decode cX11_keep 31 = .ok (.iload_n 2, 1) := by decide +kernel
theorem dX11_keep_32 : decode cX11_keep 32 = .ok (.invokevirtual 345, 3) := by decide +kernel
theorem dX11_keep_35 : decode cX11_keep 35 = .ok (.iconst 1, 1) := by decide +kernel
theorem dX11_keep_36 : decode cX11_keep 36 = .ok (.ireturn, 1) := by decide +kernel
theorem dX11_row_0 : decode cX11_row 0 = .ok (.iload_n 1, 1) := by decide +kernel
theorem dX11_row_1 : decode cX11_row 1 = .ok (.invokestatic 102, 3) := by decide +kernel
theorem dX11_row_4 : decode cX11_row 4 = .ok (.ifCond .eq 18, 3) := by decide +kernel
theorem dX11_row_7 : decode cX11_row 7 = .ok (.iload_n 2, 1) := by decide +kernel
theorem dX11_row_8 : decode cX11_row 8 = .ok (.ifCond .lt 14, 3) := by decide +kernel
theorem dX11_row_11 : decode cX11_row 11 = .ok (.iload_n 2, 1) := by decide +kernel
theorem dX11_row_12 : decode cX11_row 12 = .ok (.iconst 4, 1) := by decide +kernel
theorem dX11_row_13 : decode cX11_row 13 = .ok (.if_icmp .gt 9, 3) := by decide +kernel
theorem dX11_row_16 : decode cX11_row 16 = .ok (.iload_n 3, 1) := by decide +kernel
theorem dX11_row_17 : decode cX11_row 17 = .ok (.bipush 60, 2) := by decide +kernel
theorem dX11_row_19 : decode cX11_row 19 = .ok (.if_icmp .le 5, 3) := by decide +kernel
theorem dX11_row_22 : decode cX11_row 22 = .ok (.iconst (-1), 1) := by decide +kernel
theorem dX11_row_23 : decode cX11_row 23 = .ok (.ireturn, 1) := by decide +kernel
theorem dX11_row_24 : decode cX11_row 24 = .ok (.iload_n 3, 1) := by decide +kernel
theorem dX11_row_25 : decode cX11_row 25 = .ok (.ifCond .ge 6, 3) := by decide +kernel
theorem dX11_row_28 : decode cX11_row 28 = .ok (.bipush (-14), 2) := by decide +kernel
theorem dX11_row_30 : decode cX11_row 30 = .ok (.ireturn, 1) := by decide +kernel
theorem dX11_row_31 : decode cX11_row 31 = .ok (.aload_n 0, 1) := by decide +kernel
theorem dX11_row_32 : decode cX11_row 32 = .ok (.getfield 82, 3) := by decide +kernel
theorem dX11_row_35 : decode cX11_row 35 = .ok (.iload_n 1, 1) := by decide +kernel
theorem dX11_row_36 : decode cX11_row 36 = .ok (.aaload, 1) := by decide +kernel
theorem dX11_row_37 : decode cX11_row 37 = .ok (.iload_n 2, 1) := by decide +kernel
theorem dX11_row_38 : decode cX11_row 38 = .ok (.iload_n 3, 1) := by decide +kernel
theorem dX11_row_39 : decode cX11_row 39 = .ok (.invokevirtual 348, 3) := by decide +kernel
theorem dX11_row_42 : decode cX11_row 42 = .ok (.iconst 1, 1) := by decide +kernel
theorem dX11_row_43 : decode cX11_row 43 = .ok (.ireturn, 1) := by decide +kernel
theorem dX11_put_0 : decode cX11_put 0 = .ok (.aload_n 0, 1) := by decide +kernel
theorem dX11_put_1 : decode cX11_put 1 = .ok (.iload_n 1, 1) := by decide +kernel
theorem dX11_put_2 : decode cX11_put 2 = .ok (.iload_n 2, 1) := by decide +kernel
theorem dX11_put_3 : decode cX11_put 3 = .ok (.invokevirtual 351, 3) := by decide +kernel
theorem dX11_put_6 : decode cX11_put 6 = .ok (.istore 5, 2) := by decide +kernel
theorem dX11_put_8 : decode cX11_put 8 = .ok (.iload 5, 2) := by decide +kernel
theorem dX11_put_10 : decode cX11_put 10 = .ok (.ifCond .eq 6, 3) := by decide +kernel
theorem dX11_put_13 : decode cX11_put 13 = .ok (.iload 5, 2) := by decide +kernel
theorem dX11_put_15 : decode cX11_put 15 = .ok (.ireturn, 1) := by decide +kernel
theorem dX11_put_16 : decode cX11_put 16 = .ok (.aload_n 0, 1) := by decide +kernel
theorem dX11_put_17 : decode cX11_put 17 = .ok (.getfield 82, 3) := by decide +kernel
theorem dX11_put_20 : decode cX11_put 20 = .ok (.iload_n 1, 1) := by decide +kernel
theorem dX11_put_21 : decode cX11_put 21 = .ok (.aaload, 1) := by decide +kernel
theorem dX11_put_22 : decode cX11_put 22 = .ok (.iload_n 2, 1) := by decide +kernel
theorem dX11_put_23 : decode cX11_put 23 = .ok (.lload_n 3, 1) := by decide +kernel
theorem dX11_put_24 : decode cX11_put 24 = .ok (.invokevirtual 354, 3) := by decide +kernel
theorem dX11_put_27 : decode cX11_put 27 = .ok (.iconst 1, 1) := by decide +kernel
theorem dX11_put_28 : decode cX11_put 28 = .ok (.ireturn, 1) := by decide +kernel
theorem dX11_element_0 : decode cX11_element 0 = .ok (.aload_n 0, 1) := by decide +kernel
theorem dX11_element_1 : decode cX11_element 1 = .ok (.iload_n 1, 1) := by decide +kernel
theorem dX11_element_2 : decode cX11_element 2 = .ok (.iload_n 2, 1) := by decide +kernel
theorem dX11_element_3 : decode cX11_element 3 = .ok (.invokevirtual 351, 3) := by decide +kernel
theorem dX11_element_6 : decode cX11_element 6 = .ok (.ifCond .ne 16, 3) := by decide +kernel
theorem dX11_element_9 : decode cX11_element 9 = .ok (.aload_n 0, 1) := by decide +kernel
theorem dX11_element_10 : decode cX11_element 10 = .ok (.getfield 82, 3) := by decide +kernel
theorem dX11_element_13 : decode cX11_element 13 = .ok (.iload_n 1, 1) := by decide +kernel
theorem dX11_element_14 : decode cX11_element 14 = .ok (.aaload, 1) := by decide +kernel
theorem dX11_element_15 : decode cX11_element 15 = .ok (.iload_n 2, 1) := by decide +kernel
theorem dX11_element_16 : decode cX11_element 16 = .ok (.invokevirtual 124, 3) := by decide +kernel
theorem dX11_element_19 : decode cX11_element 19 = .ok (.goto 6, 3) := by decide +kernel
theorem dX11_element_22 : decode cX11_element 22 = .ok (.ldc2_w 273, 3) := by decide +kernel
theorem dX11_element_25 : decode cX11_element 25 = .ok (.lreturn, 1) := by decide +kernel
theorem dX11_refusalAt_0 : decode cX11_refusalAt 0 = .ok (.iload_n 1, 1) := by decide +kernel
theorem dX11_refusalAt_1 : decode cX11_refusalAt 1 = .ok (.invokestatic 102, 3) := by decide +kernel
theorem dX11_refusalAt_4 : decode cX11_refusalAt 4 = .ok (.ifCond .ne 5, 3) := by decide +kernel
theorem dX11_refusalAt_7 : decode cX11_refusalAt 7 = .ok (.iconst (-1), 1) := by decide +kernel
theorem dX11_refusalAt_8 : decode cX11_refusalAt 8 = .ok (.ireturn, 1) := by decide +kernel
theorem dX11_refusalAt_9 : decode cX11_refusalAt 9 = .ok (.aload_n 0, 1) := by decide +kernel
theorem dX11_refusalAt_10 : decode cX11_refusalAt 10 = .ok (.getfield 82, 3) := by decide +kernel
theorem dX11_refusalAt_13 : decode cX11_refusalAt 13 = .ok (.iload_n 1, 1) := by decide +kernel
theorem dX11_refusalAt_14 : decode cX11_refusalAt 14 = .ok (.aaload, 1) := by decide +kernel
theorem dX11_refusalAt_15 : decode cX11_refusalAt 15 = .ok (.astore_n 3, 1) := by decide +kernel
theorem dX11_refusalAt_16 : decode cX11_refusalAt 16 = .ok (.aload_n 3, 1) := by decide +kernel
theorem dX11_refusalAt_17 : decode cX11_refusalAt 17 = .ok (.invokevirtual 358, 3) := by decide +kernel
theorem dX11_refusalAt_20 : decode cX11_refusalAt 20 = .ok (.ifCond .ne 18, 3) := by decide +kernel
theorem dX11_refusalAt_23 : decode cX11_refusalAt 23 = .ok (.aload_n 3, 1) := by decide +kernel
theorem dX11_refusalAt_24 : decode cX11_refusalAt 24 = .ok (.invokevirtual 105, 3) := by decide +kernel
theorem dX11_refusalAt_27 : decode cX11_refusalAt 27 = .ok (.ifCond .eq 8, 3) := by decide +kernel
theorem dX11_refusalAt_30 : decode cX11_refusalAt 30 = .ok (.bipush (-11), 2) := by decide +kernel
theorem dX11_refusalAt_32 : decode cX11_refusalAt 32 = .ok (.goto 5, 3) := by decide +kernel
theorem dX11_refusalAt_35 : decode cX11_refusalAt 35 = .ok (.bipush (-12), 2) := by decide +kernel
theorem dX11_refusalAt_37 : decode cX11_refusalAt 37 = .ok (.ireturn, 1) := by decide +kernel
theorem dX11_refusalAt_38 : decode cX11_refusalAt 38 = .ok (.aload_n 3, 1) := by decide +kernel
theorem dX11_refusalAt_39 : decode cX11_refusalAt 39 = .ok (.iload_n 2, 1) := by decide +kernel
theorem dX11_refusalAt_40 : decode cX11_refusalAt 40 = .ok (.iconst 1, 1) := by decide +kernel
theorem dX11_refusalAt_41 : decode cX11_refusalAt 41 = .ok (.invokevirtual 361, 3) := by decide +kernel
theorem dX11_refusalAt_44 : decode cX11_refusalAt 44 = .ok (.ifCond .eq 7, 3) := by decide +kernel
theorem dX11_refusalAt_47 : decode cX11_refusalAt 47 = .ok (.iconst 0, 1) := by decide +kernel
theorem dX11_refusalAt_48 : decode cX11_refusalAt 48 = .ok (.goto 5, 3) := by decide +kernel
theorem dX11_refusalAt_51 : decode cX11_refusalAt 51 = .ok (.bipush (-13), 2) := by decide +kernel
theorem dX11_refusalAt_53 : decode cX11_refusalAt 53 = .ok (.ireturn, 1) := by decide +kernel
theorem dX11_shift_0 : decode cX11_shift 0 = .ok (.iload_n 1, 1) := by decide +kernel
theorem dX11_shift_1 : decode cX11_shift 1 = .ok (.invokestatic 102, 3) := by decide +kernel
theorem dX11_shift_4 : decode cX11_shift 4 = .ok (.ifCond .eq 10, 3) := by decide +kernel
theorem dX11_shift_7 : decode cX11_shift 7 = .ok (.iload_n 3, 1) := by decide +kernel
theorem dX11_shift_8 : decode cX11_shift 8 = .ok (.invokestatic 102, 3) := by decide +kernel
theorem dX11_shift_11 : decode cX11_shift 11 = .ok (.ifCond .ne 5, 3) := by decide +kernel
theorem dX11_shift_14 : decode cX11_shift 14 = .ok (.iconst (-1), 1) := by decide +kernel
theorem dX11_shift_15 : decode cX11_shift 15 = .ok (.ireturn, 1) := by decide +kernel
theorem dX11_shift_16 : decode cX11_shift 16 = .ok (.aload_n 0, 1) := by decide +kernel
theorem dX11_shift_17 : decode cX11_shift 17 = .ok (.getfield 82, 3) := by decide +kernel
theorem dX11_shift_20 : decode cX11_shift 20 = .ok (.iload_n 1, 1) := by decide +kernel
theorem dX11_shift_21 : decode cX11_shift 21 = .ok (.aaload, 1) := by decide +kernel
theorem dX11_shift_22 : decode cX11_shift 22 = .ok (.astore 6, 2) := by decide +kernel
theorem dX11_shift_24 : decode cX11_shift 24 = .ok (.aload_n 0, 1) := by decide +kernel
theorem dX11_shift_25 : decode cX11_shift 25 = .ok (.getfield 82, 3) := by decide +kernel
theorem dX11_shift_28 : decode cX11_shift 28 = .ok (.iload_n 3, 1) := by decide +kernel
theorem dX11_shift_29 : decode cX11_shift 29 = .ok (.aaload, 1) := by decide +kernel
theorem dX11_shift_30 : decode cX11_shift 30 = .ok (.astore 7, 2) := by decide +kernel
theorem dX11_shift_32 : decode cX11_shift 32 = .ok (.aload 6, 2) := by decide +kernel
theorem dX11_shift_34 : decode cX11_shift 34 = .ok (.invokevirtual 105, 3) := by decide +kernel
theorem dX11_shift_37 : decode cX11_shift 37 = .ok (.ifCond .ne 11, 3) := by decide +kernel
theorem dX11_shift_40 : decode cX11_shift 40 = .ok (.aload 7, 2) := by decide +kernel
theorem dX11_shift_42 : decode cX11_shift 42 = .ok (.invokevirtual 105, 3) := by decide +kernel
theorem dX11_shift_45 : decode cX11_shift 45 = .ok (.ifCond .eq 6, 3) := by decide +kernel
theorem dX11_shift_48 : decode cX11_shift 48 = .ok (.bipush (-11), 2) := by decide +kernel
theorem dX11_shift_50 : decode cX11_shift 50 = .ok (.ireturn, 1) := by decide +kernel
theorem dX11_shift_51 : decode cX11_shift 51 = .ok (.aload 6, 2) := by decide +kernel
theorem dX11_shift_53 : decode cX11_shift 53 = .ok (.invokevirtual 358, 3) := by decide +kernel
theorem dX11_shift_56 : decode cX11_shift 56 = .ok (.ifCond .eq 24, 3) := by decide +kernel
theorem dX11_shift_59 : decode cX11_shift 59 = .ok (.aload 7, 2) := by decide +kernel
theorem dX11_shift_61 : decode cX11_shift 61 = .ok (.invokevirtual 358, 3) := by decide +kernel
theorem dX11_shift_64 : decode cX11_shift 64 = .ok (.ifCond .eq 16, 3) := by decide +kernel
theorem dX11_shift_67 : decode cX11_shift 67 = .ok (.aload 6, 2) := by decide +kernel
theorem dX11_shift_69 : decode cX11_shift 69 = .ok (.getfield 365, 3) := by decide +kernel
theorem dX11_shift_72 : decode cX11_shift 72 = .ok (.aload 7, 2) := by decide +kernel
theorem dX11_shift_74 : decode cX11_shift 74 = .ok (.getfield 365, 3) := by decide +kernel
theorem dX11_shift_77 : decode cX11_shift 77 = .ok (.if_icmp .eq 6, 3) := by decide +kernel
theorem dX11_shift_80 : decode cX11_shift 80 = .ok (.bipush (-12), 2) := by decide +kernel
theorem dX11_shift_82 : decode cX11_shift 82 = .ok (.ireturn, 1) := by decide +kernel
theorem dX11_shift_83 : decode cX11_shift 83 = .ok (.aload 6, 2) := by decide +kernel
theorem dX11_shift_85 : decode cX11_shift 85 = .ok (.iload_n 2, 1) := by decide +kernel
theorem dX11_shift_86 : decode cX11_shift 86 = .ok (.iload 5, 2) := by decide +kernel
theorem dX11_shift_88 : decode cX11_shift 88 = .ok (.invokevirtual 361, 3) := by decide +kernel
theorem dX11_shift_91 : decode cX11_shift 91 = .ok (.ifCond .eq 15, 3) := by decide +kernel
theorem dX11_shift_94 : decode cX11_shift 94 = .ok (.aload 7, 2) := by decide +kernel
theorem dX11_shift_96 : decode cX11_shift 96 = .ok (.iload 4, 2) := by decide +kernel
theorem dX11_shift_98 : decode cX11_shift 98 = .ok (.iload 5, 2) := by decide +kernel
theorem dX11_shift_100 : decode cX11_shift 100 = .ok (.invokevirtual 361, 3) := by decide +kernel
theorem dX11_shift_103 : decode cX11_shift 103 = .ok (.ifCond .ne 6, 3) := by decide +kernel
theorem dX11_shift_106 : decode cX11_shift 106 = .ok (.bipush (-13), 2) := by decide +kernel
theorem dX11_shift_108 : decode cX11_shift 108 = .ok (.ireturn, 1) := by decide +kernel
theorem dX11_shift_109 : decode cX11_shift 109 = .ok (.aload 6, 2) := by decide +kernel
theorem dX11_shift_111 : decode cX11_shift 111 = .ok (.getfield 368, 3) := by decide +kernel
theorem dX11_shift_114 : decode cX11_shift 114 = .ok (.iload_n 2, 1) := by decide +kernel
theorem dX11_shift_115 : decode cX11_shift 115 = .ok (.aload 7, 2) := by decide +kernel
theorem dX11_shift_117 : decode cX11_shift 117 = .ok (.getfield 368, 3) := by decide +kernel
theorem dX11_shift_120 : decode cX11_shift 120 = .ok (.iload 4, 2) := by decide +kernel
theorem dX11_shift_122 : decode cX11_shift 122 = .ok (.iload 5, 2) := by decide +kernel
theorem dX11_shift_124 : decode cX11_shift 124 = .ok (.invokestatic 371, 3) := by decide +kernel
theorem dX11_shift_127 : decode cX11_shift 127 = .ok (.iload 5, 2) := by decide +kernel
theorem dX11_shift_129 : decode cX11_shift 129 = .ok (.ireturn, 1) := by decide +kernel
theorem dX11_taken_0 : decode cX11_taken 0 = .ok (.iload_n 1, 1) := by decide +kernel
theorem dX11_taken_1 : decode cX11_taken 1 = .ok (.invokestatic 102, 3) := by decide +kernel
theorem dX11_taken_4 : decode cX11_taken 4 = .ok (.ifCond .eq 10, 3) := by decide +kernel
theorem dX11_taken_7 : decode cX11_taken 7 = .ok (.iload_n 2, 1) := by decide +kernel
theorem dX11_taken_8 : decode cX11_taken 8 = .ok (.invokestatic 331, 3) := by decide +kernel
theorem dX11_taken_11 : decode cX11_taken 11 = .ok (.ifCond .ne 5, 3) := by decide +kernel
theorem dX11_taken_14 : decode cX11_taken 14 = .ok (.iconst (-1), 1) := by decide +kernel
theorem dX11_taken_15 : decode cX11_taken 15 = .ok (.ireturn, 1) := by decide +kernel
theorem dX11_taken_16 : decode cX11_taken 16 = .ok (.aload_n 0, 1) := by decide +kernel
theorem dX11_taken_17 : decode cX11_taken 17 = .ok (.getfield 82, 3) := by decide +kernel
theorem dX11_taken_20 : decode cX11_taken 20 = .ok (.iload_n 1, 1) := by decide +kernel
theorem dX11_taken_21 : decode cX11_taken 21 = .ok (.aaload, 1) := by decide +kernel
theorem dX11_taken_22 : decode cX11_taken 22 = .ok (.astore_n 3, 1) := by decide +kernel
theorem dX11_taken_23 : decode cX11_taken 23 = .ok (.aload_n 3, 1) := by decide +kernel
theorem dX11_taken_24 : decode cX11_taken 24 = .ok (.invokevirtual 105, 3) := by decide +kernel
theorem dX11_taken_27 : decode cX11_taken 27 = .ok (.ifCond .eq 6, 3) := by decide +kernel
theorem dX11_taken_30 : decode cX11_taken 30 = .ok (.bipush (-11), 2) := by decide +kernel
theorem dX11_taken_32 : decode cX11_taken 32 = .ok (.ireturn, 1) := by decide +kernel
theorem dX11_taken_33 : decode cX11_taken 33 = .ok (.aload_n 3, 1) := by decide +kernel
theorem dX11_taken_34 : decode cX11_taken 34 = .ok (.invokevirtual 358, 3) := by decide +kernel
theorem dX11_taken_37 : decode cX11_taken 37 = .ok (.ifCond .eq 6, 3) := by decide +kernel
theorem dX11_taken_40 : decode cX11_taken 40 = .ok (.bipush (-12), 2) := by decide +kernel
theorem dX11_taken_42 : decode cX11_taken 42 = .ok (.ireturn, 1) := by decide +kernel
theorem dX11_taken_43 : decode cX11_taken 43 = .ok (.aload_n 0, 1) := by decide +kernel
theorem dX11_taken_44 : decode cX11_taken 44 = .ok (.getfield 76, 3) := by decide +kernel
theorem dX11_taken_47 : decode cX11_taken 47 = .ok (.aload_n 3, 1) := by decide +kernel
theorem dX11_taken_48 : decode cX11_taken 48 = .ok (.getfield 377, 3) := by decide +kernel
theorem dX11_taken_51 : decode cX11_taken 51 = .ok (.invokevirtual 380, 3) := by decide +kernel
theorem dX11_taken_54 : decode cX11_taken 54 = .ok (.istore 4, 2) := by decide +kernel
theorem dX11_taken_56 : decode cX11_taken 56 = .ok (.iload 4, 2) := by decide +kernel
theorem dX11_taken_58 : decode cX11_taken 58 = .ok (.iload_n 2, 1) := by decide +kernel
theorem dX11_taken_59 : decode cX11_taken 59 = .ok (.invokestatic 383, 3) := by decide +kernel
theorem dX11_taken_62 : decode cX11_taken 62 = .ok (.ifCond .eq 8, 3) := by decide +kernel
theorem dX11_taken_65 : decode cX11_taken 65 = .ok (.iload 4, 2) := by decide +kernel
theorem dX11_taken_67 : decode cX11_taken 67 = .ok (.goto 5, 3) := by decide +kernel
theorem dX11_taken_70 : decode cX11_taken 70 = .ok (.bipush (-12), 2) := by decide +kernel
theorem dX11_taken_72 : decode cX11_taken 72 = .ok (.ireturn, 1) := by decide +kernel
theorem dX11_count_0 : decode cX11_count 0 = .ok (.iload_n 1, 1) := by decide +kernel
theorem dX11_count_1 : decode cX11_count 1 = .ok (.tableswitch 105 0 7 #[47, 55, 63, 71, 76, 81, 89, 97], 47) := by decide +kernel
theorem dX11_count_48 : decode cX11_count 48 = .ok (.aload_n 0, 1) := by decide +kernel
theorem dX11_count_49 : decode cX11_count 49 = .ok (.getfield 19, 3) := by decide +kernel
theorem dX11_count_52 : decode cX11_count 52 = .ok (.getfield 197, 3) := by decide +kernel
theorem dX11_count_55 : decode cX11_count 55 = .ok (.ireturn, 1) := by decide +kernel
theorem dX11_count_56 : decode cX11_count 56 = .ok (.aload_n 0, 1) := by decide +kernel
theorem dX11_count_57 : decode cX11_count 57 = .ok (.getfield 10, 3) := by decide +kernel
theorem dX11_count_60 : decode cX11_count 60 = .ok (.getfield 249, 3) := by decide +kernel
theorem dX11_count_63 : decode cX11_count 63 = .ok (.ireturn, 1) := by decide +kernel
theorem dX11_count_64 : decode cX11_count 64 = .ok (.aload_n 0, 1) := by decide +kernel
theorem dX11_count_65 : decode cX11_count 65 = .ok (.getfield 39, 3) := by decide +kernel
theorem dX11_count_68 : decode cX11_count 68 = .ok (.getfield 167, 3) := by decide +kernel
theorem dX11_count_71 : decode cX11_count 71 = .ok (.ireturn, 1) := by decide +kernel
theorem dX11_count_72 : decode cX11_count 72 = .ok (.aload_n 0, 1) := by decide +kernel
theorem dX11_count_73 : decode cX11_count 73 = .ok (.invokevirtual 216, 3) := by decide +kernel
theorem dX11_count_76 : decode cX11_count 76 = .ok (.ireturn, 1) := by decide +kernel
theorem dX11_count_77 : decode cX11_count 77 = .ok (.aload_n 0, 1) := by decide +kernel
theorem dX11_count_78 : decode cX11_count 78 = .ok (.getfield 177, 3) := by decide +kernel
theorem dX11_count_81 : decode cX11_count 81 = .ok (.ireturn, 1) := by decide +kernel
theorem dX11_count_82 : decode cX11_count 82 = .ok (.aload_n 0, 1) := by decide +kernel
theorem dX11_count_83 : decode cX11_count 83 = .ok (.getfield 65, 3) := by decide +kernel
theorem dX11_count_86 : decode cX11_count 86 = .ok (.getfield 386, 3) := by decide +kernel
theorem dX11_count_89 : decode cX11_count 89 = .ok (.ireturn, 1) := by decide +kernel
theorem dX11_count_90 : decode cX11_count 90 = .ok (.aload_n 0, 1) := by decide +kernel
theorem dX11_count_91 : decode cX11_count 91 = .ok (.getfield 76, 3) := by decide +kernel
theorem dX11_count_94 : decode cX11_count 94 = .ok (.getfield 389, 3) := by decide +kernel
theorem dX11_count_97 : decode cX11_count 97 = .ok (.ireturn, 1) := by decide +kernel
theorem dX11_count_98 : decode cX11_count 98 = .ok (.aload_n 0, 1) := by decide +kernel
theorem dX11_count_99 : decode cX11_count 99 = .ok (.getfield 76, 3) := by decide +kernel
theorem dX11_count_102 : decode cX11_count 102 = .ok (.getfield 390, 3) := by decide +kernel
theorem dX11_count_105 : decode cX11_count 105 = .ok (.ireturn, 1) := by decide +kernel
theorem dX11_count_106 : decode cX11_count 106 = .ok (.iconst (-1), 1) := by decide +kernel
theorem dX11_count_107 : decode cX11_count 107 = .ok (.ireturn, 1) := by decide +kernel
theorem dX11_isNumber_0 : decode cX11_isNumber 0 = .ok (.iload_n 0, 1) := by decide +kernel
theorem dX11_isNumber_1 : decode cX11_isNumber 1 = .ok (.iconst 1, 1) := by decide +kernel
theorem dX11_isNumber_2 : decode cX11_isNumber 2 = .ok (.if_icmp .lt 13, 3) := by decide +kernel
theorem dX11_isNumber_5 : decode cX11_isNumber 5 = .ok (.iload_n 0, 1) := by decide +kernel
theorem dX11_isNumber_6 : decode cX11_isNumber 6 = .ok (.bipush 6, 2) := by decide +kernel
theorem dX11_isNumber_8 : decode cX11_isNumber 8 = .ok (.if_icmp .gt 7, 3) := by decide +kernel
theorem dX11_isNumber_11 : decode cX11_isNumber 11 = .ok (.iconst 1, 1) := by decide +kernel
theorem dX11_isNumber_12 : decode cX11_isNumber 12 = .ok (.goto 4, 3) := by decide +kernel
theorem dX11_isNumber_15 : decode cX11_isNumber 15 = .ok (.iconst 0, 1) := by decide +kernel
theorem dX11_isNumber_16 : decode cX11_isNumber 16 = .ok (.ireturn, 1) := by decide +kernel
theorem dX11_isTime_0 : decode cX11_isTime 0 = .ok (.iload_n 0, 1) := by decide +kernel
theorem dX11_isTime_1 : decode cX11_isTime 1 = .ok (.ifCond .lt 13, 3) := by decide +kernel
theorem dX11_isTime_4 : decode cX11_isTime 4 = .ok (.iload_n 0, 1) := by decide +kernel
theorem dX11_isTime_5 : decode cX11_isTime 5 = .ok (.bipush 60, 2) := by decide +kernel
theorem dX11_isTime_7 : decode cX11_isTime 7 = .ok (.if_icmp .ge 7, 3) := by decide +kernel
theorem dX11_isTime_10 : decode cX11_isTime 10 = .ok (.iconst 1, 1) := by decide +kernel
theorem dX11_isTime_11 : decode cX11_isTime 11 = .ok (.goto 4, 3) := by decide +kernel
theorem dX11_isTime_14 : decode cX11_isTime 14 = .ok (.iconst 0, 1) := by decide +kernel
theorem dX11_isTime_15 : decode cX11_isTime 15 = .ok (.ireturn, 1) := by decide +kernel
theorem dX11_isWay_0 : decode cX11_isWay 0 = .ok (.iload_n 0, 1) := by decide +kernel
theorem dX11_isWay_1 : decode cX11_isWay 1 = .ok (.ifCond .lt 12, 3) := by decide +kernel
theorem dX11_isWay_4 : decode cX11_isWay 4 = .ok (.iload_n 0, 1) := by decide +kernel
theorem dX11_isWay_5 : decode cX11_isWay 5 = .ok (.iconst 2, 1) := by decide +kernel
theorem dX11_isWay_6 : decode cX11_isWay 6 = .ok (.if_icmp .gt 7, 3) := by decide +kernel
theorem dX11_isWay_9 : decode cX11_isWay 9 = .ok (.iconst 1, 1) := by decide +kernel
theorem dX11_isWay_10 : decode cX11_isWay 10 = .ok (.goto 4, 3) := by decide +kernel
theorem dX11_isWay_13 : decode cX11_isWay 13 = .ok (.iconst 0, 1) := by decide +kernel
theorem dX11_isWay_14 : decode cX11_isWay 14 = .ok (.ireturn, 1) := by decide +kernel
theorem dX11_isShelf_0 : decode cX11_isShelf 0 = .ok (.iload_n 0, 1) := by decide +kernel
theorem dX11_isShelf_1 : decode cX11_isShelf 1 = .ok (.ifCond .lt 13, 3) := by decide +kernel
theorem dX11_isShelf_4 : decode cX11_isShelf 4 = .ok (.iload_n 0, 1) := by decide +kernel
theorem dX11_isShelf_5 : decode cX11_isShelf 5 = .ok (.bipush 6, 2) := by decide +kernel
theorem dX11_isShelf_7 : decode cX11_isShelf 7 = .ok (.if_icmp .ge 7, 3) := by decide +kernel
theorem dX11_isShelf_10 : decode cX11_isShelf 10 = .ok (.iconst 1, 1) := by decide +kernel
theorem dX11_isShelf_11 : decode cX11_isShelf 11 = .ok (.goto 4, 3) := by decide +kernel
theorem dX11_isShelf_14 : decode cX11_isShelf 14 = .ok (.iconst 0, 1) := by decide +kernel
theorem dX11_isShelf_15 : decode cX11_isShelf 15 = .ok (.ireturn, 1) := by decide +kernel
theorem dX11_isWithinOf_0 : decode cX11_isWithinOf 0 = .ok (.iload_n 0, 1) := by decide +kernel
theorem dX11_isWithinOf_1 : decode cX11_isWithinOf 1 = .ok (.ifCond .lt 27, 3) := by decide +kernel
theorem dX11_isWithinOf_4 : decode cX11_isWithinOf 4 = .ok (.iload_n 0, 1) := by decide +kernel
theorem dX11_isWithinOf_5 : decode cX11_isWithinOf 5 = .ok (.bipush 100, 2) := by decide +kernel
theorem dX11_isWithinOf_7 : decode cX11_isWithinOf 7 = .ok (.irem, 1) := by decide +kernel
theorem dX11_isWithinOf_8 : decode cX11_isWithinOf 8 = .ok (.bipush 40, 2) := by decide +kernel
theorem dX11_isWithinOf_10 : decode cX11_isWithinOf 10 = .ok (.if_icmp .gt 18, 3) := by decide +kernel
theorem dX11_isWithinOf_13 : decode cX11_isWithinOf 13 = .ok (.iload_n 0, 1) := by decide +kernel
theorem dX11_isWithinOf_14 : decode cX11_isWithinOf 14 = .ok (.bipush 100, 2) := by decide +kernel
theorem dX11_isWithinOf_16 : decode cX11_isWithinOf 16 = .ok (.idiv, 1) := by decide +kernel
theorem dX11_isWithinOf_17 : decode cX11_isWithinOf 17 = .ok (.iload_n 0, 1) := by decide +kernel
theorem dX11_isWithinOf_18 : decode cX11_isWithinOf 18 = .ok (.bipush 100, 2) := by decide +kernel
theorem dX11_isWithinOf_20 : decode cX11_isWithinOf 20 = .ok (.irem, 1) := by decide +kernel
theorem dX11_isWithinOf_21 : decode cX11_isWithinOf 21 = .ok (.if_icmp .gt 7, 3) := by decide +kernel
theorem dX11_isWithinOf_24 : decode cX11_isWithinOf 24 = .ok (.iconst 1, 1) := by decide +kernel
theorem dX11_isWithinOf_25 : decode cX11_isWithinOf 25 = .ok (.goto 4, 3) := by decide +kernel
theorem dX11_isWithinOf_28 : decode cX11_isWithinOf 28 = .ok (.iconst 0, 1) := by decide +kernel
theorem dX11_isWithinOf_29 : decode cX11_isWithinOf 29 = .ok (.ireturn, 1) := by decide +kernel
theorem dX11_isGateAndWay_0 : decode cX11_isGateAndWay 0 = .ok (.iload_n 1, 1) := by decide +kernel
theorem dX11_isGateAndWay_1 : decode cX11_isGateAndWay 1 = .ok (.ifCond .lt 29, 3) := by decide +kernel
theorem dX11_isGateAndWay_4 : decode cX11_isGateAndWay 4 = .ok (.aload_n 0, 1) := by decide +kernel
theorem dX11_isGateAndWay_5 : decode cX11_isGateAndWay 5 = .ok (.getfield 10, 3) := by decide +kernel
theorem dX11_isGateAndWay_8 : decode cX11_isGateAndWay 8 = .ok (.iload_n 1, 1) := by decide +kernel
theorem dX11_isGateAndWay_9 : decode cX11_isGateAndWay 9 = .ok (.bipush 10, 2) := by decide +kernel
theorem dX11_isGateAndWay_11 : decode cX11_isGateAndWay 11 = .ok (.idiv, 1) := by decide +kernel
theorem dX11_isGateAndWay_12 : decode cX11_isGateAndWay 12 = .ok (.invokevirtual 143, 3) := by decide +kernel
theorem dX11_isGateAndWay_15 : decode cX11_isGateAndWay 15 = .ok (.ifCond .eq 15, 3) := by decide +kernel
theorem dX11_isGateAndWay_18 : decode cX11_isGateAndWay 18 = .ok (.iload_n 1, 1) := by decide +kernel
theorem dX11_isGateAndWay_19 : decode cX11_isGateAndWay 19 = .ok (.bipush 10, 2) := by decide +kernel
theorem dX11_isGateAndWay_21 : decode cX11_isGateAndWay 21 = .ok (.irem, 1) := by decide +kernel
theorem dX11_isGateAndWay_22 : decode cX11_isGateAndWay 22 = .ok (.iconst 1, 1) := by decide +kernel
theorem dX11_isGateAndWay_23 : decode cX11_isGateAndWay 23 = .ok (.if_icmp .gt 7, 3) := by decide +kernel
theorem dX11_isGateAndWay_26 : decode cX11_isGateAndWay 26 = .ok (.iconst 1, 1) := by decide +kernel
theorem dX11_isGateAndWay_27 : decode cX11_isGateAndWay 27 = .ok (.goto 4, 3) := by decide +kernel
theorem dX11_isGateAndWay_30 : decode cX11_isGateAndWay 30 = .ok (.iconst 0, 1) := by decide +kernel
theorem dX11_isGateAndWay_31 : decode cX11_isGateAndWay 31 = .ok (.ireturn, 1) := by decide +kernel
theorem dX11_bit_0 : decode cX11_bit 0 = .ok (.iload_n 0, 1) := by decide +kernel
theorem dX11_bit_1 : decode cX11_bit 1 = .ok (.iload_n 1, 1) := by decide +kernel
theorem dX11_bit_2 : decode cX11_bit 2 = .ok (.ishr, 1) := by decide +kernel
theorem dX11_bit_3 : decode cX11_bit 3 = .ok (.iconst 1, 1) := by decide +kernel
theorem dX11_bit_4 : decode cX11_bit 4 = .ok (.iand, 1) := by decide +kernel
theorem dX11_bit_5 : decode cX11_bit 5 = .ok (.ireturn, 1) := by decide +kernel
theorem dX12_init_0 : decode cX12_init 0 = .ok (.aload_n 0, 1) := by decide +kernel
theorem dX12_init_1 : decode cX12_init 1 = .ok (.invokespecial 1, 3) := by decide +kernel
theorem dX12_init_4 : decode cX12_init 4 = .ok (.aload_n 0, 1) := by decide +kernel
theorem dX12_init_5 : decode cX12_init 5 = .ok (.iconst 3, 1) := by decide +kernel
theorem dX12_init_6 : decode cX12_init 6 = .ok (.newarray .int, 2) := by decide +kernel
theorem dX12_init_8 : decode cX12_init 8 = .ok (.putfield 7, 3) := by decide +kernel
theorem dX12_init_11 : decode cX12_init 11 = .ok (.aload_n 0, 1) := by decide +kernel
theorem dX12_init_12 : decode cX12_init 12 = .ok (.bipush 12, 2) := by decide +kernel
theorem dX12_init_14 : decode cX12_init 14 = .ok (.newarray .int, 2) := by decide +kernel
theorem dX12_init_16 : decode cX12_init 16 = .ok (.putfield 13, 3) := by decide +kernel
theorem dX12_init_19 : decode cX12_init 19 = .ok (.aload_n 0, 1) := by decide +kernel
theorem dX12_init_20 : decode cX12_init 20 = .ok (.bipush 12, 2) := by decide +kernel
theorem dX12_init_22 : decode cX12_init 22 = .ok (.newarray .int, 2) := by decide +kernel
theorem dX12_init_24 : decode cX12_init 24 = .ok (.putfield 16, 3) := by decide +kernel
theorem dX12_init_27 : decode cX12_init 27 = .ok (.aload_n 0, 1) := by decide +kernel
theorem dX12_init_28 : decode cX12_init 28 = .ok (.bipush 12, 2) := by decide +kernel
theorem dX12_init_30 : decode cX12_init 30 = .ok (.newarray .int, 2) := by decide +kernel
theorem dX12_init_32 : decode cX12_init 32 = .ok (.putfield 19, 3) := by decide +kernel
theorem dX12_init_35 : decode cX12_init 35 = .ok (.aload_n 0, 1) := by decide +kernel
theorem dX12_init_36 : decode cX12_init 36 = .ok (.bipush 12, 2) := by decide +kernel
theorem dX12_init_38 : decode cX12_init 38 = .ok (.newarray .int, 2) := by decide +kernel
theorem dX12_init_40 : decode cX12_init 40 = .ok (.putfield 22, 3) := by decide +kernel
theorem dX12_init_43 : decode cX12_init 43 = .ok (.aload_n 0, 1) := by decide +kernel
theorem dX12_init_44 : decode cX12_init 44 = .ok (.bipush 40, 2) := by decide +kernel
theorem dX12_init_46 : decode cX12_init 46 = .ok (.newarray .int, 2) := by decide +kernel
theorem dX12_init_48 : decode cX12_init 48 = .ok (.putfield 25, 3) := by decide +kernel
theorem dX12_init_51 : decode cX12_init 51 = .ok (.aload_n 0, 1) := by decide +kernel
theorem dX12_init_52 : decode cX12_init 52 = .ok (.bipush 40, 2) := by decide +kernel
theorem dX12_init_54 : decode cX12_init 54 = .ok (.newarray .int, 2) := by decide +kernel
theorem dX12_init_56 : decode cX12_init 56 = .ok (.putfield 28, 3) := by decide +kernel
theorem dX12_init_59 : decode cX12_init 59 = .ok (.aload_n 0, 1) := by decide +kernel
theorem dX12_init_60 : decode cX12_init 60 = .ok (.bipush 40, 2) := by decide +kernel
theorem dX12_init_62 : decode cX12_init 62 = .ok (.newarray .int, 2) := by decide +kernel
theorem dX12_init_64 : decode cX12_init 64 = .ok (.putfield 31, 3) := by decide +kernel
theorem dX12_init_67 : decode cX12_init 67 = .ok (.aload_n 0, 1) := by decide +kernel
theorem dX12_init_68 : decode cX12_init 68 = .ok (.bipush 40, 2) := by decide +kernel
theorem dX12_init_70 : decode cX12_init 70 = .ok (.newarray .int, 2) := by decide +kernel
theorem dX12_init_72 : decode cX12_init 72 = .ok (.putfield 34, 3) := by decide +kernel
theorem dX12_init_75 : decode cX12_init 75 = .ok (.aload_n 0, 1) := by decide +kernel
theorem dX12_init_76 : decode cX12_init 76 = .ok (.bipush 120, 2) := by decide +kernel
theorem dX12_init_78 : decode cX12_init 78 = .ok (.newarray .byte, 2) := by decide +kernel
theorem dX12_init_80 : decode cX12_init 80 = .ok (.putfield 37, 3) := by decide +kernel
theorem dX12_init_83 : decode cX12_init 83 = .ok (.aload_n 0, 1) := by decide +kernel
theorem dX12_init_84 : decode cX12_init 84 = .ok (.sipush 390, 3) := by decide +kernel
theorem dX12_init_87 : decode cX12_init 87 = .ok (.newarray .byte, 2) := by decide +kernel
theorem dX12_init_89 : decode cX12_init 89 = .ok (.putfield 41, 3) := by decide +kernel
theorem dX12_init_92 : decode cX12_init 92 = .ok (.aload_n 0, 1) := by decide +kernel
theorem dX12_init_93 : decode cX12_init 93 = .ok (.sipush 390, 3) := by decide +kernel
theorem dX12_init_96 : decode cX12_init 96 = .ok (.newarray .int, 2) := by decide +kernel
theorem dX12_init_98 : decode cX12_init 98 = .ok (.putfield 44, 3) := by decide +kernel
theorem dX12_init_101 : decode cX12_init 101 = .ok (.aload_n 0, 1) := by decide +kernel
theorem dX12_init_102 : decode cX12_init 102 = .ok (.iconst 3, 1) := by decide +kernel
theorem dX12_init_103 : decode cX12_init 103 = .ok (.newarray .int, 2) := by decide +kernel
theorem dX12_init_105 : decode cX12_init 105 = .ok (.putfield 47, 3) := by decide +kernel
theorem dX12_init_108 : decode cX12_init 108 = .ok (.aload_n 0, 1) := by decide +kernel
theorem dX12_init_109 : decode cX12_init 109 = .ok (.sipush 183, 3) := by decide +kernel
theorem dX12_init_112 : decode cX12_init 112 = .ok (.newarray .short, 2) := by decide +kernel
theorem dX12_init_114 : decode cX12_init 114 = .ok (.putfield 50, 3) := by decide +kernel
theorem dX12_init_117 : decode cX12_init 117 = .ok (.aload_n 0, 1) := by decide +kernel
theorem dX12_init_118 : decode cX12_init 118 = .ok (.sipush 183, 3) := by decide +kernel
theorem dX12_init_121 : decode cX12_init 121 = .ok (.newarray .short, 2) := by decide +kernel
theorem dX12_init_123 : decode cX12_init 123 = .ok (.putfield 54, 3) := by decide +kernel
theorem dX12_init_126 : decode cX12_init 126 = .ok (.aload_n 0, 1) := by decide +kernel
theorem dX12_init_127 : decode cX12_init 127 = .ok (.bipush 6, 2) := by decide +kernel
theorem dX12_init_129 : decode cX12_init 129 = .ok (.newarray .int, 2) := by decide +kernel
theorem dX12_init_131 : decode cX12_init 131 = .ok (.putfield 57, 3) := by decide +kernel
theorem dX12_init_134 : decode cX12_init 134 = .ok (.aload_n 0, 1) := by decide +kernel
theorem dX12_init_135 : decode cX12_init 135 = .ok (.sipush 130, 3) := by decide +kernel
theorem dX12_init_138 : decode cX12_init 138 = .ok (.newarray .int, 2) := by decide +kernel
theorem dX12_init_140 : decode cX12_init 140 = .ok (.putfield 60, 3) := by decide +kernel
theorem dX12_init_143 : decode cX12_init 143 = .ok (.aload_n 0, 1) := by decide +kernel
theorem dX12_init_144 : decode cX12_init 144 = .ok (.iconst 2, 1) := by decide +kernel
theorem dX12_init_145 : decode cX12_init 145 = .ok (.newarray .boolean, 2) := by decide +kernel
theorem dX12_init_147 : decode cX12_init 147 = .ok (.putfield 63, 3) := by decide +kernel
theorem dX12_init_150 : decode cX12_init 150 = .ok (.aload_n 0, 1) := by decide +kernel
theorem dX12_init_151 : decode cX12_init 151 = .ok (.bipush 12, 2) := by decide +kernel
theorem dX12_init_153 : decode cX12_init 153 = .ok (.newarray .int, 2) := by decide +kernel
theorem dX12_init_155 : decode cX12_init 155 = .ok (.putfield 67, 3) := by decide +kernel
theorem dX12_init_158 : decode cX12_init 158 = .ok (.aload_n 0, 1) := by decide +kernel
theorem dX12_init_159 : decode cX12_init 159 = .ok (.bipush 12, 2) := by decide +kernel
theorem dX12_init_161 : decode cX12_init 161 = .ok (.newarray .int, 2) := by decide +kernel
theorem dX12_init_163 : decode cX12_init 163 = .ok (.putfield 70, 3) := by decide +kernel
theorem dX12_init_166 : decode cX12_init 166 = .ok (.aload_n 0, 1) := by decide +kernel
theorem dX12_init_167 : decode cX12_init 167 = .ok (.sipush 1024, 3) := by decide +kernel
theorem dX12_init_170 : decode cX12_init 170 = .ok (.newarray .int, 2) := by decide +kernel
theorem dX12_init_172 : decode cX12_init 172 = .ok (.putfield 73, 3) := by decide +kernel
theorem dX12_init_175 : decode cX12_init 175 = .ok (.aload_n 0, 1) := by decide +kernel
theorem dX12_init_176 : decode cX12_init 176 = .ok (.sipush 1024, 3) := by decide +kernel
theorem dX12_init_179 : decode cX12_init 179 = .ok (.newarray .int, 2) := by decide +kernel
theorem dX12_init_181 : decode cX12_init 181 = .ok (.putfield 76, 3) := by decide +kernel
theorem dX12_init_184 : decode cX12_init 184 = .ok (.aload_n 0, 1) := by decide +kernel
theorem dX12_init_185 : decode cX12_init 185 = .ok (.bipush 41, 2) := by decide +kernel
theorem dX12_init_187 : decode cX12_init 187 = .ok (.newarray .int, 2) := by decide +kernel
theorem dX12_init_189 : decode cX12_init 189 = .ok (.putfield 79, 3) := by decide +kernel
theorem dX12_init_192 : decode cX12_init 192 = .ok (.aload_n 0, 1) := by decide +kernel
theorem dX12_init_193 : decode cX12_init 193 = .ok (.bipush 100, 2) := by decide +kernel
theorem dX12_init_195 : decode cX12_init 195 = .ok (.newarray .int, 2) := by decide +kernel
theorem dX12_init_197 : decode cX12_init 197 = .ok (.putfield 82, 3) := by decide +kernel
theorem dX12_init_200 : decode cX12_init 200 = .ok (.aload_n 0, 1) := by decide +kernel
theorem dX12_init_201 : decode cX12_init 201 = .ok (.bipush 12, 2) := by decide +kernel
theorem dX12_init_203 : decode cX12_init 203 = .ok (.newarray .int, 2) := by decide +kernel
theorem dX12_init_205 : decode cX12_init 205 = .ok (.putfield 85, 3) := by decide +kernel
theorem dX12_init_208 : decode cX12_init 208 = .ok (.aload_n 0, 1) := by decide +kernel
theorem dX12_init_209 : decode cX12_init 209 = .ok (.bipush 50, 2) := by decide +kernel
theorem dX12_init_211 : decode cX12_init 211 = .ok (.newarray .int, 2) := by decide +kernel
theorem dX12_init_213 : decode cX12_init 213 = .ok (.putfield 88, 3) := by decide +kernel
theorem dX12_init_216 : decode cX12_init 216 = .ok (.aload_n 0, 1) := by decide +kernel
theorem dX12_init_217 : decode cX12_init 217 = .ok (.bipush 24, 2) := by decide +kernel
theorem dX12_init_219 : decode cX12_init 219 = .ok (.newarray .int, 2) := by decide +kernel
theorem dX12_init_221 : decode cX12_init 221 = .ok (.putfield 91, 3) := by decide +kernel
theorem dX12_init_224 : decode cX12_init 224 = .ok (.aload_n 0, 1) := by decide +kernel
theorem dX12_init_225 : decode cX12_init 225 = .ok (.bipush 6, 2) := by decide +kernel
theorem dX12_init_227 : decode cX12_init 227 = .ok (.newarray .int, 2) := by decide +kernel
theorem dX12_init_229 : decode cX12_init 229 = .ok (.dup, 1) := by decide +kernel
theorem dX12_init_230 : decode cX12_init 230 = .ok (.iconst 0, 1) := by decide +kernel
theorem dX12_init_231 : decode cX12_init 231 = .ok (.iconst (-1), 1) := by decide +kernel
theorem dX12_init_232 : decode cX12_init 232 = .ok (.iastore, 1) := by decide +kernel
theorem dX12_init_233 : decode cX12_init 233 = .ok (.dup, 1) := by decide +kernel
theorem dX12_init_234 : decode cX12_init 234 = .ok (.iconst 1, 1) := by decide +kernel
theorem dX12_init_235 : decode cX12_init 235 = .ok (.iconst (-1), 1) := by decide +kernel
theorem dX12_init_236 : decode cX12_init 236 = .ok (.iastore, 1) := by decide +kernel
theorem dX12_init_237 : decode cX12_init 237 = .ok (.dup, 1) := by decide +kernel
theorem dX12_init_238 : decode cX12_init 238 = .ok (.iconst 2, 1) := by decide +kernel
theorem dX12_init_239 : decode cX12_init 239 = .ok (.iconst (-1), 1) := by decide +kernel
theorem dX12_init_240 : decode cX12_init 240 = .ok (.iastore, 1) := by decide +kernel
theorem dX12_init_241 : decode cX12_init 241 = .ok (.dup, 1) := by decide +kernel
theorem dX12_init_242 : decode cX12_init 242 = .ok (.iconst 3, 1) := by decide +kernel
theorem dX12_init_243 : decode cX12_init 243 = .ok (.iconst (-1), 1) := by decide +kernel
theorem dX12_init_244 : decode cX12_init 244 = .ok (.iastore, 1) := by decide +kernel
theorem dX12_init_245 : decode cX12_init 245 = .ok (.dup, 1) := by decide +kernel
theorem dX12_init_246 : decode cX12_init 246 = .ok (.iconst 4, 1) := by decide +kernel
theorem dX12_init_247 : decode cX12_init 247 = .ok (.iconst (-1), 1) := by decide +kernel
theorem dX12_init_248 : decode cX12_init 248 = .ok (.iastore, 1) := by decide +kernel
theorem dX12_init_249 : decode cX12_init 249 = .ok (.dup, 1) := by decide +kernel
theorem dX12_init_250 : decode cX12_init 250 = .ok (.iconst 5, 1) := by decide +kernel
theorem dX12_init_251 : decode cX12_init 251 = .ok (.iconst (-1), 1) := by decide +kernel
theorem dX12_init_252 : decode cX12_init 252 = .ok (.iastore, 1) := by decide +kernel
theorem dX12_init_253 : decode cX12_init 253 = .ok (.putfield 94, 3) := by decide +kernel
theorem dX12_init_256 : decode cX12_init 256 = .ok (.aload_n 0, 1) := by decide +kernel
theorem dX12_init_257 : decode cX12_init 257 = .ok (.bipush 6, 2) := by decide +kernel
theorem dX12_init_259 : decode cX12_init 259 = .ok (.newarray .int, 2) := by decide +kernel
theorem dX12_init_261 : decode cX12_init 261 = .ok (.putfield 97, 3) := by decide +kernel
theorem dX12_init_264 : decode cX12_init 264 = .ok (.aload_n 0, 1) := by decide +kernel
theorem dX12_init_265 : decode cX12_init 265 = .ok (.sipush 360, 3) := by decide +kernel
theorem dX12_init_268 : decode cX12_init 268 = .ok (.newarray .long, 2) := by decide +kernel
theorem dX12_init_270 : decode cX12_init 270 = .ok (.putfield 100, 3) := by decide +kernel
theorem dX12_init_273 : decode cX12_init 273 = .ok (.aload_n 0, 1) := by decide +kernel
theorem dX12_init_274 : decode cX12_init 274 = .ok (.bipush 60, 2) := by decide +kernel
theorem dX12_init_276 : decode cX12_init 276 = .ok (.newarray .long, 2) := by decide +kernel
theorem dX12_init_278 : decode cX12_init 278 = .ok (.putfield 104, 3) := by decide +kernel
theorem dX12_init_281 : decode cX12_init 281 = .ok (.return_, 1) := by decide +kernel
theorem dX12_in_0 : decode cX12_in 0 = .ok (.iload_n 0, 1) := by decide +kernel
theorem dX12_in_1 : decode cX12_in 1 = .ok (.iload_n 1, 1) := by decide +kernel
theorem dX12_in_2 : decode cX12_in 2 = .ok (.if_icmp .lt 12, 3) := by decide +kernel
theorem dX12_in_5 : decode cX12_in 5 = .ok (.iload_n 0, 1) := by decide +kernel
theorem dX12_in_6 : decode cX12_in 6 = .ok (.iload_n 2, 1) := by decide +kernel
theorem dX12_in_7 : decode cX12_in 7 = .ok (.if_icmp .gt 7, 3) := by decide +kernel
theorem dX12_in_10 : decode cX12_in 10 = .ok (.iconst 1, 1) := by decide +kernel
theorem dX12_in_11 : decode cX12_in 11 = .ok (.goto 4, 3) := by decide +kernel
theorem dX12_in_14 : decode cX12_in 14 = .ok (.iconst 0, 1) := by decide +kernel
theorem dX12_in_15 : decode cX12_in 15 = .ok (.ireturn, 1) := by decide +kernel
theorem dX12_bitsOf_0 : decode cX12_bitsOf 0 = .ok (.iconst 0, 1) := by decide +kernel
theorem dX12_bitsOf_1 : decode cX12_bitsOf 1 = .ok (.istore_n 1, 1) := by decide +kernel
theorem dX12_bitsOf_2 : decode cX12_bitsOf 2 = .ok (.iload_n 0, 1) := by decide +kernel
theorem dX12_bitsOf_3 : decode cX12_bitsOf 3 = .ok (.istore_n 2, 1) := by decide +kernel
theorem dX12_bitsOf_4 : decode cX12_bitsOf 4 = .ok (.iload_n 2, 1) := by decide +kernel
theorem dX12_bitsOf_5 : decode cX12_bitsOf 5 = .ok (.ifCond .eq 15, 3) := by decide +kernel
theorem dX12_bitsOf_8 : decode cX12_bitsOf 8 = .ok (.iinc 1 1, 3) := by decide +kernel
theorem dX12_bitsOf_11 : decode cX12_bitsOf 11 = .ok (.iload_n 2, 1) := by decide +kernel
theorem dX12_bitsOf_12 : decode cX12_bitsOf 12 = .ok (.iload_n 2, 1) := by decide +kernel
theorem dX12_bitsOf_13 : decode cX12_bitsOf 13 = .ok (.iconst 1, 1) := by decide +kernel
theorem dX12_bitsOf_14 : decode cX12_bitsOf 14 = .ok (.isub, 1) := by decide +kernel
theorem dX12_bitsOf_15 : decode cX12_bitsOf 15 = .ok (.iand, 1) := by decide +kernel
theorem dX12_bitsOf_16 : decode cX12_bitsOf 16 = .ok (.istore_n 2, 1) := by decide +kernel
theorem dX12_bitsOf_17 : decode cX12_bitsOf 17 = .ok (.goto (-13), 3) := by decide +kernel
theorem dX12_bitsOf_20 : decode cX12_bitsOf 20 = .ok (.iload_n 1, 1) := by decide +kernel
theorem dX12_bitsOf_21 : decode cX12_bitsOf 21 = .ok (.ireturn, 1) := by decide +kernel
theorem dX12_isGate_0 : decode cX12_isGate 0 = .ok (.iload_n 1, 1) := by decide +kernel
theorem dX12_isGate_1 : decode cX12_isGate 1 = .ok (.iconst 0, 1) := by decide +kernel
theorem dX12_isGate_2 : decode cX12_isGate 2 = .ok (.aload_n 0, 1) := by decide +kernel
theorem dX12_isGate_3 : decode cX12_isGate 3 = .ok (.getfield 111, 3) := by decide +kernel
theorem dX12_isGate_6 : decode cX12_isGate 6 = .ok (.iconst 1, 1) := by decide +kernel
theorem dX12_isGate_7 : decode cX12_isGate 7 = .ok (.isub, 1) := by decide +kernel
theorem dX12_isGate_8 : decode cX12_isGate 8 = .ok (.invokestatic 114, 3) := by decide +kernel
theorem dX12_isGate_11 : decode cX12_isGate 11 = .ok (.ireturn, 1) := by decide +kernel
theorem dX12_isPerson_0 : decode cX12_isPerson 0 = .ok (.iload_n 1, 1) := by decide +kernel
theorem dX12_isPerson_1 : decode cX12_isPerson 1 = .ok (.iconst 0, 1) := by decide +kernel
theorem dX12_isPerson_2 : decode cX12_isPerson 2 = .ok (.aload_n 0, 1) := by decide +kernel
theorem dX12_isPerson_3 : decode cX12_isPerson 3 = .ok (.getfield 118, 3) := by decide +kernel
theorem dX12_isPerson_6 : decode cX12_isPerson 6 = .ok (.iconst 1, 1) := by decide +kernel
theorem dX12_isPerson_7 : decode cX12_isPerson 7 = .ok (.isub, 1) := by decide +kernel
theorem dX12_isPerson_8 : decode cX12_isPerson 8 = .ok (.invokestatic 114, 3) := by decide +kernel
theorem dX12_isPerson_11 : decode cX12_isPerson 11 = .ok (.ireturn, 1) := by decide +kernel
theorem dX12_isTime_0 : decode cX12_isTime 0 = .ok (.iload_n 0, 1) := by decide +kernel
theorem dX12_isTime_1 : decode cX12_isTime 1 = .ok (.iconst 0, 1) := by decide +kernel
theorem dX12_isTime_2 : decode cX12_isTime 2 = .ok (.bipush 59, 2) := by decide +kernel
theorem dX12_isTime_4 : decode cX12_isTime 4 = .ok (.invokestatic 114, 3) := by decide +kernel
theorem dX12_isTime_7 : decode cX12_isTime 7 = .ok (.ireturn, 1) := by decide +kernel
theorem dX12_gate_0 : decode cX12_gate 0 = .ok (.iload_n 1, 1) := by decide +kernel
theorem dX12_gate_1 : decode cX12_gate 1 = .ok (.iconst 1, 1) := by decide +kernel
theorem dX12_gate_2 : decode cX12_gate 2 = .ok (.bipush 6, 2) := by decide +kernel
theorem dX12_gate_4 : decode cX12_gate 4 = .ok (.invokestatic 114, 3) := by decide +kernel
theorem dX12_gate_7 : decode cX12_gate 7 = .ok (.ifCond .ne 5, 3) := by decide +kernel
theorem dX12_gate_10 : decode cX12_gate 10 = .ok (.iconst (-1), 1) := by decide +kernel
theorem dX12_gate_11 : decode cX12_gate 11 = .ok (.ireturn, 1) := by decide +kernel
theorem dX12_gate_12 : decode cX12_gate 12 = .ok (.aload_n 0, 1) := by decide +kernel
theorem dX12_gate_13 : decode cX12_gate 13 = .ok (.getfield 111, 3) := by decide +kernel
theorem dX12_gate_16 : decode cX12_gate 16 = .ok (.iconst 3, 1) := by decide +kernel
theorem dX12_gate_17 : decode cX12_gate 17 = .ok (.if_icmp .ne 6, 3) := by decide +kernel
theorem dX12_gate_20 : decode cX12_gate 20 = .ok (.bipush (-3), 2) := by decide +kernel
theorem dX12_gate_22 : decode cX12_gate 22 = .ok (.ireturn, 1) := by decide +kernel
theorem dX12_gate_23 : decode cX12_gate 23 = .ok (.aload_n 0, 1) := by decide +kernel
theorem dX12_gate_24 : decode cX12_gate 24 = .ok (.getfield 7, 3) := by decide +kernel
theorem dX12_gate_27 : decode cX12_gate 27 = .ok (.aload_n 0, 1) := by decide +kernel
theorem dX12_gate_28 : decode cX12_gate 28 = .ok (.getfield 111, 3) := by decide +kernel
theorem dX12_gate_31 : decode cX12_gate 31 = .ok (.iload_n 1, 1) := by decide +kernel
theorem dX12_gate_32 : decode cX12_gate 32 = .ok (.iastore, 1) := by decide +kernel
theorem dX12_gate_33 : decode cX12_gate 33 = .ok (.aload_n 0, 1) := by decide +kernel
theorem dX12_gate_34 : decode cX12_gate 34 = .ok (.dup, 1) := by decide +kernel
theorem dX12_gate_35 : decode cX12_gate 35 = .ok (.getfield 111, 3) := by decide +kernel
theorem dX12_gate_38 : decode cX12_gate 38 = .ok (.iconst 1, 1) := by decide +kernel
theorem dX12_gate_39 : decode cX12_gate 39 = .ok (.iadd, 1) := by decide +kernel
theorem dX12_gate_40 : decode cX12_gate 40 = .ok (.putfield 111, 3) := by decide +kernel
theorem dX12_gate_43 : decode cX12_gate 43 = .ok (.aload_n 0, 1) := by decide +kernel
theorem dX12_gate_44 : decode cX12_gate 44 = .ok (.getfield 111, 3) := by decide +kernel
theorem dX12_gate_47 : decode cX12_gate 47 = .ok (.iconst 1, 1) := by decide +kernel
theorem dX12_gate_48 : decode cX12_gate 48 = .ok (.isub, 1) := by decide +kernel
theorem dX12_gate_49 : decode cX12_gate 49 = .ok (.ireturn, 1) := by decide +kernel
theorem dX12_isPersonSo_0 : decode cX12_isPersonSo 0 = .ok (.iload_n 0, 1) := by decide +kernel
theorem dX12_isPersonSo_1 : decode cX12_isPersonSo 1 = .ok (.invokestatic 121, 3) := by decide +kernel
theorem dX12_isPersonSo_4 : decode cX12_isPersonSo 4 = .ok (.ifCond .eq 29, 3) := by decide +kernel
theorem dX12_isPersonSo_7 : decode cX12_isPersonSo 7 = .ok (.iload_n 1, 1) := by decide +kernel
theorem dX12_isPersonSo_8 : decode cX12_isPersonSo 8 = .ok (.iload_n 0, 1) := by decide +kernel
theorem dX12_isPersonSo_9 : decode cX12_isPersonSo 9 = .ok (.iconst 1, 1) := by decide +kernel
theorem dX12_isPersonSo_10 : decode cX12_isPersonSo 10 = .ok (.iadd, 1) := by decide +kernel
theorem dX12_isPersonSo_11 : decode cX12_isPersonSo 11 = .ok (.bipush 60, 2) := by decide +kernel
theorem dX12_isPersonSo_13 : decode cX12_isPersonSo 13 = .ok (.invokestatic 114, 3) := by decide +kernel
theorem dX12_isPersonSo_16 : decode cX12_isPersonSo 16 = .ok (.ifCond .eq 17, 3) := by decide +kernel
theorem dX12_isPersonSo_19 : decode cX12_isPersonSo 19 = .ok (.iload_n 2, 1) := by decide +kernel
theorem dX12_isPersonSo_20 : decode cX12_isPersonSo 20 = .ok (.iconst 1, 1) := by decide +kernel
theorem dX12_isPersonSo_21 : decode cX12_isPersonSo 21 = .ok (.bipush 9, 2) := by decide +kernel
theorem dX12_isPersonSo_23 : decode cX12_isPersonSo 23 = .ok (.invokestatic 114, 3) := by decide +kernel
theorem dX12_isPersonSo_26 : decode cX12_isPersonSo 26 = .ok (.ifCond .eq 7, 3) := by decide +kernel
theorem dX12_isPersonSo_29 : decode cX12_isPersonSo 29 = .ok (.iconst 1, 1) := by decide +kernel
theorem dX12_isPersonSo_30 : decode cX12_isPersonSo 30 = .ok (.goto 4, 3) := by decide +kernel
theorem dX12_isPersonSo_33 : decode cX12_isPersonSo 33 = .ok (.iconst 0, 1) := by decide +kernel
theorem dX12_isPersonSo_34 : decode cX12_isPersonSo 34 = .ok (.ireturn, 1) := by decide +kernel
theorem dX12_addPerson_0 : decode cX12_addPerson 0 = .ok (.aload_n 0, 1) := by decide +kernel
theorem dX12_addPerson_1 : decode cX12_addPerson 1 = .ok (.getfield 13, 3) := by decide +kernel
theorem dX12_addPerson_4 : decode cX12_addPerson 4 = .ok (.aload_n 0, 1) := by decide +kernel
theorem dX12_addPerson_5 : decode cX12_addPerson 5 = .ok (.getfield 118, 3) := by decide +kernel
theorem dX12_addPerson_8 : decode cX12_addPerson 8 = .ok (.iload_n 1, 1) := by decide +kernel
theorem dX12_addPerson_9 : decode cX12_addPerson 9 = .ok (.iastore, 1) := by decide +kernel
theorem dX12_addPerson_10 : decode cX12_addPerson 10 = .ok (.aload_n 0, 1) := by decide +kernel
theorem dX12_addPerson_11 : decode cX12_addPerson 11 = .ok (.getfield 16, 3) := by decide +kernel
theorem dX12_addPerson_14 : decode cX12_addPerson 14 = .ok (.aload_n 0, 1) := by decide +kernel
theorem dX12_addPerson_15 : decode cX12_addPerson 15 = .ok (.getfield 118, 3) := by decide +kernel
theorem dX12_addPerson_18 : decode cX12_addPerson 18 = .ok (.iload_n 2, 1) := by decide +kernel
theorem dX12_addPerson_19 : decode cX12_addPerson 19 = .ok (.iastore, 1) := by decide +kernel
theorem dX12_addPerson_20 : decode cX12_addPerson 20 = .ok (.aload_n 0, 1) := by decide +kernel
theorem dX12_addPerson_21 : decode cX12_addPerson 21 = .ok (.getfield 19, 3) := by decide +kernel
theorem dX12_addPerson_24 : decode cX12_addPerson 24 = .ok (.aload_n 0, 1) := by decide +kernel
theorem dX12_addPerson_25 : decode cX12_addPerson 25 = .ok (.getfield 118, 3) := by decide +kernel
theorem dX12_addPerson_28 : decode cX12_addPerson 28 = .ok (.iload_n 3, 1) := by decide +kernel
theorem dX12_addPerson_29 : decode cX12_addPerson 29 = .ok (.iastore, 1) := by decide +kernel
theorem dX12_addPerson_30 : decode cX12_addPerson 30 = .ok (.aload_n 0, 1) := by decide +kernel
theorem dX12_addPerson_31 : decode cX12_addPerson 31 = .ok (.getfield 22, 3) := by decide +kernel
theorem dX12_addPerson_34 : decode cX12_addPerson 34 = .ok (.aload_n 0, 1) := by decide +kernel
theorem dX12_addPerson_35 : decode cX12_addPerson 35 = .ok (.getfield 118, 3) := by decide +kernel
theorem dX12_addPerson_38 : decode cX12_addPerson 38 = .ok (.iconst 0, 1) := by decide +kernel
theorem dX12_addPerson_39 : decode cX12_addPerson 39 = .ok (.iastore, 1) := by decide +kernel
theorem dX12_addPerson_40 : decode cX12_addPerson 40 = .ok (.aload_n 0, 1) := by decide +kernel
theorem dX12_addPerson_41 : decode cX12_addPerson 41 = .ok (.dup, 1) := by decide +kernel
theorem dX12_addPerson_42 : decode cX12_addPerson 42 = .ok (.getfield 118, 3) := by decide +kernel
theorem dX12_addPerson_45 : decode cX12_addPerson 45 = .ok (.iconst 1, 1) := by decide +kernel
theorem dX12_addPerson_46 : decode cX12_addPerson 46 = .ok (.iadd, 1) := by decide +kernel
theorem dX12_addPerson_47 : decode cX12_addPerson 47 = .ok (.putfield 118, 3) := by decide +kernel
theorem dX12_addPerson_50 : decode cX12_addPerson 50 = .ok (.aload_n 0, 1) := by decide +kernel
theorem dX12_addPerson_51 : decode cX12_addPerson 51 = .ok (.getfield 118, 3) := by decide +kernel
theorem dX12_addPerson_54 : decode cX12_addPerson 54 = .ok (.iconst 1, 1) := by decide +kernel
theorem dX12_addPerson_55 : decode cX12_addPerson 55 = .ok (.isub, 1) := by decide +kernel
theorem dX12_addPerson_56 : decode cX12_addPerson 56 = .ok (.ireturn, 1) := by decide +kernel
theorem dX12_person_0 : decode cX12_person 0 = .ok (.iload_n 1, 1) := by decide +kernel
theorem dX12_person_1 : decode cX12_person 1 = .ok (.ifCond .lt 18, 3) := by decide +kernel
theorem dX12_person_4 : decode cX12_person 4 = .ok (.iload_n 1, 1) := by decide +kernel
theorem dX12_person_5 : decode cX12_person 5 = .ok (.bipush 100, 2) := by decide +kernel
theorem dX12_person_7 : decode cX12_person 7 = .ok (.idiv, 1) := by decide +kernel
theorem dX12_person_8 : decode cX12_person 8 = .ok (.iload_n 1, 1) := by decide +kernel
theorem dX12_person_9 : decode cX12_person 9 = .ok (.bipush 100, 2) := by decide +kernel
theorem dX12_person_11 : decode cX12_person 11 = .ok (.irem, 1) := by decide +kernel
theorem dX12_person_12 : decode cX12_person 12 = .ok (.iload_n 2, 1) := by decide +kernel
theorem dX12_person_13 : decode cX12_person 13 = .ok (.invokestatic 125, 3) := by decide +kernel
theorem dX12_person_16 : decode cX12_person 16 = .ok (.ifCond .ne 5, 3) := by decide +kernel
theorem dX12_person_19 : decode cX12_person 19 = .ok (.iconst (-1), 1) := by decide +kernel
theorem dX12_person_20 : decode cX12_person 20 = .ok (.ireturn, 1) := by decide +kernel
theorem dX12_person_21 : decode cX12_person 21 = .ok (.aload_n 0, 1) := by decide +kernel
theorem dX12_person_22 : decode cX12_person 22 = .ok (.getfield 118, 3) := by decide +kernel
theorem dX12_person_25 : decode cX12_person 25 = .ok (.bipush 12, 2) := by decide +kernel
theorem dX12_person_27 : decode cX12_person 27 = .ok (.if_icmp .ne 8, 3) := by decide +kernel
theorem dX12_person_30 : decode cX12_person 30 = .ok (.bipush (-3), 2) := by decide +kernel
theorem dX12_person_32 : decode cX12_person 32 = .ok (.goto 16, 3) := by decide +kernel
theorem dX12_person_35 : decode cX12_person 35 = .ok (.aload_n 0, 1) := by decide +kernel
theorem dX12_person_36 : decode cX12_person 36 = .ok (.iload_n 1, 1) := by decide +kernel
theorem dX12_person_37 : decode cX12_person 37 = .ok (.bipush 100, 2) := by decide +kernel
theorem dX12_person_39 : decode cX12_person 39 = .ok (.idiv, 1) := by decide +kernel
theorem dX12_person_40 : decode cX12_person 40 = .ok (.iload_n 1, 1) := by decide +kernel
theorem dX12_person_41 : decode cX12_person 41 = .ok (.bipush 100, 2) := by decide +kernel
theorem dX12_person_43 : decode cX12_person 43 = .ok (.irem, 1) := by decide +kernel
theorem dX12_person_44 : decode cX12_person 44 = .ok (.iload_n 2, 1) := by decide +kernel
theorem dX12_person_45 : decode cX12_person 45 = .ok (.invokevirtual 128, 3) := by decide +kernel
theorem dX12_person_48 : decode cX12_person 48 = .ok (.ireturn, 1) := by decide +kernel
theorem dX12_people_0 : decode cX12_people 0 = .ok (.iload_n 1, 1) := by decide +kernel
theorem dX12_people_1 : decode cX12_people 1 = .ok (.invokestatic 132, 3) := by decide +kernel
theorem dX12_people_4 : decode cX12_people 4 = .ok (.ifCond .eq 13, 3) := by decide +kernel
theorem dX12_people_7 : decode cX12_people 7 = .ok (.iload_n 3, 1) := by decide +kernel
theorem dX12_people_8 : decode cX12_people 8 = .ok (.iconst 1, 1) := by decide +kernel
theorem dX12_people_9 : decode cX12_people 9 = .ok (.bipush 12, 2) := by decide +kernel
theorem dX12_people_11 : decode cX12_people 11 = .ok (.invokestatic 114, 3) := by decide +kernel
theorem dX12_people_14 : decode cX12_people 14 = .ok (.ifCond .ne 5, 3) := by decide +kernel
theorem dX12_people_17 : decode cX12_people 17 = .ok (.iconst (-1), 1) := by decide +kernel
theorem dX12_people_18 : decode cX12_people 18 = .ok (.ireturn, 1) := by decide +kernel
theorem dX12_people_19 : decode cX12_people 19 = .ok (.aload_n 0, 1) := by decide +kernel
theorem dX12_people_20 : decode cX12_people 20 = .ok (.getfield 94, 3) := by decide +kernel
theorem dX12_people_23 : decode cX12_people 23 = .ok (.iload_n 1, 1) := by decide +kernel
theorem dX12_people_24 : decode cX12_people 24 = .ok (.iaload, 1) := by decide +kernel
theorem dX12_people_25 : decode cX12_people 25 = .ok (.iconst (-1), 1) := by decide +kernel
theorem dX12_people_26 : decode cX12_people 26 = .ok (.if_icmp .eq 17, 3) := by decide +kernel
theorem dX12_people_29 : decode cX12_people 29 = .ok (.aload_n 0, 1) := by decide +kernel
theorem dX12_people_30 : decode cX12_people 30 = .ok (.getfield 94, 3) := by decide +kernel
theorem dX12_people_33 : decode cX12_people 33 = .ok (.iload_n 1, 1) := by decide +kernel
theorem dX12_people_34 : decode cX12_people 34 = .ok (.iaload, 1) := by decide +kernel
theorem dX12_people_35 : decode cX12_people 35 = .ok (.bipush (-2), 2) := by decide +kernel
theorem dX12_people_37 : decode cX12_people 37 = .ok (.if_icmp .eq 6, 3) := by decide +kernel
theorem dX12_people_40 : decode cX12_people 40 = .ok (.bipush (-12), 2) := by decide +kernel
theorem dX12_people_42 : decode cX12_people 42 = .ok (.ireturn, 1) := by decide +kernel
theorem dX12_people_43 : decode cX12_people 43 = .ok (.aload_n 0, 1) := by decide +kernel
theorem dX12_people_44 : decode cX12_people 44 = .ok (.getfield 94, 3) := by decide +kernel
theorem dX12_people_47 : decode cX12_people 47 = .ok (.iload_n 1, 1) := by decide +kernel
theorem dX12_people_48 : decode cX12_people 48 = .ok (.iaload, 1) := by decide +kernel
theorem dX12_people_49 : decode cX12_people 49 = .ok (.iconst (-1), 1) := by decide +kernel
theorem dX12_people_50 : decode cX12_people 50 = .ok (.if_icmp .ne 5, 3) := by decide +kernel
theorem dX12_people_53 : decode cX12_people 53 = .ok (.iconst 0, 1) := by decide +kernel
theorem dX12_people_54 : decode cX12_people 54 = .ok (.ireturn, 1) := by decide +kernel
theorem dX12_people_55 : decode cX12_people 55 = .ok (.iconst 0, 1) := by decide +kernel
theorem dX12_people_56 : decode cX12_people 56 = .ok (.istore 4, 2) := by decide +kernel
theorem dX12_people_58 : decode cX12_people 58 = .ok (.iload 4, 2) := by decide +kernel
theorem dX12_people_60 : decode cX12_people 60 = .ok (.iload_n 3, 1) := by decide +kernel
theorem dX12_people_61 : decode cX12_people 61 = .ok (.if_icmp .ge 135, 3) := by decide +kernel
theorem dX12_people_64 : decode cX12_people 64 = .ok (.iload_n 2, 1) := by decide +kernel
theorem dX12_people_65 : decode cX12_people 65 = .ok (.i2l, 1) := by decide +kernel
theorem dX12_people_66 : decode cX12_people 66 = .ok (.iconst 3, 1) := by decide +kernel
theorem dX12_people_67 : decode cX12_people 67 = .ok (.iload 4, 2) := by decide +kernel
theorem dX12_people_69 : decode cX12_people 69 = .ok (.imul, 1) := by decide +kernel
theorem dX12_people_70 : decode cX12_people 70 = .ok (.i2l, 1) := by decide +kernel
theorem dX12_people_71 : decode cX12_people 71 = .ok (.ladd, 1) := by decide +kernel
theorem dX12_people_72 : decode cX12_people 72 = .ok (.lstore 5, 2) := by decide +kernel
theorem dX12_people_74 : decode cX12_people 74 = .ok (.lload 5, 2) := by decide +kernel
theorem dX12_people_76 : decode cX12_people 76 = .ok (.lconst 0, 1) := by decide +kernel
theorem dX12_people_77 : decode cX12_people 77 = .ok (.lcmp, 1) := by decide +kernel
theorem dX12_people_78 : decode cX12_people 78 = .ok (.ifCond .lt 29, 3) := by decide +kernel
theorem dX12_people_81 : decode cX12_people 81 = .ok (.lload 5, 2) := by decide +kernel
theorem dX12_people_83 : decode cX12_people 83 = .ok (.ldc2_w 135, 3) := by decide +kernel
theorem dX12_people_86 : decode cX12_people 86 = .ok (.ladd, 1) := by decide +kernel
theorem dX12_people_87 : decode cX12_people 87 = .ok (.aload_n 0, 1) := by decide +kernel
theorem dX12_people_88 : decode cX12_people 88 = .ok (.getfield 97, 3) := by decide +kernel
theorem dX12_people_91 : decode cX12_people 91 = .ok (.iload_n 1, 1) := by decide +kernel
theorem dX12_people_92 : decode cX12_people 92 = .ok (.iaload, 1) := by decide +kernel
theorem dX12_people_93 : decode cX12_people 93 = .ok (.i2l, 1) := by decide +kernel
theorem dX12_people_94 : decode cX12_people 94 = .ok (.lcmp, 1) := by decide +kernel
theorem dX12_people_95 : decode cX12_people 95 = .ok (.ifCond .ge 12, 3) := by decide +kernel
theorem dX12_people_98 : decode cX12_people 98 = .ok (.aload_n 0, 1) := by decide +kernel
theorem dX12_people_99 : decode cX12_people 99 = .ok (.getfield 118, 3) := by decide +kernel
theorem dX12_people_102 : decode cX12_people 102 = .ok (.bipush 12, 2) := by decide +kernel
theorem dX12_people_104 : decode cX12_people 104 = .ok (.if_icmp .ne 6, 3) := by decide +kernel
theorem dX12_people_107 : decode cX12_people 107 = .ok (.iload 4, 2) := by decide +kernel
theorem dX12_people_109 : decode cX12_people 109 = .ok (.ireturn, 1) := by decide +kernel
theorem dX12_people_110 : decode cX12_people 110 = .ok (.bipush 60, 2) := by decide +kernel
theorem dX12_people_112 : decode cX12_people 112 = .ok (.iload_n 1, 1) := by decide +kernel
theorem dX12_people_113 : decode cX12_people 113 = .ok (.imul, 1) := by decide +kernel
theorem dX12_people_114 : decode cX12_people 114 = .ok (.lload 5, 2) := by decide +kernel
theorem dX12_people_116 : decode cX12_people 116 = .ok (.l2i, 1) := by decide +kernel
theorem dX12_people_117 : decode cX12_people 117 = .ok (.iadd, 1) := by decide +kernel
theorem dX12_people_118 : decode cX12_people 118 = .ok (.istore 7, 2) := by decide +kernel
theorem dX12_people_120 : decode cX12_people 120 = .ok (.aload_n 0, 1) := by decide +kernel
theorem dX12_people_121 : decode cX12_people 121 = .ok (.getfield 100, 3) := by decide +kernel
theorem dX12_people_124 : decode cX12_people 124 = .ok (.iload 7, 2) := by decide +kernel
theorem dX12_people_126 : decode cX12_people 126 = .ok (.laload, 1) := by decide +kernel
theorem dX12_people_127 : decode cX12_people 127 = .ok (.l2i, 1) := by decide +kernel
theorem dX12_people_128 : decode cX12_people 128 = .ok (.aload_n 0, 1) := by decide +kernel
theorem dX12_people_129 : decode cX12_people 129 = .ok (.getfield 100, 3) := by decide +kernel
theorem dX12_people_132 : decode cX12_people 132 = .ok (.iload 7, 2) := by decide +kernel
theorem dX12_people_134 : decode cX12_people 134 = .ok (.iconst 1, 1) := by decide +kernel
theorem dX12_people_135 : decode cX12_people 135 = .ok (.iadd, 1) := by decide +kernel
theorem dX12_people_136 : decode cX12_people 136 = .ok (.laload, 1) := by decide +kernel
theorem dX12_people_137 : decode cX12_people 137 = .ok (.l2i, 1) := by decide +kernel
theorem dX12_people_138 : decode cX12_people 138 = .ok (.aload_n 0, 1) := by decide +kernel
theorem dX12_people_139 : decode cX12_people 139 = .ok (.getfield 100, 3) := by decide +kernel
theorem dX12_people_142 : decode cX12_people 142 = .ok (.iload 7, 2) := by decide +kernel
theorem dX12_people_144 : decode cX12_people 144 = .ok (.iconst 2, 1) := by decide +kernel
theorem dX12_people_145 : decode cX12_people 145 = .ok (.iadd, 1) := by decide +kernel
theorem dX12_people_146 : decode cX12_people 146 = .ok (.laload, 1) := by decide +kernel
theorem dX12_people_147 : decode cX12_people 147 = .ok (.l2i, 1) := by decide +kernel
theorem dX12_people_148 : decode cX12_people 148 = .ok (.invokestatic 125, 3) := by decide +kernel
theorem dX12_people_151 : decode cX12_people 151 = .ok (.ifCond .ne 6, 3) := by decide +kernel
theorem dX12_people_154 : decode cX12_people 154 = .ok (.iload 4, 2) := by decide +kernel
theorem dX12_people_156 : decode cX12_people 156 = .ok (.ireturn, 1) := by decide +kernel
theorem dX12_people_157 : decode cX12_people 157 = .ok (.aload_n 0, 1) := by decide +kernel
theorem dX12_people_158 : decode cX12_people 158 = .ok (.aload_n 0, 1) := by decide +kernel
theorem dX12_people_159 : decode cX12_people 159 = .ok (.getfield 100, 3) := by decide +kernel
theorem dX12_people_162 : decode cX12_people 162 = .ok (.iload 7, 2) := by decide +kernel
theorem dX12_people_164 : decode cX12_people 164 = .ok (.laload, 1) := by decide +kernel
theorem dX12_people_165 : decode cX12_people 165 = .ok (.l2i, 1) := by decide +kernel
theorem dX12_people_166 : decode cX12_people 166 = .ok (.aload_n 0, 1) := by decide +kernel
theorem dX12_people_167 : decode cX12_people 167 = .ok (.getfield 100, 3) := by decide +kernel
theorem dX12_people_170 : decode cX12_people 170 = .ok (.iload 7, 2) := by decide +kernel
theorem dX12_people_172 : decode cX12_people 172 = .ok (.iconst 1, 1) := by decide +kernel
theorem dX12_people_173 : decode cX12_people 173 = .ok (.iadd, 1) := by decide +kernel
theorem dX12_people_174 : decode cX12_people 174 = .ok (.laload, 1) := by decide +kernel
theorem dX12_people_175 : decode cX12_people 175 = .ok (.l2i, 1) := by decide +kernel
theorem dX12_people_176 : decode cX12_people 176 = .ok (.aload_n 0, 1) := by decide +kernel
theorem dX12_people_177 : decode cX12_people 177 = .ok (.getfield 100, 3) := by decide +kernel
theorem dX12_people_180 : decode cX12_people 180 = .ok (.iload 7, 2) := by decide +kernel
theorem dX12_people_182 : decode cX12_people 182 = .ok (.iconst 2, 1) := by decide +kernel
theorem dX12_people_183 : decode cX12_people 183 = .ok (.iadd, 1) := by decide +kernel
theorem dX12_people_184 : decode cX12_people 184 = .ok (.laload, 1) := by decide +kernel
theorem dX12_people_185 : decode cX12_people 185 = .ok (.l2i, 1) := by decide +kernel
theorem dX12_people_186 : decode cX12_people 186 = .ok (.invokevirtual 128, 3) := by decide +kernel
theorem dX12_people_189 : decode cX12_people 189 = .ok (.pop, 1) := by decide +kernel
theorem dX12_people_190 : decode cX12_people 190 = .ok (.iinc 4 1, 3) := by decide +kernel
theorem dX12_people_193 : decode cX12_people 193 = .ok (.goto (-135), 3) := by decide +kernel
theorem dX12_people_196 : decode cX12_people 196 = .ok (.iload_n 3, 1) := by decide +kernel
theorem dX12_people_197 : decode cX12_people 197 = .ok (.ireturn, 1) := by decide +kernel
theorem dX12_valueAt_0 : decode cX12_valueAt 0 = .ok (.iload_n 1, 1) := by decide +kernel
theorem dX12_valueAt_1 : decode cX12_valueAt 1 = .ok (.ifCond .ne 12, 3) := by decide +kernel
theorem dX12_valueAt_4 : decode cX12_valueAt 4 = .ok (.aload_n 0, 1) := by decide +kernel
theorem dX12_valueAt_5 : decode cX12_valueAt 5 = .ok (.getfield 19, 3) := by decide +kernel
theorem dX12_valueAt_8 : decode cX12_valueAt 8 = .ok (.iload_n 2, 1) := by decide +kernel
theorem dX12_valueAt_9 : decode cX12_valueAt 9 = .ok (.iaload, 1) := by decide +kernel
theorem dX12_valueAt_10 : decode cX12_valueAt 10 = .ok (.goto 23, 3) := by decide +kernel
theorem dX12_valueAt_13 : decode cX12_valueAt 13 = .ok (.iload_n 1, 1) := by decide +kernel
theorem dX12_valueAt_14 : decode cX12_valueAt 14 = .ok (.iconst 1, 1) := by decide +kernel
theorem dX12_valueAt_15 : decode cX12_valueAt 15 = .ok (.if_icmp .ne 12, 3) := by decide +kernel
theorem dX12_valueAt_18 : decode cX12_valueAt 18 = .ok (.aload_n 0, 1) := by decide +kernel
theorem dX12_valueAt_19 : decode cX12_valueAt 19 = .ok (.getfield 16, 3) := by decide +kernel
theorem dX12_valueAt_22 : decode cX12_valueAt 22 = .ok (.iload_n 2, 1) := by decide +kernel
theorem dX12_valueAt_23 : decode cX12_valueAt 23 = .ok (.iaload, 1) := by decide +kernel
theorem dX12_valueAt_24 : decode cX12_valueAt 24 = .ok (.goto 9, 3) := by decide +kernel
theorem dX12_valueAt_27 : decode cX12_valueAt 27 = .ok (.aload_n 0, 1) := by decide +kernel
theorem dX12_valueAt_28 : decode cX12_valueAt 28 = .ok (.getfield 7, 3) := by decide +kernel
theorem dX12_valueAt_31 : decode cX12_valueAt 31 = .ok (.iload_n 2, 1) := by decide +kernel
theorem dX12_valueAt_32 : decode cX12_valueAt 32 = .ok (.iaload, 1) := by decide +kernel
theorem dX12_valueAt_33 : decode cX12_valueAt 33 = .ok (.ireturn, 1) := by decide +kernel
theorem dX12_lays_0 : decode cX12_lays 0 = .ok (.iload_n 1, 1) := by decide +kernel
theorem dX12_lays_1 : decode cX12_lays 1 = .ok (.ifCond .ne 13, 3) := by decide +kernel
theorem dX12_lays_4 : decode cX12_lays 4 = .ok (.aload_n 0, 1) := by decide +kernel
theorem dX12_lays_5 : decode cX12_lays 5 = .ok (.getfield 19, 3) := by decide +kernel
theorem dX12_lays_8 : decode cX12_lays 8 = .ok (.iload_n 2, 1) := by decide +kernel
theorem dX12_lays_9 : decode cX12_lays 9 = .ok (.iload_n 3, 1) := by decide +kernel
theorem dX12_lays_10 : decode cX12_lays 10 = .ok (.iastore, 1) := by decide +kernel
theorem dX12_lays_11 : decode cX12_lays 11 = .ok (.goto 25, 3) := by decide +kernel
theorem dX12_lays_14 : decode cX12_lays 14 = .ok (.iload_n 1, 1) := by decide +kernel
theorem dX12_lays_15 : decode cX12_lays 15 = .ok (.iconst 1, 1) := by decide +kernel
theorem dX12_lays_16 : decode cX12_lays 16 = .ok (.if_icmp .ne 13, 3) := by decide +kernel
theorem dX12_lays_19 : decode cX12_lays 19 = .ok (.aload_n 0, 1) := by decide +kernel
theorem dX12_lays_20 : decode cX12_lays 20 = .ok (.getfield 16, 3) := by decide +kernel
theorem dX12_lays_23 : decode cX12_lays 23 = .ok (.iload_n 2, 1) := by decide +kernel
theorem dX12_lays_24 : decode cX12_lays 24 = .ok (.iload_n 3, 1) := by decide +kernel
theorem dX12_lays_25 : decode cX12_lays 25 = .ok (.iastore, 1) := by decide +kernel
theorem dX12_lays_26 : decode cX12_lays 26 = .ok (.goto 10, 3) := by decide +kernel
theorem dX12_lays_29 : decode cX12_lays 29 = .ok (.aload_n 0, 1) := by decide +kernel
theorem dX12_lays_30 : decode cX12_lays 30 = .ok (.getfield 7, 3) := by decide +kernel
theorem dX12_lays_33 : decode cX12_lays 33 = .ok (.iload_n 2, 1) := by decide +kernel
theorem dX12_lays_34 : decode cX12_lays 34 = .ok (.iload_n 3, 1) := by decide +kernel
theorem dX12_lays_35 : decode cX12_lays 35 = .ok (.iastore, 1) := by decide +kernel
theorem dX12_lays_36 : decode cX12_lays 36 = .ok (.return_, 1) := by decide +kernel
theorem dX12_changes_0 : decode cX12_changes 0 = .ok (.aload_n 0, 1) := by decide +kernel
theorem dX12_changes_1 : decode cX12_changes 1 = .ok (.iload_n 1, 1) := by decide +kernel
theorem dX12_changes_2 : decode cX12_changes 2 = .ok (.iload_n 2, 1) := by decide +kernel
theorem dX12_changes_3 : decode cX12_changes 3 = .ok (.invokevirtual 137, 3) := by decide +kernel
theorem dX12_changes_6 : decode cX12_changes 6 = .ok (.istore 4, 2) := by decide +kernel
theorem dX12_changes_8 : decode cX12_changes 8 = .ok (.iload 4, 2) := by decide +kernel
theorem dX12_changes_10 : decode cX12_changes 10 = .ok (.iload_n 3, 1) := by decide +kernel
theorem dX12_changes_11 : decode cX12_changes 11 = .ok (.if_icmp .ne 6, 3) := by decide +kernel
theorem dX12_changes_14 : decode cX12_changes 14 = .ok (.iload 4, 2) := by decide +kernel
theorem dX12_changes_16 : decode cX12_changes 16 = .ok (.ireturn, 1) := by decide +kernel
theorem dX12_changes_17 : decode cX12_changes 17 = .ok (.aload_n 0, 1) := by decide +kernel
theorem dX12_changes_18 : decode cX12_changes 18 = .ok (.iconst 0, 1) := by decide +kernel
theorem dX12_changes_19 : decode cX12_changes 19 = .ok (.putfield 141, 3) := by decide +kernel
theorem dX12_changes_22 : decode cX12_changes 22 = .ok (.aload_n 0, 1) := by decide +kernel
theorem dX12_changes_23 : decode cX12_changes 23 = .ok (.getfield 144, 3) := by decide +kernel
theorem dX12_changes_26 : decode cX12_changes 26 = .ok (.bipush 40, 2) := by decide +kernel
theorem dX12_changes_28 : decode cX12_changes 28 = .ok (.if_icmp .ne 93, 3) := by decide +kernel
theorem dX12_changes_31 : decode cX12_changes 31 = .ok (.iconst 1, 1) := by decide +kernel
theorem dX12_changes_32 : decode cX12_changes 32 = .ok (.istore 5, 2) := by decide +kernel
theorem dX12_changes_34 : decode cX12_changes 34 = .ok (.iload 5, 2) := by decide +kernel
theorem dX12_changes_36 : decode cX12_changes 36 = .ok (.bipush 40, 2) := by decide +kernel
theorem dX12_changes_38 : decode cX12_changes 38 = .ok (.if_icmp .ge 73, 3) := by decide +kernel
theorem dX12_changes_41 : decode cX12_changes 41 = .ok (.aload_n 0, 1) := by decide +kernel
theorem dX12_changes_42 : decode cX12_changes 42 = .ok (.getfield 25, 3) := by decide +kernel
theorem dX12_changes_45 : decode cX12_changes 45 = .ok (.iload 5, 2) := by decide +kernel
theorem dX12_changes_47 : decode cX12_changes 47 = .ok (.iconst 1, 1) := by decide +kernel
theorem dX12_changes_48 : decode cX12_changes 48 = .ok (.isub, 1) := by decide +kernel
theorem dX12_changes_49 : decode cX12_changes 49 = .ok (.aload_n 0, 1) := by decide +kernel
theorem dX12_changes_50 : decode cX12_changes 50 = .ok (.getfield 25, 3) := by decide +kernel
theorem dX12_changes_53 : decode cX12_changes 53 = .ok (.iload 5, 2) := by decide +kernel
theorem dX12_changes_55 : decode cX12_changes 55 = .ok (.iaload, 1) := by decide +kernel
theorem dX12_changes_56 : decode cX12_changes 56 = .ok (.iastore, 1) := by decide +kernel
theorem dX12_changes_57 : decode cX12_changes 57 = .ok (.aload_n 0, 1) := by decide +kernel
theorem dX12_changes_58 : decode cX12_changes 58 = .ok (.getfield 28, 3) := by decide +kernel
theorem dX12_changes_61 : decode cX12_changes 61 = .ok (.iload 5, 2) := by decide +kernel
theorem dX12_changes_63 : decode cX12_changes 63 = .ok (.iconst 1, 1) := by decide +kernel
theorem dX12_changes_64 : decode cX12_changes 64 = .ok (.isub, 1) := by decide +kernel
theorem dX12_changes_65 : decode cX12_changes 65 = .ok (.aload_n 0, 1) := by decide +kernel
theorem dX12_changes_66 : decode cX12_changes 66 = .ok (.getfield 28, 3) := by decide +kernel
theorem dX12_changes_69 : decode cX12_changes 69 = .ok (.iload 5, 2) := by decide +kernel
theorem dX12_changes_71 : decode cX12_changes 71 = .ok (.iaload, 1) := by decide +kernel
theorem dX12_changes_72 : decode cX12_changes 72 = .ok (.iastore, 1) := by decide +kernel
theorem dX12_changes_73 : decode cX12_changes 73 = .ok (.aload_n 0, 1) := by decide +kernel
theorem dX12_changes_74 : decode cX12_changes 74 = .ok (.getfield 31, 3) := by decide +kernel
theorem dX12_changes_77 : decode cX12_changes 77 = .ok (.iload 5, 2) := by decide +kernel
theorem dX12_changes_79 : decode cX12_changes 79 = .ok (.iconst 1, 1) := by decide +kernel
theorem dX12_changes_80 : decode cX12_changes 80 = .ok (.isub, 1) := by decide +kernel
theorem dX12_changes_81 : decode cX12_changes 81 = .ok (.aload_n 0, 1) := by decide +kernel
theorem dX12_changes_82 : decode cX12_changes 82 = .ok (.getfield 31, 3) := by decide +kernel
theorem dX12_changes_85 : decode cX12_changes 85 = .ok (.iload 5, 2) := by decide +kernel
theorem dX12_changes_87 : decode cX12_changes 87 = .ok (.iaload, 1) := by decide +kernel
theorem dX12_changes_88 : decode cX12_changes 88 = .ok (.iastore, 1) := by decide +kernel
theorem dX12_changes_89 : decode cX12_changes 89 = .ok (.aload_n 0, 1) := by decide +kernel
theorem dX12_changes_90 : decode cX12_changes 90 = .ok (.getfield 34, 3) := by decide +kernel
theorem dX12_changes_93 : decode cX12_changes 93 = .ok (.iload 5, 2) := by decide +kernel
theorem dX12_changes_95 : decode cX12_changes 95 = .ok (.iconst 1, 1) := by decide +kernel
theorem dX12_changes_96 : decode cX12_changes 96 = .ok (.isub, 1) := by decide +kernel
theorem dX12_changes_97 : decode cX12_changes 97 = .ok (.aload_n 0, 1) := by decide +kernel
theorem dX12_changes_98 : decode cX12_changes 98 = .ok (.getfield 34, 3) := by decide +kernel
theorem dX12_changes_101 : decode cX12_changes 101 = .ok (.iload 5, 2) := by decide +kernel
theorem dX12_changes_103 : decode cX12_changes 103 = .ok (.iaload, 1) := by decide +kernel
theorem dX12_changes_104 : decode cX12_changes 104 = .ok (.iastore, 1) := by decide +kernel
theorem dX12_changes_105 : decode cX12_changes 105 = .ok (.iinc 5 1, 3) := by decide +kernel
theorem dX12_changes_108 : decode cX12_changes 108 = .ok (.goto (-74), 3) := by decide +kernel
theorem dX12_changes_111 : decode cX12_changes 111 = .ok (.aload_n 0, 1) := by decide +kernel
theorem dX12_changes_112 : decode cX12_changes 112 = .ok (.dup, 1) := by decide +kernel
theorem dX12_changes_113 : decode cX12_changes 113 = .ok (.getfield 144, 3) := by decide +kernel
theorem dX12_changes_116 : decode cX12_changes 116 = .ok (.iconst 1, 1) := by decide +kernel
theorem dX12_changes_117 : decode cX12_changes 117 = .ok (.isub, 1) := by decide +kernel
theorem dX12_changes_118 : decode cX12_changes 118 = .ok (.putfield 144, 3) := by decide +kernel
theorem dX12_changes_121 : decode cX12_changes 121 = .ok (.aload_n 0, 1) := by decide +kernel
theorem dX12_changes_122 : decode cX12_changes 122 = .ok (.getfield 25, 3) := by decide +kernel
theorem dX12_changes_125 : decode cX12_changes 125 = .ok (.aload_n 0, 1) := by decide +kernel
theorem dX12_changes_126 : decode cX12_changes 126 = .ok (.getfield 144, 3) := by decide +kernel
theorem dX12_changes_129 : decode cX12_changes 129 = .ok (.iload_n 1, 1) := by decide +kernel
theorem dX12_changes_130 : decode cX12_changes 130 = .ok (.iastore, 1) := by decide +kernel
theorem dX12_changes_131 : decode cX12_changes 131 = .ok (.aload_n 0, 1) := by decide +kernel
theorem dX12_changes_132 : decode cX12_changes 132 = .ok (.getfield 28, 3) := by decide +kernel
theorem dX12_changes_135 : decode cX12_changes 135 = .ok (.aload_n 0, 1) := by decide +kernel
theorem dX12_changes_136 : decode cX12_changes 136 = .ok (.getfield 144, 3) := by decide +kernel
theorem dX12_changes_139 : decode cX12_changes 139 = .ok (.iload_n 2, 1) := by decide +kernel
theorem dX12_changes_140 : decode cX12_changes 140 = .ok (.iastore, 1) := by decide +kernel
theorem dX12_changes_141 : decode cX12_changes 141 = .ok (.aload_n 0, 1) := by decide +kernel
theorem dX12_changes_142 : decode cX12_changes 142 = .ok (.getfield 31, 3) := by decide +kernel
theorem dX12_changes_145 : decode cX12_changes 145 = .ok (.aload_n 0, 1) := by decide +kernel
theorem dX12_changes_146 : decode cX12_changes 146 = .ok (.getfield 144, 3) := by decide +kernel
theorem dX12_changes_149 : decode cX12_changes 149 = .ok (.iload 4, 2) := by decide +kernel
theorem dX12_changes_151 : decode cX12_changes 151 = .ok (.iastore, 1) := by decide +kernel
theorem dX12_changes_152 : decode cX12_changes 152 = .ok (.aload_n 0, 1) := by decide +kernel
theorem dX12_changes_153 : decode cX12_changes 153 = .ok (.getfield 34, 3) := by decide +kernel
theorem dX12_changes_156 : decode cX12_changes 156 = .ok (.aload_n 0, 1) := by decide +kernel
theorem dX12_changes_157 : decode cX12_changes 157 = .ok (.getfield 144, 3) := by decide +kernel
theorem dX12_changes_160 : decode cX12_changes 160 = .ok (.iload_n 3, 1) := by decide +kernel
theorem dX12_changes_161 : decode cX12_changes 161 = .ok (.iastore, 1) := by decide +kernel
theorem dX12_changes_162 : decode cX12_changes 162 = .ok (.aload_n 0, 1) := by decide +kernel
theorem dX12_changes_163 : decode cX12_changes 163 = .ok (.dup, 1) := by decide +kernel
theorem dX12_changes_164 : decode cX12_changes 164 = .ok (.getfield 144, 3) := by decide +kernel
theorem dX12_changes_167 : decode cX12_changes 167 = .ok (.iconst 1, 1) := by decide +kernel
theorem dX12_changes_168 : decode cX12_changes 168 = .ok (.iadd, 1) := by decide +kernel
theorem dX12_changes_169 : decode cX12_changes 169 = .ok (.putfield 144, 3) := by decide +kernel
theorem dX12_changes_172 : decode cX12_changes 172 = .ok (.aload_n 0, 1) := by decide +kernel
theorem dX12_changes_173 : decode cX12_changes 173 = .ok (.iload_n 1, 1) := by decide +kernel
theorem dX12_changes_174 : decode cX12_changes 174 = .ok (.iload_n 2, 1) := by decide +kernel
theorem dX12_changes_175 : decode cX12_changes 175 = .ok (.iload_n 3, 1) := by decide +kernel
theorem dX12_changes_176 : decode cX12_changes 176 = .ok (.invokevirtual 147, 3) := by decide +kernel
theorem dX12_changes_179 : decode cX12_changes 179 = .ok (.iload 4, 2) := by decide +kernel
theorem dX12_changes_181 : decode cX12_changes 181 = .ok (.ireturn, 1) := by decide +kernel
theorem dX12_undo_0 : decode cX12_undo 0 = .ok (.aload_n 0, 1) := by decide +kernel
theorem dX12_undo_1 : decode cX12_undo 1 = .ok (.getfield 144, 3) := by decide +kernel
theorem dX12_undo_4 : decode cX12_undo 4 = .ok (.ifCond .ne 6, 3) := by decide +kernel
theorem dX12_undo_7 : decode cX12_undo 7 = .ok (.bipush (-5), 2) := by decide +kernel
theorem dX12_undo_9 : decode cX12_undo 9 = .ok (.ireturn, 1) := by decide +kernel
theorem dX12_undo_10 : decode cX12_undo 10 = .ok (.aload_n 0, 1) := by decide +kernel
theorem dX12_undo_11 : decode cX12_undo 11 = .ok (.dup, 1) := by decide +kernel
theorem dX12_undo_12 : decode cX12_undo 12 = .ok (.getfield 144, 3) := by decide +kernel
theorem dX12_undo_15 : decode cX12_undo 15 = .ok (.iconst 1, 1) := by decide +kernel
theorem dX12_undo_16 : decode cX12_undo 16 = .ok (.isub, 1) := by decide +kernel
theorem dX12_undo_17 : decode cX12_undo 17 = .ok (.putfield 144, 3) := by decide +kernel
theorem dX12_undo_20 : decode cX12_undo 20 = .ok (.aload_n 0, 1) := by decide +kernel
theorem dX12_undo_21 : decode cX12_undo 21 = .ok (.dup, 1) := by decide +kernel
theorem dX12_undo_22 : decode cX12_undo 22 = .ok (.getfield 141, 3) := by decide +kernel
theorem dX12_undo_25 : decode cX12_undo 25 = .ok (.iconst 1, 1) := by decide +kernel
theorem dX12_undo_26 : decode cX12_undo 26 = .ok (.iadd, 1) := by decide +kernel
theorem dX12_undo_27 : decode cX12_undo 27 = .ok (.putfield 141, 3) := by decide +kernel
theorem dX12_undo_30 : decode cX12_undo 30 = .ok (.aload_n 0, 1) := by decide +kernel
theorem dX12_undo_31 : decode cX12_undo 31 = .ok (.aload_n 0, 1) := by decide +kernel
theorem dX12_undo_32 : decode cX12_undo 32 = .ok (.getfield 25, 3) := by decide +kernel
theorem dX12_undo_35 : decode cX12_undo 35 = .ok (.aload_n 0, 1) := by decide +kernel
theorem dX12_undo_36 : decode cX12_undo 36 = .ok (.getfield 144, 3) := by decide +kernel
theorem dX12_undo_39 : decode cX12_undo 39 = .ok (.iaload, 1) := by decide +kernel
theorem dX12_undo_40 : decode cX12_undo 40 = .ok (.aload_n 0, 1) := by decide +kernel
theorem dX12_undo_41 : decode cX12_undo 41 = .ok (.getfield 28, 3) := by decide +kernel
theorem dX12_undo_44 : decode cX12_undo 44 = .ok (.aload_n 0, 1) := by decide +kernel
theorem dX12_undo_45 : decode cX12_undo 45 = .ok (.getfield 144, 3) := by decide +kernel
theorem dX12_undo_48 : decode cX12_undo 48 = .ok (.iaload, 1) := by decide +kernel
theorem dX12_undo_49 : decode cX12_undo 49 = .ok (.aload_n 0, 1) := by decide +kernel
theorem dX12_undo_50 : decode cX12_undo 50 = .ok (.getfield 31, 3) := by decide +kernel
theorem dX12_undo_53 : decode cX12_undo 53 = .ok (.aload_n 0, 1) := by decide +kernel
theorem dX12_undo_54 : decode cX12_undo 54 = .ok (.getfield 144, 3) := by decide +kernel
theorem dX12_undo_57 : decode cX12_undo 57 = .ok (.iaload, 1) := by decide +kernel
theorem dX12_undo_58 : decode cX12_undo 58 = .ok (.invokevirtual 147, 3) := by decide +kernel
theorem dX12_undo_61 : decode cX12_undo 61 = .ok (.aload_n 0, 1) := by decide +kernel
theorem dX12_undo_62 : decode cX12_undo 62 = .ok (.getfield 144, 3) := by decide +kernel
theorem dX12_undo_65 : decode cX12_undo 65 = .ok (.ireturn, 1) := by decide +kernel
theorem dX12_redo_0 : decode cX12_redo 0 = .ok (.aload_n 0, 1) := by decide +kernel
theorem dX12_redo_1 : decode cX12_redo 1 = .ok (.getfield 141, 3) := by decide +kernel
theorem dX12_redo_4 : decode cX12_redo 4 = .ok (.ifCond .ne 6, 3) := by decide +kernel
theorem dX12_redo_7 : decode cX12_redo 7 = .ok (.bipush (-5), 2) := by decide +kernel
theorem dX12_redo_9 : decode cX12_redo 9 = .ok (.ireturn, 1) := by decide +kernel
theorem dX12_redo_10 : decode cX12_redo 10 = .ok (.aload_n 0, 1) := by decide +kernel
theorem dX12_redo_11 : decode cX12_redo 11 = .ok (.aload_n 0, 1) := by decide +kernel
theorem dX12_redo_12 : decode cX12_redo 12 = .ok (.getfield 25, 3) := by decide +kernel
theorem dX12_redo_15 : decode cX12_redo 15 = .ok (.aload_n 0, 1) := by decide +kernel
theorem dX12_redo_16 : decode cX12_redo 16 = .ok (.getfield 144, 3) := by decide +kernel
theorem dX12_redo_19 : decode cX12_redo 19 = .ok (.iaload, 1) := by decide +kernel
theorem dX12_redo_20 : decode cX12_redo 20 = .ok (.aload_n 0, 1) := by decide +kernel
theorem dX12_redo_21 : decode cX12_redo 21 = .ok (.getfield 28, 3) := by decide +kernel
theorem dX12_redo_24 : decode cX12_redo 24 = .ok (.aload_n 0, 1) := by decide +kernel
theorem dX12_redo_25 : decode cX12_redo 25 = .ok (.getfield 144, 3) := by decide +kernel
theorem dX12_redo_28 : decode cX12_redo 28 = .ok (.iaload, 1) := by decide +kernel
theorem dX12_redo_29 : decode cX12_redo 29 = .ok (.aload_n 0, 1) := by decide +kernel
theorem dX12_redo_30 : decode cX12_redo 30 = .ok (.getfield 34, 3) := by decide +kernel
theorem dX12_redo_33 : decode cX12_redo 33 = .ok (.aload_n 0, 1) := by decide +kernel
theorem dX12_redo_34 : decode cX12_redo 34 = .ok (.getfield 144, 3) := by decide +kernel
theorem dX12_redo_37 : decode cX12_redo 37 = .ok (.iaload, 1) := by decide +kernel
theorem dX12_redo_38 : decode cX12_redo 38 = .ok (.invokevirtual 147, 3) := by decide +kernel
theorem dX12_redo_41 : decode cX12_redo 41 = .ok (.aload_n 0, 1) := by decide +kernel
theorem dX12_redo_42 : decode cX12_redo 42 = .ok (.dup, 1) := by decide +kernel
theorem dX12_redo_43 : decode cX12_redo 43 = .ok (.getfield 144, 3) := by decide +kernel
theorem dX12_redo_46 : decode cX12_redo 46 = .ok (.iconst 1, 1) := by decide +kernel
theorem dX12_redo_47 : decode cX12_redo 47 = .ok (.iadd, 1) := by decide +kernel
theorem dX12_redo_48 : decode cX12_redo 48 = .ok (.putfield 144, 3) := by decide +kernel
theorem dX12_redo_51 : decode cX12_redo 51 = .ok (.aload_n 0, 1) := by decide +kernel
theorem dX12_redo_52 : decode cX12_redo 52 = .ok (.dup, 1) := by decide +kernel
theorem dX12_redo_53 : decode cX12_redo 53 = .ok (.getfield 141, 3) := by decide +kernel
theorem dX12_redo_56 : decode cX12_redo 56 = .ok (.iconst 1, 1) := by decide +kernel
theorem dX12_redo_57 : decode cX12_redo 57 = .ok (.isub, 1) := by decide +kernel
theorem dX12_redo_58 : decode cX12_redo 58 = .ok (.putfield 141, 3) := by decide +kernel
theorem dX12_redo_61 : decode cX12_redo 61 = .ok (.aload_n 0, 1) := by decide +kernel
theorem dX12_redo_62 : decode cX12_redo 62 = .ok (.getfield 141, 3) := by decide +kernel
theorem dX12_redo_65 : decode cX12_redo 65 = .ok (.ireturn, 1) := by decide +kernel
theorem dX12_mend_0 : decode cX12_mend 0 = .ok (.iload_n 2, 1) := by decide +kernel
theorem dX12_mend_1 : decode cX12_mend 1 = .ok (.tableswitch 124 0 2 #[27, 57, 94], 27) := by decide +kernel
theorem dX12_mend_28 : decode cX12_mend 28 = .ok (.aload_n 0, 1) := by decide +kernel
theorem dX12_mend_29 : decode cX12_mend 29 = .ok (.iload_n 1, 1) := by decide +kernel
theorem dX12_mend_30 : decode cX12_mend 30 = .ok (.invokevirtual 151, 3) := by decide +kernel
theorem dX12_mend_33 : decode cX12_mend 33 = .ok (.ifCond .eq 23, 3) := by decide +kernel
theorem dX12_mend_36 : decode cX12_mend 36 = .ok (.iload_n 3, 1) := by decide +kernel
theorem dX12_mend_37 : decode cX12_mend 37 = .ok (.iconst 1, 1) := by decide +kernel
theorem dX12_mend_38 : decode cX12_mend 38 = .ok (.bipush 9, 2) := by decide +kernel
theorem dX12_mend_40 : decode cX12_mend 40 = .ok (.invokestatic 114, 3) := by decide +kernel
theorem dX12_mend_43 : decode cX12_mend 43 = .ok (.ifCond .eq 13, 3) := by decide +kernel
theorem dX12_mend_46 : decode cX12_mend 46 = .ok (.aload_n 0, 1) := by decide +kernel
theorem dX12_mend_47 : decode cX12_mend 47 = .ok (.iconst 0, 1) := by decide +kernel
theorem dX12_mend_48 : decode cX12_mend 48 = .ok (.iload_n 1, 1) := by decide +kernel
theorem dX12_mend_49 : decode cX12_mend 49 = .ok (.iload_n 3, 1) := by decide +kernel
theorem dX12_mend_50 : decode cX12_mend 50 = .ok (.invokevirtual 154, 3) := by decide +kernel
theorem dX12_mend_53 : decode cX12_mend 53 = .ok (.goto 4, 3) := by decide +kernel
theorem dX12_mend_56 : decode cX12_mend 56 = .ok (.iconst (-1), 1) := by decide +kernel
theorem dX12_mend_57 : decode cX12_mend 57 = .ok (.ireturn, 1) := by decide +kernel
theorem dX12_mend_58 : decode cX12_mend 58 = .ok (.aload_n 0, 1) := by decide +kernel
theorem dX12_mend_59 : decode cX12_mend 59 = .ok (.iload_n 1, 1) := by decide +kernel
theorem dX12_mend_60 : decode cX12_mend 60 = .ok (.invokevirtual 151, 3) := by decide +kernel
theorem dX12_mend_63 : decode cX12_mend 63 = .ok (.ifCond .eq 30, 3) := by decide +kernel
theorem dX12_mend_66 : decode cX12_mend 66 = .ok (.iload_n 3, 1) := by decide +kernel
theorem dX12_mend_67 : decode cX12_mend 67 = .ok (.aload_n 0, 1) := by decide +kernel
theorem dX12_mend_68 : decode cX12_mend 68 = .ok (.getfield 13, 3) := by decide +kernel
theorem dX12_mend_71 : decode cX12_mend 71 = .ok (.iload_n 1, 1) := by decide +kernel
theorem dX12_mend_72 : decode cX12_mend 72 = .ok (.iaload, 1) := by decide +kernel
theorem dX12_mend_73 : decode cX12_mend 73 = .ok (.iconst 1, 1) := by decide +kernel
theorem dX12_mend_74 : decode cX12_mend 74 = .ok (.iadd, 1) := by decide +kernel
theorem dX12_mend_75 : decode cX12_mend 75 = .ok (.bipush 60, 2) := by decide +kernel
theorem dX12_mend_77 : decode cX12_mend 77 = .ok (.invokestatic 114, 3) := by decide +kernel
theorem dX12_mend_80 : decode cX12_mend 80 = .ok (.ifCond .eq 13, 3) := by decide +kernel
theorem dX12_mend_83 : decode cX12_mend 83 = .ok (.aload_n 0, 1) := by decide +kernel
theorem dX12_mend_84 : decode cX12_mend 84 = .ok (.iconst 1, 1) := by decide +kernel
theorem dX12_mend_85 : decode cX12_mend 85 = .ok (.iload_n 1, 1) := by decide +kernel
theorem dX12_mend_86 : decode cX12_mend 86 = .ok (.iload_n 3, 1) := by decide +kernel
theorem dX12_mend_87 : decode cX12_mend 87 = .ok (.invokevirtual 154, 3) := by decide +kernel
theorem dX12_mend_90 : decode cX12_mend 90 = .ok (.goto 4, 3) := by decide +kernel
theorem dX12_mend_93 : decode cX12_mend 93 = .ok (.iconst (-1), 1) := by decide +kernel
theorem dX12_mend_94 : decode cX12_mend 94 = .ok (.ireturn, 1) := by decide +kernel
theorem dX12_mend_95 : decode cX12_mend 95 = .ok (.aload_n 0, 1) := by decide +kernel
theorem dX12_mend_96 : decode cX12_mend 96 = .ok (.iload_n 1, 1) := by decide +kernel
theorem dX12_mend_97 : decode cX12_mend 97 = .ok (.invokevirtual 157, 3) := by decide +kernel
theorem dX12_mend_100 : decode cX12_mend 100 = .ok (.ifCond .eq 23, 3) := by decide +kernel
theorem dX12_mend_103 : decode cX12_mend 103 = .ok (.iload_n 3, 1) := by decide +kernel
theorem dX12_mend_104 : decode cX12_mend 104 = .ok (.iconst 1, 1) := by decide +kernel
theorem dX12_mend_105 : decode cX12_mend 105 = .ok (.bipush 6, 2) := by decide +kernel
theorem dX12_mend_107 : decode cX12_mend 107 = .ok (.invokestatic 114, 3) := by decide +kernel
theorem dX12_mend_110 : decode cX12_mend 110 = .ok (.ifCond .eq 13, 3) := by decide +kernel
theorem dX12_mend_113 : decode cX12_mend 113 = .ok (.aload_n 0, 1) := by decide +kernel
theorem dX12_mend_114 : decode cX12_mend 114 = .ok (.iconst 2, 1) := by decide +kernel
theorem dX12_mend_115 : decode cX12_mend 115 = .ok (.iload_n 1, 1) := by decide +kernel
theorem dX12_mend_116 : decode cX12_mend 116 = .ok (.iload_n 3, 1) := by decide +kernel
theorem dX12_mend_117 : decode cX12_mend 117 = .ok (.invokevirtual 154, 3) := by decide +kernel
theorem dX12_mend_120 : decode cX12_mend 120 = .ok (.goto 4, 3) := by decide +kernel
theorem dX12_mend_123 : decode cX12_mend 123 = .ok (.iconst (-1), 1) := by decide +kernel
theorem dX12_mend_124 : decode cX12_mend 124 = .ok (.ireturn, 1) := by decide +kernel
theorem dX12_mend_125 : decode cX12_mend 125 = .ok (.iconst (-1), 1) := by decide +kernel
theorem dX12_mend_126 : decode cX12_mend 126 = .ok (.ireturn, 1) := by decide +kernel
theorem dX12_feed_0 : decode cX12_feed 0 = .ok (.iload_n 1, 1) := by decide +kernel
theorem dX12_feed_1 : decode cX12_feed 1 = .ok (.iconst 0, 1) := by decide +kernel
theorem dX12_feed_2 : decode cX12_feed 2 = .ok (.sipush 255, 3) := by decide +kernel
theorem dX12_feed_5 : decode cX12_feed 5 = .ok (.invokestatic 114, 3) := by decide +kernel
theorem dX12_feed_8 : decode cX12_feed 8 = .ok (.ifCond .ne 5, 3) := by decide +kernel
theorem dX12_feed_11 : decode cX12_feed 11 = .ok (.iconst (-1), 1) := by decide +kernel
theorem dX12_feed_12 : decode cX12_feed 12 = .ok (.ireturn, 1) := by decide +kernel
theorem dX12_feed_13 : decode cX12_feed 13 = .ok (.aload_n 0, 1) := by decide +kernel
theorem dX12_feed_14 : decode cX12_feed 14 = .ok (.getfield 160, 3) := by decide +kernel
theorem dX12_feed_17 : decode cX12_feed 17 = .ok (.bipush 120, 2) := by decide +kernel
theorem dX12_feed_19 : decode cX12_feed 19 = .ok (.if_icmp .ne 6, 3) := by decide +kernel
theorem dX12_feed_22 : decode cX12_feed 22 = .ok (.bipush (-3), 2) := by decide +kernel
theorem dX12_feed_24 : decode cX12_feed 24 = .ok (.ireturn, 1) := by decide +kernel
theorem dX12_feed_25 : decode cX12_feed 25 = .ok (.aload_n 0, 1) := by decide +kernel
theorem dX12_feed_26 : decode cX12_feed 26 = .ok (.getfield 37, 3) := by decide +kernel
theorem dX12_feed_29 : decode cX12_feed 29 = .ok (.aload_n 0, 1) := by decide +kernel
theorem dX12_feed_30 : decode cX12_feed 30 = .ok (.getfield 160, 3) := by decide +kernel
theorem dX12_feed_33 : decode cX12_feed 33 = .ok (.iload_n 1, 1) := by decide +kernel
theorem dX12_feed_34 : decode cX12_feed 34 = .ok (.i2b, 1) := by decide +kernel
theorem dX12_feed_35 : decode cX12_feed 35 = .ok (.bastore, 1) := by decide +kernel
theorem dX12_feed_36 : decode cX12_feed 36 = .ok (.aload_n 0, 1) := by decide +kernel
theorem dX12_feed_37 : decode cX12_feed 37 = .ok (.dup, 1) := by decide +kernel
theorem dX12_feed_38 : decode cX12_feed 38 = .ok (.getfield 160, 3) := by decide +kernel
theorem dX12_feed_41 : decode cX12_feed 41 = .ok (.iconst 1, 1) := by decide +kernel
theorem dX12_feed_42 : decode cX12_feed 42 = .ok (.iadd, 1) := by decide +kernel
theorem dX12_feed_43 : decode cX12_feed 43 = .ok (.putfield 160, 3) := by decide +kernel
theorem dX12_feed_46 : decode cX12_feed 46 = .ok (.aload_n 0, 1) := by decide +kernel
theorem dX12_feed_47 : decode cX12_feed 47 = .ok (.getfield 160, 3) := by decide +kernel
theorem dX12_feed_50 : decode cX12_feed 50 = .ok (.ireturn, 1) := by decide +kernel
theorem dX12_look_0 : decode cX12_look 0 = .ok (.aload_n 0, 1) := by decide +kernel
theorem dX12_look_1 : decode cX12_look 1 = .ok (.getfield 163, 3) := by decide +kernel
theorem dX12_look_4 : decode cX12_look 4 = .ok (.aload_n 0, 1) := by decide +kernel
theorem dX12_look_5 : decode cX12_look 5 = .ok (.getfield 160, 3) := by decide +kernel
theorem dX12_look_8 : decode cX12_look 8 = .ok (.if_icmp .ge 15, 3) := by decide +kernel
theorem dX12_look_11 : decode cX12_look 11 = .ok (.aload_n 0, 1) := by decide +kernel
theorem dX12_look_12 : decode cX12_look 12 = .ok (.getfield 37, 3) := by decide +kernel
theorem dX12_look_15 : decode cX12_look 15 = .ok (.aload_n 0, 1) := by decide +kernel
theorem dX12_look_16 : decode cX12_look 16 = .ok (.getfield 163, 3) := by decide +kernel
theorem dX12_look_19 : decode cX12_look 19 = .ok (.baload, 1) := by decide +kernel
theorem dX12_look_20 : decode cX12_look 20 = .ok (.goto 4, 3) := by decide +kernel
theorem dX12_look_23 : decode cX12_look 23 = .ok (.iconst (-1), 1) := by decide +kernel
theorem dX12_look_24 : decode cX12_look 24 = .ok (.ireturn, 1) := by decide +kernel
theorem dX12_faulty_0 : decode cX12_faulty 0 = .ok (.aload_n 0, 1) := by decide +kernel
theorem dX12_faulty_1 : decode cX12_faulty 1 = .ok (.getfield 166, 3) := by decide +kernel
theorem dX12_faulty_4 : decode cX12_faulty 4 = .ok (.ifCond .ge 11, 3) := by decide +kernel
theorem dX12_faulty_7 : decode cX12_faulty 7 = .ok (.aload_n 0, 1) := by decide +kernel
theorem dX12_faulty_8 : decode cX12_faulty 8 = .ok (.aload_n 0, 1) := by decide +kernel
theorem dX12_faulty_9 : decode cX12_faulty 9 = .ok (.getfield 163, 3) := by decide +kernel
theorem dX12_faulty_12 : decode cX12_faulty 12 = .ok (.putfield 166, 3) := by decide +kernel
theorem dX12_faulty_15 : decode cX12_faulty 15 = .ok (.return_, 1) := by decide +kernel
theorem dX12_addStep_0 : decode cX12_addStep 0 = .ok (.aload_n 0, 1) := by decide +kernel
theorem dX12_addStep_1 : decode cX12_addStep 1 = .ok (.getfield 41, 3) := by decide +kernel
theorem dX12_addStep_4 : decode cX12_addStep 4 = .ok (.sipush 260, 3) := by decide +kernel
theorem dX12_addStep_7 : decode cX12_addStep 7 = .ok (.aload_n 0, 1) := by decide +kernel
theorem dX12_addStep_8 : decode cX12_addStep 8 = .ok (.getfield 169, 3) := by decide +kernel
theorem dX12_addStep_11 : decode cX12_addStep 11 = .ok (.iadd, 1) := by decide +kernel
theorem dX12_addStep_12 : decode cX12_addStep 12 = .ok (.iload_n 1, 1) := by decide +kernel
theorem dX12_addStep_13 : decode cX12_addStep 13 = .ok (.i2b, 1) := by decide +kernel
theorem dX12_addStep_14 : decode cX12_addStep 14 = .ok (.bastore, 1) := by decide +kernel
theorem dX12_addStep_15 : decode cX12_addStep 15 = .ok (.aload_n 0, 1) := by decide +kernel
theorem dX12_addStep_16 : decode cX12_addStep 16 = .ok (.getfield 44, 3) := by decide +kernel
theorem dX12_addStep_19 : decode cX12_addStep 19 = .ok (.sipush 260, 3) := by decide +kernel
theorem dX12_addStep_22 : decode cX12_addStep 22 = .ok (.aload_n 0, 1) := by decide +kernel
theorem dX12_addStep_23 : decode cX12_addStep 23 = .ok (.getfield 169, 3) := by decide +kernel
theorem dX12_addStep_26 : decode cX12_addStep 26 = .ok (.iadd, 1) := by decide +kernel
theorem dX12_addStep_27 : decode cX12_addStep 27 = .ok (.iload_n 2, 1) := by decide +kernel
theorem dX12_addStep_28 : decode cX12_addStep 28 = .ok (.iastore, 1) := by decide +kernel
theorem dX12_addStep_29 : decode cX12_addStep 29 = .ok (.aload_n 0, 1) := by decide +kernel
theorem dX12_addStep_30 : decode cX12_addStep 30 = .ok (.dup, 1) := by decide +kernel
theorem dX12_addStep_31 : decode cX12_addStep 31 = .ok (.getfield 169, 3) := by decide +kernel
theorem dX12_addStep_34 : decode cX12_addStep 34 = .ok (.iconst 1, 1) := by decide +kernel
theorem dX12_addStep_35 : decode cX12_addStep 35 = .ok (.iadd, 1) := by decide +kernel
theorem dX12_addStep_36 : decode cX12_addStep 36 = .ok (.putfield 169, 3) := by decide +kernel
theorem dX12_addStep_39 : decode cX12_addStep 39 = .ok (.return_, 1) := by decide +kernel
theorem dX12_nameOf_0 : decode cX12_nameOf 0 = .ok (.iload_n 0, 1) := by decide +kernel
theorem dX12_nameOf_1 : decode cX12_nameOf 1 = .ok (.tableswitch 99 99 116 #[93, 99, 99, 99, 89, 99, 99, 99, 99, 99, 99, 97, 99, 91, 99, 99, 95, 87], 87) := by decide +kernel
theorem dX12_nameOf_88 : decode cX12_nameOf 88 = .ok (.iconst 0, 1) := by decide +kernel
theorem dX12_nameOf_89 : decode cX12_nameOf 89 = .ok (.ireturn, 1) := by decide +kernel
theorem dX12_nameOf_90 : decode cX12_nameOf 90 = .ok (.iconst 1, 1) := by decide +kernel
theorem dX12_nameOf_91 : decode cX12_nameOf 91 = .ok (.ireturn, 1) := by decide +kernel
theorem dX12_nameOf_92 : decode cX12_nameOf 92 = .ok (.iconst 2, 1) := by decide +kernel
theorem dX12_nameOf_93 : decode cX12_nameOf 93 = .ok (.ireturn, 1) := by decide +kernel
theorem dX12_nameOf_94 : decode cX12_nameOf 94 = .ok (.iconst 3, 1) := by decide +kernel
theorem dX12_nameOf_95 : decode cX12_nameOf 95 = .ok (.ireturn, 1) := by decide +kernel
theorem dX12_nameOf_96 : decode cX12_nameOf 96 = .ok (.iconst 4, 1) := by decide +kernel
theorem dX12_nameOf_97 : decode cX12_nameOf 97 = .ok (.ireturn, 1) := by decide +kernel
theorem dX12_nameOf_98 : decode cX12_nameOf 98 = .ok (.iconst 5, 1) := by decide +kernel
theorem dX12_nameOf_99 : decode cX12_nameOf 99 = .ok (.ireturn, 1) := by decide +kernel
theorem dX12_nameOf_100 : decode cX12_nameOf 100 = .ok (.iconst (-1), 1) := by decide +kernel
theorem dX12_nameOf_101 : decode cX12_nameOf 101 = .ok (.ireturn, 1) := by decide +kernel
theorem dX12_opens_0 : decode cX12_opens 0 = .ok (.aload_n 0, 1) := by decide +kernel
theorem dX12_opens_1 : decode cX12_opens 1 = .ok (.getfield 172, 3) := by decide +kernel
theorem dX12_opens_4 : decode cX12_opens 4 = .ok (.bipush 6, 2) := by decide +kernel
theorem dX12_opens_6 : decode cX12_opens 6 = .ok (.if_icmp .ne 9, 3) := by decide +kernel
theorem dX12_opens_9 : decode cX12_opens 9 = .ok (.aload_n 0, 1) := by decide +kernel
theorem dX12_opens_10 : decode cX12_opens 10 = .ok (.invokevirtual 175, 3) := by decide +kernel
theorem dX12_opens_13 : decode cX12_opens 13 = .ok (.iconst 0, 1) := by decide +kernel
theorem dX12_opens_14 : decode cX12_opens 14 = .ok (.ireturn, 1) := by decide +kernel
theorem dX12_opens_15 : decode cX12_opens 15 = .ok (.aload_n 0, 1) := by decide +kernel
theorem dX12_opens_16 : decode cX12_opens 16 = .ok (.dup, 1) := by decide +kernel
theorem dX12_opens_17 : decode cX12_opens 17 = .ok (.getfield 172, 3) := by decide +kernel
theorem dX12_opens_20 : decode cX12_opens 20 = .ok (.iconst 1, 1) := by decide +kernel
theorem dX12_opens_21 : decode cX12_opens 21 = .ok (.iadd, 1) := by decide +kernel
theorem dX12_opens_22 : decode cX12_opens 22 = .ok (.putfield 172, 3) := by decide +kernel
theorem dX12_opens_25 : decode cX12_opens 25 = .ok (.aload_n 0, 1) := by decide +kernel
theorem dX12_opens_26 : decode cX12_opens 26 = .ok (.dup, 1) := by decide +kernel
theorem dX12_opens_27 : decode cX12_opens 27 = .ok (.getfield 163, 3) := by decide +kernel
theorem dX12_opens_30 : decode cX12_opens 30 = .ok (.iconst 1, 1) := by decide +kernel
theorem dX12_opens_31 : decode cX12_opens 31 = .ok (.iadd, 1) := by decide +kernel
theorem dX12_opens_32 : decode cX12_opens 32 = .ok (.putfield 163, 3) := by decide +kernel
theorem dX12_opens_35 : decode cX12_opens 35 = .ok (.iconst 1, 1) := by decide +kernel
theorem dX12_opens_36 : decode cX12_opens 36 = .ok (.ireturn, 1) := by decide +kernel
theorem dX12_figure_0 : decode cX12_figure 0 = .ok (.iconst 0, 1) := by decide +kernel
theorem dX12_figure_1 : decode cX12_figure 1 = .ok (.istore_n 1, 1) := by decide +kernel
theorem dX12_figure_2 : decode cX12_figure 2 = .ok (.iconst 0, 1) := by decide +kernel
theorem dX12_figure_3 : decode cX12_figure 3 = .ok (.istore_n 2, 1) := by decide +kernel
theorem dX12_figure_4 : decode cX12_figure 4 = .ok (.iload_n 2, 1) := by decide +kernel
theorem dX12_figure_5 : decode cX12_figure 5 = .ok (.iconst 4, 1) := by decide +kernel
theorem dX12_figure_6 : decode cX12_figure 6 = .ok (.if_icmp .ge 46, 3) := by decide +kernel
theorem dX12_figure_9 : decode cX12_figure 9 = .ok (.aload_n 0, 1) := by decide +kernel
theorem dX12_figure_10 : decode cX12_figure 10 = .ok (.invokevirtual 178, 3) := by decide +kernel
theorem dX12_figure_13 : decode cX12_figure 13 = .ok (.bipush 48, 2) := by decide +kernel
theorem dX12_figure_15 : decode cX12_figure 15 = .ok (.bipush 57, 2) := by decide +kernel
theorem dX12_figure_17 : decode cX12_figure 17 = .ok (.invokestatic 114, 3) := by decide +kernel
theorem dX12_figure_20 : decode cX12_figure 20 = .ok (.ifCond .eq 32, 3) := by decide +kernel
theorem dX12_figure_23 : decode cX12_figure 23 = .ok (.bipush 10, 2) := by decide +kernel
theorem dX12_figure_25 : decode cX12_figure 25 = .ok (.iload_n 1, 1) := by decide +kernel
theorem dX12_figure_26 : decode cX12_figure 26 = .ok (.imul, 1) := by decide +kernel
theorem dX12_figure_27 : decode cX12_figure 27 = .ok (.aload_n 0, 1) := by decide +kernel
theorem dX12_figure_28 : decode cX12_figure 28 = .ok (.invokevirtual 178, 3) := by decide +kernel
theorem dX12_figure_31 : decode cX12_figure 31 = .ok (.iadd, 1) := by decide +kernel
theorem dX12_figure_32 : decode cX12_figure 32 = .ok (.bipush 48, 2) := by decide +kernel
theorem dX12_figure_34 : decode cX12_figure 34 = .ok (.isub, 1) := by decide +kernel
theorem dX12_figure_35 : decode cX12_figure 35 = .ok (.istore_n 1, 1) := by decide +kernel
theorem dX12_figure_36 : decode cX12_figure 36 = .ok (.iinc 2 1, 3) := by decide +kernel
theorem dX12_figure_39 : decode cX12_figure 39 = .ok (.aload_n 0, 1) := by decide +kernel
theorem dX12_figure_40 : decode cX12_figure 40 = .ok (.dup, 1) := by decide +kernel
theorem dX12_figure_41 : decode cX12_figure 41 = .ok (.getfield 163, 3) := by decide +kernel
theorem dX12_figure_44 : decode cX12_figure 44 = .ok (.iconst 1, 1) := by decide +kernel
theorem dX12_figure_45 : decode cX12_figure 45 = .ok (.iadd, 1) := by decide +kernel
theorem dX12_figure_46 : decode cX12_figure 46 = .ok (.putfield 163, 3) := by decide +kernel
theorem dX12_figure_49 : decode cX12_figure 49 = .ok (.goto (-45), 3) := by decide +kernel
theorem dX12_figure_52 : decode cX12_figure 52 = .ok (.iload_n 2, 1) := by decide +kernel
