theorem dX0_init_0 : decode cX0_init 0 = .ok (.aload_n 0, 1) := by decide +kernel
theorem dX0_init_1 : decode cX0_init 1 = .ok (.invokespecial 3, 3) := by decide +kernel
theorem dX0_init_4 : decode cX0_init 4 = .ok (.aload_n 0, 1) := by decide +kernel
theorem dX0_init_5 : decode cX0_init 5 = .ok (.bipush 50, 2) := by decide +kernel
theorem dX0_init_7 : decode cX0_init 7 = .ok (.newarray .int, 2) := by decide +kernel
theorem dX0_init_9 : decode cX0_init 9 = .ok (.putfield 11, 3) := by decide +kernel
theorem dX0_init_12 : decode cX0_init 12 = .ok (.aload_n 0, 1) := by decide +kernel
theorem dX0_init_13 : decode cX0_init 13 = .ok (.bipush 24, 2) := by decide +kernel
theorem dX0_init_15 : decode cX0_init 15 = .ok (.newarray .int, 2) := by decide +kernel
theorem dX0_init_17 : decode cX0_init 17 = .ok (.putfield 15, 3) := by decide +kernel
theorem dX0_init_20 : decode cX0_init 20 = .ok (.return_, 1) := by decide +kernel
theorem dX0_isKind_0 : decode cX0_isKind 0 = .ok (.iload_n 0, 1) := by decide +kernel
theorem dX0_isKind_1 : decode cX0_isKind 1 = .ok (.ifCond .lt 13, 3) := by decide +kernel
theorem dX0_isKind_4 : decode cX0_isKind 4 = .ok (.iload_n 0, 1) := by decide +kernel
theorem dX0_isKind_5 : decode cX0_isKind 5 = .ok (.bipush 8, 2) := by decide +kernel
theorem dX0_isKind_7 : decode cX0_isKind 7 = .ok (.if_icmp .ge 7, 3) := by decide +kernel
theorem dX0_isKind_10 : decode cX0_isKind 10 = .ok (.iconst 1, 1) := by decide +kernel
theorem dX0_isKind_11 : decode cX0_isKind 11 = .ok (.goto 4, 3) := by decide +kernel
theorem dX0_isKind_14 : decode cX0_isKind 14 = .ok (.iconst 0, 1) := by decide +kernel
theorem dX0_isKind_15 : decode cX0_isKind 15 = .ok (.ireturn, 1) := by decide +kernel
theorem dX0_isUnder_0 : decode cX0_isUnder 0 = .ok (.iload_n 0, 1) := by decide +kernel
theorem dX0_isUnder_1 : decode cX0_isUnder 1 = .ok (.istore_n 2, 1) := by decide +kernel
theorem dX0_isUnder_2 : decode cX0_isUnder 2 = .ok (.iconst 0, 1) := by decide +kernel
theorem dX0_isUnder_3 : decode cX0_isUnder 3 = .ok (.istore_n 3, 1) := by decide +kernel
theorem dX0_isUnder_4 : decode cX0_isUnder 4 = .ok (.iload_n 3, 1) := by decide +kernel
theorem dX0_isUnder_5 : decode cX0_isUnder 5 = .ok (.bipush 8, 2) := by decide +kernel
theorem dX0_isUnder_7 : decode cX0_isUnder 7 = .ok (.if_icmp .ge 29, 3) := by decide +kernel
theorem dX0_isUnder_10 : decode cX0_isUnder 10 = .ok (.iload_n 2, 1) := by decide +kernel
theorem dX0_isUnder_11 : decode cX0_isUnder 11 = .ok (.invokestatic 18, 3) := by decide +kernel
theorem dX0_isUnder_14 : decode cX0_isUnder 14 = .ok (.ifCond .eq 22, 3) := by decide +kernel
theorem dX0_isUnder_17 : decode cX0_isUnder 17 = .ok (.iload_n 2, 1) := by decide +kernel
theorem dX0_isUnder_18 : decode cX0_isUnder 18 = .ok (.iload_n 1, 1) := by decide +kernel
theorem dX0_isUnder_19 : decode cX0_isUnder 19 = .ok (.if_icmp .ne 5, 3) := by decide +kernel
theorem dX0_isUnder_22 : decode cX0_isUnder 22 = .ok (.iconst 1, 1) := by decide +kernel
theorem dX0_isUnder_23 : decode cX0_isUnder 23 = .ok (.ireturn, 1) := by decide +kernel
theorem dX0_isUnder_24 : decode cX0_isUnder 24 = .ok (.getstatic 22, 3) := by decide +kernel
theorem dX0_isUnder_27 : decode cX0_isUnder 27 = .ok (.iload_n 2, 1) := by decide +kernel
theorem dX0_isUnder_28 : decode cX0_isUnder 28 = .ok (.iaload, 1) := by decide +kernel
theorem dX0_isUnder_29 : decode cX0_isUnder 29 = .ok (.istore_n 2, 1) := by decide +kernel
theorem dX0_isUnder_30 : decode cX0_isUnder 30 = .ok (.iinc 3 1, 3) := by decide +kernel
theorem dX0_isUnder_33 : decode cX0_isUnder 33 = .ok (.goto (-29), 3) := by decide +kernel
theorem dX0_isUnder_36 : decode cX0_isUnder 36 = .ok (.iconst 0, 1) := by decide +kernel
theorem dX0_isUnder_37 : decode cX0_isUnder 37 = .ok (.ireturn, 1) := by decide +kernel
theorem dX0_add_0 : decode cX0_add 0 = .ok (.aload_n 0, 1) := by decide +kernel
theorem dX0_add_1 : decode cX0_add 1 = .ok (.getfield 25, 3) := by decide +kernel
theorem dX0_add_4 : decode cX0_add 4 = .ok (.bipush 50, 2) := by decide +kernel
theorem dX0_add_6 : decode cX0_add 6 = .ok (.if_icmp .lt 6, 3) := by decide +kernel
theorem dX0_add_9 : decode cX0_add 9 = .ok (.bipush (-3), 2) := by decide +kernel
theorem dX0_add_11 : decode cX0_add 11 = .ok (.ireturn, 1) := by decide +kernel
theorem dX0_add_12 : decode cX0_add 12 = .ok (.aload_n 0, 1) := by decide +kernel
theorem dX0_add_13 : decode cX0_add 13 = .ok (.getfield 11, 3) := by decide +kernel
theorem dX0_add_16 : decode cX0_add 16 = .ok (.aload_n 0, 1) := by decide +kernel
theorem dX0_add_17 : decode cX0_add 17 = .ok (.getfield 25, 3) := by decide +kernel
theorem dX0_add_20 : decode cX0_add 20 = .ok (.iload_n 1, 1) := by decide +kernel
theorem dX0_add_21 : decode cX0_add 21 = .ok (.iastore, 1) := by decide +kernel
theorem dX0_add_22 : decode cX0_add 22 = .ok (.aload_n 0, 1) := by decide +kernel
theorem dX0_add_23 : decode cX0_add 23 = .ok (.dup, 1) := by decide +kernel
theorem dX0_add_24 : decode cX0_add 24 = .ok (.getfield 25, 3) := by decide +kernel
theorem dX0_add_27 : decode cX0_add 27 = .ok (.iconst 1, 1) := by decide +kernel
theorem dX0_add_28 : decode cX0_add 28 = .ok (.iadd, 1) := by decide +kernel
theorem dX0_add_29 : decode cX0_add 29 = .ok (.putfield 25, 3) := by decide +kernel
theorem dX0_add_32 : decode cX0_add 32 = .ok (.aload_n 0, 1) := by decide +kernel
theorem dX0_add_33 : decode cX0_add 33 = .ok (.getfield 25, 3) := by decide +kernel
theorem dX0_add_36 : decode cX0_add 36 = .ok (.iconst 1, 1) := by decide +kernel
theorem dX0_add_37 : decode cX0_add 37 = .ok (.isub, 1) := by decide +kernel
theorem dX0_add_38 : decode cX0_add 38 = .ok (.ireturn, 1) := by decide +kernel
theorem dX0_has_0 : decode cX0_has 0 = .ok (.iload_n 1, 1) := by decide +kernel
theorem dX0_has_1 : decode cX0_has 1 = .ok (.ifCond .lt 15, 3) := by decide +kernel
theorem dX0_has_4 : decode cX0_has 4 = .ok (.iload_n 1, 1) := by decide +kernel
theorem dX0_has_5 : decode cX0_has 5 = .ok (.aload_n 0, 1) := by decide +kernel
theorem dX0_has_6 : decode cX0_has 6 = .ok (.getfield 25, 3) := by decide +kernel
theorem dX0_has_9 : decode cX0_has 9 = .ok (.if_icmp .ge 7, 3) := by decide +kernel
theorem dX0_has_12 : decode cX0_has 12 = .ok (.iconst 1, 1) := by decide +kernel
theorem dX0_has_13 : decode cX0_has 13 = .ok (.goto 4, 3) := by decide +kernel
theorem dX0_has_16 : decode cX0_has 16 = .ok (.iconst 0, 1) := by decide +kernel
theorem dX0_has_17 : decode cX0_has 17 = .ok (.ireturn, 1) := by decide +kernel
theorem dX0_kindOf_0 : decode cX0_kindOf 0 = .ok (.aload_n 0, 1) := by decide +kernel
theorem dX0_kindOf_1 : decode cX0_kindOf 1 = .ok (.iload_n 1, 1) := by decide +kernel
theorem dX0_kindOf_2 : decode cX0_kindOf 2 = .ok (.invokevirtual 29, 3) := by decide +kernel
theorem dX0_kindOf_5 : decode cX0_kindOf 5 = .ok (.ifCond .eq 12, 3) := by decide +kernel
theorem dX0_kindOf_8 : decode cX0_kindOf 8 = .ok (.aload_n 0, 1) := by decide +kernel
theorem dX0_kindOf_9 : decode cX0_kindOf 9 = .ok (.getfield 11, 3) := by decide +kernel
theorem dX0_kindOf_12 : decode cX0_kindOf 12 = .ok (.iload_n 1, 1) := by decide +kernel
theorem dX0_kindOf_13 : decode cX0_kindOf 13 = .ok (.iaload, 1) := by decide +kernel
theorem dX0_kindOf_14 : decode cX0_kindOf 14 = .ok (.goto 4, 3) := by decide +kernel
theorem dX0_kindOf_17 : decode cX0_kindOf 17 = .ok (.iconst (-1), 1) := by decide +kernel
theorem dX0_kindOf_18 : decode cX0_kindOf 18 = .ok (.ireturn, 1) := by decide +kernel
theorem dX0_traced_0 : decode cX0_traced 0 = .ok (.aload_n 0, 1) := by decide +kernel
theorem dX0_traced_1 : decode cX0_traced 1 = .ok (.getfield 32, 3) := by decide +kernel
theorem dX0_traced_4 : decode cX0_traced 4 = .ok (.bipush 24, 2) := by decide +kernel
theorem dX0_traced_6 : decode cX0_traced 6 = .ok (.invokestatic 35, 3) := by decide +kernel
theorem dX0_traced_9 : decode cX0_traced 9 = .ok (.ireturn, 1) := by decide +kernel
theorem dX0_perform_0 : decode cX0_perform 0 = .ok (.aload_n 0, 1) := by decide +kernel
theorem dX0_perform_1 : decode cX0_perform 1 = .ok (.iconst 0, 1) := by decide +kernel
theorem dX0_perform_2 : decode cX0_perform 2 = .ok (.putfield 32, 3) := by decide +kernel
theorem dX0_perform_5 : decode cX0_perform 5 = .ok (.aload_n 0, 1) := by decide +kernel
theorem dX0_perform_6 : decode cX0_perform 6 = .ok (.iload_n 1, 1) := by decide +kernel
theorem dX0_perform_7 : decode cX0_perform 7 = .ok (.invokevirtual 29, 3) := by decide +kernel
theorem dX0_perform_10 : decode cX0_perform 10 = .ok (.ifCond .eq 12, 3) := by decide +kernel
theorem dX0_perform_13 : decode cX0_perform 13 = .ok (.iload_n 2, 1) := by decide +kernel
theorem dX0_perform_14 : decode cX0_perform 14 = .ok (.ifCond .lt 8, 3) := by decide +kernel
theorem dX0_perform_17 : decode cX0_perform 17 = .ok (.iload_n 2, 1) := by decide +kernel
theorem dX0_perform_18 : decode cX0_perform 18 = .ok (.iconst 4, 1) := by decide +kernel
theorem dX0_perform_19 : decode cX0_perform 19 = .ok (.if_icmp .lt 5, 3) := by decide +kernel
theorem dX0_perform_22 : decode cX0_perform 22 = .ok (.iconst 0, 1) := by decide +kernel
theorem dX0_perform_23 : decode cX0_perform 23 = .ok (.ireturn, 1) := by decide +kernel
theorem dX0_perform_24 : decode cX0_perform 24 = .ok (.aload_n 0, 1) := by decide +kernel
theorem dX0_perform_25 : decode cX0_perform 25 = .ok (.iload_n 1, 1) := by decide +kernel
theorem dX0_perform_26 : decode cX0_perform 26 = .ok (.putfield 41, 3) := by decide +kernel
theorem dX0_perform_29 : decode cX0_perform 29 = .ok (.aload_n 0, 1) := by decide +kernel
theorem dX0_perform_30 : decode cX0_perform 30 = .ok (.aload_n 0, 1) := by decide +kernel
theorem dX0_perform_31 : decode cX0_perform 31 = .ok (.getfield 11, 3) := by decide +kernel
theorem dX0_perform_34 : decode cX0_perform 34 = .ok (.iload_n 1, 1) := by decide +kernel
theorem dX0_perform_35 : decode cX0_perform 35 = .ok (.iaload, 1) := by decide +kernel
theorem dX0_perform_36 : decode cX0_perform 36 = .ok (.putfield 44, 3) := by decide +kernel
theorem dX0_perform_39 : decode cX0_perform 39 = .ok (.aload_n 0, 1) := by decide +kernel
theorem dX0_perform_40 : decode cX0_perform 40 = .ok (.iload_n 2, 1) := by decide +kernel
theorem dX0_perform_41 : decode cX0_perform 41 = .ok (.iload_n 3, 1) := by decide +kernel
theorem dX0_perform_42 : decode cX0_perform 42 = .ok (.iconst 0, 1) := by decide +kernel
theorem dX0_perform_43 : decode cX0_perform 43 = .ok (.invokevirtual 47, 3) := by decide +kernel
theorem dX0_perform_46 : decode cX0_perform 46 = .ok (.ireturn, 1) := by decide +kernel
theorem dX0_own_0 : decode cX0_own 0 = .ok (.aload_n 0, 1) := by decide +kernel
theorem dX0_own_1 : decode cX0_own 1 = .ok (.aload_n 0, 1) := by decide +kernel
theorem dX0_own_2 : decode cX0_own 2 = .ok (.getfield 44, 3) := by decide +kernel
theorem dX0_own_5 : decode cX0_own 5 = .ok (.iload_n 1, 1) := by decide +kernel
theorem dX0_own_6 : decode cX0_own 6 = .ok (.invokestatic 51, 3) := by decide +kernel
theorem dX0_own_9 : decode cX0_own 9 = .ok (.iload_n 2, 1) := by decide +kernel
theorem dX0_own_10 : decode cX0_own 10 = .ok (.iload_n 3, 1) := by decide +kernel
theorem dX0_own_11 : decode cX0_own 11 = .ok (.iconst 1, 1) := by decide +kernel
theorem dX0_own_12 : decode cX0_own 12 = .ok (.iadd, 1) := by decide +kernel
theorem dX0_own_13 : decode cX0_own 13 = .ok (.invokevirtual 54, 3) := by decide +kernel
theorem dX0_own_16 : decode cX0_own 16 = .ok (.ireturn, 1) := by decide +kernel
theorem dX0_above_0 : decode cX0_above 0 = .ok (.iload_n 1, 1) := by decide +kernel
theorem dX0_above_1 : decode cX0_above 1 = .ok (.bipush 10, 2) := by decide +kernel
theorem dX0_above_3 : decode cX0_above 3 = .ok (.idiv, 1) := by decide +kernel
theorem dX0_above_4 : decode cX0_above 4 = .ok (.iconst 1, 1) := by decide +kernel
theorem dX0_above_5 : decode cX0_above 5 = .ok (.isub, 1) := by decide +kernel
theorem dX0_above_6 : decode cX0_above 6 = .ok (.istore 5, 2) := by decide +kernel
theorem dX0_above_8 : decode cX0_above 8 = .ok (.aload_n 0, 1) := by decide +kernel
theorem dX0_above_9 : decode cX0_above 9 = .ok (.iload 5, 2) := by decide +kernel
theorem dX0_above_11 : decode cX0_above 11 = .ok (.invokestatic 18, 3) := by decide +kernel
theorem dX0_above_14 : decode cX0_above 14 = .ok (.ifCond .eq 12, 3) := by decide +kernel
theorem dX0_above_17 : decode cX0_above 17 = .ok (.getstatic 22, 3) := by decide +kernel
theorem dX0_above_20 : decode cX0_above 20 = .ok (.iload 5, 2) := by decide +kernel
theorem dX0_above_22 : decode cX0_above 22 = .ok (.iaload, 1) := by decide +kernel
theorem dX0_above_23 : decode cX0_above 23 = .ok (.goto 4, 3) := by decide +kernel
theorem dX0_above_26 : decode cX0_above 26 = .ok (.iconst (-1), 1) := by decide +kernel
theorem dX0_above_27 : decode cX0_above 27 = .ok (.iload_n 2, 1) := by decide +kernel
theorem dX0_above_28 : decode cX0_above 28 = .ok (.invokestatic 51, 3) := by decide +kernel
theorem dX0_above_31 : decode cX0_above 31 = .ok (.iload_n 3, 1) := by decide +kernel
theorem dX0_above_32 : decode cX0_above 32 = .ok (.iload 4, 2) := by decide +kernel
theorem dX0_above_34 : decode cX0_above 34 = .ok (.iconst 1, 1) := by decide +kernel
theorem dX0_above_35 : decode cX0_above 35 = .ok (.iadd, 1) := by decide +kernel
theorem dX0_above_36 : decode cX0_above 36 = .ok (.invokevirtual 54, 3) := by decide +kernel
theorem dX0_above_39 : decode cX0_above 39 = .ok (.ireturn, 1) := by decide +kernel
theorem dX0_runFrom_0 : decode cX0_runFrom 0 = .ok (.iload_n 0, 1) := by decide +kernel
theorem dX0_runFrom_1 : decode cX0_runFrom 1 = .ok (.istore_n 2, 1) := by decide +kernel
theorem dX0_runFrom_2 : decode cX0_runFrom 2 = .ok (.iconst 0, 1) := by decide +kernel
theorem dX0_runFrom_3 : decode cX0_runFrom 3 = .ok (.istore_n 3, 1) := by decide +kernel
theorem dX0_runFrom_4 : decode cX0_runFrom 4 = .ok (.iload_n 3, 1) := by decide +kernel
theorem dX0_runFrom_5 : decode cX0_runFrom 5 = .ok (.bipush 8, 2) := by decide +kernel
theorem dX0_runFrom_7 : decode cX0_runFrom 7 = .ok (.if_icmp .ge 44, 3) := by decide +kernel
theorem dX0_runFrom_10 : decode cX0_runFrom 10 = .ok (.iload_n 2, 1) := by decide +kernel
theorem dX0_runFrom_11 : decode cX0_runFrom 11 = .ok (.invokestatic 18, 3) := by decide +kernel
theorem dX0_runFrom_14 : decode cX0_runFrom 14 = .ok (.ifCond .eq 37, 3) := by decide +kernel
theorem dX0_runFrom_17 : decode cX0_runFrom 17 = .ok (.getstatic 57, 3) := by decide +kernel
theorem dX0_runFrom_20 : decode cX0_runFrom 20 = .ok (.iload_n 2, 1) := by decide +kernel
theorem dX0_runFrom_21 : decode cX0_runFrom 21 = .ok (.iconst 4, 1) := by decide +kernel
theorem dX0_runFrom_22 : decode cX0_runFrom 22 = .ok (.imul, 1) := by decide +kernel
theorem dX0_runFrom_23 : decode cX0_runFrom 23 = .ok (.iload_n 1, 1) := by decide +kernel
theorem dX0_runFrom_24 : decode cX0_runFrom 24 = .ok (.iadd, 1) := by decide +kernel
theorem dX0_runFrom_25 : decode cX0_runFrom 25 = .ok (.iaload, 1) := by decide +kernel
theorem dX0_runFrom_26 : decode cX0_runFrom 26 = .ok (.ifCond .eq 13, 3) := by decide +kernel
theorem dX0_runFrom_29 : decode cX0_runFrom 29 = .ok (.getstatic 57, 3) := by decide +kernel
theorem dX0_runFrom_32 : decode cX0_runFrom 32 = .ok (.iload_n 2, 1) := by decide +kernel
theorem dX0_runFrom_33 : decode cX0_runFrom 33 = .ok (.iconst 4, 1) := by decide +kernel
theorem dX0_runFrom_34 : decode cX0_runFrom 34 = .ok (.imul, 1) := by decide +kernel
theorem dX0_runFrom_35 : decode cX0_runFrom 35 = .ok (.iload_n 1, 1) := by decide +kernel
theorem dX0_runFrom_36 : decode cX0_runFrom 36 = .ok (.iadd, 1) := by decide +kernel
theorem dX0_runFrom_37 : decode cX0_runFrom 37 = .ok (.iaload, 1) := by decide +kernel
theorem dX0_runFrom_38 : decode cX0_runFrom 38 = .ok (.ireturn, 1) := by decide +kernel
theorem dX0_runFrom_39 : decode cX0_runFrom 39 = .ok (.getstatic 22, 3) := by decide +kernel
theorem dX0_runFrom_42 : decode cX0_runFrom 42 = .ok (.iload_n 2, 1) := by decide +kernel
theorem dX0_runFrom_43 : decode cX0_runFrom 43 = .ok (.iaload, 1) := by decide +kernel
theorem dX0_runFrom_44 : decode cX0_runFrom 44 = .ok (.istore_n 2, 1) := by decide +kernel
theorem dX0_runFrom_45 : decode cX0_runFrom 45 = .ok (.iinc 3 1, 3) := by decide +kernel
theorem dX0_runFrom_48 : decode cX0_runFrom 48 = .ok (.goto (-44), 3) := by decide +kernel
theorem dX0_runFrom_51 : decode cX0_runFrom 51 = .ok (.iconst 0, 1) := by decide +kernel
theorem dX0_runFrom_52 : decode cX0_runFrom 52 = .ok (.ireturn, 1) := by decide +kernel
theorem dX0_begin_0 : decode cX0_begin 0 = .ok (.aload_n 0, 1) := by decide +kernel
theorem dX0_begin_1 : decode cX0_begin 1 = .ok (.getfield 32, 3) := by decide +kernel
theorem dX0_begin_4 : decode cX0_begin 4 = .ok (.bipush 24, 2) := by decide +kernel
theorem dX0_begin_6 : decode cX0_begin 6 = .ok (.if_icmp .ge 13, 3) := by decide +kernel
theorem dX0_begin_9 : decode cX0_begin 9 = .ok (.aload_n 0, 1) := by decide +kernel
theorem dX0_begin_10 : decode cX0_begin 10 = .ok (.getfield 15, 3) := by decide +kernel
theorem dX0_begin_13 : decode cX0_begin 13 = .ok (.aload_n 0, 1) := by decide +kernel
theorem dX0_begin_14 : decode cX0_begin 14 = .ok (.getfield 32, 3) := by decide +kernel
theorem dX0_begin_17 : decode cX0_begin 17 = .ok (.iload_n 1, 1) := by decide +kernel
theorem dX0_begin_18 : decode cX0_begin 18 = .ok (.iastore, 1) := by decide +kernel
theorem dX0_begin_19 : decode cX0_begin 19 = .ok (.aload_n 0, 1) := by decide +kernel
theorem dX0_begin_20 : decode cX0_begin 20 = .ok (.dup, 1) := by decide +kernel
theorem dX0_begin_21 : decode cX0_begin 21 = .ok (.getfield 32, 3) := by decide +kernel
theorem dX0_begin_24 : decode cX0_begin 24 = .ok (.iconst 1, 1) := by decide +kernel
theorem dX0_begin_25 : decode cX0_begin 25 = .ok (.iadd, 1) := by decide +kernel
theorem dX0_begin_26 : decode cX0_begin 26 = .ok (.putfield 32, 3) := by decide +kernel
theorem dX0_begin_29 : decode cX0_begin 29 = .ok (.return_, 1) := by decide +kernel
theorem dX0_run_0 : decode cX0_run 0 = .ok (.iload_n 1, 1) := by decide +kernel
theorem dX0_run_1 : decode cX0_run 1 = .ok (.ifCond .eq 9, 3) := by decide +kernel
theorem dX0_run_4 : decode cX0_run 4 = .ok (.iload_n 3, 1) := by decide +kernel
theorem dX0_run_5 : decode cX0_run 5 = .ok (.bipush 40, 2) := by decide +kernel
theorem dX0_run_7 : decode cX0_run 7 = .ok (.if_icmp .le 5, 3) := by decide +kernel
theorem dX0_run_10 : decode cX0_run 10 = .ok (.iconst 0, 1) := by decide +kernel
theorem dX0_run_11 : decode cX0_run 11 = .ok (.ireturn, 1) := by decide +kernel
theorem dX0_run_12 : decode cX0_run 12 = .ok (.aload_n 0, 1) := by decide +kernel
theorem dX0_run_13 : decode cX0_run 13 = .ok (.iload_n 1, 1) := by decide +kernel
theorem dX0_run_14 : decode cX0_run 14 = .ok (.invokevirtual 60, 3) := by decide +kernel
theorem dX0_run_17 : decode cX0_run 17 = .ok (.iload_n 1, 1) := by decide +kernel
theorem dX0_run_18 : decode cX0_run 18 = .ok (.lookupswitch 283 #[(1, 122), (2, 129), (10, 145), (11, 155), (20, 162), (30, 173), (40, 183), (41, 194), (50, 205), (60, 216), (61, 233), (70, 244), (80, 255), (81, 272)], 122) := by decide +kernel
theorem dX0_run_140 : decode cX0_run 140 = .ok (.iload_n 2, 1) := by decide +kernel
theorem dX0_run_141 : decode cX0_run 141 = .ok (.aload_n 0, 1) := by decide +kernel
theorem dX0_run_142 : decode cX0_run 142 = .ok (.getfield 41, 3) := by decide +kernel
theorem dX0_run_145 : decode cX0_run 145 = .ok (.iadd, 1) := by decide +kernel
theorem dX0_run_146 : decode cX0_run 146 = .ok (.ireturn, 1) := by decide +kernel
theorem dX0_run_147 : decode cX0_run 147 = .ok (.aload_n 0, 1) := by decide +kernel
theorem dX0_run_148 : decode cX0_run 148 = .ok (.iconst 1, 1) := by decide +kernel
theorem dX0_run_149 : decode cX0_run 149 = .ok (.iload_n 2, 1) := by decide +kernel
theorem dX0_run_150 : decode cX0_run 150 = .ok (.iload_n 3, 1) := by decide +kernel
theorem dX0_run_151 : decode cX0_run 151 = .ok (.invokevirtual 47, 3) := by decide +kernel
theorem dX0_run_154 : decode cX0_run 154 = .ok (.aload_n 0, 1) := by decide +kernel
theorem dX0_run_155 : decode cX0_run 155 = .ok (.iconst 2, 1) := by decide +kernel
theorem dX0_run_156 : decode cX0_run 156 = .ok (.iconst 1, 1) := by decide +kernel
theorem dX0_run_157 : decode cX0_run 157 = .ok (.iload_n 3, 1) := by decide +kernel
theorem dX0_run_158 : decode cX0_run 158 = .ok (.invokevirtual 47, 3) := by decide +kernel
theorem dX0_run_161 : decode cX0_run 161 = .ok (.isub, 1) := by decide +kernel
theorem dX0_run_162 : decode cX0_run 162 = .ok (.ireturn, 1) := by decide +kernel
theorem dX0_run_163 : decode cX0_run 163 = .ok (.aload_n 0, 1) := by decide +kernel
theorem dX0_run_164 : decode cX0_run 164 = .ok (.iconst 0, 1) := by decide +kernel
theorem dX0_run_165 : decode cX0_run 165 = .ok (.iload_n 2, 1) := by decide +kernel
theorem dX0_run_166 : decode cX0_run 166 = .ok (.iload_n 3, 1) := by decide +kernel
theorem dX0_run_167 : decode cX0_run 167 = .ok (.invokevirtual 47, 3) := by decide +kernel
theorem dX0_run_170 : decode cX0_run 170 = .ok (.iconst 2, 1) := by decide +kernel
theorem dX0_run_171 : decode cX0_run 171 = .ok (.imul, 1) := by decide +kernel
theorem dX0_run_172 : decode cX0_run 172 = .ok (.ireturn, 1) := by decide +kernel
theorem dX0_run_173 : decode cX0_run 173 = .ok (.iload_n 2, 1) := by decide +kernel
theorem dX0_run_174 : decode cX0_run 174 = .ok (.aload_n 0, 1) := by decide +kernel
theorem dX0_run_175 : decode cX0_run 175 = .ok (.getfield 41, 3) := by decide +kernel
theorem dX0_run_178 : decode cX0_run 178 = .ok (.ixor, 1) := by decide +kernel
theorem dX0_run_179 : decode cX0_run 179 = .ok (.ireturn, 1) := by decide +kernel
theorem dX0_run_180 : decode cX0_run 180 = .ok (.aload_n 0, 1) := by decide +kernel
theorem dX0_run_181 : decode cX0_run 181 = .ok (.iload_n 1, 1) := by decide +kernel
theorem dX0_run_182 : decode cX0_run 182 = .ok (.iconst 0, 1) := by decide +kernel
theorem dX0_run_183 : decode cX0_run 183 = .ok (.iload_n 2, 1) := by decide +kernel
theorem dX0_run_184 : decode cX0_run 184 = .ok (.iload_n 3, 1) := by decide +kernel
theorem dX0_run_185 : decode cX0_run 185 = .ok (.invokevirtual 64, 3) := by decide +kernel
theorem dX0_run_188 : decode cX0_run 188 = .ok (.iconst 3, 1) := by decide +kernel
theorem dX0_run_189 : decode cX0_run 189 = .ok (.iadd, 1) := by decide +kernel
theorem dX0_run_190 : decode cX0_run 190 = .ok (.ireturn, 1) := by decide +kernel
theorem dX0_run_191 : decode cX0_run 191 = .ok (.aload_n 0, 1) := by decide +kernel
theorem dX0_run_192 : decode cX0_run 192 = .ok (.iload_n 1, 1) := by decide +kernel
theorem dX0_run_193 : decode cX0_run 193 = .ok (.iconst 1, 1) := by decide +kernel
theorem dX0_run_194 : decode cX0_run 194 = .ok (.iload_n 2, 1) := by decide +kernel
theorem dX0_run_195 : decode cX0_run 195 = .ok (.iload_n 3, 1) := by decide +kernel
theorem dX0_run_196 : decode cX0_run 196 = .ok (.invokevirtual 64, 3) := by decide +kernel
theorem dX0_run_199 : decode cX0_run 199 = .ok (.ineg, 1) := by decide +kernel
theorem dX0_run_200 : decode cX0_run 200 = .ok (.ireturn, 1) := by decide +kernel
theorem dX0_run_201 : decode cX0_run 201 = .ok (.aload_n 0, 1) := by decide +kernel
theorem dX0_run_202 : decode cX0_run 202 = .ok (.iload_n 1, 1) := by decide +kernel
theorem dX0_run_203 : decode cX0_run 203 = .ok (.iconst 2, 1) := by decide +kernel
theorem dX0_run_204 : decode cX0_run 204 = .ok (.iload_n 2, 1) := by decide +kernel
theorem dX0_run_205 : decode cX0_run 205 = .ok (.iload_n 3, 1) := by decide +kernel
theorem dX0_run_206 : decode cX0_run 206 = .ok (.invokevirtual 64, 3) := by decide +kernel
theorem dX0_run_209 : decode cX0_run 209 = .ok (.iconst 3, 1) := by decide +kernel
theorem dX0_run_210 : decode cX0_run 210 = .ok (.imul, 1) := by decide +kernel
theorem dX0_run_211 : decode cX0_run 211 = .ok (.ireturn, 1) := by decide +kernel
theorem dX0_run_212 : decode cX0_run 212 = .ok (.aload_n 0, 1) := by decide +kernel
theorem dX0_run_213 : decode cX0_run 213 = .ok (.iload_n 1, 1) := by decide +kernel
theorem dX0_run_214 : decode cX0_run 214 = .ok (.iconst 1, 1) := by decide +kernel
theorem dX0_run_215 : decode cX0_run 215 = .ok (.iload_n 2, 1) := by decide +kernel
theorem dX0_run_216 : decode cX0_run 216 = .ok (.iconst 1, 1) := by decide +kernel
theorem dX0_run_217 : decode cX0_run 217 = .ok (.iadd, 1) := by decide +kernel
theorem dX0_run_218 : decode cX0_run 218 = .ok (.iload_n 3, 1) := by decide +kernel
theorem dX0_run_219 : decode cX0_run 219 = .ok (.invokevirtual 64, 3) := by decide +kernel
theorem dX0_run_222 : decode cX0_run 222 = .ok (.ireturn, 1) := by decide +kernel
theorem dX0_run_223 : decode cX0_run 223 = .ok (.aload_n 0, 1) := by decide +kernel
theorem dX0_run_224 : decode cX0_run 224 = .ok (.iload_n 1, 1) := by decide +kernel
theorem dX0_run_225 : decode cX0_run 225 = .ok (.iconst 3, 1) := by decide +kernel
theorem dX0_run_226 : decode cX0_run 226 = .ok (.iload_n 2, 1) := by decide +kernel
theorem dX0_run_227 : decode cX0_run 227 = .ok (.iload_n 3, 1) := by decide +kernel
theorem dX0_run_228 : decode cX0_run 228 = .ok (.invokevirtual 64, 3) := by decide +kernel
theorem dX0_run_231 : decode cX0_run 231 = .ok (.iconst 5, 1) := by decide +kernel
theorem dX0_run_232 : decode cX0_run 232 = .ok (.ixor, 1) := by decide +kernel
theorem dX0_run_233 : decode cX0_run 233 = .ok (.ireturn, 1) := by decide +kernel
theorem dX0_run_234 : decode cX0_run 234 = .ok (.aload_n 0, 1) := by decide +kernel
theorem dX0_run_235 : decode cX0_run 235 = .ok (.iload_n 1, 1) := by decide +kernel
theorem dX0_run_236 : decode cX0_run 236 = .ok (.iconst 2, 1) := by decide +kernel
theorem dX0_run_237 : decode cX0_run 237 = .ok (.iload_n 2, 1) := by decide +kernel
theorem dX0_run_238 : decode cX0_run 238 = .ok (.iload_n 3, 1) := by decide +kernel
theorem dX0_run_239 : decode cX0_run 239 = .ok (.invokevirtual 64, 3) := by decide +kernel
theorem dX0_run_242 : decode cX0_run 242 = .ok (.aload_n 0, 1) := by decide +kernel
theorem dX0_run_243 : decode cX0_run 243 = .ok (.iconst 0, 1) := by decide +kernel
theorem dX0_run_244 : decode cX0_run 244 = .ok (.iconst 2, 1) := by decide +kernel
theorem dX0_run_245 : decode cX0_run 245 = .ok (.iload_n 3, 1) := by decide +kernel
theorem dX0_run_246 : decode cX0_run 246 = .ok (.invokevirtual 47, 3) := by decide +kernel
theorem dX0_run_249 : decode cX0_run 249 = .ok (.isub, 1) := by decide +kernel
theorem dX0_run_250 : decode cX0_run 250 = .ok (.ireturn, 1) := by decide +kernel
theorem dX0_run_251 : decode cX0_run 251 = .ok (.aload_n 0, 1) := by decide +kernel
theorem dX0_run_252 : decode cX0_run 252 = .ok (.iload_n 1, 1) := by decide +kernel
theorem dX0_run_253 : decode cX0_run 253 = .ok (.iconst 3, 1) := by decide +kernel
theorem dX0_run_254 : decode cX0_run 254 = .ok (.iload_n 2, 1) := by decide +kernel
theorem dX0_run_255 : decode cX0_run 255 = .ok (.iload_n 3, 1) := by decide +kernel
theorem dX0_run_256 : decode cX0_run 256 = .ok (.invokevirtual 64, 3) := by decide +kernel
theorem dX0_run_259 : decode cX0_run 259 = .ok (.iconst 1, 1) := by decide +kernel
theorem dX0_run_260 : decode cX0_run 260 = .ok (.iadd, 1) := by decide +kernel
theorem dX0_run_261 : decode cX0_run 261 = .ok (.ireturn, 1) := by decide +kernel
theorem dX0_run_262 : decode cX0_run 262 = .ok (.aload_n 0, 1) := by decide +kernel
theorem dX0_run_263 : decode cX0_run 263 = .ok (.iload_n 1, 1) := by decide +kernel
theorem dX0_run_264 : decode cX0_run 264 = .ok (.iconst 0, 1) := by decide +kernel
theorem dX0_run_265 : decode cX0_run 265 = .ok (.iload_n 2, 1) := by decide +kernel
theorem dX0_run_266 : decode cX0_run 266 = .ok (.iload_n 3, 1) := by decide +kernel
theorem dX0_run_267 : decode cX0_run 267 = .ok (.invokevirtual 64, 3) := by decide +kernel
theorem dX0_run_270 : decode cX0_run 270 = .ok (.iconst 2, 1) := by decide +kernel
theorem dX0_run_271 : decode cX0_run 271 = .ok (.imul, 1) := by decide +kernel
theorem dX0_run_272 : decode cX0_run 272 = .ok (.ireturn, 1) := by decide +kernel
theorem dX0_run_273 : decode cX0_run 273 = .ok (.aload_n 0, 1) := by decide +kernel
theorem dX0_run_274 : decode cX0_run 274 = .ok (.iload_n 1, 1) := by decide +kernel
theorem dX0_run_275 : decode cX0_run 275 = .ok (.iconst 1, 1) := by decide +kernel
theorem dX0_run_276 : decode cX0_run 276 = .ok (.iload_n 2, 1) := by decide +kernel
theorem dX0_run_277 : decode cX0_run 277 = .ok (.iload_n 3, 1) := by decide +kernel
theorem dX0_run_278 : decode cX0_run 278 = .ok (.invokevirtual 64, 3) := by decide +kernel
theorem dX0_run_281 : decode cX0_run 281 = .ok (.aload_n 0, 1) := by decide +kernel
theorem dX0_run_282 : decode cX0_run 282 = .ok (.iconst 2, 1) := by decide +kernel
theorem dX0_run_283 : decode cX0_run 283 = .ok (.iconst 2, 1) := by decide +kernel
theorem dX0_run_284 : decode cX0_run 284 = .ok (.iload_n 3, 1) := by decide +kernel
theorem dX0_run_285 : decode cX0_run 285 = .ok (.invokevirtual 47, 3) := by decide +kernel
theorem dX0_run_288 : decode cX0_run 288 = .ok (.iadd, 1) := by decide +kernel
theorem dX0_run_289 : decode cX0_run 289 = .ok (.ireturn, 1) := by decide +kernel
theorem dX0_run_290 : decode cX0_run 290 = .ok (.aload_n 0, 1) := by decide +kernel
theorem dX0_run_291 : decode cX0_run 291 = .ok (.iload_n 1, 1) := by decide +kernel
theorem dX0_run_292 : decode cX0_run 292 = .ok (.iconst 0, 1) := by decide +kernel
theorem dX0_run_293 : decode cX0_run 293 = .ok (.iload_n 2, 1) := by decide +kernel
theorem dX0_run_294 : decode cX0_run 294 = .ok (.iload_n 3, 1) := by decide +kernel
theorem dX0_run_295 : decode cX0_run 295 = .ok (.invokevirtual 64, 3) := by decide +kernel
theorem dX0_run_298 : decode cX0_run 298 = .ok (.iconst 1, 1) := by decide +kernel
theorem dX0_run_299 : decode cX0_run 299 = .ok (.isub, 1) := by decide +kernel
theorem dX0_run_300 : decode cX0_run 300 = .ok (.ireturn, 1) := by decide +kernel
theorem dX0_run_301 : decode cX0_run 301 = .ok (.iconst 0, 1) := by decide +kernel
theorem dX0_run_302 : decode cX0_run 302 = .ok (.ireturn, 1) := by decide +kernel
theorem dX1_init_0 : decode cX1_init 0 = .ok (.aload_n 0, 1) := by decide +kernel
theorem dX1_init_1 : decode cX1_init 1 = .ok (.invokespecial 1, 3) := by decide +kernel
theorem dX1_init_4 : decode cX1_init 4 = .ok (.aload_n 0, 1) := by decide +kernel
theorem dX1_init_5 : decode cX1_init 5 = .ok (.bipush 40, 2) := by decide +kernel
theorem dX1_init_7 : decode cX1_init 7 = .ok (.newarray .int, 2) := by decide +kernel
theorem dX1_init_9 : decode cX1_init 9 = .ok (.putfield 9, 3) := by decide +kernel
theorem dX1_init_12 : decode cX1_init 12 = .ok (.aload_n 0, 1) := by decide +kernel
theorem dX1_init_13 : decode cX1_init 13 = .ok (.bipush 40, 2) := by decide +kernel
theorem dX1_init_15 : decode cX1_init 15 = .ok (.newarray .int, 2) := by decide +kernel
theorem dX1_init_17 : decode cX1_init 17 = .ok (.putfield 13, 3) := by decide +kernel
theorem dX1_init_20 : decode cX1_init 20 = .ok (.aload_n 0, 1) := by decide +kernel
theorem dX1_init_21 : decode cX1_init 21 = .ok (.bipush 40, 2) := by decide +kernel
theorem dX1_init_23 : decode cX1_init 23 = .ok (.newarray .int, 2) := by decide +kernel
theorem dX1_init_25 : decode cX1_init 25 = .ok (.putfield 16, 3) := by decide +kernel
theorem dX1_init_28 : decode cX1_init 28 = .ok (.aload_n 0, 1) := by decide +kernel
theorem dX1_init_29 : decode cX1_init 29 = .ok (.bipush 40, 2) := by decide +kernel
theorem dX1_init_31 : decode cX1_init 31 = .ok (.newarray .int, 2) := by decide +kernel
theorem dX1_init_33 : decode cX1_init 33 = .ok (.putfield 19, 3) := by decide +kernel
theorem dX1_init_36 : decode cX1_init 36 = .ok (.return_, 1) := by decide +kernel
theorem dX1_add_0 : decode cX1_add 0 = .ok (.aload_n 0, 1) := by decide +kernel
theorem dX1_add_1 : decode cX1_add 1 = .ok (.getfield 22, 3) := by decide +kernel
theorem dX1_add_4 : decode cX1_add 4 = .ok (.bipush 40, 2) := by decide +kernel
theorem dX1_add_6 : decode cX1_add 6 = .ok (.if_icmp .lt 37, 3) := by decide +kernel
theorem dX1_add_9 : decode cX1_add 9 = .ok (.aload_n 0, 1) := by decide +kernel
theorem dX1_add_10 : decode cX1_add 10 = .ok (.getfield 9, 3) := by decide +kernel
theorem dX1_add_13 : decode cX1_add 13 = .ok (.invokestatic 26, 3) := by decide +kernel
theorem dX1_add_16 : decode cX1_add 16 = .ok (.aload_n 0, 1) := by decide +kernel
theorem dX1_add_17 : decode cX1_add 17 = .ok (.getfield 13, 3) := by decide +kernel
theorem dX1_add_20 : decode cX1_add 20 = .ok (.invokestatic 26, 3) := by decide +kernel
theorem dX1_add_23 : decode cX1_add 23 = .ok (.aload_n 0, 1) := by decide +kernel
theorem dX1_add_24 : decode cX1_add 24 = .ok (.getfield 16, 3) := by decide +kernel
theorem dX1_add_27 : decode cX1_add 27 = .ok (.invokestatic 26, 3) := by decide +kernel
theorem dX1_add_30 : decode cX1_add 30 = .ok (.aload_n 0, 1) := by decide +kernel
theorem dX1_add_31 : decode cX1_add 31 = .ok (.getfield 19, 3) := by decide +kernel
theorem dX1_add_34 : decode cX1_add 34 = .ok (.invokestatic 26, 3) := by decide +kernel
theorem dX1_add_37 : decode cX1_add 37 = .ok (.aload_n 0, 1) := by decide +kernel
theorem dX1_add_38 : decode cX1_add 38 = .ok (.bipush 39, 2) := by decide +kernel
theorem dX1_add_40 : decode cX1_add 40 = .ok (.putfield 22, 3) := by decide +kernel
theorem dX1_add_43 : decode cX1_add 43 = .ok (.aload_n 0, 1) := by decide +kernel
theorem dX1_add_44 : decode cX1_add 44 = .ok (.getfield 9, 3) := by decide +kernel
theorem dX1_add_47 : decode cX1_add 47 = .ok (.aload_n 0, 1) := by decide +kernel
theorem dX1_add_48 : decode cX1_add 48 = .ok (.getfield 22, 3) := by decide +kernel
theorem dX1_add_51 : decode cX1_add 51 = .ok (.iload_n 1, 1) := by decide +kernel
theorem dX1_add_52 : decode cX1_add 52 = .ok (.iastore, 1) := by decide +kernel
theorem dX1_add_53 : decode cX1_add 53 = .ok (.aload_n 0, 1) := by decide +kernel
theorem dX1_add_54 : decode cX1_add 54 = .ok (.getfield 13, 3) := by decide +kernel
theorem dX1_add_57 : decode cX1_add 57 = .ok (.aload_n 0, 1) := by decide +kernel
theorem dX1_add_58 : decode cX1_add 58 = .ok (.getfield 22, 3) := by decide +kernel
theorem dX1_add_61 : decode cX1_add 61 = .ok (.iload_n 2, 1) := by decide +kernel
theorem dX1_add_62 : decode cX1_add 62 = .ok (.iastore, 1) := by decide +kernel
theorem dX1_add_63 : decode cX1_add 63 = .ok (.aload_n 0, 1) := by decide +kernel
theorem dX1_add_64 : decode cX1_add 64 = .ok (.getfield 16, 3) := by decide +kernel
theorem dX1_add_67 : decode cX1_add 67 = .ok (.aload_n 0, 1) := by decide +kernel
theorem dX1_add_68 : decode cX1_add 68 = .ok (.getfield 22, 3) := by decide +kernel
theorem dX1_add_71 : decode cX1_add 71 = .ok (.iload_n 3, 1) := by decide +kernel
theorem dX1_add_72 : decode cX1_add 72 = .ok (.iastore, 1) := by decide +kernel
theorem dX1_add_73 : decode cX1_add 73 = .ok (.aload_n 0, 1) := by decide +kernel
theorem dX1_add_74 : decode cX1_add 74 = .ok (.getfield 19, 3) := by decide +kernel
theorem dX1_add_77 : decode cX1_add 77 = .ok (.aload_n 0, 1) := by decide +kernel
theorem dX1_add_78 : decode cX1_add 78 = .ok (.getfield 22, 3) := by decide +kernel
theorem dX1_add_81 : decode cX1_add 81 = .ok (.iload 4, 2) := by decide +kernel
theorem dX1_add_83 : decode cX1_add 83 = .ok (.iastore, 1) := by decide +kernel
theorem dX1_add_84 : decode cX1_add 84 = .ok (.aload_n 0, 1) := by decide +kernel
theorem dX1_add_85 : decode cX1_add 85 = .ok (.dup, 1) := by decide +kernel
theorem dX1_add_86 : decode cX1_add 86 = .ok (.getfield 22, 3) := by decide +kernel
theorem dX1_add_89 : decode cX1_add 89 = .ok (.iconst 1, 1) := by decide +kernel
theorem dX1_add_90 : decode cX1_add 90 = .ok (.iadd, 1) := by decide +kernel
theorem dX1_add_91 : decode cX1_add 91 = .ok (.putfield 22, 3) := by decide +kernel
theorem dX1_add_94 : decode cX1_add 94 = .ok (.aload_n 0, 1) := by decide +kernel
theorem dX1_add_95 : decode cX1_add 95 = .ok (.aload_n 0, 1) := by decide +kernel
theorem dX1_add_96 : decode cX1_add 96 = .ok (.getfield 22, 3) := by decide +kernel
theorem dX1_add_99 : decode cX1_add 99 = .ok (.putfield 30, 3) := by decide +kernel
theorem dX1_add_102 : decode cX1_add 102 = .ok (.return_, 1) := by decide +kernel
theorem dX1_forgetOldest_0 : decode cX1_forgetOldest 0 = .ok (.aload_n 0, 1) := by decide +kernel
theorem dX1_forgetOldest_1 : decode cX1_forgetOldest 1 = .ok (.iconst 1, 1) := by decide +kernel
theorem dX1_forgetOldest_2 : decode cX1_forgetOldest 2 = .ok (.aload_n 0, 1) := by decide +kernel
theorem dX1_forgetOldest_3 : decode cX1_forgetOldest 3 = .ok (.iconst 0, 1) := by decide +kernel
theorem dX1_forgetOldest_4 : decode cX1_forgetOldest 4 = .ok (.bipush 39, 2) := by decide +kernel
theorem dX1_forgetOldest_6 : decode cX1_forgetOldest 6 = .ok (.invokestatic 33, 3) := by decide +kernel
theorem dX1_forgetOldest_9 : decode cX1_forgetOldest 9 = .ok (.return_, 1) := by decide +kernel
theorem dX1_lastDone_0 : decode cX1_lastDone 0 = .ok (.aload_n 0, 1) := by decide +kernel
theorem dX1_lastDone_1 : decode cX1_lastDone 1 = .ok (.getfield 22, 3) := by decide +kernel
theorem dX1_lastDone_4 : decode cX1_lastDone 4 = .ok (.iconst 1, 1) := by decide +kernel
theorem dX1_lastDone_5 : decode cX1_lastDone 5 = .ok (.isub, 1) := by decide +kernel
theorem dX1_lastDone_6 : decode cX1_lastDone 6 = .ok (.ireturn, 1) := by decide +kernel
theorem dX1_firstUndone_0 : decode cX1_firstUndone 0 = .ok (.aload_n 0, 1) := by decide +kernel
theorem dX1_firstUndone_1 : decode cX1_firstUndone 1 = .ok (.getfield 22, 3) := by decide +kernel
theorem dX1_firstUndone_4 : decode cX1_firstUndone 4 = .ok (.aload_n 0, 1) := by decide +kernel
theorem dX1_firstUndone_5 : decode cX1_firstUndone 5 = .ok (.getfield 30, 3) := by decide +kernel
theorem dX1_firstUndone_8 : decode cX1_firstUndone 8 = .ok (.if_icmp .ge 10, 3) := by decide +kernel
theorem dX1_firstUndone_11 : decode cX1_firstUndone 11 = .ok (.aload_n 0, 1) := by decide +kernel
theorem dX1_firstUndone_12 : decode cX1_firstUndone 12 = .ok (.getfield 22, 3) := by decide +kernel
theorem dX1_firstUndone_15 : decode cX1_firstUndone 15 = .ok (.goto 4, 3) := by decide +kernel
theorem dX1_firstUndone_18 : decode cX1_firstUndone 18 = .ok (.iconst (-1), 1) := by decide +kernel
theorem dX1_firstUndone_19 : decode cX1_firstUndone 19 = .ok (.ireturn, 1) := by decide +kernel
theorem dX1_stepBack_0 : decode cX1_stepBack 0 = .ok (.aload_n 0, 1) := by decide +kernel
theorem dX1_stepBack_1 : decode cX1_stepBack 1 = .ok (.dup, 1) := by decide +kernel
theorem dX1_stepBack_2 : decode cX1_stepBack 2 = .ok (.getfield 22, 3) := by decide +kernel
theorem dX1_stepBack_5 : decode cX1_stepBack 5 = .ok (.iconst 1, 1) := by decide +kernel
theorem dX1_stepBack_6 : decode cX1_stepBack 6 = .ok (.isub, 1) := by decide +kernel
theorem dX1_stepBack_7 : decode cX1_stepBack 7 = .ok (.putfield 22, 3) := by decide +kernel
theorem dX1_stepBack_10 : decode cX1_stepBack 10 = .ok (.aload_n 0, 1) := by decide +kernel
theorem dX1_stepBack_11 : decode cX1_stepBack 11 = .ok (.getfield 22, 3) := by decide +kernel
theorem dX1_stepBack_14 : decode cX1_stepBack 14 = .ok (.ireturn, 1) := by decide +kernel
theorem dX1_stepOn_0 : decode cX1_stepOn 0 = .ok (.aload_n 0, 1) := by decide +kernel
theorem dX1_stepOn_1 : decode cX1_stepOn 1 = .ok (.dup, 1) := by decide +kernel
theorem dX1_stepOn_2 : decode cX1_stepOn 2 = .ok (.getfield 22, 3) := by decide +kernel
theorem dX1_stepOn_5 : decode cX1_stepOn 5 = .ok (.iconst 1, 1) := by decide +kernel
theorem dX1_stepOn_6 : decode cX1_stepOn 6 = .ok (.iadd, 1) := by decide +kernel
theorem dX1_stepOn_7 : decode cX1_stepOn 7 = .ok (.putfield 22, 3) := by decide +kernel
theorem dX1_stepOn_10 : decode cX1_stepOn 10 = .ok (.aload_n 0, 1) := by decide +kernel
theorem dX1_stepOn_11 : decode cX1_stepOn 11 = .ok (.getfield 30, 3) := by decide +kernel
theorem dX1_stepOn_14 : decode cX1_stepOn 14 = .ok (.aload_n 0, 1) := by decide +kernel
theorem dX1_stepOn_15 : decode cX1_stepOn 15 = .ok (.getfield 22, 3) := by decide +kernel
theorem dX1_stepOn_18 : decode cX1_stepOn 18 = .ok (.isub, 1) := by decide +kernel
theorem dX1_stepOn_19 : decode cX1_stepOn 19 = .ok (.ireturn, 1) := by decide +kernel
theorem dX2_init_0 : decode cX2_init 0 = .ok (.aload_n 0, 1) := by decide +kernel
theorem dX2_init_1 : decode cX2_init 1 = .ok (.invokespecial 3, 3) := by decide +kernel
theorem dX2_init_4 : decode cX2_init 4 = .ok (.aload_n 0, 1) := by decide +kernel
theorem dX2_init_5 : decode cX2_init 5 = .ok (.bipush 12, 2) := by decide +kernel
theorem dX2_init_7 : decode cX2_init 7 = .ok (.newarray .int, 2) := by decide +kernel
theorem dX2_init_9 : decode cX2_init 9 = .ok (.putfield 9, 3) := by decide +kernel
theorem dX2_init_12 : decode cX2_init 12 = .ok (.aload_n 0, 1) := by decide +kernel
theorem dX2_init_13 : decode cX2_init 13 = .ok (.bipush 12, 2) := by decide +kernel
theorem dX2_init_15 : decode cX2_init 15 = .ok (.newarray .int, 2) := by decide +kernel
theorem dX2_init_17 : decode cX2_init 17 = .ok (.putfield 15, 3) := by decide +kernel
theorem dX2_init_20 : decode cX2_init 20 = .ok (.aload_n 0, 1) := by decide +kernel
theorem dX2_init_21 : decode cX2_init 21 = .ok (.aload_n 1, 1) := by decide +kernel
theorem dX2_init_22 : decode cX2_init 22 = .ok (.putfield 18, 3) := by decide +kernel
theorem dX2_init_25 : decode cX2_init 25 = .ok (.aload_n 0, 1) := by decide +kernel
theorem dX2_init_26 : decode cX2_init 26 = .ok (.aload_n 2, 1) := by decide +kernel
theorem dX2_init_27 : decode cX2_init 27 = .ok (.putfield 22, 3) := by decide +kernel
theorem dX2_init_30 : decode cX2_init 30 = .ok (.aload_n 0, 1) := by decide +kernel
theorem dX2_init_31 : decode cX2_init 31 = .ok (.aload_n 3, 1) := by decide +kernel
theorem dX2_init_32 : decode cX2_init 32 = .ok (.putfield 26, 3) := by decide +kernel
theorem dX2_init_35 : decode cX2_init 35 = .ok (.return_, 1) := by decide +kernel
theorem dX2_goThrough_0 : decode cX2_goThrough 0 = .ok (.aload_n 0, 1) := by decide +kernel
theorem dX2_goThrough_1 : decode cX2_goThrough 1 = .ok (.iload_n 1, 1) := by decide +kernel
theorem dX2_goThrough_2 : decode cX2_goThrough 2 = .ok (.invokevirtual 30, 3) := by decide +kernel
theorem dX2_goThrough_5 : decode cX2_goThrough 5 = .ok (.iconst 0, 1) := by decide +kernel
theorem dX2_goThrough_6 : decode cX2_goThrough 6 = .ok (.istore_n 2, 1) := by decide +kernel
theorem dX2_goThrough_7 : decode cX2_goThrough 7 = .ok (.iload_n 2, 1) := by decide +kernel
theorem dX2_goThrough_8 : decode cX2_goThrough 8 = .ok (.bipush 60, 2) := by decide +kernel
theorem dX2_goThrough_10 : decode cX2_goThrough 10 = .ok (.if_icmp .ge 107, 3) := by decide +kernel
theorem dX2_goThrough_13 : decode cX2_goThrough 13 = .ok (.iconst 0, 1) := by decide +kernel
theorem dX2_goThrough_14 : decode cX2_goThrough 14 = .ok (.istore_n 3, 1) := by decide +kernel
theorem dX2_goThrough_15 : decode cX2_goThrough 15 = .ok (.iload_n 3, 1) := by decide +kernel
theorem dX2_goThrough_16 : decode cX2_goThrough 16 = .ok (.aload_n 0, 1) := by decide +kernel
theorem dX2_goThrough_17 : decode cX2_goThrough 17 = .ok (.getfield 18, 3) := by decide +kernel
theorem dX2_goThrough_20 : decode cX2_goThrough 20 = .ok (.getfield 34, 3) := by decide +kernel
theorem dX2_goThrough_23 : decode cX2_goThrough 23 = .ok (.if_icmp .ge 47, 3) := by decide +kernel
theorem dX2_goThrough_26 : decode cX2_goThrough 26 = .ok (.aload_n 0, 1) := by decide +kernel
theorem dX2_goThrough_27 : decode cX2_goThrough 27 = .ok (.iload_n 3, 1) := by decide +kernel
theorem dX2_goThrough_28 : decode cX2_goThrough 28 = .ok (.iconst 0, 1) := by decide +kernel
theorem dX2_goThrough_29 : decode cX2_goThrough 29 = .ok (.iload_n 2, 1) := by decide +kernel
theorem dX2_goThrough_30 : decode cX2_goThrough 30 = .ok (.aload_n 0, 1) := by decide +kernel
theorem dX2_goThrough_31 : decode cX2_goThrough 31 = .ok (.getfield 22, 3) := by decide +kernel
theorem dX2_goThrough_34 : decode cX2_goThrough 34 = .ok (.iload_n 2, 1) := by decide +kernel
theorem dX2_goThrough_35 : decode cX2_goThrough 35 = .ok (.aload_n 0, 1) := by decide +kernel
theorem dX2_goThrough_36 : decode cX2_goThrough 36 = .ok (.getfield 40, 3) := by decide +kernel
theorem dX2_goThrough_39 : decode cX2_goThrough 39 = .ok (.invokevirtual 43, 3) := by decide +kernel
theorem dX2_goThrough_42 : decode cX2_goThrough 42 = .ok (.invokevirtual 49, 3) := by decide +kernel
theorem dX2_goThrough_45 : decode cX2_goThrough 45 = .ok (.aload_n 0, 1) := by decide +kernel
theorem dX2_goThrough_46 : decode cX2_goThrough 46 = .ok (.iload_n 3, 1) := by decide +kernel
theorem dX2_goThrough_47 : decode cX2_goThrough 47 = .ok (.iconst 1, 1) := by decide +kernel
theorem dX2_goThrough_48 : decode cX2_goThrough 48 = .ok (.iload_n 2, 1) := by decide +kernel
theorem dX2_goThrough_49 : decode cX2_goThrough 49 = .ok (.aload_n 0, 1) := by decide +kernel
theorem dX2_goThrough_50 : decode cX2_goThrough 50 = .ok (.getfield 22, 3) := by decide +kernel
theorem dX2_goThrough_53 : decode cX2_goThrough 53 = .ok (.iload_n 2, 1) := by decide +kernel
theorem dX2_goThrough_54 : decode cX2_goThrough 54 = .ok (.aload_n 0, 1) := by decide +kernel
theorem dX2_goThrough_55 : decode cX2_goThrough 55 = .ok (.getfield 53, 3) := by decide +kernel
theorem dX2_goThrough_58 : decode cX2_goThrough 58 = .ok (.invokevirtual 56, 3) := by decide +kernel
theorem dX2_goThrough_61 : decode cX2_goThrough 61 = .ok (.invokevirtual 49, 3) := by decide +kernel
theorem dX2_goThrough_64 : decode cX2_goThrough 64 = .ok (.iinc 3 1, 3) := by decide +kernel
theorem dX2_goThrough_67 : decode cX2_goThrough 67 = .ok (.goto (-52), 3) := by decide +kernel
theorem dX2_goThrough_70 : decode cX2_goThrough 70 = .ok (.aload_n 0, 1) := by decide +kernel
theorem dX2_goThrough_71 : decode cX2_goThrough 71 = .ok (.dup, 1) := by decide +kernel
theorem dX2_goThrough_72 : decode cX2_goThrough 72 = .ok (.getfield 59, 3) := by decide +kernel
theorem dX2_goThrough_75 : decode cX2_goThrough 75 = .ok (.aload_n 0, 1) := by decide +kernel
theorem dX2_goThrough_76 : decode cX2_goThrough 76 = .ok (.getfield 22, 3) := by decide +kernel
theorem dX2_goThrough_79 : decode cX2_goThrough 79 = .ok (.aload_n 0, 1) := by decide +kernel
theorem dX2_goThrough_80 : decode cX2_goThrough 80 = .ok (.getfield 22, 3) := by decide +kernel
theorem dX2_goThrough_83 : decode cX2_goThrough 83 = .ok (.iload_n 2, 1) := by decide +kernel
theorem dX2_goThrough_84 : decode cX2_goThrough 84 = .ok (.aload_n 0, 1) := by decide +kernel
theorem dX2_goThrough_85 : decode cX2_goThrough 85 = .ok (.getfield 40, 3) := by decide +kernel
theorem dX2_goThrough_88 : decode cX2_goThrough 88 = .ok (.invokevirtual 43, 3) := by decide +kernel
theorem dX2_goThrough_91 : decode cX2_goThrough 91 = .ok (.aload_n 0, 1) := by decide +kernel
theorem dX2_goThrough_92 : decode cX2_goThrough 92 = .ok (.getfield 22, 3) := by decide +kernel
theorem dX2_goThrough_95 : decode cX2_goThrough 95 = .ok (.iload_n 2, 1) := by decide +kernel
theorem dX2_goThrough_96 : decode cX2_goThrough 96 = .ok (.aload_n 0, 1) := by decide +kernel
theorem dX2_goThrough_97 : decode cX2_goThrough 97 = .ok (.getfield 53, 3) := by decide +kernel
theorem dX2_goThrough_100 : decode cX2_goThrough 100 = .ok (.invokevirtual 56, 3) := by decide +kernel
theorem dX2_goThrough_103 : decode cX2_goThrough 103 = .ok (.ior, 1) := by decide +kernel
theorem dX2_goThrough_104 : decode cX2_goThrough 104 = .ok (.invokevirtual 62, 3) := by decide +kernel
theorem dX2_goThrough_107 : decode cX2_goThrough 107 = .ok (.iadd, 1) := by decide +kernel
theorem dX2_goThrough_108 : decode cX2_goThrough 108 = .ok (.putfield 59, 3) := by decide +kernel
theorem dX2_goThrough_111 : decode cX2_goThrough 111 = .ok (.iinc 2 1, 3) := by decide +kernel
theorem dX2_goThrough_114 : decode cX2_goThrough 114 = .ok (.goto (-107), 3) := by decide +kernel
theorem dX2_goThrough_117 : decode cX2_goThrough 117 = .ok (.return_, 1) := by decide +kernel
theorem dX2_begin_0 : decode cX2_begin 0 = .ok (.aload_n 0, 1) := by decide +kernel
theorem dX2_begin_1 : decode cX2_begin 1 = .ok (.iload_n 1, 1) := by decide +kernel
theorem dX2_begin_2 : decode cX2_begin 2 = .ok (.putfield 66, 3) := by decide +kernel
theorem dX2_begin_5 : decode cX2_begin 5 = .ok (.aload_n 0, 1) := by decide +kernel
theorem dX2_begin_6 : decode cX2_begin 6 = .ok (.aload_n 0, 1) := by decide +kernel
theorem dX2_begin_7 : decode cX2_begin 7 = .ok (.getfield 18, 3) := by decide +kernel
theorem dX2_begin_10 : decode cX2_begin 10 = .ok (.bipush 12, 2) := by decide +kernel
theorem dX2_begin_12 : decode cX2_begin 12 = .ok (.invokevirtual 69, 3) := by decide +kernel
theorem dX2_begin_15 : decode cX2_begin 15 = .ok (.putfield 73, 3) := by decide +kernel
theorem dX2_begin_18 : decode cX2_begin 18 = .ok (.aload_n 0, 1) := by decide +kernel
theorem dX2_begin_19 : decode cX2_begin 19 = .ok (.iconst 0, 1) := by decide +kernel
theorem dX2_begin_20 : decode cX2_begin 20 = .ok (.putfield 40, 3) := by decide +kernel
theorem dX2_begin_23 : decode cX2_begin 23 = .ok (.aload_n 0, 1) := by decide +kernel
theorem dX2_begin_24 : decode cX2_begin 24 = .ok (.iconst 0, 1) := by decide +kernel
theorem dX2_begin_25 : decode cX2_begin 25 = .ok (.putfield 53, 3) := by decide +kernel
theorem dX2_begin_28 : decode cX2_begin 28 = .ok (.aload_n 0, 1) := by decide +kernel
theorem dX2_begin_29 : decode cX2_begin 29 = .ok (.iconst 0, 1) := by decide +kernel
theorem dX2_begin_30 : decode cX2_begin 30 = .ok (.putfield 59, 3) := by decide +kernel
theorem dX2_begin_33 : decode cX2_begin 33 = .ok (.aload_n 0, 1) := by decide +kernel
theorem dX2_begin_34 : decode cX2_begin 34 = .ok (.iconst 0, 1) := by decide +kernel
theorem dX2_begin_35 : decode cX2_begin 35 = .ok (.putfield 77, 3) := by decide +kernel
theorem dX2_begin_38 : decode cX2_begin 38 = .ok (.iconst 0, 1) := by decide +kernel
theorem dX2_begin_39 : decode cX2_begin 39 = .ok (.istore_n 2, 1) := by decide +kernel
theorem dX2_begin_40 : decode cX2_begin 40 = .ok (.iload_n 2, 1) := by decide +kernel
theorem dX2_begin_41 : decode cX2_begin 41 = .ok (.bipush 12, 2) := by decide +kernel
theorem dX2_begin_43 : decode cX2_begin 43 = .ok (.if_icmp .ge 25, 3) := by decide +kernel
theorem dX2_begin_46 : decode cX2_begin 46 = .ok (.aload_n 0, 1) := by decide +kernel
theorem dX2_begin_47 : decode cX2_begin 47 = .ok (.getfield 9, 3) := by decide +kernel
theorem dX2_begin_50 : decode cX2_begin 50 = .ok (.iload_n 2, 1) := by decide +kernel
theorem dX2_begin_51 : decode cX2_begin 51 = .ok (.bipush (-2), 2) := by decide +kernel
theorem dX2_begin_53 : decode cX2_begin 53 = .ok (.iastore, 1) := by decide +kernel
theorem dX2_begin_54 : decode cX2_begin 54 = .ok (.aload_n 0, 1) := by decide +kernel
theorem dX2_begin_55 : decode cX2_begin 55 = .ok (.getfield 15, 3) := by decide +kernel
theorem dX2_begin_58 : decode cX2_begin 58 = .ok (.iload_n 2, 1) := by decide +kernel
theorem dX2_begin_59 : decode cX2_begin 59 = .ok (.bipush (-2), 2) := by decide +kernel
theorem dX2_begin_61 : decode cX2_begin 61 = .ok (.iastore, 1) := by decide +kernel
theorem dX2_begin_62 : decode cX2_begin 62 = .ok (.iinc 2 1, 3) := by decide +kernel
theorem dX2_begin_65 : decode cX2_begin 65 = .ok (.goto (-25), 3) := by decide +kernel
theorem dX2_begin_68 : decode cX2_begin 68 = .ok (.return_, 1) := by decide +kernel
theorem dX2_letThrough_0 : decode cX2_letThrough 0 = .ok (.aload_n 0, 1) := by decide +kernel
theorem dX2_letThrough_1 : decode cX2_letThrough 1 = .ok (.getfield 18, 3) := by decide +kernel
theorem dX2_letThrough_4 : decode cX2_letThrough 4 = .ok (.iload_n 1, 1) := by decide +kernel
theorem dX2_letThrough_5 : decode cX2_letThrough 5 = .ok (.invokevirtual 80, 3) := by decide +kernel
theorem dX2_letThrough_8 : decode cX2_letThrough 8 = .ok (.istore 5, 2) := by decide +kernel
theorem dX2_letThrough_10 : decode cX2_letThrough 10 = .ok (.iload 4, 2) := by decide +kernel
theorem dX2_letThrough_12 : decode cX2_letThrough 12 = .ok (.invokestatic 83, 3) := by decide +kernel
theorem dX2_letThrough_15 : decode cX2_letThrough 15 = .ok (.iload 5, 2) := by decide +kernel
theorem dX2_letThrough_17 : decode cX2_letThrough 17 = .ok (.if_icmp .ge 4, 3) := by decide +kernel
theorem dX2_letThrough_20 : decode cX2_letThrough 20 = .ok (.return_, 1) := by decide +kernel
theorem dX2_letThrough_21 : decode cX2_letThrough 21 = .ok (.aload_n 0, 1) := by decide +kernel
theorem dX2_letThrough_22 : decode cX2_letThrough 22 = .ok (.getfield 26, 3) := by decide +kernel
theorem dX2_letThrough_25 : decode cX2_letThrough 25 = .ok (.aload_n 0, 1) := by decide +kernel
theorem dX2_letThrough_26 : decode cX2_letThrough 26 = .ok (.getfield 22, 3) := by decide +kernel
theorem dX2_letThrough_29 : decode cX2_letThrough 29 = .ok (.iload 4, 2) := by decide +kernel
theorem dX2_letThrough_31 : decode cX2_letThrough 31 = .ok (.iload_n 1, 1) := by decide +kernel
theorem dX2_letThrough_32 : decode cX2_letThrough 32 = .ok (.iload_n 2, 1) := by decide +kernel
theorem dX2_letThrough_33 : decode cX2_letThrough 33 = .ok (.iload_n 3, 1) := by decide +kernel
theorem dX2_letThrough_34 : decode cX2_letThrough 34 = .ok (.invokevirtual 88, 3) := by decide +kernel
theorem dX2_letThrough_37 : decode cX2_letThrough 37 = .ok (.istore 6, 2) := by decide +kernel
theorem dX2_letThrough_39 : decode cX2_letThrough 39 = .ok (.iconst 0, 1) := by decide +kernel
theorem dX2_letThrough_40 : decode cX2_letThrough 40 = .ok (.istore 7, 2) := by decide +kernel
theorem dX2_letThrough_42 : decode cX2_letThrough 42 = .ok (.iload 7, 2) := by decide +kernel
theorem dX2_letThrough_44 : decode cX2_letThrough 44 = .ok (.bipush 12, 2) := by decide +kernel
theorem dX2_letThrough_46 : decode cX2_letThrough 46 = .ok (.if_icmp .ge 83, 3) := by decide +kernel
theorem dX2_letThrough_49 : decode cX2_letThrough 49 = .ok (.iload 6, 2) := by decide +kernel
theorem dX2_letThrough_51 : decode cX2_letThrough 51 = .ok (.invokestatic 83, 3) := by decide +kernel
theorem dX2_letThrough_54 : decode cX2_letThrough 54 = .ok (.iload 5, 2) := by decide +kernel
theorem dX2_letThrough_56 : decode cX2_letThrough 56 = .ok (.if_icmp .lt 73, 3) := by decide +kernel
theorem dX2_letThrough_59 : decode cX2_letThrough 59 = .ok (.aload_n 0, 1) := by decide +kernel
theorem dX2_letThrough_60 : decode cX2_letThrough 60 = .ok (.iload_n 2, 1) := by decide +kernel
theorem dX2_letThrough_61 : decode cX2_letThrough 61 = .ok (.iload 5, 2) := by decide +kernel
theorem dX2_letThrough_63 : decode cX2_letThrough 63 = .ok (.invokevirtual 94, 3) := by decide +kernel
theorem dX2_letThrough_66 : decode cX2_letThrough 66 = .ok (.ifCond .eq 63, 3) := by decide +kernel
theorem dX2_letThrough_69 : decode cX2_letThrough 69 = .ok (.iconst 0, 1) := by decide +kernel
theorem dX2_letThrough_70 : decode cX2_letThrough 70 = .ok (.istore 8, 2) := by decide +kernel
theorem dX2_letThrough_72 : decode cX2_letThrough 72 = .ok (.iload 8, 2) := by decide +kernel
theorem dX2_letThrough_74 : decode cX2_letThrough 74 = .ok (.iload 5, 2) := by decide +kernel
theorem dX2_letThrough_76 : decode cX2_letThrough 76 = .ok (.if_icmp .ge 37, 3) := by decide +kernel
theorem dX2_letThrough_79 : decode cX2_letThrough 79 = .ok (.aload_n 0, 1) := by decide +kernel
theorem dX2_letThrough_80 : decode cX2_letThrough 80 = .ok (.iload 6, 2) := by decide +kernel
theorem dX2_letThrough_82 : decode cX2_letThrough 82 = .ok (.iload_n 2, 1) := by decide +kernel
theorem dX2_letThrough_83 : decode cX2_letThrough 83 = .ok (.invokevirtual 98, 3) := by decide +kernel
theorem dX2_letThrough_86 : decode cX2_letThrough 86 = .ok (.istore 9, 2) := by decide +kernel
theorem dX2_letThrough_88 : decode cX2_letThrough 88 = .ok (.iload 6, 2) := by decide +kernel
theorem dX2_letThrough_90 : decode cX2_letThrough 90 = .ok (.iconst 1, 1) := by decide +kernel
theorem dX2_letThrough_91 : decode cX2_letThrough 91 = .ok (.iload 9, 2) := by decide +kernel
theorem dX2_letThrough_93 : decode cX2_letThrough 93 = .ok (.ishl, 1) := by decide +kernel
theorem dX2_letThrough_94 : decode cX2_letThrough 94 = .ok (.iconst (-1), 1) := by decide +kernel
theorem dX2_letThrough_95 : decode cX2_letThrough 95 = .ok (.ixor, 1) := by decide +kernel
theorem dX2_letThrough_96 : decode cX2_letThrough 96 = .ok (.iand, 1) := by decide +kernel
theorem dX2_letThrough_97 : decode cX2_letThrough 97 = .ok (.istore 6, 2) := by decide +kernel
theorem dX2_letThrough_99 : decode cX2_letThrough 99 = .ok (.aload_n 0, 1) := by decide +kernel
theorem dX2_letThrough_100 : decode cX2_letThrough 100 = .ok (.iload 9, 2) := by decide +kernel
theorem dX2_letThrough_102 : decode cX2_letThrough 102 = .ok (.iload_n 2, 1) := by decide +kernel
theorem dX2_letThrough_103 : decode cX2_letThrough 103 = .ok (.iload_n 3, 1) := by decide +kernel
theorem dX2_letThrough_104 : decode cX2_letThrough 104 = .ok (.invokevirtual 101, 3) := by decide +kernel
theorem dX2_letThrough_107 : decode cX2_letThrough 107 = .ok (.iinc 8 1, 3) := by decide +kernel
theorem dX2_letThrough_110 : decode cX2_letThrough 110 = .ok (.goto (-38), 3) := by decide +kernel
theorem dX2_letThrough_113 : decode cX2_letThrough 113 = .ok (.aload_n 0, 1) := by decide +kernel
theorem dX2_letThrough_114 : decode cX2_letThrough 114 = .ok (.dup, 1) := by decide +kernel
theorem dX2_letThrough_115 : decode cX2_letThrough 115 = .ok (.getfield 77, 3) := by decide +kernel
theorem dX2_letThrough_118 : decode cX2_letThrough 118 = .ok (.iconst 1, 1) := by decide +kernel
theorem dX2_letThrough_119 : decode cX2_letThrough 119 = .ok (.iadd, 1) := by decide +kernel
theorem dX2_letThrough_120 : decode cX2_letThrough 120 = .ok (.putfield 77, 3) := by decide +kernel
theorem dX2_letThrough_123 : decode cX2_letThrough 123 = .ok (.iinc 7 1, 3) := by decide +kernel
theorem dX2_letThrough_126 : decode cX2_letThrough 126 = .ok (.goto (-84), 3) := by decide +kernel
theorem dX2_letThrough_129 : decode cX2_letThrough 129 = .ok (.return_, 1) := by decide +kernel
theorem dX2_isLet_0 : decode cX2_isLet 0 = .ok (.aload_n 0, 1) := by decide +kernel
theorem dX2_isLet_1 : decode cX2_isLet 1 = .ok (.getfield 66, 3) := by decide +kernel
theorem dX2_isLet_4 : decode cX2_isLet 4 = .ok (.iconst 2, 1) := by decide +kernel
theorem dX2_isLet_5 : decode cX2_isLet 5 = .ok (.if_icmp .ne 27, 3) := by decide +kernel
theorem dX2_isLet_8 : decode cX2_isLet 8 = .ok (.iload_n 1, 1) := by decide +kernel
theorem dX2_isLet_9 : decode cX2_isLet 9 = .ok (.iconst 1, 1) := by decide +kernel
theorem dX2_isLet_10 : decode cX2_isLet 10 = .ok (.if_icmp .eq 22, 3) := by decide +kernel
theorem dX2_isLet_13 : decode cX2_isLet 13 = .ok (.aload_n 0, 1) := by decide +kernel
theorem dX2_isLet_14 : decode cX2_isLet 14 = .ok (.getfield 73, 3) := by decide +kernel
theorem dX2_isLet_17 : decode cX2_isLet 17 = .ok (.aload_n 0, 1) := by decide +kernel
theorem dX2_isLet_18 : decode cX2_isLet 18 = .ok (.getfield 53, 3) := by decide +kernel
theorem dX2_isLet_21 : decode cX2_isLet 21 = .ok (.invokestatic 83, 3) := by decide +kernel
theorem dX2_isLet_24 : decode cX2_isLet 24 = .ok (.iload_n 2, 1) := by decide +kernel
theorem dX2_isLet_25 : decode cX2_isLet 25 = .ok (.iadd, 1) := by decide +kernel
theorem dX2_isLet_26 : decode cX2_isLet 26 = .ok (.invokestatic 105, 3) := by decide +kernel
theorem dX2_isLet_29 : decode cX2_isLet 29 = .ok (.ifCond .eq 7, 3) := by decide +kernel
theorem dX2_isLet_32 : decode cX2_isLet 32 = .ok (.iconst 1, 1) := by decide +kernel
theorem dX2_isLet_33 : decode cX2_isLet 33 = .ok (.goto 4, 3) := by decide +kernel
theorem dX2_isLet_36 : decode cX2_isLet 36 = .ok (.iconst 0, 1) := by decide +kernel
theorem dX2_isLet_37 : decode cX2_isLet 37 = .ok (.ireturn, 1) := by decide +kernel
theorem dX2_firstOf_0 : decode cX2_firstOf 0 = .ok (.iconst 0, 1) := by decide +kernel
theorem dX2_firstOf_1 : decode cX2_firstOf 1 = .ok (.istore_n 3, 1) := by decide +kernel
theorem dX2_firstOf_2 : decode cX2_firstOf 2 = .ok (.ldc 109, 2) := by decide +kernel
theorem dX2_firstOf_4 : decode cX2_firstOf 4 = .ok (.istore 4, 2) := by decide +kernel
theorem dX2_firstOf_6 : decode cX2_firstOf 6 = .ok (.iconst 0, 1) := by decide +kernel
theorem dX2_firstOf_7 : decode cX2_firstOf 7 = .ok (.istore 5, 2) := by decide +kernel
theorem dX2_firstOf_9 : decode cX2_firstOf 9 = .ok (.iload 5, 2) := by decide +kernel
theorem dX2_firstOf_11 : decode cX2_firstOf 11 = .ok (.aload_n 0, 1) := by decide +kernel
theorem dX2_firstOf_12 : decode cX2_firstOf 12 = .ok (.getfield 22, 3) := by decide +kernel
theorem dX2_firstOf_15 : decode cX2_firstOf 15 = .ok (.getfield 110, 3) := by decide +kernel
theorem dX2_firstOf_18 : decode cX2_firstOf 18 = .ok (.if_icmp .ge 42, 3) := by decide +kernel
theorem dX2_firstOf_21 : decode cX2_firstOf 21 = .ok (.iload_n 1, 1) := by decide +kernel
theorem dX2_firstOf_22 : decode cX2_firstOf 22 = .ok (.iload 5, 2) := by decide +kernel
theorem dX2_firstOf_24 : decode cX2_firstOf 24 = .ok (.invokestatic 111, 3) := by decide +kernel
theorem dX2_firstOf_27 : decode cX2_firstOf 27 = .ok (.ifCond .eq 27, 3) := by decide +kernel
theorem dX2_firstOf_30 : decode cX2_firstOf 30 = .ok (.aload_n 0, 1) := by decide +kernel
theorem dX2_firstOf_31 : decode cX2_firstOf 31 = .ok (.iload 5, 2) := by decide +kernel
theorem dX2_firstOf_33 : decode cX2_firstOf 33 = .ok (.iload_n 2, 1) := by decide +kernel
theorem dX2_firstOf_34 : decode cX2_firstOf 34 = .ok (.invokevirtual 114, 3) := by decide +kernel
theorem dX2_firstOf_37 : decode cX2_firstOf 37 = .ok (.iload 4, 2) := by decide +kernel
theorem dX2_firstOf_39 : decode cX2_firstOf 39 = .ok (.if_icmp .ge 15, 3) := by decide +kernel
theorem dX2_firstOf_42 : decode cX2_firstOf 42 = .ok (.aload_n 0, 1) := by decide +kernel
theorem dX2_firstOf_43 : decode cX2_firstOf 43 = .ok (.iload 5, 2) := by decide +kernel
theorem dX2_firstOf_45 : decode cX2_firstOf 45 = .ok (.iload_n 2, 1) := by decide +kernel
theorem dX2_firstOf_46 : decode cX2_firstOf 46 = .ok (.invokevirtual 114, 3) := by decide +kernel
theorem dX2_firstOf_49 : decode cX2_firstOf 49 = .ok (.istore 4, 2) := by decide +kernel
theorem dX2_firstOf_51 : decode cX2_firstOf 51 = .ok (.iload 5, 2) := by decide +kernel
theorem dX2_firstOf_53 : decode cX2_firstOf 53 = .ok (.istore_n 3, 1) := by decide +kernel
theorem dX2_firstOf_54 : decode cX2_firstOf 54 = .ok (.iinc 5 1, 3) := by decide +kernel
theorem dX2_firstOf_57 : decode cX2_firstOf 57 = .ok (.goto (-48), 3) := by decide +kernel
theorem dX2_firstOf_60 : decode cX2_firstOf 60 = .ok (.iload_n 3, 1) := by decide +kernel
theorem dX2_firstOf_61 : decode cX2_firstOf 61 = .ok (.ireturn, 1) := by decide +kernel
theorem dX2_turnOf_0 : decode cX2_turnOf 0 = .ok (.aload_n 0, 1) := by decide +kernel
theorem dX2_turnOf_1 : decode cX2_turnOf 1 = .ok (.getfield 66, 3) := by decide +kernel
theorem dX2_turnOf_4 : decode cX2_turnOf 4 = .ok (.iconst 1, 1) := by decide +kernel
theorem dX2_turnOf_5 : decode cX2_turnOf 5 = .ok (.if_icmp .ne 14, 3) := by decide +kernel
theorem dX2_turnOf_8 : decode cX2_turnOf 8 = .ok (.aload_n 0, 1) := by decide +kernel
theorem dX2_turnOf_9 : decode cX2_turnOf 9 = .ok (.getfield 22, 3) := by decide +kernel
theorem dX2_turnOf_12 : decode cX2_turnOf 12 = .ok (.getfield 117, 3) := by decide +kernel
theorem dX2_turnOf_15 : decode cX2_turnOf 15 = .ok (.iload_n 1, 1) := by decide +kernel
theorem dX2_turnOf_16 : decode cX2_turnOf 16 = .ok (.iaload, 1) := by decide +kernel
theorem dX2_turnOf_17 : decode cX2_turnOf 17 = .ok (.ineg, 1) := by decide +kernel
theorem dX2_turnOf_18 : decode cX2_turnOf 18 = .ok (.ireturn, 1) := by decide +kernel
theorem dX2_turnOf_19 : decode cX2_turnOf 19 = .ok (.iload_n 2, 1) := by decide +kernel
theorem dX2_turnOf_20 : decode cX2_turnOf 20 = .ok (.ifCond .ne 15, 3) := by decide +kernel
theorem dX2_turnOf_23 : decode cX2_turnOf 23 = .ok (.aload_n 0, 1) := by decide +kernel
theorem dX2_turnOf_24 : decode cX2_turnOf 24 = .ok (.getfield 22, 3) := by decide +kernel
theorem dX2_turnOf_27 : decode cX2_turnOf 27 = .ok (.getfield 120, 3) := by decide +kernel
theorem dX2_turnOf_30 : decode cX2_turnOf 30 = .ok (.iload_n 1, 1) := by decide +kernel
theorem dX2_turnOf_31 : decode cX2_turnOf 31 = .ok (.iaload, 1) := by decide +kernel
theorem dX2_turnOf_32 : decode cX2_turnOf 32 = .ok (.goto 12, 3) := by decide +kernel
theorem dX2_turnOf_35 : decode cX2_turnOf 35 = .ok (.aload_n 0, 1) := by decide +kernel
theorem dX2_turnOf_36 : decode cX2_turnOf 36 = .ok (.getfield 22, 3) := by decide +kernel
theorem dX2_turnOf_39 : decode cX2_turnOf 39 = .ok (.getfield 123, 3) := by decide +kernel
theorem dX2_turnOf_42 : decode cX2_turnOf 42 = .ok (.iload_n 1, 1) := by decide +kernel
theorem dX2_turnOf_43 : decode cX2_turnOf 43 = .ok (.iaload, 1) := by decide +kernel
theorem dX2_turnOf_44 : decode cX2_turnOf 44 = .ok (.ireturn, 1) := by decide +kernel
theorem dX2_move_0 : decode cX2_move 0 = .ok (.iload_n 2, 1) := by decide +kernel
theorem dX2_move_1 : decode cX2_move 1 = .ok (.ifCond .ne 37, 3) := by decide +kernel
theorem dX2_move_4 : decode cX2_move 4 = .ok (.aload_n 0, 1) := by decide +kernel
theorem dX2_move_5 : decode cX2_move 5 = .ok (.dup, 1) := by decide +kernel
theorem dX2_move_6 : decode cX2_move 6 = .ok (.getfield 53, 3) := by decide +kernel
theorem dX2_move_9 : decode cX2_move 9 = .ok (.iconst 1, 1) := by decide +kernel
theorem dX2_move_10 : decode cX2_move 10 = .ok (.iload_n 1, 1) := by decide +kernel
theorem dX2_move_11 : decode cX2_move 11 = .ok (.ishl, 1) := by decide +kernel
theorem dX2_move_12 : decode cX2_move 12 = .ok (.ior, 1) := by decide +kernel
theorem dX2_move_13 : decode cX2_move 13 = .ok (.putfield 53, 3) := by decide +kernel
theorem dX2_move_16 : decode cX2_move 16 = .ok (.aload_n 0, 1) := by decide +kernel
theorem dX2_move_17 : decode cX2_move 17 = .ok (.dup, 1) := by decide +kernel
theorem dX2_move_18 : decode cX2_move 18 = .ok (.getfield 40, 3) := by decide +kernel
theorem dX2_move_21 : decode cX2_move 21 = .ok (.iconst 1, 1) := by decide +kernel
theorem dX2_move_22 : decode cX2_move 22 = .ok (.iload_n 1, 1) := by decide +kernel
theorem dX2_move_23 : decode cX2_move 23 = .ok (.ishl, 1) := by decide +kernel
theorem dX2_move_24 : decode cX2_move 24 = .ok (.ior, 1) := by decide +kernel
theorem dX2_move_25 : decode cX2_move 25 = .ok (.putfield 40, 3) := by decide +kernel
theorem dX2_move_28 : decode cX2_move 28 = .ok (.aload_n 0, 1) := by decide +kernel
theorem dX2_move_29 : decode cX2_move 29 = .ok (.getfield 9, 3) := by decide +kernel
theorem dX2_move_32 : decode cX2_move 32 = .ok (.iload_n 1, 1) := by decide +kernel
theorem dX2_move_33 : decode cX2_move 33 = .ok (.iload_n 3, 1) := by decide +kernel
theorem dX2_move_34 : decode cX2_move 34 = .ok (.iastore, 1) := by decide +kernel
theorem dX2_move_35 : decode cX2_move 35 = .ok (.goto 24, 3) := by decide +kernel
theorem dX2_move_38 : decode cX2_move 38 = .ok (.aload_n 0, 1) := by decide +kernel
theorem dX2_move_39 : decode cX2_move 39 = .ok (.dup, 1) := by decide +kernel
theorem dX2_move_40 : decode cX2_move 40 = .ok (.getfield 53, 3) := by decide +kernel
theorem dX2_move_43 : decode cX2_move 43 = .ok (.iconst 1, 1) := by decide +kernel
theorem dX2_move_44 : decode cX2_move 44 = .ok (.iload_n 1, 1) := by decide +kernel
theorem dX2_move_45 : decode cX2_move 45 = .ok (.ishl, 1) := by decide +kernel
theorem dX2_move_46 : decode cX2_move 46 = .ok (.iconst (-1), 1) := by decide +kernel
theorem dX2_move_47 : decode cX2_move 47 = .ok (.ixor, 1) := by decide +kernel
theorem dX2_move_48 : decode cX2_move 48 = .ok (.iand, 1) := by decide +kernel
theorem dX2_move_49 : decode cX2_move 49 = .ok (.putfield 53, 3) := by decide +kernel
theorem dX2_move_52 : decode cX2_move 52 = .ok (.aload_n 0, 1) := by decide +kernel
theorem dX2_move_53 : decode cX2_move 53 = .ok (.getfield 15, 3) := by decide +kernel
theorem dX2_move_56 : decode cX2_move 56 = .ok (.iload_n 1, 1) := by decide +kernel
theorem dX2_move_57 : decode cX2_move 57 = .ok (.iload_n 3, 1) := by decide +kernel
theorem dX2_move_58 : decode cX2_move 58 = .ok (.iastore, 1) := by decide +kernel
theorem dX2_move_59 : decode cX2_move 59 = .ok (.return_, 1) := by decide +kernel
theorem dX3_init_0 : decode cX3_init 0 = .ok (.aload_n 0, 1) := by decide +kernel
theorem dX3_init_1 : decode cX3_init 1 = .ok (.invokespecial 3, 3) := by decide +kernel
theorem dX3_init_4 : decode cX3_init 4 = .ok (.aload_n 0, 1) := by decide +kernel
theorem dX3_init_5 : decode cX3_init 5 = .ok (.bipush 12, 2) := by decide +kernel
theorem dX3_init_7 : decode cX3_init 7 = .ok (.newarray .int, 2) := by decide +kernel
theorem dX3_init_9 : decode cX3_init 9 = .ok (.putfield 9, 3) := by decide +kernel
theorem dX3_init_12 : decode cX3_init 12 = .ok (.return_, 1) := by decide +kernel
theorem dX3_move_0 : decode cX3_move 0 = .ok (.iload_n 2, 1) := by decide +kernel
theorem dX3_move_1 : decode cX3_move 1 = .ok (.ifCond .ne 26, 3) := by decide +kernel
theorem dX3_move_4 : decode cX3_move 4 = .ok (.aload_n 0, 1) := by decide +kernel
theorem dX3_move_5 : decode cX3_move 5 = .ok (.dup, 1) := by decide +kernel
theorem dX3_move_6 : decode cX3_move 6 = .ok (.getfield 15, 3) := by decide +kernel
theorem dX3_move_9 : decode cX3_move 9 = .ok (.iload_n 1, 1) := by decide +kernel
theorem dX3_move_10 : decode cX3_move 10 = .ok (.ior, 1) := by decide +kernel
theorem dX3_move_11 : decode cX3_move 11 = .ok (.putfield 15, 3) := by decide +kernel
theorem dX3_move_14 : decode cX3_move 14 = .ok (.aload_n 0, 1) := by decide +kernel
theorem dX3_move_15 : decode cX3_move 15 = .ok (.dup, 1) := by decide +kernel
theorem dX3_move_16 : decode cX3_move 16 = .ok (.getfield 19, 3) := by decide +kernel
theorem dX3_move_19 : decode cX3_move 19 = .ok (.iload_n 1, 1) := by decide +kernel
theorem dX3_move_20 : decode cX3_move 20 = .ok (.ior, 1) := by decide +kernel
theorem dX3_move_21 : decode cX3_move 21 = .ok (.putfield 19, 3) := by decide +kernel
theorem dX3_move_24 : decode cX3_move 24 = .ok (.goto 15, 3) := by decide +kernel
theorem dX3_move_27 : decode cX3_move 27 = .ok (.aload_n 0, 1) := by decide +kernel
theorem dX3_move_28 : decode cX3_move 28 = .ok (.dup, 1) := by decide +kernel
theorem dX3_move_29 : decode cX3_move 29 = .ok (.getfield 15, 3) := by decide +kernel
theorem dX3_move_32 : decode cX3_move 32 = .ok (.iload_n 1, 1) := by decide +kernel
theorem dX3_move_33 : decode cX3_move 33 = .ok (.iconst (-1), 1) := by decide +kernel
theorem dX3_move_34 : decode cX3_move 34 = .ok (.ixor, 1) := by decide +kernel
theorem dX3_move_35 : decode cX3_move 35 = .ok (.iand, 1) := by decide +kernel
theorem dX3_move_36 : decode cX3_move 36 = .ok (.putfield 15, 3) := by decide +kernel
theorem dX3_move_39 : decode cX3_move 39 = .ok (.return_, 1) := by decide +kernel
theorem dX3_pay_0 : decode cX3_pay 0 = .ok (.iconst 0, 1) := by decide +kernel
theorem dX3_pay_1 : decode cX3_pay 1 = .ok (.istore_n 3, 1) := by decide +kernel
theorem dX3_pay_2 : decode cX3_pay 2 = .ok (.iload_n 3, 1) := by decide +kernel
theorem dX3_pay_3 : decode cX3_pay 3 = .ok (.aload_n 1, 1) := by decide +kernel
theorem dX3_pay_4 : decode cX3_pay 4 = .ok (.getfield 22, 3) := by decide +kernel
theorem dX3_pay_7 : decode cX3_pay 7 = .ok (.if_icmp .ge 32, 3) := by decide +kernel
theorem dX3_pay_10 : decode cX3_pay 10 = .ok (.iload_n 2, 1) := by decide +kernel
theorem dX3_pay_11 : decode cX3_pay 11 = .ok (.iload_n 3, 1) := by decide +kernel
theorem dX3_pay_12 : decode cX3_pay 12 = .ok (.invokestatic 27, 3) := by decide +kernel
theorem dX3_pay_15 : decode cX3_pay 15 = .ok (.ifCond .eq 18, 3) := by decide +kernel
theorem dX3_pay_18 : decode cX3_pay 18 = .ok (.aload_n 0, 1) := by decide +kernel
theorem dX3_pay_19 : decode cX3_pay 19 = .ok (.getfield 9, 3) := by decide +kernel
theorem dX3_pay_22 : decode cX3_pay 22 = .ok (.iload_n 3, 1) := by decide +kernel
theorem dX3_pay_23 : decode cX3_pay 23 = .ok (.dup2, 1) := by decide +kernel
theorem dX3_pay_24 : decode cX3_pay 24 = .ok (.iaload, 1) := by decide +kernel
theorem dX3_pay_25 : decode cX3_pay 25 = .ok (.aload_n 1, 1) := by decide +kernel
theorem dX3_pay_26 : decode cX3_pay 26 = .ok (.getfield 31, 3) := by decide +kernel
theorem dX3_pay_29 : decode cX3_pay 29 = .ok (.iload_n 3, 1) := by decide +kernel
theorem dX3_pay_30 : decode cX3_pay 30 = .ok (.iaload, 1) := by decide +kernel
theorem dX3_pay_31 : decode cX3_pay 31 = .ok (.iadd, 1) := by decide +kernel
theorem dX3_pay_32 : decode cX3_pay 32 = .ok (.iastore, 1) := by decide +kernel
theorem dX3_pay_33 : decode cX3_pay 33 = .ok (.iinc 3 1, 3) := by decide +kernel
theorem dX3_pay_36 : decode cX3_pay 36 = .ok (.goto (-34), 3) := by decide +kernel
theorem dX3_pay_39 : decode cX3_pay 39 = .ok (.return_, 1) := by decide +kernel
theorem dX3_takeFrom_0 : decode cX3_takeFrom 0 = .ok (.aload_n 0, 1) := by decide +kernel
theorem dX3_takeFrom_1 : decode cX3_takeFrom 1 = .ok (.aload_n 1, 1) := by decide +kernel
theorem dX3_takeFrom_2 : decode cX3_takeFrom 2 = .ok (.getfield 34, 3) := by decide +kernel
theorem dX3_takeFrom_5 : decode cX3_takeFrom 5 = .ok (.putfield 34, 3) := by decide +kernel
theorem dX3_takeFrom_8 : decode cX3_takeFrom 8 = .ok (.aload_n 0, 1) := by decide +kernel
theorem dX3_takeFrom_9 : decode cX3_takeFrom 9 = .ok (.aload_n 1, 1) := by decide +kernel
theorem dX3_takeFrom_10 : decode cX3_takeFrom 10 = .ok (.getfield 15, 3) := by decide +kernel
theorem dX3_takeFrom_13 : decode cX3_takeFrom 13 = .ok (.putfield 15, 3) := by decide +kernel
theorem dX3_takeFrom_16 : decode cX3_takeFrom 16 = .ok (.aload_n 0, 1) := by decide +kernel
theorem dX3_takeFrom_17 : decode cX3_takeFrom 17 = .ok (.aload_n 1, 1) := by decide +kernel
theorem dX3_takeFrom_18 : decode cX3_takeFrom 18 = .ok (.getfield 19, 3) := by decide +kernel
theorem dX3_takeFrom_21 : decode cX3_takeFrom 21 = .ok (.putfield 19, 3) := by decide +kernel
theorem dX3_takeFrom_24 : decode cX3_takeFrom 24 = .ok (.aload_n 1, 1) := by decide +kernel
theorem dX3_takeFrom_25 : decode cX3_takeFrom 25 = .ok (.getfield 9, 3) := by decide +kernel
theorem dX3_takeFrom_28 : decode cX3_takeFrom 28 = .ok (.iconst 0, 1) := by decide +kernel
theorem dX3_takeFrom_29 : decode cX3_takeFrom 29 = .ok (.aload_n 0, 1) := by decide +kernel
theorem dX3_takeFrom_30 : decode cX3_takeFrom 30 = .ok (.getfield 9, 3) := by decide +kernel
theorem dX3_takeFrom_33 : decode cX3_takeFrom 33 = .ok (.iconst 0, 1) := by decide +kernel
theorem dX3_takeFrom_34 : decode cX3_takeFrom 34 = .ok (.bipush 12, 2) := by decide +kernel
theorem dX3_takeFrom_36 : decode cX3_takeFrom 36 = .ok (.invokestatic 37, 3) := by decide +kernel
theorem dX3_takeFrom_39 : decode cX3_takeFrom 39 = .ok (.return_, 1) := by decide +kernel
theorem dX4_init_0 : decode cX4_init 0 = .ok (.aload_n 0, 1) := by decide +kernel
theorem dX4_init_1 : decode cX4_init 1 = .ok (.invokespecial 3, 3) := by decide +kernel
theorem dX4_init_4 : decode cX4_init 4 = .ok (.aload_n 0, 1) := by decide +kernel
theorem dX4_init_5 : decode cX4_init 5 = .ok (.iconst 3, 1) := by decide +kernel
theorem dX4_init_6 : decode cX4_init 6 = .ok (.newarray .int, 2) := by decide +kernel
theorem dX4_init_8 : decode cX4_init 8 = .ok (.putfield 9, 3) := by decide +kernel
theorem dX4_init_11 : decode cX4_init 11 = .ok (.return_, 1) := by decide +kernel
theorem dX4_add_0 : decode cX4_add 0 = .ok (.aload_n 0, 1) := by decide +kernel
theorem dX4_add_1 : decode cX4_add 1 = .ok (.getfield 15, 3) := by decide +kernel
theorem dX4_add_4 : decode cX4_add 4 = .ok (.iconst 3, 1) := by decide +kernel
theorem dX4_add_5 : decode cX4_add 5 = .ok (.if_icmp .lt 6, 3) := by decide +kernel
theorem dX4_add_8 : decode cX4_add 8 = .ok (.bipush (-3), 2) := by decide +kernel
theorem dX4_add_10 : decode cX4_add 10 = .ok (.ireturn, 1) := by decide +kernel
theorem dX4_add_11 : decode cX4_add 11 = .ok (.aload_n 0, 1) := by decide +kernel
theorem dX4_add_12 : decode cX4_add 12 = .ok (.getfield 9, 3) := by decide +kernel
theorem dX4_add_15 : decode cX4_add 15 = .ok (.aload_n 0, 1) := by decide +kernel
theorem dX4_add_16 : decode cX4_add 16 = .ok (.getfield 15, 3) := by decide +kernel
theorem dX4_add_19 : decode cX4_add 19 = .ok (.iload_n 1, 1) := by decide +kernel
theorem dX4_add_20 : decode cX4_add 20 = .ok (.iastore, 1) := by decide +kernel
theorem dX4_add_21 : decode cX4_add 21 = .ok (.aload_n 0, 1) := by decide +kernel
theorem dX4_add_22 : decode cX4_add 22 = .ok (.dup, 1) := by decide +kernel
theorem dX4_add_23 : decode cX4_add 23 = .ok (.getfield 15, 3) := by decide +kernel
theorem dX4_add_26 : decode cX4_add 26 = .ok (.iconst 1, 1) := by decide +kernel
theorem dX4_add_27 : decode cX4_add 27 = .ok (.iadd, 1) := by decide +kernel
theorem dX4_add_28 : decode cX4_add 28 = .ok (.putfield 15, 3) := by decide +kernel
theorem dX4_add_31 : decode cX4_add 31 = .ok (.aload_n 0, 1) := by decide +kernel
theorem dX4_add_32 : decode cX4_add 32 = .ok (.getfield 15, 3) := by decide +kernel
theorem dX4_add_35 : decode cX4_add 35 = .ok (.iconst 1, 1) := by decide +kernel
theorem dX4_add_36 : decode cX4_add 36 = .ok (.isub, 1) := by decide +kernel
theorem dX4_add_37 : decode cX4_add 37 = .ok (.ireturn, 1) := by decide +kernel
theorem dX4_has_0 : decode cX4_has 0 = .ok (.iload_n 1, 1) := by decide +kernel
theorem dX4_has_1 : decode cX4_has 1 = .ok (.ifCond .lt 15, 3) := by decide +kernel
theorem dX4_has_4 : decode cX4_has 4 = .ok (.iload_n 1, 1) := by decide +kernel
theorem dX4_has_5 : decode cX4_has 5 = .ok (.aload_n 0, 1) := by decide +kernel
theorem dX4_has_6 : decode cX4_has 6 = .ok (.getfield 15, 3) := by decide +kernel
theorem dX4_has_9 : decode cX4_has 9 = .ok (.if_icmp .ge 7, 3) := by decide +kernel
theorem dX4_has_12 : decode cX4_has 12 = .ok (.iconst 1, 1) := by decide +kernel
theorem dX4_has_13 : decode cX4_has 13 = .ok (.goto 4, 3) := by decide +kernel
theorem dX4_has_16 : decode cX4_has 16 = .ok (.iconst 0, 1) := by decide +kernel
theorem dX4_has_17 : decode cX4_has 17 = .ok (.ireturn, 1) := by decide +kernel
theorem dX4_numberOf_0 : decode cX4_numberOf 0 = .ok (.aload_n 0, 1) := by decide +kernel
theorem dX4_numberOf_1 : decode cX4_numberOf 1 = .ok (.iload_n 1, 1) := by decide +kernel
theorem dX4_numberOf_2 : decode cX4_numberOf 2 = .ok (.invokevirtual 19, 3) := by decide +kernel
theorem dX4_numberOf_5 : decode cX4_numberOf 5 = .ok (.ifCond .eq 12, 3) := by decide +kernel
theorem dX4_numberOf_8 : decode cX4_numberOf 8 = .ok (.aload_n 0, 1) := by decide +kernel
theorem dX4_numberOf_9 : decode cX4_numberOf 9 = .ok (.getfield 9, 3) := by decide +kernel
theorem dX4_numberOf_12 : decode cX4_numberOf 12 = .ok (.iload_n 1, 1) := by decide +kernel
theorem dX4_numberOf_13 : decode cX4_numberOf 13 = .ok (.iaload, 1) := by decide +kernel
theorem dX4_numberOf_14 : decode cX4_numberOf 14 = .ok (.goto 4, 3) := by decide +kernel
theorem dX4_numberOf_17 : decode cX4_numberOf 17 = .ok (.iconst 1, 1) := by decide +kernel
theorem dX4_numberOf_18 : decode cX4_numberOf 18 = .ok (.ireturn, 1) := by decide +kernel
theorem dX4_upTo_0 : decode cX4_upTo 0 = .ok (.lconst 1, 1) := by decide +kernel
theorem dX4_upTo_1 : decode cX4_upTo 1 = .ok (.iload_n 0, 1) := by decide +kernel
theorem dX4_upTo_2 : decode cX4_upTo 2 = .ok (.iconst 1, 1) := by decide +kernel
theorem dX4_upTo_3 : decode cX4_upTo 3 = .ok (.iadd, 1) := by decide +kernel
theorem dX4_upTo_4 : decode cX4_upTo 4 = .ok (.lshl, 1) := by decide +kernel
theorem dX4_upTo_5 : decode cX4_upTo 5 = .ok (.lconst 1, 1) := by decide +kernel
theorem dX4_upTo_6 : decode cX4_upTo 6 = .ok (.lsub, 1) := by decide +kernel
theorem dX4_upTo_7 : decode cX4_upTo 7 = .ok (.lreturn, 1) := by decide +kernel
theorem dX4_hold_0 : decode cX4_hold 0 = .ok (.lload_n 0, 1) := by decide +kernel
theorem dX4_hold_1 : decode cX4_hold 1 = .ok (.iload_n 2, 1) := by decide +kernel
theorem dX4_hold_2 : decode cX4_hold 2 = .ok (.lshr, 1) := by decide +kernel
theorem dX4_hold_3 : decode cX4_hold 3 = .ok (.lconst 1, 1) := by decide +kernel
theorem dX4_hold_4 : decode cX4_hold 4 = .ok (.land, 1) := by decide +kernel
theorem dX4_hold_5 : decode cX4_hold 5 = .ok (.lconst 0, 1) := by decide +kernel
theorem dX4_hold_6 : decode cX4_hold 6 = .ok (.lcmp, 1) := by decide +kernel
theorem dX4_hold_7 : decode cX4_hold 7 = .ok (.ifCond .eq 7, 3) := by decide +kernel
theorem dX4_hold_10 : decode cX4_hold 10 = .ok (.iconst 1, 1) := by decide +kernel
theorem dX4_hold_11 : decode cX4_hold 11 = .ok (.goto 4, 3) := by decide +kernel
theorem dX4_hold_14 : decode cX4_hold 14 = .ok (.iconst 0, 1) := by decide +kernel
theorem dX4_hold_15 : decode cX4_hold 15 = .ok (.ireturn, 1) := by decide +kernel
theorem dX4_onePassing_0 : decode cX4_onePassing 0 = .ok (.lload_n 1, 1) := by decide +kernel
theorem dX4_onePassing_1 : decode cX4_onePassing 1 = .ok (.lstore 4, 2) := by decide +kernel
theorem dX4_onePassing_3 : decode cX4_onePassing 3 = .ok (.iconst 0, 1) := by decide +kernel
theorem dX4_onePassing_4 : decode cX4_onePassing 4 = .ok (.istore 6, 2) := by decide +kernel
theorem dX4_onePassing_6 : decode cX4_onePassing 6 = .ok (.iload 6, 2) := by decide +kernel
theorem dX4_onePassing_8 : decode cX4_onePassing 8 = .ok (.aload_n 0, 1) := by decide +kernel
theorem dX4_onePassing_9 : decode cX4_onePassing 9 = .ok (.getfield 15, 3) := by decide +kernel
theorem dX4_onePassing_12 : decode cX4_onePassing 12 = .ok (.if_icmp .ge 38, 3) := by decide +kernel
theorem dX4_onePassing_15 : decode cX4_onePassing 15 = .ok (.lload 4, 2) := by decide +kernel
theorem dX4_onePassing_17 : decode cX4_onePassing 17 = .ok (.lload_n 1, 1) := by decide +kernel
theorem dX4_onePassing_18 : decode cX4_onePassing 18 = .ok (.aload_n 0, 1) := by decide +kernel
theorem dX4_onePassing_19 : decode cX4_onePassing 19 = .ok (.getfield 9, 3) := by decide +kernel
theorem dX4_onePassing_22 : decode cX4_onePassing 22 = .ok (.iload 6, 2) := by decide +kernel
theorem dX4_onePassing_24 : decode cX4_onePassing 24 = .ok (.iaload, 1) := by decide +kernel
theorem dX4_onePassing_25 : decode cX4_onePassing 25 = .ok (.lshr, 1) := by decide +kernel
theorem dX4_onePassing_26 : decode cX4_onePassing 26 = .ok (.lload_n 1, 1) := by decide +kernel
theorem dX4_onePassing_27 : decode cX4_onePassing 27 = .ok (.aload_n 0, 1) := by decide +kernel
theorem dX4_onePassing_28 : decode cX4_onePassing 28 = .ok (.getfield 9, 3) := by decide +kernel
theorem dX4_onePassing_31 : decode cX4_onePassing 31 = .ok (.iload 6, 2) := by decide +kernel
theorem dX4_onePassing_33 : decode cX4_onePassing 33 = .ok (.iaload, 1) := by decide +kernel
theorem dX4_onePassing_34 : decode cX4_onePassing 34 = .ok (.lshl, 1) := by decide +kernel
theorem dX4_onePassing_35 : decode cX4_onePassing 35 = .ok (.iload_n 3, 1) := by decide +kernel
theorem dX4_onePassing_36 : decode cX4_onePassing 36 = .ok (.invokestatic 23, 3) := by decide +kernel
theorem dX4_onePassing_39 : decode cX4_onePassing 39 = .ok (.land, 1) := by decide +kernel
theorem dX4_onePassing_40 : decode cX4_onePassing 40 = .ok (.lor, 1) := by decide +kernel
theorem dX4_onePassing_41 : decode cX4_onePassing 41 = .ok (.lor, 1) := by decide +kernel
theorem dX4_onePassing_42 : decode cX4_onePassing 42 = .ok (.lstore 4, 2) := by decide +kernel
theorem dX4_onePassing_44 : decode cX4_onePassing 44 = .ok (.iinc 6 1, 3) := by decide +kernel
theorem dX4_onePassing_47 : decode cX4_onePassing 47 = .ok (.goto (-41), 3) := by decide +kernel
theorem dX4_onePassing_50 : decode cX4_onePassing 50 = .ok (.lload 4, 2) := by decide +kernel
theorem dX4_onePassing_52 : decode cX4_onePassing 52 = .ok (.lreturn, 1) := by decide +kernel
theorem dX4_everFrom_0 : decode cX4_everFrom 0 = .ok (.lload_n 1, 1) := by decide +kernel
theorem dX4_everFrom_1 : decode cX4_everFrom 1 = .ok (.lstore 4, 2) := by decide +kernel
theorem dX4_everFrom_3 : decode cX4_everFrom 3 = .ok (.iconst 0, 1) := by decide +kernel
theorem dX4_everFrom_4 : decode cX4_everFrom 4 = .ok (.istore 6, 2) := by decide +kernel
theorem dX4_everFrom_6 : decode cX4_everFrom 6 = .ok (.iload 6, 2) := by decide +kernel
theorem dX4_everFrom_8 : decode cX4_everFrom 8 = .ok (.iload_n 3, 1) := by decide +kernel
theorem dX4_everFrom_9 : decode cX4_everFrom 9 = .ok (.if_icmp .gt 33, 3) := by decide +kernel
theorem dX4_everFrom_12 : decode cX4_everFrom 12 = .ok (.aload_n 0, 1) := by decide +kernel
theorem dX4_everFrom_13 : decode cX4_everFrom 13 = .ok (.lload 4, 2) := by decide +kernel
theorem dX4_everFrom_15 : decode cX4_everFrom 15 = .ok (.iload_n 3, 1) := by decide +kernel
theorem dX4_everFrom_16 : decode cX4_everFrom 16 = .ok (.invokevirtual 27, 3) := by decide +kernel
theorem dX4_everFrom_19 : decode cX4_everFrom 19 = .ok (.lstore 7, 2) := by decide +kernel
theorem dX4_everFrom_21 : decode cX4_everFrom 21 = .ok (.lload 7, 2) := by decide +kernel
theorem dX4_everFrom_23 : decode cX4_everFrom 23 = .ok (.lload 4, 2) := by decide +kernel
theorem dX4_everFrom_25 : decode cX4_everFrom 25 = .ok (.lcmp, 1) := by decide +kernel
theorem dX4_everFrom_26 : decode cX4_everFrom 26 = .ok (.ifCond .ne 6, 3) := by decide +kernel
theorem dX4_everFrom_29 : decode cX4_everFrom 29 = .ok (.lload 4, 2) := by decide +kernel
theorem dX4_everFrom_31 : decode cX4_everFrom 31 = .ok (.lreturn, 1) := by decide +kernel
theorem dX4_everFrom_32 : decode cX4_everFrom 32 = .ok (.lload 7, 2) := by decide +kernel
theorem dX4_everFrom_34 : decode cX4_everFrom 34 = .ok (.lstore 4, 2) := by decide +kernel
theorem dX4_everFrom_36 : decode cX4_everFrom 36 = .ok (.iinc 6 1, 3) := by decide +kernel
theorem dX4_everFrom_39 : decode cX4_everFrom 39 = .ok (.goto (-33), 3) := by decide +kernel
theorem dX4_everFrom_42 : decode cX4_everFrom 42 = .ok (.lload 4, 2) := by decide +kernel
theorem dX4_everFrom_44 : decode cX4_everFrom 44 = .ok (.lreturn, 1) := by decide +kernel
theorem dX4_fewestPassings_0 : decode cX4_fewestPassings 0 = .ok (.lconst 1, 1) := by decide +kernel
theorem dX4_fewestPassings_1 : decode cX4_fewestPassings 1 = .ok (.iload_n 1, 1) := by decide +kernel
theorem dX4_fewestPassings_2 : decode cX4_fewestPassings 2 = .ok (.lshl, 1) := by decide +kernel
theorem dX4_fewestPassings_3 : decode cX4_fewestPassings 3 = .ok (.lstore 4, 2) := by decide +kernel
theorem dX4_fewestPassings_5 : decode cX4_fewestPassings 5 = .ok (.iconst 0, 1) := by decide +kernel
theorem dX4_fewestPassings_6 : decode cX4_fewestPassings 6 = .ok (.istore 6, 2) := by decide +kernel
theorem dX4_fewestPassings_8 : decode cX4_fewestPassings 8 = .ok (.iload 6, 2) := by decide +kernel
theorem dX4_fewestPassings_10 : decode cX4_fewestPassings 10 = .ok (.iload_n 2, 1) := by decide +kernel
theorem dX4_fewestPassings_11 : decode cX4_fewestPassings 11 = .ok (.if_icmp .gt 30, 3) := by decide +kernel
theorem dX4_fewestPassings_14 : decode cX4_fewestPassings 14 = .ok (.lload 4, 2) := by decide +kernel
theorem dX4_fewestPassings_16 : decode cX4_fewestPassings 16 = .ok (.iload_n 3, 1) := by decide +kernel
theorem dX4_fewestPassings_17 : decode cX4_fewestPassings 17 = .ok (.invokestatic 31, 3) := by decide +kernel
theorem dX4_fewestPassings_20 : decode cX4_fewestPassings 20 = .ok (.ifCond .eq 6, 3) := by decide +kernel
theorem dX4_fewestPassings_23 : decode cX4_fewestPassings 23 = .ok (.iload 6, 2) := by decide +kernel
theorem dX4_fewestPassings_25 : decode cX4_fewestPassings 25 = .ok (.ireturn, 1) := by decide +kernel
theorem dX4_fewestPassings_26 : decode cX4_fewestPassings 26 = .ok (.aload_n 0, 1) := by decide +kernel
theorem dX4_fewestPassings_27 : decode cX4_fewestPassings 27 = .ok (.lload 4, 2) := by decide +kernel
theorem dX4_fewestPassings_29 : decode cX4_fewestPassings 29 = .ok (.iload_n 2, 1) := by decide +kernel
theorem dX4_fewestPassings_30 : decode cX4_fewestPassings 30 = .ok (.invokevirtual 27, 3) := by decide +kernel
theorem dX4_fewestPassings_33 : decode cX4_fewestPassings 33 = .ok (.lstore 4, 2) := by decide +kernel
theorem dX4_fewestPassings_35 : decode cX4_fewestPassings 35 = .ok (.iinc 6 1, 3) := by decide +kernel
theorem dX4_fewestPassings_38 : decode cX4_fewestPassings 38 = .ok (.goto (-30), 3) := by decide +kernel
theorem dX4_fewestPassings_41 : decode cX4_fewestPassings 41 = .ok (.bipush (-2), 2) := by decide +kernel
theorem dX4_fewestPassings_43 : decode cX4_fewestPassings 43 = .ok (.ireturn, 1) := by decide +kernel
theorem dX4_fewestTrips_0 : decode cX4_fewestTrips 0 = .ok (.aload_n 0, 1) := by decide +kernel
theorem dX4_fewestTrips_1 : decode cX4_fewestTrips 1 = .ok (.lconst 1, 1) := by decide +kernel
theorem dX4_fewestTrips_2 : decode cX4_fewestTrips 2 = .ok (.iload_n 1, 1) := by decide +kernel
theorem dX4_fewestTrips_3 : decode cX4_fewestTrips 3 = .ok (.lshl, 1) := by decide +kernel
theorem dX4_fewestTrips_4 : decode cX4_fewestTrips 4 = .ok (.iload_n 2, 1) := by decide +kernel
theorem dX4_fewestTrips_5 : decode cX4_fewestTrips 5 = .ok (.invokevirtual 35, 3) := by decide +kernel
theorem dX4_fewestTrips_8 : decode cX4_fewestTrips 8 = .ok (.lstore 5, 2) := by decide +kernel
theorem dX4_fewestTrips_10 : decode cX4_fewestTrips 10 = .ok (.iconst 0, 1) := by decide +kernel
theorem dX4_fewestTrips_11 : decode cX4_fewestTrips 11 = .ok (.istore 7, 2) := by decide +kernel
theorem dX4_fewestTrips_13 : decode cX4_fewestTrips 13 = .ok (.iload 7, 2) := by decide +kernel
theorem dX4_fewestTrips_15 : decode cX4_fewestTrips 15 = .ok (.iload_n 2, 1) := by decide +kernel
theorem dX4_fewestTrips_16 : decode cX4_fewestTrips 16 = .ok (.if_icmp .gt 36, 3) := by decide +kernel
theorem dX4_fewestTrips_19 : decode cX4_fewestTrips 19 = .ok (.lload 5, 2) := by decide +kernel
theorem dX4_fewestTrips_21 : decode cX4_fewestTrips 21 = .ok (.iload 4, 2) := by decide +kernel
theorem dX4_fewestTrips_23 : decode cX4_fewestTrips 23 = .ok (.invokestatic 31, 3) := by decide +kernel
theorem dX4_fewestTrips_26 : decode cX4_fewestTrips 26 = .ok (.ifCond .eq 6, 3) := by decide +kernel
theorem dX4_fewestTrips_29 : decode cX4_fewestTrips 29 = .ok (.iload 7, 2) := by decide +kernel
theorem dX4_fewestTrips_31 : decode cX4_fewestTrips 31 = .ok (.ireturn, 1) := by decide +kernel
theorem dX4_fewestTrips_32 : decode cX4_fewestTrips 32 = .ok (.aload_n 0, 1) := by decide +kernel
theorem dX4_fewestTrips_33 : decode cX4_fewestTrips 33 = .ok (.lload 5, 2) := by decide +kernel
theorem dX4_fewestTrips_35 : decode cX4_fewestTrips 35 = .ok (.iload_n 2, 1) := by decide +kernel
theorem dX4_fewestTrips_36 : decode cX4_fewestTrips 36 = .ok (.iload_n 3, 1) := by decide +kernel
theorem dX4_fewestTrips_37 : decode cX4_fewestTrips 37 = .ok (.invokestatic 38, 3) := by decide +kernel
theorem dX4_fewestTrips_40 : decode cX4_fewestTrips 40 = .ok (.iload_n 2, 1) := by decide +kernel
theorem dX4_fewestTrips_41 : decode cX4_fewestTrips 41 = .ok (.invokevirtual 35, 3) := by decide +kernel
theorem dX4_fewestTrips_44 : decode cX4_fewestTrips 44 = .ok (.lstore 5, 2) := by decide +kernel
theorem dX4_fewestTrips_46 : decode cX4_fewestTrips 46 = .ok (.iinc 7 1, 3) := by decide +kernel
theorem dX4_fewestTrips_49 : decode cX4_fewestTrips 49 = .ok (.goto (-36), 3) := by decide +kernel
theorem dX4_fewestTrips_52 : decode cX4_fewestTrips 52 = .ok (.bipush (-2), 2) := by decide +kernel
theorem dX4_fewestTrips_54 : decode cX4_fewestTrips 54 = .ok (.ireturn, 1) := by decide +kernel
theorem dX4_oneTrip_0 : decode cX4_oneTrip 0 = .ok (.lload_n 0, 1) := by decide +kernel
theorem dX4_oneTrip_1 : decode cX4_oneTrip 1 = .ok (.lstore 4, 2) := by decide +kernel
theorem dX4_oneTrip_3 : decode cX4_oneTrip 3 = .ok (.iconst 1, 1) := by decide +kernel
theorem dX4_oneTrip_4 : decode cX4_oneTrip 4 = .ok (.istore 6, 2) := by decide +kernel
theorem dX4_oneTrip_6 : decode cX4_oneTrip 6 = .ok (.iload 6, 2) := by decide +kernel
theorem dX4_oneTrip_8 : decode cX4_oneTrip 8 = .ok (.iload_n 3, 1) := by decide +kernel
theorem dX4_oneTrip_9 : decode cX4_oneTrip 9 = .ok (.if_icmp .gt 28, 3) := by decide +kernel
theorem dX4_oneTrip_12 : decode cX4_oneTrip 12 = .ok (.lload 4, 2) := by decide +kernel
theorem dX4_oneTrip_14 : decode cX4_oneTrip 14 = .ok (.lload_n 0, 1) := by decide +kernel
theorem dX4_oneTrip_15 : decode cX4_oneTrip 15 = .ok (.iload 6, 2) := by decide +kernel
theorem dX4_oneTrip_17 : decode cX4_oneTrip 17 = .ok (.lshr, 1) := by decide +kernel
theorem dX4_oneTrip_18 : decode cX4_oneTrip 18 = .ok (.lload_n 0, 1) := by decide +kernel
theorem dX4_oneTrip_19 : decode cX4_oneTrip 19 = .ok (.iload 6, 2) := by decide +kernel
theorem dX4_oneTrip_21 : decode cX4_oneTrip 21 = .ok (.lshl, 1) := by decide +kernel
theorem dX4_oneTrip_22 : decode cX4_oneTrip 22 = .ok (.iload_n 2, 1) := by decide +kernel
theorem dX4_oneTrip_23 : decode cX4_oneTrip 23 = .ok (.invokestatic 23, 3) := by decide +kernel
theorem dX4_oneTrip_26 : decode cX4_oneTrip 26 = .ok (.land, 1) := by decide +kernel
theorem dX4_oneTrip_27 : decode cX4_oneTrip 27 = .ok (.lor, 1) := by decide +kernel
theorem dX4_oneTrip_28 : decode cX4_oneTrip 28 = .ok (.lor, 1) := by decide +kernel
theorem dX4_oneTrip_29 : decode cX4_oneTrip 29 = .ok (.lstore 4, 2) := by decide +kernel
theorem dX4_oneTrip_31 : decode cX4_oneTrip 31 = .ok (.iinc 6 1, 3) := by decide +kernel
theorem dX4_oneTrip_34 : decode cX4_oneTrip 34 = .ok (.goto (-28), 3) := by decide +kernel
theorem dX4_oneTrip_37 : decode cX4_oneTrip 37 = .ok (.lload 4, 2) := by decide +kernel
theorem dX4_oneTrip_39 : decode cX4_oneTrip 39 = .ok (.lreturn, 1) := by decide +kernel
theorem dX4_sumsOf_0 : decode cX4_sumsOf 0 = .ok (.lconst 1, 1) := by decide +kernel
theorem dX4_sumsOf_1 : decode cX4_sumsOf 1 = .ok (.lstore_n 2, 1) := by decide +kernel
theorem dX4_sumsOf_2 : decode cX4_sumsOf 2 = .ok (.iconst 0, 1) := by decide +kernel
theorem dX4_sumsOf_3 : decode cX4_sumsOf 3 = .ok (.istore 4, 2) := by decide +kernel
theorem dX4_sumsOf_5 : decode cX4_sumsOf 5 = .ok (.iload 4, 2) := by decide +kernel
theorem dX4_sumsOf_7 : decode cX4_sumsOf 7 = .ok (.aload_n 0, 1) := by decide +kernel
theorem dX4_sumsOf_8 : decode cX4_sumsOf 8 = .ok (.getfield 15, 3) := by decide +kernel
theorem dX4_sumsOf_11 : decode cX4_sumsOf 11 = .ok (.if_icmp .ge 44, 3) := by decide +kernel
theorem dX4_sumsOf_14 : decode cX4_sumsOf 14 = .ok (.lload_n 2, 1) := by decide +kernel
theorem dX4_sumsOf_15 : decode cX4_sumsOf 15 = .ok (.lstore 5, 2) := by decide +kernel
theorem dX4_sumsOf_17 : decode cX4_sumsOf 17 = .ok (.iconst 0, 1) := by decide +kernel
theorem dX4_sumsOf_18 : decode cX4_sumsOf 18 = .ok (.istore 7, 2) := by decide +kernel
theorem dX4_sumsOf_20 : decode cX4_sumsOf 20 = .ok (.iload 7, 2) := by decide +kernel
theorem dX4_sumsOf_22 : decode cX4_sumsOf 22 = .ok (.iload_n 1, 1) := by decide +kernel
theorem dX4_sumsOf_23 : decode cX4_sumsOf 23 = .ok (.if_icmp .ge 26, 3) := by decide +kernel
theorem dX4_sumsOf_26 : decode cX4_sumsOf 26 = .ok (.lload 5, 2) := by decide +kernel
theorem dX4_sumsOf_28 : decode cX4_sumsOf 28 = .ok (.aload_n 0, 1) := by decide +kernel
theorem dX4_sumsOf_29 : decode cX4_sumsOf 29 = .ok (.getfield 9, 3) := by decide +kernel
theorem dX4_sumsOf_32 : decode cX4_sumsOf 32 = .ok (.iload 4, 2) := by decide +kernel
theorem dX4_sumsOf_34 : decode cX4_sumsOf 34 = .ok (.iaload, 1) := by decide +kernel
theorem dX4_sumsOf_35 : decode cX4_sumsOf 35 = .ok (.lshl, 1) := by decide +kernel
theorem dX4_sumsOf_36 : decode cX4_sumsOf 36 = .ok (.lstore 5, 2) := by decide +kernel
theorem dX4_sumsOf_38 : decode cX4_sumsOf 38 = .ok (.lload_n 2, 1) := by decide +kernel
theorem dX4_sumsOf_39 : decode cX4_sumsOf 39 = .ok (.lload 5, 2) := by decide +kernel
theorem dX4_sumsOf_41 : decode cX4_sumsOf 41 = .ok (.lor, 1) := by decide +kernel
theorem dX4_sumsOf_42 : decode cX4_sumsOf 42 = .ok (.lstore_n 2, 1) := by decide +kernel
theorem dX4_sumsOf_43 : decode cX4_sumsOf 43 = .ok (.iinc 7 1, 3) := by decide +kernel
theorem dX4_sumsOf_46 : decode cX4_sumsOf 46 = .ok (.goto (-26), 3) := by decide +kernel
theorem dX4_sumsOf_49 : decode cX4_sumsOf 49 = .ok (.iinc 4 1, 3) := by decide +kernel
theorem dX4_sumsOf_52 : decode cX4_sumsOf 52 = .ok (.goto (-47), 3) := by decide +kernel
theorem dX4_sumsOf_55 : decode cX4_sumsOf 55 = .ok (.lload_n 2, 1) := by decide +kernel
theorem dX4_sumsOf_56 : decode cX4_sumsOf 56 = .ok (.lreturn, 1) := by decide +kernel
theorem dX4_soonest_0 : decode cX4_soonest 0 = .ok (.iconst 0, 1) := by decide +kernel
theorem dX4_soonest_1 : decode cX4_soonest 1 = .ok (.istore_n 2, 1) := by decide +kernel
theorem dX4_soonest_2 : decode cX4_soonest 2 = .ok (.iload_n 2, 1) := by decide +kernel
theorem dX4_soonest_3 : decode cX4_soonest 3 = .ok (.iload_n 1, 1) := by decide +kernel
theorem dX4_soonest_4 : decode cX4_soonest 4 = .ok (.if_icmp .gt 23, 3) := by decide +kernel
theorem dX4_soonest_7 : decode cX4_soonest 7 = .ok (.aload_n 0, 1) := by decide +kernel
theorem dX4_soonest_8 : decode cX4_soonest 8 = .ok (.iload_n 2, 1) := by decide +kernel
theorem dX4_soonest_9 : decode cX4_soonest 9 = .ok (.invokevirtual 42, 3) := by decide +kernel
theorem dX4_soonest_12 : decode cX4_soonest 12 = .ok (.iload_n 1, 1) := by decide +kernel
theorem dX4_soonest_13 : decode cX4_soonest 13 = .ok (.invokestatic 31, 3) := by decide +kernel
theorem dX4_soonest_16 : decode cX4_soonest 16 = .ok (.ifCond .eq 5, 3) := by decide +kernel
theorem dX4_soonest_19 : decode cX4_soonest 19 = .ok (.iload_n 2, 1) := by decide +kernel
theorem dX4_soonest_20 : decode cX4_soonest 20 = .ok (.ireturn, 1) := by decide +kernel
theorem dX4_soonest_21 : decode cX4_soonest 21 = .ok (.iinc 2 1, 3) := by decide +kernel
theorem dX4_soonest_24 : decode cX4_soonest 24 = .ok (.goto (-22), 3) := by decide +kernel
theorem dX4_soonest_27 : decode cX4_soonest 27 = .ok (.bipush (-2), 2) := by decide +kernel
theorem dX4_soonest_29 : decode cX4_soonest 29 = .ok (.ireturn, 1) := by decide +kernel
theorem dX5_init_0 : decode cX5_init 0 = .ok (.aload_n 0, 1) := by decide +kernel
theorem dX5_init_1 : decode cX5_init 1 = .ok (.invokespecial 3, 3) := by decide +kernel
theorem dX5_init_4 : decode cX5_init 4 = .ok (.aload_n 0, 1) := by decide +kernel
theorem dX5_init_5 : decode cX5_init 5 = .ok (.bipush 121, 2) := by decide +kernel
theorem dX5_init_7 : decode cX5_init 7 = .ok (.newarray .int, 2) := by decide +kernel
theorem dX5_init_9 : decode cX5_init 9 = .ok (.putfield 11, 3) := by decide +kernel
theorem dX5_init_12 : decode cX5_init 12 = .ok (.aload_n 0, 1) := by decide +kernel
theorem dX5_init_13 : decode cX5_init 13 = .ok (.bipush 121, 2) := by decide +kernel
theorem dX5_init_15 : decode cX5_init 15 = .ok (.newarray .int, 2) := by decide +kernel
theorem dX5_init_17 : decode cX5_init 17 = .ok (.putfield 15, 3) := by decide +kernel
theorem dX5_init_20 : decode cX5_init 20 = .ok (.aload_n 0, 1) := by decide +kernel
theorem dX5_init_21 : decode cX5_init 21 = .ok (.bipush 121, 2) := by decide +kernel
theorem dX5_init_23 : decode cX5_init 23 = .ok (.newarray .int, 2) := by decide +kernel
theorem dX5_init_25 : decode cX5_init 25 = .ok (.putfield 18, 3) := by decide +kernel
theorem dX5_init_28 : decode cX5_init 28 = .ok (.return_, 1) := by decide +kernel
theorem dX5_clear_0 : decode cX5_clear 0 = .ok (.aload_n 0, 1) := by decide +kernel
theorem dX5_clear_1 : decode cX5_clear 1 = .ok (.iconst 0, 1) := by decide +kernel
theorem dX5_clear_2 : decode cX5_clear 2 = .ok (.putfield 21, 3) := by decide +kernel
theorem dX5_clear_5 : decode cX5_clear 5 = .ok (.return_, 1) := by decide +kernel
theorem dX5_add_0 : decode cX5_add 0 = .ok (.aload_n 0, 1) := by decide +kernel
theorem dX5_add_1 : decode cX5_add 1 = .ok (.getfield 21, 3) := by decide +kernel
theorem dX5_add_4 : decode cX5_add 4 = .ok (.bipush 121, 2) := by decide +kernel
theorem dX5_add_6 : decode cX5_add 6 = .ok (.if_icmp .ge 33, 3) := by decide +kernel
theorem dX5_add_9 : decode cX5_add 9 = .ok (.aload_n 0, 1) := by decide +kernel
theorem dX5_add_10 : decode cX5_add 10 = .ok (.getfield 11, 3) := by decide +kernel
theorem dX5_add_13 : decode cX5_add 13 = .ok (.aload_n 0, 1) := by decide +kernel
theorem dX5_add_14 : decode cX5_add 14 = .ok (.getfield 21, 3) := by decide +kernel
theorem dX5_add_17 : decode cX5_add 17 = .ok (.iload_n 1, 1) := by decide +kernel
theorem dX5_add_18 : decode cX5_add 18 = .ok (.iastore, 1) := by decide +kernel
theorem dX5_add_19 : decode cX5_add 19 = .ok (.aload_n 0, 1) := by decide +kernel
theorem dX5_add_20 : decode cX5_add 20 = .ok (.getfield 15, 3) := by decide +kernel
theorem dX5_add_23 : decode cX5_add 23 = .ok (.aload_n 0, 1) := by decide +kernel
theorem dX5_add_24 : decode cX5_add 24 = .ok (.getfield 21, 3) := by decide +kernel
theorem dX5_add_27 : decode cX5_add 27 = .ok (.iload_n 2, 1) := by decide +kernel
theorem dX5_add_28 : decode cX5_add 28 = .ok (.iastore, 1) := by decide +kernel
theorem dX5_add_29 : decode cX5_add 29 = .ok (.aload_n 0, 1) := by decide +kernel
theorem dX5_add_30 : decode cX5_add 30 = .ok (.dup, 1) := by decide +kernel
theorem dX5_add_31 : decode cX5_add 31 = .ok (.getfield 21, 3) := by decide +kernel
theorem dX5_add_34 : decode cX5_add 34 = .ok (.iconst 1, 1) := by decide +kernel
theorem dX5_add_35 : decode cX5_add 35 = .ok (.iadd, 1) := by decide +kernel
theorem dX5_add_36 : decode cX5_add 36 = .ok (.putfield 21, 3) := by decide +kernel
theorem dX5_add_39 : decode cX5_add 39 = .ok (.return_, 1) := by decide +kernel
theorem dX5_takeFrom_0 : decode cX5_takeFrom 0 = .ok (.aload_n 1, 1) := by decide +kernel
theorem dX5_takeFrom_1 : decode cX5_takeFrom 1 = .ok (.getfield 11, 3) := by decide +kernel
theorem dX5_takeFrom_4 : decode cX5_takeFrom 4 = .ok (.iconst 0, 1) := by decide +kernel
theorem dX5_takeFrom_5 : decode cX5_takeFrom 5 = .ok (.aload_n 0, 1) := by decide +kernel
theorem dX5_takeFrom_6 : decode cX5_takeFrom 6 = .ok (.getfield 11, 3) := by decide +kernel
theorem dX5_takeFrom_9 : decode cX5_takeFrom 9 = .ok (.iconst 0, 1) := by decide +kernel
theorem dX5_takeFrom_10 : decode cX5_takeFrom 10 = .ok (.bipush 121, 2) := by decide +kernel
theorem dX5_takeFrom_12 : decode cX5_takeFrom 12 = .ok (.invokestatic 25, 3) := by decide +kernel
theorem dX5_takeFrom_15 : decode cX5_takeFrom 15 = .ok (.aload_n 1, 1) := by decide +kernel
theorem dX5_takeFrom_16 : decode cX5_takeFrom 16 = .ok (.getfield 15, 3) := by decide +kernel
theorem dX5_takeFrom_19 : decode cX5_takeFrom 19 = .ok (.iconst 0, 1) := by decide +kernel
theorem dX5_takeFrom_20 : decode cX5_takeFrom 20 = .ok (.aload_n 0, 1) := by decide +kernel
theorem dX5_takeFrom_21 : decode cX5_takeFrom 21 = .ok (.getfield 15, 3) := by decide +kernel
theorem dX5_takeFrom_24 : decode cX5_takeFrom 24 = .ok (.iconst 0, 1) := by decide +kernel
theorem dX5_takeFrom_25 : decode cX5_takeFrom 25 = .ok (.bipush 121, 2) := by decide +kernel
theorem dX5_takeFrom_27 : decode cX5_takeFrom 27 = .ok (.invokestatic 25, 3) := by decide +kernel
theorem dX5_takeFrom_30 : decode cX5_takeFrom 30 = .ok (.aload_n 0, 1) := by decide +kernel
theorem dX5_takeFrom_31 : decode cX5_takeFrom 31 = .ok (.aload_n 1, 1) := by decide +kernel
theorem dX5_takeFrom_32 : decode cX5_takeFrom 32 = .ok (.getfield 21, 3) := by decide +kernel
theorem dX5_takeFrom_35 : decode cX5_takeFrom 35 = .ok (.putfield 21, 3) := by decide +kernel
theorem dX5_takeFrom_38 : decode cX5_takeFrom 38 = .ok (.aload_n 0, 1) := by decide +kernel
theorem dX5_takeFrom_39 : decode cX5_takeFrom 39 = .ok (.iconst 1, 1) := by decide +kernel
theorem dX5_takeFrom_40 : decode cX5_takeFrom 40 = .ok (.putfield 31, 3) := by decide +kernel
theorem dX5_takeFrom_43 : decode cX5_takeFrom 43 = .ok (.return_, 1) := by decide +kernel
theorem dX5_value_0 : decode cX5_value 0 = .ok (.iconst 0, 1) := by decide +kernel
theorem dX5_value_1 : decode cX5_value 1 = .ok (.istore_n 2, 1) := by decide +kernel
theorem dX5_value_2 : decode cX5_value 2 = .ok (.iconst 1, 1) := by decide +kernel
theorem dX5_value_3 : decode cX5_value 3 = .ok (.istore_n 3, 1) := by decide +kernel
theorem dX5_value_4 : decode cX5_value 4 = .ok (.iconst 0, 1) := by decide +kernel
theorem dX5_value_5 : decode cX5_value 5 = .ok (.istore 4, 2) := by decide +kernel
theorem dX5_value_7 : decode cX5_value 7 = .ok (.iload 4, 2) := by decide +kernel
theorem dX5_value_9 : decode cX5_value 9 = .ok (.aload_n 0, 1) := by decide +kernel
theorem dX5_value_10 : decode cX5_value 10 = .ok (.getfield 21, 3) := by decide +kernel
theorem dX5_value_13 : decode cX5_value 13 = .ok (.if_icmp .ge 249, 3) := by decide +kernel
theorem dX5_value_16 : decode cX5_value 16 = .ok (.iload_n 2, 1) := by decide +kernel
theorem dX5_value_17 : decode cX5_value 17 = .ok (.bipush 121, 2) := by decide +kernel
theorem dX5_value_19 : decode cX5_value 19 = .ok (.if_icmp .ge 243, 3) := by decide +kernel
theorem dX5_value_22 : decode cX5_value 22 = .ok (.aload_n 0, 1) := by decide +kernel
theorem dX5_value_23 : decode cX5_value 23 = .ok (.getfield 11, 3) := by decide +kernel
theorem dX5_value_26 : decode cX5_value 26 = .ok (.iload 4, 2) := by decide +kernel
theorem dX5_value_28 : decode cX5_value 28 = .ok (.iaload, 1) := by decide +kernel
theorem dX5_value_29 : decode cX5_value 29 = .ok (.istore 5, 2) := by decide +kernel
theorem dX5_value_31 : decode cX5_value 31 = .ok (.iload 5, 2) := by decide +kernel
theorem dX5_value_33 : decode cX5_value 33 = .ok (.ifCond .ne 22, 3) := by decide +kernel
theorem dX5_value_36 : decode cX5_value 36 = .ok (.aload_n 0, 1) := by decide +kernel
theorem dX5_value_37 : decode cX5_value 37 = .ok (.getfield 18, 3) := by decide +kernel
theorem dX5_value_40 : decode cX5_value 40 = .ok (.iload_n 2, 1) := by decide +kernel
theorem dX5_value_41 : decode cX5_value 41 = .ok (.aload_n 0, 1) := by decide +kernel
theorem dX5_value_42 : decode cX5_value 42 = .ok (.getfield 15, 3) := by decide +kernel
theorem dX5_value_45 : decode cX5_value 45 = .ok (.iload 4, 2) := by decide +kernel
theorem dX5_value_47 : decode cX5_value 47 = .ok (.iaload, 1) := by decide +kernel
theorem dX5_value_48 : decode cX5_value 48 = .ok (.iastore, 1) := by decide +kernel
theorem dX5_value_49 : decode cX5_value 49 = .ok (.iinc 2 1, 3) := by decide +kernel
theorem dX5_value_52 : decode cX5_value 52 = .ok (.goto 204, 3) := by decide +kernel
theorem dX5_value_55 : decode cX5_value 55 = .ok (.iload 5, 2) := by decide +kernel
theorem dX5_value_57 : decode cX5_value 57 = .ok (.iconst 1, 1) := by decide +kernel
theorem dX5_value_58 : decode cX5_value 58 = .ok (.if_icmp .ne 50, 3) := by decide +kernel
theorem dX5_value_61 : decode cX5_value 61 = .ok (.aload_n 0, 1) := by decide +kernel
theorem dX5_value_62 : decode cX5_value 62 = .ok (.getfield 18, 3) := by decide +kernel
theorem dX5_value_65 : decode cX5_value 65 = .ok (.iload_n 2, 1) := by decide +kernel
theorem dX5_value_66 : decode cX5_value 66 = .ok (.aload_n 0, 1) := by decide +kernel
theorem dX5_value_67 : decode cX5_value 67 = .ok (.getfield 15, 3) := by decide +kernel
theorem dX5_value_70 : decode cX5_value 70 = .ok (.iload 4, 2) := by decide +kernel
theorem dX5_value_72 : decode cX5_value 72 = .ok (.iaload, 1) := by decide +kernel
theorem dX5_value_73 : decode cX5_value 73 = .ok (.ifCond .lt 27, 3) := by decide +kernel
theorem dX5_value_76 : decode cX5_value 76 = .ok (.aload_n 0, 1) := by decide +kernel
theorem dX5_value_77 : decode cX5_value 77 = .ok (.getfield 15, 3) := by decide +kernel
theorem dX5_value_80 : decode cX5_value 80 = .ok (.iload 4, 2) := by decide +kernel
theorem dX5_value_82 : decode cX5_value 82 = .ok (.iaload, 1) := by decide +kernel
theorem dX5_value_83 : decode cX5_value 83 = .ok (.aload_n 1, 1) := by decide +kernel
theorem dX5_value_84 : decode cX5_value 84 = .ok (.arraylength, 1) := by decide +kernel
theorem dX5_value_85 : decode cX5_value 85 = .ok (.if_icmp .ge 15, 3) := by decide +kernel
theorem dX5_value_88 : decode cX5_value 88 = .ok (.aload_n 1, 1) := by decide +kernel
theorem dX5_value_89 : decode cX5_value 89 = .ok (.aload_n 0, 1) := by decide +kernel
theorem dX5_value_90 : decode cX5_value 90 = .ok (.getfield 15, 3) := by decide +kernel
theorem dX5_value_93 : decode cX5_value 93 = .ok (.iload 4, 2) := by decide +kernel
theorem dX5_value_95 : decode cX5_value 95 = .ok (.iaload, 1) := by decide +kernel
theorem dX5_value_96 : decode cX5_value 96 = .ok (.iaload, 1) := by decide +kernel
theorem dX5_value_97 : decode cX5_value 97 = .ok (.goto 4, 3) := by decide +kernel
theorem dX5_value_100 : decode cX5_value 100 = .ok (.iconst 0, 1) := by decide +kernel
theorem dX5_value_101 : decode cX5_value 101 = .ok (.iastore, 1) := by decide +kernel
theorem dX5_value_102 : decode cX5_value 102 = .ok (.iinc 2 1, 3) := by decide +kernel
theorem dX5_value_105 : decode cX5_value 105 = .ok (.goto 151, 3) := by decide +kernel
theorem dX5_value_108 : decode cX5_value 108 = .ok (.iload_n 2, 1) := by decide +kernel
theorem dX5_value_109 : decode cX5_value 109 = .ok (.iconst 1, 1) := by decide +kernel
theorem dX5_value_110 : decode cX5_value 110 = .ok (.if_icmp .ge 5, 3) := by decide +kernel
theorem dX5_value_113 : decode cX5_value 113 = .ok (.iconst 0, 1) := by decide +kernel
theorem dX5_value_114 : decode cX5_value 114 = .ok (.ireturn, 1) := by decide +kernel
theorem dX5_value_115 : decode cX5_value 115 = .ok (.iload 5, 2) := by decide +kernel
theorem dX5_value_117 : decode cX5_value 117 = .ok (.iconst 2, 1) := by decide +kernel
theorem dX5_value_118 : decode cX5_value 118 = .ok (.if_icmp .ne 23, 3) := by decide +kernel
theorem dX5_value_121 : decode cX5_value 121 = .ok (.aload_n 0, 1) := by decide +kernel
theorem dX5_value_122 : decode cX5_value 122 = .ok (.getfield 18, 3) := by decide +kernel
theorem dX5_value_125 : decode cX5_value 125 = .ok (.iload_n 2, 1) := by decide +kernel
theorem dX5_value_126 : decode cX5_value 126 = .ok (.iconst 1, 1) := by decide +kernel
theorem dX5_value_127 : decode cX5_value 127 = .ok (.isub, 1) := by decide +kernel
theorem dX5_value_128 : decode cX5_value 128 = .ok (.aload_n 0, 1) := by decide +kernel
theorem dX5_value_129 : decode cX5_value 129 = .ok (.getfield 18, 3) := by decide +kernel
theorem dX5_value_132 : decode cX5_value 132 = .ok (.iload_n 2, 1) := by decide +kernel
theorem dX5_value_133 : decode cX5_value 133 = .ok (.iconst 1, 1) := by decide +kernel
theorem dX5_value_134 : decode cX5_value 134 = .ok (.isub, 1) := by decide +kernel
theorem dX5_value_135 : decode cX5_value 135 = .ok (.iaload, 1) := by decide +kernel
theorem dX5_value_136 : decode cX5_value 136 = .ok (.ineg, 1) := by decide +kernel
theorem dX5_value_137 : decode cX5_value 137 = .ok (.iastore, 1) := by decide +kernel
theorem dX5_value_138 : decode cX5_value 138 = .ok (.goto 118, 3) := by decide +kernel
theorem dX5_value_141 : decode cX5_value 141 = .ok (.iload 5, 2) := by decide +kernel
theorem dX5_value_143 : decode cX5_value 143 = .ok (.bipush 33, 2) := by decide +kernel
theorem dX5_value_145 : decode cX5_value 145 = .ok (.if_icmp .ne 30, 3) := by decide +kernel
theorem dX5_value_148 : decode cX5_value 148 = .ok (.aload_n 0, 1) := by decide +kernel
theorem dX5_value_149 : decode cX5_value 149 = .ok (.getfield 18, 3) := by decide +kernel
theorem dX5_value_152 : decode cX5_value 152 = .ok (.iload_n 2, 1) := by decide +kernel
theorem dX5_value_153 : decode cX5_value 153 = .ok (.iconst 1, 1) := by decide +kernel
theorem dX5_value_154 : decode cX5_value 154 = .ok (.isub, 1) := by decide +kernel
theorem dX5_value_155 : decode cX5_value 155 = .ok (.aload_n 0, 1) := by decide +kernel
theorem dX5_value_156 : decode cX5_value 156 = .ok (.getfield 18, 3) := by decide +kernel
theorem dX5_value_159 : decode cX5_value 159 = .ok (.iload_n 2, 1) := by decide +kernel
theorem dX5_value_160 : decode cX5_value 160 = .ok (.iconst 1, 1) := by decide +kernel
theorem dX5_value_161 : decode cX5_value 161 = .ok (.isub, 1) := by decide +kernel
theorem dX5_value_162 : decode cX5_value 162 = .ok (.iaload, 1) := by decide +kernel
theorem dX5_value_163 : decode cX5_value 163 = .ok (.ifCond .ne 7, 3) := by decide +kernel
theorem dX5_value_166 : decode cX5_value 166 = .ok (.iconst 1, 1) := by decide +kernel
theorem dX5_value_167 : decode cX5_value 167 = .ok (.goto 4, 3) := by decide +kernel
theorem dX5_value_170 : decode cX5_value 170 = .ok (.iconst 0, 1) := by decide +kernel
theorem dX5_value_171 : decode cX5_value 171 = .ok (.iastore, 1) := by decide +kernel
theorem dX5_value_172 : decode cX5_value 172 = .ok (.goto 84, 3) := by decide +kernel
theorem dX5_value_175 : decode cX5_value 175 = .ok (.iload 5, 2) := by decide +kernel
theorem dX5_value_177 : decode cX5_value 177 = .ok (.bipush 63, 2) := by decide +kernel
theorem dX5_value_179 : decode cX5_value 179 = .ok (.if_icmp .ne 16, 3) := by decide +kernel
theorem dX5_value_182 : decode cX5_value 182 = .ok (.iinc 2 (-1), 3) := by decide +kernel
theorem dX5_value_185 : decode cX5_value 185 = .ok (.aload_n 0, 1) := by decide +kernel
theorem dX5_value_186 : decode cX5_value 186 = .ok (.getfield 18, 3) := by decide +kernel
theorem dX5_value_189 : decode cX5_value 189 = .ok (.iload_n 2, 1) := by decide +kernel
theorem dX5_value_190 : decode cX5_value 190 = .ok (.iaload, 1) := by decide +kernel
theorem dX5_value_191 : decode cX5_value 191 = .ok (.istore_n 3, 1) := by decide +kernel
theorem dX5_value_192 : decode cX5_value 192 = .ok (.goto 64, 3) := by decide +kernel
theorem dX5_value_195 : decode cX5_value 195 = .ok (.iload 5, 2) := by decide +kernel
theorem dX5_value_197 : decode cX5_value 197 = .ok (.bipush 59, 2) := by decide +kernel
theorem dX5_value_199 : decode cX5_value 199 = .ok (.if_icmp .ne 22, 3) := by decide +kernel
theorem dX5_value_202 : decode cX5_value 202 = .ok (.iinc 2 (-1), 3) := by decide +kernel
theorem dX5_value_205 : decode cX5_value 205 = .ok (.iload_n 3, 1) := by decide +kernel
theorem dX5_value_206 : decode cX5_value 206 = .ok (.ifCond .eq 10, 3) := by decide +kernel
theorem dX5_value_209 : decode cX5_value 209 = .ok (.aload_n 0, 1) := by decide +kernel
theorem dX5_value_210 : decode cX5_value 210 = .ok (.getfield 18, 3) := by decide +kernel
theorem dX5_value_213 : decode cX5_value 213 = .ok (.iload_n 2, 1) := by decide +kernel
theorem dX5_value_214 : decode cX5_value 214 = .ok (.iaload, 1) := by decide +kernel
theorem dX5_value_215 : decode cX5_value 215 = .ok (.ireturn, 1) := by decide +kernel
theorem dX5_value_216 : decode cX5_value 216 = .ok (.iconst 1, 1) := by decide +kernel
theorem dX5_value_217 : decode cX5_value 217 = .ok (.istore_n 3, 1) := by decide +kernel
theorem dX5_value_218 : decode cX5_value 218 = .ok (.goto 38, 3) := by decide +kernel
theorem dX5_value_221 : decode cX5_value 221 = .ok (.iload_n 2, 1) := by decide +kernel
theorem dX5_value_222 : decode cX5_value 222 = .ok (.iconst 2, 1) := by decide +kernel
theorem dX5_value_223 : decode cX5_value 223 = .ok (.if_icmp .lt 33, 3) := by decide +kernel
theorem dX5_value_226 : decode cX5_value 226 = .ok (.iinc 2 (-1), 3) := by decide +kernel
theorem dX5_value_229 : decode cX5_value 229 = .ok (.aload_n 0, 1) := by decide +kernel
theorem dX5_value_230 : decode cX5_value 230 = .ok (.getfield 18, 3) := by decide +kernel
theorem dX5_value_233 : decode cX5_value 233 = .ok (.iload_n 2, 1) := by decide +kernel
theorem dX5_value_234 : decode cX5_value 234 = .ok (.iconst 1, 1) := by decide +kernel
theorem dX5_value_235 : decode cX5_value 235 = .ok (.isub, 1) := by decide +kernel
theorem dX5_value_236 : decode cX5_value 236 = .ok (.iload 5, 2) := by decide +kernel
theorem dX5_value_238 : decode cX5_value 238 = .ok (.aload_n 0, 1) := by decide +kernel
theorem dX5_value_239 : decode cX5_value 239 = .ok (.getfield 18, 3) := by decide +kernel
theorem dX5_value_242 : decode cX5_value 242 = .ok (.iload_n 2, 1) := by decide +kernel
theorem dX5_value_243 : decode cX5_value 243 = .ok (.iconst 1, 1) := by decide +kernel
theorem dX5_value_244 : decode cX5_value 244 = .ok (.isub, 1) := by decide +kernel
theorem dX5_value_245 : decode cX5_value 245 = .ok (.iaload, 1) := by decide +kernel
theorem dX5_value_246 : decode cX5_value 246 = .ok (.aload_n 0, 1) := by decide +kernel
theorem dX5_value_247 : decode cX5_value 247 = .ok (.getfield 18, 3) := by decide +kernel
theorem dX5_value_250 : decode cX5_value 250 = .ok (.iload_n 2, 1) := by decide +kernel
theorem dX5_value_251 : decode cX5_value 251 = .ok (.iaload, 1) := by decide +kernel
theorem dX5_value_252 : decode cX5_value 252 = .ok (.invokestatic 35, 3) := by decide +kernel
theorem dX5_value_255 : decode cX5_value 255 = .ok (.iastore, 1) := by decide +kernel
theorem dX5_value_256 : decode cX5_value 256 = .ok (.iinc 4 1, 3) := by decide +kernel
theorem dX5_value_259 : decode cX5_value 259 = .ok (.goto (-252), 3) := by decide +kernel
theorem dX5_value_262 : decode cX5_value 262 = .ok (.iconst 0, 1) := by decide +kernel
theorem dX5_value_263 : decode cX5_value 263 = .ok (.ireturn, 1) := by decide +kernel
theorem dX5_joined_0 : decode cX5_joined 0 = .ok (.iload_n 0, 1) := by decide +kernel
theorem dX5_joined_1 : decode cX5_joined 1 = .ok (.lookupswitch 188 #[(37, 115), (38, 160), (42, 99), (43, 91), (45, 95), (47, 103), (60, 127), (61, 138), (62, 149), (124, 174)], 91) := by decide +kernel
theorem dX5_joined_92 : decode cX5_joined 92 = .ok (.iload_n 1, 1) := by decide +kernel
theorem dX5_joined_93 : decode cX5_joined 93 = .ok (.iload_n 2, 1) := by decide +kernel
theorem dX5_joined_94 : decode cX5_joined 94 = .ok (.iadd, 1) := by decide +kernel
theorem dX5_joined_95 : decode cX5_joined 95 = .ok (.ireturn, 1) := by decide +kernel
theorem dX5_joined_96 : decode cX5_joined 96 = .ok (.iload_n 1, 1) := by decide +kernel
theorem dX5_joined_97 : decode cX5_joined 97 = .ok (.iload_n 2, 1) := by decide +kernel
theorem dX5_joined_98 : decode cX5_joined 98 = .ok (.isub, 1) := by decide +kernel
theorem dX5_joined_99 : decode cX5_joined 99 = .ok (.ireturn, 1) := by decide +kernel
theorem dX5_joined_100 : decode cX5_joined 100 = .ok (.iload_n 1, 1) := by decide +kernel
theorem dX5_joined_101 : decode cX5_joined 101 = .ok (.iload_n 2, 1) := by decide +kernel
theorem dX5_joined_102 : decode cX5_joined 102 = .ok (.imul, 1) := by decide +kernel
theorem dX5_joined_103 : decode cX5_joined 103 = .ok (.ireturn, 1) := by decide +kernel
theorem dX5_joined_104 : decode cX5_joined 104 = .ok (.iload_n 2, 1) := by decide +kernel
theorem dX5_joined_105 : decode cX5_joined 105 = .ok (.ifCond .ne 7, 3) := by decide +kernel
theorem dX5_joined_108 : decode cX5_joined 108 = .ok (.iconst 0, 1) := by decide +kernel
theorem dX5_joined_109 : decode cX5_joined 109 = .ok (.goto 6, 3) := by decide +kernel
theorem dX5_joined_112 : decode cX5_joined 112 = .ok (.iload_n 1, 1) := by decide +kernel
theorem dX5_joined_113 : decode cX5_joined 113 = .ok (.iload_n 2, 1) := by decide +kernel
theorem dX5_joined_114 : decode cX5_joined 114 = .ok (.idiv, 1) := by decide +kernel
theorem dX5_joined_115 : decode cX5_joined 115 = .ok (.ireturn, 1) := by decide +kernel
theorem dX5_joined_116 : decode cX5_joined 116 = .ok (.iload_n 2, 1) := by decide +kernel
theorem dX5_joined_117 : decode cX5_joined 117 = .ok (.ifCond .ne 7, 3) := by decide +kernel
theorem dX5_joined_120 : decode cX5_joined 120 = .ok (.iconst 0, 1) := by decide +kernel
theorem dX5_joined_121 : decode cX5_joined 121 = .ok (.goto 6, 3) := by decide +kernel
theorem dX5_joined_124 : decode cX5_joined 124 = .ok (.iload_n 1, 1) := by decide +kernel
theorem dX5_joined_125 : decode cX5_joined 125 = .ok (.iload_n 2, 1) := by decide +kernel
theorem dX5_joined_126 : decode cX5_joined 126 = .ok (.irem, 1) := by decide +kernel
theorem dX5_joined_127 : decode cX5_joined 127 = .ok (.ireturn, 1) := by decide +kernel
theorem dX5_joined_128 : decode cX5_joined 128 = .ok (.iload_n 1, 1) := by decide +kernel
theorem dX5_joined_129 : decode cX5_joined 129 = .ok (.iload_n 2, 1) := by decide +kernel
theorem dX5_joined_130 : decode cX5_joined 130 = .ok (.if_icmp .ge 7, 3) := by decide +kernel
theorem dX5_joined_133 : decode cX5_joined 133 = .ok (.iconst 1, 1) := by decide +kernel
theorem dX5_joined_134 : decode cX5_joined 134 = .ok (.goto 4, 3) := by decide +kernel
theorem dX5_joined_137 : decode cX5_joined 137 = .ok (.iconst 0, 1) := by decide +kernel
theorem dX5_joined_138 : decode cX5_joined 138 = .ok (.ireturn, 1) := by decide +kernel
theorem dX5_joined_139 : decode cX5_joined 139 = .ok (.iload_n 1, 1) := by decide +kernel
theorem dX5_joined_140 : decode cX5_joined 140 = .ok (.iload_n 2, 1) := by decide +kernel
theorem dX5_joined_141 : decode cX5_joined 141 = .ok (.if_icmp .ne 7, 3) := by decide +kernel
theorem dX5_joined_144 : decode cX5_joined 144 = .ok (.iconst 1, 1) := by decide +kernel
theorem dX5_joined_145 : decode cX5_joined 145 = .ok (.goto 4, 3) := by decide +kernel
theorem dX5_joined_148 : decode cX5_joined 148 = .ok (.iconst 0, 1) := by decide +kernel
theorem dX5_joined_149 : decode cX5_joined 149 = .ok (.ireturn, 1) := by decide +kernel
theorem dX5_joined_150 : decode cX5_joined 150 = .ok (.iload_n 1, 1) := by decide +kernel
theorem dX5_joined_151 : decode cX5_joined 151 = .ok (.iload_n 2, 1) := by decide +kernel
theorem dX5_joined_152 : decode cX5_joined 152 = .ok (.if_icmp .le 7, 3) := by decide +kernel
theorem dX5_joined_155 : decode cX5_joined 155 = .ok (.iconst 1, 1) := by decide +kernel
theorem dX5_joined_156 : decode cX5_joined 156 = .ok (.goto 4, 3) := by decide +kernel
theorem dX5_joined_159 : decode cX5_joined 159 = .ok (.iconst 0, 1) := by decide +kernel
theorem dX5_joined_160 : decode cX5_joined 160 = .ok (.ireturn, 1) := by decide +kernel
theorem dX5_joined_161 : decode cX5_joined 161 = .ok (.iload_n 1, 1) := by decide +kernel
theorem dX5_joined_162 : decode cX5_joined 162 = .ok (.ifCond .eq 11, 3) := by decide +kernel
theorem dX5_joined_165 : decode cX5_joined 165 = .ok (.iload_n 2, 1) := by decide +kernel
theorem dX5_joined_166 : decode cX5_joined 166 = .ok (.ifCond .eq 7, 3) := by decide +kernel
theorem dX5_joined_169 : decode cX5_joined 169 = .ok (.iconst 1, 1) := by decide +kernel
theorem dX5_joined_170 : decode cX5_joined 170 = .ok (.goto 4, 3) := by decide +kernel
theorem dX5_joined_173 : decode cX5_joined 173 = .ok (.iconst 0, 1) := by decide +kernel
theorem dX5_joined_174 : decode cX5_joined 174 = .ok (.ireturn, 1) := by decide +kernel
theorem dX5_joined_175 : decode cX5_joined 175 = .ok (.iload_n 1, 1) := by decide +kernel
theorem dX5_joined_176 : decode cX5_joined 176 = .ok (.ifCond .ne 7, 3) := by decide +kernel
theorem dX5_joined_179 : decode cX5_joined 179 = .ok (.iload_n 2, 1) := by decide +kernel
theorem dX5_joined_180 : decode cX5_joined 180 = .ok (.ifCond .eq 7, 3) := by decide +kernel
theorem dX5_joined_183 : decode cX5_joined 183 = .ok (.iconst 1, 1) := by decide +kernel
theorem dX5_joined_184 : decode cX5_joined 184 = .ok (.goto 4, 3) := by decide +kernel
theorem dX5_joined_187 : decode cX5_joined 187 = .ok (.iconst 0, 1) := by decide +kernel
theorem dX5_joined_188 : decode cX5_joined 188 = .ok (.ireturn, 1) := by decide +kernel
theorem dX5_joined_189 : decode cX5_joined 189 = .ok (.iconst 0, 1) := by decide +kernel
theorem dX5_joined_190 : decode cX5_joined 190 = .ok (.ireturn, 1) := by decide +kernel
theorem dX6_init_0 : decode cX6_init 0 = .ok (.aload_n 0, 1) := by decide +kernel
theorem dX6_init_1 : decode cX6_init 1 = .ok (.invokespecial 3, 3) := by decide +kernel
theorem dX6_init_4 : decode cX6_init 4 = .ok (.aload_n 0, 1) := by decide +kernel
theorem dX6_init_5 : decode cX6_init 5 = .ok (.bipush 6, 2) := by decide +kernel
theorem dX6_init_7 : decode cX6_init 7 = .ok (.newarray .int, 2) := by decide +kernel
theorem dX6_init_9 : decode cX6_init 9 = .ok (.putfield 11, 3) := by decide +kernel
theorem dX6_init_12 : decode cX6_init 12 = .ok (.aload_n 0, 1) := by decide +kernel
theorem dX6_init_13 : decode cX6_init 13 = .ok (.new 9, 3) := by decide +kernel
theorem dX6_init_16 : decode cX6_init 16 = .ok (.dup, 1) := by decide +kernel
theorem dX6_init_17 : decode cX6_init 17 = .ok (.invokespecial 17, 3) := by decide +kernel
theorem dX6_init_20 : decode cX6_init 20 = .ok (.putfield 18, 3) := by decide +kernel
theorem dX6_init_23 : decode cX6_init 23 = .ok (.aload_n 0, 1) := by decide +kernel
theorem dX6_init_24 : decode cX6_init 24 = .ok (.new 9, 3) := by decide +kernel
theorem dX6_init_27 : decode cX6_init 27 = .ok (.dup, 1) := by decide +kernel
theorem dX6_init_28 : decode cX6_init 28 = .ok (.invokespecial 17, 3) := by decide +kernel
theorem dX6_init_31 : decode cX6_init 31 = .ok (.putfield 22, 3) := by decide +kernel
theorem dX6_init_34 : decode cX6_init 34 = .ok (.aload_n 0, 1) := by decide +kernel
theorem dX6_init_35 : decode cX6_init 35 = .ok (.new 25, 3) := by decide +kernel
theorem dX6_init_38 : decode cX6_init 38 = .ok (.dup, 1) := by decide +kernel
theorem dX6_init_39 : decode cX6_init 39 = .ok (.aload_n 1, 1) := by decide +kernel
theorem dX6_init_40 : decode cX6_init 40 = .ok (.invokespecial 27, 3) := by decide +kernel
theorem dX6_init_43 : decode cX6_init 43 = .ok (.putfield 30, 3) := by decide +kernel
theorem dX6_init_46 : decode cX6_init 46 = .ok (.return_, 1) := by decide +kernel
theorem dX6_become_0 : decode cX6_become 0 = .ok (.aload_n 0, 1) := by decide +kernel
theorem dX6_become_1 : decode cX6_become 1 = .ok (.getfield 30, 3) := by decide +kernel
theorem dX6_become_4 : decode cX6_become 4 = .ok (.iload_n 2, 1) := by decide +kernel
theorem dX6_become_5 : decode cX6_become 5 = .ok (.invokevirtual 34, 3) := by decide +kernel
theorem dX6_become_8 : decode cX6_become 8 = .ok (.istore_n 3, 1) := by decide +kernel
theorem dX6_become_9 : decode cX6_become 9 = .ok (.iload_n 3, 1) := by decide +kernel
theorem dX6_become_10 : decode cX6_become 10 = .ok (.iconst (-1), 1) := by decide +kernel
theorem dX6_become_11 : decode cX6_become 11 = .ok (.if_icmp .ne 28, 3) := by decide +kernel
theorem dX6_become_14 : decode cX6_become 14 = .ok (.iload_n 1, 1) := by decide +kernel
theorem dX6_become_15 : decode cX6_become 15 = .ok (.ifCond .ne 10, 3) := by decide +kernel
theorem dX6_become_18 : decode cX6_become 18 = .ok (.aload_n 0, 1) := by decide +kernel
theorem dX6_become_19 : decode cX6_become 19 = .ok (.getfield 18, 3) := by decide +kernel
theorem dX6_become_22 : decode cX6_become 22 = .ok (.goto 7, 3) := by decide +kernel
theorem dX6_become_25 : decode cX6_become 25 = .ok (.aload_n 0, 1) := by decide +kernel
theorem dX6_become_26 : decode cX6_become 26 = .ok (.getfield 22, 3) := by decide +kernel
theorem dX6_become_29 : decode cX6_become 29 = .ok (.aload_n 0, 1) := by decide +kernel
theorem dX6_become_30 : decode cX6_become 30 = .ok (.getfield 30, 3) := by decide +kernel
theorem dX6_become_33 : decode cX6_become 33 = .ok (.getfield 38, 3) := by decide +kernel
theorem dX6_become_36 : decode cX6_become 36 = .ok (.invokevirtual 41, 3) := by decide +kernel
theorem dX6_become_39 : decode cX6_become 39 = .ok (.iload_n 3, 1) := by decide +kernel
theorem dX6_become_40 : decode cX6_become 40 = .ok (.ireturn, 1) := by decide +kernel
theorem dX6_name_0 : decode cX6_name 0 = .ok (.aload_n 0, 1) := by decide +kernel
theorem dX6_name_1 : decode cX6_name 1 = .ok (.getfield 11, 3) := by decide +kernel
theorem dX6_name_4 : decode cX6_name 4 = .ok (.iconst 0, 1) := by decide +kernel
theorem dX6_name_5 : decode cX6_name 5 = .ok (.iload_n 1, 1) := by decide +kernel
theorem dX6_name_6 : decode cX6_name 6 = .ok (.iastore, 1) := by decide +kernel
theorem dX6_name_7 : decode cX6_name 7 = .ok (.aload_n 0, 1) := by decide +kernel
theorem dX6_name_8 : decode cX6_name 8 = .ok (.getfield 11, 3) := by decide +kernel
theorem dX6_name_11 : decode cX6_name 11 = .ok (.iconst 1, 1) := by decide +kernel
theorem dX6_name_12 : decode cX6_name 12 = .ok (.iload_n 2, 1) := by decide +kernel
theorem dX6_name_13 : decode cX6_name 13 = .ok (.iastore, 1) := by decide +kernel
theorem dX6_name_14 : decode cX6_name 14 = .ok (.aload_n 0, 1) := by decide +kernel
theorem dX6_name_15 : decode cX6_name 15 = .ok (.getfield 11, 3) := by decide +kernel
theorem dX6_name_18 : decode cX6_name 18 = .ok (.iconst 2, 1) := by decide +kernel
theorem dX6_name_19 : decode cX6_name 19 = .ok (.iload_n 3, 1) := by decide +kernel
theorem dX6_name_20 : decode cX6_name 20 = .ok (.iastore, 1) := by decide +kernel
theorem dX6_name_21 : decode cX6_name 21 = .ok (.aload_n 0, 1) := by decide +kernel
theorem dX6_name_22 : decode cX6_name 22 = .ok (.getfield 11, 3) := by decide +kernel
theorem dX6_name_25 : decode cX6_name 25 = .ok (.iconst 3, 1) := by decide +kernel
theorem dX6_name_26 : decode cX6_name 26 = .ok (.iload 4, 2) := by decide +kernel
theorem dX6_name_28 : decode cX6_name 28 = .ok (.iastore, 1) := by decide +kernel
theorem dX6_name_29 : decode cX6_name 29 = .ok (.aload_n 0, 1) := by decide +kernel
theorem dX6_name_30 : decode cX6_name 30 = .ok (.getfield 11, 3) := by decide +kernel
theorem dX6_name_33 : decode cX6_name 33 = .ok (.iconst 4, 1) := by decide +kernel
theorem dX6_name_34 : decode cX6_name 34 = .ok (.iload 5, 2) := by decide +kernel
theorem dX6_name_36 : decode cX6_name 36 = .ok (.iastore, 1) := by decide +kernel
theorem dX6_name_37 : decode cX6_name 37 = .ok (.aload_n 0, 1) := by decide +kernel
theorem dX6_name_38 : decode cX6_name 38 = .ok (.getfield 11, 3) := by decide +kernel
theorem dX6_name_41 : decode cX6_name 41 = .ok (.iconst 5, 1) := by decide +kernel
theorem dX6_name_42 : decode cX6_name 42 = .ok (.iload 6, 2) := by decide +kernel
theorem dX6_name_44 : decode cX6_name 44 = .ok (.iastore, 1) := by decide +kernel
theorem dX6_name_45 : decode cX6_name 45 = .ok (.return_, 1) := by decide +kernel
theorem dX6_lets_0 : decode cX6_lets 0 = .ok (.aload_n 0, 1) := by decide +kernel
theorem dX6_lets_1 : decode cX6_lets 1 = .ok (.getfield 18, 3) := by decide +kernel
theorem dX6_lets_4 : decode cX6_lets 4 = .ok (.getfield 45, 3) := by decide +kernel
theorem dX6_lets_7 : decode cX6_lets 7 = .ok (.ifCond .eq 11, 3) := by decide +kernel
theorem dX6_lets_10 : decode cX6_lets 10 = .ok (.aload_n 1, 1) := by decide +kernel
theorem dX6_lets_11 : decode cX6_lets 11 = .ok (.iload_n 2, 1) := by decide +kernel
theorem dX6_lets_12 : decode cX6_lets 12 = .ok (.invokevirtual 49, 3) := by decide +kernel
theorem dX6_lets_15 : decode cX6_lets 15 = .ok (.ifCond .ne 5, 3) := by decide +kernel
theorem dX6_lets_18 : decode cX6_lets 18 = .ok (.iconst 1, 1) := by decide +kernel
theorem dX6_lets_19 : decode cX6_lets 19 = .ok (.ireturn, 1) := by decide +kernel
theorem dX6_lets_20 : decode cX6_lets 20 = .ok (.aload_n 0, 1) := by decide +kernel
theorem dX6_lets_21 : decode cX6_lets 21 = .ok (.iload 5, 2) := by decide +kernel
theorem dX6_lets_23 : decode cX6_lets 23 = .ok (.iload_n 3, 1) := by decide +kernel
theorem dX6_lets_24 : decode cX6_lets 24 = .ok (.iload_n 2, 1) := by decide +kernel
theorem dX6_lets_25 : decode cX6_lets 25 = .ok (.aload_n 1, 1) := by decide +kernel
theorem dX6_lets_26 : decode cX6_lets 26 = .ok (.getfield 55, 3) := by decide +kernel
theorem dX6_lets_29 : decode cX6_lets 29 = .ok (.iload_n 2, 1) := by decide +kernel
theorem dX6_lets_30 : decode cX6_lets 30 = .ok (.iaload, 1) := by decide +kernel
theorem dX6_lets_31 : decode cX6_lets 31 = .ok (.iload 4, 2) := by decide +kernel
theorem dX6_lets_33 : decode cX6_lets 33 = .ok (.iconst 0, 1) := by decide +kernel
theorem dX6_lets_34 : decode cX6_lets 34 = .ok (.invokevirtual 58, 3) := by decide +kernel
theorem dX6_lets_37 : decode cX6_lets 37 = .ok (.aload_n 0, 1) := by decide +kernel
theorem dX6_lets_38 : decode cX6_lets 38 = .ok (.getfield 18, 3) := by decide +kernel
theorem dX6_lets_41 : decode cX6_lets 41 = .ok (.aload_n 0, 1) := by decide +kernel
theorem dX6_lets_42 : decode cX6_lets 42 = .ok (.getfield 11, 3) := by decide +kernel
theorem dX6_lets_45 : decode cX6_lets 45 = .ok (.invokevirtual 62, 3) := by decide +kernel
theorem dX6_lets_48 : decode cX6_lets 48 = .ok (.ifCond .eq 7, 3) := by decide +kernel
theorem dX6_lets_51 : decode cX6_lets 51 = .ok (.iconst 1, 1) := by decide +kernel
theorem dX6_lets_52 : decode cX6_lets 52 = .ok (.goto 4, 3) := by decide +kernel
theorem dX6_lets_55 : decode cX6_lets 55 = .ok (.iconst 0, 1) := by decide +kernel
theorem dX6_lets_56 : decode cX6_lets 56 = .ok (.ireturn, 1) := by decide +kernel
theorem dX6_lettingOf_0 : decode cX6_lettingOf 0 = .ok (.iload_n 2, 1) := by decide +kernel
theorem dX6_lettingOf_1 : decode cX6_lettingOf 1 = .ok (.istore 6, 2) := by decide +kernel
theorem dX6_lettingOf_3 : decode cX6_lettingOf 3 = .ok (.iconst 0, 1) := by decide +kernel
theorem dX6_lettingOf_4 : decode cX6_lettingOf 4 = .ok (.istore 7, 2) := by decide +kernel
theorem dX6_lettingOf_6 : decode cX6_lettingOf 6 = .ok (.iload 7, 2) := by decide +kernel
theorem dX6_lettingOf_8 : decode cX6_lettingOf 8 = .ok (.aload_n 1, 1) := by decide +kernel
theorem dX6_lettingOf_9 : decode cX6_lettingOf 9 = .ok (.getfield 66, 3) := by decide +kernel
theorem dX6_lettingOf_12 : decode cX6_lettingOf 12 = .ok (.if_icmp .ge 54, 3) := by decide +kernel
theorem dX6_lettingOf_15 : decode cX6_lettingOf 15 = .ok (.aload_n 0, 1) := by decide +kernel
theorem dX6_lettingOf_16 : decode cX6_lettingOf 16 = .ok (.getfield 18, 3) := by decide +kernel
theorem dX6_lettingOf_19 : decode cX6_lettingOf 19 = .ok (.getfield 45, 3) := by decide +kernel
theorem dX6_lettingOf_22 : decode cX6_lettingOf 22 = .ok (.ifCond .eq 44, 3) := by decide +kernel
theorem dX6_lettingOf_25 : decode cX6_lettingOf 25 = .ok (.iload_n 2, 1) := by decide +kernel
theorem dX6_lettingOf_26 : decode cX6_lettingOf 26 = .ok (.iload 7, 2) := by decide +kernel
theorem dX6_lettingOf_28 : decode cX6_lettingOf 28 = .ok (.invokestatic 70, 3) := by decide +kernel
theorem dX6_lettingOf_31 : decode cX6_lettingOf 31 = .ok (.ifCond .eq 29, 3) := by decide +kernel
theorem dX6_lettingOf_34 : decode cX6_lettingOf 34 = .ok (.aload_n 0, 1) := by decide +kernel
theorem dX6_lettingOf_35 : decode cX6_lettingOf 35 = .ok (.aload_n 1, 1) := by decide +kernel
theorem dX6_lettingOf_36 : decode cX6_lettingOf 36 = .ok (.iload 7, 2) := by decide +kernel
theorem dX6_lettingOf_38 : decode cX6_lettingOf 38 = .ok (.iload_n 3, 1) := by decide +kernel
theorem dX6_lettingOf_39 : decode cX6_lettingOf 39 = .ok (.iload 4, 2) := by decide +kernel
theorem dX6_lettingOf_41 : decode cX6_lettingOf 41 = .ok (.iload 5, 2) := by decide +kernel
theorem dX6_lettingOf_43 : decode cX6_lettingOf 43 = .ok (.invokevirtual 74, 3) := by decide +kernel
theorem dX6_lettingOf_46 : decode cX6_lettingOf 46 = .ok (.ifCond .ne 14, 3) := by decide +kernel
theorem dX6_lettingOf_49 : decode cX6_lettingOf 49 = .ok (.iload 6, 2) := by decide +kernel
theorem dX6_lettingOf_51 : decode cX6_lettingOf 51 = .ok (.iconst 1, 1) := by decide +kernel
theorem dX6_lettingOf_52 : decode cX6_lettingOf 52 = .ok (.iload 7, 2) := by decide +kernel
theorem dX6_lettingOf_54 : decode cX6_lettingOf 54 = .ok (.ishl, 1) := by decide +kernel
theorem dX6_lettingOf_55 : decode cX6_lettingOf 55 = .ok (.iconst (-1), 1) := by decide +kernel
theorem dX6_lettingOf_56 : decode cX6_lettingOf 56 = .ok (.ixor, 1) := by decide +kernel
theorem dX6_lettingOf_57 : decode cX6_lettingOf 57 = .ok (.iand, 1) := by decide +kernel
theorem dX6_lettingOf_58 : decode cX6_lettingOf 58 = .ok (.istore 6, 2) := by decide +kernel
theorem dX6_lettingOf_60 : decode cX6_lettingOf 60 = .ok (.iinc 7 1, 3) := by decide +kernel
theorem dX6_lettingOf_63 : decode cX6_lettingOf 63 = .ok (.goto (-57), 3) := by decide +kernel
theorem dX6_lettingOf_66 : decode cX6_lettingOf 66 = .ok (.iload 6, 2) := by decide +kernel
theorem dX6_lettingOf_68 : decode cX6_lettingOf 68 = .ok (.ireturn, 1) := by decide +kernel
theorem dX6_chance_0 : decode cX6_chance 0 = .ok (.aload_n 0, 1) := by decide +kernel
theorem dX6_chance_1 : decode cX6_chance 1 = .ok (.getfield 22, 3) := by decide +kernel
theorem dX6_chance_4 : decode cX6_chance 4 = .ok (.getfield 45, 3) := by decide +kernel
theorem dX6_chance_7 : decode cX6_chance 7 = .ok (.ifCond .ne 6, 3) := by decide +kernel
theorem dX6_chance_10 : decode cX6_chance 10 = .ok (.bipush 6, 2) := by decide +kernel
theorem dX6_chance_12 : decode cX6_chance 12 = .ok (.ireturn, 1) := by decide +kernel
theorem dX6_chance_13 : decode cX6_chance 13 = .ok (.aload_n 0, 1) := by decide +kernel
theorem dX6_chance_14 : decode cX6_chance 14 = .ok (.iload_n 3, 1) := by decide +kernel
theorem dX6_chance_15 : decode cX6_chance 15 = .ok (.iload_n 1, 1) := by decide +kernel
theorem dX6_chance_16 : decode cX6_chance 16 = .ok (.iconst 0, 1) := by decide +kernel
theorem dX6_chance_17 : decode cX6_chance 17 = .ok (.iconst 0, 1) := by decide +kernel
theorem dX6_chance_18 : decode cX6_chance 18 = .ok (.iconst 0, 1) := by decide +kernel
theorem dX6_chance_19 : decode cX6_chance 19 = .ok (.iload_n 2, 1) := by decide +kernel
theorem dX6_chance_20 : decode cX6_chance 20 = .ok (.invokevirtual 58, 3) := by decide +kernel
theorem dX6_chance_23 : decode cX6_chance 23 = .ok (.iconst 0, 1) := by decide +kernel
theorem dX6_chance_24 : decode cX6_chance 24 = .ok (.bipush 12, 2) := by decide +kernel
theorem dX6_chance_26 : decode cX6_chance 26 = .ok (.aload_n 0, 1) := by decide +kernel
theorem dX6_chance_27 : decode cX6_chance 27 = .ok (.getfield 22, 3) := by decide +kernel
theorem dX6_chance_30 : decode cX6_chance 30 = .ok (.aload_n 0, 1) := by decide +kernel
theorem dX6_chance_31 : decode cX6_chance 31 = .ok (.getfield 11, 3) := by decide +kernel
theorem dX6_chance_34 : decode cX6_chance 34 = .ok (.invokevirtual 62, 3) := by decide +kernel
theorem dX6_chance_37 : decode cX6_chance 37 = .ok (.invokestatic 78, 3) := by decide +kernel
theorem dX6_chance_40 : decode cX6_chance 40 = .ok (.invokestatic 83, 3) := by decide +kernel
theorem dX6_chance_43 : decode cX6_chance 43 = .ok (.ireturn, 1) := by decide +kernel
theorem dX7_init_0 : decode cX7_init 0 = .ok (.aload_n 0, 1) := by decide +kernel
theorem dX7_init_1 : decode cX7_init 1 = .ok (.invokespecial 7, 3) := by decide +kernel
theorem dX7_init_4 : decode cX7_init 4 = .ok (.aload_n 0, 1) := by decide +kernel
theorem dX7_init_5 : decode cX7_init 5 = .ok (.sipush 1024, 3) := by decide +kernel
theorem dX7_init_8 : decode cX7_init 8 = .ok (.newarray .int, 2) := by decide +kernel
theorem dX7_init_10 : decode cX7_init 10 = .ok (.putfield 13, 3) := by decide +kernel
theorem dX7_init_13 : decode cX7_init 13 = .ok (.aload_n 0, 1) := by decide +kernel
theorem dX7_init_14 : decode cX7_init 14 = .ok (.bipush 32, 2) := by decide +kernel
theorem dX7_init_16 : decode cX7_init 16 = .ok (.newarray .int, 2) := by decide +kernel
theorem dX7_init_18 : decode cX7_init 18 = .ok (.putfield 17, 3) := by decide +kernel
theorem dX7_init_21 : decode cX7_init 21 = .ok (.aload_n 0, 1) := by decide +kernel
theorem dX7_init_22 : decode cX7_init 22 = .ok (.aload_n 1, 1) := by decide +kernel
theorem dX7_init_23 : decode cX7_init 23 = .ok (.putfield 20, 3) := by decide +kernel
theorem dX7_init_26 : decode cX7_init 26 = .ok (.aload_n 0, 1) := by decide +kernel
theorem dX7_init_27 : decode cX7_init 27 = .ok (.aload_n 2, 1) := by decide +kernel
theorem dX7_init_28 : decode cX7_init 28 = .ok (.putfield 24, 3) := by decide +kernel
theorem dX7_init_31 : decode cX7_init 31 = .ok (.aload_n 0, 1) := by decide +kernel
theorem dX7_init_32 : decode cX7_init 32 = .ok (.aload_n 3, 1) := by decide +kernel
theorem dX7_init_33 : decode cX7_init 33 = .ok (.putfield 28, 3) := by decide +kernel
theorem dX7_init_36 : decode cX7_init 36 = .ok (.return_, 1) := by decide +kernel
theorem dX7_cost_0 : decode cX7_cost 0 = .ok (.aload_n 0, 1) := by decide +kernel
theorem dX7_cost_1 : decode cX7_cost 1 = .ok (.iconst 1, 1) := by decide +kernel
theorem dX7_cost_2 : decode cX7_cost 2 = .ok (.iconst 5, 1) := by decide +kernel
theorem dX7_cost_3 : decode cX7_cost 3 = .ok (.aload_n 0, 1) := by decide +kernel
theorem dX7_cost_4 : decode cX7_cost 4 = .ok (.getfield 24, 3) := by decide +kernel
theorem dX7_cost_7 : decode cX7_cost 7 = .ok (.getfield 32, 3) := by decide +kernel
theorem dX7_cost_10 : decode cX7_cost 10 = .ok (.invokestatic 38, 3) := by decide +kernel
theorem dX7_cost_13 : decode cX7_cost 13 = .ok (.ishl, 1) := by decide +kernel
theorem dX7_cost_14 : decode cX7_cost 14 = .ok (.putfield 44, 3) := by decide +kernel
theorem dX7_cost_17 : decode cX7_cost 17 = .ok (.iconst 0, 1) := by decide +kernel
theorem dX7_cost_18 : decode cX7_cost 18 = .ok (.istore_n 1, 1) := by decide +kernel
theorem dX7_cost_19 : decode cX7_cost 19 = .ok (.iload_n 1, 1) := by decide +kernel
theorem dX7_cost_20 : decode cX7_cost 20 = .ok (.sipush 1024, 3) := by decide +kernel
theorem dX7_cost_23 : decode cX7_cost 23 = .ok (.if_icmp .ge 25, 3) := by decide +kernel
theorem dX7_cost_26 : decode cX7_cost 26 = .ok (.aload_n 0, 1) := by decide +kernel
theorem dX7_cost_27 : decode cX7_cost 27 = .ok (.getfield 13, 3) := by decide +kernel
theorem dX7_cost_30 : decode cX7_cost 30 = .ok (.iload_n 1, 1) := by decide +kernel
theorem dX7_cost_31 : decode cX7_cost 31 = .ok (.iload_n 1, 1) := by decide +kernel
theorem dX7_cost_32 : decode cX7_cost 32 = .ok (.ifCond .ne 7, 3) := by decide +kernel
theorem dX7_cost_35 : decode cX7_cost 35 = .ok (.iconst 0, 1) := by decide +kernel
theorem dX7_cost_36 : decode cX7_cost 36 = .ok (.goto 5, 3) := by decide +kernel
theorem dX7_cost_39 : decode cX7_cost 39 = .ok (.ldc 47, 2) := by decide +kernel
theorem dX7_cost_41 : decode cX7_cost 41 = .ok (.iastore, 1) := by decide +kernel
theorem dX7_cost_42 : decode cX7_cost 42 = .ok (.iinc 1 1, 3) := by decide +kernel
theorem dX7_cost_45 : decode cX7_cost 45 = .ok (.goto (-26), 3) := by decide +kernel
theorem dX7_cost_48 : decode cX7_cost 48 = .ok (.iconst 0, 1) := by decide +kernel
theorem dX7_cost_49 : decode cX7_cost 49 = .ok (.istore_n 1, 1) := by decide +kernel
theorem dX7_cost_50 : decode cX7_cost 50 = .ok (.iload_n 1, 1) := by decide +kernel
theorem dX7_cost_51 : decode cX7_cost 51 = .ok (.bipush 60, 2) := by decide +kernel
theorem dX7_cost_53 : decode cX7_cost 53 = .ok (.if_icmp .ge 71, 3) := by decide +kernel
theorem dX7_cost_56 : decode cX7_cost 56 = .ok (.aload_n 0, 1) := by decide +kernel
theorem dX7_cost_57 : decode cX7_cost 57 = .ok (.aload_n 0, 1) := by decide +kernel
theorem dX7_cost_58 : decode cX7_cost 58 = .ok (.getfield 24, 3) := by decide +kernel
theorem dX7_cost_61 : decode cX7_cost 61 = .ok (.iload_n 1, 1) := by decide +kernel
theorem dX7_cost_62 : decode cX7_cost 62 = .ok (.iconst 0, 1) := by decide +kernel
theorem dX7_cost_63 : decode cX7_cost 63 = .ok (.invokevirtual 48, 3) := by decide +kernel
theorem dX7_cost_66 : decode cX7_cost 66 = .ok (.iconst 0, 1) := by decide +kernel
theorem dX7_cost_67 : decode cX7_cost 67 = .ok (.iload_n 1, 1) := by decide +kernel
theorem dX7_cost_68 : decode cX7_cost 68 = .ok (.invokevirtual 51, 3) := by decide +kernel
theorem dX7_cost_71 : decode cX7_cost 71 = .ok (.aload_n 0, 1) := by decide +kernel
theorem dX7_cost_72 : decode cX7_cost 72 = .ok (.getfield 55, 3) := by decide +kernel
theorem dX7_cost_75 : decode cX7_cost 75 = .ok (.ifCond .le 7, 3) := by decide +kernel
theorem dX7_cost_78 : decode cX7_cost 78 = .ok (.aload_n 0, 1) := by decide +kernel
theorem dX7_cost_79 : decode cX7_cost 79 = .ok (.invokevirtual 58, 3) := by decide +kernel
theorem dX7_cost_82 : decode cX7_cost 82 = .ok (.aload_n 0, 1) := by decide +kernel
theorem dX7_cost_83 : decode cX7_cost 83 = .ok (.aload_n 0, 1) := by decide +kernel
theorem dX7_cost_84 : decode cX7_cost 84 = .ok (.getfield 24, 3) := by decide +kernel
theorem dX7_cost_87 : decode cX7_cost 87 = .ok (.iload_n 1, 1) := by decide +kernel
theorem dX7_cost_88 : decode cX7_cost 88 = .ok (.aload_n 0, 1) := by decide +kernel
theorem dX7_cost_89 : decode cX7_cost 89 = .ok (.getfield 44, 3) := by decide +kernel
theorem dX7_cost_92 : decode cX7_cost 92 = .ok (.iconst 1, 1) := by decide +kernel
theorem dX7_cost_93 : decode cX7_cost 93 = .ok (.isub, 1) := by decide +kernel
theorem dX7_cost_94 : decode cX7_cost 94 = .ok (.invokevirtual 61, 3) := by decide +kernel
theorem dX7_cost_97 : decode cX7_cost 97 = .ok (.iconst 1, 1) := by decide +kernel
theorem dX7_cost_98 : decode cX7_cost 98 = .ok (.iload_n 1, 1) := by decide +kernel
theorem dX7_cost_99 : decode cX7_cost 99 = .ok (.invokevirtual 51, 3) := by decide +kernel
theorem dX7_cost_102 : decode cX7_cost 102 = .ok (.aload_n 0, 1) := by decide +kernel
theorem dX7_cost_103 : decode cX7_cost 103 = .ok (.getfield 55, 3) := by decide +kernel
theorem dX7_cost_106 : decode cX7_cost 106 = .ok (.ifCond .le 7, 3) := by decide +kernel
theorem dX7_cost_109 : decode cX7_cost 109 = .ok (.aload_n 0, 1) := by decide +kernel
theorem dX7_cost_110 : decode cX7_cost 110 = .ok (.invokevirtual 64, 3) := by decide +kernel
theorem dX7_cost_113 : decode cX7_cost 113 = .ok (.aload_n 0, 1) := by decide +kernel
theorem dX7_cost_114 : decode cX7_cost 114 = .ok (.iload_n 1, 1) := by decide +kernel
theorem dX7_cost_115 : decode cX7_cost 115 = .ok (.invokevirtual 67, 3) := by decide +kernel
theorem dX7_cost_118 : decode cX7_cost 118 = .ok (.iinc 1 1, 3) := by decide +kernel
theorem dX7_cost_121 : decode cX7_cost 121 = .ok (.goto (-71), 3) := by decide +kernel
theorem dX7_cost_124 : decode cX7_cost 124 = .ok (.ldc 47, 2) := by decide +kernel
theorem dX7_cost_126 : decode cX7_cost 126 = .ok (.istore_n 1, 1) := by decide +kernel
theorem dX7_cost_127 : decode cX7_cost 127 = .ok (.iconst 0, 1) := by decide +kernel
theorem dX7_cost_128 : decode cX7_cost 128 = .ok (.istore_n 2, 1) := by decide +kernel
theorem dX7_cost_129 : decode cX7_cost 129 = .ok (.iload_n 2, 1) := by decide +kernel
theorem dX7_cost_130 : decode cX7_cost 130 = .ok (.sipush 1024, 3) := by decide +kernel
theorem dX7_cost_133 : decode cX7_cost 133 = .ok (.if_icmp .ge 20, 3) := by decide +kernel
theorem dX7_cost_136 : decode cX7_cost 136 = .ok (.iload_n 1, 1) := by decide +kernel
theorem dX7_cost_137 : decode cX7_cost 137 = .ok (.aload_n 0, 1) := by decide +kernel
theorem dX7_cost_138 : decode cX7_cost 138 = .ok (.getfield 13, 3) := by decide +kernel
theorem dX7_cost_141 : decode cX7_cost 141 = .ok (.iload_n 2, 1) := by decide +kernel
theorem dX7_cost_142 : decode cX7_cost 142 = .ok (.iaload, 1) := by decide +kernel
theorem dX7_cost_143 : decode cX7_cost 143 = .ok (.invokestatic 38, 3) := by decide +kernel
theorem dX7_cost_146 : decode cX7_cost 146 = .ok (.istore_n 1, 1) := by decide +kernel
theorem dX7_cost_147 : decode cX7_cost 147 = .ok (.iinc 2 1, 3) := by decide +kernel
theorem dX7_cost_150 : decode cX7_cost 150 = .ok (.goto (-21), 3) := by decide +kernel
theorem dX7_cost_153 : decode cX7_cost 153 = .ok (.iload_n 1, 1) := by decide +kernel
theorem dX7_cost_154 : decode cX7_cost 154 = .ok (.ireturn, 1) := by decide +kernel
theorem dX7_findGroups_0 : decode cX7_findGroups 0 = .ok (.aload_n 0, 1) := by decide +kernel
theorem dX7_findGroups_1 : decode cX7_findGroups 1 = .ok (.getfield 28, 3) := by decide +kernel
theorem dX7_findGroups_4 : decode cX7_findGroups 4 = .ok (.aload_n 0, 1) := by decide +kernel
theorem dX7_findGroups_5 : decode cX7_findGroups 5 = .ok (.getfield 24, 3) := by decide +kernel
theorem dX7_findGroups_8 : decode cX7_findGroups 8 = .ok (.iload_n 1, 1) := by decide +kernel
theorem dX7_findGroups_9 : decode cX7_findGroups 9 = .ok (.iconst 0, 1) := by decide +kernel
theorem dX7_findGroups_10 : decode cX7_findGroups 10 = .ok (.iload_n 2, 1) := by decide +kernel
theorem dX7_findGroups_11 : decode cX7_findGroups 11 = .ok (.iload_n 3, 1) := by decide +kernel
theorem dX7_findGroups_12 : decode cX7_findGroups 12 = .ok (.invokevirtual 71, 3) := by decide +kernel
theorem dX7_findGroups_15 : decode cX7_findGroups 15 = .ok (.istore 4, 2) := by decide +kernel
theorem dX7_findGroups_17 : decode cX7_findGroups 17 = .ok (.aload_n 0, 1) := by decide +kernel
theorem dX7_findGroups_18 : decode cX7_findGroups 18 = .ok (.iconst 0, 1) := by decide +kernel
theorem dX7_findGroups_19 : decode cX7_findGroups 19 = .ok (.putfield 55, 3) := by decide +kernel
theorem dX7_findGroups_22 : decode cX7_findGroups 22 = .ok (.iconst 1, 1) := by decide +kernel
theorem dX7_findGroups_23 : decode cX7_findGroups 23 = .ok (.istore 5, 2) := by decide +kernel
theorem dX7_findGroups_25 : decode cX7_findGroups 25 = .ok (.iload 5, 2) := by decide +kernel
theorem dX7_findGroups_27 : decode cX7_findGroups 27 = .ok (.aload_n 0, 1) := by decide +kernel
theorem dX7_findGroups_28 : decode cX7_findGroups 28 = .ok (.getfield 44, 3) := by decide +kernel
theorem dX7_findGroups_31 : decode cX7_findGroups 31 = .ok (.if_icmp .ge 56, 3) := by decide +kernel
theorem dX7_findGroups_34 : decode cX7_findGroups 34 = .ok (.iload 5, 2) := by decide +kernel
theorem dX7_findGroups_36 : decode cX7_findGroups 36 = .ok (.iload 4, 2) := by decide +kernel
theorem dX7_findGroups_38 : decode cX7_findGroups 38 = .ok (.iconst (-1), 1) := by decide +kernel
theorem dX7_findGroups_39 : decode cX7_findGroups 39 = .ok (.ixor, 1) := by decide +kernel
theorem dX7_findGroups_40 : decode cX7_findGroups 40 = .ok (.iand, 1) := by decide +kernel
theorem dX7_findGroups_41 : decode cX7_findGroups 41 = .ok (.ifCond .ne 40, 3) := by decide +kernel
theorem dX7_findGroups_44 : decode cX7_findGroups 44 = .ok (.iload 5, 2) := by decide +kernel
theorem dX7_findGroups_46 : decode cX7_findGroups 46 = .ok (.invokestatic 77, 3) := by decide +kernel
theorem dX7_findGroups_49 : decode cX7_findGroups 49 = .ok (.aload_n 0, 1) := by decide +kernel
theorem dX7_findGroups_50 : decode cX7_findGroups 50 = .ok (.getfield 20, 3) := by decide +kernel
theorem dX7_findGroups_53 : decode cX7_findGroups 53 = .ok (.iconst 0, 1) := by decide +kernel
theorem dX7_findGroups_54 : decode cX7_findGroups 54 = .ok (.invokevirtual 81, 3) := by decide +kernel
theorem dX7_findGroups_57 : decode cX7_findGroups 57 = .ok (.if_icmp .ne 24, 3) := by decide +kernel
theorem dX7_findGroups_60 : decode cX7_findGroups 60 = .ok (.aload_n 0, 1) := by decide +kernel
theorem dX7_findGroups_61 : decode cX7_findGroups 61 = .ok (.getfield 17, 3) := by decide +kernel
theorem dX7_findGroups_64 : decode cX7_findGroups 64 = .ok (.aload_n 0, 1) := by decide +kernel
theorem dX7_findGroups_65 : decode cX7_findGroups 65 = .ok (.getfield 55, 3) := by decide +kernel
theorem dX7_findGroups_68 : decode cX7_findGroups 68 = .ok (.iload 5, 2) := by decide +kernel
theorem dX7_findGroups_70 : decode cX7_findGroups 70 = .ok (.iastore, 1) := by decide +kernel
theorem dX7_findGroups_71 : decode cX7_findGroups 71 = .ok (.aload_n 0, 1) := by decide +kernel
theorem dX7_findGroups_72 : decode cX7_findGroups 72 = .ok (.dup, 1) := by decide +kernel
theorem dX7_findGroups_73 : decode cX7_findGroups 73 = .ok (.getfield 55, 3) := by decide +kernel
theorem dX7_findGroups_76 : decode cX7_findGroups 76 = .ok (.iconst 1, 1) := by decide +kernel
theorem dX7_findGroups_77 : decode cX7_findGroups 77 = .ok (.iadd, 1) := by decide +kernel
theorem dX7_findGroups_78 : decode cX7_findGroups 78 = .ok (.putfield 55, 3) := by decide +kernel
theorem dX7_findGroups_81 : decode cX7_findGroups 81 = .ok (.iinc 5 1, 3) := by decide +kernel
theorem dX7_findGroups_84 : decode cX7_findGroups 84 = .ok (.goto (-59), 3) := by decide +kernel
theorem dX7_findGroups_87 : decode cX7_findGroups 87 = .ok (.return_, 1) := by decide +kernel
theorem dX7_goOut_0 : decode cX7_goOut 0 = .ok (.iconst 0, 1) := by decide +kernel
theorem dX7_goOut_1 : decode cX7_goOut 1 = .ok (.istore_n 1, 1) := by decide +kernel
theorem dX7_goOut_2 : decode cX7_goOut 2 = .ok (.iload_n 1, 1) := by decide +kernel
theorem dX7_goOut_3 : decode cX7_goOut 3 = .ok (.aload_n 0, 1) := by decide +kernel
theorem dX7_goOut_4 : decode cX7_goOut 4 = .ok (.getfield 44, 3) := by decide +kernel
theorem dX7_goOut_7 : decode cX7_goOut 7 = .ok (.if_icmp .ge 97, 3) := by decide +kernel
theorem dX7_goOut_10 : decode cX7_goOut 10 = .ok (.iconst 0, 1) := by decide +kernel
theorem dX7_goOut_11 : decode cX7_goOut 11 = .ok (.istore_n 2, 1) := by decide +kernel
theorem dX7_goOut_12 : decode cX7_goOut 12 = .ok (.iload_n 2, 1) := by decide +kernel
theorem dX7_goOut_13 : decode cX7_goOut 13 = .ok (.iload_n 1, 1) := by decide +kernel
theorem dX7_goOut_14 : decode cX7_goOut 14 = .ok (.if_icmp .gt 84, 3) := by decide +kernel
theorem dX7_goOut_17 : decode cX7_goOut 17 = .ok (.aload_n 0, 1) := by decide +kernel
theorem dX7_goOut_18 : decode cX7_goOut 18 = .ok (.getfield 13, 3) := by decide +kernel
theorem dX7_goOut_21 : decode cX7_goOut 21 = .ok (.iload_n 1, 1) := by decide +kernel
theorem dX7_goOut_22 : decode cX7_goOut 22 = .ok (.bipush 32, 2) := by decide +kernel
theorem dX7_goOut_24 : decode cX7_goOut 24 = .ok (.imul, 1) := by decide +kernel
theorem dX7_goOut_25 : decode cX7_goOut 25 = .ok (.iload_n 2, 1) := by decide +kernel
theorem dX7_goOut_26 : decode cX7_goOut 26 = .ok (.iadd, 1) := by decide +kernel
theorem dX7_goOut_27 : decode cX7_goOut 27 = .ok (.iaload, 1) := by decide +kernel
theorem dX7_goOut_28 : decode cX7_goOut 28 = .ok (.istore_n 3, 1) := by decide +kernel
theorem dX7_goOut_29 : decode cX7_goOut 29 = .ok (.iconst 0, 1) := by decide +kernel
theorem dX7_goOut_30 : decode cX7_goOut 30 = .ok (.istore 4, 2) := by decide +kernel
theorem dX7_goOut_32 : decode cX7_goOut 32 = .ok (.iload 4, 2) := by decide +kernel
theorem dX7_goOut_34 : decode cX7_goOut 34 = .ok (.aload_n 0, 1) := by decide +kernel
theorem dX7_goOut_35 : decode cX7_goOut 35 = .ok (.getfield 55, 3) := by decide +kernel
theorem dX7_goOut_38 : decode cX7_goOut 38 = .ok (.if_icmp .ge 54, 3) := by decide +kernel
theorem dX7_goOut_41 : decode cX7_goOut 41 = .ok (.iload_n 3, 1) := by decide +kernel
theorem dX7_goOut_42 : decode cX7_goOut 42 = .ok (.ldc 47, 2) := by decide +kernel
theorem dX7_goOut_44 : decode cX7_goOut 44 = .ok (.if_icmp .eq 48, 3) := by decide +kernel
theorem dX7_goOut_47 : decode cX7_goOut 47 = .ok (.aload_n 0, 1) := by decide +kernel
theorem dX7_goOut_48 : decode cX7_goOut 48 = .ok (.getfield 17, 3) := by decide +kernel
theorem dX7_goOut_51 : decode cX7_goOut 51 = .ok (.iload 4, 2) := by decide +kernel
theorem dX7_goOut_53 : decode cX7_goOut 53 = .ok (.iaload, 1) := by decide +kernel
theorem dX7_goOut_54 : decode cX7_goOut 54 = .ok (.iload_n 1, 1) := by decide +kernel
theorem dX7_goOut_55 : decode cX7_goOut 55 = .ok (.iand, 1) := by decide +kernel
theorem dX7_goOut_56 : decode cX7_goOut 56 = .ok (.ifCond .ne 30, 3) := by decide +kernel
theorem dX7_goOut_59 : decode cX7_goOut 59 = .ok (.aload_n 0, 1) := by decide +kernel
theorem dX7_goOut_60 : decode cX7_goOut 60 = .ok (.iload_n 1, 1) := by decide +kernel
theorem dX7_goOut_61 : decode cX7_goOut 61 = .ok (.aload_n 0, 1) := by decide +kernel
theorem dX7_goOut_62 : decode cX7_goOut 62 = .ok (.getfield 17, 3) := by decide +kernel
theorem dX7_goOut_65 : decode cX7_goOut 65 = .ok (.iload 4, 2) := by decide +kernel
theorem dX7_goOut_67 : decode cX7_goOut 67 = .ok (.iaload, 1) := by decide +kernel
theorem dX7_goOut_68 : decode cX7_goOut 68 = .ok (.ior, 1) := by decide +kernel
theorem dX7_goOut_69 : decode cX7_goOut 69 = .ok (.bipush 32, 2) := by decide +kernel
theorem dX7_goOut_71 : decode cX7_goOut 71 = .ok (.imul, 1) := by decide +kernel
theorem dX7_goOut_72 : decode cX7_goOut 72 = .ok (.iload_n 2, 1) := by decide +kernel
theorem dX7_goOut_73 : decode cX7_goOut 73 = .ok (.aload_n 0, 1) := by decide +kernel
theorem dX7_goOut_74 : decode cX7_goOut 74 = .ok (.getfield 17, 3) := by decide +kernel
theorem dX7_goOut_77 : decode cX7_goOut 77 = .ok (.iload 4, 2) := by decide +kernel
theorem dX7_goOut_79 : decode cX7_goOut 79 = .ok (.iaload, 1) := by decide +kernel
theorem dX7_goOut_80 : decode cX7_goOut 80 = .ok (.ior, 1) := by decide +kernel
theorem dX7_goOut_81 : decode cX7_goOut 81 = .ok (.iadd, 1) := by decide +kernel
theorem dX7_goOut_82 : decode cX7_goOut 82 = .ok (.iload_n 3, 1) := by decide +kernel
theorem dX7_goOut_83 : decode cX7_goOut 83 = .ok (.invokevirtual 86, 3) := by decide +kernel
theorem dX7_goOut_86 : decode cX7_goOut 86 = .ok (.iinc 4 1, 3) := by decide +kernel
theorem dX7_goOut_89 : decode cX7_goOut 89 = .ok (.goto (-57), 3) := by decide +kernel
theorem dX7_goOut_92 : decode cX7_goOut 92 = .ok (.iinc 2 1, 3) := by decide +kernel
theorem dX7_goOut_95 : decode cX7_goOut 95 = .ok (.goto (-83), 3) := by decide +kernel
theorem dX7_goOut_98 : decode cX7_goOut 98 = .ok (.iinc 1 1, 3) := by decide +kernel
theorem dX7_goOut_101 : decode cX7_goOut 101 = .ok (.goto (-99), 3) := by decide +kernel
theorem dX7_goOut_104 : decode cX7_goOut 104 = .ok (.return_, 1) := by decide +kernel
theorem dX7_comeIn_0 : decode cX7_comeIn 0 = .ok (.iconst 0, 1) := by decide +kernel
theorem dX7_comeIn_1 : decode cX7_comeIn 1 = .ok (.istore_n 1, 1) := by decide +kernel
theorem dX7_comeIn_2 : decode cX7_comeIn 2 = .ok (.iload_n 1, 1) := by decide +kernel
theorem dX7_comeIn_3 : decode cX7_comeIn 3 = .ok (.aload_n 0, 1) := by decide +kernel
theorem dX7_comeIn_4 : decode cX7_comeIn 4 = .ok (.getfield 44, 3) := by decide +kernel
theorem dX7_comeIn_7 : decode cX7_comeIn 7 = .ok (.if_icmp .ge 92, 3) := by decide +kernel
theorem dX7_comeIn_10 : decode cX7_comeIn 10 = .ok (.iload_n 1, 1) := by decide +kernel
theorem dX7_comeIn_11 : decode cX7_comeIn 11 = .ok (.istore_n 2, 1) := by decide +kernel
theorem dX7_comeIn_12 : decode cX7_comeIn 12 = .ok (.iload_n 2, 1) := by decide +kernel
theorem dX7_comeIn_13 : decode cX7_comeIn 13 = .ok (.ifCond .le 80, 3) := by decide +kernel
theorem dX7_comeIn_16 : decode cX7_comeIn 16 = .ok (.aload_n 0, 1) := by decide +kernel
theorem dX7_comeIn_17 : decode cX7_comeIn 17 = .ok (.getfield 13, 3) := by decide +kernel
theorem dX7_comeIn_20 : decode cX7_comeIn 20 = .ok (.iload_n 1, 1) := by decide +kernel
theorem dX7_comeIn_21 : decode cX7_comeIn 21 = .ok (.bipush 32, 2) := by decide +kernel
theorem dX7_comeIn_23 : decode cX7_comeIn 23 = .ok (.imul, 1) := by decide +kernel
theorem dX7_comeIn_24 : decode cX7_comeIn 24 = .ok (.iload_n 2, 1) := by decide +kernel
theorem dX7_comeIn_25 : decode cX7_comeIn 25 = .ok (.iadd, 1) := by decide +kernel
theorem dX7_comeIn_26 : decode cX7_comeIn 26 = .ok (.iaload, 1) := by decide +kernel
theorem dX7_comeIn_27 : decode cX7_comeIn 27 = .ok (.istore_n 3, 1) := by decide +kernel
theorem dX7_comeIn_28 : decode cX7_comeIn 28 = .ok (.iconst 0, 1) := by decide +kernel
theorem dX7_comeIn_29 : decode cX7_comeIn 29 = .ok (.istore 4, 2) := by decide +kernel
theorem dX7_comeIn_31 : decode cX7_comeIn 31 = .ok (.iload 4, 2) := by decide +kernel
theorem dX7_comeIn_33 : decode cX7_comeIn 33 = .ok (.aload_n 0, 1) := by decide +kernel
theorem dX7_comeIn_34 : decode cX7_comeIn 34 = .ok (.getfield 55, 3) := by decide +kernel
theorem dX7_comeIn_37 : decode cX7_comeIn 37 = .ok (.if_icmp .ge 50, 3) := by decide +kernel
theorem dX7_comeIn_40 : decode cX7_comeIn 40 = .ok (.iload_n 3, 1) := by decide +kernel
theorem dX7_comeIn_41 : decode cX7_comeIn 41 = .ok (.ldc 47, 2) := by decide +kernel
theorem dX7_comeIn_43 : decode cX7_comeIn 43 = .ok (.if_icmp .eq 44, 3) := by decide +kernel
theorem dX7_comeIn_46 : decode cX7_comeIn 46 = .ok (.aload_n 0, 1) := by decide +kernel
theorem dX7_comeIn_47 : decode cX7_comeIn 47 = .ok (.getfield 17, 3) := by decide +kernel
theorem dX7_comeIn_50 : decode cX7_comeIn 50 = .ok (.iload 4, 2) := by decide +kernel
theorem dX7_comeIn_52 : decode cX7_comeIn 52 = .ok (.iaload, 1) := by decide +kernel
theorem dX7_comeIn_53 : decode cX7_comeIn 53 = .ok (.iload_n 2, 1) := by decide +kernel
theorem dX7_comeIn_54 : decode cX7_comeIn 54 = .ok (.iconst (-1), 1) := by decide +kernel
theorem dX7_comeIn_55 : decode cX7_comeIn 55 = .ok (.ixor, 1) := by decide +kernel
theorem dX7_comeIn_56 : decode cX7_comeIn 56 = .ok (.iand, 1) := by decide +kernel
theorem dX7_comeIn_57 : decode cX7_comeIn 57 = .ok (.ifCond .ne 24, 3) := by decide +kernel
theorem dX7_comeIn_60 : decode cX7_comeIn 60 = .ok (.aload_n 0, 1) := by decide +kernel
theorem dX7_comeIn_61 : decode cX7_comeIn 61 = .ok (.iload_n 1, 1) := by decide +kernel
theorem dX7_comeIn_62 : decode cX7_comeIn 62 = .ok (.bipush 32, 2) := by decide +kernel
theorem dX7_comeIn_64 : decode cX7_comeIn 64 = .ok (.imul, 1) := by decide +kernel
theorem dX7_comeIn_65 : decode cX7_comeIn 65 = .ok (.iload_n 2, 1) := by decide +kernel
theorem dX7_comeIn_66 : decode cX7_comeIn 66 = .ok (.aload_n 0, 1) := by decide +kernel
theorem dX7_comeIn_67 : decode cX7_comeIn 67 = .ok (.getfield 17, 3) := by decide +kernel
theorem dX7_comeIn_70 : decode cX7_comeIn 70 = .ok (.iload 4, 2) := by decide +kernel
theorem dX7_comeIn_72 : decode cX7_comeIn 72 = .ok (.iaload, 1) := by decide +kernel
theorem dX7_comeIn_73 : decode cX7_comeIn 73 = .ok (.iconst (-1), 1) := by decide +kernel
theorem dX7_comeIn_74 : decode cX7_comeIn 74 = .ok (.ixor, 1) := by decide +kernel
theorem dX7_comeIn_75 : decode cX7_comeIn 75 = .ok (.iand, 1) := by decide +kernel
theorem dX7_comeIn_76 : decode cX7_comeIn 76 = .ok (.iadd, 1) := by decide +kernel
theorem dX7_comeIn_77 : decode cX7_comeIn 77 = .ok (.iload_n 3, 1) := by decide +kernel
theorem dX7_comeIn_78 : decode cX7_comeIn 78 = .ok (.invokevirtual 86, 3) := by decide +kernel
theorem dX7_comeIn_81 : decode cX7_comeIn 81 = .ok (.iinc 4 1, 3) := by decide +kernel
theorem dX7_comeIn_84 : decode cX7_comeIn 84 = .ok (.goto (-53), 3) := by decide +kernel
theorem dX7_comeIn_87 : decode cX7_comeIn 87 = .ok (.iinc 2 (-1), 3) := by decide +kernel
theorem dX7_comeIn_90 : decode cX7_comeIn 90 = .ok (.goto (-78), 3) := by decide +kernel
theorem dX7_comeIn_93 : decode cX7_comeIn 93 = .ok (.iinc 1 1, 3) := by decide +kernel
theorem dX7_comeIn_96 : decode cX7_comeIn 96 = .ok (.goto (-94), 3) := by decide +kernel
theorem dX7_comeIn_99 : decode cX7_comeIn 99 = .ok (.return_, 1) := by decide +kernel
theorem dX7_lower_0 : decode cX7_lower 0 = .ok (.aload_n 0, 1) := by decide +kernel
theorem dX7_lower_1 : decode cX7_lower 1 = .ok (.getfield 13, 3) := by decide +kernel
theorem dX7_lower_4 : decode cX7_lower 4 = .ok (.iload_n 1, 1) := by decide +kernel
theorem dX7_lower_5 : decode cX7_lower 5 = .ok (.aload_n 0, 1) := by decide +kernel
theorem dX7_lower_6 : decode cX7_lower 6 = .ok (.getfield 13, 3) := by decide +kernel
theorem dX7_lower_9 : decode cX7_lower 9 = .ok (.iload_n 1, 1) := by decide +kernel
theorem dX7_lower_10 : decode cX7_lower 10 = .ok (.iaload, 1) := by decide +kernel
theorem dX7_lower_11 : decode cX7_lower 11 = .ok (.iload_n 2, 1) := by decide +kernel
theorem dX7_lower_12 : decode cX7_lower 12 = .ok (.invokestatic 38, 3) := by decide +kernel
theorem dX7_lower_15 : decode cX7_lower 15 = .ok (.iastore, 1) := by decide +kernel
theorem dX7_lower_16 : decode cX7_lower 16 = .ok (.return_, 1) := by decide +kernel
theorem dX7_payAll_0 : decode cX7_payAll 0 = .ok (.aload_n 0, 1) := by decide +kernel
theorem dX7_payAll_1 : decode cX7_payAll 1 = .ok (.getfield 24, 3) := by decide +kernel
theorem dX7_payAll_4 : decode cX7_payAll 4 = .ok (.iload_n 1, 1) := by decide +kernel
theorem dX7_payAll_5 : decode cX7_payAll 5 = .ok (.iconst 0, 1) := by decide +kernel
theorem dX7_payAll_6 : decode cX7_payAll 6 = .ok (.invokevirtual 48, 3) := by decide +kernel
theorem dX7_payAll_9 : decode cX7_payAll 9 = .ok (.istore_n 2, 1) := by decide +kernel
theorem dX7_payAll_10 : decode cX7_payAll 10 = .ok (.aload_n 0, 1) := by decide +kernel
theorem dX7_payAll_11 : decode cX7_payAll 11 = .ok (.getfield 24, 3) := by decide +kernel
theorem dX7_payAll_14 : decode cX7_payAll 14 = .ok (.iload_n 1, 1) := by decide +kernel
theorem dX7_payAll_15 : decode cX7_payAll 15 = .ok (.aload_n 0, 1) := by decide +kernel
theorem dX7_payAll_16 : decode cX7_payAll 16 = .ok (.getfield 44, 3) := by decide +kernel
theorem dX7_payAll_19 : decode cX7_payAll 19 = .ok (.iconst 1, 1) := by decide +kernel
theorem dX7_payAll_20 : decode cX7_payAll 20 = .ok (.isub, 1) := by decide +kernel
theorem dX7_payAll_21 : decode cX7_payAll 21 = .ok (.invokevirtual 61, 3) := by decide +kernel
theorem dX7_payAll_24 : decode cX7_payAll 24 = .ok (.istore_n 3, 1) := by decide +kernel
theorem dX7_payAll_25 : decode cX7_payAll 25 = .ok (.iconst 0, 1) := by decide +kernel
theorem dX7_payAll_26 : decode cX7_payAll 26 = .ok (.istore 4, 2) := by decide +kernel
theorem dX7_payAll_28 : decode cX7_payAll 28 = .ok (.iload 4, 2) := by decide +kernel
theorem dX7_payAll_30 : decode cX7_payAll 30 = .ok (.aload_n 0, 1) := by decide +kernel
theorem dX7_payAll_31 : decode cX7_payAll 31 = .ok (.getfield 44, 3) := by decide +kernel
theorem dX7_payAll_34 : decode cX7_payAll 34 = .ok (.if_icmp .ge 77, 3) := by decide +kernel
theorem dX7_payAll_37 : decode cX7_payAll 37 = .ok (.iconst 0, 1) := by decide +kernel
theorem dX7_payAll_38 : decode cX7_payAll 38 = .ok (.istore 5, 2) := by decide +kernel
theorem dX7_payAll_40 : decode cX7_payAll 40 = .ok (.iload 5, 2) := by decide +kernel
theorem dX7_payAll_42 : decode cX7_payAll 42 = .ok (.iload 4, 2) := by decide +kernel
theorem dX7_payAll_44 : decode cX7_payAll 44 = .ok (.if_icmp .gt 61, 3) := by decide +kernel
theorem dX7_payAll_47 : decode cX7_payAll 47 = .ok (.aload_n 0, 1) := by decide +kernel
theorem dX7_payAll_48 : decode cX7_payAll 48 = .ok (.getfield 13, 3) := by decide +kernel
theorem dX7_payAll_51 : decode cX7_payAll 51 = .ok (.iload 4, 2) := by decide +kernel
theorem dX7_payAll_53 : decode cX7_payAll 53 = .ok (.bipush 32, 2) := by decide +kernel
theorem dX7_payAll_55 : decode cX7_payAll 55 = .ok (.imul, 1) := by decide +kernel
theorem dX7_payAll_56 : decode cX7_payAll 56 = .ok (.iload 5, 2) := by decide +kernel
theorem dX7_payAll_58 : decode cX7_payAll 58 = .ok (.iadd, 1) := by decide +kernel
theorem dX7_payAll_59 : decode cX7_payAll 59 = .ok (.iaload, 1) := by decide +kernel
theorem dX7_payAll_60 : decode cX7_payAll 60 = .ok (.ldc 47, 2) := by decide +kernel
theorem dX7_payAll_62 : decode cX7_payAll 62 = .ok (.if_icmp .eq 37, 3) := by decide +kernel
theorem dX7_payAll_65 : decode cX7_payAll 65 = .ok (.aload_n 0, 1) := by decide +kernel
theorem dX7_payAll_66 : decode cX7_payAll 66 = .ok (.getfield 13, 3) := by decide +kernel
theorem dX7_payAll_69 : decode cX7_payAll 69 = .ok (.iload 4, 2) := by decide +kernel
theorem dX7_payAll_71 : decode cX7_payAll 71 = .ok (.bipush 32, 2) := by decide +kernel
theorem dX7_payAll_73 : decode cX7_payAll 73 = .ok (.imul, 1) := by decide +kernel
theorem dX7_payAll_74 : decode cX7_payAll 74 = .ok (.iload 5, 2) := by decide +kernel
theorem dX7_payAll_76 : decode cX7_payAll 76 = .ok (.iadd, 1) := by decide +kernel
theorem dX7_payAll_77 : decode cX7_payAll 77 = .ok (.dup2, 1) := by decide +kernel
theorem dX7_payAll_78 : decode cX7_payAll 78 = .ok (.iaload, 1) := by decide +kernel
theorem dX7_payAll_79 : decode cX7_payAll 79 = .ok (.aload_n 0, 1) := by decide +kernel
theorem dX7_payAll_80 : decode cX7_payAll 80 = .ok (.getfield 24, 3) := by decide +kernel
theorem dX7_payAll_83 : decode cX7_payAll 83 = .ok (.iload_n 2, 1) := by decide +kernel
theorem dX7_payAll_84 : decode cX7_payAll 84 = .ok (.iload 4, 2) := by decide +kernel
theorem dX7_payAll_86 : decode cX7_payAll 86 = .ok (.iconst (-1), 1) := by decide +kernel
theorem dX7_payAll_87 : decode cX7_payAll 87 = .ok (.ixor, 1) := by decide +kernel
theorem dX7_payAll_88 : decode cX7_payAll 88 = .ok (.iand, 1) := by decide +kernel
theorem dX7_payAll_89 : decode cX7_payAll 89 = .ok (.iload_n 3, 1) := by decide +kernel
theorem dX7_payAll_90 : decode cX7_payAll 90 = .ok (.iload 5, 2) := by decide +kernel
theorem dX7_payAll_92 : decode cX7_payAll 92 = .ok (.iand, 1) := by decide +kernel
theorem dX7_payAll_93 : decode cX7_payAll 93 = .ok (.ior, 1) := by decide +kernel
theorem dX7_payAll_94 : decode cX7_payAll 94 = .ok (.invokevirtual 90, 3) := by decide +kernel
theorem dX7_payAll_97 : decode cX7_payAll 97 = .ok (.iadd, 1) := by decide +kernel
theorem dX7_payAll_98 : decode cX7_payAll 98 = .ok (.iastore, 1) := by decide +kernel
theorem dX7_payAll_99 : decode cX7_payAll 99 = .ok (.iinc 5 1, 3) := by decide +kernel
theorem dX7_payAll_102 : decode cX7_payAll 102 = .ok (.goto (-62), 3) := by decide +kernel
theorem dX7_payAll_105 : decode cX7_payAll 105 = .ok (.iinc 4 1, 3) := by decide +kernel
theorem dX7_payAll_108 : decode cX7_payAll 108 = .ok (.goto (-80), 3) := by decide +kernel
theorem dX7_payAll_111 : decode cX7_payAll 111 = .ok (.return_, 1) := by decide +kernel
theorem dX8_init_0 : decode cX8_init 0 = .ok (.aload_n 0, 1) := by decide +kernel
theorem dX8_init_1 : decode cX8_init 1 = .ok (.invokespecial 3, 3) := by decide +kernel
theorem dX8_init_4 : decode cX8_init 4 = .ok (.aload_n 0, 1) := by decide +kernel
theorem dX8_init_5 : decode cX8_init 5 = .ok (.bipush 12, 2) := by decide +kernel
theorem dX8_init_7 : decode cX8_init 7 = .ok (.newarray .int, 2) := by decide +kernel
theorem dX8_init_9 : decode cX8_init 9 = .ok (.putfield 9, 3) := by decide +kernel
theorem dX8_init_12 : decode cX8_init 12 = .ok (.aload_n 0, 1) := by decide +kernel
theorem dX8_init_13 : decode cX8_init 13 = .ok (.bipush 12, 2) := by decide +kernel
theorem dX8_init_15 : decode cX8_init 15 = .ok (.newarray .int, 2) := by decide +kernel
theorem dX8_init_17 : decode cX8_init 17 = .ok (.putfield 15, 3) := by decide +kernel
theorem dX8_init_20 : decode cX8_init 20 = .ok (.aload_n 0, 1) := by decide +kernel
theorem dX8_init_21 : decode cX8_init 21 = .ok (.bipush 12, 2) := by decide +kernel
theorem dX8_init_23 : decode cX8_init 23 = .ok (.newarray .int, 2) := by decide +kernel
theorem dX8_init_25 : decode cX8_init 25 = .ok (.putfield 18, 3) := by decide +kernel
theorem dX8_init_28 : decode cX8_init 28 = .ok (.return_, 1) := by decide +kernel
theorem dX8_fits_0 : decode cX8_fits 0 = .ok (.iload_n 0, 1) := by decide +kernel
theorem dX8_fits_1 : decode cX8_fits 1 = .ok (.invokestatic 21, 3) := by decide +kernel
theorem dX8_fits_4 : decode cX8_fits 4 = .ok (.ifCond .eq 29, 3) := by decide +kernel
theorem dX8_fits_7 : decode cX8_fits 7 = .ok (.iload_n 1, 1) := by decide +kernel
theorem dX8_fits_8 : decode cX8_fits 8 = .ok (.iload_n 0, 1) := by decide +kernel
theorem dX8_fits_9 : decode cX8_fits 9 = .ok (.if_icmp .le 24, 3) := by decide +kernel
theorem dX8_fits_12 : decode cX8_fits 12 = .ok (.iload_n 1, 1) := by decide +kernel
theorem dX8_fits_13 : decode cX8_fits 13 = .ok (.bipush 60, 2) := by decide +kernel
theorem dX8_fits_15 : decode cX8_fits 15 = .ok (.if_icmp .gt 18, 3) := by decide +kernel
theorem dX8_fits_18 : decode cX8_fits 18 = .ok (.iload_n 2, 1) := by decide +kernel
theorem dX8_fits_19 : decode cX8_fits 19 = .ok (.iconst 1, 1) := by decide +kernel
theorem dX8_fits_20 : decode cX8_fits 20 = .ok (.if_icmp .lt 13, 3) := by decide +kernel
theorem dX8_fits_23 : decode cX8_fits 23 = .ok (.iload_n 2, 1) := by decide +kernel
theorem dX8_fits_24 : decode cX8_fits 24 = .ok (.bipush 9, 2) := by decide +kernel
theorem dX8_fits_26 : decode cX8_fits 26 = .ok (.if_icmp .gt 7, 3) := by decide +kernel
theorem dX8_fits_29 : decode cX8_fits 29 = .ok (.iconst 1, 1) := by decide +kernel
theorem dX8_fits_30 : decode cX8_fits 30 = .ok (.goto 4, 3) := by decide +kernel
theorem dX8_fits_33 : decode cX8_fits 33 = .ok (.iconst 0, 1) := by decide +kernel
theorem dX8_fits_34 : decode cX8_fits 34 = .ok (.ireturn, 1) := by decide +kernel
theorem dX8_add_0 : decode cX8_add 0 = .ok (.aload_n 0, 1) := by decide +kernel
theorem dX8_add_1 : decode cX8_add 1 = .ok (.getfield 25, 3) := by decide +kernel
theorem dX8_add_4 : decode cX8_add 4 = .ok (.bipush 12, 2) := by decide +kernel
theorem dX8_add_6 : decode cX8_add 6 = .ok (.if_icmp .lt 6, 3) := by decide +kernel
theorem dX8_add_9 : decode cX8_add 9 = .ok (.bipush (-3), 2) := by decide +kernel
theorem dX8_add_11 : decode cX8_add 11 = .ok (.ireturn, 1) := by decide +kernel
theorem dX8_add_12 : decode cX8_add 12 = .ok (.aload_n 0, 1) := by decide +kernel
theorem dX8_add_13 : decode cX8_add 13 = .ok (.getfield 9, 3) := by decide +kernel
theorem dX8_add_16 : decode cX8_add 16 = .ok (.aload_n 0, 1) := by decide +kernel
theorem dX8_add_17 : decode cX8_add 17 = .ok (.getfield 25, 3) := by decide +kernel
theorem dX8_add_20 : decode cX8_add 20 = .ok (.iload_n 1, 1) := by decide +kernel
theorem dX8_add_21 : decode cX8_add 21 = .ok (.iastore, 1) := by decide +kernel
theorem dX8_add_22 : decode cX8_add 22 = .ok (.aload_n 0, 1) := by decide +kernel
theorem dX8_add_23 : decode cX8_add 23 = .ok (.getfield 15, 3) := by decide +kernel
theorem dX8_add_26 : decode cX8_add 26 = .ok (.aload_n 0, 1) := by decide +kernel
theorem dX8_add_27 : decode cX8_add 27 = .ok (.getfield 25, 3) := by decide +kernel
theorem dX8_add_30 : decode cX8_add 30 = .ok (.iload_n 2, 1) := by decide +kernel
theorem dX8_add_31 : decode cX8_add 31 = .ok (.iastore, 1) := by decide +kernel
theorem dX8_add_32 : decode cX8_add 32 = .ok (.aload_n 0, 1) := by decide +kernel
theorem dX8_add_33 : decode cX8_add 33 = .ok (.getfield 18, 3) := by decide +kernel
theorem dX8_add_36 : decode cX8_add 36 = .ok (.aload_n 0, 1) := by decide +kernel
theorem dX8_add_37 : decode cX8_add 37 = .ok (.getfield 25, 3) := by decide +kernel
theorem dX8_add_40 : decode cX8_add 40 = .ok (.iload_n 3, 1) := by decide +kernel
theorem dX8_add_41 : decode cX8_add 41 = .ok (.iastore, 1) := by decide +kernel
theorem dX8_add_42 : decode cX8_add 42 = .ok (.aload_n 0, 1) := by decide +kernel
theorem dX8_add_43 : decode cX8_add 43 = .ok (.dup, 1) := by decide +kernel
theorem dX8_add_44 : decode cX8_add 44 = .ok (.getfield 25, 3) := by decide +kernel
theorem dX8_add_47 : decode cX8_add 47 = .ok (.iconst 1, 1) := by decide +kernel
theorem dX8_add_48 : decode cX8_add 48 = .ok (.iadd, 1) := by decide +kernel
theorem dX8_add_49 : decode cX8_add 49 = .ok (.putfield 25, 3) := by decide +kernel
theorem dX8_add_52 : decode cX8_add 52 = .ok (.aload_n 0, 1) := by decide +kernel
theorem dX8_add_53 : decode cX8_add 53 = .ok (.getfield 25, 3) := by decide +kernel
theorem dX8_add_56 : decode cX8_add 56 = .ok (.iconst 1, 1) := by decide +kernel
theorem dX8_add_57 : decode cX8_add 57 = .ok (.isub, 1) := by decide +kernel
theorem dX8_add_58 : decode cX8_add 58 = .ok (.ireturn, 1) := by decide +kernel
theorem dX8_has_0 : decode cX8_has 0 = .ok (.iload_n 1, 1) := by decide +kernel
theorem dX8_has_1 : decode cX8_has 1 = .ok (.ifCond .lt 15, 3) := by decide +kernel
theorem dX8_has_4 : decode cX8_has 4 = .ok (.iload_n 1, 1) := by decide +kernel
theorem dX8_has_5 : decode cX8_has 5 = .ok (.aload_n 0, 1) := by decide +kernel
theorem dX8_has_6 : decode cX8_has 6 = .ok (.getfield 25, 3) := by decide +kernel
theorem dX8_has_9 : decode cX8_has 9 = .ok (.if_icmp .ge 7, 3) := by decide +kernel
theorem dX8_has_12 : decode cX8_has 12 = .ok (.iconst 1, 1) := by decide +kernel
theorem dX8_has_13 : decode cX8_has 13 = .ok (.goto 4, 3) := by decide +kernel
theorem dX8_has_16 : decode cX8_has 16 = .ok (.iconst 0, 1) := by decide +kernel
theorem dX8_has_17 : decode cX8_has 17 = .ok (.ireturn, 1) := by decide +kernel
theorem dX8_dueBy_0 : decode cX8_dueBy 0 = .ok (.iconst 0, 1) := by decide +kernel
theorem dX8_dueBy_1 : decode cX8_dueBy 1 = .ok (.istore_n 3, 1) := by decide +kernel
theorem dX8_dueBy_2 : decode cX8_dueBy 2 = .ok (.iconst 0, 1) := by decide +kernel
theorem dX8_dueBy_3 : decode cX8_dueBy 3 = .ok (.istore 4, 2) := by decide +kernel
theorem dX8_dueBy_5 : decode cX8_dueBy 5 = .ok (.iload 4, 2) := by decide +kernel
theorem dX8_dueBy_7 : decode cX8_dueBy 7 = .ok (.aload_n 0, 1) := by decide +kernel
theorem dX8_dueBy_8 : decode cX8_dueBy 8 = .ok (.getfield 25, 3) := by decide +kernel
theorem dX8_dueBy_11 : decode cX8_dueBy 11 = .ok (.if_icmp .ge 24, 3) := by decide +kernel
theorem dX8_dueBy_14 : decode cX8_dueBy 14 = .ok (.aload_n 1, 1) := by decide +kernel
theorem dX8_dueBy_15 : decode cX8_dueBy 15 = .ok (.iload 4, 2) := by decide +kernel
theorem dX8_dueBy_17 : decode cX8_dueBy 17 = .ok (.iaload, 1) := by decide +kernel
theorem dX8_dueBy_18 : decode cX8_dueBy 18 = .ok (.iload_n 2, 1) := by decide +kernel
theorem dX8_dueBy_19 : decode cX8_dueBy 19 = .ok (.if_icmp .gt 10, 3) := by decide +kernel
theorem dX8_dueBy_22 : decode cX8_dueBy 22 = .ok (.iload_n 3, 1) := by decide +kernel
theorem dX8_dueBy_23 : decode cX8_dueBy 23 = .ok (.iconst 1, 1) := by decide +kernel
theorem dX8_dueBy_24 : decode cX8_dueBy 24 = .ok (.iload 4, 2) := by decide +kernel
theorem dX8_dueBy_26 : decode cX8_dueBy 26 = .ok (.ishl, 1) := by decide +kernel
theorem dX8_dueBy_27 : decode cX8_dueBy 27 = .ok (.ior, 1) := by decide +kernel
theorem dX8_dueBy_28 : decode cX8_dueBy 28 = .ok (.istore_n 3, 1) := by decide +kernel
theorem dX8_dueBy_29 : decode cX8_dueBy 29 = .ok (.iinc 4 1, 3) := by decide +kernel
theorem dX8_dueBy_32 : decode cX8_dueBy 32 = .ok (.goto (-27), 3) := by decide +kernel
theorem dX8_dueBy_35 : decode cX8_dueBy 35 = .ok (.iload_n 3, 1) := by decide +kernel
theorem dX8_dueBy_36 : decode cX8_dueBy 36 = .ok (.ireturn, 1) := by decide +kernel
theorem dX8_waitingOut_0 : decode cX8_waitingOut 0 = .ok (.aload_n 0, 1) := by decide +kernel
theorem dX8_waitingOut_1 : decode cX8_waitingOut 1 = .ok (.aload_n 0, 1) := by decide +kernel
theorem dX8_waitingOut_2 : decode cX8_waitingOut 2 = .ok (.getfield 9, 3) := by decide +kernel
theorem dX8_waitingOut_5 : decode cX8_waitingOut 5 = .ok (.iload_n 1, 1) := by decide +kernel
theorem dX8_waitingOut_6 : decode cX8_waitingOut 6 = .ok (.invokevirtual 29, 3) := by decide +kernel
theorem dX8_waitingOut_9 : decode cX8_waitingOut 9 = .ok (.iload_n 2, 1) := by decide +kernel
theorem dX8_waitingOut_10 : decode cX8_waitingOut 10 = .ok (.iconst (-1), 1) := by decide +kernel
theorem dX8_waitingOut_11 : decode cX8_waitingOut 11 = .ok (.ixor, 1) := by decide +kernel
theorem dX8_waitingOut_12 : decode cX8_waitingOut 12 = .ok (.iand, 1) := by decide +kernel
theorem dX8_waitingOut_13 : decode cX8_waitingOut 13 = .ok (.ireturn, 1) := by decide +kernel
theorem dX8_waitingIn_0 : decode cX8_waitingIn 0 = .ok (.iload_n 2, 1) := by decide +kernel
theorem dX8_waitingIn_1 : decode cX8_waitingIn 1 = .ok (.ifCond .ne 7, 3) := by decide +kernel
theorem dX8_waitingIn_4 : decode cX8_waitingIn 4 = .ok (.iconst 0, 1) := by decide +kernel
theorem dX8_waitingIn_5 : decode cX8_waitingIn 5 = .ok (.goto 14, 3) := by decide +kernel
theorem dX8_waitingIn_8 : decode cX8_waitingIn 8 = .ok (.aload_n 0, 1) := by decide +kernel
theorem dX8_waitingIn_9 : decode cX8_waitingIn 9 = .ok (.aload_n 0, 1) := by decide +kernel
theorem dX8_waitingIn_10 : decode cX8_waitingIn 10 = .ok (.getfield 15, 3) := by decide +kernel
theorem dX8_waitingIn_13 : decode cX8_waitingIn 13 = .ok (.iload_n 1, 1) := by decide +kernel
theorem dX8_waitingIn_14 : decode cX8_waitingIn 14 = .ok (.invokevirtual 29, 3) := by decide +kernel
theorem dX8_waitingIn_17 : decode cX8_waitingIn 17 = .ok (.iload_n 2, 1) := by decide +kernel
theorem dX8_waitingIn_18 : decode cX8_waitingIn 18 = .ok (.iand, 1) := by decide +kernel
theorem dX8_waitingIn_19 : decode cX8_waitingIn 19 = .ok (.ireturn, 1) := by decide +kernel
theorem dX8_costOf_0 : decode cX8_costOf 0 = .ok (.iconst 0, 1) := by decide +kernel
theorem dX8_costOf_1 : decode cX8_costOf 1 = .ok (.istore_n 2, 1) := by decide +kernel
theorem dX8_costOf_2 : decode cX8_costOf 2 = .ok (.iconst 0, 1) := by decide +kernel
theorem dX8_costOf_3 : decode cX8_costOf 3 = .ok (.istore_n 3, 1) := by decide +kernel
theorem dX8_costOf_4 : decode cX8_costOf 4 = .ok (.iload_n 3, 1) := by decide +kernel
theorem dX8_costOf_5 : decode cX8_costOf 5 = .ok (.aload_n 0, 1) := by decide +kernel
theorem dX8_costOf_6 : decode cX8_costOf 6 = .ok (.getfield 25, 3) := by decide +kernel
theorem dX8_costOf_9 : decode cX8_costOf 9 = .ok (.if_icmp .ge 26, 3) := by decide +kernel
theorem dX8_costOf_12 : decode cX8_costOf 12 = .ok (.iload_n 1, 1) := by decide +kernel
theorem dX8_costOf_13 : decode cX8_costOf 13 = .ok (.iload_n 3, 1) := by decide +kernel
theorem dX8_costOf_14 : decode cX8_costOf 14 = .ok (.invokestatic 33, 3) := by decide +kernel
theorem dX8_costOf_17 : decode cX8_costOf 17 = .ok (.ifCond .eq 12, 3) := by decide +kernel
theorem dX8_costOf_20 : decode cX8_costOf 20 = .ok (.iload_n 2, 1) := by decide +kernel
theorem dX8_costOf_21 : decode cX8_costOf 21 = .ok (.aload_n 0, 1) := by decide +kernel
theorem dX8_costOf_22 : decode cX8_costOf 22 = .ok (.getfield 18, 3) := by decide +kernel
theorem dX8_costOf_25 : decode cX8_costOf 25 = .ok (.iload_n 3, 1) := by decide +kernel
theorem dX8_costOf_26 : decode cX8_costOf 26 = .ok (.iaload, 1) := by decide +kernel
theorem dX8_costOf_27 : decode cX8_costOf 27 = .ok (.iadd, 1) := by decide +kernel
theorem dX8_costOf_28 : decode cX8_costOf 28 = .ok (.istore_n 2, 1) := by decide +kernel
theorem dX8_costOf_29 : decode cX8_costOf 29 = .ok (.iinc 3 1, 3) := by decide +kernel
theorem dX8_costOf_32 : decode cX8_costOf 32 = .ok (.goto (-28), 3) := by decide +kernel
theorem dX8_costOf_35 : decode cX8_costOf 35 = .ok (.iload_n 2, 1) := by decide +kernel
theorem dX8_costOf_36 : decode cX8_costOf 36 = .ok (.ireturn, 1) := by decide +kernel
theorem dX9_init_0 : decode cX9_init 0 = .ok (.aload_n 0, 1) := by decide +kernel
theorem dX9_init_1 : decode cX9_init 1 = .ok (.invokespecial 1, 3) := by decide +kernel
theorem dX9_init_4 : decode cX9_init 4 = .ok (.aload_n 0, 1) := by decide +kernel
theorem dX9_init_5 : decode cX9_init 5 = .ok (.new 7, 3) := by decide +kernel
theorem dX9_init_8 : decode cX9_init 8 = .ok (.dup, 1) := by decide +kernel
theorem dX9_init_9 : decode cX9_init 9 = .ok (.invokespecial 9, 3) := by decide +kernel
theorem dX9_init_12 : decode cX9_init 12 = .ok (.putfield 10, 3) := by decide +kernel
theorem dX9_init_15 : decode cX9_init 15 = .ok (.aload_n 0, 1) := by decide +kernel
theorem dX9_init_16 : decode cX9_init 16 = .ok (.aload_n 1, 1) := by decide +kernel
theorem dX9_init_17 : decode cX9_init 17 = .ok (.putfield 16, 3) := by decide +kernel
theorem dX9_init_20 : decode cX9_init 20 = .ok (.return_, 1) := by decide +kernel
theorem dX9_read_0 : decode cX9_read 0 = .ok (.aload_n 0, 1) := by decide +kernel
theorem dX9_read_1 : decode cX9_read 1 = .ok (.iload_n 1, 1) := by decide +kernel
theorem dX9_read_2 : decode cX9_read 2 = .ok (.putfield 20, 3) := by decide +kernel
theorem dX9_read_5 : decode cX9_read 5 = .ok (.aload_n 0, 1) := by decide +kernel
theorem dX9_read_6 : decode cX9_read 6 = .ok (.iconst 0, 1) := by decide +kernel
theorem dX9_read_7 : decode cX9_read 7 = .ok (.putfield 24, 3) := by decide +kernel
theorem dX9_read_10 : decode cX9_read 10 = .ok (.aload_n 0, 1) := by decide +kernel
theorem dX9_read_11 : decode cX9_read 11 = .ok (.iconst 1, 1) := by decide +kernel
theorem dX9_read_12 : decode cX9_read 12 = .ok (.putfield 27, 3) := by decide +kernel
theorem dX9_read_15 : decode cX9_read 15 = .ok (.aload_n 0, 1) := by decide +kernel
theorem dX9_read_16 : decode cX9_read 16 = .ok (.getfield 10, 3) := by decide +kernel
theorem dX9_read_19 : decode cX9_read 19 = .ok (.invokevirtual 31, 3) := by decide +kernel
theorem dX9_read_22 : decode cX9_read 22 = .ok (.aload_n 0, 1) := by decide +kernel
theorem dX9_read_23 : decode cX9_read 23 = .ok (.invokevirtual 34, 3) := by decide +kernel
theorem dX9_read_26 : decode cX9_read 26 = .ok (.iconst 1, 1) := by decide +kernel
theorem dX9_read_27 : decode cX9_read 27 = .ok (.istore_n 2, 1) := by decide +kernel
theorem dX9_read_28 : decode cX9_read 28 = .ok (.iload_n 2, 1) := by decide +kernel
theorem dX9_read_29 : decode cX9_read 29 = .ok (.aload_n 0, 1) := by decide +kernel
theorem dX9_read_30 : decode cX9_read 30 = .ok (.getfield 20, 3) := by decide +kernel
theorem dX9_read_33 : decode cX9_read 33 = .ok (.if_icmp .ge 39, 3) := by decide +kernel
theorem dX9_read_36 : decode cX9_read 36 = .ok (.aload_n 0, 1) := by decide +kernel
theorem dX9_read_37 : decode cX9_read 37 = .ok (.getfield 27, 3) := by decide +kernel
theorem dX9_read_40 : decode cX9_read 40 = .ok (.ifCond .eq 32, 3) := by decide +kernel
theorem dX9_read_43 : decode cX9_read 43 = .ok (.aload_n 0, 1) := by decide +kernel
theorem dX9_read_44 : decode cX9_read 44 = .ok (.invokevirtual 37, 3) := by decide +kernel
theorem dX9_read_47 : decode cX9_read 47 = .ok (.bipush 59, 2) := by decide +kernel
theorem dX9_read_49 : decode cX9_read 49 = .ok (.if_icmp .ne 23, 3) := by decide +kernel
theorem dX9_read_52 : decode cX9_read 52 = .ok (.aload_n 0, 1) := by decide +kernel
theorem dX9_read_53 : decode cX9_read 53 = .ok (.dup, 1) := by decide +kernel
theorem dX9_read_54 : decode cX9_read 54 = .ok (.getfield 24, 3) := by decide +kernel
theorem dX9_read_57 : decode cX9_read 57 = .ok (.iconst 1, 1) := by decide +kernel
theorem dX9_read_58 : decode cX9_read 58 = .ok (.iadd, 1) := by decide +kernel
theorem dX9_read_59 : decode cX9_read 59 = .ok (.putfield 24, 3) := by decide +kernel
theorem dX9_read_62 : decode cX9_read 62 = .ok (.aload_n 0, 1) := by decide +kernel
theorem dX9_read_63 : decode cX9_read 63 = .ok (.invokevirtual 34, 3) := by decide +kernel
theorem dX9_read_66 : decode cX9_read 66 = .ok (.iinc 2 1, 3) := by decide +kernel
theorem dX9_read_69 : decode cX9_read 69 = .ok (.goto (-41), 3) := by decide +kernel
theorem dX9_read_72 : decode cX9_read 72 = .ok (.aload_n 0, 1) := by decide +kernel
theorem dX9_read_73 : decode cX9_read 73 = .ok (.getfield 27, 3) := by decide +kernel
theorem dX9_read_76 : decode cX9_read 76 = .ok (.ifCond .eq 18, 3) := by decide +kernel
theorem dX9_read_79 : decode cX9_read 79 = .ok (.aload_n 0, 1) := by decide +kernel
theorem dX9_read_80 : decode cX9_read 80 = .ok (.getfield 24, 3) := by decide +kernel
theorem dX9_read_83 : decode cX9_read 83 = .ok (.aload_n 0, 1) := by decide +kernel
theorem dX9_read_84 : decode cX9_read 84 = .ok (.getfield 20, 3) := by decide +kernel
theorem dX9_read_87 : decode cX9_read 87 = .ok (.if_icmp .lt 7, 3) := by decide +kernel
theorem dX9_read_90 : decode cX9_read 90 = .ok (.iconst (-1), 1) := by decide +kernel
theorem dX9_read_91 : decode cX9_read 91 = .ok (.goto 7, 3) := by decide +kernel
theorem dX9_read_94 : decode cX9_read 94 = .ok (.aload_n 0, 1) := by decide +kernel
theorem dX9_read_95 : decode cX9_read 95 = .ok (.getfield 24, 3) := by decide +kernel
theorem dX9_read_98 : decode cX9_read 98 = .ok (.ireturn, 1) := by decide +kernel
theorem dX9_sign_0 : decode cX9_sign 0 = .ok (.aload_n 0, 1) := by decide +kernel
theorem dX9_sign_1 : decode cX9_sign 1 = .ok (.getfield 24, 3) := by decide +kernel
theorem dX9_sign_4 : decode cX9_sign 4 = .ok (.aload_n 0, 1) := by decide +kernel
theorem dX9_sign_5 : decode cX9_sign 5 = .ok (.getfield 20, 3) := by decide +kernel
theorem dX9_sign_8 : decode cX9_sign 8 = .ok (.if_icmp .ge 27, 3) := by decide +kernel
theorem dX9_sign_11 : decode cX9_sign 11 = .ok (.aload_n 0, 1) := by decide +kernel
theorem dX9_sign_12 : decode cX9_sign 12 = .ok (.getfield 24, 3) := by decide +kernel
theorem dX9_sign_15 : decode cX9_sign 15 = .ok (.aload_n 0, 1) := by decide +kernel
theorem dX9_sign_16 : decode cX9_sign 16 = .ok (.getfield 16, 3) := by decide +kernel
theorem dX9_sign_19 : decode cX9_sign 19 = .ok (.arraylength, 1) := by decide +kernel
theorem dX9_sign_20 : decode cX9_sign 20 = .ok (.if_icmp .ge 15, 3) := by decide +kernel
theorem dX9_sign_23 : decode cX9_sign 23 = .ok (.aload_n 0, 1) := by decide +kernel
theorem dX9_sign_24 : decode cX9_sign 24 = .ok (.getfield 16, 3) := by decide +kernel
theorem dX9_sign_27 : decode cX9_sign 27 = .ok (.aload_n 0, 1) := by decide +kernel
theorem dX9_sign_28 : decode cX9_sign 28 = .ok (.getfield 24, 3) := by decide +kernel
theorem dX9_sign_31 : decode cX9_sign 31 = .ok (.iaload, 1) := by decide +kernel
theorem dX9_sign_32 : decode cX9_sign 32 = .ok (.goto 4, 3) := by decide +kernel
theorem dX9_sign_35 : decode cX9_sign 35 = .ok (.iconst (-1), 1) := by decide +kernel
theorem dX9_sign_36 : decode cX9_sign 36 = .ok (.ireturn, 1) := by decide +kernel
theorem dX9_line_0 : decode cX9_line 0 = .ok (.aload_n 0, 1) := by decide +kernel
theorem dX9_line_1 : decode cX9_line 1 = .ok (.iconst 0, 1) := by decide +kernel
theorem dX9_line_2 : decode cX9_line 2 = .ok (.iconst 0, 1) := by decide +kernel
theorem dX9_line_3 : decode cX9_line 3 = .ok (.invokevirtual 41, 3) := by decide +kernel
theorem dX9_line_6 : decode cX9_line 6 = .ok (.aload_n 0, 1) := by decide +kernel
theorem dX9_line_7 : decode cX9_line 7 = .ok (.getfield 27, 3) := by decide +kernel
theorem dX9_line_10 : decode cX9_line 10 = .ok (.ifCond .eq 38, 3) := by decide +kernel
theorem dX9_line_13 : decode cX9_line 13 = .ok (.aload_n 0, 1) := by decide +kernel
theorem dX9_line_14 : decode cX9_line 14 = .ok (.invokevirtual 37, 3) := by decide +kernel
theorem dX9_line_17 : decode cX9_line 17 = .ok (.bipush 63, 2) := by decide +kernel
theorem dX9_line_19 : decode cX9_line 19 = .ok (.if_icmp .ne 29, 3) := by decide +kernel
theorem dX9_line_22 : decode cX9_line 22 = .ok (.aload_n 0, 1) := by decide +kernel
theorem dX9_line_23 : decode cX9_line 23 = .ok (.dup, 1) := by decide +kernel
theorem dX9_line_24 : decode cX9_line 24 = .ok (.getfield 24, 3) := by decide +kernel
theorem dX9_line_27 : decode cX9_line 27 = .ok (.iconst 1, 1) := by decide +kernel
theorem dX9_line_28 : decode cX9_line 28 = .ok (.iadd, 1) := by decide +kernel
theorem dX9_line_29 : decode cX9_line 29 = .ok (.putfield 24, 3) := by decide +kernel
theorem dX9_line_32 : decode cX9_line 32 = .ok (.aload_n 0, 1) := by decide +kernel
theorem dX9_line_33 : decode cX9_line 33 = .ok (.getfield 10, 3) := by decide +kernel
theorem dX9_line_36 : decode cX9_line 36 = .ok (.bipush 63, 2) := by decide +kernel
theorem dX9_line_38 : decode cX9_line 38 = .ok (.iconst 0, 1) := by decide +kernel
theorem dX9_line_39 : decode cX9_line 39 = .ok (.invokevirtual 45, 3) := by decide +kernel
theorem dX9_line_42 : decode cX9_line 42 = .ok (.aload_n 0, 1) := by decide +kernel
theorem dX9_line_43 : decode cX9_line 43 = .ok (.iconst 0, 1) := by decide +kernel
theorem dX9_line_44 : decode cX9_line 44 = .ok (.iconst 0, 1) := by decide +kernel
theorem dX9_line_45 : decode cX9_line 45 = .ok (.invokevirtual 41, 3) := by decide +kernel
theorem dX9_line_48 : decode cX9_line 48 = .ok (.aload_n 0, 1) := by decide +kernel
theorem dX9_line_49 : decode cX9_line 49 = .ok (.getfield 10, 3) := by decide +kernel
theorem dX9_line_52 : decode cX9_line 52 = .ok (.bipush 59, 2) := by decide +kernel
theorem dX9_line_54 : decode cX9_line 54 = .ok (.iconst 0, 1) := by decide +kernel
theorem dX9_line_55 : decode cX9_line 55 = .ok (.invokevirtual 45, 3) := by decide +kernel
theorem dX9_line_58 : decode cX9_line 58 = .ok (.return_, 1) := by decide +kernel
theorem dX9_chain_0 : decode cX9_chain 0 = .ok (.iload_n 1, 1) := by decide +kernel
theorem dX9_chain_1 : decode cX9_chain 1 = .ok (.iconst 5, 1) := by decide +kernel
theorem dX9_chain_2 : decode cX9_chain 2 = .ok (.if_icmp .lt 9, 3) := by decide +kernel
theorem dX9_chain_5 : decode cX9_chain 5 = .ok (.aload_n 0, 1) := by decide +kernel
theorem dX9_chain_6 : decode cX9_chain 6 = .ok (.iload_n 2, 1) := by decide +kernel
theorem dX9_chain_7 : decode cX9_chain 7 = .ok (.invokevirtual 48, 3) := by decide +kernel
theorem dX9_chain_10 : decode cX9_chain 10 = .ok (.return_, 1) := by decide +kernel
theorem dX9_chain_11 : decode cX9_chain 11 = .ok (.aload_n 0, 1) := by decide +kernel
theorem dX9_chain_12 : decode cX9_chain 12 = .ok (.iload_n 1, 1) := by decide +kernel
theorem dX9_chain_13 : decode cX9_chain 13 = .ok (.iconst 1, 1) := by decide +kernel
theorem dX9_chain_14 : decode cX9_chain 14 = .ok (.iadd, 1) := by decide +kernel
theorem dX9_chain_15 : decode cX9_chain 15 = .ok (.iload_n 2, 1) := by decide +kernel
theorem dX9_chain_16 : decode cX9_chain 16 = .ok (.invokevirtual 41, 3) := by decide +kernel
theorem dX9_chain_19 : decode cX9_chain 19 = .ok (.iconst 0, 1) := by decide +kernel
theorem dX9_chain_20 : decode cX9_chain 20 = .ok (.istore_n 3, 1) := by decide +kernel
theorem dX9_chain_21 : decode cX9_chain 21 = .ok (.iload_n 3, 1) := by decide +kernel
theorem dX9_chain_22 : decode cX9_chain 22 = .ok (.aload_n 0, 1) := by decide +kernel
theorem dX9_chain_23 : decode cX9_chain 23 = .ok (.getfield 20, 3) := by decide +kernel
theorem dX9_chain_26 : decode cX9_chain 26 = .ok (.if_icmp .ge 67, 3) := by decide +kernel
theorem dX9_chain_29 : decode cX9_chain 29 = .ok (.aload_n 0, 1) := by decide +kernel
theorem dX9_chain_30 : decode cX9_chain 30 = .ok (.getfield 27, 3) := by decide +kernel
theorem dX9_chain_33 : decode cX9_chain 33 = .ok (.ifCond .eq 60, 3) := by decide +kernel
theorem dX9_chain_36 : decode cX9_chain 36 = .ok (.aload_n 0, 1) := by decide +kernel
theorem dX9_chain_37 : decode cX9_chain 37 = .ok (.invokevirtual 37, 3) := by decide +kernel
theorem dX9_chain_40 : decode cX9_chain 40 = .ok (.invokestatic 52, 3) := by decide +kernel
theorem dX9_chain_43 : decode cX9_chain 43 = .ok (.iload_n 1, 1) := by decide +kernel
theorem dX9_chain_44 : decode cX9_chain 44 = .ok (.if_icmp .ne 49, 3) := by decide +kernel
theorem dX9_chain_47 : decode cX9_chain 47 = .ok (.aload_n 0, 1) := by decide +kernel
theorem dX9_chain_48 : decode cX9_chain 48 = .ok (.invokevirtual 37, 3) := by decide +kernel
theorem dX9_chain_51 : decode cX9_chain 51 = .ok (.istore 4, 2) := by decide +kernel
theorem dX9_chain_53 : decode cX9_chain 53 = .ok (.aload_n 0, 1) := by decide +kernel
theorem dX9_chain_54 : decode cX9_chain 54 = .ok (.dup, 1) := by decide +kernel
theorem dX9_chain_55 : decode cX9_chain 55 = .ok (.getfield 24, 3) := by decide +kernel
theorem dX9_chain_58 : decode cX9_chain 58 = .ok (.iconst 1, 1) := by decide +kernel
theorem dX9_chain_59 : decode cX9_chain 59 = .ok (.iadd, 1) := by decide +kernel
theorem dX9_chain_60 : decode cX9_chain 60 = .ok (.putfield 24, 3) := by decide +kernel
theorem dX9_chain_63 : decode cX9_chain 63 = .ok (.aload_n 0, 1) := by decide +kernel
theorem dX9_chain_64 : decode cX9_chain 64 = .ok (.iload_n 1, 1) := by decide +kernel
theorem dX9_chain_65 : decode cX9_chain 65 = .ok (.iconst 1, 1) := by decide +kernel
theorem dX9_chain_66 : decode cX9_chain 66 = .ok (.iadd, 1) := by decide +kernel
theorem dX9_chain_67 : decode cX9_chain 67 = .ok (.iload_n 2, 1) := by decide +kernel
theorem dX9_chain_68 : decode cX9_chain 68 = .ok (.invokevirtual 41, 3) := by decide +kernel
theorem dX9_chain_71 : decode cX9_chain 71 = .ok (.aload_n 0, 1) := by decide +kernel
theorem dX9_chain_72 : decode cX9_chain 72 = .ok (.getfield 10, 3) := by decide +kernel
theorem dX9_chain_75 : decode cX9_chain 75 = .ok (.iload 4, 2) := by decide +kernel
theorem dX9_chain_77 : decode cX9_chain 77 = .ok (.iconst 0, 1) := by decide +kernel
theorem dX9_chain_78 : decode cX9_chain 78 = .ok (.invokevirtual 45, 3) := by decide +kernel
theorem dX9_chain_81 : decode cX9_chain 81 = .ok (.iload_n 1, 1) := by decide +kernel
theorem dX9_chain_82 : decode cX9_chain 82 = .ok (.iconst 2, 1) := by decide +kernel
theorem dX9_chain_83 : decode cX9_chain 83 = .ok (.if_icmp .ne 4, 3) := by decide +kernel
theorem dX9_chain_86 : decode cX9_chain 86 = .ok (.return_, 1) := by decide +kernel
theorem dX9_chain_87 : decode cX9_chain 87 = .ok (.iinc 3 1, 3) := by decide +kernel
theorem dX9_chain_90 : decode cX9_chain 90 = .ok (.goto (-69), 3) := by decide +kernel
theorem dX9_chain_93 : decode cX9_chain 93 = .ok (.return_, 1) := by decide +kernel
theorem dX9_levelOf_0 : decode cX9_levelOf 0 = .ok (.iload_n 0, 1) := by decide +kernel
theorem dX9_levelOf_1 : decode cX9_levelOf 1 = .ok (.lookupswitch 101 #[(37, 99), (38, 93), (42, 99), (43, 97), (45, 97), (47, 99), (60, 95), (61, 95), (62, 95), (124, 91)], 91) := by decide +kernel
theorem dX9_levelOf_92 : decode cX9_levelOf 92 = .ok (.iconst 0, 1) := by decide +kernel
theorem dX9_levelOf_93 : decode cX9_levelOf 93 = .ok (.ireturn, 1) := by decide +kernel
theorem dX9_levelOf_94 : decode cX9_levelOf 94 = .ok (.iconst 1, 1) := by decide +kernel
theorem dX9_levelOf_95 : decode cX9_levelOf 95 = .ok (.ireturn, 1) := by decide +kernel
theorem dX9_levelOf_96 : decode cX9_levelOf 96 = .ok (.iconst 2, 1) := by decide +kernel
theorem dX9_levelOf_97 : decode cX9_levelOf 97 = .ok (.ireturn, 1) := by decide +kernel
theorem dX9_levelOf_98 : decode cX9_levelOf 98 = .ok (.iconst 3, 1) := by decide +kernel
theorem dX9_levelOf_99 : decode cX9_levelOf 99 = .ok (.ireturn, 1) := by decide +kernel
theorem dX9_levelOf_100 : decode cX9_levelOf 100 = .ok (.iconst 4, 1) := by decide +kernel
theorem dX9_levelOf_101 : decode cX9_levelOf 101 = .ok (.ireturn, 1) := by decide +kernel
theorem dX9_levelOf_102 : decode cX9_levelOf 102 = .ok (.iconst (-1), 1) := by decide +kernel
theorem dX9_levelOf_103 : decode cX9_levelOf 103 = .ok (.ireturn, 1) := by decide +kernel
theorem dX9_operand_0 : decode cX9_operand 0 = .ok (.aload_n 0, 1) := by decide +kernel
theorem dX9_operand_1 : decode cX9_operand 1 = .ok (.invokevirtual 37, 3) := by decide +kernel
theorem dX9_operand_4 : decode cX9_operand 4 = .ok (.istore_n 2, 1) := by decide +kernel
theorem dX9_operand_5 : decode cX9_operand 5 = .ok (.iload_n 2, 1) := by decide +kernel
theorem dX9_operand_6 : decode cX9_operand 6 = .ok (.invokestatic 56, 3) := by decide +kernel
theorem dX9_operand_9 : decode cX9_operand 9 = .ok (.ifCond .eq 10, 3) := by decide +kernel
theorem dX9_operand_12 : decode cX9_operand 12 = .ok (.aload_n 0, 1) := by decide +kernel
theorem dX9_operand_13 : decode cX9_operand 13 = .ok (.invokevirtual 60, 3) := by decide +kernel
theorem dX9_operand_16 : decode cX9_operand 16 = .ok (.goto 86, 3) := by decide +kernel
theorem dX9_operand_19 : decode cX9_operand 19 = .ok (.iload_n 2, 1) := by decide +kernel
theorem dX9_operand_20 : decode cX9_operand 20 = .ok (.invokestatic 63, 3) := by decide +kernel
theorem dX9_operand_23 : decode cX9_operand 23 = .ok (.iconst (-1), 1) := by decide +kernel
theorem dX9_operand_24 : decode cX9_operand 24 = .ok (.if_icmp .eq 28, 3) := by decide +kernel
theorem dX9_operand_27 : decode cX9_operand 27 = .ok (.aload_n 0, 1) := by decide +kernel
theorem dX9_operand_28 : decode cX9_operand 28 = .ok (.getfield 10, 3) := by decide +kernel
theorem dX9_operand_31 : decode cX9_operand 31 = .ok (.iconst 1, 1) := by decide +kernel
theorem dX9_operand_32 : decode cX9_operand 32 = .ok (.iload_n 2, 1) := by decide +kernel
theorem dX9_operand_33 : decode cX9_operand 33 = .ok (.invokestatic 63, 3) := by decide +kernel
theorem dX9_operand_36 : decode cX9_operand 36 = .ok (.invokevirtual 45, 3) := by decide +kernel
theorem dX9_operand_39 : decode cX9_operand 39 = .ok (.aload_n 0, 1) := by decide +kernel
theorem dX9_operand_40 : decode cX9_operand 40 = .ok (.dup, 1) := by decide +kernel
theorem dX9_operand_41 : decode cX9_operand 41 = .ok (.getfield 24, 3) := by decide +kernel
theorem dX9_operand_44 : decode cX9_operand 44 = .ok (.iconst 1, 1) := by decide +kernel
theorem dX9_operand_45 : decode cX9_operand 45 = .ok (.iadd, 1) := by decide +kernel
theorem dX9_operand_46 : decode cX9_operand 46 = .ok (.putfield 24, 3) := by decide +kernel
theorem dX9_operand_49 : decode cX9_operand 49 = .ok (.goto 53, 3) := by decide +kernel
theorem dX9_operand_52 : decode cX9_operand 52 = .ok (.iload_n 1, 1) := by decide +kernel
theorem dX9_operand_53 : decode cX9_operand 53 = .ok (.bipush 6, 2) := by decide +kernel
theorem dX9_operand_55 : decode cX9_operand 55 = .ok (.if_icmp .ge 42, 3) := by decide +kernel
theorem dX9_operand_58 : decode cX9_operand 58 = .ok (.iload_n 2, 1) := by decide +kernel
theorem dX9_operand_59 : decode cX9_operand 59 = .ok (.bipush 40, 2) := by decide +kernel
theorem dX9_operand_61 : decode cX9_operand 61 = .ok (.if_icmp .eq 15, 3) := by decide +kernel
theorem dX9_operand_64 : decode cX9_operand 64 = .ok (.iload_n 2, 1) := by decide +kernel
theorem dX9_operand_65 : decode cX9_operand 65 = .ok (.bipush 33, 2) := by decide +kernel
theorem dX9_operand_67 : decode cX9_operand 67 = .ok (.if_icmp .eq 9, 3) := by decide +kernel
theorem dX9_operand_70 : decode cX9_operand 70 = .ok (.iload_n 2, 1) := by decide +kernel
theorem dX9_operand_71 : decode cX9_operand 71 = .ok (.bipush 45, 2) := by decide +kernel
theorem dX9_operand_73 : decode cX9_operand 73 = .ok (.if_icmp .ne 24, 3) := by decide +kernel
theorem dX9_operand_76 : decode cX9_operand 76 = .ok (.aload_n 0, 1) := by decide +kernel
theorem dX9_operand_77 : decode cX9_operand 77 = .ok (.dup, 1) := by decide +kernel
theorem dX9_operand_78 : decode cX9_operand 78 = .ok (.getfield 24, 3) := by decide +kernel
theorem dX9_operand_81 : decode cX9_operand 81 = .ok (.iconst 1, 1) := by decide +kernel
theorem dX9_operand_82 : decode cX9_operand 82 = .ok (.iadd, 1) := by decide +kernel
theorem dX9_operand_83 : decode cX9_operand 83 = .ok (.putfield 24, 3) := by decide +kernel
theorem dX9_operand_86 : decode cX9_operand 86 = .ok (.aload_n 0, 1) := by decide +kernel
theorem dX9_operand_87 : decode cX9_operand 87 = .ok (.iload_n 2, 1) := by decide +kernel
theorem dX9_operand_88 : decode cX9_operand 88 = .ok (.iload_n 1, 1) := by decide +kernel
theorem dX9_operand_89 : decode cX9_operand 89 = .ok (.iconst 1, 1) := by decide +kernel
theorem dX9_operand_90 : decode cX9_operand 90 = .ok (.iadd, 1) := by decide +kernel
theorem dX9_operand_91 : decode cX9_operand 91 = .ok (.invokevirtual 66, 3) := by decide +kernel
theorem dX9_operand_94 : decode cX9_operand 94 = .ok (.goto 8, 3) := by decide +kernel
theorem dX9_operand_97 : decode cX9_operand 97 = .ok (.aload_n 0, 1) := by decide +kernel
theorem dX9_operand_98 : decode cX9_operand 98 = .ok (.iconst 0, 1) := by decide +kernel
theorem dX9_operand_99 : decode cX9_operand 99 = .ok (.putfield 27, 3) := by decide +kernel
theorem dX9_operand_102 : decode cX9_operand 102 = .ok (.return_, 1) := by decide +kernel
theorem dX9_opened_0 : decode cX9_opened 0 = .ok (.iload_n 1, 1) := by decide +kernel
theorem dX9_opened_1 : decode cX9_opened 1 = .ok (.bipush 40, 2) := by decide +kernel
theorem dX9_opened_3 : decode cX9_opened 3 = .ok (.if_icmp .eq 29, 3) := by decide +kernel
theorem dX9_opened_6 : decode cX9_opened 6 = .ok (.aload_n 0, 1) := by decide +kernel
theorem dX9_opened_7 : decode cX9_opened 7 = .ok (.iload_n 2, 1) := by decide +kernel
theorem dX9_opened_8 : decode cX9_opened 8 = .ok (.invokevirtual 48, 3) := by decide +kernel
theorem dX9_opened_11 : decode cX9_opened 11 = .ok (.aload_n 0, 1) := by decide +kernel
theorem dX9_opened_12 : decode cX9_opened 12 = .ok (.getfield 10, 3) := by decide +kernel
theorem dX9_opened_15 : decode cX9_opened 15 = .ok (.iload_n 1, 1) := by decide +kernel
theorem dX9_opened_16 : decode cX9_opened 16 = .ok (.bipush 33, 2) := by decide +kernel
theorem dX9_opened_18 : decode cX9_opened 18 = .ok (.if_icmp .ne 8, 3) := by decide +kernel
theorem dX9_opened_21 : decode cX9_opened 21 = .ok (.bipush 33, 2) := by decide +kernel
theorem dX9_opened_23 : decode cX9_opened 23 = .ok (.goto 4, 3) := by decide +kernel
theorem dX9_opened_26 : decode cX9_opened 26 = .ok (.iconst 2, 1) := by decide +kernel
theorem dX9_opened_27 : decode cX9_opened 27 = .ok (.iconst 0, 1) := by decide +kernel
theorem dX9_opened_28 : decode cX9_opened 28 = .ok (.invokevirtual 45, 3) := by decide +kernel
theorem dX9_opened_31 : decode cX9_opened 31 = .ok (.return_, 1) := by decide +kernel
theorem dX9_opened_32 : decode cX9_opened 32 = .ok (.aload_n 0, 1) := by decide +kernel
theorem dX9_opened_33 : decode cX9_opened 33 = .ok (.iconst 0, 1) := by decide +kernel
theorem dX9_opened_34 : decode cX9_opened 34 = .ok (.iload_n 2, 1) := by decide +kernel
theorem dX9_opened_35 : decode cX9_opened 35 = .ok (.invokevirtual 41, 3) := by decide +kernel
theorem dX9_opened_38 : decode cX9_opened 38 = .ok (.aload_n 0, 1) := by decide +kernel
theorem dX9_opened_39 : decode cX9_opened 39 = .ok (.getfield 27, 3) := by decide +kernel
theorem dX9_opened_42 : decode cX9_opened 42 = .ok (.ifCond .eq 25, 3) := by decide +kernel
theorem dX9_opened_45 : decode cX9_opened 45 = .ok (.aload_n 0, 1) := by decide +kernel
theorem dX9_opened_46 : decode cX9_opened 46 = .ok (.invokevirtual 37, 3) := by decide +kernel
theorem dX9_opened_49 : decode cX9_opened 49 = .ok (.bipush 41, 2) := by decide +kernel
theorem dX9_opened_51 : decode cX9_opened 51 = .ok (.if_icmp .ne 16, 3) := by decide +kernel
theorem dX9_opened_54 : decode cX9_opened 54 = .ok (.aload_n 0, 1) := by decide +kernel
theorem dX9_opened_55 : decode cX9_opened 55 = .ok (.dup, 1) := by decide +kernel
theorem dX9_opened_56 : decode cX9_opened 56 = .ok (.getfield 24, 3) := by decide +kernel
theorem dX9_opened_59 : decode cX9_opened 59 = .ok (.iconst 1, 1) := by decide +kernel
theorem dX9_opened_60 : decode cX9_opened 60 = .ok (.iadd, 1) := by decide +kernel
theorem dX9_opened_61 : decode cX9_opened 61 = .ok (.putfield 24, 3) := by decide +kernel
theorem dX9_opened_64 : decode cX9_opened 64 = .ok (.goto 8, 3) := by decide +kernel
theorem dX9_opened_67 : decode cX9_opened 67 = .ok (.aload_n 0, 1) := by decide +kernel
theorem dX9_opened_68 : decode cX9_opened 68 = .ok (.iconst 0, 1) := by decide +kernel
theorem dX9_opened_69 : decode cX9_opened 69 = .ok (.putfield 27, 3) := by decide +kernel
theorem dX9_opened_72 : decode cX9_opened 72 = .ok (.return_, 1) := by decide +kernel
theorem dX9_number_0 : decode cX9_number 0 = .ok (.iconst 0, 1) := by decide +kernel
theorem dX9_number_1 : decode cX9_number 1 = .ok (.istore_n 1, 1) := by decide +kernel
theorem dX9_number_2 : decode cX9_number 2 = .ok (.iconst 0, 1) := by decide +kernel
theorem dX9_number_3 : decode cX9_number 3 = .ok (.istore_n 2, 1) := by decide +kernel
theorem dX9_number_4 : decode cX9_number 4 = .ok (.iload_n 2, 1) := by decide +kernel
theorem dX9_number_5 : decode cX9_number 5 = .ok (.iconst 4, 1) := by decide +kernel
theorem dX9_number_6 : decode cX9_number 6 = .ok (.if_icmp .ge 42, 3) := by decide +kernel
theorem dX9_number_9 : decode cX9_number 9 = .ok (.aload_n 0, 1) := by decide +kernel
theorem dX9_number_10 : decode cX9_number 10 = .ok (.invokevirtual 37, 3) := by decide +kernel
theorem dX9_number_13 : decode cX9_number 13 = .ok (.invokestatic 56, 3) := by decide +kernel
theorem dX9_number_16 : decode cX9_number 16 = .ok (.ifCond .eq 32, 3) := by decide +kernel
theorem dX9_number_19 : decode cX9_number 19 = .ok (.iload_n 1, 1) := by decide +kernel
theorem dX9_number_20 : decode cX9_number 20 = .ok (.bipush 10, 2) := by decide +kernel
theorem dX9_number_22 : decode cX9_number 22 = .ok (.imul, 1) := by decide +kernel
theorem dX9_number_23 : decode cX9_number 23 = .ok (.aload_n 0, 1) := by decide +kernel
theorem dX9_number_24 : decode cX9_number 24 = .ok (.invokevirtual 37, 3) := by decide +kernel
theorem dX9_number_27 : decode cX9_number 27 = .ok (.iadd, 1) := by decide +kernel
theorem dX9_number_28 : decode cX9_number 28 = .ok (.bipush 48, 2) := by decide +kernel
theorem dX9_number_30 : decode cX9_number 30 = .ok (.isub, 1) := by decide +kernel
theorem dX9_number_31 : decode cX9_number 31 = .ok (.istore_n 1, 1) := by decide +kernel
theorem dX9_number_32 : decode cX9_number 32 = .ok (.aload_n 0, 1) := by decide +kernel
theorem dX9_number_33 : decode cX9_number 33 = .ok (.dup, 1) := by decide +kernel
theorem dX9_number_34 : decode cX9_number 34 = .ok (.getfield 24, 3) := by decide +kernel
theorem dX9_number_37 : decode cX9_number 37 = .ok (.iconst 1, 1) := by decide +kernel
theorem dX9_number_38 : decode cX9_number 38 = .ok (.iadd, 1) := by decide +kernel
theorem dX9_number_39 : decode cX9_number 39 = .ok (.putfield 24, 3) := by decide +kernel
theorem dX9_number_42 : decode cX9_number 42 = .ok (.iinc 2 1, 3) := by decide +kernel
theorem dX9_number_45 : decode cX9_number 45 = .ok (.goto (-41), 3) := by decide +kernel
theorem dX9_number_48 : decode cX9_number 48 = .ok (.aload_n 0, 1) := by decide +kernel
theorem dX9_number_49 : decode cX9_number 49 = .ok (.getfield 10, 3) := by decide +kernel
theorem dX9_number_52 : decode cX9_number 52 = .ok (.iconst 0, 1) := by decide +kernel
theorem dX9_number_53 : decode cX9_number 53 = .ok (.iload_n 1, 1) := by decide +kernel
theorem dX9_number_54 : decode cX9_number 54 = .ok (.invokevirtual 45, 3) := by decide +kernel
theorem dX9_number_57 : decode cX9_number 57 = .ok (.return_, 1) := by decide +kernel
theorem dX9_isDigit_0 : decode cX9_isDigit 0 = .ok (.iload_n 0, 1) := by decide +kernel
theorem dX9_isDigit_1 : decode cX9_isDigit 1 = .ok (.bipush 48, 2) := by decide +kernel
theorem dX9_isDigit_3 : decode cX9_isDigit 3 = .ok (.if_icmp .lt 13, 3) := by decide +kernel
theorem dX9_isDigit_6 : decode cX9_isDigit 6 = .ok (.iload_n 0, 1) := by decide +kernel
theorem dX9_isDigit_7 : decode cX9_isDigit 7 = .ok (.bipush 57, 2) := by decide +kernel
theorem dX9_isDigit_9 : decode cX9_isDigit 9 = .ok (.if_icmp .gt 7, 3) := by decide +kernel
theorem dX9_isDigit_12 : decode cX9_isDigit 12 = .ok (.iconst 1, 1) := by decide +kernel
theorem dX9_isDigit_13 : decode cX9_isDigit 13 = .ok (.goto 4, 3) := by decide +kernel
theorem dX9_isDigit_16 : decode cX9_isDigit 16 = .ok (.iconst 0, 1) := by decide +kernel
theorem dX9_isDigit_17 : decode cX9_isDigit 17 = .ok (.ireturn, 1) := by decide +kernel
theorem dX9_nameOf_0 : decode cX9_nameOf 0 = .ok (.iload_n 0, 1) := by decide +kernel
theorem dX9_nameOf_1 : decode cX9_nameOf 1 = .ok (.tableswitch 99 99 116 #[93, 99, 99, 99, 89, 99, 99, 99, 99, 99, 99, 97, 99, 91, 99, 99, 95, 87], 87) := by decide +kernel
theorem dX9_nameOf_88 : decode cX9_nameOf 88 = .ok (.iconst 0, 1) := by decide +kernel
theorem dX9_nameOf_89 : decode cX9_nameOf 89 = .ok (.ireturn, 1) := by decide +kernel
theorem dX9_nameOf_90 : decode cX9_nameOf 90 = .ok (.iconst 1, 1) := by decide +kernel
theorem dX9_nameOf_91 : decode cX9_nameOf 91 = .ok (.ireturn, 1) := by decide +kernel
theorem dX9_nameOf_92 : decode cX9_nameOf 92 = .ok (.iconst 2, 1) := by decide +kernel
theorem dX9_nameOf_93 : decode cX9_nameOf 93 = .ok (.ireturn, 1) := by decide +kernel
theorem dX9_nameOf_94 : decode cX9_nameOf 94 = .ok (.iconst 3, 1) := by decide +kernel
theorem dX9_nameOf_95 : decode cX9_nameOf 95 = .ok (.ireturn, 1) := by decide +kernel
theorem dX9_nameOf_96 : decode cX9_nameOf 96 = .ok (.iconst 4, 1) := by decide +kernel
theorem dX9_nameOf_97 : decode cX9_nameOf 97 = .ok (.ireturn, 1) := by decide +kernel
theorem dX9_nameOf_98 : decode cX9_nameOf 98 = .ok (.iconst 5, 1) := by decide +kernel
theorem dX9_nameOf_99 : decode cX9_nameOf 99 = .ok (.ireturn, 1) := by decide +kernel
theorem dX9_nameOf_100 : decode cX9_nameOf 100 = .ok (.iconst (-1), 1) := by decide +kernel
theorem dX9_nameOf_101 : decode cX9_nameOf 101 = .ok (.ireturn, 1) := by decide +kernel
theorem dX10_init_0 : decode cX10_init 0 = .ok (.aload_n 0, 1) := by decide +kernel
theorem dX10_init_1 : decode cX10_init 1 = .ok (.invokespecial 3, 3) := by decide +kernel
theorem dX10_init_4 : decode cX10_init 4 = .ok (.aload_n 0, 1) := by decide +kernel
theorem dX10_init_5 : decode cX10_init 5 = .ok (.bipush 60, 2) := by decide +kernel
theorem dX10_init_7 : decode cX10_init 7 = .ok (.newarray .long, 2) := by decide +kernel
theorem dX10_init_9 : decode cX10_init 9 = .ok (.putfield 9, 3) := by decide +kernel
theorem dX10_init_12 : decode cX10_init 12 = .ok (.aload_n 0, 1) := by decide +kernel
theorem dX10_init_13 : decode cX10_init 13 = .ok (.iconst (-1), 1) := by decide +kernel
theorem dX10_init_14 : decode cX10_init 14 = .ok (.putfield 15, 3) := by decide +kernel
theorem dX10_init_17 : decode cX10_init 17 = .ok (.aload_n 0, 1) := by decide +kernel
theorem dX10_init_18 : decode cX10_init 18 = .ok (.iconst (-1), 1) := by decide +kernel
theorem dX10_init_19 : decode cX10_init 19 = .ok (.putfield 19, 3) := by decide +kernel
theorem dX10_init_22 : decode cX10_init 22 = .ok (.return_, 1) := by decide +kernel
theorem dX10_isRow_0 : decode cX10_isRow 0 = .ok (.aload_n 0, 1) := by decide +kernel
theorem dX10_isRow_1 : decode cX10_isRow 1 = .ok (.getfield 19, 3) := by decide +kernel
theorem dX10_isRow_4 : decode cX10_isRow 4 = .ok (.iconst (-1), 1) := by decide +kernel
theorem dX10_isRow_5 : decode cX10_isRow 5 = .ok (.if_icmp .eq 7, 3) := by decide +kernel
theorem dX10_isRow_8 : decode cX10_isRow 8 = .ok (.iconst 1, 1) := by decide +kernel
theorem dX10_isRow_9 : decode cX10_isRow 9 = .ok (.goto 4, 3) := by decide +kernel
theorem dX10_isRow_12 : decode cX10_isRow 12 = .ok (.iconst 0, 1) := by decide +kernel
theorem dX10_isRow_13 : decode cX10_isRow 13 = .ok (.ireturn, 1) := by decide +kernel
theorem dX10_isEmpty_0 : decode cX10_isEmpty 0 = .ok (.aload_n 0, 1) := by decide +kernel
theorem dX10_isEmpty_1 : decode cX10_isEmpty 1 = .ok (.invokevirtual 22, 3) := by decide +kernel
theorem dX10_isEmpty_4 : decode cX10_isEmpty 4 = .ok (.ifCond .ne 15, 3) := by decide +kernel
theorem dX10_isEmpty_7 : decode cX10_isEmpty 7 = .ok (.aload_n 0, 1) := by decide +kernel
theorem dX10_isEmpty_8 : decode cX10_isEmpty 8 = .ok (.getfield 15, 3) := by decide +kernel
theorem dX10_isEmpty_11 : decode cX10_isEmpty 11 = .ok (.iconst (-1), 1) := by decide +kernel
theorem dX10_isEmpty_12 : decode cX10_isEmpty 12 = .ok (.if_icmp .ne 7, 3) := by decide +kernel
theorem dX10_isEmpty_15 : decode cX10_isEmpty 15 = .ok (.iconst 1, 1) := by decide +kernel
theorem dX10_isEmpty_16 : decode cX10_isEmpty 16 = .ok (.goto 4, 3) := by decide +kernel
theorem dX10_isEmpty_19 : decode cX10_isEmpty 19 = .ok (.iconst 0, 1) := by decide +kernel
theorem dX10_isEmpty_20 : decode cX10_isEmpty 20 = .ok (.ireturn, 1) := by decide +kernel
theorem dX10_isBook_0 : decode cX10_isBook 0 = .ok (.aload_n 0, 1) := by decide +kernel
theorem dX10_isBook_1 : decode cX10_isBook 1 = .ok (.getfield 19, 3) := by decide +kernel
theorem dX10_isBook_4 : decode cX10_isBook 4 = .ok (.ifCond .ne 7, 3) := by decide +kernel
theorem dX10_isBook_7 : decode cX10_isBook 7 = .ok (.iconst 1, 1) := by decide +kernel
theorem dX10_isBook_8 : decode cX10_isBook 8 = .ok (.goto 4, 3) := by decide +kernel
theorem dX10_isBook_11 : decode cX10_isBook 11 = .ok (.iconst 0, 1) := by decide +kernel
theorem dX10_isBook_12 : decode cX10_isBook 12 = .ok (.ireturn, 1) := by decide +kernel
theorem dX10_holdBody_0 : decode cX10_holdBody 0 = .ok (.aload_n 0, 1) := by decide +kernel
theorem dX10_holdBody_1 : decode cX10_holdBody 1 = .ok (.iload_n 1, 1) := by decide +kernel
theorem dX10_holdBody_2 : decode cX10_holdBody 2 = .ok (.putfield 15, 3) := by decide +kernel
theorem dX10_holdBody_5 : decode cX10_holdBody 5 = .ok (.aload_n 0, 1) := by decide +kernel
theorem dX10_holdBody_6 : decode cX10_holdBody 6 = .ok (.iconst (-1), 1) := by decide +kernel
theorem dX10_holdBody_7 : decode cX10_holdBody 7 = .ok (.putfield 19, 3) := by decide +kernel
theorem dX10_holdBody_10 : decode cX10_holdBody 10 = .ok (.aload_n 0, 1) := by decide +kernel
theorem dX10_holdBody_11 : decode cX10_holdBody 11 = .ok (.iconst 0, 1) := by decide +kernel
theorem dX10_holdBody_12 : decode cX10_holdBody 12 = .ok (.putfield 26, 3) := by decide +kernel
theorem dX10_holdBody_15 : decode cX10_holdBody 15 = .ok (.return_, 1) := by decide +kernel
theorem dX10_holdRow_0 : decode cX10_holdRow 0 = .ok (.aload_n 0, 1) := by decide +kernel
theorem dX10_holdRow_1 : decode cX10_holdRow 1 = .ok (.iconst (-1), 1) := by decide +kernel
theorem dX10_holdRow_2 : decode cX10_holdRow 2 = .ok (.putfield 15, 3) := by decide +kernel
theorem dX10_holdRow_5 : decode cX10_holdRow 5 = .ok (.aload_n 0, 1) := by decide +kernel
theorem dX10_holdRow_6 : decode cX10_holdRow 6 = .ok (.iload_n 1, 1) := by decide +kernel
theorem dX10_holdRow_7 : decode cX10_holdRow 7 = .ok (.putfield 19, 3) := by decide +kernel
theorem dX10_holdRow_10 : decode cX10_holdRow 10 = .ok (.aload_n 0, 1) := by decide +kernel
theorem dX10_holdRow_11 : decode cX10_holdRow 11 = .ok (.iload_n 2, 1) := by decide +kernel
theorem dX10_holdRow_12 : decode cX10_holdRow 12 = .ok (.putfield 26, 3) := by decide +kernel
theorem dX10_holdRow_15 : decode cX10_holdRow 15 = .ok (.iconst 0, 1) := by decide +kernel
theorem dX10_holdRow_16 : decode cX10_holdRow 16 = .ok (.istore_n 3, 1) := by decide +kernel
theorem dX10_holdRow_17 : decode cX10_holdRow 17 = .ok (.iload_n 3, 1) := by decide +kernel
theorem dX10_holdRow_18 : decode cX10_holdRow 18 = .ok (.bipush 60, 2) := by decide +kernel
theorem dX10_holdRow_20 : decode cX10_holdRow 20 = .ok (.if_icmp .ge 16, 3) := by decide +kernel
theorem dX10_holdRow_23 : decode cX10_holdRow 23 = .ok (.aload_n 0, 1) := by decide +kernel
theorem dX10_holdRow_24 : decode cX10_holdRow 24 = .ok (.getfield 9, 3) := by decide +kernel
theorem dX10_holdRow_27 : decode cX10_holdRow 27 = .ok (.iload_n 3, 1) := by decide +kernel
theorem dX10_holdRow_28 : decode cX10_holdRow 28 = .ok (.lconst 0, 1) := by decide +kernel
theorem dX10_holdRow_29 : decode cX10_holdRow 29 = .ok (.lastore, 1) := by decide +kernel
theorem dX10_holdRow_30 : decode cX10_holdRow 30 = .ok (.iinc 3 1, 3) := by decide +kernel
theorem dX10_holdRow_33 : decode cX10_holdRow 33 = .ok (.goto (-16), 3) := by decide +kernel
theorem dX10_holdRow_36 : decode cX10_holdRow 36 = .ok (.return_, 1) := by decide +kernel
theorem dX10_hasPlaces_0 : decode cX10_hasPlaces 0 = .ok (.iload_n 1, 1) := by decide +kernel
theorem dX10_hasPlaces_1 : decode cX10_hasPlaces 1 = .ok (.ifCond .lt 25, 3) := by decide +kernel
theorem dX10_hasPlaces_4 : decode cX10_hasPlaces 4 = .ok (.iload_n 2, 1) := by decide +kernel
theorem dX10_hasPlaces_5 : decode cX10_hasPlaces 5 = .ok (.ifCond .lt 21, 3) := by decide +kernel
theorem dX10_hasPlaces_8 : decode cX10_hasPlaces 8 = .ok (.iload_n 1, 1) := by decide +kernel
theorem dX10_hasPlaces_9 : decode cX10_hasPlaces 9 = .ok (.i2l, 1) := by decide +kernel
theorem dX10_hasPlaces_10 : decode cX10_hasPlaces 10 = .ok (.aload_n 0, 1) := by decide +kernel
theorem dX10_hasPlaces_11 : decode cX10_hasPlaces 11 = .ok (.getfield 26, 3) := by decide +kernel
theorem dX10_hasPlaces_14 : decode cX10_hasPlaces 14 = .ok (.i2l, 1) := by decide +kernel
theorem dX10_hasPlaces_15 : decode cX10_hasPlaces 15 = .ok (.iload_n 2, 1) := by decide +kernel
theorem dX10_hasPlaces_16 : decode cX10_hasPlaces 16 = .ok (.i2l, 1) := by decide +kernel
theorem dX10_hasPlaces_17 : decode cX10_hasPlaces 17 = .ok (.lsub, 1) := by decide +kernel
theorem dX10_hasPlaces_18 : decode cX10_hasPlaces 18 = .ok (.lcmp, 1) := by decide +kernel
theorem dX10_hasPlaces_19 : decode cX10_hasPlaces 19 = .ok (.ifCond .gt 7, 3) := by decide +kernel
theorem dX10_hasPlaces_22 : decode cX10_hasPlaces 22 = .ok (.iconst 1, 1) := by decide +kernel
theorem dX10_hasPlaces_23 : decode cX10_hasPlaces 23 = .ok (.goto 4, 3) := by decide +kernel
theorem dX10_hasPlaces_26 : decode cX10_hasPlaces 26 = .ok (.iconst 0, 1) := by decide +kernel
theorem dX10_hasPlaces_27 : decode cX10_hasPlaces 27 = .ok (.ireturn, 1) := by decide +kernel
theorem dX10_at_0 : decode cX10_at 0 = .ok (.aload_n 0, 1) := by decide +kernel
theorem dX10_at_1 : decode cX10_at 1 = .ok (.iload_n 1, 1) := by decide +kernel
theorem dX10_at_2 : decode cX10_at 2 = .ok (.iconst 1, 1) := by decide +kernel
theorem dX10_at_3 : decode cX10_at 3 = .ok (.invokevirtual 29, 3) := by decide +kernel
theorem dX10_at_6 : decode cX10_at 6 = .ok (.ifCond .eq 12, 3) := by decide +kernel
theorem dX10_at_9 : decode cX10_at 9 = .ok (.aload_n 0, 1) := by decide +kernel
theorem dX10_at_10 : decode cX10_at 10 = .ok (.getfield 9, 3) := by decide +kernel
theorem dX10_at_13 : decode cX10_at 13 = .ok (.iload_n 1, 1) := by decide +kernel
theorem dX10_at_14 : decode cX10_at 14 = .ok (.laload, 1) := by decide +kernel
theorem dX10_at_15 : decode cX10_at 15 = .ok (.goto 4, 3) := by decide +kernel
theorem dX10_at_18 : decode cX10_at 18 = .ok (.lconst 0, 1) := by decide +kernel
theorem dX10_at_19 : decode cX10_at 19 = .ok (.lreturn, 1) := by decide +kernel
theorem dX10_set_0 : decode cX10_set 0 = .ok (.aload_n 0, 1) := by decide +kernel
theorem dX10_set_1 : decode cX10_set 1 = .ok (.iload_n 1, 1) := by decide +kernel
theorem dX10_set_2 : decode cX10_set 2 = .ok (.iconst 1, 1) := by decide +kernel
theorem dX10_set_3 : decode cX10_set 3 = .ok (.invokevirtual 29, 3) := by decide +kernel
theorem dX10_set_6 : decode cX10_set 6 = .ok (.ifCond .eq 14, 3) := by decide +kernel
theorem dX10_set_9 : decode cX10_set 9 = .ok (.aload_n 0, 1) := by decide +kernel
theorem dX10_set_10 : decode cX10_set 10 = .ok (.getfield 9, 3) := by decide +kernel
theorem dX10_set_13 : decode cX10_set 13 = .ok (.iload_n 1, 1) := by decide +kernel
theorem dX10_set_14 : decode cX10_set 14 = .ok (.aload_n 0, 1) := by decide +kernel
theorem dX10_set_15 : decode cX10_set 15 = .ok (.lload_n 2, 1) := by decide +kernel
theorem dX10_set_16 : decode cX10_set 16 = .ok (.invokevirtual 33, 3) := by decide +kernel
theorem dX10_set_19 : decode cX10_set 19 = .ok (.lastore, 1) := by decide +kernel
theorem dX10_set_20 : decode cX10_set 20 = .ok (.return_, 1) := by decide +kernel
theorem dX10_kept_0 : decode cX10_kept 0 = .ok (.aload_n 0, 1) := by decide +kernel
theorem dX10_kept_1 : decode cX10_kept 1 = .ok (.getfield 19, 3) := by decide +kernel
theorem dX10_kept_4 : decode cX10_kept 4 = .ok (.tableswitch 62 0 4 #[36, 41, 46, 62, 50], 36) := by decide +kernel
theorem dX10_kept_40 : decode cX10_kept 40 = .ok (.lload_n 1, 1) := by decide +kernel
theorem dX10_kept_41 : decode cX10_kept 41 = .ok (.l2i, 1) := by decide +kernel
theorem dX10_kept_42 : decode cX10_kept 42 = .ok (.i2b, 1) := by decide +kernel
theorem dX10_kept_43 : decode cX10_kept 43 = .ok (.i2l, 1) := by decide +kernel
theorem dX10_kept_44 : decode cX10_kept 44 = .ok (.lreturn, 1) := by decide +kernel
theorem dX10_kept_45 : decode cX10_kept 45 = .ok (.lload_n 1, 1) := by decide +kernel
theorem dX10_kept_46 : decode cX10_kept 46 = .ok (.l2i, 1) := by decide +kernel
theorem dX10_kept_47 : decode cX10_kept 47 = .ok (.i2s, 1) := by decide +kernel
theorem dX10_kept_48 : decode cX10_kept 48 = .ok (.i2l, 1) := by decide +kernel
theorem dX10_kept_49 : decode cX10_kept 49 = .ok (.lreturn, 1) := by decide +kernel
theorem dX10_kept_50 : decode cX10_kept 50 = .ok (.lload_n 1, 1) := by decide +kernel
theorem dX10_kept_51 : decode cX10_kept 51 = .ok (.l2i, 1) := by decide +kernel
theorem dX10_kept_52 : decode cX10_kept 52 = .ok (.i2l, 1) := by decide +kernel
theorem dX10_kept_53 : decode cX10_kept 53 = .ok (.lreturn, 1) := by decide +kernel
theorem dX10_kept_54 : decode cX10_kept 54 = .ok (.lload_n 1, 1) := by decide +kernel
theorem dX10_kept_55 : decode cX10_kept 55 = .ok (.lconst 0, 1) := by decide +kernel
theorem dX10_kept_56 : decode cX10_kept 56 = .ok (.lcmp, 1) := by decide +kernel
theorem dX10_kept_57 : decode cX10_kept 57 = .ok (.ifCond .eq 7, 3) := by decide +kernel
theorem dX10_kept_60 : decode cX10_kept 60 = .ok (.lconst 1, 1) := by decide +kernel
theorem dX10_kept_61 : decode cX10_kept 61 = .ok (.goto 4, 3) := by decide +kernel
theorem dX10_kept_64 : decode cX10_kept 64 = .ok (.lconst 0, 1) := by decide +kernel
theorem dX10_kept_65 : decode cX10_kept 65 = .ok (.lreturn, 1) := by decide +kernel
theorem dX10_kept_66 : decode cX10_kept 66 = .ok (.lload_n 1, 1) := by decide +kernel
theorem dX10_kept_67 : decode cX10_kept 67 = .ok (.lreturn, 1) := by decide +kernel
theorem dX11_init_0 : decode cX11_init 0 = .ok (.aload_n 0, 1) := by decide +kernel
theorem dX11_init_1 : decode cX11_init 1 = .ok (.invokespecial 1, 3) := by decide +kernel
theorem dX11_init_4 : decode cX11_init 4 = .ok (.aload_n 0, 1) := by decide +kernel
theorem dX11_init_5 : decode cX11_init 5 = .ok (.new 7, 3) := by decide +kernel
theorem dX11_init_8 : decode cX11_init 8 = .ok (.dup, 1) := by decide +kernel
theorem dX11_init_9 : decode cX11_init 9 = .ok (.invokespecial 9, 3) := by decide +kernel
theorem dX11_init_12 : decode cX11_init 12 = .ok (.putfield 10, 3) := by decide +kernel
theorem dX11_init_15 : decode cX11_init 15 = .ok (.aload_n 0, 1) := by decide +kernel
theorem dX11_init_16 : decode cX11_init 16 = .ok (.new 16, 3) := by decide +kernel
theorem dX11_init_19 : decode cX11_init 19 = .ok (.dup, 1) := by decide +kernel
theorem dX11_init_20 : decode cX11_init 20 = .ok (.invokespecial 18, 3) := by decide +kernel
theorem dX11_init_23 : decode cX11_init 23 = .ok (.putfield 19, 3) := by decide +kernel
theorem dX11_init_26 : decode cX11_init 26 = .ok (.aload_n 0, 1) := by decide +kernel
theorem dX11_init_27 : decode cX11_init 27 = .ok (.bipush 120, 2) := by decide +kernel
theorem dX11_init_29 : decode cX11_init 29 = .ok (.newarray .int, 2) := by decide +kernel
theorem dX11_init_31 : decode cX11_init 31 = .ok (.putfield 23, 3) := by decide +kernel
theorem dX11_init_34 : decode cX11_init 34 = .ok (.aload_n 0, 1) := by decide +kernel
theorem dX11_init_35 : decode cX11_init 35 = .ok (.new 27, 3) := by decide +kernel
theorem dX11_init_38 : decode cX11_init 38 = .ok (.dup, 1) := by decide +kernel
theorem dX11_init_39 : decode cX11_init 39 = .ok (.aload_n 0, 1) := by decide +kernel
theorem dX11_init_40 : decode cX11_init 40 = .ok (.getfield 23, 3) := by decide +kernel
theorem dX11_init_43 : decode cX11_init 43 = .ok (.invokespecial 29, 3) := by decide +kernel
theorem dX11_init_46 : decode cX11_init 46 = .ok (.putfield 32, 3) := by decide +kernel
theorem dX11_init_49 : decode cX11_init 49 = .ok (.aload_n 0, 1) := by decide +kernel
theorem dX11_init_50 : decode cX11_init 50 = .ok (.new 36, 3) := by decide +kernel
theorem dX11_init_53 : decode cX11_init 53 = .ok (.dup, 1) := by decide +kernel
theorem dX11_init_54 : decode cX11_init 54 = .ok (.invokespecial 38, 3) := by decide +kernel
theorem dX11_init_57 : decode cX11_init 57 = .ok (.putfield 39, 3) := by decide +kernel
theorem dX11_init_60 : decode cX11_init 60 = .ok (.aload_n 0, 1) := by decide +kernel
theorem dX11_init_61 : decode cX11_init 61 = .ok (.new 36, 3) := by decide +kernel
theorem dX11_init_64 : decode cX11_init 64 = .ok (.dup, 1) := by decide +kernel
theorem dX11_init_65 : decode cX11_init 65 = .ok (.invokespecial 38, 3) := by decide +kernel
theorem dX11_init_68 : decode cX11_init 68 = .ok (.putfield 43, 3) := by decide +kernel
theorem dX11_init_71 : decode cX11_init 71 = .ok (.aload_n 0, 1) := by decide +kernel
theorem dX11_init_72 : decode cX11_init 72 = .ok (.new 46, 3) := by decide +kernel
theorem dX11_init_75 : decode cX11_init 75 = .ok (.dup, 1) := by decide +kernel
theorem dX11_init_76 : decode cX11_init 76 = .ok (.aload_n 0, 1) := by decide +kernel
theorem dX11_init_77 : decode cX11_init 77 = .ok (.getfield 10, 3) := by decide +kernel
theorem dX11_init_80 : decode cX11_init 80 = .ok (.aload_n 0, 1) := by decide +kernel
theorem dX11_init_81 : decode cX11_init 81 = .ok (.getfield 19, 3) := by decide +kernel
theorem dX11_init_84 : decode cX11_init 84 = .ok (.aload_n 0, 1) := by decide +kernel
theorem dX11_init_85 : decode cX11_init 85 = .ok (.getfield 32, 3) := by decide +kernel
theorem dX11_init_88 : decode cX11_init 88 = .ok (.invokespecial 48, 3) := by decide +kernel
theorem dX11_init_91 : decode cX11_init 91 = .ok (.putfield 51, 3) := by decide +kernel
theorem dX11_init_94 : decode cX11_init 94 = .ok (.aload_n 0, 1) := by decide +kernel
theorem dX11_init_95 : decode cX11_init 95 = .ok (.new 55, 3) := by decide +kernel
theorem dX11_init_98 : decode cX11_init 98 = .ok (.dup, 1) := by decide +kernel
theorem dX11_init_99 : decode cX11_init 99 = .ok (.aload_n 0, 1) := by decide +kernel
theorem dX11_init_100 : decode cX11_init 100 = .ok (.getfield 10, 3) := by decide +kernel
theorem dX11_init_103 : decode cX11_init 103 = .ok (.aload_n 0, 1) := by decide +kernel
theorem dX11_init_104 : decode cX11_init 104 = .ok (.getfield 19, 3) := by decide +kernel
theorem dX11_init_107 : decode cX11_init 107 = .ok (.aload_n 0, 1) := by decide +kernel
theorem dX11_init_108 : decode cX11_init 108 = .ok (.getfield 32, 3) := by decide +kernel
theorem dX11_init_111 : decode cX11_init 111 = .ok (.invokespecial 57, 3) := by decide +kernel
theorem dX11_init_114 : decode cX11_init 114 = .ok (.putfield 58, 3) := by decide +kernel
theorem dX11_init_117 : decode cX11_init 117 = .ok (.aload_n 0, 1) := by decide +kernel
theorem dX11_init_118 : decode cX11_init 118 = .ok (.new 62, 3) := by decide +kernel
theorem dX11_init_121 : decode cX11_init 121 = .ok (.dup, 1) := by decide +kernel
theorem dX11_init_122 : decode cX11_init 122 = .ok (.invokespecial 64, 3) := by decide +kernel
theorem dX11_init_125 : decode cX11_init 125 = .ok (.putfield 65, 3) := by decide +kernel
theorem dX11_init_128 : decode cX11_init 128 = .ok (.aload_n 0, 1) := by decide +kernel
theorem dX11_init_129 : decode cX11_init 129 = .ok (.bipush 6, 2) := by decide +kernel
theorem dX11_init_131 : decode cX11_init 131 = .ok (.newarray .long, 2) := by decide +kernel
theorem dX11_init_133 : decode cX11_init 133 = .ok (.putfield 69, 3) := by decide +kernel
theorem dX11_init_136 : decode cX11_init 136 = .ok (.aload_n 0, 1) := by decide +kernel
theorem dX11_init_137 : decode cX11_init 137 = .ok (.new 73, 3) := by decide +kernel
theorem dX11_init_140 : decode cX11_init 140 = .ok (.dup, 1) := by decide +kernel
theorem dX11_init_141 : decode cX11_init 141 = .ok (.invokespecial 75, 3) := by decide +kernel
theorem dX11_init_144 : decode cX11_init 144 = .ok (.putfield 76, 3) := by decide +kernel
theorem dX11_init_147 : decode cX11_init 147 = .ok (.aload_n 0, 1) := by decide +kernel
theorem dX11_init_148 : decode cX11_init 148 = .ok (.bipush 6, 2) := by decide +kernel
theorem dX11_init_150 : decode cX11_init 150 = .ok (.anewarray 80, 3) := by decide +kernel
theorem dX11_init_153 : decode cX11_init 153 = .ok (.putfield 82, 3) := by decide +kernel
theorem dX11_init_156 : decode cX11_init 156 = .ok (.iconst 0, 1) := by decide +kernel
theorem dX11_init_157 : decode cX11_init 157 = .ok (.istore_n 1, 1) := by decide +kernel
theorem dX11_init_158 : decode cX11_init 158 = .ok (.iload_n 1, 1) := by decide +kernel
theorem dX11_init_159 : decode cX11_init 159 = .ok (.bipush 6, 2) := by decide +kernel
theorem dX11_init_161 : decode cX11_init 161 = .ok (.if_icmp .ge 22, 3) := by decide +kernel
theorem dX11_init_164 : decode cX11_init 164 = .ok (.aload_n 0, 1) := by decide +kernel
theorem dX11_init_165 : decode cX11_init 165 = .ok (.getfield 82, 3) := by decide +kernel
theorem dX11_init_168 : decode cX11_init 168 = .ok (.iload_n 1, 1) := by decide +kernel
