theorem dX0_init_0 : decode cX0_init 0 = .ok (.aload_n 0, 1) := by decide +kernel
theorem dX0_init_1 : decode cX0_init 1 = .ok (.invokespecial 3, 3) := by decide +kernel
theorem dX0_init_4 : decode cX0_init 4 = .ok (.aload_n 0, 1) := by decide +kernel
theorem dX0_init_5 : decode cX0_init 5 = .ok (.iload_n 1, 1) := by decide +kernel
theorem dX0_init_6 : decode cX0_init 6 = .ok (.putfield 9, 3) := by decide +kernel
theorem dX0_init_9 : decode cX0_init 9 = .ok (.aload_n 0, 1) := by decide +kernel
theorem dX0_init_10 : decode cX0_init 10 = .ok (.iload_n 1, 1) := by decide +kernel
theorem dX0_init_11 : decode cX0_init 11 = .ok (.iconst 4, 1) := by decide +kernel
theorem dX0_init_12 : decode cX0_init 12 = .ok (.imul, 1) := by decide +kernel
theorem dX0_init_13 : decode cX0_init 13 = .ok (.newarray .long, 2) := by decide +kernel
theorem dX0_init_15 : decode cX0_init 15 = .ok (.putfield 15, 3) := by decide +kernel
theorem dX0_init_18 : decode cX0_init 18 = .ok (.return_, 1) := by decide +kernel
theorem dX0_clear_0 : decode cX0_clear 0 = .ok (.aload_n 0, 1) := by decide +kernel
theorem dX0_clear_1 : decode cX0_clear 1 = .ok (.getfield 15, 3) := by decide +kernel
theorem dX0_clear_4 : decode cX0_clear 4 = .ok (.lconst 0, 1) := by decide +kernel
theorem dX0_clear_5 : decode cX0_clear 5 = .ok (.invokestatic 19, 3) := by decide +kernel
theorem dX0_clear_8 : decode cX0_clear 8 = .ok (.return_, 1) := by decide +kernel
theorem dX0_clearRow_0 : decode cX0_clearRow 0 = .ok (.aload_n 0, 1) := by decide +kernel
theorem dX0_clearRow_1 : decode cX0_clearRow 1 = .ok (.getfield 15, 3) := by decide +kernel
theorem dX0_clearRow_4 : decode cX0_clearRow 4 = .ok (.iload_n 1, 1) := by decide +kernel
theorem dX0_clearRow_5 : decode cX0_clearRow 5 = .ok (.iconst 4, 1) := by decide +kernel
theorem dX0_clearRow_6 : decode cX0_clearRow 6 = .ok (.imul, 1) := by decide +kernel
theorem dX0_clearRow_7 : decode cX0_clearRow 7 = .ok (.iload_n 1, 1) := by decide +kernel
theorem dX0_clearRow_8 : decode cX0_clearRow 8 = .ok (.iconst 1, 1) := by decide +kernel
theorem dX0_clearRow_9 : decode cX0_clearRow 9 = .ok (.iadd, 1) := by decide +kernel
theorem dX0_clearRow_10 : decode cX0_clearRow 10 = .ok (.iconst 4, 1) := by decide +kernel
theorem dX0_clearRow_11 : decode cX0_clearRow 11 = .ok (.imul, 1) := by decide +kernel
theorem dX0_clearRow_12 : decode cX0_clearRow 12 = .ok (.lconst 0, 1) := by decide +kernel
theorem dX0_clearRow_13 : decode cX0_clearRow 13 = .ok (.invokestatic 25, 3) := by decide +kernel
theorem dX0_clearRow_16 : decode cX0_clearRow 16 = .ok (.return_, 1) := by decide +kernel
theorem dX0_has_0 : decode cX0_has 0 = .ok (.aload_n 0, 1) := by decide +kernel
theorem dX0_has_1 : decode cX0_has 1 = .ok (.getfield 15, 3) := by decide +kernel
theorem dX0_has_4 : decode cX0_has 4 = .ok (.iload_n 1, 1) := by decide +kernel
theorem dX0_has_5 : decode cX0_has 5 = .ok (.iconst 4, 1) := by decide +kernel
theorem dX0_has_6 : decode cX0_has 6 = .ok (.imul, 1) := by decide +kernel
theorem dX0_has_7 : decode cX0_has 7 = .ok (.iload_n 2, 1) := by decide +kernel
theorem dX0_has_8 : decode cX0_has 8 = .ok (.bipush 6, 2) := by decide +kernel
theorem dX0_has_10 : decode cX0_has 10 = .ok (.ishr, 1) := by decide +kernel
theorem dX0_has_11 : decode cX0_has 11 = .ok (.iadd, 1) := by decide +kernel
theorem dX0_has_12 : decode cX0_has 12 = .ok (.laload, 1) := by decide +kernel
theorem dX0_has_13 : decode cX0_has 13 = .ok (.iload_n 2, 1) := by decide +kernel
theorem dX0_has_14 : decode cX0_has 14 = .ok (.bipush 63, 2) := by decide +kernel
theorem dX0_has_16 : decode cX0_has 16 = .ok (.iand, 1) := by decide +kernel
theorem dX0_has_17 : decode cX0_has 17 = .ok (.lushr, 1) := by decide +kernel
theorem dX0_has_18 : decode cX0_has 18 = .ok (.lconst 1, 1) := by decide +kernel
theorem dX0_has_19 : decode cX0_has 19 = .ok (.land, 1) := by decide +kernel
theorem dX0_has_20 : decode cX0_has 20 = .ok (.lconst 0, 1) := by decide +kernel
theorem dX0_has_21 : decode cX0_has 21 = .ok (.lcmp, 1) := by decide +kernel
theorem dX0_has_22 : decode cX0_has 22 = .ok (.ifCond .eq 7, 3) := by decide +kernel
theorem dX0_has_25 : decode cX0_has 25 = .ok (.iconst 1, 1) := by decide +kernel
theorem dX0_has_26 : decode cX0_has 26 = .ok (.goto 4, 3) := by decide +kernel
theorem dX0_has_29 : decode cX0_has 29 = .ok (.iconst 0, 1) := by decide +kernel
theorem dX0_has_30 : decode cX0_has 30 = .ok (.ireturn, 1) := by decide +kernel
theorem dX0_put_0 : decode cX0_put 0 = .ok (.aload_n 0, 1) := by decide +kernel
theorem dX0_put_1 : decode cX0_put 1 = .ok (.getfield 15, 3) := by decide +kernel
theorem dX0_put_4 : decode cX0_put 4 = .ok (.iload_n 1, 1) := by decide +kernel
theorem dX0_put_5 : decode cX0_put 5 = .ok (.iconst 4, 1) := by decide +kernel
theorem dX0_put_6 : decode cX0_put 6 = .ok (.imul, 1) := by decide +kernel
theorem dX0_put_7 : decode cX0_put 7 = .ok (.iload_n 2, 1) := by decide +kernel
theorem dX0_put_8 : decode cX0_put 8 = .ok (.bipush 6, 2) := by decide +kernel
theorem dX0_put_10 : decode cX0_put 10 = .ok (.ishr, 1) := by decide +kernel
theorem dX0_put_11 : decode cX0_put 11 = .ok (.iadd, 1) := by decide +kernel
theorem dX0_put_12 : decode cX0_put 12 = .ok (.dup2, 1) := by decide +kernel
theorem dX0_put_13 : decode cX0_put 13 = .ok (.laload, 1) := by decide +kernel
theorem dX0_put_14 : decode cX0_put 14 = .ok (.lconst 1, 1) := by decide +kernel
theorem dX0_put_15 : decode cX0_put 15 = .ok (.iload_n 2, 1) := by decide +kernel
theorem dX0_put_16 : decode cX0_put 16 = .ok (.bipush 63, 2) := by decide +kernel
theorem dX0_put_18 : decode cX0_put 18 = .ok (.iand, 1) := by decide +kernel
theorem dX0_put_19 : decode cX0_put 19 = .ok (.lshl, 1) := by decide +kernel
theorem dX0_put_20 : decode cX0_put 20 = .ok (.lor, 1) := by decide +kernel
theorem dX0_put_21 : decode cX0_put 21 = .ok (.lastore, 1) := by decide +kernel
theorem dX0_put_22 : decode cX0_put 22 = .ok (.return_, 1) := by decide +kernel
theorem dX0_join_0 : decode cX0_join 0 = .ok (.iconst 0, 1) := by decide +kernel
theorem dX0_join_1 : decode cX0_join 1 = .ok (.istore 4, 2) := by decide +kernel
theorem dX0_join_3 : decode cX0_join 3 = .ok (.iload 4, 2) := by decide +kernel
theorem dX0_join_5 : decode cX0_join 5 = .ok (.iconst 4, 1) := by decide +kernel
theorem dX0_join_6 : decode cX0_join 6 = .ok (.if_icmp .ge 34, 3) := by decide +kernel
theorem dX0_join_9 : decode cX0_join 9 = .ok (.aload_n 0, 1) := by decide +kernel
theorem dX0_join_10 : decode cX0_join 10 = .ok (.getfield 15, 3) := by decide +kernel
theorem dX0_join_13 : decode cX0_join 13 = .ok (.iload_n 1, 1) := by decide +kernel
theorem dX0_join_14 : decode cX0_join 14 = .ok (.iconst 4, 1) := by decide +kernel
theorem dX0_join_15 : decode cX0_join 15 = .ok (.imul, 1) := by decide +kernel
theorem dX0_join_16 : decode cX0_join 16 = .ok (.iload 4, 2) := by decide +kernel
theorem dX0_join_18 : decode cX0_join 18 = .ok (.iadd, 1) := by decide +kernel
theorem dX0_join_19 : decode cX0_join 19 = .ok (.dup2, 1) := by decide +kernel
theorem dX0_join_20 : decode cX0_join 20 = .ok (.laload, 1) := by decide +kernel
theorem dX0_join_21 : decode cX0_join 21 = .ok (.aload_n 2, 1) := by decide +kernel
theorem dX0_join_22 : decode cX0_join 22 = .ok (.getfield 15, 3) := by decide +kernel
theorem dX0_join_25 : decode cX0_join 25 = .ok (.iload_n 3, 1) := by decide +kernel
theorem dX0_join_26 : decode cX0_join 26 = .ok (.iconst 4, 1) := by decide +kernel
theorem dX0_join_27 : decode cX0_join 27 = .ok (.imul, 1) := by decide +kernel
theorem dX0_join_28 : decode cX0_join 28 = .ok (.iload 4, 2) := by decide +kernel
theorem dX0_join_30 : decode cX0_join 30 = .ok (.iadd, 1) := by decide +kernel
theorem dX0_join_31 : decode cX0_join 31 = .ok (.laload, 1) := by decide +kernel
theorem dX0_join_32 : decode cX0_join 32 = .ok (.lor, 1) := by decide +kernel
theorem dX0_join_33 : decode cX0_join 33 = .ok (.lastore, 1) := by decide +kernel
theorem dX0_join_34 : decode cX0_join 34 = .ok (.iinc 4 1, 3) := by decide +kernel
theorem dX0_join_37 : decode cX0_join 37 = .ok (.goto (-34), 3) := by decide +kernel
theorem dX0_join_40 : decode cX0_join 40 = .ok (.return_, 1) := by decide +kernel
theorem dX0_size_0 : decode cX0_size 0 = .ok (.aload_n 0, 1) := by decide +kernel
theorem dX0_size_1 : decode cX0_size 1 = .ok (.iload_n 1, 1) := by decide +kernel
theorem dX0_size_2 : decode cX0_size 2 = .ok (.aload_n 0, 1) := by decide +kernel
theorem dX0_size_3 : decode cX0_size 3 = .ok (.iload_n 1, 1) := by decide +kernel
theorem dX0_size_4 : decode cX0_size 4 = .ok (.invokevirtual 28, 3) := by decide +kernel
theorem dX0_size_7 : decode cX0_size 7 = .ok (.ireturn, 1) := by decide +kernel
theorem dX0_sizeInCommon_0 : decode cX0_sizeInCommon 0 = .ok (.iconst 0, 1) := by decide +kernel
theorem dX0_sizeInCommon_1 : decode cX0_sizeInCommon 1 = .ok (.istore 4, 2) := by decide +kernel
theorem dX0_sizeInCommon_3 : decode cX0_sizeInCommon 3 = .ok (.iconst 0, 1) := by decide +kernel
theorem dX0_sizeInCommon_4 : decode cX0_sizeInCommon 4 = .ok (.istore 5, 2) := by decide +kernel
theorem dX0_sizeInCommon_6 : decode cX0_sizeInCommon 6 = .ok (.iload 5, 2) := by decide +kernel
theorem dX0_sizeInCommon_8 : decode cX0_sizeInCommon 8 = .ok (.iconst 4, 1) := by decide +kernel
theorem dX0_sizeInCommon_9 : decode cX0_sizeInCommon 9 = .ok (.if_icmp .ge 40, 3) := by decide +kernel
theorem dX0_sizeInCommon_12 : decode cX0_sizeInCommon 12 = .ok (.iload 4, 2) := by decide +kernel
theorem dX0_sizeInCommon_14 : decode cX0_sizeInCommon 14 = .ok (.aload_n 0, 1) := by decide +kernel
theorem dX0_sizeInCommon_15 : decode cX0_sizeInCommon 15 = .ok (.getfield 15, 3) := by decide +kernel
theorem dX0_sizeInCommon_18 : decode cX0_sizeInCommon 18 = .ok (.iload_n 1, 1) := by decide +kernel
theorem dX0_sizeInCommon_19 : decode cX0_sizeInCommon 19 = .ok (.iconst 4, 1) := by decide +kernel
theorem dX0_sizeInCommon_20 : decode cX0_sizeInCommon 20 = .ok (.imul, 1) := by decide +kernel
theorem dX0_sizeInCommon_21 : decode cX0_sizeInCommon 21 = .ok (.iload 5, 2) := by decide +kernel
theorem dX0_sizeInCommon_23 : decode cX0_sizeInCommon 23 = .ok (.iadd, 1) := by decide +kernel
theorem dX0_sizeInCommon_24 : decode cX0_sizeInCommon 24 = .ok (.laload, 1) := by decide +kernel
theorem dX0_sizeInCommon_25 : decode cX0_sizeInCommon 25 = .ok (.aload_n 2, 1) := by decide +kernel
theorem dX0_sizeInCommon_26 : decode cX0_sizeInCommon 26 = .ok (.getfield 15, 3) := by decide +kernel
theorem dX0_sizeInCommon_29 : decode cX0_sizeInCommon 29 = .ok (.iload_n 3, 1) := by decide +kernel
theorem dX0_sizeInCommon_30 : decode cX0_sizeInCommon 30 = .ok (.iconst 4, 1) := by decide +kernel
theorem dX0_sizeInCommon_31 : decode cX0_sizeInCommon 31 = .ok (.imul, 1) := by decide +kernel
theorem dX0_sizeInCommon_32 : decode cX0_sizeInCommon 32 = .ok (.iload 5, 2) := by decide +kernel
theorem dX0_sizeInCommon_34 : decode cX0_sizeInCommon 34 = .ok (.iadd, 1) := by decide +kernel
theorem dX0_sizeInCommon_35 : decode cX0_sizeInCommon 35 = .ok (.laload, 1) := by decide +kernel
theorem dX0_sizeInCommon_36 : decode cX0_sizeInCommon 36 = .ok (.land, 1) := by decide +kernel
theorem dX0_sizeInCommon_37 : decode cX0_sizeInCommon 37 = .ok (.invokestatic 32, 3) := by decide +kernel
theorem dX0_sizeInCommon_40 : decode cX0_sizeInCommon 40 = .ok (.iadd, 1) := by decide +kernel
theorem dX0_sizeInCommon_41 : decode cX0_sizeInCommon 41 = .ok (.istore 4, 2) := by decide +kernel
theorem dX0_sizeInCommon_43 : decode cX0_sizeInCommon 43 = .ok (.iinc 5 1, 3) := by decide +kernel
theorem dX0_sizeInCommon_46 : decode cX0_sizeInCommon 46 = .ok (.goto (-40), 3) := by decide +kernel
theorem dX0_sizeInCommon_49 : decode cX0_sizeInCommon 49 = .ok (.iload 4, 2) := by decide +kernel
theorem dX0_sizeInCommon_51 : decode cX0_sizeInCommon 51 = .ok (.ireturn, 1) := by decide +kernel
theorem dX0_rowsWith_0 : decode cX0_rowsWith 0 = .ok (.iconst 0, 1) := by decide +kernel
theorem dX0_rowsWith_1 : decode cX0_rowsWith 1 = .ok (.istore_n 2, 1) := by decide +kernel
theorem dX0_rowsWith_2 : decode cX0_rowsWith 2 = .ok (.iconst 0, 1) := by decide +kernel
theorem dX0_rowsWith_3 : decode cX0_rowsWith 3 = .ok (.istore_n 3, 1) := by decide +kernel
theorem dX0_rowsWith_4 : decode cX0_rowsWith 4 = .ok (.iload_n 3, 1) := by decide +kernel
theorem dX0_rowsWith_5 : decode cX0_rowsWith 5 = .ok (.aload_n 0, 1) := by decide +kernel
theorem dX0_rowsWith_6 : decode cX0_rowsWith 6 = .ok (.getfield 9, 3) := by decide +kernel
theorem dX0_rowsWith_9 : decode cX0_rowsWith 9 = .ok (.if_icmp .ge 26, 3) := by decide +kernel
theorem dX0_rowsWith_12 : decode cX0_rowsWith 12 = .ok (.iload_n 2, 1) := by decide +kernel
theorem dX0_rowsWith_13 : decode cX0_rowsWith 13 = .ok (.aload_n 0, 1) := by decide +kernel
theorem dX0_rowsWith_14 : decode cX0_rowsWith 14 = .ok (.iload_n 3, 1) := by decide +kernel
theorem dX0_rowsWith_15 : decode cX0_rowsWith 15 = .ok (.iload_n 1, 1) := by decide +kernel
theorem dX0_rowsWith_16 : decode cX0_rowsWith 16 = .ok (.invokevirtual 38, 3) := by decide +kernel
theorem dX0_rowsWith_19 : decode cX0_rowsWith 19 = .ok (.ifCond .eq 7, 3) := by decide +kernel
theorem dX0_rowsWith_22 : decode cX0_rowsWith 22 = .ok (.iconst 1, 1) := by decide +kernel
theorem dX0_rowsWith_23 : decode cX0_rowsWith 23 = .ok (.goto 4, 3) := by decide +kernel
theorem dX0_rowsWith_26 : decode cX0_rowsWith 26 = .ok (.iconst 0, 1) := by decide +kernel
theorem dX0_rowsWith_27 : decode cX0_rowsWith 27 = .ok (.iadd, 1) := by decide +kernel
theorem dX0_rowsWith_28 : decode cX0_rowsWith 28 = .ok (.istore_n 2, 1) := by decide +kernel
theorem dX0_rowsWith_29 : decode cX0_rowsWith 29 = .ok (.iinc 3 1, 3) := by decide +kernel
theorem dX0_rowsWith_32 : decode cX0_rowsWith 32 = .ok (.goto (-28), 3) := by decide +kernel
theorem dX0_rowsWith_35 : decode cX0_rowsWith 35 = .ok (.iload_n 2, 1) := by decide +kernel
theorem dX0_rowsWith_36 : decode cX0_rowsWith 36 = .ok (.ireturn, 1) := by decide +kernel
theorem dX1_init_0 : decode cX1_init 0 = .ok (.aload_n 0, 1) := by decide +kernel
theorem dX1_init_1 : decode cX1_init 1 = .ok (.invokespecial 3, 3) := by decide +kernel
theorem dX1_init_4 : decode cX1_init 4 = .ok (.aload_n 0, 1) := by decide +kernel
theorem dX1_init_5 : decode cX1_init 5 = .ok (.sipush 240, 3) := by decide +kernel
theorem dX1_init_8 : decode cX1_init 8 = .ok (.newarray .int, 2) := by decide +kernel
theorem dX1_init_10 : decode cX1_init 10 = .ok (.putfield 9, 3) := by decide +kernel
theorem dX1_init_13 : decode cX1_init 13 = .ok (.aload_n 0, 1) := by decide +kernel
theorem dX1_init_14 : decode cX1_init 14 = .ok (.new 15, 3) := by decide +kernel
theorem dX1_init_17 : decode cX1_init 17 = .ok (.dup, 1) := by decide +kernel
theorem dX1_init_18 : decode cX1_init 18 = .ok (.sipush 240, 3) := by decide +kernel
theorem dX1_init_21 : decode cX1_init 21 = .ok (.invokespecial 17, 3) := by decide +kernel
theorem dX1_init_24 : decode cX1_init 24 = .ok (.putfield 20, 3) := by decide +kernel
theorem dX1_init_27 : decode cX1_init 27 = .ok (.aload_n 0, 1) := by decide +kernel
theorem dX1_init_28 : decode cX1_init 28 = .ok (.new 15, 3) := by decide +kernel
theorem dX1_init_31 : decode cX1_init 31 = .ok (.dup, 1) := by decide +kernel
theorem dX1_init_32 : decode cX1_init 32 = .ok (.sipush 240, 3) := by decide +kernel
theorem dX1_init_35 : decode cX1_init 35 = .ok (.invokespecial 17, 3) := by decide +kernel
theorem dX1_init_38 : decode cX1_init 38 = .ok (.putfield 24, 3) := by decide +kernel
theorem dX1_init_41 : decode cX1_init 41 = .ok (.aload_n 0, 1) := by decide +kernel
theorem dX1_init_42 : decode cX1_init 42 = .ok (.new 15, 3) := by decide +kernel
theorem dX1_init_45 : decode cX1_init 45 = .ok (.dup, 1) := by decide +kernel
theorem dX1_init_46 : decode cX1_init 46 = .ok (.sipush 240, 3) := by decide +kernel
theorem dX1_init_49 : decode cX1_init 49 = .ok (.invokespecial 17, 3) := by decide +kernel
theorem dX1_init_52 : decode cX1_init 52 = .ok (.putfield 27, 3) := by decide +kernel
theorem dX1_init_55 : decode cX1_init 55 = .ok (.aload_n 0, 1) := by decide +kernel
theorem dX1_init_56 : decode cX1_init 56 = .ok (.aload_n 1, 1) := by decide +kernel
theorem dX1_init_57 : decode cX1_init 57 = .ok (.putfield 30, 3) := by decide +kernel
theorem dX1_init_60 : decode cX1_init 60 = .ok (.aload_n 0, 1) := by decide +kernel
theorem dX1_init_61 : decode cX1_init 61 = .ok (.aload_n 2, 1) := by decide +kernel
theorem dX1_init_62 : decode cX1_init 62 = .ok (.putfield 34, 3) := by decide +kernel
theorem dX1_init_65 : decode cX1_init 65 = .ok (.return_, 1) := by decide +kernel
theorem dX1_clear_0 : decode cX1_clear 0 = .ok (.aload_n 0, 1) := by decide +kernel
theorem dX1_clear_1 : decode cX1_clear 1 = .ok (.iload_n 1, 1) := by decide +kernel
theorem dX1_clear_2 : decode cX1_clear 2 = .ok (.putfield 38, 3) := by decide +kernel
theorem dX1_clear_5 : decode cX1_clear 5 = .ok (.aload_n 0, 1) := by decide +kernel
theorem dX1_clear_6 : decode cX1_clear 6 = .ok (.iconst 0, 1) := by decide +kernel
theorem dX1_clear_7 : decode cX1_clear 7 = .ok (.putfield 42, 3) := by decide +kernel
theorem dX1_clear_10 : decode cX1_clear 10 = .ok (.return_, 1) := by decide +kernel
theorem dX1_isYes_0 : decode cX1_isYes 0 = .ok (.aload_n 0, 1) := by decide +kernel
theorem dX1_isYes_1 : decode cX1_isYes 1 = .ok (.getfield 24, 3) := by decide +kernel
theorem dX1_isYes_4 : decode cX1_isYes 4 = .ok (.iload_n 2, 1) := by decide +kernel
theorem dX1_isYes_5 : decode cX1_isYes 5 = .ok (.iload_n 1, 1) := by decide +kernel
theorem dX1_isYes_6 : decode cX1_isYes 6 = .ok (.invokevirtual 45, 3) := by decide +kernel
theorem dX1_isYes_9 : decode cX1_isYes 9 = .ok (.ireturn, 1) := by decide +kernel
theorem dX1_decides_0 : decode cX1_decides 0 = .ok (.aload_n 0, 1) := by decide +kernel
theorem dX1_decides_1 : decode cX1_decides 1 = .ok (.getfield 27, 3) := by decide +kernel
theorem dX1_decides_4 : decode cX1_decides 4 = .ok (.iload_n 2, 1) := by decide +kernel
theorem dX1_decides_5 : decode cX1_decides 5 = .ok (.iload_n 1, 1) := by decide +kernel
theorem dX1_decides_6 : decode cX1_decides 6 = .ok (.invokevirtual 45, 3) := by decide +kernel
theorem dX1_decides_9 : decode cX1_decides 9 = .ok (.ireturn, 1) := by decide +kernel
theorem dX1_take_0 : decode cX1_take 0 = .ok (.aload_n 0, 1) := by decide +kernel
theorem dX1_take_1 : decode cX1_take 1 = .ok (.getfield 34, 3) := by decide +kernel
theorem dX1_take_4 : decode cX1_take 4 = .ok (.getfield 49, 3) := by decide +kernel
theorem dX1_take_7 : decode cX1_take 7 = .ok (.iload_n 1, 1) := by decide +kernel
theorem dX1_take_8 : decode cX1_take 8 = .ok (.baload, 1) := by decide +kernel
theorem dX1_take_9 : decode cX1_take 9 = .ok (.ifCond .ne 4, 3) := by decide +kernel
theorem dX1_take_12 : decode cX1_take 12 = .ok (.return_, 1) := by decide +kernel
theorem dX1_take_13 : decode cX1_take 13 = .ok (.aload_n 0, 1) := by decide +kernel
theorem dX1_take_14 : decode cX1_take 14 = .ok (.iload_n 1, 1) := by decide +kernel
theorem dX1_take_15 : decode cX1_take 15 = .ok (.invokevirtual 55, 3) := by decide +kernel
theorem dX1_take_18 : decode cX1_take 18 = .ok (.aload_n 0, 1) := by decide +kernel
theorem dX1_take_19 : decode cX1_take 19 = .ok (.getfield 24, 3) := by decide +kernel
theorem dX1_take_22 : decode cX1_take 22 = .ok (.iload_n 1, 1) := by decide +kernel
theorem dX1_take_23 : decode cX1_take 23 = .ok (.invokevirtual 58, 3) := by decide +kernel
theorem dX1_take_26 : decode cX1_take 26 = .ok (.aload_n 0, 1) := by decide +kernel
theorem dX1_take_27 : decode cX1_take 27 = .ok (.getfield 27, 3) := by decide +kernel
theorem dX1_take_30 : decode cX1_take 30 = .ok (.iload_n 1, 1) := by decide +kernel
theorem dX1_take_31 : decode cX1_take 31 = .ok (.invokevirtual 58, 3) := by decide +kernel
theorem dX1_take_34 : decode cX1_take 34 = .ok (.iconst 0, 1) := by decide +kernel
theorem dX1_take_35 : decode cX1_take 35 = .ok (.istore_n 2, 1) := by decide +kernel
theorem dX1_take_36 : decode cX1_take 36 = .ok (.iload_n 2, 1) := by decide +kernel
theorem dX1_take_37 : decode cX1_take 37 = .ok (.aload_n 0, 1) := by decide +kernel
theorem dX1_take_38 : decode cX1_take 38 = .ok (.getfield 42, 3) := by decide +kernel
theorem dX1_take_41 : decode cX1_take 41 = .ok (.if_icmp .ge 46, 3) := by decide +kernel
theorem dX1_take_44 : decode cX1_take 44 = .ok (.aload_n 0, 1) := by decide +kernel
theorem dX1_take_45 : decode cX1_take 45 = .ok (.getfield 34, 3) := by decide +kernel
theorem dX1_take_48 : decode cX1_take 48 = .ok (.getfield 61, 3) := by decide +kernel
theorem dX1_take_51 : decode cX1_take 51 = .ok (.aload_n 0, 1) := by decide +kernel
theorem dX1_take_52 : decode cX1_take 52 = .ok (.getfield 9, 3) := by decide +kernel
theorem dX1_take_55 : decode cX1_take 55 = .ok (.iload_n 2, 1) := by decide +kernel
theorem dX1_take_56 : decode cX1_take 56 = .ok (.iaload, 1) := by decide +kernel
theorem dX1_take_57 : decode cX1_take 57 = .ok (.iaload, 1) := by decide +kernel
theorem dX1_take_58 : decode cX1_take 58 = .ok (.aload_n 0, 1) := by decide +kernel
theorem dX1_take_59 : decode cX1_take 59 = .ok (.getfield 34, 3) := by decide +kernel
theorem dX1_take_62 : decode cX1_take 62 = .ok (.getfield 61, 3) := by decide +kernel
theorem dX1_take_65 : decode cX1_take 65 = .ok (.iload_n 1, 1) := by decide +kernel
theorem dX1_take_66 : decode cX1_take 66 = .ok (.iaload, 1) := by decide +kernel
theorem dX1_take_67 : decode cX1_take 67 = .ok (.if_icmp .ge 14, 3) := by decide +kernel
theorem dX1_take_70 : decode cX1_take 70 = .ok (.aload_n 0, 1) := by decide +kernel
theorem dX1_take_71 : decode cX1_take 71 = .ok (.iload_n 1, 1) := by decide +kernel
theorem dX1_take_72 : decode cX1_take 72 = .ok (.aload_n 0, 1) := by decide +kernel
theorem dX1_take_73 : decode cX1_take 73 = .ok (.getfield 9, 3) := by decide +kernel
theorem dX1_take_76 : decode cX1_take 76 = .ok (.iload_n 2, 1) := by decide +kernel
theorem dX1_take_77 : decode cX1_take 77 = .ok (.iaload, 1) := by decide +kernel
theorem dX1_take_78 : decode cX1_take 78 = .ok (.invokevirtual 64, 3) := by decide +kernel
theorem dX1_take_81 : decode cX1_take 81 = .ok (.iinc 2 1, 3) := by decide +kernel
theorem dX1_take_84 : decode cX1_take 84 = .ok (.goto (-48), 3) := by decide +kernel
theorem dX1_take_87 : decode cX1_take 87 = .ok (.iconst 0, 1) := by decide +kernel
theorem dX1_take_88 : decode cX1_take 88 = .ok (.istore_n 2, 1) := by decide +kernel
theorem dX1_take_89 : decode cX1_take 89 = .ok (.iload_n 2, 1) := by decide +kernel
theorem dX1_take_90 : decode cX1_take 90 = .ok (.aload_n 0, 1) := by decide +kernel
theorem dX1_take_91 : decode cX1_take 91 = .ok (.getfield 42, 3) := by decide +kernel
theorem dX1_take_94 : decode cX1_take 94 = .ok (.if_icmp .ge 46, 3) := by decide +kernel
theorem dX1_take_97 : decode cX1_take 97 = .ok (.aload_n 0, 1) := by decide +kernel
theorem dX1_take_98 : decode cX1_take 98 = .ok (.getfield 34, 3) := by decide +kernel
theorem dX1_take_101 : decode cX1_take 101 = .ok (.getfield 61, 3) := by decide +kernel
theorem dX1_take_104 : decode cX1_take 104 = .ok (.aload_n 0, 1) := by decide +kernel
theorem dX1_take_105 : decode cX1_take 105 = .ok (.getfield 9, 3) := by decide +kernel
theorem dX1_take_108 : decode cX1_take 108 = .ok (.iload_n 2, 1) := by decide +kernel
theorem dX1_take_109 : decode cX1_take 109 = .ok (.iaload, 1) := by decide +kernel
theorem dX1_take_110 : decode cX1_take 110 = .ok (.iaload, 1) := by decide +kernel
theorem dX1_take_111 : decode cX1_take 111 = .ok (.aload_n 0, 1) := by decide +kernel
theorem dX1_take_112 : decode cX1_take 112 = .ok (.getfield 34, 3) := by decide +kernel
theorem dX1_take_115 : decode cX1_take 115 = .ok (.getfield 61, 3) := by decide +kernel
theorem dX1_take_118 : decode cX1_take 118 = .ok (.iload_n 1, 1) := by decide +kernel
theorem dX1_take_119 : decode cX1_take 119 = .ok (.iaload, 1) := by decide +kernel
theorem dX1_take_120 : decode cX1_take 120 = .ok (.if_icmp .le 14, 3) := by decide +kernel
theorem dX1_take_123 : decode cX1_take 123 = .ok (.aload_n 0, 1) := by decide +kernel
theorem dX1_take_124 : decode cX1_take 124 = .ok (.aload_n 0, 1) := by decide +kernel
theorem dX1_take_125 : decode cX1_take 125 = .ok (.getfield 9, 3) := by decide +kernel
theorem dX1_take_128 : decode cX1_take 128 = .ok (.iload_n 2, 1) := by decide +kernel
theorem dX1_take_129 : decode cX1_take 129 = .ok (.iaload, 1) := by decide +kernel
theorem dX1_take_130 : decode cX1_take 130 = .ok (.iload_n 1, 1) := by decide +kernel
theorem dX1_take_131 : decode cX1_take 131 = .ok (.invokevirtual 64, 3) := by decide +kernel
theorem dX1_take_134 : decode cX1_take 134 = .ok (.iinc 2 1, 3) := by decide +kernel
theorem dX1_take_137 : decode cX1_take 137 = .ok (.goto (-48), 3) := by decide +kernel
theorem dX1_take_140 : decode cX1_take 140 = .ok (.aload_n 0, 1) := by decide +kernel
theorem dX1_take_141 : decode cX1_take 141 = .ok (.getfield 9, 3) := by decide +kernel
theorem dX1_take_144 : decode cX1_take 144 = .ok (.aload_n 0, 1) := by decide +kernel
theorem dX1_take_145 : decode cX1_take 145 = .ok (.getfield 42, 3) := by decide +kernel
theorem dX1_take_148 : decode cX1_take 148 = .ok (.iload_n 1, 1) := by decide +kernel
theorem dX1_take_149 : decode cX1_take 149 = .ok (.iastore, 1) := by decide +kernel
theorem dX1_take_150 : decode cX1_take 150 = .ok (.aload_n 0, 1) := by decide +kernel
theorem dX1_take_151 : decode cX1_take 151 = .ok (.dup, 1) := by decide +kernel
theorem dX1_take_152 : decode cX1_take 152 = .ok (.getfield 42, 3) := by decide +kernel
theorem dX1_take_155 : decode cX1_take 155 = .ok (.iconst 1, 1) := by decide +kernel
theorem dX1_take_156 : decode cX1_take 156 = .ok (.iadd, 1) := by decide +kernel
theorem dX1_take_157 : decode cX1_take 157 = .ok (.putfield 42, 3) := by decide +kernel
theorem dX1_take_160 : decode cX1_take 160 = .ok (.return_, 1) := by decide +kernel
theorem dX1_findElectors_0 : decode cX1_findElectors 0 = .ok (.aload_n 0, 1) := by decide +kernel
theorem dX1_findElectors_1 : decode cX1_findElectors 1 = .ok (.getfield 20, 3) := by decide +kernel
theorem dX1_findElectors_4 : decode cX1_findElectors 4 = .ok (.iload_n 1, 1) := by decide +kernel
theorem dX1_findElectors_5 : decode cX1_findElectors 5 = .ok (.invokevirtual 58, 3) := by decide +kernel
theorem dX1_findElectors_8 : decode cX1_findElectors 8 = .ok (.iconst 0, 1) := by decide +kernel
theorem dX1_findElectors_9 : decode cX1_findElectors 9 = .ok (.istore_n 2, 1) := by decide +kernel
theorem dX1_findElectors_10 : decode cX1_findElectors 10 = .ok (.iload_n 2, 1) := by decide +kernel
theorem dX1_findElectors_11 : decode cX1_findElectors 11 = .ok (.aload_n 0, 1) := by decide +kernel
theorem dX1_findElectors_12 : decode cX1_findElectors 12 = .ok (.getfield 42, 3) := by decide +kernel
theorem dX1_findElectors_15 : decode cX1_findElectors 15 = .ok (.if_icmp .ge 63, 3) := by decide +kernel
theorem dX1_findElectors_18 : decode cX1_findElectors 18 = .ok (.aload_n 0, 1) := by decide +kernel
theorem dX1_findElectors_19 : decode cX1_findElectors 19 = .ok (.getfield 9, 3) := by decide +kernel
theorem dX1_findElectors_22 : decode cX1_findElectors 22 = .ok (.iload_n 2, 1) := by decide +kernel
theorem dX1_findElectors_23 : decode cX1_findElectors 23 = .ok (.iaload, 1) := by decide +kernel
theorem dX1_findElectors_24 : decode cX1_findElectors 24 = .ok (.istore_n 3, 1) := by decide +kernel
theorem dX1_findElectors_25 : decode cX1_findElectors 25 = .ok (.aload_n 0, 1) := by decide +kernel
theorem dX1_findElectors_26 : decode cX1_findElectors 26 = .ok (.getfield 34, 3) := by decide +kernel
theorem dX1_findElectors_29 : decode cX1_findElectors 29 = .ok (.getfield 61, 3) := by decide +kernel
theorem dX1_findElectors_32 : decode cX1_findElectors 32 = .ok (.iload_n 3, 1) := by decide +kernel
theorem dX1_findElectors_33 : decode cX1_findElectors 33 = .ok (.iaload, 1) := by decide +kernel
theorem dX1_findElectors_34 : decode cX1_findElectors 34 = .ok (.aload_n 0, 1) := by decide +kernel
theorem dX1_findElectors_35 : decode cX1_findElectors 35 = .ok (.getfield 34, 3) := by decide +kernel
theorem dX1_findElectors_38 : decode cX1_findElectors 38 = .ok (.getfield 61, 3) := by decide +kernel
theorem dX1_findElectors_41 : decode cX1_findElectors 41 = .ok (.iload_n 1, 1) := by decide +kernel
theorem dX1_findElectors_42 : decode cX1_findElectors 42 = .ok (.iaload, 1) := by decide +kernel
theorem dX1_findElectors_43 : decode cX1_findElectors 43 = .ok (.iconst 1, 1) := by decide +kernel
theorem dX1_findElectors_44 : decode cX1_findElectors 44 = .ok (.isub, 1) := by decide +kernel
theorem dX1_findElectors_45 : decode cX1_findElectors 45 = .ok (.if_icmp .ne 27, 3) := by decide +kernel
theorem dX1_findElectors_48 : decode cX1_findElectors 48 = .ok (.aload_n 0, 1) := by decide +kernel
theorem dX1_findElectors_49 : decode cX1_findElectors 49 = .ok (.getfield 34, 3) := by decide +kernel
theorem dX1_findElectors_52 : decode cX1_findElectors 52 = .ok (.getfield 68, 3) := by decide +kernel
theorem dX1_findElectors_55 : decode cX1_findElectors 55 = .ok (.iload_n 1, 1) := by decide +kernel
theorem dX1_findElectors_56 : decode cX1_findElectors 56 = .ok (.iload_n 3, 1) := by decide +kernel
theorem dX1_findElectors_57 : decode cX1_findElectors 57 = .ok (.invokevirtual 45, 3) := by decide +kernel
theorem dX1_findElectors_60 : decode cX1_findElectors 60 = .ok (.ifCond .eq 12, 3) := by decide +kernel
theorem dX1_findElectors_63 : decode cX1_findElectors 63 = .ok (.aload_n 0, 1) := by decide +kernel
theorem dX1_findElectors_64 : decode cX1_findElectors 64 = .ok (.getfield 20, 3) := by decide +kernel
theorem dX1_findElectors_67 : decode cX1_findElectors 67 = .ok (.iload_n 1, 1) := by decide +kernel
theorem dX1_findElectors_68 : decode cX1_findElectors 68 = .ok (.iload_n 3, 1) := by decide +kernel
theorem dX1_findElectors_69 : decode cX1_findElectors 69 = .ok (.invokevirtual 71, 3) := by decide +kernel
theorem dX1_findElectors_72 : decode cX1_findElectors 72 = .ok (.iinc 2 1, 3) := by decide +kernel
theorem dX1_findElectors_75 : decode cX1_findElectors 75 = .ok (.goto (-65), 3) := by decide +kernel
theorem dX1_findElectors_78 : decode cX1_findElectors 78 = .ok (.return_, 1) := by decide +kernel
theorem dX1_castVote_0 : decode cX1_castVote 0 = .ok (.aload_n 0, 1) := by decide +kernel
theorem dX1_castVote_1 : decode cX1_castVote 1 = .ok (.getfield 34, 3) := by decide +kernel
theorem dX1_castVote_4 : decode cX1_castVote 4 = .ok (.getfield 61, 3) := by decide +kernel
theorem dX1_castVote_7 : decode cX1_castVote 7 = .ok (.iload_n 1, 1) := by decide +kernel
theorem dX1_castVote_8 : decode cX1_castVote 8 = .ok (.iaload, 1) := by decide +kernel
theorem dX1_castVote_9 : decode cX1_castVote 9 = .ok (.aload_n 0, 1) := by decide +kernel
theorem dX1_castVote_10 : decode cX1_castVote 10 = .ok (.getfield 34, 3) := by decide +kernel
theorem dX1_castVote_13 : decode cX1_castVote 13 = .ok (.getfield 61, 3) := by decide +kernel
theorem dX1_castVote_16 : decode cX1_castVote 16 = .ok (.iload_n 2, 1) := by decide +kernel
theorem dX1_castVote_17 : decode cX1_castVote 17 = .ok (.iaload, 1) := by decide +kernel
theorem dX1_castVote_18 : decode cX1_castVote 18 = .ok (.isub, 1) := by decide +kernel
theorem dX1_castVote_19 : decode cX1_castVote 19 = .ok (.istore_n 3, 1) := by decide +kernel
theorem dX1_castVote_20 : decode cX1_castVote 20 = .ok (.iload_n 3, 1) := by decide +kernel
theorem dX1_castVote_21 : decode cX1_castVote 21 = .ok (.iconst 1, 1) := by decide +kernel
theorem dX1_castVote_22 : decode cX1_castVote 22 = .ok (.if_icmp .ne 23, 3) := by decide +kernel
theorem dX1_castVote_25 : decode cX1_castVote 25 = .ok (.aload_n 0, 1) := by decide +kernel
theorem dX1_castVote_26 : decode cX1_castVote 26 = .ok (.iload_n 1, 1) := by decide +kernel
theorem dX1_castVote_27 : decode cX1_castVote 27 = .ok (.iload_n 2, 1) := by decide +kernel
theorem dX1_castVote_28 : decode cX1_castVote 28 = .ok (.aload_n 0, 1) := by decide +kernel
theorem dX1_castVote_29 : decode cX1_castVote 29 = .ok (.getfield 34, 3) := by decide +kernel
theorem dX1_castVote_32 : decode cX1_castVote 32 = .ok (.getfield 74, 3) := by decide +kernel
theorem dX1_castVote_35 : decode cX1_castVote 35 = .ok (.iload_n 1, 1) := by decide +kernel
theorem dX1_castVote_36 : decode cX1_castVote 36 = .ok (.iload_n 2, 1) := by decide +kernel
theorem dX1_castVote_37 : decode cX1_castVote 37 = .ok (.invokevirtual 45, 3) := by decide +kernel
theorem dX1_castVote_40 : decode cX1_castVote 40 = .ok (.iconst 0, 1) := by decide +kernel
theorem dX1_castVote_41 : decode cX1_castVote 41 = .ok (.invokevirtual 77, 3) := by decide +kernel
theorem dX1_castVote_44 : decode cX1_castVote 44 = .ok (.return_, 1) := by decide +kernel
theorem dX1_castVote_45 : decode cX1_castVote 45 = .ok (.aload_n 0, 1) := by decide +kernel
theorem dX1_castVote_46 : decode cX1_castVote 46 = .ok (.getfield 20, 3) := by decide +kernel
theorem dX1_castVote_49 : decode cX1_castVote 49 = .ok (.iload_n 1, 1) := by decide +kernel
theorem dX1_castVote_50 : decode cX1_castVote 50 = .ok (.aload_n 0, 1) := by decide +kernel
theorem dX1_castVote_51 : decode cX1_castVote 51 = .ok (.getfield 24, 3) := by decide +kernel
theorem dX1_castVote_54 : decode cX1_castVote 54 = .ok (.iload_n 2, 1) := by decide +kernel
theorem dX1_castVote_55 : decode cX1_castVote 55 = .ok (.invokevirtual 81, 3) := by decide +kernel
theorem dX1_castVote_58 : decode cX1_castVote 58 = .ok (.istore 4, 2) := by decide +kernel
theorem dX1_castVote_60 : decode cX1_castVote 60 = .ok (.aload_n 0, 1) := by decide +kernel
theorem dX1_castVote_61 : decode cX1_castVote 61 = .ok (.getfield 20, 3) := by decide +kernel
theorem dX1_castVote_64 : decode cX1_castVote 64 = .ok (.iload_n 1, 1) := by decide +kernel
theorem dX1_castVote_65 : decode cX1_castVote 65 = .ok (.invokevirtual 85, 3) := by decide +kernel
theorem dX1_castVote_68 : decode cX1_castVote 68 = .ok (.iload 4, 2) := by decide +kernel
theorem dX1_castVote_70 : decode cX1_castVote 70 = .ok (.isub, 1) := by decide +kernel
theorem dX1_castVote_71 : decode cX1_castVote 71 = .ok (.istore 5, 2) := by decide +kernel
theorem dX1_castVote_73 : decode cX1_castVote 73 = .ok (.iload 4, 2) := by decide +kernel
theorem dX1_castVote_75 : decode cX1_castVote 75 = .ok (.iload 5, 2) := by decide +kernel
theorem dX1_castVote_77 : decode cX1_castVote 77 = .ok (.if_icmp .lt 7, 3) := by decide +kernel
theorem dX1_castVote_80 : decode cX1_castVote 80 = .ok (.iconst 1, 1) := by decide +kernel
theorem dX1_castVote_81 : decode cX1_castVote 81 = .ok (.goto 4, 3) := by decide +kernel
theorem dX1_castVote_84 : decode cX1_castVote 84 = .ok (.iconst 0, 1) := by decide +kernel
theorem dX1_castVote_85 : decode cX1_castVote 85 = .ok (.istore 6, 2) := by decide +kernel
theorem dX1_castVote_87 : decode cX1_castVote 87 = .ok (.iload 4, 2) := by decide +kernel
theorem dX1_castVote_89 : decode cX1_castVote 89 = .ok (.iload 5, 2) := by decide +kernel
theorem dX1_castVote_91 : decode cX1_castVote 91 = .ok (.invokestatic 88, 3) := by decide +kernel
theorem dX1_castVote_94 : decode cX1_castVote 94 = .ok (.aload_n 0, 1) := by decide +kernel
theorem dX1_castVote_95 : decode cX1_castVote 95 = .ok (.getfield 38, 3) := by decide +kernel
theorem dX1_castVote_98 : decode cX1_castVote 98 = .ok (.invokestatic 94, 3) := by decide +kernel
theorem dX1_castVote_101 : decode cX1_castVote 101 = .ok (.istore 7, 2) := by decide +kernel
theorem dX1_castVote_103 : decode cX1_castVote 103 = .ok (.iload_n 3, 1) := by decide +kernel
theorem dX1_castVote_104 : decode cX1_castVote 104 = .ok (.iconst 4, 1) := by decide +kernel
theorem dX1_castVote_105 : decode cX1_castVote 105 = .ok (.irem, 1) := by decide +kernel
theorem dX1_castVote_106 : decode cX1_castVote 106 = .ok (.ifCond .eq 16, 3) := by decide +kernel
theorem dX1_castVote_109 : decode cX1_castVote 109 = .ok (.aload_n 0, 1) := by decide +kernel
theorem dX1_castVote_110 : decode cX1_castVote 110 = .ok (.iload_n 1, 1) := by decide +kernel
theorem dX1_castVote_111 : decode cX1_castVote 111 = .ok (.iload_n 2, 1) := by decide +kernel
theorem dX1_castVote_112 : decode cX1_castVote 112 = .ok (.iload 6, 2) := by decide +kernel
theorem dX1_castVote_114 : decode cX1_castVote 114 = .ok (.iload 7, 2) := by decide +kernel
theorem dX1_castVote_116 : decode cX1_castVote 116 = .ok (.invokevirtual 77, 3) := by decide +kernel
theorem dX1_castVote_119 : decode cX1_castVote 119 = .ok (.goto 37, 3) := by decide +kernel
theorem dX1_castVote_122 : decode cX1_castVote 122 = .ok (.aload_n 0, 1) := by decide +kernel
theorem dX1_castVote_123 : decode cX1_castVote 123 = .ok (.iload_n 1, 1) := by decide +kernel
theorem dX1_castVote_124 : decode cX1_castVote 124 = .ok (.iload_n 2, 1) := by decide +kernel
theorem dX1_castVote_125 : decode cX1_castVote 125 = .ok (.iload 7, 2) := by decide +kernel
theorem dX1_castVote_127 : decode cX1_castVote 127 = .ok (.ifCond .eq 8, 3) := by decide +kernel
theorem dX1_castVote_130 : decode cX1_castVote 130 = .ok (.iload 6, 2) := by decide +kernel
theorem dX1_castVote_132 : decode cX1_castVote 132 = .ok (.goto 20, 3) := by decide +kernel
theorem dX1_castVote_135 : decode cX1_castVote 135 = .ok (.aload_n 0, 1) := by decide +kernel
theorem dX1_castVote_136 : decode cX1_castVote 136 = .ok (.getfield 30, 3) := by decide +kernel
theorem dX1_castVote_139 : decode cX1_castVote 139 = .ok (.iload_n 1, 1) := by decide +kernel
theorem dX1_castVote_140 : decode cX1_castVote 140 = .ok (.iconst 4, 1) := by decide +kernel
theorem dX1_castVote_141 : decode cX1_castVote 141 = .ok (.invokevirtual 97, 3) := by decide +kernel
theorem dX1_castVote_144 : decode cX1_castVote 144 = .ok (.ifCond .ge 7, 3) := by decide +kernel
theorem dX1_castVote_147 : decode cX1_castVote 147 = .ok (.iconst 1, 1) := by decide +kernel
theorem dX1_castVote_148 : decode cX1_castVote 148 = .ok (.goto 4, 3) := by decide +kernel
theorem dX1_castVote_151 : decode cX1_castVote 151 = .ok (.iconst 0, 1) := by decide +kernel
theorem dX1_castVote_152 : decode cX1_castVote 152 = .ok (.iconst 0, 1) := by decide +kernel
theorem dX1_castVote_153 : decode cX1_castVote 153 = .ok (.invokevirtual 77, 3) := by decide +kernel
theorem dX1_castVote_156 : decode cX1_castVote 156 = .ok (.return_, 1) := by decide +kernel
theorem dX1_write_0 : decode cX1_write 0 = .ok (.iload_n 3, 1) := by decide +kernel
theorem dX1_write_1 : decode cX1_write 1 = .ok (.ifCond .eq 12, 3) := by decide +kernel
theorem dX1_write_4 : decode cX1_write 4 = .ok (.aload_n 0, 1) := by decide +kernel
theorem dX1_write_5 : decode cX1_write 5 = .ok (.getfield 24, 3) := by decide +kernel
theorem dX1_write_8 : decode cX1_write 8 = .ok (.iload_n 2, 1) := by decide +kernel
theorem dX1_write_9 : decode cX1_write 9 = .ok (.iload_n 1, 1) := by decide +kernel
theorem dX1_write_10 : decode cX1_write 10 = .ok (.invokevirtual 71, 3) := by decide +kernel
theorem dX1_write_13 : decode cX1_write 13 = .ok (.iload 4, 2) := by decide +kernel
theorem dX1_write_15 : decode cX1_write 15 = .ok (.ifCond .eq 12, 3) := by decide +kernel
theorem dX1_write_18 : decode cX1_write 18 = .ok (.aload_n 0, 1) := by decide +kernel
theorem dX1_write_19 : decode cX1_write 19 = .ok (.getfield 27, 3) := by decide +kernel
theorem dX1_write_22 : decode cX1_write 22 = .ok (.iload_n 2, 1) := by decide +kernel
theorem dX1_write_23 : decode cX1_write 23 = .ok (.iload_n 1, 1) := by decide +kernel
theorem dX1_write_24 : decode cX1_write 24 = .ok (.invokevirtual 71, 3) := by decide +kernel
theorem dX1_write_27 : decode cX1_write 27 = .ok (.return_, 1) := by decide +kernel
theorem dX2_init_0 : decode cX2_init 0 = .ok (.aload_n 0, 1) := by decide +kernel
theorem dX2_init_1 : decode cX2_init 1 = .ok (.invokespecial 3, 3) := by decide +kernel
theorem dX2_init_4 : decode cX2_init 4 = .ok (.aload_n 0, 1) := by decide +kernel
theorem dX2_init_5 : decode cX2_init 5 = .ok (.new 9, 3) := by decide +kernel
theorem dX2_init_8 : decode cX2_init 8 = .ok (.dup, 1) := by decide +kernel
theorem dX2_init_9 : decode cX2_init 9 = .ok (.invokespecial 11, 3) := by decide +kernel
theorem dX2_init_12 : decode cX2_init 12 = .ok (.putfield 12, 3) := by decide +kernel
theorem dX2_init_15 : decode cX2_init 15 = .ok (.aload_n 0, 1) := by decide +kernel
theorem dX2_init_16 : decode cX2_init 16 = .ok (.sipush 240, 3) := by decide +kernel
theorem dX2_init_19 : decode cX2_init 19 = .ok (.newarray .int, 2) := by decide +kernel
theorem dX2_init_21 : decode cX2_init 21 = .ok (.putfield 18, 3) := by decide +kernel
theorem dX2_init_24 : decode cX2_init 24 = .ok (.aload_n 0, 1) := by decide +kernel
theorem dX2_init_25 : decode cX2_init 25 = .ok (.sipush 240, 3) := by decide +kernel
theorem dX2_init_28 : decode cX2_init 28 = .ok (.newarray .int, 2) := by decide +kernel
theorem dX2_init_30 : decode cX2_init 30 = .ok (.putfield 22, 3) := by decide +kernel
theorem dX2_init_33 : decode cX2_init 33 = .ok (.aload_n 0, 1) := by decide +kernel
theorem dX2_init_34 : decode cX2_init 34 = .ok (.sipush 240, 3) := by decide +kernel
theorem dX2_init_37 : decode cX2_init 37 = .ok (.newarray .int, 2) := by decide +kernel
theorem dX2_init_39 : decode cX2_init 39 = .ok (.putfield 25, 3) := by decide +kernel
theorem dX2_init_42 : decode cX2_init 42 = .ok (.aload_n 0, 1) := by decide +kernel
theorem dX2_init_43 : decode cX2_init 43 = .ok (.sipush 240, 3) := by decide +kernel
theorem dX2_init_46 : decode cX2_init 46 = .ok (.newarray .long, 2) := by decide +kernel
theorem dX2_init_48 : decode cX2_init 48 = .ok (.putfield 28, 3) := by decide +kernel
theorem dX2_init_51 : decode cX2_init 51 = .ok (.aload_n 0, 1) := by decide +kernel
theorem dX2_init_52 : decode cX2_init 52 = .ok (.sipush 240, 3) := by decide +kernel
theorem dX2_init_55 : decode cX2_init 55 = .ok (.newarray .int, 2) := by decide +kernel
theorem dX2_init_57 : decode cX2_init 57 = .ok (.putfield 32, 3) := by decide +kernel
theorem dX2_init_60 : decode cX2_init 60 = .ok (.aload_n 0, 1) := by decide +kernel
theorem dX2_init_61 : decode cX2_init 61 = .ok (.sipush 720, 3) := by decide +kernel
theorem dX2_init_64 : decode cX2_init 64 = .ok (.newarray .int, 2) := by decide +kernel
theorem dX2_init_66 : decode cX2_init 66 = .ok (.putfield 35, 3) := by decide +kernel
theorem dX2_init_69 : decode cX2_init 69 = .ok (.aload_n 0, 1) := by decide +kernel
theorem dX2_init_70 : decode cX2_init 70 = .ok (.sipush 720, 3) := by decide +kernel
theorem dX2_init_73 : decode cX2_init 73 = .ok (.newarray .int, 2) := by decide +kernel
theorem dX2_init_75 : decode cX2_init 75 = .ok (.putfield 38, 3) := by decide +kernel
theorem dX2_init_78 : decode cX2_init 78 = .ok (.aload_n 0, 1) := by decide +kernel
theorem dX2_init_79 : decode cX2_init 79 = .ok (.sipush 1920, 3) := by decide +kernel
theorem dX2_init_82 : decode cX2_init 82 = .ok (.newarray .int, 2) := by decide +kernel
theorem dX2_init_84 : decode cX2_init 84 = .ok (.putfield 41, 3) := by decide +kernel
theorem dX2_init_87 : decode cX2_init 87 = .ok (.aload_n 0, 1) := by decide +kernel
theorem dX2_init_88 : decode cX2_init 88 = .ok (.new 44, 3) := by decide +kernel
theorem dX2_init_91 : decode cX2_init 91 = .ok (.dup, 1) := by decide +kernel
theorem dX2_init_92 : decode cX2_init 92 = .ok (.bipush 8, 2) := by decide +kernel
theorem dX2_init_94 : decode cX2_init 94 = .ok (.invokespecial 46, 3) := by decide +kernel
theorem dX2_init_97 : decode cX2_init 97 = .ok (.putfield 49, 3) := by decide +kernel
theorem dX2_init_100 : decode cX2_init 100 = .ok (.return_, 1) := by decide +kernel
theorem dX2_clear_0 : decode cX2_clear 0 = .ok (.aload_n 0, 1) := by decide +kernel
theorem dX2_clear_1 : decode cX2_clear 1 = .ok (.iconst 0, 1) := by decide +kernel
theorem dX2_clear_2 : decode cX2_clear 2 = .ok (.putfield 53, 3) := by decide +kernel
theorem dX2_clear_5 : decode cX2_clear 5 = .ok (.aload_n 0, 1) := by decide +kernel
theorem dX2_clear_6 : decode cX2_clear 6 = .ok (.getfield 49, 3) := by decide +kernel
theorem dX2_clear_9 : decode cX2_clear 9 = .ok (.invokevirtual 57, 3) := by decide +kernel
theorem dX2_clear_12 : decode cX2_clear 12 = .ok (.return_, 1) := by decide +kernel
theorem dX2_isFull_0 : decode cX2_isFull 0 = .ok (.aload_n 0, 1) := by decide +kernel
theorem dX2_isFull_1 : decode cX2_isFull 1 = .ok (.getfield 53, 3) := by decide +kernel
theorem dX2_isFull_4 : decode cX2_isFull 4 = .ok (.sipush 240, 3) := by decide +kernel
theorem dX2_isFull_7 : decode cX2_isFull 7 = .ok (.if_icmp .ne 7, 3) := by decide +kernel
theorem dX2_isFull_10 : decode cX2_isFull 10 = .ok (.iconst 1, 1) := by decide +kernel
theorem dX2_isFull_11 : decode cX2_isFull 11 = .ok (.goto 4, 3) := by decide +kernel
theorem dX2_isFull_14 : decode cX2_isFull 14 = .ok (.iconst 0, 1) := by decide +kernel
theorem dX2_isFull_15 : decode cX2_isFull 15 = .ok (.ireturn, 1) := by decide +kernel
theorem dX2_open_0 : decode cX2_open 0 = .ok (.aload_n 0, 1) := by decide +kernel
theorem dX2_open_1 : decode cX2_open 1 = .ok (.getfield 53, 3) := by decide +kernel
theorem dX2_open_4 : decode cX2_open 4 = .ok (.istore 6, 2) := by decide +kernel
theorem dX2_open_6 : decode cX2_open 6 = .ok (.aload_n 0, 1) := by decide +kernel
theorem dX2_open_7 : decode cX2_open 7 = .ok (.dup, 1) := by decide +kernel
theorem dX2_open_8 : decode cX2_open 8 = .ok (.getfield 53, 3) := by decide +kernel
theorem dX2_open_11 : decode cX2_open 11 = .ok (.iconst 1, 1) := by decide +kernel
theorem dX2_open_12 : decode cX2_open 12 = .ok (.iadd, 1) := by decide +kernel
theorem dX2_open_13 : decode cX2_open 13 = .ok (.putfield 53, 3) := by decide +kernel
theorem dX2_open_16 : decode cX2_open 16 = .ok (.aload_n 0, 1) := by decide +kernel
theorem dX2_open_17 : decode cX2_open 17 = .ok (.getfield 18, 3) := by decide +kernel
theorem dX2_open_20 : decode cX2_open 20 = .ok (.iload 6, 2) := by decide +kernel
theorem dX2_open_22 : decode cX2_open 22 = .ok (.iload_n 1, 1) := by decide +kernel
theorem dX2_open_23 : decode cX2_open 23 = .ok (.iastore, 1) := by decide +kernel
theorem dX2_open_24 : decode cX2_open 24 = .ok (.aload_n 0, 1) := by decide +kernel
theorem dX2_open_25 : decode cX2_open 25 = .ok (.getfield 22, 3) := by decide +kernel
theorem dX2_open_28 : decode cX2_open 28 = .ok (.iload 6, 2) := by decide +kernel
theorem dX2_open_30 : decode cX2_open 30 = .ok (.iload_n 2, 1) := by decide +kernel
theorem dX2_open_31 : decode cX2_open 31 = .ok (.iastore, 1) := by decide +kernel
theorem dX2_open_32 : decode cX2_open 32 = .ok (.aload_n 0, 1) := by decide +kernel
theorem dX2_open_33 : decode cX2_open 33 = .ok (.getfield 25, 3) := by decide +kernel
theorem dX2_open_36 : decode cX2_open 36 = .ok (.iload 6, 2) := by decide +kernel
theorem dX2_open_38 : decode cX2_open 38 = .ok (.iload_n 3, 1) := by decide +kernel
theorem dX2_open_39 : decode cX2_open 39 = .ok (.iastore, 1) := by decide +kernel
theorem dX2_open_40 : decode cX2_open 40 = .ok (.aload_n 0, 1) := by decide +kernel
theorem dX2_open_41 : decode cX2_open 41 = .ok (.getfield 28, 3) := by decide +kernel
theorem dX2_open_44 : decode cX2_open 44 = .ok (.iload 6, 2) := by decide +kernel
theorem dX2_open_46 : decode cX2_open 46 = .ok (.lload 4, 2) := by decide +kernel
theorem dX2_open_48 : decode cX2_open 48 = .ok (.lastore, 1) := by decide +kernel
theorem dX2_open_49 : decode cX2_open 49 = .ok (.aload_n 0, 1) := by decide +kernel
theorem dX2_open_50 : decode cX2_open 50 = .ok (.getfield 32, 3) := by decide +kernel
theorem dX2_open_53 : decode cX2_open 53 = .ok (.iload 6, 2) := by decide +kernel
theorem dX2_open_55 : decode cX2_open 55 = .ok (.iconst 0, 1) := by decide +kernel
theorem dX2_open_56 : decode cX2_open 56 = .ok (.iastore, 1) := by decide +kernel
theorem dX2_open_57 : decode cX2_open 57 = .ok (.iload 6, 2) := by decide +kernel
theorem dX2_open_59 : decode cX2_open 59 = .ok (.ireturn, 1) := by decide +kernel
theorem dX2_addTransaction_0 : decode cX2_addTransaction 0 = .ok (.iload_n 1, 1) := by decide +kernel
theorem dX2_addTransaction_1 : decode cX2_addTransaction 1 = .ok (.iconst 3, 1) := by decide +kernel
theorem dX2_addTransaction_2 : decode cX2_addTransaction 2 = .ok (.imul, 1) := by decide +kernel
theorem dX2_addTransaction_3 : decode cX2_addTransaction 3 = .ok (.aload_n 0, 1) := by decide +kernel
theorem dX2_addTransaction_4 : decode cX2_addTransaction 4 = .ok (.getfield 32, 3) := by decide +kernel
theorem dX2_addTransaction_7 : decode cX2_addTransaction 7 = .ok (.iload_n 1, 1) := by decide +kernel
theorem dX2_addTransaction_8 : decode cX2_addTransaction 8 = .ok (.iaload, 1) := by decide +kernel
theorem dX2_addTransaction_9 : decode cX2_addTransaction 9 = .ok (.iadd, 1) := by decide +kernel
theorem dX2_addTransaction_10 : decode cX2_addTransaction 10 = .ok (.istore 4, 2) := by decide +kernel
theorem dX2_addTransaction_12 : decode cX2_addTransaction 12 = .ok (.aload_n 0, 1) := by decide +kernel
theorem dX2_addTransaction_13 : decode cX2_addTransaction 13 = .ok (.getfield 35, 3) := by decide +kernel
theorem dX2_addTransaction_16 : decode cX2_addTransaction 16 = .ok (.iload 4, 2) := by decide +kernel
theorem dX2_addTransaction_18 : decode cX2_addTransaction 18 = .ok (.iload_n 2, 1) := by decide +kernel
theorem dX2_addTransaction_19 : decode cX2_addTransaction 19 = .ok (.iastore, 1) := by decide +kernel
theorem dX2_addTransaction_20 : decode cX2_addTransaction 20 = .ok (.aload_n 0, 1) := by decide +kernel
theorem dX2_addTransaction_21 : decode cX2_addTransaction 21 = .ok (.getfield 38, 3) := by decide +kernel
theorem dX2_addTransaction_24 : decode cX2_addTransaction 24 = .ok (.iload 4, 2) := by decide +kernel
theorem dX2_addTransaction_26 : decode cX2_addTransaction 26 = .ok (.iload_n 3, 1) := by decide +kernel
theorem dX2_addTransaction_27 : decode cX2_addTransaction 27 = .ok (.iastore, 1) := by decide +kernel
theorem dX2_addTransaction_28 : decode cX2_addTransaction 28 = .ok (.aload_n 0, 1) := by decide +kernel
theorem dX2_addTransaction_29 : decode cX2_addTransaction 29 = .ok (.getfield 32, 3) := by decide +kernel
theorem dX2_addTransaction_32 : decode cX2_addTransaction 32 = .ok (.iload_n 1, 1) := by decide +kernel
theorem dX2_addTransaction_33 : decode cX2_addTransaction 33 = .ok (.dup2, 1) := by decide +kernel
theorem dX2_addTransaction_34 : decode cX2_addTransaction 34 = .ok (.iaload, 1) := by decide +kernel
theorem dX2_addTransaction_35 : decode cX2_addTransaction 35 = .ok (.iconst 1, 1) := by decide +kernel
theorem dX2_addTransaction_36 : decode cX2_addTransaction 36 = .ok (.iadd, 1) := by decide +kernel
theorem dX2_addTransaction_37 : decode cX2_addTransaction 37 = .ok (.iastore, 1) := by decide +kernel
theorem dX2_addTransaction_38 : decode cX2_addTransaction 38 = .ok (.return_, 1) := by decide +kernel
theorem dX2_close_0 : decode cX2_close 0 = .ok (.aload_n 0, 1) := by decide +kernel
theorem dX2_close_1 : decode cX2_close 1 = .ok (.getfield 12, 3) := by decide +kernel
theorem dX2_close_4 : decode cX2_close 4 = .ok (.invokevirtual 60, 3) := by decide +kernel
theorem dX2_close_7 : decode cX2_close 7 = .ok (.aload_n 0, 1) := by decide +kernel
theorem dX2_close_8 : decode cX2_close 8 = .ok (.getfield 12, 3) := by decide +kernel
theorem dX2_close_11 : decode cX2_close 11 = .ok (.aload_n 0, 1) := by decide +kernel
theorem dX2_close_12 : decode cX2_close 12 = .ok (.getfield 18, 3) := by decide +kernel
theorem dX2_close_15 : decode cX2_close 15 = .ok (.iload_n 1, 1) := by decide +kernel
theorem dX2_close_16 : decode cX2_close 16 = .ok (.iaload, 1) := by decide +kernel
theorem dX2_close_17 : decode cX2_close 17 = .ok (.invokevirtual 63, 3) := by decide +kernel
theorem dX2_close_20 : decode cX2_close 20 = .ok (.aload_n 0, 1) := by decide +kernel
theorem dX2_close_21 : decode cX2_close 21 = .ok (.aload_n 0, 1) := by decide +kernel
theorem dX2_close_22 : decode cX2_close 22 = .ok (.getfield 22, 3) := by decide +kernel
theorem dX2_close_25 : decode cX2_close 25 = .ok (.iload_n 1, 1) := by decide +kernel
theorem dX2_close_26 : decode cX2_close 26 = .ok (.iaload, 1) := by decide +kernel
theorem dX2_close_27 : decode cX2_close 27 = .ok (.invokevirtual 66, 3) := by decide +kernel
theorem dX2_close_30 : decode cX2_close 30 = .ok (.aload_n 0, 1) := by decide +kernel
theorem dX2_close_31 : decode cX2_close 31 = .ok (.aload_n 0, 1) := by decide +kernel
theorem dX2_close_32 : decode cX2_close 32 = .ok (.getfield 25, 3) := by decide +kernel
theorem dX2_close_35 : decode cX2_close 35 = .ok (.iload_n 1, 1) := by decide +kernel
theorem dX2_close_36 : decode cX2_close 36 = .ok (.iaload, 1) := by decide +kernel
theorem dX2_close_37 : decode cX2_close 37 = .ok (.invokevirtual 66, 3) := by decide +kernel
theorem dX2_close_40 : decode cX2_close 40 = .ok (.aload_n 0, 1) := by decide +kernel
theorem dX2_close_41 : decode cX2_close 41 = .ok (.getfield 12, 3) := by decide +kernel
theorem dX2_close_44 : decode cX2_close 44 = .ok (.aload_n 0, 1) := by decide +kernel
theorem dX2_close_45 : decode cX2_close 45 = .ok (.getfield 28, 3) := by decide +kernel
theorem dX2_close_48 : decode cX2_close 48 = .ok (.iload_n 1, 1) := by decide +kernel
theorem dX2_close_49 : decode cX2_close 49 = .ok (.laload, 1) := by decide +kernel
theorem dX2_close_50 : decode cX2_close 50 = .ok (.invokevirtual 69, 3) := by decide +kernel
theorem dX2_close_53 : decode cX2_close 53 = .ok (.aload_n 0, 1) := by decide +kernel
theorem dX2_close_54 : decode cX2_close 54 = .ok (.getfield 12, 3) := by decide +kernel
theorem dX2_close_57 : decode cX2_close 57 = .ok (.aload_n 0, 1) := by decide +kernel
theorem dX2_close_58 : decode cX2_close 58 = .ok (.getfield 32, 3) := by decide +kernel
theorem dX2_close_61 : decode cX2_close 61 = .ok (.iload_n 1, 1) := by decide +kernel
theorem dX2_close_62 : decode cX2_close 62 = .ok (.iaload, 1) := by decide +kernel
theorem dX2_close_63 : decode cX2_close 63 = .ok (.invokevirtual 63, 3) := by decide +kernel
theorem dX2_close_66 : decode cX2_close 66 = .ok (.iconst 0, 1) := by decide +kernel
theorem dX2_close_67 : decode cX2_close 67 = .ok (.istore_n 2, 1) := by decide +kernel
theorem dX2_close_68 : decode cX2_close 68 = .ok (.iload_n 2, 1) := by decide +kernel
theorem dX2_close_69 : decode cX2_close 69 = .ok (.aload_n 0, 1) := by decide +kernel
theorem dX2_close_70 : decode cX2_close 70 = .ok (.getfield 32, 3) := by decide +kernel
theorem dX2_close_73 : decode cX2_close 73 = .ok (.iload_n 1, 1) := by decide +kernel
theorem dX2_close_74 : decode cX2_close 74 = .ok (.iaload, 1) := by decide +kernel
theorem dX2_close_75 : decode cX2_close 75 = .ok (.if_icmp .ge 43, 3) := by decide +kernel
theorem dX2_close_78 : decode cX2_close 78 = .ok (.aload_n 0, 1) := by decide +kernel
theorem dX2_close_79 : decode cX2_close 79 = .ok (.getfield 12, 3) := by decide +kernel
theorem dX2_close_82 : decode cX2_close 82 = .ok (.aload_n 0, 1) := by decide +kernel
theorem dX2_close_83 : decode cX2_close 83 = .ok (.getfield 35, 3) := by decide +kernel
theorem dX2_close_86 : decode cX2_close 86 = .ok (.iload_n 1, 1) := by decide +kernel
theorem dX2_close_87 : decode cX2_close 87 = .ok (.iconst 3, 1) := by decide +kernel
theorem dX2_close_88 : decode cX2_close 88 = .ok (.imul, 1) := by decide +kernel
theorem dX2_close_89 : decode cX2_close 89 = .ok (.iload_n 2, 1) := by decide +kernel
theorem dX2_close_90 : decode cX2_close 90 = .ok (.iadd, 1) := by decide +kernel
theorem dX2_close_91 : decode cX2_close 91 = .ok (.iaload, 1) := by decide +kernel
theorem dX2_close_92 : decode cX2_close 92 = .ok (.invokevirtual 63, 3) := by decide +kernel
theorem dX2_close_95 : decode cX2_close 95 = .ok (.aload_n 0, 1) := by decide +kernel
theorem dX2_close_96 : decode cX2_close 96 = .ok (.getfield 12, 3) := by decide +kernel
theorem dX2_close_99 : decode cX2_close 99 = .ok (.aload_n 0, 1) := by decide +kernel
theorem dX2_close_100 : decode cX2_close 100 = .ok (.getfield 38, 3) := by decide +kernel
theorem dX2_close_103 : decode cX2_close 103 = .ok (.iload_n 1, 1) := by decide +kernel
theorem dX2_close_104 : decode cX2_close 104 = .ok (.iconst 3, 1) := by decide +kernel
theorem dX2_close_105 : decode cX2_close 105 = .ok (.imul, 1) := by decide +kernel
theorem dX2_close_106 : decode cX2_close 106 = .ok (.iload_n 2, 1) := by decide +kernel
theorem dX2_close_107 : decode cX2_close 107 = .ok (.iadd, 1) := by decide +kernel
theorem dX2_close_108 : decode cX2_close 108 = .ok (.iaload, 1) := by decide +kernel
theorem dX2_close_109 : decode cX2_close 109 = .ok (.invokevirtual 73, 3) := by decide +kernel
theorem dX2_close_112 : decode cX2_close 112 = .ok (.iinc 2 1, 3) := by decide +kernel
theorem dX2_close_115 : decode cX2_close 115 = .ok (.goto (-47), 3) := by decide +kernel
theorem dX2_close_118 : decode cX2_close 118 = .ok (.aload_n 0, 1) := by decide +kernel
theorem dX2_close_119 : decode cX2_close 119 = .ok (.getfield 12, 3) := by decide +kernel
theorem dX2_close_122 : decode cX2_close 122 = .ok (.aload_n 0, 1) := by decide +kernel
theorem dX2_close_123 : decode cX2_close 123 = .ok (.getfield 41, 3) := by decide +kernel
theorem dX2_close_126 : decode cX2_close 126 = .ok (.iload_n 1, 1) := by decide +kernel
theorem dX2_close_127 : decode cX2_close 127 = .ok (.bipush 8, 2) := by decide +kernel
theorem dX2_close_129 : decode cX2_close 129 = .ok (.imul, 1) := by decide +kernel
theorem dX2_close_130 : decode cX2_close 130 = .ok (.invokevirtual 76, 3) := by decide +kernel
theorem dX2_close_133 : decode cX2_close 133 = .ok (.return_, 1) := by decide +kernel
theorem dX2_putParentHash_0 : decode cX2_putParentHash 0 = .ok (.iconst 0, 1) := by decide +kernel
theorem dX2_putParentHash_1 : decode cX2_putParentHash 1 = .ok (.istore_n 2, 1) := by decide +kernel
theorem dX2_putParentHash_2 : decode cX2_putParentHash 2 = .ok (.iload_n 2, 1) := by decide +kernel
theorem dX2_putParentHash_3 : decode cX2_putParentHash 3 = .ok (.bipush 8, 2) := by decide +kernel
theorem dX2_putParentHash_5 : decode cX2_putParentHash 5 = .ok (.if_icmp .ge 31, 3) := by decide +kernel
theorem dX2_putParentHash_8 : decode cX2_putParentHash 8 = .ok (.aload_n 0, 1) := by decide +kernel
theorem dX2_putParentHash_9 : decode cX2_putParentHash 9 = .ok (.getfield 12, 3) := by decide +kernel
theorem dX2_putParentHash_12 : decode cX2_putParentHash 12 = .ok (.iload_n 1, 1) := by decide +kernel
theorem dX2_putParentHash_13 : decode cX2_putParentHash 13 = .ok (.iconst (-1), 1) := by decide +kernel
theorem dX2_putParentHash_14 : decode cX2_putParentHash 14 = .ok (.if_icmp .ne 7, 3) := by decide +kernel
theorem dX2_putParentHash_17 : decode cX2_putParentHash 17 = .ok (.iconst 0, 1) := by decide +kernel
theorem dX2_putParentHash_18 : decode cX2_putParentHash 18 = .ok (.goto 9, 3) := by decide +kernel
theorem dX2_putParentHash_21 : decode cX2_putParentHash 21 = .ok (.aload_n 0, 1) := by decide +kernel
theorem dX2_putParentHash_22 : decode cX2_putParentHash 22 = .ok (.iload_n 1, 1) := by decide +kernel
theorem dX2_putParentHash_23 : decode cX2_putParentHash 23 = .ok (.iload_n 2, 1) := by decide +kernel
theorem dX2_putParentHash_24 : decode cX2_putParentHash 24 = .ok (.invokevirtual 80, 3) := by decide +kernel
theorem dX2_putParentHash_27 : decode cX2_putParentHash 27 = .ok (.invokevirtual 73, 3) := by decide +kernel
theorem dX2_putParentHash_30 : decode cX2_putParentHash 30 = .ok (.iinc 2 1, 3) := by decide +kernel
theorem dX2_putParentHash_33 : decode cX2_putParentHash 33 = .ok (.goto (-31), 3) := by decide +kernel
theorem dX2_putParentHash_36 : decode cX2_putParentHash 36 = .ok (.return_, 1) := by decide +kernel
theorem dX2_hashWord_0 : decode cX2_hashWord 0 = .ok (.aload_n 0, 1) := by decide +kernel
theorem dX2_hashWord_1 : decode cX2_hashWord 1 = .ok (.getfield 41, 3) := by decide +kernel
theorem dX2_hashWord_4 : decode cX2_hashWord 4 = .ok (.iload_n 1, 1) := by decide +kernel
theorem dX2_hashWord_5 : decode cX2_hashWord 5 = .ok (.bipush 8, 2) := by decide +kernel
theorem dX2_hashWord_7 : decode cX2_hashWord 7 = .ok (.imul, 1) := by decide +kernel
theorem dX2_hashWord_8 : decode cX2_hashWord 8 = .ok (.iload_n 2, 1) := by decide +kernel
theorem dX2_hashWord_9 : decode cX2_hashWord 9 = .ok (.iadd, 1) := by decide +kernel
theorem dX2_hashWord_10 : decode cX2_hashWord 10 = .ok (.iaload, 1) := by decide +kernel
theorem dX2_hashWord_11 : decode cX2_hashWord 11 = .ok (.ireturn, 1) := by decide +kernel
theorem dX2_hasOneOf_0 : decode cX2_hasOneOf 0 = .ok (.iconst 0, 1) := by decide +kernel
theorem dX2_hasOneOf_1 : decode cX2_hasOneOf 1 = .ok (.istore 6, 2) := by decide +kernel
theorem dX2_hasOneOf_3 : decode cX2_hasOneOf 3 = .ok (.iload 6, 2) := by decide +kernel
theorem dX2_hasOneOf_5 : decode cX2_hasOneOf 5 = .ok (.aload_n 0, 1) := by decide +kernel
theorem dX2_hasOneOf_6 : decode cX2_hasOneOf 6 = .ok (.getfield 53, 3) := by decide +kernel
theorem dX2_hasOneOf_9 : decode cX2_hasOneOf 9 = .ok (.if_icmp .ge 67, 3) := by decide +kernel
theorem dX2_hasOneOf_12 : decode cX2_hasOneOf 12 = .ok (.aload_n 0, 1) := by decide +kernel
theorem dX2_hasOneOf_13 : decode cX2_hasOneOf 13 = .ok (.getfield 18, 3) := by decide +kernel
theorem dX2_hasOneOf_16 : decode cX2_hasOneOf 16 = .ok (.iload 6, 2) := by decide +kernel
theorem dX2_hasOneOf_18 : decode cX2_hasOneOf 18 = .ok (.iaload, 1) := by decide +kernel
theorem dX2_hasOneOf_19 : decode cX2_hasOneOf 19 = .ok (.iload_n 1, 1) := by decide +kernel
theorem dX2_hasOneOf_20 : decode cX2_hasOneOf 20 = .ok (.if_icmp .ne 50, 3) := by decide +kernel
theorem dX2_hasOneOf_23 : decode cX2_hasOneOf 23 = .ok (.aload_n 0, 1) := by decide +kernel
theorem dX2_hasOneOf_24 : decode cX2_hasOneOf 24 = .ok (.getfield 22, 3) := by decide +kernel
theorem dX2_hasOneOf_27 : decode cX2_hasOneOf 27 = .ok (.iload 6, 2) := by decide +kernel
theorem dX2_hasOneOf_29 : decode cX2_hasOneOf 29 = .ok (.iaload, 1) := by decide +kernel
theorem dX2_hasOneOf_30 : decode cX2_hasOneOf 30 = .ok (.iload_n 2, 1) := by decide +kernel
theorem dX2_hasOneOf_31 : decode cX2_hasOneOf 31 = .ok (.if_icmp .ne 39, 3) := by decide +kernel
theorem dX2_hasOneOf_34 : decode cX2_hasOneOf 34 = .ok (.aload_n 0, 1) := by decide +kernel
theorem dX2_hasOneOf_35 : decode cX2_hasOneOf 35 = .ok (.getfield 25, 3) := by decide +kernel
theorem dX2_hasOneOf_38 : decode cX2_hasOneOf 38 = .ok (.iload 6, 2) := by decide +kernel
theorem dX2_hasOneOf_40 : decode cX2_hasOneOf 40 = .ok (.iaload, 1) := by decide +kernel
theorem dX2_hasOneOf_41 : decode cX2_hasOneOf 41 = .ok (.iload_n 3, 1) := by decide +kernel
theorem dX2_hasOneOf_42 : decode cX2_hasOneOf 42 = .ok (.if_icmp .ne 28, 3) := by decide +kernel
theorem dX2_hasOneOf_45 : decode cX2_hasOneOf 45 = .ok (.aload_n 0, 1) := by decide +kernel
theorem dX2_hasOneOf_46 : decode cX2_hasOneOf 46 = .ok (.getfield 28, 3) := by decide +kernel
theorem dX2_hasOneOf_49 : decode cX2_hasOneOf 49 = .ok (.iload 6, 2) := by decide +kernel
theorem dX2_hasOneOf_51 : decode cX2_hasOneOf 51 = .ok (.laload, 1) := by decide +kernel
theorem dX2_hasOneOf_52 : decode cX2_hasOneOf 52 = .ok (.lload 4, 2) := by decide +kernel
theorem dX2_hasOneOf_54 : decode cX2_hasOneOf 54 = .ok (.lcmp, 1) := by decide +kernel
theorem dX2_hasOneOf_55 : decode cX2_hasOneOf 55 = .ok (.ifCond .ne 15, 3) := by decide +kernel
theorem dX2_hasOneOf_58 : decode cX2_hasOneOf 58 = .ok (.aload_n 0, 1) := by decide +kernel
theorem dX2_hasOneOf_59 : decode cX2_hasOneOf 59 = .ok (.getfield 32, 3) := by decide +kernel
theorem dX2_hasOneOf_62 : decode cX2_hasOneOf 62 = .ok (.iload 6, 2) := by decide +kernel
theorem dX2_hasOneOf_64 : decode cX2_hasOneOf 64 = .ok (.iaload, 1) := by decide +kernel
theorem dX2_hasOneOf_65 : decode cX2_hasOneOf 65 = .ok (.ifCond .ne 5, 3) := by decide +kernel
theorem dX2_hasOneOf_68 : decode cX2_hasOneOf 68 = .ok (.iconst 1, 1) := by decide +kernel
theorem dX2_hasOneOf_69 : decode cX2_hasOneOf 69 = .ok (.ireturn, 1) := by decide +kernel
theorem dX2_hasOneOf_70 : decode cX2_hasOneOf 70 = .ok (.iinc 6 1, 3) := by decide +kernel
theorem dX2_hasOneOf_73 : decode cX2_hasOneOf 73 = .ok (.goto (-70), 3) := by decide +kernel
theorem dX2_hasOneOf_76 : decode cX2_hasOneOf 76 = .ok (.iconst 0, 1) := by decide +kernel
theorem dX2_hasOneOf_77 : decode cX2_hasOneOf 77 = .ok (.ireturn, 1) := by decide +kernel
theorem dX3_init_0 : decode cX3_init 0 = .ok (.aload_n 0, 1) := by decide +kernel
theorem dX3_init_1 : decode cX3_init 1 = .ok (.invokespecial 3, 3) := by decide +kernel
theorem dX3_init_4 : decode cX3_init 4 = .ok (.aload_n 0, 1) := by decide +kernel
theorem dX3_init_5 : decode cX3_init 5 = .ok (.new 9, 3) := by decide +kernel
theorem dX3_init_8 : decode cX3_init 8 = .ok (.dup, 1) := by decide +kernel
theorem dX3_init_9 : decode cX3_init 9 = .ok (.sipush 240, 3) := by decide +kernel
theorem dX3_init_12 : decode cX3_init 12 = .ok (.invokespecial 11, 3) := by decide +kernel
theorem dX3_init_15 : decode cX3_init 15 = .ok (.putfield 14, 3) := by decide +kernel
theorem dX3_init_18 : decode cX3_init 18 = .ok (.aload_n 0, 1) := by decide +kernel
theorem dX3_init_19 : decode cX3_init 19 = .ok (.new 9, 3) := by decide +kernel
theorem dX3_init_22 : decode cX3_init 22 = .ok (.dup, 1) := by decide +kernel
theorem dX3_init_23 : decode cX3_init 23 = .ok (.sipush 240, 3) := by decide +kernel
theorem dX3_init_26 : decode cX3_init 26 = .ok (.invokespecial 11, 3) := by decide +kernel
theorem dX3_init_29 : decode cX3_init 29 = .ok (.putfield 20, 3) := by decide +kernel
theorem dX3_init_32 : decode cX3_init 32 = .ok (.aload_n 0, 1) := by decide +kernel
theorem dX3_init_33 : decode cX3_init 33 = .ok (.new 9, 3) := by decide +kernel
theorem dX3_init_36 : decode cX3_init 36 = .ok (.dup, 1) := by decide +kernel
theorem dX3_init_37 : decode cX3_init 37 = .ok (.sipush 240, 3) := by decide +kernel
theorem dX3_init_40 : decode cX3_init 40 = .ok (.invokespecial 11, 3) := by decide +kernel
theorem dX3_init_43 : decode cX3_init 43 = .ok (.putfield 23, 3) := by decide +kernel
theorem dX3_init_46 : decode cX3_init 46 = .ok (.aload_n 0, 1) := by decide +kernel
theorem dX3_init_47 : decode cX3_init 47 = .ok (.new 9, 3) := by decide +kernel
theorem dX3_init_50 : decode cX3_init 50 = .ok (.dup, 1) := by decide +kernel
theorem dX3_init_51 : decode cX3_init 51 = .ok (.bipush 8, 2) := by decide +kernel
theorem dX3_init_53 : decode cX3_init 53 = .ok (.invokespecial 11, 3) := by decide +kernel
theorem dX3_init_56 : decode cX3_init 56 = .ok (.putfield 26, 3) := by decide +kernel
theorem dX3_init_59 : decode cX3_init 59 = .ok (.aload_n 0, 1) := by decide +kernel
theorem dX3_init_60 : decode cX3_init 60 = .ok (.sipush 240, 3) := by decide +kernel
theorem dX3_init_63 : decode cX3_init 63 = .ok (.newarray .int, 2) := by decide +kernel
theorem dX3_init_65 : decode cX3_init 65 = .ok (.putfield 29, 3) := by decide +kernel
theorem dX3_init_68 : decode cX3_init 68 = .ok (.aload_n 0, 1) := by decide +kernel
theorem dX3_init_69 : decode cX3_init 69 = .ok (.sipush 240, 3) := by decide +kernel
theorem dX3_init_72 : decode cX3_init 72 = .ok (.newarray .int, 2) := by decide +kernel
theorem dX3_init_74 : decode cX3_init 74 = .ok (.putfield 33, 3) := by decide +kernel
theorem dX3_init_77 : decode cX3_init 77 = .ok (.aload_n 0, 1) := by decide +kernel
theorem dX3_init_78 : decode cX3_init 78 = .ok (.sipush 240, 3) := by decide +kernel
theorem dX3_init_81 : decode cX3_init 81 = .ok (.newarray .boolean, 2) := by decide +kernel
theorem dX3_init_83 : decode cX3_init 83 = .ok (.putfield 36, 3) := by decide +kernel
theorem dX3_init_86 : decode cX3_init 86 = .ok (.aload_n 0, 1) := by decide +kernel
theorem dX3_init_87 : decode cX3_init 87 = .ok (.bipush 8, 2) := by decide +kernel
theorem dX3_init_89 : decode cX3_init 89 = .ok (.newarray .int, 2) := by decide +kernel
theorem dX3_init_91 : decode cX3_init 91 = .ok (.putfield 40, 3) := by decide +kernel
theorem dX3_init_94 : decode cX3_init 94 = .ok (.aload_n 0, 1) := by decide +kernel
theorem dX3_init_95 : decode cX3_init 95 = .ok (.bipush 8, 2) := by decide +kernel
theorem dX3_init_97 : decode cX3_init 97 = .ok (.newarray .int, 2) := by decide +kernel
theorem dX3_init_99 : decode cX3_init 99 = .ok (.putfield 43, 3) := by decide +kernel
theorem dX3_init_102 : decode cX3_init 102 = .ok (.aload_n 0, 1) := by decide +kernel
theorem dX3_init_103 : decode cX3_init 103 = .ok (.bipush 8, 2) := by decide +kernel
theorem dX3_init_105 : decode cX3_init 105 = .ok (.newarray .int, 2) := by decide +kernel
theorem dX3_init_107 : decode cX3_init 107 = .ok (.putfield 46, 3) := by decide +kernel
theorem dX3_init_110 : decode cX3_init 110 = .ok (.aload_n 0, 1) := by decide +kernel
theorem dX3_init_111 : decode cX3_init 111 = .ok (.aload_n 1, 1) := by decide +kernel
theorem dX3_init_112 : decode cX3_init 112 = .ok (.putfield 49, 3) := by decide +kernel
theorem dX3_init_115 : decode cX3_init 115 = .ok (.return_, 1) := by decide +kernel
theorem dX3_clear_0 : decode cX3_clear 0 = .ok (.aload_n 0, 1) := by decide +kernel
theorem dX3_clear_1 : decode cX3_clear 1 = .ok (.iload_n 1, 1) := by decide +kernel
theorem dX3_clear_2 : decode cX3_clear 2 = .ok (.putfield 53, 3) := by decide +kernel
theorem dX3_clear_5 : decode cX3_clear 5 = .ok (.aload_n 0, 1) := by decide +kernel
theorem dX3_clear_6 : decode cX3_clear 6 = .ok (.iconst 0, 1) := by decide +kernel
theorem dX3_clear_7 : decode cX3_clear 7 = .ok (.putfield 57, 3) := by decide +kernel
theorem dX3_clear_10 : decode cX3_clear 10 = .ok (.aload_n 0, 1) := by decide +kernel
theorem dX3_clear_11 : decode cX3_clear 11 = .ok (.iconst 0, 1) := by decide +kernel
theorem dX3_clear_12 : decode cX3_clear 12 = .ok (.putfield 60, 3) := by decide +kernel
theorem dX3_clear_15 : decode cX3_clear 15 = .ok (.aload_n 0, 1) := by decide +kernel
theorem dX3_clear_16 : decode cX3_clear 16 = .ok (.getfield 40, 3) := by decide +kernel
theorem dX3_clear_19 : decode cX3_clear 19 = .ok (.iconst 0, 1) := by decide +kernel
theorem dX3_clear_20 : decode cX3_clear 20 = .ok (.invokestatic 63, 3) := by decide +kernel
theorem dX3_clear_23 : decode cX3_clear 23 = .ok (.return_, 1) := by decide +kernel
theorem dX3_take_0 : decode cX3_take 0 = .ok (.aload_n 0, 1) := by decide +kernel
theorem dX3_take_1 : decode cX3_take 1 = .ok (.iload_n 1, 1) := by decide +kernel
theorem dX3_take_2 : decode cX3_take 2 = .ok (.invokevirtual 69, 3) := by decide +kernel
theorem dX3_take_5 : decode cX3_take 5 = .ok (.aload_n 0, 1) := by decide +kernel
theorem dX3_take_6 : decode cX3_take 6 = .ok (.iload_n 1, 1) := by decide +kernel
theorem dX3_take_7 : decode cX3_take 7 = .ok (.invokevirtual 72, 3) := by decide +kernel
theorem dX3_take_10 : decode cX3_take 10 = .ok (.aload_n 0, 1) := by decide +kernel
theorem dX3_take_11 : decode cX3_take 11 = .ok (.iload_n 1, 1) := by decide +kernel
theorem dX3_take_12 : decode cX3_take 12 = .ok (.invokevirtual 75, 3) := by decide +kernel
theorem dX3_take_15 : decode cX3_take 15 = .ok (.aload_n 0, 1) := by decide +kernel
theorem dX3_take_16 : decode cX3_take 16 = .ok (.iload_n 1, 1) := by decide +kernel
theorem dX3_take_17 : decode cX3_take 17 = .ok (.invokevirtual 78, 3) := by decide +kernel
theorem dX3_take_20 : decode cX3_take 20 = .ok (.aload_n 0, 1) := by decide +kernel
theorem dX3_take_21 : decode cX3_take 21 = .ok (.iload_n 1, 1) := by decide +kernel
theorem dX3_take_22 : decode cX3_take 22 = .ok (.invokevirtual 81, 3) := by decide +kernel
theorem dX3_take_25 : decode cX3_take 25 = .ok (.return_, 1) := by decide +kernel
theorem dX3_findAncestors_0 : decode cX3_findAncestors 0 = .ok (.aload_n 0, 1) := by decide +kernel
theorem dX3_findAncestors_1 : decode cX3_findAncestors 1 = .ok (.getfield 49, 3) := by decide +kernel
theorem dX3_findAncestors_4 : decode cX3_findAncestors 4 = .ok (.getfield 84, 3) := by decide +kernel
theorem dX3_findAncestors_7 : decode cX3_findAncestors 7 = .ok (.iload_n 1, 1) := by decide +kernel
theorem dX3_findAncestors_8 : decode cX3_findAncestors 8 = .ok (.iaload, 1) := by decide +kernel
theorem dX3_findAncestors_9 : decode cX3_findAncestors 9 = .ok (.istore_n 2, 1) := by decide +kernel
theorem dX3_findAncestors_10 : decode cX3_findAncestors 10 = .ok (.aload_n 0, 1) := by decide +kernel
theorem dX3_findAncestors_11 : decode cX3_findAncestors 11 = .ok (.getfield 49, 3) := by decide +kernel
theorem dX3_findAncestors_14 : decode cX3_findAncestors 14 = .ok (.getfield 89, 3) := by decide +kernel
theorem dX3_findAncestors_17 : decode cX3_findAncestors 17 = .ok (.iload_n 1, 1) := by decide +kernel
theorem dX3_findAncestors_18 : decode cX3_findAncestors 18 = .ok (.iaload, 1) := by decide +kernel
theorem dX3_findAncestors_19 : decode cX3_findAncestors 19 = .ok (.istore_n 3, 1) := by decide +kernel
theorem dX3_findAncestors_20 : decode cX3_findAncestors 20 = .ok (.aload_n 0, 1) := by decide +kernel
theorem dX3_findAncestors_21 : decode cX3_findAncestors 21 = .ok (.getfield 14, 3) := by decide +kernel
theorem dX3_findAncestors_24 : decode cX3_findAncestors 24 = .ok (.iload_n 1, 1) := by decide +kernel
theorem dX3_findAncestors_25 : decode cX3_findAncestors 25 = .ok (.invokevirtual 92, 3) := by decide +kernel
theorem dX3_findAncestors_28 : decode cX3_findAncestors 28 = .ok (.aload_n 0, 1) := by decide +kernel
theorem dX3_findAncestors_29 : decode cX3_findAncestors 29 = .ok (.getfield 14, 3) := by decide +kernel
theorem dX3_findAncestors_32 : decode cX3_findAncestors 32 = .ok (.iload_n 1, 1) := by decide +kernel
theorem dX3_findAncestors_33 : decode cX3_findAncestors 33 = .ok (.iload_n 1, 1) := by decide +kernel
theorem dX3_findAncestors_34 : decode cX3_findAncestors 34 = .ok (.invokevirtual 95, 3) := by decide +kernel
theorem dX3_findAncestors_37 : decode cX3_findAncestors 37 = .ok (.iload_n 2, 1) := by decide +kernel
theorem dX3_findAncestors_38 : decode cX3_findAncestors 38 = .ok (.iconst (-1), 1) := by decide +kernel
theorem dX3_findAncestors_39 : decode cX3_findAncestors 39 = .ok (.if_icmp .eq 16, 3) := by decide +kernel
theorem dX3_findAncestors_42 : decode cX3_findAncestors 42 = .ok (.aload_n 0, 1) := by decide +kernel
theorem dX3_findAncestors_43 : decode cX3_findAncestors 43 = .ok (.getfield 14, 3) := by decide +kernel
theorem dX3_findAncestors_46 : decode cX3_findAncestors 46 = .ok (.iload_n 1, 1) := by decide +kernel
theorem dX3_findAncestors_47 : decode cX3_findAncestors 47 = .ok (.aload_n 0, 1) := by decide +kernel
theorem dX3_findAncestors_48 : decode cX3_findAncestors 48 = .ok (.getfield 14, 3) := by decide +kernel
theorem dX3_findAncestors_51 : decode cX3_findAncestors 51 = .ok (.iload_n 2, 1) := by decide +kernel
theorem dX3_findAncestors_52 : decode cX3_findAncestors 52 = .ok (.invokevirtual 99, 3) := by decide +kernel
theorem dX3_findAncestors_55 : decode cX3_findAncestors 55 = .ok (.iload_n 3, 1) := by decide +kernel
theorem dX3_findAncestors_56 : decode cX3_findAncestors 56 = .ok (.iconst (-1), 1) := by decide +kernel
theorem dX3_findAncestors_57 : decode cX3_findAncestors 57 = .ok (.if_icmp .eq 16, 3) := by decide +kernel
theorem dX3_findAncestors_60 : decode cX3_findAncestors 60 = .ok (.aload_n 0, 1) := by decide +kernel
theorem dX3_findAncestors_61 : decode cX3_findAncestors 61 = .ok (.getfield 14, 3) := by decide +kernel
theorem dX3_findAncestors_64 : decode cX3_findAncestors 64 = .ok (.iload_n 1, 1) := by decide +kernel
theorem dX3_findAncestors_65 : decode cX3_findAncestors 65 = .ok (.aload_n 0, 1) := by decide +kernel
theorem dX3_findAncestors_66 : decode cX3_findAncestors 66 = .ok (.getfield 14, 3) := by decide +kernel
theorem dX3_findAncestors_69 : decode cX3_findAncestors 69 = .ok (.iload_n 3, 1) := by decide +kernel
theorem dX3_findAncestors_70 : decode cX3_findAncestors 70 = .ok (.invokevirtual 99, 3) := by decide +kernel
theorem dX3_findAncestors_73 : decode cX3_findAncestors 73 = .ok (.aload_n 0, 1) := by decide +kernel
theorem dX3_findAncestors_74 : decode cX3_findAncestors 74 = .ok (.getfield 29, 3) := by decide +kernel
theorem dX3_findAncestors_77 : decode cX3_findAncestors 77 = .ok (.iload_n 1, 1) := by decide +kernel
theorem dX3_findAncestors_78 : decode cX3_findAncestors 78 = .ok (.iload_n 2, 1) := by decide +kernel
theorem dX3_findAncestors_79 : decode cX3_findAncestors 79 = .ok (.iconst (-1), 1) := by decide +kernel
theorem dX3_findAncestors_80 : decode cX3_findAncestors 80 = .ok (.if_icmp .ne 7, 3) := by decide +kernel
theorem dX3_findAncestors_83 : decode cX3_findAncestors 83 = .ok (.iconst 1, 1) := by decide +kernel
theorem dX3_findAncestors_84 : decode cX3_findAncestors 84 = .ok (.goto 11, 3) := by decide +kernel
theorem dX3_findAncestors_87 : decode cX3_findAncestors 87 = .ok (.aload_n 0, 1) := by decide +kernel
theorem dX3_findAncestors_88 : decode cX3_findAncestors 88 = .ok (.getfield 29, 3) := by decide +kernel
theorem dX3_findAncestors_91 : decode cX3_findAncestors 91 = .ok (.iload_n 2, 1) := by decide +kernel
theorem dX3_findAncestors_92 : decode cX3_findAncestors 92 = .ok (.iaload, 1) := by decide +kernel
theorem dX3_findAncestors_93 : decode cX3_findAncestors 93 = .ok (.iconst 1, 1) := by decide +kernel
theorem dX3_findAncestors_94 : decode cX3_findAncestors 94 = .ok (.iadd, 1) := by decide +kernel
theorem dX3_findAncestors_95 : decode cX3_findAncestors 95 = .ok (.iastore, 1) := by decide +kernel
theorem dX3_findAncestors_96 : decode cX3_findAncestors 96 = .ok (.return_, 1) := by decide +kernel
theorem dX3_countForks_0 : decode cX3_countForks 0 = .ok (.aload_n 0, 1) := by decide +kernel
theorem dX3_countForks_1 : decode cX3_countForks 1 = .ok (.getfield 49, 3) := by decide +kernel
theorem dX3_countForks_4 : decode cX3_countForks 4 = .ok (.getfield 103, 3) := by decide +kernel
theorem dX3_countForks_7 : decode cX3_countForks 7 = .ok (.iload_n 1, 1) := by decide +kernel
theorem dX3_countForks_8 : decode cX3_countForks 8 = .ok (.iaload, 1) := by decide +kernel
theorem dX3_countForks_9 : decode cX3_countForks 9 = .ok (.istore_n 2, 1) := by decide +kernel
theorem dX3_countForks_10 : decode cX3_countForks 10 = .ok (.aload_n 0, 1) := by decide +kernel
theorem dX3_countForks_11 : decode cX3_countForks 11 = .ok (.dup, 1) := by decide +kernel
theorem dX3_countForks_12 : decode cX3_countForks 12 = .ok (.getfield 57, 3) := by decide +kernel
theorem dX3_countForks_15 : decode cX3_countForks 15 = .ok (.aload_n 0, 1) := by decide +kernel
theorem dX3_countForks_16 : decode cX3_countForks 16 = .ok (.getfield 40, 3) := by decide +kernel
theorem dX3_countForks_19 : decode cX3_countForks 19 = .ok (.iload_n 2, 1) := by decide +kernel
theorem dX3_countForks_20 : decode cX3_countForks 20 = .ok (.iaload, 1) := by decide +kernel
theorem dX3_countForks_21 : decode cX3_countForks 21 = .ok (.aload_n 0, 1) := by decide +kernel
theorem dX3_countForks_22 : decode cX3_countForks 22 = .ok (.getfield 29, 3) := by decide +kernel
theorem dX3_countForks_25 : decode cX3_countForks 25 = .ok (.iload_n 1, 1) := by decide +kernel
theorem dX3_countForks_26 : decode cX3_countForks 26 = .ok (.iaload, 1) := by decide +kernel
theorem dX3_countForks_27 : decode cX3_countForks 27 = .ok (.iconst 1, 1) := by decide +kernel
theorem dX3_countForks_28 : decode cX3_countForks 28 = .ok (.isub, 1) := by decide +kernel
theorem dX3_countForks_29 : decode cX3_countForks 29 = .ok (.isub, 1) := by decide +kernel
theorem dX3_countForks_30 : decode cX3_countForks 30 = .ok (.iadd, 1) := by decide +kernel
theorem dX3_countForks_31 : decode cX3_countForks 31 = .ok (.putfield 57, 3) := by decide +kernel
theorem dX3_countForks_34 : decode cX3_countForks 34 = .ok (.aload_n 0, 1) := by decide +kernel
theorem dX3_countForks_35 : decode cX3_countForks 35 = .ok (.getfield 40, 3) := by decide +kernel
theorem dX3_countForks_38 : decode cX3_countForks 38 = .ok (.iload_n 2, 1) := by decide +kernel
theorem dX3_countForks_39 : decode cX3_countForks 39 = .ok (.dup2, 1) := by decide +kernel
theorem dX3_countForks_40 : decode cX3_countForks 40 = .ok (.iaload, 1) := by decide +kernel
theorem dX3_countForks_41 : decode cX3_countForks 41 = .ok (.iconst 1, 1) := by decide +kernel
theorem dX3_countForks_42 : decode cX3_countForks 42 = .ok (.iadd, 1) := by decide +kernel
theorem dX3_countForks_43 : decode cX3_countForks 43 = .ok (.iastore, 1) := by decide +kernel
theorem dX3_countForks_44 : decode cX3_countForks 44 = .ok (.return_, 1) := by decide +kernel
theorem dX3_findSeen_0 : decode cX3_findSeen 0 = .ok (.aload_n 0, 1) := by decide +kernel
theorem dX3_findSeen_1 : decode cX3_findSeen 1 = .ok (.iload_n 1, 1) := by decide +kernel
theorem dX3_findSeen_2 : decode cX3_findSeen 2 = .ok (.invokevirtual 106, 3) := by decide +kernel
theorem dX3_findSeen_5 : decode cX3_findSeen 5 = .ok (.aload_n 0, 1) := by decide +kernel
theorem dX3_findSeen_6 : decode cX3_findSeen 6 = .ok (.getfield 20, 3) := by decide +kernel
theorem dX3_findSeen_9 : decode cX3_findSeen 9 = .ok (.iload_n 1, 1) := by decide +kernel
theorem dX3_findSeen_10 : decode cX3_findSeen 10 = .ok (.invokevirtual 92, 3) := by decide +kernel
theorem dX3_findSeen_13 : decode cX3_findSeen 13 = .ok (.iconst 0, 1) := by decide +kernel
theorem dX3_findSeen_14 : decode cX3_findSeen 14 = .ok (.istore_n 2, 1) := by decide +kernel
theorem dX3_findSeen_15 : decode cX3_findSeen 15 = .ok (.iload_n 2, 1) := by decide +kernel
theorem dX3_findSeen_16 : decode cX3_findSeen 16 = .ok (.iload_n 1, 1) := by decide +kernel
theorem dX3_findSeen_17 : decode cX3_findSeen 17 = .ok (.if_icmp .gt 46, 3) := by decide +kernel
theorem dX3_findSeen_20 : decode cX3_findSeen 20 = .ok (.aload_n 0, 1) := by decide +kernel
theorem dX3_findSeen_21 : decode cX3_findSeen 21 = .ok (.getfield 14, 3) := by decide +kernel
theorem dX3_findSeen_24 : decode cX3_findSeen 24 = .ok (.iload_n 1, 1) := by decide +kernel
theorem dX3_findSeen_25 : decode cX3_findSeen 25 = .ok (.iload_n 2, 1) := by decide +kernel
theorem dX3_findSeen_26 : decode cX3_findSeen 26 = .ok (.invokevirtual 109, 3) := by decide +kernel
theorem dX3_findSeen_29 : decode cX3_findSeen 29 = .ok (.ifCond .eq 28, 3) := by decide +kernel
theorem dX3_findSeen_32 : decode cX3_findSeen 32 = .ok (.aload_n 0, 1) := by decide +kernel
theorem dX3_findSeen_33 : decode cX3_findSeen 33 = .ok (.aload_n 0, 1) := by decide +kernel
theorem dX3_findSeen_34 : decode cX3_findSeen 34 = .ok (.getfield 49, 3) := by decide +kernel
theorem dX3_findSeen_37 : decode cX3_findSeen 37 = .ok (.getfield 103, 3) := by decide +kernel
theorem dX3_findSeen_40 : decode cX3_findSeen 40 = .ok (.iload_n 2, 1) := by decide +kernel
theorem dX3_findSeen_41 : decode cX3_findSeen 41 = .ok (.iaload, 1) := by decide +kernel
theorem dX3_findSeen_42 : decode cX3_findSeen 42 = .ok (.invokevirtual 113, 3) := by decide +kernel
theorem dX3_findSeen_45 : decode cX3_findSeen 45 = .ok (.ifCond .ne 12, 3) := by decide +kernel
theorem dX3_findSeen_48 : decode cX3_findSeen 48 = .ok (.aload_n 0, 1) := by decide +kernel
theorem dX3_findSeen_49 : decode cX3_findSeen 49 = .ok (.getfield 20, 3) := by decide +kernel
theorem dX3_findSeen_52 : decode cX3_findSeen 52 = .ok (.iload_n 1, 1) := by decide +kernel
theorem dX3_findSeen_53 : decode cX3_findSeen 53 = .ok (.iload_n 2, 1) := by decide +kernel
theorem dX3_findSeen_54 : decode cX3_findSeen 54 = .ok (.invokevirtual 95, 3) := by decide +kernel
theorem dX3_findSeen_57 : decode cX3_findSeen 57 = .ok (.iinc 2 1, 3) := by decide +kernel
theorem dX3_findSeen_60 : decode cX3_findSeen 60 = .ok (.goto (-45), 3) := by decide +kernel
theorem dX3_findSeen_63 : decode cX3_findSeen 63 = .ok (.return_, 1) := by decide +kernel
theorem dX3_countAncestorsByCreator_0 : decode cX3_countAncestorsByCreator 0 = .ok (.aload_n 0, 1) := by decide +kernel
theorem dX3_countAncestorsByCreator_1 : decode cX3_countAncestorsByCreator 1 = .ok (.getfield 43, 3) := by decide +kernel
theorem dX3_countAncestorsByCreator_4 : decode cX3_countAncestorsByCreator 4 = .ok (.iconst 0, 1) := by decide +kernel
theorem dX3_countAncestorsByCreator_5 : decode cX3_countAncestorsByCreator 5 = .ok (.invokestatic 63, 3) := by decide +kernel
theorem dX3_countAncestorsByCreator_8 : decode cX3_countAncestorsByCreator 8 = .ok (.aload_n 0, 1) := by decide +kernel
theorem dX3_countAncestorsByCreator_9 : decode cX3_countAncestorsByCreator 9 = .ok (.getfield 46, 3) := by decide +kernel
theorem dX3_countAncestorsByCreator_12 : decode cX3_countAncestorsByCreator 12 = .ok (.iconst 0, 1) := by decide +kernel
theorem dX3_countAncestorsByCreator_13 : decode cX3_countAncestorsByCreator 13 = .ok (.invokestatic 63, 3) := by decide +kernel
theorem dX3_countAncestorsByCreator_16 : decode cX3_countAncestorsByCreator 16 = .ok (.iconst 0, 1) := by decide +kernel
theorem dX3_countAncestorsByCreator_17 : decode cX3_countAncestorsByCreator 17 = .ok (.istore_n 2, 1) := by decide +kernel
theorem dX3_countAncestorsByCreator_18 : decode cX3_countAncestorsByCreator 18 = .ok (.iload_n 2, 1) := by decide +kernel
theorem dX3_countAncestorsByCreator_19 : decode cX3_countAncestorsByCreator 19 = .ok (.iload_n 1, 1) := by decide +kernel
theorem dX3_countAncestorsByCreator_20 : decode cX3_countAncestorsByCreator 20 = .ok (.if_icmp .gt 62, 3) := by decide +kernel
theorem dX3_countAncestorsByCreator_23 : decode cX3_countAncestorsByCreator 23 = .ok (.aload_n 0, 1) := by decide +kernel
theorem dX3_countAncestorsByCreator_24 : decode cX3_countAncestorsByCreator 24 = .ok (.getfield 14, 3) := by decide +kernel
theorem dX3_countAncestorsByCreator_27 : decode cX3_countAncestorsByCreator 27 = .ok (.iload_n 1, 1) := by decide +kernel
theorem dX3_countAncestorsByCreator_28 : decode cX3_countAncestorsByCreator 28 = .ok (.iload_n 2, 1) := by decide +kernel
theorem dX3_countAncestorsByCreator_29 : decode cX3_countAncestorsByCreator 29 = .ok (.invokevirtual 109, 3) := by decide +kernel
theorem dX3_countAncestorsByCreator_32 : decode cX3_countAncestorsByCreator 32 = .ok (.ifCond .eq 44, 3) := by decide +kernel
theorem dX3_countAncestorsByCreator_35 : decode cX3_countAncestorsByCreator 35 = .ok (.aload_n 0, 1) := by decide +kernel
theorem dX3_countAncestorsByCreator_36 : decode cX3_countAncestorsByCreator 36 = .ok (.getfield 49, 3) := by decide +kernel
theorem dX3_countAncestorsByCreator_39 : decode cX3_countAncestorsByCreator 39 = .ok (.getfield 103, 3) := by decide +kernel
theorem dX3_countAncestorsByCreator_42 : decode cX3_countAncestorsByCreator 42 = .ok (.iload_n 2, 1) := by decide +kernel
theorem dX3_countAncestorsByCreator_43 : decode cX3_countAncestorsByCreator 43 = .ok (.iaload, 1) := by decide +kernel
theorem dX3_countAncestorsByCreator_44 : decode cX3_countAncestorsByCreator 44 = .ok (.istore_n 3, 1) := by decide +kernel
theorem dX3_countAncestorsByCreator_45 : decode cX3_countAncestorsByCreator 45 = .ok (.aload_n 0, 1) := by decide +kernel
theorem dX3_countAncestorsByCreator_46 : decode cX3_countAncestorsByCreator 46 = .ok (.getfield 43, 3) := by decide +kernel
theorem dX3_countAncestorsByCreator_49 : decode cX3_countAncestorsByCreator 49 = .ok (.iload_n 3, 1) := by decide +kernel
theorem dX3_countAncestorsByCreator_50 : decode cX3_countAncestorsByCreator 50 = .ok (.dup2, 1) := by decide +kernel
theorem dX3_countAncestorsByCreator_51 : decode cX3_countAncestorsByCreator 51 = .ok (.iaload, 1) := by decide +kernel
theorem dX3_countAncestorsByCreator_52 : decode cX3_countAncestorsByCreator 52 = .ok (.iconst 1, 1) := by decide +kernel
theorem dX3_countAncestorsByCreator_53 : decode cX3_countAncestorsByCreator 53 = .ok (.iadd, 1) := by decide +kernel
theorem dX3_countAncestorsByCreator_54 : decode cX3_countAncestorsByCreator 54 = .ok (.iastore, 1) := by decide +kernel
theorem dX3_countAncestorsByCreator_55 : decode cX3_countAncestorsByCreator 55 = .ok (.aload_n 0, 1) := by decide +kernel
theorem dX3_countAncestorsByCreator_56 : decode cX3_countAncestorsByCreator 56 = .ok (.getfield 46, 3) := by decide +kernel
theorem dX3_countAncestorsByCreator_59 : decode cX3_countAncestorsByCreator 59 = .ok (.iload_n 3, 1) := by decide +kernel
theorem dX3_countAncestorsByCreator_60 : decode cX3_countAncestorsByCreator 60 = .ok (.aload_n 0, 1) := by decide +kernel
theorem dX3_countAncestorsByCreator_61 : decode cX3_countAncestorsByCreator 61 = .ok (.getfield 46, 3) := by decide +kernel
theorem dX3_countAncestorsByCreator_64 : decode cX3_countAncestorsByCreator 64 = .ok (.iload_n 3, 1) := by decide +kernel
theorem dX3_countAncestorsByCreator_65 : decode cX3_countAncestorsByCreator 65 = .ok (.iaload, 1) := by decide +kernel
theorem dX3_countAncestorsByCreator_66 : decode cX3_countAncestorsByCreator 66 = .ok (.aload_n 0, 1) := by decide +kernel
theorem dX3_countAncestorsByCreator_67 : decode cX3_countAncestorsByCreator 67 = .ok (.getfield 29, 3) := by decide +kernel
theorem dX3_countAncestorsByCreator_70 : decode cX3_countAncestorsByCreator 70 = .ok (.iload_n 2, 1) := by decide +kernel
theorem dX3_countAncestorsByCreator_71 : decode cX3_countAncestorsByCreator 71 = .ok (.iaload, 1) := by decide +kernel
theorem dX3_countAncestorsByCreator_72 : decode cX3_countAncestorsByCreator 72 = .ok (.invokestatic 117, 3) := by decide +kernel
theorem dX3_countAncestorsByCreator_75 : decode cX3_countAncestorsByCreator 75 = .ok (.iastore, 1) := by decide +kernel
theorem dX3_countAncestorsByCreator_76 : decode cX3_countAncestorsByCreator 76 = .ok (.iinc 2 1, 3) := by decide +kernel
theorem dX3_countAncestorsByCreator_79 : decode cX3_countAncestorsByCreator 79 = .ok (.goto (-61), 3) := by decide +kernel
theorem dX3_countAncestorsByCreator_82 : decode cX3_countAncestorsByCreator 82 = .ok (.return_, 1) := by decide +kernel
theorem dX3_isForker_0 : decode cX3_isForker 0 = .ok (.aload_n 0, 1) := by decide +kernel
theorem dX3_isForker_1 : decode cX3_isForker 1 = .ok (.getfield 43, 3) := by decide +kernel
theorem dX3_isForker_4 : decode cX3_isForker 4 = .ok (.iload_n 1, 1) := by decide +kernel
theorem dX3_isForker_5 : decode cX3_isForker 5 = .ok (.iaload, 1) := by decide +kernel
theorem dX3_isForker_6 : decode cX3_isForker 6 = .ok (.aload_n 0, 1) := by decide +kernel
theorem dX3_isForker_7 : decode cX3_isForker 7 = .ok (.getfield 46, 3) := by decide +kernel
theorem dX3_isForker_10 : decode cX3_isForker 10 = .ok (.iload_n 1, 1) := by decide +kernel
theorem dX3_isForker_11 : decode cX3_isForker 11 = .ok (.iaload, 1) := by decide +kernel
theorem dX3_isForker_12 : decode cX3_isForker 12 = .ok (.if_icmp .le 7, 3) := by decide +kernel
theorem dX3_isForker_15 : decode cX3_isForker 15 = .ok (.iconst 1, 1) := by decide +kernel
theorem dX3_isForker_16 : decode cX3_isForker 16 = .ok (.goto 4, 3) := by decide +kernel
theorem dX3_isForker_19 : decode cX3_isForker 19 = .ok (.iconst 0, 1) := by decide +kernel
theorem dX3_isForker_20 : decode cX3_isForker 20 = .ok (.ireturn, 1) := by decide +kernel
theorem dX3_findStronglySeen_0 : decode cX3_findStronglySeen 0 = .ok (.aload_n 0, 1) := by decide +kernel
theorem dX3_findStronglySeen_1 : decode cX3_findStronglySeen 1 = .ok (.getfield 26, 3) := by decide +kernel
theorem dX3_findStronglySeen_4 : decode cX3_findStronglySeen 4 = .ok (.invokevirtual 123, 3) := by decide +kernel
theorem dX3_findStronglySeen_7 : decode cX3_findStronglySeen 7 = .ok (.iconst 0, 1) := by decide +kernel
theorem dX3_findStronglySeen_8 : decode cX3_findStronglySeen 8 = .ok (.istore_n 2, 1) := by decide +kernel
theorem dX3_findStronglySeen_9 : decode cX3_findStronglySeen 9 = .ok (.iload_n 2, 1) := by decide +kernel
theorem dX3_findStronglySeen_10 : decode cX3_findStronglySeen 10 = .ok (.iload_n 1, 1) := by decide +kernel
theorem dX3_findStronglySeen_11 : decode cX3_findStronglySeen 11 = .ok (.if_icmp .gt 42, 3) := by decide +kernel
theorem dX3_findStronglySeen_14 : decode cX3_findStronglySeen 14 = .ok (.aload_n 0, 1) := by decide +kernel
theorem dX3_findStronglySeen_15 : decode cX3_findStronglySeen 15 = .ok (.getfield 20, 3) := by decide +kernel
theorem dX3_findStronglySeen_18 : decode cX3_findStronglySeen 18 = .ok (.iload_n 1, 1) := by decide +kernel
theorem dX3_findStronglySeen_19 : decode cX3_findStronglySeen 19 = .ok (.iload_n 2, 1) := by decide +kernel
theorem dX3_findStronglySeen_20 : decode cX3_findStronglySeen 20 = .ok (.invokevirtual 109, 3) := by decide +kernel
theorem dX3_findStronglySeen_23 : decode cX3_findStronglySeen 23 = .ok (.ifCond .eq 24, 3) := by decide +kernel
theorem dX3_findStronglySeen_26 : decode cX3_findStronglySeen 26 = .ok (.aload_n 0, 1) := by decide +kernel
theorem dX3_findStronglySeen_27 : decode cX3_findStronglySeen 27 = .ok (.getfield 26, 3) := by decide +kernel
theorem dX3_findStronglySeen_30 : decode cX3_findStronglySeen 30 = .ok (.aload_n 0, 1) := by decide +kernel
theorem dX3_findStronglySeen_31 : decode cX3_findStronglySeen 31 = .ok (.getfield 49, 3) := by decide +kernel
theorem dX3_findStronglySeen_34 : decode cX3_findStronglySeen 34 = .ok (.getfield 103, 3) := by decide +kernel
theorem dX3_findStronglySeen_37 : decode cX3_findStronglySeen 37 = .ok (.iload_n 2, 1) := by decide +kernel
theorem dX3_findStronglySeen_38 : decode cX3_findStronglySeen 38 = .ok (.iaload, 1) := by decide +kernel
theorem dX3_findStronglySeen_39 : decode cX3_findStronglySeen 39 = .ok (.aload_n 0, 1) := by decide +kernel
theorem dX3_findStronglySeen_40 : decode cX3_findStronglySeen 40 = .ok (.getfield 20, 3) := by decide +kernel
theorem dX3_findStronglySeen_43 : decode cX3_findStronglySeen 43 = .ok (.iload_n 2, 1) := by decide +kernel
theorem dX3_findStronglySeen_44 : decode cX3_findStronglySeen 44 = .ok (.invokevirtual 99, 3) := by decide +kernel
theorem dX3_findStronglySeen_47 : decode cX3_findStronglySeen 47 = .ok (.iinc 2 1, 3) := by decide +kernel
theorem dX3_findStronglySeen_50 : decode cX3_findStronglySeen 50 = .ok (.goto (-41), 3) := by decide +kernel
theorem dX3_findStronglySeen_53 : decode cX3_findStronglySeen 53 = .ok (.aload_n 0, 1) := by decide +kernel
theorem dX3_findStronglySeen_54 : decode cX3_findStronglySeen 54 = .ok (.getfield 23, 3) := by decide +kernel
theorem dX3_findStronglySeen_57 : decode cX3_findStronglySeen 57 = .ok (.iload_n 1, 1) := by decide +kernel
theorem dX3_findStronglySeen_58 : decode cX3_findStronglySeen 58 = .ok (.invokevirtual 92, 3) := by decide +kernel
theorem dX3_findStronglySeen_61 : decode cX3_findStronglySeen 61 = .ok (.iconst 0, 1) := by decide +kernel
theorem dX3_findStronglySeen_62 : decode cX3_findStronglySeen 62 = .ok (.istore_n 2, 1) := by decide +kernel
theorem dX3_findStronglySeen_63 : decode cX3_findStronglySeen 63 = .ok (.iload_n 2, 1) := by decide +kernel
theorem dX3_findStronglySeen_64 : decode cX3_findStronglySeen 64 = .ok (.iload_n 1, 1) := by decide +kernel
theorem dX3_findStronglySeen_65 : decode cX3_findStronglySeen 65 = .ok (.if_icmp .gt 36, 3) := by decide +kernel
theorem dX3_findStronglySeen_68 : decode cX3_findStronglySeen 68 = .ok (.aload_n 0, 1) := by decide +kernel
theorem dX3_findStronglySeen_69 : decode cX3_findStronglySeen 69 = .ok (.getfield 26, 3) := by decide +kernel
theorem dX3_findStronglySeen_72 : decode cX3_findStronglySeen 72 = .ok (.iload_n 2, 1) := by decide +kernel
theorem dX3_findStronglySeen_73 : decode cX3_findStronglySeen 73 = .ok (.invokevirtual 126, 3) := by decide +kernel
theorem dX3_findStronglySeen_76 : decode cX3_findStronglySeen 76 = .ok (.aload_n 0, 1) := by decide +kernel
theorem dX3_findStronglySeen_77 : decode cX3_findStronglySeen 77 = .ok (.getfield 53, 3) := by decide +kernel
theorem dX3_findStronglySeen_80 : decode cX3_findStronglySeen 80 = .ok (.invokestatic 130, 3) := by decide +kernel
theorem dX3_findStronglySeen_83 : decode cX3_findStronglySeen 83 = .ok (.ifCond .eq 12, 3) := by decide +kernel
theorem dX3_findStronglySeen_86 : decode cX3_findStronglySeen 86 = .ok (.aload_n 0, 1) := by decide +kernel
theorem dX3_findStronglySeen_87 : decode cX3_findStronglySeen 87 = .ok (.getfield 23, 3) := by decide +kernel
theorem dX3_findStronglySeen_90 : decode cX3_findStronglySeen 90 = .ok (.iload_n 1, 1) := by decide +kernel
theorem dX3_findStronglySeen_91 : decode cX3_findStronglySeen 91 = .ok (.iload_n 2, 1) := by decide +kernel
theorem dX3_findStronglySeen_92 : decode cX3_findStronglySeen 92 = .ok (.invokevirtual 95, 3) := by decide +kernel
theorem dX3_findStronglySeen_95 : decode cX3_findStronglySeen 95 = .ok (.iinc 2 1, 3) := by decide +kernel
theorem dX3_findStronglySeen_98 : decode cX3_findStronglySeen 98 = .ok (.goto (-35), 3) := by decide +kernel
theorem dX3_findStronglySeen_101 : decode cX3_findStronglySeen 101 = .ok (.return_, 1) := by decide +kernel
theorem dX3_findRound_0 : decode cX3_findRound 0 = .ok (.aload_n 0, 1) := by decide +kernel
theorem dX3_findRound_1 : decode cX3_findRound 1 = .ok (.getfield 49, 3) := by decide +kernel
theorem dX3_findRound_4 : decode cX3_findRound 4 = .ok (.getfield 84, 3) := by decide +kernel
theorem dX3_findRound_7 : decode cX3_findRound 7 = .ok (.iload_n 1, 1) := by decide +kernel
theorem dX3_findRound_8 : decode cX3_findRound 8 = .ok (.iaload, 1) := by decide +kernel
theorem dX3_findRound_9 : decode cX3_findRound 9 = .ok (.istore_n 2, 1) := by decide +kernel
theorem dX3_findRound_10 : decode cX3_findRound 10 = .ok (.aload_n 0, 1) := by decide +kernel
theorem dX3_findRound_11 : decode cX3_findRound 11 = .ok (.getfield 49, 3) := by decide +kernel
theorem dX3_findRound_14 : decode cX3_findRound 14 = .ok (.getfield 89, 3) := by decide +kernel
theorem dX3_findRound_17 : decode cX3_findRound 17 = .ok (.iload_n 1, 1) := by decide +kernel
theorem dX3_findRound_18 : decode cX3_findRound 18 = .ok (.iaload, 1) := by decide +kernel
theorem dX3_findRound_19 : decode cX3_findRound 19 = .ok (.istore_n 3, 1) := by decide +kernel
theorem dX3_findRound_20 : decode cX3_findRound 20 = .ok (.iload_n 2, 1) := by decide +kernel
theorem dX3_findRound_21 : decode cX3_findRound 21 = .ok (.iconst (-1), 1) := by decide +kernel
theorem dX3_findRound_22 : decode cX3_findRound 22 = .ok (.if_icmp .ne 7, 3) := by decide +kernel
theorem dX3_findRound_25 : decode cX3_findRound 25 = .ok (.iconst 0, 1) := by decide +kernel
theorem dX3_findRound_26 : decode cX3_findRound 26 = .ok (.goto 9, 3) := by decide +kernel
theorem dX3_findRound_29 : decode cX3_findRound 29 = .ok (.aload_n 0, 1) := by decide +kernel
theorem dX3_findRound_30 : decode cX3_findRound 30 = .ok (.getfield 33, 3) := by decide +kernel
theorem dX3_findRound_33 : decode cX3_findRound 33 = .ok (.iload_n 2, 1) := by decide +kernel
theorem dX3_findRound_34 : decode cX3_findRound 34 = .ok (.iaload, 1) := by decide +kernel
theorem dX3_findRound_35 : decode cX3_findRound 35 = .ok (.iload_n 3, 1) := by decide +kernel
theorem dX3_findRound_36 : decode cX3_findRound 36 = .ok (.iconst (-1), 1) := by decide +kernel
theorem dX3_findRound_37 : decode cX3_findRound 37 = .ok (.if_icmp .ne 7, 3) := by decide +kernel
theorem dX3_findRound_40 : decode cX3_findRound 40 = .ok (.iconst 0, 1) := by decide +kernel
theorem dX3_findRound_41 : decode cX3_findRound 41 = .ok (.goto 9, 3) := by decide +kernel
theorem dX3_findRound_44 : decode cX3_findRound 44 = .ok (.aload_n 0, 1) := by decide +kernel
theorem dX3_findRound_45 : decode cX3_findRound 45 = .ok (.getfield 33, 3) := by decide +kernel
theorem dX3_findRound_48 : decode cX3_findRound 48 = .ok (.iload_n 3, 1) := by decide +kernel
theorem dX3_findRound_49 : decode cX3_findRound 49 = .ok (.iaload, 1) := by decide +kernel
theorem dX3_findRound_50 : decode cX3_findRound 50 = .ok (.invokestatic 117, 3) := by decide +kernel
theorem dX3_findRound_53 : decode cX3_findRound 53 = .ok (.istore 4, 2) := by decide +kernel
theorem dX3_findRound_55 : decode cX3_findRound 55 = .ok (.iload 4, 2) := by decide +kernel
theorem dX3_findRound_57 : decode cX3_findRound 57 = .ok (.ifCond .eq 13, 3) := by decide +kernel
theorem dX3_findRound_60 : decode cX3_findRound 60 = .ok (.aload_n 0, 1) := by decide +kernel
theorem dX3_findRound_61 : decode cX3_findRound 61 = .ok (.iload_n 1, 1) := by decide +kernel
theorem dX3_findRound_62 : decode cX3_findRound 62 = .ok (.iload 4, 2) := by decide +kernel
theorem dX3_findRound_64 : decode cX3_findRound 64 = .ok (.invokevirtual 133, 3) := by decide +kernel
theorem dX3_findRound_67 : decode cX3_findRound 67 = .ok (.ifCond .eq 7, 3) := by decide +kernel
theorem dX3_findRound_70 : decode cX3_findRound 70 = .ok (.iconst 1, 1) := by decide +kernel
theorem dX3_findRound_71 : decode cX3_findRound 71 = .ok (.goto 4, 3) := by decide +kernel
theorem dX3_findRound_74 : decode cX3_findRound 74 = .ok (.iconst 0, 1) := by decide +kernel
theorem dX3_findRound_75 : decode cX3_findRound 75 = .ok (.istore 5, 2) := by decide +kernel
theorem dX3_findRound_77 : decode cX3_findRound 77 = .ok (.aload_n 0, 1) := by decide +kernel
theorem dX3_findRound_78 : decode cX3_findRound 78 = .ok (.getfield 33, 3) := by decide +kernel
theorem dX3_findRound_81 : decode cX3_findRound 81 = .ok (.iload_n 1, 1) := by decide +kernel
theorem dX3_findRound_82 : decode cX3_findRound 82 = .ok (.iload 5, 2) := by decide +kernel
theorem dX3_findRound_84 : decode cX3_findRound 84 = .ok (.ifCond .eq 10, 3) := by decide +kernel
theorem dX3_findRound_87 : decode cX3_findRound 87 = .ok (.iload 4, 2) := by decide +kernel
theorem dX3_findRound_89 : decode cX3_findRound 89 = .ok (.iconst 1, 1) := by decide +kernel
theorem dX3_findRound_90 : decode cX3_findRound 90 = .ok (.iadd, 1) := by decide +kernel
theorem dX3_findRound_91 : decode cX3_findRound 91 = .ok (.goto 5, 3) := by decide +kernel
theorem dX3_findRound_94 : decode cX3_findRound 94 = .ok (.iload 4, 2) := by decide +kernel
theorem dX3_findRound_96 : decode cX3_findRound 96 = .ok (.iastore, 1) := by decide +kernel
theorem dX3_findRound_97 : decode cX3_findRound 97 = .ok (.aload_n 0, 1) := by decide +kernel
theorem dX3_findRound_98 : decode cX3_findRound 98 = .ok (.getfield 36, 3) := by decide +kernel
theorem dX3_findRound_101 : decode cX3_findRound 101 = .ok (.iload_n 1, 1) := by decide +kernel
theorem dX3_findRound_102 : decode cX3_findRound 102 = .ok (.iload_n 2, 1) := by decide +kernel
theorem dX3_findRound_103 : decode cX3_findRound 103 = .ok (.iconst (-1), 1) := by decide +kernel
theorem dX3_findRound_104 : decode cX3_findRound 104 = .ok (.if_icmp .eq 18, 3) := by decide +kernel
theorem dX3_findRound_107 : decode cX3_findRound 107 = .ok (.aload_n 0, 1) := by decide +kernel
theorem dX3_findRound_108 : decode cX3_findRound 108 = .ok (.getfield 33, 3) := by decide +kernel
theorem dX3_findRound_111 : decode cX3_findRound 111 = .ok (.iload_n 2, 1) := by decide +kernel
theorem dX3_findRound_112 : decode cX3_findRound 112 = .ok (.iaload, 1) := by decide +kernel
theorem dX3_findRound_113 : decode cX3_findRound 113 = .ok (.aload_n 0, 1) := by decide +kernel
theorem dX3_findRound_114 : decode cX3_findRound 114 = .ok (.getfield 33, 3) := by decide +kernel
theorem dX3_findRound_117 : decode cX3_findRound 117 = .ok (.iload_n 1, 1) := by decide +kernel
theorem dX3_findRound_118 : decode cX3_findRound 118 = .ok (.iaload, 1) := by decide +kernel
theorem dX3_findRound_119 : decode cX3_findRound 119 = .ok (.if_icmp .ge 7, 3) := by decide +kernel
theorem dX3_findRound_122 : decode cX3_findRound 122 = .ok (.iconst 1, 1) := by decide +kernel
theorem dX3_findRound_123 : decode cX3_findRound 123 = .ok (.goto 4, 3) := by decide +kernel
theorem dX3_findRound_126 : decode cX3_findRound 126 = .ok (.iconst 0, 1) := by decide +kernel
theorem dX3_findRound_127 : decode cX3_findRound 127 = .ok (.bastore, 1) := by decide +kernel
theorem dX3_findRound_128 : decode cX3_findRound 128 = .ok (.aload_n 0, 1) := by decide +kernel
theorem dX3_findRound_129 : decode cX3_findRound 129 = .ok (.aload_n 0, 1) := by decide +kernel
theorem dX3_findRound_130 : decode cX3_findRound 130 = .ok (.getfield 60, 3) := by decide +kernel
theorem dX3_findRound_133 : decode cX3_findRound 133 = .ok (.aload_n 0, 1) := by decide +kernel
theorem dX3_findRound_134 : decode cX3_findRound 134 = .ok (.getfield 33, 3) := by decide +kernel
theorem dX3_findRound_137 : decode cX3_findRound 137 = .ok (.iload_n 1, 1) := by decide +kernel
theorem dX3_findRound_138 : decode cX3_findRound 138 = .ok (.iaload, 1) := by decide +kernel
theorem dX3_findRound_139 : decode cX3_findRound 139 = .ok (.invokestatic 117, 3) := by decide +kernel
theorem dX3_findRound_142 : decode cX3_findRound 142 = .ok (.putfield 60, 3) := by decide +kernel
theorem dX3_findRound_145 : decode cX3_findRound 145 = .ok (.return_, 1) := by decide +kernel
theorem dX3_stronglySeesMostOf_0 : decode cX3_stronglySeesMostOf 0 = .ok (.iconst 0, 1) := by decide +kernel
theorem dX3_stronglySeesMostOf_1 : decode cX3_stronglySeesMostOf 1 = .ok (.istore_n 3, 1) := by decide +kernel
theorem dX3_stronglySeesMostOf_2 : decode cX3_stronglySeesMostOf 2 = .ok (.iconst 0, 1) := by decide +kernel
theorem dX3_stronglySeesMostOf_3 : decode cX3_stronglySeesMostOf 3 = .ok (.istore 4, 2) := by decide +kernel
theorem dX3_stronglySeesMostOf_5 : decode cX3_stronglySeesMostOf 5 = .ok (.iload 4, 2) := by decide +kernel
theorem dX3_stronglySeesMostOf_7 : decode cX3_stronglySeesMostOf 7 = .ok (.iload_n 1, 1) := by decide +kernel
theorem dX3_stronglySeesMostOf_8 : decode cX3_stronglySeesMostOf 8 = .ok (.if_icmp .ge 58, 3) := by decide +kernel
theorem dX3_stronglySeesMostOf_11 : decode cX3_stronglySeesMostOf 11 = .ok (.aload_n 0, 1) := by decide +kernel
theorem dX3_stronglySeesMostOf_12 : decode cX3_stronglySeesMostOf 12 = .ok (.getfield 36, 3) := by decide +kernel
theorem dX3_stronglySeesMostOf_15 : decode cX3_stronglySeesMostOf 15 = .ok (.iload 4, 2) := by decide +kernel
theorem dX3_stronglySeesMostOf_17 : decode cX3_stronglySeesMostOf 17 = .ok (.baload, 1) := by decide +kernel
theorem dX3_stronglySeesMostOf_18 : decode cX3_stronglySeesMostOf 18 = .ok (.ifCond .eq 42, 3) := by decide +kernel
theorem dX3_stronglySeesMostOf_21 : decode cX3_stronglySeesMostOf 21 = .ok (.aload_n 0, 1) := by decide +kernel
theorem dX3_stronglySeesMostOf_22 : decode cX3_stronglySeesMostOf 22 = .ok (.getfield 33, 3) := by decide +kernel
theorem dX3_stronglySeesMostOf_25 : decode cX3_stronglySeesMostOf 25 = .ok (.iload 4, 2) := by decide +kernel
theorem dX3_stronglySeesMostOf_27 : decode cX3_stronglySeesMostOf 27 = .ok (.iaload, 1) := by decide +kernel
theorem dX3_stronglySeesMostOf_28 : decode cX3_stronglySeesMostOf 28 = .ok (.iload_n 2, 1) := by decide +kernel
theorem dX3_stronglySeesMostOf_29 : decode cX3_stronglySeesMostOf 29 = .ok (.if_icmp .ne 31, 3) := by decide +kernel
theorem dX3_stronglySeesMostOf_32 : decode cX3_stronglySeesMostOf 32 = .ok (.aload_n 0, 1) := by decide +kernel
theorem dX3_stronglySeesMostOf_33 : decode cX3_stronglySeesMostOf 33 = .ok (.getfield 23, 3) := by decide +kernel
theorem dX3_stronglySeesMostOf_36 : decode cX3_stronglySeesMostOf 36 = .ok (.iload_n 1, 1) := by decide +kernel
theorem dX3_stronglySeesMostOf_37 : decode cX3_stronglySeesMostOf 37 = .ok (.iload 4, 2) := by decide +kernel
theorem dX3_stronglySeesMostOf_39 : decode cX3_stronglySeesMostOf 39 = .ok (.invokevirtual 109, 3) := by decide +kernel
theorem dX3_stronglySeesMostOf_42 : decode cX3_stronglySeesMostOf 42 = .ok (.ifCond .eq 18, 3) := by decide +kernel
theorem dX3_stronglySeesMostOf_45 : decode cX3_stronglySeesMostOf 45 = .ok (.iload_n 3, 1) := by decide +kernel
theorem dX3_stronglySeesMostOf_46 : decode cX3_stronglySeesMostOf 46 = .ok (.iconst 1, 1) := by decide +kernel
theorem dX3_stronglySeesMostOf_47 : decode cX3_stronglySeesMostOf 47 = .ok (.aload_n 0, 1) := by decide +kernel
theorem dX3_stronglySeesMostOf_48 : decode cX3_stronglySeesMostOf 48 = .ok (.getfield 49, 3) := by decide +kernel
theorem dX3_stronglySeesMostOf_51 : decode cX3_stronglySeesMostOf 51 = .ok (.getfield 103, 3) := by decide +kernel
theorem dX3_stronglySeesMostOf_54 : decode cX3_stronglySeesMostOf 54 = .ok (.iload 4, 2) := by decide +kernel
theorem dX3_stronglySeesMostOf_56 : decode cX3_stronglySeesMostOf 56 = .ok (.iaload, 1) := by decide +kernel
theorem dX3_stronglySeesMostOf_57 : decode cX3_stronglySeesMostOf 57 = .ok (.ishl, 1) := by decide +kernel
theorem dX3_stronglySeesMostOf_58 : decode cX3_stronglySeesMostOf 58 = .ok (.ior, 1) := by decide +kernel
theorem dX3_stronglySeesMostOf_59 : decode cX3_stronglySeesMostOf 59 = .ok (.istore_n 3, 1) := by decide +kernel
theorem dX3_stronglySeesMostOf_60 : decode cX3_stronglySeesMostOf 60 = .ok (.iinc 4 1, 3) := by decide +kernel
theorem dX3_stronglySeesMostOf_63 : decode cX3_stronglySeesMostOf 63 = .ok (.goto (-58), 3) := by decide +kernel
theorem dX3_stronglySeesMostOf_66 : decode cX3_stronglySeesMostOf 66 = .ok (.iload_n 3, 1) := by decide +kernel
theorem dX3_stronglySeesMostOf_67 : decode cX3_stronglySeesMostOf 67 = .ok (.invokestatic 136, 3) := by decide +kernel
theorem dX3_stronglySeesMostOf_70 : decode cX3_stronglySeesMostOf 70 = .ok (.aload_n 0, 1) := by decide +kernel
theorem dX3_stronglySeesMostOf_71 : decode cX3_stronglySeesMostOf 71 = .ok (.getfield 53, 3) := by decide +kernel
theorem dX3_stronglySeesMostOf_74 : decode cX3_stronglySeesMostOf 74 = .ok (.invokestatic 130, 3) := by decide +kernel
theorem dX3_stronglySeesMostOf_77 : decode cX3_stronglySeesMostOf 77 = .ok (.ireturn, 1) := by decide +kernel
theorem dX4_init_0 : decode cX4_init 0 = .ok (.aload_n 0, 1) := by decide +kernel
theorem dX4_init_1 : decode cX4_init 1 = .ok (.invokespecial 3, 3) := by decide +kernel
theorem dX4_init_4 : decode cX4_init 4 = .ok (.aload_n 0, 1) := by decide +kernel
theorem dX4_init_5 : decode cX4_init 5 = .ok (.bipush 32, 2) := by decide +kernel
theorem dX4_init_7 : decode cX4_init 7 = .ok (.newarray .int, 2) := by decide +kernel
theorem dX4_init_9 : decode cX4_init 9 = .ok (.putfield 11, 3) := by decide +kernel
theorem dX4_init_12 : decode cX4_init 12 = .ok (.aload_n 0, 1) := by decide +kernel
theorem dX4_init_13 : decode cX4_init 13 = .ok (.bipush 64, 2) := by decide +kernel
theorem dX4_init_15 : decode cX4_init 15 = .ok (.newarray .int, 2) := by decide +kernel
theorem dX4_init_17 : decode cX4_init 17 = .ok (.putfield 15, 3) := by decide +kernel
theorem dX4_init_20 : decode cX4_init 20 = .ok (.aload_n 0, 1) := by decide +kernel
theorem dX4_init_21 : decode cX4_init 21 = .ok (.bipush 8, 2) := by decide +kernel
theorem dX4_init_23 : decode cX4_init 23 = .ok (.newarray .int, 2) := by decide +kernel
theorem dX4_init_25 : decode cX4_init 25 = .ok (.putfield 18, 3) := by decide +kernel
theorem dX4_init_28 : decode cX4_init 28 = .ok (.return_, 1) := by decide +kernel
theorem dX4_start_0 : decode cX4_start 0 = .ok (.aload_n 0, 1) := by decide +kernel
theorem dX4_start_1 : decode cX4_start 1 = .ok (.getfield 11, 3) := by decide +kernel
theorem dX4_start_4 : decode cX4_start 4 = .ok (.iconst 0, 1) := by decide +kernel
theorem dX4_start_5 : decode cX4_start 5 = .ok (.invokestatic 21, 3) := by decide +kernel
theorem dX4_start_8 : decode cX4_start 8 = .ok (.aload_n 0, 1) := by decide +kernel
theorem dX4_start_9 : decode cX4_start 9 = .ok (.iconst 0, 1) := by decide +kernel
theorem dX4_start_10 : decode cX4_start 10 = .ok (.putfield 27, 3) := by decide +kernel
theorem dX4_start_13 : decode cX4_start 13 = .ok (.return_, 1) := by decide +kernel
theorem dX4_putOctet_0 : decode cX4_putOctet 0 = .ok (.aload_n 0, 1) := by decide +kernel
theorem dX4_putOctet_1 : decode cX4_putOctet 1 = .ok (.getfield 11, 3) := by decide +kernel
theorem dX4_putOctet_4 : decode cX4_putOctet 4 = .ok (.aload_n 0, 1) := by decide +kernel
theorem dX4_putOctet_5 : decode cX4_putOctet 5 = .ok (.getfield 27, 3) := by decide +kernel
theorem dX4_putOctet_8 : decode cX4_putOctet 8 = .ok (.iconst 2, 1) := by decide +kernel
theorem dX4_putOctet_9 : decode cX4_putOctet 9 = .ok (.ishr, 1) := by decide +kernel
theorem dX4_putOctet_10 : decode cX4_putOctet 10 = .ok (.dup2, 1) := by decide +kernel
theorem dX4_putOctet_11 : decode cX4_putOctet 11 = .ok (.iaload, 1) := by decide +kernel
theorem dX4_putOctet_12 : decode cX4_putOctet 12 = .ok (.iload_n 1, 1) := by decide +kernel
theorem dX4_putOctet_13 : decode cX4_putOctet 13 = .ok (.sipush 255, 3) := by decide +kernel
theorem dX4_putOctet_16 : decode cX4_putOctet 16 = .ok (.iand, 1) := by decide +kernel
theorem dX4_putOctet_17 : decode cX4_putOctet 17 = .ok (.bipush 24, 2) := by decide +kernel
theorem dX4_putOctet_19 : decode cX4_putOctet 19 = .ok (.bipush 8, 2) := by decide +kernel
theorem dX4_putOctet_21 : decode cX4_putOctet 21 = .ok (.aload_n 0, 1) := by decide +kernel
theorem dX4_putOctet_22 : decode cX4_putOctet 22 = .ok (.getfield 27, 3) := by decide +kernel
theorem dX4_putOctet_25 : decode cX4_putOctet 25 = .ok (.iconst 3, 1) := by decide +kernel
theorem dX4_putOctet_26 : decode cX4_putOctet 26 = .ok (.iand, 1) := by decide +kernel
theorem dX4_putOctet_27 : decode cX4_putOctet 27 = .ok (.imul, 1) := by decide +kernel
theorem dX4_putOctet_28 : decode cX4_putOctet 28 = .ok (.isub, 1) := by decide +kernel
theorem dX4_putOctet_29 : decode cX4_putOctet 29 = .ok (.ishl, 1) := by decide +kernel
theorem dX4_putOctet_30 : decode cX4_putOctet 30 = .ok (.ior, 1) := by decide +kernel
theorem dX4_putOctet_31 : decode cX4_putOctet 31 = .ok (.iastore, 1) := by decide +kernel
theorem dX4_putOctet_32 : decode cX4_putOctet 32 = .ok (.aload_n 0, 1) := by decide +kernel
theorem dX4_putOctet_33 : decode cX4_putOctet 33 = .ok (.dup, 1) := by decide +kernel
theorem dX4_putOctet_34 : decode cX4_putOctet 34 = .ok (.getfield 27, 3) := by decide +kernel
theorem dX4_putOctet_37 : decode cX4_putOctet 37 = .ok (.iconst 1, 1) := by decide +kernel
theorem dX4_putOctet_38 : decode cX4_putOctet 38 = .ok (.iadd, 1) := by decide +kernel
theorem dX4_putOctet_39 : decode cX4_putOctet 39 = .ok (.putfield 27, 3) := by decide +kernel
theorem dX4_putOctet_42 : decode cX4_putOctet 42 = .ok (.return_, 1) := by decide +kernel
theorem dX4_putInt_0 : decode cX4_putInt 0 = .ok (.bipush 24, 2) := by decide +kernel
theorem dX4_putInt_2 : decode cX4_putInt 2 = .ok (.istore_n 2, 1) := by decide +kernel
theorem dX4_putInt_3 : decode cX4_putInt 3 = .ok (.iload_n 2, 1) := by decide +kernel
theorem dX4_putInt_4 : decode cX4_putInt 4 = .ok (.ifCond .lt 16, 3) := by decide +kernel
theorem dX4_putInt_7 : decode cX4_putInt 7 = .ok (.aload_n 0, 1) := by decide +kernel
theorem dX4_putInt_8 : decode cX4_putInt 8 = .ok (.iload_n 1, 1) := by decide +kernel
theorem dX4_putInt_9 : decode cX4_putInt 9 = .ok (.iload_n 2, 1) := by decide +kernel
theorem dX4_putInt_10 : decode cX4_putInt 10 = .ok (.iushr, 1) := by decide +kernel
theorem dX4_putInt_11 : decode cX4_putInt 11 = .ok (.invokevirtual 31, 3) := by decide +kernel
theorem dX4_putInt_14 : decode cX4_putInt 14 = .ok (.iinc 2 (-8), 3) := by decide +kernel
theorem dX4_putInt_17 : decode cX4_putInt 17 = .ok (.goto (-14), 3) := by decide +kernel
theorem dX4_putInt_20 : decode cX4_putInt 20 = .ok (.return_, 1) := by decide +kernel
theorem dX4_putLong_0 : decode cX4_putLong 0 = .ok (.aload_n 0, 1) := by decide +kernel
theorem dX4_putLong_1 : decode cX4_putLong 1 = .ok (.lload_n 1, 1) := by decide +kernel
theorem dX4_putLong_2 : decode cX4_putLong 2 = .ok (.bipush 32, 2) := by decide +kernel
theorem dX4_putLong_4 : decode cX4_putLong 4 = .ok (.lushr, 1) := by decide +kernel
theorem dX4_putLong_5 : decode cX4_putLong 5 = .ok (.l2i, 1) := by decide +kernel
theorem dX4_putLong_6 : decode cX4_putLong 6 = .ok (.invokevirtual 35, 3) := by decide +kernel
theorem dX4_putLong_9 : decode cX4_putLong 9 = .ok (.aload_n 0, 1) := by decide +kernel
theorem dX4_putLong_10 : decode cX4_putLong 10 = .ok (.lload_n 1, 1) := by decide +kernel
theorem dX4_putLong_11 : decode cX4_putLong 11 = .ok (.l2i, 1) := by decide +kernel
theorem dX4_putLong_12 : decode cX4_putLong 12 = .ok (.invokevirtual 35, 3) := by decide +kernel
theorem dX4_putLong_15 : decode cX4_putLong 15 = .ok (.return_, 1) := by decide +kernel
theorem dX4_finishInto_0 : decode cX4_finishInto 0 = .ok (.bipush 8, 2) := by decide +kernel
theorem dX4_finishInto_2 : decode cX4_finishInto 2 = .ok (.aload_n 0, 1) := by decide +kernel
theorem dX4_finishInto_3 : decode cX4_finishInto 3 = .ok (.getfield 27, 3) := by decide +kernel
theorem dX4_finishInto_6 : decode cX4_finishInto 6 = .ok (.imul, 1) := by decide +kernel
theorem dX4_finishInto_7 : decode cX4_finishInto 7 = .ok (.istore_n 3, 1) := by decide +kernel
theorem dX4_finishInto_8 : decode cX4_finishInto 8 = .ok (.aload_n 0, 1) := by decide +kernel
theorem dX4_finishInto_9 : decode cX4_finishInto 9 = .ok (.sipush 128, 3) := by decide +kernel
theorem dX4_finishInto_12 : decode cX4_finishInto 12 = .ok (.invokevirtual 31, 3) := by decide +kernel
theorem dX4_finishInto_15 : decode cX4_finishInto 15 = .ok (.aload_n 0, 1) := by decide +kernel
theorem dX4_finishInto_16 : decode cX4_finishInto 16 = .ok (.getfield 11, 3) := by decide +kernel
theorem dX4_finishInto_19 : decode cX4_finishInto 19 = .ok (.bipush 31, 2) := by decide +kernel
theorem dX4_finishInto_21 : decode cX4_finishInto 21 = .ok (.iload_n 3, 1) := by decide +kernel
theorem dX4_finishInto_22 : decode cX4_finishInto 22 = .ok (.iastore, 1) := by decide +kernel
theorem dX4_finishInto_23 : decode cX4_finishInto 23 = .ok (.getstatic 38, 3) := by decide +kernel
theorem dX4_finishInto_26 : decode cX4_finishInto 26 = .ok (.iconst 0, 1) := by decide +kernel
theorem dX4_finishInto_27 : decode cX4_finishInto 27 = .ok (.aload_n 0, 1) := by decide +kernel
theorem dX4_finishInto_28 : decode cX4_finishInto 28 = .ok (.getfield 18, 3) := by decide +kernel
theorem dX4_finishInto_31 : decode cX4_finishInto 31 = .ok (.iconst 0, 1) := by decide +kernel
theorem dX4_finishInto_32 : decode cX4_finishInto 32 = .ok (.bipush 8, 2) := by decide +kernel
theorem dX4_finishInto_34 : decode cX4_finishInto 34 = .ok (.invokestatic 41, 3) := by decide +kernel
theorem dX4_finishInto_37 : decode cX4_finishInto 37 = .ok (.aload_n 0, 1) := by decide +kernel
theorem dX4_finishInto_38 : decode cX4_finishInto 38 = .ok (.iconst 0, 1) := by decide +kernel
theorem dX4_finishInto_39 : decode cX4_finishInto 39 = .ok (.invokevirtual 47, 3) := by decide +kernel
theorem dX4_finishInto_42 : decode cX4_finishInto 42 = .ok (.aload_n 0, 1) := by decide +kernel
theorem dX4_finishInto_43 : decode cX4_finishInto 43 = .ok (.invokevirtual 50, 3) := by decide +kernel
theorem dX4_finishInto_46 : decode cX4_finishInto 46 = .ok (.aload_n 0, 1) := by decide +kernel
theorem dX4_finishInto_47 : decode cX4_finishInto 47 = .ok (.bipush 16, 2) := by decide +kernel
theorem dX4_finishInto_49 : decode cX4_finishInto 49 = .ok (.invokevirtual 47, 3) := by decide +kernel
theorem dX4_finishInto_52 : decode cX4_finishInto 52 = .ok (.aload_n 0, 1) := by decide +kernel
theorem dX4_finishInto_53 : decode cX4_finishInto 53 = .ok (.invokevirtual 50, 3) := by decide +kernel
theorem dX4_finishInto_56 : decode cX4_finishInto 56 = .ok (.aload_n 0, 1) := by decide +kernel
theorem dX4_finishInto_57 : decode cX4_finishInto 57 = .ok (.getfield 18, 3) := by decide +kernel
theorem dX4_finishInto_60 : decode cX4_finishInto 60 = .ok (.iconst 0, 1) := by decide +kernel
theorem dX4_finishInto_61 : decode cX4_finishInto 61 = .ok (.aload_n 1, 1) := by decide +kernel
theorem dX4_finishInto_62 : decode cX4_finishInto 62 = .ok (.iload_n 2, 1) := by decide +kernel
theorem dX4_finishInto_63 : decode cX4_finishInto 63 = .ok (.bipush 8, 2) := by decide +kernel
theorem dX4_finishInto_65 : decode cX4_finishInto 65 = .ok (.invokestatic 41, 3) := by decide +kernel
theorem dX4_finishInto_68 : decode cX4_finishInto 68 = .ok (.return_, 1) := by decide +kernel
theorem dX4_fillSchedule_0 : decode cX4_fillSchedule 0 = .ok (.aload_n 0, 1) := by decide +kernel
theorem dX4_fillSchedule_1 : decode cX4_fillSchedule 1 = .ok (.getfield 11, 3) := by decide +kernel
theorem dX4_fillSchedule_4 : decode cX4_fillSchedule 4 = .ok (.iload_n 1, 1) := by decide +kernel
theorem dX4_fillSchedule_5 : decode cX4_fillSchedule 5 = .ok (.aload_n 0, 1) := by decide +kernel
theorem dX4_fillSchedule_6 : decode cX4_fillSchedule 6 = .ok (.getfield 15, 3) := by decide +kernel
theorem dX4_fillSchedule_9 : decode cX4_fillSchedule 9 = .ok (.iconst 0, 1) := by decide +kernel
theorem dX4_fillSchedule_10 : decode cX4_fillSchedule 10 = .ok (.bipush 16, 2) := by decide +kernel
theorem dX4_fillSchedule_12 : decode cX4_fillSchedule 12 = .ok (.invokestatic 41, 3) := by decide +kernel
theorem dX4_fillSchedule_15 : decode cX4_fillSchedule 15 = .ok (.bipush 16, 2) := by decide +kernel
theorem dX4_fillSchedule_17 : decode cX4_fillSchedule 17 = .ok (.istore_n 2, 1) := by decide +kernel
theorem dX4_fillSchedule_18 : decode cX4_fillSchedule 18 = .ok (.iload_n 2, 1) := by decide +kernel
theorem dX4_fillSchedule_19 : decode cX4_fillSchedule 19 = .ok (.bipush 64, 2) := by decide +kernel
theorem dX4_fillSchedule_21 : decode cX4_fillSchedule 21 = .ok (.if_icmp .ge 102, 3) := by decide +kernel
theorem dX4_fillSchedule_24 : decode cX4_fillSchedule 24 = .ok (.aload_n 0, 1) := by decide +kernel
theorem dX4_fillSchedule_25 : decode cX4_fillSchedule 25 = .ok (.getfield 15, 3) := by decide +kernel
theorem dX4_fillSchedule_28 : decode cX4_fillSchedule 28 = .ok (.iload_n 2, 1) := by decide +kernel
theorem dX4_fillSchedule_29 : decode cX4_fillSchedule 29 = .ok (.bipush 15, 2) := by decide +kernel
theorem dX4_fillSchedule_31 : decode cX4_fillSchedule 31 = .ok (.isub, 1) := by decide +kernel
theorem dX4_fillSchedule_32 : decode cX4_fillSchedule 32 = .ok (.iaload, 1) := by decide +kernel
theorem dX4_fillSchedule_33 : decode cX4_fillSchedule 33 = .ok (.istore_n 3, 1) := by decide +kernel
theorem dX4_fillSchedule_34 : decode cX4_fillSchedule 34 = .ok (.aload_n 0, 1) := by decide +kernel
theorem dX4_fillSchedule_35 : decode cX4_fillSchedule 35 = .ok (.getfield 15, 3) := by decide +kernel
theorem dX4_fillSchedule_38 : decode cX4_fillSchedule 38 = .ok (.iload_n 2, 1) := by decide +kernel
theorem dX4_fillSchedule_39 : decode cX4_fillSchedule 39 = .ok (.iconst 2, 1) := by decide +kernel
theorem dX4_fillSchedule_40 : decode cX4_fillSchedule 40 = .ok (.isub, 1) := by decide +kernel
theorem dX4_fillSchedule_41 : decode cX4_fillSchedule 41 = .ok (.iaload, 1) := by decide +kernel
theorem dX4_fillSchedule_42 : decode cX4_fillSchedule 42 = .ok (.istore 4, 2) := by decide +kernel
theorem dX4_fillSchedule_44 : decode cX4_fillSchedule 44 = .ok (.iload_n 3, 1) := by decide +kernel
theorem dX4_fillSchedule_45 : decode cX4_fillSchedule 45 = .ok (.bipush 7, 2) := by decide +kernel
theorem dX4_fillSchedule_47 : decode cX4_fillSchedule 47 = .ok (.invokestatic 53, 3) := by decide +kernel
theorem dX4_fillSchedule_50 : decode cX4_fillSchedule 50 = .ok (.iload_n 3, 1) := by decide +kernel
theorem dX4_fillSchedule_51 : decode cX4_fillSchedule 51 = .ok (.bipush 18, 2) := by decide +kernel
theorem dX4_fillSchedule_53 : decode cX4_fillSchedule 53 = .ok (.invokestatic 53, 3) := by decide +kernel
theorem dX4_fillSchedule_56 : decode cX4_fillSchedule 56 = .ok (.ixor, 1) := by decide +kernel
theorem dX4_fillSchedule_57 : decode cX4_fillSchedule 57 = .ok (.iload_n 3, 1) := by decide +kernel
theorem dX4_fillSchedule_58 : decode cX4_fillSchedule 58 = .ok (.iconst 3, 1) := by decide +kernel
theorem dX4_fillSchedule_59 : decode cX4_fillSchedule 59 = .ok (.iushr, 1) := by decide +kernel
theorem dX4_fillSchedule_60 : decode cX4_fillSchedule 60 = .ok (.ixor, 1) := by decide +kernel
theorem dX4_fillSchedule_61 : decode cX4_fillSchedule 61 = .ok (.istore 5, 2) := by decide +kernel
theorem dX4_fillSchedule_63 : decode cX4_fillSchedule 63 = .ok (.iload 4, 2) := by decide +kernel
theorem dX4_fillSchedule_65 : decode cX4_fillSchedule 65 = .ok (.bipush 17, 2) := by decide +kernel
theorem dX4_fillSchedule_67 : decode cX4_fillSchedule 67 = .ok (.invokestatic 53, 3) := by decide +kernel
theorem dX4_fillSchedule_70 : decode cX4_fillSchedule 70 = .ok (.iload 4, 2) := by decide +kernel
theorem dX4_fillSchedule_72 : decode cX4_fillSchedule 72 = .ok (.bipush 19, 2) := by decide +kernel
theorem dX4_fillSchedule_74 : decode cX4_fillSchedule 74 = .ok (.invokestatic 53, 3) := by decide +kernel
theorem dX4_fillSchedule_77 : decode cX4_fillSchedule 77 = .ok (.ixor, 1) := by decide +kernel
theorem dX4_fillSchedule_78 : decode cX4_fillSchedule 78 = .ok (.iload 4, 2) := by decide +kernel
theorem dX4_fillSchedule_80 : decode cX4_fillSchedule 80 = .ok (.bipush 10, 2) := by decide +kernel
theorem dX4_fillSchedule_82 : decode cX4_fillSchedule 82 = .ok (.iushr, 1) := by decide +kernel
theorem dX4_fillSchedule_83 : decode cX4_fillSchedule 83 = .ok (.ixor, 1) := by decide +kernel
theorem dX4_fillSchedule_84 : decode cX4_fillSchedule 84 = .ok (.istore 6, 2) := by decide +kernel
theorem dX4_fillSchedule_86 : decode cX4_fillSchedule 86 = .ok (.aload_n 0, 1) := by decide +kernel
theorem dX4_fillSchedule_87 : decode cX4_fillSchedule 87 = .ok (.getfield 15, 3) := by decide +kernel
theorem dX4_fillSchedule_90 : decode cX4_fillSchedule 90 = .ok (.iload_n 2, 1) := by decide +kernel
theorem dX4_fillSchedule_91 : decode cX4_fillSchedule 91 = .ok (.aload_n 0, 1) := by decide +kernel
theorem dX4_fillSchedule_92 : decode cX4_fillSchedule 92 = .ok (.getfield 15, 3) := by decide +kernel
theorem dX4_fillSchedule_95 : decode cX4_fillSchedule 95 = .ok (.iload_n 2, 1) := by decide +kernel
theorem dX4_fillSchedule_96 : decode cX4_fillSchedule 96 = .ok (.bipush 16, 2) := by decide +kernel
theorem dX4_fillSchedule_98 : decode cX4_fillSchedule 98 = .ok (.isub, 1) := by decide +kernel
theorem dX4_fillSchedule_99 : decode cX4_fillSchedule 99 = .ok (.iaload, 1) := by decide +kernel
theorem dX4_fillSchedule_100 : decode cX4_fillSchedule 100 = .ok (.iload 5, 2) := by decide +kernel
theorem dX4_fillSchedule_102 : decode cX4_fillSchedule 102 = .ok (.iadd, 1) := by decide +kernel
theorem dX4_fillSchedule_103 : decode cX4_fillSchedule 103 = .ok (.aload_n 0, 1) := by decide +kernel
theorem dX4_fillSchedule_104 : decode cX4_fillSchedule 104 = .ok (.getfield 15, 3) := by decide +kernel
theorem dX4_fillSchedule_107 : decode cX4_fillSchedule 107 = .ok (.iload_n 2, 1) := by decide +kernel
theorem dX4_fillSchedule_108 : decode cX4_fillSchedule 108 = .ok (.bipush 7, 2) := by decide +kernel
theorem dX4_fillSchedule_110 : decode cX4_fillSchedule 110 = .ok (.isub, 1) := by decide +kernel
theorem dX4_fillSchedule_111 : decode cX4_fillSchedule 111 = .ok (.iaload, 1) := by decide +kernel
theorem dX4_fillSchedule_112 : decode cX4_fillSchedule 112 = .ok (.iadd, 1) := by decide +kernel
theorem dX4_fillSchedule_113 : decode cX4_fillSchedule 113 = .ok (.iload 6, 2) := by decide +kernel
theorem dX4_fillSchedule_115 : decode cX4_fillSchedule 115 = .ok (.iadd, 1) := by decide +kernel
theorem dX4_fillSchedule_116 : decode cX4_fillSchedule 116 = .ok (.iastore, 1) := by decide +kernel
theorem dX4_fillSchedule_117 : decode cX4_fillSchedule 117 = .ok (.iinc 2 1, 3) := by decide +kernel
theorem dX4_fillSchedule_120 : decode cX4_fillSchedule 120 = .ok (.goto (-102), 3) := by decide +kernel
theorem dX4_fillSchedule_123 : decode cX4_fillSchedule 123 = .ok (.return_, 1) := by decide +kernel
theorem dX4_mixSchedule_0 : decode cX4_mixSchedule 0 = .ok (.aload_n 0, 1) := by decide +kernel
theorem dX4_mixSchedule_1 : decode cX4_mixSchedule 1 = .ok (.getfield 18, 3) := by decide +kernel
theorem dX4_mixSchedule_4 : decode cX4_mixSchedule 4 = .ok (.iconst 0, 1) := by decide +kernel
theorem dX4_mixSchedule_5 : decode cX4_mixSchedule 5 = .ok (.iaload, 1) := by decide +kernel
theorem dX4_mixSchedule_6 : decode cX4_mixSchedule 6 = .ok (.istore_n 1, 1) := by decide +kernel
theorem dX4_mixSchedule_7 : decode cX4_mixSchedule 7 = .ok (.aload_n 0, 1) := by decide +kernel
theorem dX4_mixSchedule_8 : decode cX4_mixSchedule 8 = .ok (.getfield 18, 3) := by decide +kernel
theorem dX4_mixSchedule_11 : decode cX4_mixSchedule 11 = .ok (.iconst 1, 1) := by decide +kernel
theorem dX4_mixSchedule_12 : decode cX4_mixSchedule 12 = .ok (.iaload, 1) := by decide +kernel
theorem dX4_mixSchedule_13 : decode cX4_mixSchedule 13 = .ok (.istore_n 2, 1) := by decide +kernel
theorem dX4_mixSchedule_14 : decode cX4_mixSchedule 14 = .ok (.aload_n 0, 1) := by decide +kernel
theorem dX4_mixSchedule_15 : decode cX4_mixSchedule 15 = .ok (.getfield 18, 3) := by decide +kernel
theorem dX4_mixSchedule_18 : decode cX4_mixSchedule 18 = .ok (.iconst 2, 1) := by decide +kernel
theorem dX4_mixSchedule_19 : decode cX4_mixSchedule 19 = .ok (.iaload, 1) := by decide +kernel
theorem dX4_mixSchedule_20 : decode cX4_mixSchedule 20 = .ok (.istore_n 3, 1) := by decide +kernel
theorem dX4_mixSchedule_21 : decode cX4_mixSchedule 21 = .ok (.aload_n 0, 1) := by decide +kernel
theorem dX4_mixSchedule_22 : decode cX4_mixSchedule 22 = .ok (.getfield 18, 3) := by decide +kernel
theorem dX4_mixSchedule_25 : decode cX4_mixSchedule 25 = .ok (.iconst 3, 1) := by decide +kernel
theorem dX4_mixSchedule_26 : decode cX4_mixSchedule 26 = .ok (.iaload, 1) := by decide +kernel
theorem dX4_mixSchedule_27 : decode cX4_mixSchedule 27 = .ok (.istore 4, 2) := by decide +kernel
theorem dX4_mixSchedule_29 : decode cX4_mixSchedule 29 = .ok (.aload_n 0, 1) := by decide +kernel
theorem dX4_mixSchedule_30 : decode cX4_mixSchedule 30 = .ok (.getfield 18, 3) := by decide +kernel
theorem dX4_mixSchedule_33 : decode cX4_mixSchedule 33 = .ok (.iconst 4, 1) := by decide +kernel
theorem dX4_mixSchedule_34 : decode cX4_mixSchedule 34 = .ok (.iaload, 1) := by decide +kernel
theorem dX4_mixSchedule_35 : decode cX4_mixSchedule 35 = .ok (.istore 5, 2) := by decide +kernel
theorem dX4_mixSchedule_37 : decode cX4_mixSchedule 37 = .ok (.aload_n 0, 1) := by decide +kernel
theorem dX4_mixSchedule_38 : decode cX4_mixSchedule 38 = .ok (.getfield 18, 3) := by decide +kernel
theorem dX4_mixSchedule_41 : decode cX4_mixSchedule 41 = .ok (.iconst 5, 1) := by decide +kernel
theorem dX4_mixSchedule_42 : decode cX4_mixSchedule 42 = .ok (.iaload, 1) := by decide +kernel
theorem dX4_mixSchedule_43 : decode cX4_mixSchedule 43 = .ok (.istore 6, 2) := by decide +kernel
theorem dX4_mixSchedule_45 : decode cX4_mixSchedule 45 = .ok (.aload_n 0, 1) := by decide +kernel
theorem dX4_mixSchedule_46 : decode cX4_mixSchedule 46 = .ok (.getfield 18, 3) := by decide +kernel
theorem dX4_mixSchedule_49 : decode cX4_mixSchedule 49 = .ok (.bipush 6, 2) := by decide +kernel
theorem dX4_mixSchedule_51 : decode cX4_mixSchedule 51 = .ok (.iaload, 1) := by decide +kernel
theorem dX4_mixSchedule_52 : decode cX4_mixSchedule 52 = .ok (.istore 7, 2) := by decide +kernel
theorem dX4_mixSchedule_54 : decode cX4_mixSchedule 54 = .ok (.aload_n 0, 1) := by decide +kernel
theorem dX4_mixSchedule_55 : decode cX4_mixSchedule 55 = .ok (.getfield 18, 3) := by decide +kernel
theorem dX4_mixSchedule_58 : decode cX4_mixSchedule 58 = .ok (.bipush 7, 2) := by decide +kernel
theorem dX4_mixSchedule_60 : decode cX4_mixSchedule 60 = .ok (.iaload, 1) := by decide +kernel
theorem dX4_mixSchedule_61 : decode cX4_mixSchedule 61 = .ok (.istore 8, 2) := by decide +kernel
theorem dX4_mixSchedule_63 : decode cX4_mixSchedule 63 = .ok (.iconst 0, 1) := by decide +kernel
theorem dX4_mixSchedule_64 : decode cX4_mixSchedule 64 = .ok (.istore 9, 2) := by decide +kernel
theorem dX4_mixSchedule_66 : decode cX4_mixSchedule 66 = .ok (.iload 9, 2) := by decide +kernel
theorem dX4_mixSchedule_68 : decode cX4_mixSchedule 68 = .ok (.bipush 64, 2) := by decide +kernel
theorem dX4_mixSchedule_70 : decode cX4_mixSchedule 70 = .ok (.if_icmp .ge 143, 3) := by decide +kernel
theorem dX4_mixSchedule_73 : decode cX4_mixSchedule 73 = .ok (.iload 5, 2) := by decide +kernel
theorem dX4_mixSchedule_75 : decode cX4_mixSchedule 75 = .ok (.bipush 6, 2) := by decide +kernel
theorem dX4_mixSchedule_77 : decode cX4_mixSchedule 77 = .ok (.invokestatic 53, 3) := by decide +kernel
theorem dX4_mixSchedule_80 : decode cX4_mixSchedule 80 = .ok (.iload 5, 2) := by decide +kernel
theorem dX4_mixSchedule_82 : decode cX4_mixSchedule 82 = .ok (.bipush 11, 2) := by decide +kernel
theorem dX4_mixSchedule_84 : decode cX4_mixSchedule 84 = .ok (.invokestatic 53, 3) := by decide +kernel
theorem dX4_mixSchedule_87 : decode cX4_mixSchedule 87 = .ok (.ixor, 1) := by decide +kernel
theorem dX4_mixSchedule_88 : decode cX4_mixSchedule 88 = .ok (.iload 5, 2) := by decide +kernel
theorem dX4_mixSchedule_90 : decode cX4_mixSchedule 90 = .ok (.bipush 25, 2) := by decide +kernel
theorem dX4_mixSchedule_92 : decode cX4_mixSchedule 92 = .ok (.invokestatic 53, 3) := by decide +kernel
theorem dX4_mixSchedule_95 : decode cX4_mixSchedule 95 = .ok (.ixor, 1) := by decide +kernel
theorem dX4_mixSchedule_96 : decode cX4_mixSchedule 96 = .ok (.istore 10, 2) := by decide +kernel
theorem dX4_mixSchedule_98 : decode cX4_mixSchedule 98 = .ok (.iload 5, 2) := by decide +kernel
theorem dX4_mixSchedule_100 : decode cX4_mixSchedule 100 = .ok (.iload 6, 2) := by decide +kernel
theorem dX4_mixSchedule_102 : decode cX4_mixSchedule 102 = .ok (.iand, 1) := by decide +kernel
theorem dX4_mixSchedule_103 : decode cX4_mixSchedule 103 = .ok (.iload 5, 2) := by decide +kernel
theorem dX4_mixSchedule_105 : decode cX4_mixSchedule 105 = .ok (.iconst (-1), 1) := by decide +kernel
theorem dX4_mixSchedule_106 : decode cX4_mixSchedule 106 = .ok (.ixor, 1) := by decide +kernel
theorem dX4_mixSchedule_107 : decode cX4_mixSchedule 107 = .ok (.iload 7, 2) := by decide +kernel
theorem dX4_mixSchedule_109 : decode cX4_mixSchedule 109 = .ok (.iand, 1) := by decide +kernel
theorem dX4_mixSchedule_110 : decode cX4_mixSchedule 110 = .ok (.ixor, 1) := by decide +kernel
theorem dX4_mixSchedule_111 : decode cX4_mixSchedule 111 = .ok (.istore 11, 2) := by decide +kernel
theorem dX4_mixSchedule_113 : decode cX4_mixSchedule 113 = .ok (.iload 8, 2) := by decide +kernel
theorem dX4_mixSchedule_115 : decode cX4_mixSchedule 115 = .ok (.iload 10, 2) := by decide +kernel
theorem dX4_mixSchedule_117 : decode cX4_mixSchedule 117 = .ok (.iadd, 1) := by decide +kernel
theorem dX4_mixSchedule_118 : decode cX4_mixSchedule 118 = .ok (.iload 11, 2) := by decide +kernel
theorem dX4_mixSchedule_120 : decode cX4_mixSchedule 120 = .ok (.iadd, 1) := by decide +kernel
theorem dX4_mixSchedule_121 : decode cX4_mixSchedule 121 = .ok (.getstatic 57, 3) := by decide +kernel
theorem dX4_mixSchedule_124 : decode cX4_mixSchedule 124 = .ok (.iload 9, 2) := by decide +kernel
theorem dX4_mixSchedule_126 : decode cX4_mixSchedule 126 = .ok (.iaload, 1) := by decide +kernel
theorem dX4_mixSchedule_127 : decode cX4_mixSchedule 127 = .ok (.iadd, 1) := by decide +kernel
theorem dX4_mixSchedule_128 : decode cX4_mixSchedule 128 = .ok (.aload_n 0, 1) := by decide +kernel
theorem dX4_mixSchedule_129 : decode cX4_mixSchedule 129 = .ok (.getfield 15, 3) := by decide +kernel
theorem dX4_mixSchedule_132 : decode cX4_mixSchedule 132 = .ok (.iload 9, 2) := by decide +kernel
theorem dX4_mixSchedule_134 : decode cX4_mixSchedule 134 = .ok (.iaload, 1) := by decide +kernel
theorem dX4_mixSchedule_135 : decode cX4_mixSchedule 135 = .ok (.iadd, 1) := by decide +kernel
theorem dX4_mixSchedule_136 : decode cX4_mixSchedule 136 = .ok (.istore 12, 2) := by decide +kernel
theorem dX4_mixSchedule_138 : decode cX4_mixSchedule 138 = .ok (.iload_n 1, 1) := by decide +kernel
theorem dX4_mixSchedule_139 : decode cX4_mixSchedule 139 = .ok (.iconst 2, 1) := by decide +kernel
theorem dX4_mixSchedule_140 : decode cX4_mixSchedule 140 = .ok (.invokestatic 53, 3) := by decide +kernel
theorem dX4_mixSchedule_143 : decode cX4_mixSchedule 143 = .ok (.iload_n 1, 1) := by decide +kernel
theorem dX4_mixSchedule_144 : decode cX4_mixSchedule 144 = .ok (.bipush 13, 2) := by decide +kernel
theorem dX4_mixSchedule_146 : decode cX4_mixSchedule 146 = .ok (.invokestatic 53, 3) := by decide +kernel
theorem dX4_mixSchedule_149 : decode cX4_mixSchedule 149 = .ok (.ixor, 1) := by decide +kernel
theorem dX4_mixSchedule_150 : decode cX4_mixSchedule 150 = .ok (.iload_n 1, 1) := by decide +kernel
theorem dX4_mixSchedule_151 : decode cX4_mixSchedule 151 = .ok (.bipush 22, 2) := by decide +kernel
theorem dX4_mixSchedule_153 : decode cX4_mixSchedule 153 = .ok (.invokestatic 53, 3) := by decide +kernel
theorem dX4_mixSchedule_156 : decode cX4_mixSchedule 156 = .ok (.ixor, 1) := by decide +kernel
theorem dX4_mixSchedule_157 : decode cX4_mixSchedule 157 = .ok (.istore 13, 2) := by decide +kernel
theorem dX4_mixSchedule_159 : decode cX4_mixSchedule 159 = .ok (.iload_n 1, 1) := by decide +kernel
theorem dX4_mixSchedule_160 : decode cX4_mixSchedule 160 = .ok (.iload_n 2, 1) := by decide +kernel
theorem dX4_mixSchedule_161 : decode cX4_mixSchedule 161 = .ok (.iand, 1) := by decide +kernel
theorem dX4_mixSchedule_162 : decode cX4_mixSchedule 162 = .ok (.iload_n 1, 1) := by decide +kernel
theorem dX4_mixSchedule_163 : decode cX4_mixSchedule 163 = .ok (.iload_n 3, 1) := by decide +kernel
theorem dX4_mixSchedule_164 : decode cX4_mixSchedule 164 = .ok (.iand, 1) := by decide +kernel
theorem dX4_mixSchedule_165 : decode cX4_mixSchedule 165 = .ok (.ixor, 1) := by decide +kernel
theorem dX4_mixSchedule_166 : decode cX4_mixSchedule 166 = .ok (.iload_n 2, 1) := by decide +kernel
theorem dX4_mixSchedule_167 : decode cX4_mixSchedule 167 = .ok (.iload_n 3, 1) := by decide +kernel
theorem dX4_mixSchedule_168 : decode cX4_mixSchedule 168 = .ok (.iand, 1) := by decide +kernel
theorem dX4_mixSchedule_169 : decode cX4_mixSchedule 169 = .ok (.ixor, 1) := by decide +kernel
theorem dX4_mixSchedule_170 : decode cX4_mixSchedule 170 = .ok (.istore 14, 2) := by decide +kernel
theorem dX4_mixSchedule_172 : decode cX4_mixSchedule 172 = .ok (.iload 7, 2) := by decide +kernel
theorem dX4_mixSchedule_174 : decode cX4_mixSchedule 174 = .ok (.istore 8, 2) := by decide +kernel
theorem dX4_mixSchedule_176 : decode cX4_mixSchedule 176 = .ok (.iload 6, 2) := by decide +kernel
theorem dX4_mixSchedule_178 : decode cX4_mixSchedule 178 = .ok (.istore 7, 2) := by decide +kernel
theorem dX4_mixSchedule_180 : decode cX4_mixSchedule 180 = .ok (.iload 5, 2) := by decide +kernel
theorem dX4_mixSchedule_182 : decode cX4_mixSchedule 182 = .ok (.istore 6, 2) := by decide +kernel
theorem dX4_mixSchedule_184 : decode cX4_mixSchedule 184 = .ok (.iload 4, 2) := by decide +kernel
theorem dX4_mixSchedule_186 : decode cX4_mixSchedule 186 = .ok (.iload 12, 2) := by decide +kernel
theorem dX4_mixSchedule_188 : decode cX4_mixSchedule 188 = .ok (.iadd, 1) := by decide +kernel
theorem dX4_mixSchedule_189 : decode cX4_mixSchedule 189 = .ok (.istore 5, 2) := by decide +kernel
theorem dX4_mixSchedule_191 : decode cX4_mixSchedule 191 = .ok (.iload_n 3, 1) := by decide +kernel
theorem dX4_mixSchedule_192 : decode cX4_mixSchedule 192 = .ok (.istore 4, 2) := by decide +kernel
theorem dX4_mixSchedule_194 : decode cX4_mixSchedule 194 = .ok (.iload_n 2, 1) := by decide +kernel
theorem dX4_mixSchedule_195 : decode cX4_mixSchedule 195 = .ok (.istore_n 3, 1) := by decide +kernel
theorem dX4_mixSchedule_196 : decode cX4_mixSchedule 196 = .ok (.iload_n 1, 1) := by decide +kernel
theorem dX4_mixSchedule_197 : decode cX4_mixSchedule 197 = .ok (.istore_n 2, 1) := by decide +kernel
theorem dX4_mixSchedule_198 : decode cX4_mixSchedule 198 = .ok (.iload 12, 2) := by decide +kernel
theorem dX4_mixSchedule_200 : decode cX4_mixSchedule 200 = .ok (.iload 13, 2) := by decide +kernel
theorem dX4_mixSchedule_202 : decode cX4_mixSchedule 202 = .ok (.iadd, 1) := by decide +kernel
theorem dX4_mixSchedule_203 : decode cX4_mixSchedule 203 = .ok (.iload 14, 2) := by decide +kernel
theorem dX4_mixSchedule_205 : decode cX4_mixSchedule 205 = .ok (.iadd, 1) := by decide +kernel
theorem dX4_mixSchedule_206 : decode cX4_mixSchedule 206 = .ok (.istore_n 1, 1) := by decide +kernel
theorem dX4_mixSchedule_207 : decode cX4_mixSchedule 207 = .ok (.iinc 9 1, 3) := by decide +kernel
theorem dX4_mixSchedule_210 : decode cX4_mixSchedule 210 = .ok (.goto (-144), 3) := by decide +kernel
theorem dX4_mixSchedule_213 : decode cX4_mixSchedule 213 = .ok (.aload_n 0, 1) := by decide +kernel
theorem dX4_mixSchedule_214 : decode cX4_mixSchedule 214 = .ok (.getfield 18, 3) := by decide +kernel
theorem dX4_mixSchedule_217 : decode cX4_mixSchedule 217 = .ok (.iconst 0, 1) := by decide +kernel
theorem dX4_mixSchedule_218 : decode cX4_mixSchedule 218 = .ok (.dup2, 1) := by decide +kernel
theorem dX4_mixSchedule_219 : decode cX4_mixSchedule 219 = .ok (.iaload, 1) := by decide +kernel
theorem dX4_mixSchedule_220 : decode cX4_mixSchedule 220 = .ok (.iload_n 1, 1) := by decide +kernel
theorem dX4_mixSchedule_221 : decode cX4_mixSchedule 221 = .ok (.iadd, 1) := by decide +kernel
theorem dX4_mixSchedule_222 : decode cX4_mixSchedule 222 = .ok (.iastore, 1) := by decide +kernel
theorem dX4_mixSchedule_223 : decode cX4_mixSchedule 223 = .ok (.aload_n 0, 1) := by decide +kernel
theorem dX4_mixSchedule_224 : decode cX4_mixSchedule 224 = .ok (.getfield 18, 3) := by decide +kernel
theorem dX4_mixSchedule_227 : decode cX4_mixSchedule 227 = .ok (.iconst 1, 1) := by decide +kernel
theorem dX4_mixSchedule_228 : decode cX4_mixSchedule 228 = .ok (.dup2, 1) := by decide +kernel
theorem dX4_mixSchedule_229 : decode cX4_mixSchedule 229 = .ok (.iaload, 1) := by decide +kernel
theorem dX4_mixSchedule_230 : decode cX4_mixSchedule 230 = .ok (.iload_n 2, 1) := by decide +kernel
theorem dX4_mixSchedule_231 : decode cX4_mixSchedule 231 = .ok (.iadd, 1) := by decide +kernel
theorem dX4_mixSchedule_232 : decode cX4_mixSchedule 232 = .ok (.iastore, 1) := by decide +kernel
theorem dX4_mixSchedule_233 : decode cX4_mixSchedule 233 = .ok (.aload_n 0, 1) := by decide +kernel
theorem dX4_mixSchedule_234 : decode cX4_mixSchedule 234 = .ok (.getfield 18, 3) := by decide +kernel
theorem dX4_mixSchedule_237 : decode cX4_mixSchedule 237 = .ok (.iconst 2, 1) := by decide +kernel
theorem dX4_mixSchedule_238 : decode cX4_mixSchedule 238 = .ok (.dup2, 1) := by decide +kernel
theorem dX4_mixSchedule_239 : decode cX4_mixSchedule 239 = .ok (.iaload, 1) := by decide +kernel
theorem dX4_mixSchedule_240 : decode cX4_mixSchedule 240 = .ok (.iload_n 3, 1) := by decide +kernel
theorem dX4_mixSchedule_241 : decode cX4_mixSchedule 241 = .ok (.iadd, 1) := by decide +kernel
theorem dX4_mixSchedule_242 : decode cX4_mixSchedule 242 = .ok (.iastore, 1) := by decide +kernel
theorem dX4_mixSchedule_243 : decode cX4_mixSchedule 243 = .ok (.aload_n 0, 1) := by decide +kernel
theorem dX4_mixSchedule_244 : decode cX4_mixSchedule 244 = .ok (.getfield 18, 3) := by decide +kernel
theorem dX4_mixSchedule_247 : decode cX4_mixSchedule 247 = .ok (.iconst 3, 1) := by decide +kernel
theorem dX4_mixSchedule_248 : decode cX4_mixSchedule 248 = .ok (.dup2, 1) := by decide +kernel
theorem dX4_mixSchedule_249 : decode cX4_mixSchedule 249 = .ok (.iaload, 1) := by decide +kernel
theorem dX4_mixSchedule_250 : decode cX4_mixSchedule 250 = .ok (.iload 4, 2) := by decide +kernel
theorem dX4_mixSchedule_252 : decode cX4_mixSchedule 252 = .ok (.iadd, 1) := by decide +kernel
theorem dX4_mixSchedule_253 : decode cX4_mixSchedule 253 = .ok (.iastore, 1) := by decide +kernel
theorem dX4_mixSchedule_254 : decode cX4_mixSchedule 254 = .ok (.aload_n 0, 1) := by decide +kernel
theorem dX4_mixSchedule_255 : decode cX4_mixSchedule 255 = .ok (.getfield 18, 3) := by decide +kernel
theorem dX4_mixSchedule_258 : decode cX4_mixSchedule 258 = .ok (.iconst 4, 1) := by decide +kernel
theorem dX4_mixSchedule_259 : decode cX4_mixSchedule 259 = .ok (.dup2, 1) := by decide +kernel
theorem dX4_mixSchedule_260 : decode cX4_mixSchedule 260 = .ok (.iaload, 1) := by decide +kernel
theorem dX4_mixSchedule_261 : decode cX4_mixSchedule 261 = .ok (.iload 5, 2) := by decide +kernel
theorem dX4_mixSchedule_263 : decode cX4_mixSchedule 263 = .ok (.iadd, 1) := by decide +kernel
theorem dX4_mixSchedule_264 : decode cX4_mixSchedule 264 = .ok (.iastore, 1) := by decide +kernel
theorem dX4_mixSchedule_265 : decode cX4_mixSchedule 265 = .ok (.aload_n 0, 1) := by decide +kernel
theorem dX4_mixSchedule_266 : decode cX4_mixSchedule 266 = .ok (.getfield 18, 3) := by decide +kernel
theorem dX4_mixSchedule_269 : decode cX4_mixSchedule 269 = .ok (.iconst 5, 1) := by decide +kernel
theorem dX4_mixSchedule_270 : decode cX4_mixSchedule 270 = .ok (.dup2, 1) := by decide +kernel
theorem dX4_mixSchedule_271 : decode cX4_mixSchedule 271 = .ok (.iaload, 1) := by decide +kernel
theorem dX4_mixSchedule_272 : decode cX4_mixSchedule 272 = .ok (.iload 6, 2) := by decide +kernel
theorem dX4_mixSchedule_274 : decode cX4_mixSchedule 274 = .ok (.iadd, 1) := by decide +kernel
theorem dX4_mixSchedule_275 : decode cX4_mixSchedule 275 = .ok (.iastore, 1) := by decide +kernel
theorem dX4_mixSchedule_276 : decode cX4_mixSchedule 276 = .ok (.aload_n 0, 1) := by decide +kernel
theorem dX4_mixSchedule_277 : decode cX4_mixSchedule 277 = .ok (.getfield 18, 3) := by decide +kernel
theorem dX4_mixSchedule_280 : decode cX4_mixSchedule 280 = .ok (.bipush 6, 2) := by decide +kernel
theorem dX4_mixSchedule_282 : decode cX4_mixSchedule 282 = .ok (.dup2, 1) := by decide +kernel
theorem dX4_mixSchedule_283 : decode cX4_mixSchedule 283 = .ok (.iaload, 1) := by decide +kernel
theorem dX4_mixSchedule_284 : decode cX4_mixSchedule 284 = .ok (.iload 7, 2) := by decide +kernel
theorem dX4_mixSchedule_286 : decode cX4_mixSchedule 286 = .ok (.iadd, 1) := by decide +kernel
theorem dX4_mixSchedule_287 : decode cX4_mixSchedule 287 = .ok (.iastore, 1) := by decide +kernel
theorem dX4_mixSchedule_288 : decode cX4_mixSchedule 288 = .ok (.aload_n 0, 1) := by decide +kernel
theorem dX4_mixSchedule_289 : decode cX4_mixSchedule 289 = .ok (.getfield 18, 3) := by decide +kernel
theorem dX4_mixSchedule_292 : decode cX4_mixSchedule 292 = .ok (.bipush 7, 2) := by decide +kernel
theorem dX4_mixSchedule_294 : decode cX4_mixSchedule 294 = .ok (.dup2, 1) := by decide +kernel
theorem dX4_mixSchedule_295 : decode cX4_mixSchedule 295 = .ok (.iaload, 1) := by decide +kernel
theorem dX4_mixSchedule_296 : decode cX4_mixSchedule 296 = .ok (.iload 8, 2) := by decide +kernel
theorem dX4_mixSchedule_298 : decode cX4_mixSchedule 298 = .ok (.iadd, 1) := by decide +kernel
theorem dX4_mixSchedule_299 : decode cX4_mixSchedule 299 = .ok (.iastore, 1) := by decide +kernel
theorem dX4_mixSchedule_300 : decode cX4_mixSchedule 300 = .ok (.return_, 1) := by decide +kernel
theorem dX4_turned_0 : decode cX4_turned 0 = .ok (.iload_n 0, 1) := by decide +kernel
theorem dX4_turned_1 : decode cX4_turned 1 = .ok (.iload_n 1, 1) := by decide +kernel
theorem dX4_turned_2 : decode cX4_turned 2 = .ok (.iushr, 1) := by decide +kernel
theorem dX4_turned_3 : decode cX4_turned 3 = .ok (.iload_n 0, 1) := by decide +kernel
theorem dX4_turned_4 : decode cX4_turned 4 = .ok (.bipush 32, 2) := by decide +kernel
theorem dX4_turned_6 : decode cX4_turned 6 = .ok (.iload_n 1, 1) := by decide +kernel
theorem dX4_turned_7 : decode cX4_turned 7 = .ok (.isub, 1) := by decide +kernel
theorem dX4_turned_8 : decode cX4_turned 8 = .ok (.ishl, 1) := by decide +kernel
theorem dX4_turned_9 : decode cX4_turned 9 = .ok (.ior, 1) := by decide +kernel
theorem dX4_turned_10 : decode cX4_turned 10 = .ok (.ireturn, 1) := by decide +kernel
theorem dX5_init_0 : decode cX5_init 0 = .ok (.aload_n 0, 1) := by decide +kernel
theorem dX5_init_1 : decode cX5_init 1 = .ok (.invokespecial 3, 3) := by decide +kernel
theorem dX5_init_4 : decode cX5_init 4 = .ok (.aload_n 0, 1) := by decide +kernel
theorem dX5_init_5 : decode cX5_init 5 = .ok (.sipush 240, 3) := by decide +kernel
theorem dX5_init_8 : decode cX5_init 8 = .ok (.newarray .int, 2) := by decide +kernel
theorem dX5_init_10 : decode cX5_init 10 = .ok (.putfield 9, 3) := by decide +kernel
theorem dX5_init_13 : decode cX5_init 13 = .ok (.aload_n 0, 1) := by decide +kernel
theorem dX5_init_14 : decode cX5_init 14 = .ok (.sipush 240, 3) := by decide +kernel
theorem dX5_init_17 : decode cX5_init 17 = .ok (.newarray .int, 2) := by decide +kernel
theorem dX5_init_19 : decode cX5_init 19 = .ok (.putfield 15, 3) := by decide +kernel
theorem dX5_init_22 : decode cX5_init 22 = .ok (.aload_n 0, 1) := by decide +kernel
theorem dX5_init_23 : decode cX5_init 23 = .ok (.sipush 240, 3) := by decide +kernel
theorem dX5_init_26 : decode cX5_init 26 = .ok (.newarray .long, 2) := by decide +kernel
theorem dX5_init_28 : decode cX5_init 28 = .ok (.putfield 18, 3) := by decide +kernel
theorem dX5_init_31 : decode cX5_init 31 = .ok (.aload_n 0, 1) := by decide +kernel
theorem dX5_init_32 : decode cX5_init 32 = .ok (.sipush 240, 3) := by decide +kernel
theorem dX5_init_35 : decode cX5_init 35 = .ok (.newarray .int, 2) := by decide +kernel
theorem dX5_init_37 : decode cX5_init 37 = .ok (.putfield 22, 3) := by decide +kernel
theorem dX5_init_40 : decode cX5_init 40 = .ok (.aload_n 0, 1) := by decide +kernel
theorem dX5_init_41 : decode cX5_init 41 = .ok (.sipush 240, 3) := by decide +kernel
theorem dX5_init_44 : decode cX5_init 44 = .ok (.newarray .int, 2) := by decide +kernel
theorem dX5_init_46 : decode cX5_init 46 = .ok (.putfield 25, 3) := by decide +kernel
theorem dX5_init_49 : decode cX5_init 49 = .ok (.aload_n 0, 1) := by decide +kernel
theorem dX5_init_50 : decode cX5_init 50 = .ok (.bipush 8, 2) := by decide +kernel
theorem dX5_init_52 : decode cX5_init 52 = .ok (.newarray .int, 2) := by decide +kernel
theorem dX5_init_54 : decode cX5_init 54 = .ok (.putfield 28, 3) := by decide +kernel
theorem dX5_init_57 : decode cX5_init 57 = .ok (.aload_n 0, 1) := by decide +kernel
theorem dX5_init_58 : decode cX5_init 58 = .ok (.sipush 1928, 3) := by decide +kernel
theorem dX5_init_61 : decode cX5_init 61 = .ok (.newarray .int, 2) := by decide +kernel
theorem dX5_init_63 : decode cX5_init 63 = .ok (.putfield 31, 3) := by decide +kernel
theorem dX5_init_66 : decode cX5_init 66 = .ok (.aload_n 0, 1) := by decide +kernel
theorem dX5_init_67 : decode cX5_init 67 = .ok (.sipush 241, 3) := by decide +kernel
theorem dX5_init_70 : decode cX5_init 70 = .ok (.newarray .int, 2) := by decide +kernel
theorem dX5_init_72 : decode cX5_init 72 = .ok (.putfield 34, 3) := by decide +kernel
theorem dX5_init_75 : decode cX5_init 75 = .ok (.aload_n 0, 1) := by decide +kernel
theorem dX5_init_76 : decode cX5_init 76 = .ok (.sipush 1928, 3) := by decide +kernel
theorem dX5_init_79 : decode cX5_init 79 = .ok (.newarray .int, 2) := by decide +kernel
theorem dX5_init_81 : decode cX5_init 81 = .ok (.putfield 37, 3) := by decide +kernel
theorem dX5_init_84 : decode cX5_init 84 = .ok (.aload_n 0, 1) := by decide +kernel
theorem dX5_init_85 : decode cX5_init 85 = .ok (.sipush 241, 3) := by decide +kernel
theorem dX5_init_88 : decode cX5_init 88 = .ok (.newarray .boolean, 2) := by decide +kernel
theorem dX5_init_90 : decode cX5_init 90 = .ok (.putfield 40, 3) := by decide +kernel
theorem dX5_init_93 : decode cX5_init 93 = .ok (.aload_n 0, 1) := by decide +kernel
theorem dX5_init_94 : decode cX5_init 94 = .ok (.bipush 8, 2) := by decide +kernel
theorem dX5_init_96 : decode cX5_init 96 = .ok (.newarray .long, 2) := by decide +kernel
theorem dX5_init_98 : decode cX5_init 98 = .ok (.putfield 44, 3) := by decide +kernel
theorem dX5_init_101 : decode cX5_init 101 = .ok (.aload_n 0, 1) := by decide +kernel
theorem dX5_init_102 : decode cX5_init 102 = .ok (.iload_n 1, 1) := by decide +kernel
theorem dX5_init_103 : decode cX5_init 103 = .ok (.putfield 47, 3) := by decide +kernel
theorem dX5_init_106 : decode cX5_init 106 = .ok (.aload_n 0, 1) := by decide +kernel
theorem dX5_init_107 : decode cX5_init 107 = .ok (.aload_n 2, 1) := by decide +kernel
theorem dX5_init_108 : decode cX5_init 108 = .ok (.putfield 51, 3) := by decide +kernel
theorem dX5_init_111 : decode cX5_init 111 = .ok (.aload_n 0, 1) := by decide +kernel
theorem dX5_init_112 : decode cX5_init 112 = .ok (.aload_n 3, 1) := by decide +kernel
theorem dX5_init_113 : decode cX5_init 113 = .ok (.putfield 55, 3) := by decide +kernel
theorem dX5_init_116 : decode cX5_init 116 = .ok (.aload_n 0, 1) := by decide +kernel
theorem dX5_init_117 : decode cX5_init 117 = .ok (.aload 4, 2) := by decide +kernel
theorem dX5_init_119 : decode cX5_init 119 = .ok (.putfield 59, 3) := by decide +kernel
theorem dX5_init_122 : decode cX5_init 122 = .ok (.return_, 1) := by decide +kernel
theorem dX5_findAll_0 : decode cX5_findAll 0 = .ok (.aload_n 0, 1) := by decide +kernel
theorem dX5_findAll_1 : decode cX5_findAll 1 = .ok (.invokevirtual 63, 3) := by decide +kernel
theorem dX5_findAll_4 : decode cX5_findAll 4 = .ok (.aload_n 0, 1) := by decide +kernel
theorem dX5_findAll_5 : decode cX5_findAll 5 = .ok (.invokevirtual 66, 3) := by decide +kernel
theorem dX5_findAll_8 : decode cX5_findAll 8 = .ok (.aload_n 0, 1) := by decide +kernel
theorem dX5_findAll_9 : decode cX5_findAll 9 = .ok (.invokevirtual 69, 3) := by decide +kernel
theorem dX5_findAll_12 : decode cX5_findAll 12 = .ok (.aload_n 0, 1) := by decide +kernel
theorem dX5_findAll_13 : decode cX5_findAll 13 = .ok (.invokevirtual 72, 3) := by decide +kernel
theorem dX5_findAll_16 : decode cX5_findAll 16 = .ok (.aload_n 0, 1) := by decide +kernel
theorem dX5_findAll_17 : decode cX5_findAll 17 = .ok (.invokevirtual 75, 3) := by decide +kernel
theorem dX5_findAll_20 : decode cX5_findAll 20 = .ok (.aload_n 0, 1) := by decide +kernel
theorem dX5_findAll_21 : decode cX5_findAll 21 = .ok (.iload_n 1, 1) := by decide +kernel
theorem dX5_findAll_22 : decode cX5_findAll 22 = .ok (.invokevirtual 78, 3) := by decide +kernel
theorem dX5_findAll_25 : decode cX5_findAll 25 = .ok (.aload_n 0, 1) := by decide +kernel
theorem dX5_findAll_26 : decode cX5_findAll 26 = .ok (.iconst 0, 1) := by decide +kernel
theorem dX5_findAll_27 : decode cX5_findAll 27 = .ok (.putfield 82, 3) := by decide +kernel
theorem dX5_findAll_30 : decode cX5_findAll 30 = .ok (.return_, 1) := by decide +kernel
theorem dX5_holds_0 : decode cX5_holds 0 = .ok (.aload_n 0, 1) := by decide +kernel
theorem dX5_holds_1 : decode cX5_holds 1 = .ok (.getfield 51, 3) := by decide +kernel
theorem dX5_holds_4 : decode cX5_holds 4 = .ok (.getfield 86, 3) := by decide +kernel
theorem dX5_holds_7 : decode cX5_holds 7 = .ok (.aload_n 0, 1) := by decide +kernel
theorem dX5_holds_8 : decode cX5_holds 8 = .ok (.getfield 47, 3) := by decide +kernel
theorem dX5_holds_11 : decode cX5_holds 11 = .ok (.iload_n 1, 1) := by decide +kernel
theorem dX5_holds_12 : decode cX5_holds 12 = .ok (.invokevirtual 92, 3) := by decide +kernel
theorem dX5_holds_15 : decode cX5_holds 15 = .ok (.ireturn, 1) := by decide +kernel
theorem dX5_findFame_0 : decode cX5_findFame 0 = .ok (.aload_n 0, 1) := by decide +kernel
theorem dX5_findFame_1 : decode cX5_findFame 1 = .ok (.getfield 9, 3) := by decide +kernel
theorem dX5_findFame_4 : decode cX5_findFame 4 = .ok (.iconst 0, 1) := by decide +kernel
theorem dX5_findFame_5 : decode cX5_findFame 5 = .ok (.invokestatic 98, 3) := by decide +kernel
theorem dX5_findFame_8 : decode cX5_findFame 8 = .ok (.iconst 0, 1) := by decide +kernel
theorem dX5_findFame_9 : decode cX5_findFame 9 = .ok (.istore_n 1, 1) := by decide +kernel
theorem dX5_findFame_10 : decode cX5_findFame 10 = .ok (.iload_n 1, 1) := by decide +kernel
theorem dX5_findFame_11 : decode cX5_findFame 11 = .ok (.aload_n 0, 1) := by decide +kernel
theorem dX5_findFame_12 : decode cX5_findFame 12 = .ok (.getfield 59, 3) := by decide +kernel
theorem dX5_findFame_15 : decode cX5_findFame 15 = .ok (.getfield 104, 3) := by decide +kernel
theorem dX5_findFame_18 : decode cX5_findFame 18 = .ok (.if_icmp .ge 65, 3) := by decide +kernel
theorem dX5_findFame_21 : decode cX5_findFame 21 = .ok (.aload_n 0, 1) := by decide +kernel
theorem dX5_findFame_22 : decode cX5_findFame 22 = .ok (.getfield 59, 3) := by decide +kernel
theorem dX5_findFame_25 : decode cX5_findFame 25 = .ok (.getfield 109, 3) := by decide +kernel
theorem dX5_findFame_28 : decode cX5_findFame 28 = .ok (.iload_n 1, 1) := by decide +kernel
theorem dX5_findFame_29 : decode cX5_findFame 29 = .ok (.iaload, 1) := by decide +kernel
theorem dX5_findFame_30 : decode cX5_findFame 30 = .ok (.istore_n 2, 1) := by decide +kernel
theorem dX5_findFame_31 : decode cX5_findFame 31 = .ok (.aload_n 0, 1) := by decide +kernel
theorem dX5_findFame_32 : decode cX5_findFame 32 = .ok (.iload_n 2, 1) := by decide +kernel
theorem dX5_findFame_33 : decode cX5_findFame 33 = .ok (.invokevirtual 112, 3) := by decide +kernel
theorem dX5_findFame_36 : decode cX5_findFame 36 = .ok (.ifCond .eq 11, 3) := by decide +kernel
theorem dX5_findFame_39 : decode cX5_findFame 39 = .ok (.aload_n 0, 1) := by decide +kernel
theorem dX5_findFame_40 : decode cX5_findFame 40 = .ok (.iload_n 2, 1) := by decide +kernel
theorem dX5_findFame_41 : decode cX5_findFame 41 = .ok (.invokevirtual 116, 3) := by decide +kernel
theorem dX5_findFame_44 : decode cX5_findFame 44 = .ok (.goto 4, 3) := by decide +kernel
theorem dX5_findFame_47 : decode cX5_findFame 47 = .ok (.iconst (-1), 1) := by decide +kernel
theorem dX5_findFame_48 : decode cX5_findFame 48 = .ok (.istore_n 3, 1) := by decide +kernel
theorem dX5_findFame_49 : decode cX5_findFame 49 = .ok (.iload_n 3, 1) := by decide +kernel
theorem dX5_findFame_50 : decode cX5_findFame 50 = .ok (.iconst (-1), 1) := by decide +kernel
theorem dX5_findFame_51 : decode cX5_findFame 51 = .ok (.if_icmp .eq 26, 3) := by decide +kernel
theorem dX5_findFame_54 : decode cX5_findFame 54 = .ok (.aload_n 0, 1) := by decide +kernel
theorem dX5_findFame_55 : decode cX5_findFame 55 = .ok (.getfield 9, 3) := by decide +kernel
theorem dX5_findFame_58 : decode cX5_findFame 58 = .ok (.iload_n 2, 1) := by decide +kernel
theorem dX5_findFame_59 : decode cX5_findFame 59 = .ok (.aload_n 0, 1) := by decide +kernel
theorem dX5_findFame_60 : decode cX5_findFame 60 = .ok (.getfield 59, 3) := by decide +kernel
theorem dX5_findFame_63 : decode cX5_findFame 63 = .ok (.iload_n 3, 1) := by decide +kernel
theorem dX5_findFame_64 : decode cX5_findFame 64 = .ok (.iload_n 2, 1) := by decide +kernel
theorem dX5_findFame_65 : decode cX5_findFame 65 = .ok (.invokevirtual 120, 3) := by decide +kernel
theorem dX5_findFame_68 : decode cX5_findFame 68 = .ok (.ifCond .eq 7, 3) := by decide +kernel
theorem dX5_findFame_71 : decode cX5_findFame 71 = .ok (.iconst 2, 1) := by decide +kernel
theorem dX5_findFame_72 : decode cX5_findFame 72 = .ok (.goto 4, 3) := by decide +kernel
theorem dX5_findFame_75 : decode cX5_findFame 75 = .ok (.iconst 1, 1) := by decide +kernel
theorem dX5_findFame_76 : decode cX5_findFame 76 = .ok (.iastore, 1) := by decide +kernel
theorem dX5_findFame_77 : decode cX5_findFame 77 = .ok (.iinc 1 1, 3) := by decide +kernel
theorem dX5_findFame_80 : decode cX5_findFame 80 = .ok (.goto (-70), 3) := by decide +kernel
theorem dX5_findFame_83 : decode cX5_findFame 83 = .ok (.return_, 1) := by decide +kernel
theorem dX5_deciderOf_0 : decode cX5_deciderOf 0 = .ok (.iconst (-1), 1) := by decide +kernel
theorem dX5_deciderOf_1 : decode cX5_deciderOf 1 = .ok (.istore_n 2, 1) := by decide +kernel
theorem dX5_deciderOf_2 : decode cX5_deciderOf 2 = .ok (.iconst 0, 1) := by decide +kernel
theorem dX5_deciderOf_3 : decode cX5_deciderOf 3 = .ok (.istore_n 3, 1) := by decide +kernel
theorem dX5_deciderOf_4 : decode cX5_deciderOf 4 = .ok (.iload_n 3, 1) := by decide +kernel
theorem dX5_deciderOf_5 : decode cX5_deciderOf 5 = .ok (.aload_n 0, 1) := by decide +kernel
theorem dX5_deciderOf_6 : decode cX5_deciderOf 6 = .ok (.getfield 59, 3) := by decide +kernel
theorem dX5_deciderOf_9 : decode cX5_deciderOf 9 = .ok (.getfield 104, 3) := by decide +kernel
theorem dX5_deciderOf_12 : decode cX5_deciderOf 12 = .ok (.if_icmp .ge 84, 3) := by decide +kernel
theorem dX5_deciderOf_15 : decode cX5_deciderOf 15 = .ok (.aload_n 0, 1) := by decide +kernel
theorem dX5_deciderOf_16 : decode cX5_deciderOf 16 = .ok (.getfield 59, 3) := by decide +kernel
theorem dX5_deciderOf_19 : decode cX5_deciderOf 19 = .ok (.getfield 109, 3) := by decide +kernel
theorem dX5_deciderOf_22 : decode cX5_deciderOf 22 = .ok (.iload_n 3, 1) := by decide +kernel
theorem dX5_deciderOf_23 : decode cX5_deciderOf 23 = .ok (.iaload, 1) := by decide +kernel
theorem dX5_deciderOf_24 : decode cX5_deciderOf 24 = .ok (.istore 4, 2) := by decide +kernel
theorem dX5_deciderOf_26 : decode cX5_deciderOf 26 = .ok (.iload_n 2, 1) := by decide +kernel
theorem dX5_deciderOf_27 : decode cX5_deciderOf 27 = .ok (.iconst (-1), 1) := by decide +kernel
theorem dX5_deciderOf_28 : decode cX5_deciderOf 28 = .ok (.if_icmp .eq 25, 3) := by decide +kernel
theorem dX5_deciderOf_31 : decode cX5_deciderOf 31 = .ok (.aload_n 0, 1) := by decide +kernel
theorem dX5_deciderOf_32 : decode cX5_deciderOf 32 = .ok (.getfield 55, 3) := by decide +kernel
theorem dX5_deciderOf_35 : decode cX5_deciderOf 35 = .ok (.getfield 123, 3) := by decide +kernel
theorem dX5_deciderOf_38 : decode cX5_deciderOf 38 = .ok (.iload 4, 2) := by decide +kernel
theorem dX5_deciderOf_40 : decode cX5_deciderOf 40 = .ok (.iaload, 1) := by decide +kernel
theorem dX5_deciderOf_41 : decode cX5_deciderOf 41 = .ok (.aload_n 0, 1) := by decide +kernel
theorem dX5_deciderOf_42 : decode cX5_deciderOf 42 = .ok (.getfield 55, 3) := by decide +kernel
theorem dX5_deciderOf_45 : decode cX5_deciderOf 45 = .ok (.getfield 123, 3) := by decide +kernel
theorem dX5_deciderOf_48 : decode cX5_deciderOf 48 = .ok (.iload_n 2, 1) := by decide +kernel
theorem dX5_deciderOf_49 : decode cX5_deciderOf 49 = .ok (.iaload, 1) := by decide +kernel
theorem dX5_deciderOf_50 : decode cX5_deciderOf 50 = .ok (.if_icmp .ge 7, 3) := by decide +kernel
theorem dX5_deciderOf_53 : decode cX5_deciderOf 53 = .ok (.iconst 1, 1) := by decide +kernel
theorem dX5_deciderOf_54 : decode cX5_deciderOf 54 = .ok (.goto 4, 3) := by decide +kernel
theorem dX5_deciderOf_57 : decode cX5_deciderOf 57 = .ok (.iconst 0, 1) := by decide +kernel
theorem dX5_deciderOf_58 : decode cX5_deciderOf 58 = .ok (.istore 5, 2) := by decide +kernel
theorem dX5_deciderOf_60 : decode cX5_deciderOf 60 = .ok (.iload 5, 2) := by decide +kernel
theorem dX5_deciderOf_62 : decode cX5_deciderOf 62 = .ok (.ifCond .eq 28, 3) := by decide +kernel
theorem dX5_deciderOf_65 : decode cX5_deciderOf 65 = .ok (.aload_n 0, 1) := by decide +kernel
theorem dX5_deciderOf_66 : decode cX5_deciderOf 66 = .ok (.getfield 59, 3) := by decide +kernel
theorem dX5_deciderOf_69 : decode cX5_deciderOf 69 = .ok (.iload 4, 2) := by decide +kernel
theorem dX5_deciderOf_71 : decode cX5_deciderOf 71 = .ok (.iload_n 1, 1) := by decide +kernel
theorem dX5_deciderOf_72 : decode cX5_deciderOf 72 = .ok (.invokevirtual 128, 3) := by decide +kernel
theorem dX5_deciderOf_75 : decode cX5_deciderOf 75 = .ok (.ifCond .eq 15, 3) := by decide +kernel
theorem dX5_deciderOf_78 : decode cX5_deciderOf 78 = .ok (.aload_n 0, 1) := by decide +kernel
theorem dX5_deciderOf_79 : decode cX5_deciderOf 79 = .ok (.iload 4, 2) := by decide +kernel
theorem dX5_deciderOf_81 : decode cX5_deciderOf 81 = .ok (.invokevirtual 112, 3) := by decide +kernel
theorem dX5_deciderOf_84 : decode cX5_deciderOf 84 = .ok (.ifCond .eq 6, 3) := by decide +kernel
theorem dX5_deciderOf_87 : decode cX5_deciderOf 87 = .ok (.iload 4, 2) := by decide +kernel
theorem dX5_deciderOf_89 : decode cX5_deciderOf 89 = .ok (.istore_n 2, 1) := by decide +kernel
theorem dX5_deciderOf_90 : decode cX5_deciderOf 90 = .ok (.iinc 3 1, 3) := by decide +kernel
theorem dX5_deciderOf_93 : decode cX5_deciderOf 93 = .ok (.goto (-89), 3) := by decide +kernel
theorem dX5_deciderOf_96 : decode cX5_deciderOf 96 = .ok (.iload_n 2, 1) := by decide +kernel
theorem dX5_deciderOf_97 : decode cX5_deciderOf 97 = .ok (.ireturn, 1) := by decide +kernel
theorem dX5_findUniques_0 : decode cX5_findUniques 0 = .ok (.aload_n 0, 1) := by decide +kernel
theorem dX5_findUniques_1 : decode cX5_findUniques 1 = .ok (.getfield 34, 3) := by decide +kernel
theorem dX5_findUniques_4 : decode cX5_findUniques 4 = .ok (.iconst 0, 1) := by decide +kernel
theorem dX5_findUniques_5 : decode cX5_findUniques 5 = .ok (.invokestatic 98, 3) := by decide +kernel
theorem dX5_findUniques_8 : decode cX5_findUniques 8 = .ok (.aload_n 0, 1) := by decide +kernel
theorem dX5_findUniques_9 : decode cX5_findUniques 9 = .ok (.getfield 37, 3) := by decide +kernel
theorem dX5_findUniques_12 : decode cX5_findUniques 12 = .ok (.iconst 0, 1) := by decide +kernel
theorem dX5_findUniques_13 : decode cX5_findUniques 13 = .ok (.invokestatic 98, 3) := by decide +kernel
theorem dX5_findUniques_16 : decode cX5_findUniques 16 = .ok (.iconst 0, 1) := by decide +kernel
theorem dX5_findUniques_17 : decode cX5_findUniques 17 = .ok (.istore_n 1, 1) := by decide +kernel
theorem dX5_findUniques_18 : decode cX5_findUniques 18 = .ok (.iload_n 1, 1) := by decide +kernel
theorem dX5_findUniques_19 : decode cX5_findUniques 19 = .ok (.aload_n 0, 1) := by decide +kernel
theorem dX5_findUniques_20 : decode cX5_findUniques 20 = .ok (.getfield 59, 3) := by decide +kernel
theorem dX5_findUniques_23 : decode cX5_findUniques 23 = .ok (.getfield 104, 3) := by decide +kernel
theorem dX5_findUniques_26 : decode cX5_findUniques 26 = .ok (.if_icmp .ge 58, 3) := by decide +kernel
theorem dX5_findUniques_29 : decode cX5_findUniques 29 = .ok (.aload_n 0, 1) := by decide +kernel
theorem dX5_findUniques_30 : decode cX5_findUniques 30 = .ok (.getfield 59, 3) := by decide +kernel
theorem dX5_findUniques_33 : decode cX5_findUniques 33 = .ok (.getfield 109, 3) := by decide +kernel
theorem dX5_findUniques_36 : decode cX5_findUniques 36 = .ok (.iload_n 1, 1) := by decide +kernel
theorem dX5_findUniques_37 : decode cX5_findUniques 37 = .ok (.iaload, 1) := by decide +kernel
theorem dX5_findUniques_38 : decode cX5_findUniques 38 = .ok (.istore_n 2, 1) := by decide +kernel
theorem dX5_findUniques_39 : decode cX5_findUniques 39 = .ok (.aload_n 0, 1) := by decide +kernel
theorem dX5_findUniques_40 : decode cX5_findUniques 40 = .ok (.getfield 9, 3) := by decide +kernel
theorem dX5_findUniques_43 : decode cX5_findUniques 43 = .ok (.iload_n 2, 1) := by decide +kernel
theorem dX5_findUniques_44 : decode cX5_findUniques 44 = .ok (.iaload, 1) := by decide +kernel
theorem dX5_findUniques_45 : decode cX5_findUniques 45 = .ok (.iconst 2, 1) := by decide +kernel
theorem dX5_findUniques_46 : decode cX5_findUniques 46 = .ok (.if_icmp .ne 32, 3) := by decide +kernel
theorem dX5_findUniques_49 : decode cX5_findUniques 49 = .ok (.aload_n 0, 1) := by decide +kernel
theorem dX5_findUniques_50 : decode cX5_findUniques 50 = .ok (.iload_n 2, 1) := by decide +kernel
theorem dX5_findUniques_51 : decode cX5_findUniques 51 = .ok (.invokevirtual 131, 3) := by decide +kernel
theorem dX5_findUniques_54 : decode cX5_findUniques 54 = .ok (.ifCond .eq 24, 3) := by decide +kernel
theorem dX5_findUniques_57 : decode cX5_findUniques 57 = .ok (.aload_n 0, 1) := by decide +kernel
theorem dX5_findUniques_58 : decode cX5_findUniques 58 = .ok (.getfield 9, 3) := by decide +kernel
theorem dX5_findUniques_61 : decode cX5_findUniques 61 = .ok (.iload_n 2, 1) := by decide +kernel
theorem dX5_findUniques_62 : decode cX5_findUniques 62 = .ok (.iconst 3, 1) := by decide +kernel
theorem dX5_findUniques_63 : decode cX5_findUniques 63 = .ok (.iastore, 1) := by decide +kernel
theorem dX5_findUniques_64 : decode cX5_findUniques 64 = .ok (.aload_n 0, 1) := by decide +kernel
theorem dX5_findUniques_65 : decode cX5_findUniques 65 = .ok (.iload_n 2, 1) := by decide +kernel
theorem dX5_findUniques_66 : decode cX5_findUniques 66 = .ok (.aload_n 0, 1) := by decide +kernel
theorem dX5_findUniques_67 : decode cX5_findUniques 67 = .ok (.getfield 55, 3) := by decide +kernel
theorem dX5_findUniques_70 : decode cX5_findUniques 70 = .ok (.getfield 123, 3) := by decide +kernel
theorem dX5_findUniques_73 : decode cX5_findUniques 73 = .ok (.iload_n 2, 1) := by decide +kernel
theorem dX5_findUniques_74 : decode cX5_findUniques 74 = .ok (.iaload, 1) := by decide +kernel
theorem dX5_findUniques_75 : decode cX5_findUniques 75 = .ok (.invokevirtual 134, 3) := by decide +kernel
theorem dX5_findUniques_78 : decode cX5_findUniques 78 = .ok (.iinc 1 1, 3) := by decide +kernel
theorem dX5_findUniques_81 : decode cX5_findUniques 81 = .ok (.goto (-63), 3) := by decide +kernel
theorem dX5_findUniques_84 : decode cX5_findUniques 84 = .ok (.return_, 1) := by decide +kernel
theorem dX5_isOnlyFamousOne_0 : decode cX5_isOnlyFamousOne 0 = .ok (.iconst 0, 1) := by decide +kernel
theorem dX5_isOnlyFamousOne_1 : decode cX5_isOnlyFamousOne 1 = .ok (.istore_n 2, 1) := by decide +kernel
theorem dX5_isOnlyFamousOne_2 : decode cX5_isOnlyFamousOne 2 = .ok (.iload_n 2, 1) := by decide +kernel
theorem dX5_isOnlyFamousOne_3 : decode cX5_isOnlyFamousOne 3 = .ok (.aload_n 0, 1) := by decide +kernel
theorem dX5_isOnlyFamousOne_4 : decode cX5_isOnlyFamousOne 4 = .ok (.getfield 59, 3) := by decide +kernel
theorem dX5_isOnlyFamousOne_7 : decode cX5_isOnlyFamousOne 7 = .ok (.getfield 104, 3) := by decide +kernel
theorem dX5_isOnlyFamousOne_10 : decode cX5_isOnlyFamousOne 10 = .ok (.if_icmp .ge 78, 3) := by decide +kernel
theorem dX5_isOnlyFamousOne_13 : decode cX5_isOnlyFamousOne 13 = .ok (.aload_n 0, 1) := by decide +kernel
theorem dX5_isOnlyFamousOne_14 : decode cX5_isOnlyFamousOne 14 = .ok (.getfield 59, 3) := by decide +kernel
theorem dX5_isOnlyFamousOne_17 : decode cX5_isOnlyFamousOne 17 = .ok (.getfield 109, 3) := by decide +kernel
theorem dX5_isOnlyFamousOne_20 : decode cX5_isOnlyFamousOne 20 = .ok (.iload_n 2, 1) := by decide +kernel
theorem dX5_isOnlyFamousOne_21 : decode cX5_isOnlyFamousOne 21 = .ok (.iaload, 1) := by decide +kernel
theorem dX5_isOnlyFamousOne_22 : decode cX5_isOnlyFamousOne 22 = .ok (.istore_n 3, 1) := by decide +kernel
theorem dX5_isOnlyFamousOne_23 : decode cX5_isOnlyFamousOne 23 = .ok (.iload_n 3, 1) := by decide +kernel
theorem dX5_isOnlyFamousOne_24 : decode cX5_isOnlyFamousOne 24 = .ok (.iload_n 1, 1) := by decide +kernel
theorem dX5_isOnlyFamousOne_25 : decode cX5_isOnlyFamousOne 25 = .ok (.if_icmp .eq 57, 3) := by decide +kernel
theorem dX5_isOnlyFamousOne_28 : decode cX5_isOnlyFamousOne 28 = .ok (.aload_n 0, 1) := by decide +kernel
theorem dX5_isOnlyFamousOne_29 : decode cX5_isOnlyFamousOne 29 = .ok (.getfield 9, 3) := by decide +kernel
theorem dX5_isOnlyFamousOne_32 : decode cX5_isOnlyFamousOne 32 = .ok (.iload_n 3, 1) := by decide +kernel
theorem dX5_isOnlyFamousOne_33 : decode cX5_isOnlyFamousOne 33 = .ok (.iaload, 1) := by decide +kernel
theorem dX5_isOnlyFamousOne_34 : decode cX5_isOnlyFamousOne 34 = .ok (.iconst 2, 1) := by decide +kernel
theorem dX5_isOnlyFamousOne_35 : decode cX5_isOnlyFamousOne 35 = .ok (.if_icmp .lt 47, 3) := by decide +kernel
theorem dX5_isOnlyFamousOne_38 : decode cX5_isOnlyFamousOne 38 = .ok (.aload_n 0, 1) := by decide +kernel
theorem dX5_isOnlyFamousOne_39 : decode cX5_isOnlyFamousOne 39 = .ok (.getfield 55, 3) := by decide +kernel
theorem dX5_isOnlyFamousOne_42 : decode cX5_isOnlyFamousOne 42 = .ok (.getfield 123, 3) := by decide +kernel
theorem dX5_isOnlyFamousOne_45 : decode cX5_isOnlyFamousOne 45 = .ok (.iload_n 3, 1) := by decide +kernel
theorem dX5_isOnlyFamousOne_46 : decode cX5_isOnlyFamousOne 46 = .ok (.iaload, 1) := by decide +kernel
theorem dX5_isOnlyFamousOne_47 : decode cX5_isOnlyFamousOne 47 = .ok (.aload_n 0, 1) := by decide +kernel
theorem dX5_isOnlyFamousOne_48 : decode cX5_isOnlyFamousOne 48 = .ok (.getfield 55, 3) := by decide +kernel
theorem dX5_isOnlyFamousOne_51 : decode cX5_isOnlyFamousOne 51 = .ok (.getfield 123, 3) := by decide +kernel
theorem dX5_isOnlyFamousOne_54 : decode cX5_isOnlyFamousOne 54 = .ok (.iload_n 1, 1) := by decide +kernel
theorem dX5_isOnlyFamousOne_55 : decode cX5_isOnlyFamousOne 55 = .ok (.iaload, 1) := by decide +kernel
theorem dX5_isOnlyFamousOne_56 : decode cX5_isOnlyFamousOne 56 = .ok (.if_icmp .ne 26, 3) := by decide +kernel
theorem dX5_isOnlyFamousOne_59 : decode cX5_isOnlyFamousOne 59 = .ok (.aload_n 0, 1) := by decide +kernel
theorem dX5_isOnlyFamousOne_60 : decode cX5_isOnlyFamousOne 60 = .ok (.getfield 51, 3) := by decide +kernel
theorem dX5_isOnlyFamousOne_63 : decode cX5_isOnlyFamousOne 63 = .ok (.getfield 138, 3) := by decide +kernel
theorem dX5_isOnlyFamousOne_66 : decode cX5_isOnlyFamousOne 66 = .ok (.iload_n 3, 1) := by decide +kernel
theorem dX5_isOnlyFamousOne_67 : decode cX5_isOnlyFamousOne 67 = .ok (.iaload, 1) := by decide +kernel
theorem dX5_isOnlyFamousOne_68 : decode cX5_isOnlyFamousOne 68 = .ok (.aload_n 0, 1) := by decide +kernel
theorem dX5_isOnlyFamousOne_69 : decode cX5_isOnlyFamousOne 69 = .ok (.getfield 51, 3) := by decide +kernel
theorem dX5_isOnlyFamousOne_72 : decode cX5_isOnlyFamousOne 72 = .ok (.getfield 138, 3) := by decide +kernel
theorem dX5_isOnlyFamousOne_75 : decode cX5_isOnlyFamousOne 75 = .ok (.iload_n 1, 1) := by decide +kernel
theorem dX5_isOnlyFamousOne_76 : decode cX5_isOnlyFamousOne 76 = .ok (.iaload, 1) := by decide +kernel
theorem dX5_isOnlyFamousOne_77 : decode cX5_isOnlyFamousOne 77 = .ok (.if_icmp .ne 5, 3) := by decide +kernel
theorem dX5_isOnlyFamousOne_80 : decode cX5_isOnlyFamousOne 80 = .ok (.iconst 0, 1) := by decide +kernel
theorem dX5_isOnlyFamousOne_81 : decode cX5_isOnlyFamousOne 81 = .ok (.ireturn, 1) := by decide +kernel
theorem dX5_isOnlyFamousOne_82 : decode cX5_isOnlyFamousOne 82 = .ok (.iinc 2 1, 3) := by decide +kernel
theorem dX5_isOnlyFamousOne_85 : decode cX5_isOnlyFamousOne 85 = .ok (.goto (-83), 3) := by decide +kernel
theorem dX5_isOnlyFamousOne_88 : decode cX5_isOnlyFamousOne 88 = .ok (.iconst 1, 1) := by decide +kernel
theorem dX5_isOnlyFamousOne_89 : decode cX5_isOnlyFamousOne 89 = .ok (.ireturn, 1) := by decide +kernel
theorem dX5_addUnique_0 : decode cX5_addUnique 0 = .ok (.aload_n 0, 1) := by decide +kernel
theorem dX5_addUnique_1 : decode cX5_addUnique 1 = .ok (.getfield 31, 3) := by decide +kernel
theorem dX5_addUnique_4 : decode cX5_addUnique 4 = .ok (.iload_n 2, 1) := by decide +kernel
theorem dX5_addUnique_5 : decode cX5_addUnique 5 = .ok (.bipush 8, 2) := by decide +kernel
theorem dX5_addUnique_7 : decode cX5_addUnique 7 = .ok (.imul, 1) := by decide +kernel
theorem dX5_addUnique_8 : decode cX5_addUnique 8 = .ok (.aload_n 0, 1) := by decide +kernel
theorem dX5_addUnique_9 : decode cX5_addUnique 9 = .ok (.getfield 34, 3) := by decide +kernel
theorem dX5_addUnique_12 : decode cX5_addUnique 12 = .ok (.iload_n 2, 1) := by decide +kernel
theorem dX5_addUnique_13 : decode cX5_addUnique 13 = .ok (.iaload, 1) := by decide +kernel
theorem dX5_addUnique_14 : decode cX5_addUnique 14 = .ok (.iadd, 1) := by decide +kernel
theorem dX5_addUnique_15 : decode cX5_addUnique 15 = .ok (.iload_n 1, 1) := by decide +kernel
theorem dX5_addUnique_16 : decode cX5_addUnique 16 = .ok (.iastore, 1) := by decide +kernel
theorem dX5_addUnique_17 : decode cX5_addUnique 17 = .ok (.aload_n 0, 1) := by decide +kernel
theorem dX5_addUnique_18 : decode cX5_addUnique 18 = .ok (.getfield 34, 3) := by decide +kernel
theorem dX5_addUnique_21 : decode cX5_addUnique 21 = .ok (.iload_n 2, 1) := by decide +kernel
theorem dX5_addUnique_22 : decode cX5_addUnique 22 = .ok (.dup2, 1) := by decide +kernel
theorem dX5_addUnique_23 : decode cX5_addUnique 23 = .ok (.iaload, 1) := by decide +kernel
theorem dX5_addUnique_24 : decode cX5_addUnique 24 = .ok (.iconst 1, 1) := by decide +kernel
theorem dX5_addUnique_25 : decode cX5_addUnique 25 = .ok (.iadd, 1) := by decide +kernel
theorem dX5_addUnique_26 : decode cX5_addUnique 26 = .ok (.iastore, 1) := by decide +kernel
theorem dX5_addUnique_27 : decode cX5_addUnique 27 = .ok (.iconst 0, 1) := by decide +kernel
theorem dX5_addUnique_28 : decode cX5_addUnique 28 = .ok (.istore_n 3, 1) := by decide +kernel
theorem dX5_addUnique_29 : decode cX5_addUnique 29 = .ok (.iload_n 3, 1) := by decide +kernel
theorem dX5_addUnique_30 : decode cX5_addUnique 30 = .ok (.bipush 8, 2) := by decide +kernel
theorem dX5_addUnique_32 : decode cX5_addUnique 32 = .ok (.if_icmp .ge 32, 3) := by decide +kernel
theorem dX5_addUnique_35 : decode cX5_addUnique 35 = .ok (.aload_n 0, 1) := by decide +kernel
theorem dX5_addUnique_36 : decode cX5_addUnique 36 = .ok (.getfield 37, 3) := by decide +kernel
theorem dX5_addUnique_39 : decode cX5_addUnique 39 = .ok (.iload_n 2, 1) := by decide +kernel
theorem dX5_addUnique_40 : decode cX5_addUnique 40 = .ok (.bipush 8, 2) := by decide +kernel
theorem dX5_addUnique_42 : decode cX5_addUnique 42 = .ok (.imul, 1) := by decide +kernel
theorem dX5_addUnique_43 : decode cX5_addUnique 43 = .ok (.iload_n 3, 1) := by decide +kernel
theorem dX5_addUnique_44 : decode cX5_addUnique 44 = .ok (.iadd, 1) := by decide +kernel
theorem dX5_addUnique_45 : decode cX5_addUnique 45 = .ok (.dup2, 1) := by decide +kernel
theorem dX5_addUnique_46 : decode cX5_addUnique 46 = .ok (.iaload, 1) := by decide +kernel
theorem dX5_addUnique_47 : decode cX5_addUnique 47 = .ok (.aload_n 0, 1) := by decide +kernel
theorem dX5_addUnique_48 : decode cX5_addUnique 48 = .ok (.getfield 51, 3) := by decide +kernel
theorem dX5_addUnique_51 : decode cX5_addUnique 51 = .ok (.iload_n 1, 1) := by decide +kernel
theorem dX5_addUnique_52 : decode cX5_addUnique 52 = .ok (.iload_n 3, 1) := by decide +kernel
theorem dX5_addUnique_53 : decode cX5_addUnique 53 = .ok (.invokevirtual 141, 3) := by decide +kernel
theorem dX5_addUnique_56 : decode cX5_addUnique 56 = .ok (.ixor, 1) := by decide +kernel
theorem dX5_addUnique_57 : decode cX5_addUnique 57 = .ok (.iastore, 1) := by decide +kernel
theorem dX5_addUnique_58 : decode cX5_addUnique 58 = .ok (.iinc 3 1, 3) := by decide +kernel
theorem dX5_addUnique_61 : decode cX5_addUnique 61 = .ok (.goto (-32), 3) := by decide +kernel
theorem dX5_addUnique_64 : decode cX5_addUnique 64 = .ok (.return_, 1) := by decide +kernel
theorem dX5_settleRounds_0 : decode cX5_settleRounds 0 = .ok (.aload_n 0, 1) := by decide +kernel
theorem dX5_settleRounds_1 : decode cX5_settleRounds 1 = .ok (.invokevirtual 145, 3) := by decide +kernel
theorem dX5_settleRounds_4 : decode cX5_settleRounds 4 = .ok (.istore_n 1, 1) := by decide +kernel
theorem dX5_settleRounds_5 : decode cX5_settleRounds 5 = .ok (.aload_n 0, 1) := by decide +kernel
theorem dX5_settleRounds_6 : decode cX5_settleRounds 6 = .ok (.iconst 0, 1) := by decide +kernel
theorem dX5_settleRounds_7 : decode cX5_settleRounds 7 = .ok (.putfield 149, 3) := by decide +kernel
theorem dX5_settleRounds_10 : decode cX5_settleRounds 10 = .ok (.iconst 1, 1) := by decide +kernel
theorem dX5_settleRounds_11 : decode cX5_settleRounds 11 = .ok (.istore_n 2, 1) := by decide +kernel
theorem dX5_settleRounds_12 : decode cX5_settleRounds 12 = .ok (.iload_n 2, 1) := by decide +kernel
theorem dX5_settleRounds_13 : decode cX5_settleRounds 13 = .ok (.sipush 240, 3) := by decide +kernel
theorem dX5_settleRounds_16 : decode cX5_settleRounds 16 = .ok (.if_icmp .gt 57, 3) := by decide +kernel
theorem dX5_settleRounds_19 : decode cX5_settleRounds 19 = .ok (.aload_n 0, 1) := by decide +kernel
theorem dX5_settleRounds_20 : decode cX5_settleRounds 20 = .ok (.getfield 40, 3) := by decide +kernel
theorem dX5_settleRounds_23 : decode cX5_settleRounds 23 = .ok (.iload_n 2, 1) := by decide +kernel
theorem dX5_settleRounds_24 : decode cX5_settleRounds 24 = .ok (.iload_n 2, 1) := by decide +kernel
theorem dX5_settleRounds_25 : decode cX5_settleRounds 25 = .ok (.iload_n 1, 1) := by decide +kernel
theorem dX5_settleRounds_26 : decode cX5_settleRounds 26 = .ok (.if_icmp .ge 16, 3) := by decide +kernel
theorem dX5_settleRounds_29 : decode cX5_settleRounds 29 = .ok (.aload_n 0, 1) := by decide +kernel
theorem dX5_settleRounds_30 : decode cX5_settleRounds 30 = .ok (.getfield 34, 3) := by decide +kernel
theorem dX5_settleRounds_33 : decode cX5_settleRounds 33 = .ok (.iload_n 2, 1) := by decide +kernel
theorem dX5_settleRounds_34 : decode cX5_settleRounds 34 = .ok (.iaload, 1) := by decide +kernel
theorem dX5_settleRounds_35 : decode cX5_settleRounds 35 = .ok (.ifCond .le 7, 3) := by decide +kernel
theorem dX5_settleRounds_38 : decode cX5_settleRounds 38 = .ok (.iconst 1, 1) := by decide +kernel
theorem dX5_settleRounds_39 : decode cX5_settleRounds 39 = .ok (.goto 4, 3) := by decide +kernel
theorem dX5_settleRounds_42 : decode cX5_settleRounds 42 = .ok (.iconst 0, 1) := by decide +kernel
theorem dX5_settleRounds_43 : decode cX5_settleRounds 43 = .ok (.bastore, 1) := by decide +kernel
theorem dX5_settleRounds_44 : decode cX5_settleRounds 44 = .ok (.aload_n 0, 1) := by decide +kernel
theorem dX5_settleRounds_45 : decode cX5_settleRounds 45 = .ok (.dup, 1) := by decide +kernel
theorem dX5_settleRounds_46 : decode cX5_settleRounds 46 = .ok (.getfield 149, 3) := by decide +kernel
theorem dX5_settleRounds_49 : decode cX5_settleRounds 49 = .ok (.aload_n 0, 1) := by decide +kernel
theorem dX5_settleRounds_50 : decode cX5_settleRounds 50 = .ok (.getfield 40, 3) := by decide +kernel
theorem dX5_settleRounds_53 : decode cX5_settleRounds 53 = .ok (.iload_n 2, 1) := by decide +kernel
theorem dX5_settleRounds_54 : decode cX5_settleRounds 54 = .ok (.baload, 1) := by decide +kernel
theorem dX5_settleRounds_55 : decode cX5_settleRounds 55 = .ok (.ifCond .eq 7, 3) := by decide +kernel
theorem dX5_settleRounds_58 : decode cX5_settleRounds 58 = .ok (.iconst 1, 1) := by decide +kernel
theorem dX5_settleRounds_59 : decode cX5_settleRounds 59 = .ok (.goto 4, 3) := by decide +kernel
theorem dX5_settleRounds_62 : decode cX5_settleRounds 62 = .ok (.iconst 0, 1) := by decide +kernel
theorem dX5_settleRounds_63 : decode cX5_settleRounds 63 = .ok (.iadd, 1) := by decide +kernel
theorem dX5_settleRounds_64 : decode cX5_settleRounds 64 = .ok (.putfield 149, 3) := by decide +kernel
theorem dX5_settleRounds_67 : decode cX5_settleRounds 67 = .ok (.iinc 2 1, 3) := by decide +kernel
theorem dX5_settleRounds_70 : decode cX5_settleRounds 70 = .ok (.goto (-58), 3) := by decide +kernel
theorem dX5_settleRounds_73 : decode cX5_settleRounds 73 = .ok (.return_, 1) := by decide +kernel
theorem dX5_leastOpenRound_0 : decode cX5_leastOpenRound 0 = .ok (.sipush 241, 3) := by decide +kernel
theorem dX5_leastOpenRound_3 : decode cX5_leastOpenRound 3 = .ok (.istore_n 1, 1) := by decide +kernel
theorem dX5_leastOpenRound_4 : decode cX5_leastOpenRound 4 = .ok (.iconst 0, 1) := by decide +kernel
theorem dX5_leastOpenRound_5 : decode cX5_leastOpenRound 5 = .ok (.istore_n 2, 1) := by decide +kernel
theorem dX5_leastOpenRound_6 : decode cX5_leastOpenRound 6 = .ok (.iload_n 2, 1) := by decide +kernel
theorem dX5_leastOpenRound_7 : decode cX5_leastOpenRound 7 = .ok (.aload_n 0, 1) := by decide +kernel
theorem dX5_leastOpenRound_8 : decode cX5_leastOpenRound 8 = .ok (.getfield 59, 3) := by decide +kernel
theorem dX5_leastOpenRound_11 : decode cX5_leastOpenRound 11 = .ok (.getfield 104, 3) := by decide +kernel
theorem dX5_leastOpenRound_14 : decode cX5_leastOpenRound 14 = .ok (.if_icmp .ge 50, 3) := by decide +kernel
theorem dX5_leastOpenRound_17 : decode cX5_leastOpenRound 17 = .ok (.aload_n 0, 1) := by decide +kernel
theorem dX5_leastOpenRound_18 : decode cX5_leastOpenRound 18 = .ok (.getfield 59, 3) := by decide +kernel
theorem dX5_leastOpenRound_21 : decode cX5_leastOpenRound 21 = .ok (.getfield 109, 3) := by decide +kernel
theorem dX5_leastOpenRound_24 : decode cX5_leastOpenRound 24 = .ok (.iload_n 2, 1) := by decide +kernel
theorem dX5_leastOpenRound_25 : decode cX5_leastOpenRound 25 = .ok (.iaload, 1) := by decide +kernel
theorem dX5_leastOpenRound_26 : decode cX5_leastOpenRound 26 = .ok (.istore_n 3, 1) := by decide +kernel
theorem dX5_leastOpenRound_27 : decode cX5_leastOpenRound 27 = .ok (.aload_n 0, 1) := by decide +kernel
theorem dX5_leastOpenRound_28 : decode cX5_leastOpenRound 28 = .ok (.iload_n 3, 1) := by decide +kernel
theorem dX5_leastOpenRound_29 : decode cX5_leastOpenRound 29 = .ok (.invokevirtual 112, 3) := by decide +kernel
theorem dX5_leastOpenRound_32 : decode cX5_leastOpenRound 32 = .ok (.ifCond .eq 26, 3) := by decide +kernel
theorem dX5_leastOpenRound_35 : decode cX5_leastOpenRound 35 = .ok (.aload_n 0, 1) := by decide +kernel
theorem dX5_leastOpenRound_36 : decode cX5_leastOpenRound 36 = .ok (.getfield 9, 3) := by decide +kernel
theorem dX5_leastOpenRound_39 : decode cX5_leastOpenRound 39 = .ok (.iload_n 3, 1) := by decide +kernel
theorem dX5_leastOpenRound_40 : decode cX5_leastOpenRound 40 = .ok (.iaload, 1) := by decide +kernel
theorem dX5_leastOpenRound_41 : decode cX5_leastOpenRound 41 = .ok (.ifCond .ne 17, 3) := by decide +kernel
theorem dX5_leastOpenRound_44 : decode cX5_leastOpenRound 44 = .ok (.iload_n 1, 1) := by decide +kernel
theorem dX5_leastOpenRound_45 : decode cX5_leastOpenRound 45 = .ok (.aload_n 0, 1) := by decide +kernel
theorem dX5_leastOpenRound_46 : decode cX5_leastOpenRound 46 = .ok (.getfield 55, 3) := by decide +kernel
theorem dX5_leastOpenRound_49 : decode cX5_leastOpenRound 49 = .ok (.getfield 123, 3) := by decide +kernel
theorem dX5_leastOpenRound_52 : decode cX5_leastOpenRound 52 = .ok (.iload_n 3, 1) := by decide +kernel
theorem dX5_leastOpenRound_53 : decode cX5_leastOpenRound 53 = .ok (.iaload, 1) := by decide +kernel
theorem dX5_leastOpenRound_54 : decode cX5_leastOpenRound 54 = .ok (.invokestatic 152, 3) := by decide +kernel
theorem dX5_leastOpenRound_57 : decode cX5_leastOpenRound 57 = .ok (.istore_n 1, 1) := by decide +kernel
theorem dX5_leastOpenRound_58 : decode cX5_leastOpenRound 58 = .ok (.iinc 2 1, 3) := by decide +kernel
theorem dX5_leastOpenRound_61 : decode cX5_leastOpenRound 61 = .ok (.goto (-55), 3) := by decide +kernel
theorem dX5_leastOpenRound_64 : decode cX5_leastOpenRound 64 = .ok (.iload_n 1, 1) := by decide +kernel
theorem dX5_leastOpenRound_65 : decode cX5_leastOpenRound 65 = .ok (.ireturn, 1) := by decide +kernel
theorem dX5_findReceived_0 : decode cX5_findReceived 0 = .ok (.aload_n 0, 1) := by decide +kernel
theorem dX5_findReceived_1 : decode cX5_findReceived 1 = .ok (.getfield 15, 3) := by decide +kernel
theorem dX5_findReceived_4 : decode cX5_findReceived 4 = .ok (.iconst 0, 1) := by decide +kernel
theorem dX5_findReceived_5 : decode cX5_findReceived 5 = .ok (.invokestatic 98, 3) := by decide +kernel
theorem dX5_findReceived_8 : decode cX5_findReceived 8 = .ok (.iconst 0, 1) := by decide +kernel
theorem dX5_findReceived_9 : decode cX5_findReceived 9 = .ok (.istore_n 1, 1) := by decide +kernel
theorem dX5_findReceived_10 : decode cX5_findReceived 10 = .ok (.iload_n 1, 1) := by decide +kernel
theorem dX5_findReceived_11 : decode cX5_findReceived 11 = .ok (.aload_n 0, 1) := by decide +kernel
theorem dX5_findReceived_12 : decode cX5_findReceived 12 = .ok (.getfield 51, 3) := by decide +kernel
theorem dX5_findReceived_15 : decode cX5_findReceived 15 = .ok (.getfield 157, 3) := by decide +kernel
theorem dX5_findReceived_18 : decode cX5_findReceived 18 = .ok (.if_icmp .ge 54, 3) := by decide +kernel
theorem dX5_findReceived_21 : decode cX5_findReceived 21 = .ok (.aload_n 0, 1) := by decide +kernel
theorem dX5_findReceived_22 : decode cX5_findReceived 22 = .ok (.iload_n 1, 1) := by decide +kernel
theorem dX5_findReceived_23 : decode cX5_findReceived 23 = .ok (.invokevirtual 112, 3) := by decide +kernel
theorem dX5_findReceived_26 : decode cX5_findReceived 26 = .ok (.ifCond .eq 14, 3) := by decide +kernel
theorem dX5_findReceived_29 : decode cX5_findReceived 29 = .ok (.aload_n 0, 1) := by decide +kernel
theorem dX5_findReceived_30 : decode cX5_findReceived 30 = .ok (.getfield 15, 3) := by decide +kernel
theorem dX5_findReceived_33 : decode cX5_findReceived 33 = .ok (.iload_n 1, 1) := by decide +kernel
theorem dX5_findReceived_34 : decode cX5_findReceived 34 = .ok (.aload_n 0, 1) := by decide +kernel
theorem dX5_findReceived_35 : decode cX5_findReceived 35 = .ok (.iload_n 1, 1) := by decide +kernel
theorem dX5_findReceived_36 : decode cX5_findReceived 36 = .ok (.invokevirtual 158, 3) := by decide +kernel
theorem dX5_findReceived_39 : decode cX5_findReceived 39 = .ok (.iastore, 1) := by decide +kernel
theorem dX5_findReceived_40 : decode cX5_findReceived 40 = .ok (.aload_n 0, 1) := by decide +kernel
theorem dX5_findReceived_41 : decode cX5_findReceived 41 = .ok (.getfield 15, 3) := by decide +kernel
theorem dX5_findReceived_44 : decode cX5_findReceived 44 = .ok (.iload_n 1, 1) := by decide +kernel
theorem dX5_findReceived_45 : decode cX5_findReceived 45 = .ok (.iaload, 1) := by decide +kernel
theorem dX5_findReceived_46 : decode cX5_findReceived 46 = .ok (.ifCond .eq 20, 3) := by decide +kernel
theorem dX5_findReceived_49 : decode cX5_findReceived 49 = .ok (.aload_n 0, 1) := by decide +kernel
theorem dX5_findReceived_50 : decode cX5_findReceived 50 = .ok (.getfield 18, 3) := by decide +kernel
theorem dX5_findReceived_53 : decode cX5_findReceived 53 = .ok (.iload_n 1, 1) := by decide +kernel
theorem dX5_findReceived_54 : decode cX5_findReceived 54 = .ok (.aload_n 0, 1) := by decide +kernel
theorem dX5_findReceived_55 : decode cX5_findReceived 55 = .ok (.aload_n 0, 1) := by decide +kernel
theorem dX5_findReceived_56 : decode cX5_findReceived 56 = .ok (.getfield 15, 3) := by decide +kernel
theorem dX5_findReceived_59 : decode cX5_findReceived 59 = .ok (.iload_n 1, 1) := by decide +kernel
theorem dX5_findReceived_60 : decode cX5_findReceived 60 = .ok (.iaload, 1) := by decide +kernel
theorem dX5_findReceived_61 : decode cX5_findReceived 61 = .ok (.iload_n 1, 1) := by decide +kernel
theorem dX5_findReceived_62 : decode cX5_findReceived 62 = .ok (.invokevirtual 161, 3) := by decide +kernel
theorem dX5_findReceived_65 : decode cX5_findReceived 65 = .ok (.lastore, 1) := by decide +kernel
theorem dX5_findReceived_66 : decode cX5_findReceived 66 = .ok (.iinc 1 1, 3) := by decide +kernel
theorem dX5_findReceived_69 : decode cX5_findReceived 69 = .ok (.goto (-59), 3) := by decide +kernel
theorem dX5_findReceived_72 : decode cX5_findReceived 72 = .ok (.return_, 1) := by decide +kernel
theorem dX5_roundReceiving_0 : decode cX5_roundReceiving 0 = .ok (.aload_n 0, 1) := by decide +kernel
theorem dX5_roundReceiving_1 : decode cX5_roundReceiving 1 = .ok (.getfield 55, 3) := by decide +kernel
theorem dX5_roundReceiving_4 : decode cX5_roundReceiving 4 = .ok (.getfield 123, 3) := by decide +kernel
theorem dX5_roundReceiving_7 : decode cX5_roundReceiving 7 = .ok (.iload_n 1, 1) := by decide +kernel
theorem dX5_roundReceiving_8 : decode cX5_roundReceiving 8 = .ok (.iaload, 1) := by decide +kernel
theorem dX5_roundReceiving_9 : decode cX5_roundReceiving 9 = .ok (.istore_n 2, 1) := by decide +kernel
theorem dX5_roundReceiving_10 : decode cX5_roundReceiving 10 = .ok (.iload_n 2, 1) := by decide +kernel
theorem dX5_roundReceiving_11 : decode cX5_roundReceiving 11 = .ok (.aload_n 0, 1) := by decide +kernel
theorem dX5_roundReceiving_12 : decode cX5_roundReceiving 12 = .ok (.getfield 55, 3) := by decide +kernel
theorem dX5_roundReceiving_15 : decode cX5_roundReceiving 15 = .ok (.getfield 165, 3) := by decide +kernel
theorem dX5_roundReceiving_18 : decode cX5_roundReceiving 18 = .ok (.if_icmp .gt 29, 3) := by decide +kernel
theorem dX5_roundReceiving_21 : decode cX5_roundReceiving 21 = .ok (.aload_n 0, 1) := by decide +kernel
theorem dX5_roundReceiving_22 : decode cX5_roundReceiving 22 = .ok (.getfield 40, 3) := by decide +kernel
theorem dX5_roundReceiving_25 : decode cX5_roundReceiving 25 = .ok (.iload_n 2, 1) := by decide +kernel
theorem dX5_roundReceiving_26 : decode cX5_roundReceiving 26 = .ok (.baload, 1) := by decide +kernel
theorem dX5_roundReceiving_27 : decode cX5_roundReceiving 27 = .ok (.ifCond .eq 14, 3) := by decide +kernel
theorem dX5_roundReceiving_30 : decode cX5_roundReceiving 30 = .ok (.aload_n 0, 1) := by decide +kernel
theorem dX5_roundReceiving_31 : decode cX5_roundReceiving 31 = .ok (.iload_n 1, 1) := by decide +kernel
theorem dX5_roundReceiving_32 : decode cX5_roundReceiving 32 = .ok (.iload_n 2, 1) := by decide +kernel
theorem dX5_roundReceiving_33 : decode cX5_roundReceiving 33 = .ok (.invokevirtual 168, 3) := by decide +kernel
theorem dX5_roundReceiving_36 : decode cX5_roundReceiving 36 = .ok (.ifCond .eq 5, 3) := by decide +kernel
theorem dX5_roundReceiving_39 : decode cX5_roundReceiving 39 = .ok (.iload_n 2, 1) := by decide +kernel
theorem dX5_roundReceiving_40 : decode cX5_roundReceiving 40 = .ok (.ireturn, 1) := by decide +kernel
theorem dX5_roundReceiving_41 : decode cX5_roundReceiving 41 = .ok (.iinc 2 1, 3) := by decide +kernel
theorem dX5_roundReceiving_44 : decode cX5_roundReceiving 44 = .ok (.goto (-34), 3) := by decide +kernel
theorem dX5_roundReceiving_47 : decode cX5_roundReceiving 47 = .ok (.iconst 0, 1) := by decide +kernel
theorem dX5_roundReceiving_48 : decode cX5_roundReceiving 48 = .ok (.ireturn, 1) := by decide +kernel
theorem dX5_isBelowAllUniques_0 : decode cX5_isBelowAllUniques 0 = .ok (.iconst 0, 1) := by decide +kernel
theorem dX5_isBelowAllUniques_1 : decode cX5_isBelowAllUniques 1 = .ok (.istore_n 3, 1) := by decide +kernel
theorem dX5_isBelowAllUniques_2 : decode cX5_isBelowAllUniques 2 = .ok (.iload_n 3, 1) := by decide +kernel
theorem dX5_isBelowAllUniques_3 : decode cX5_isBelowAllUniques 3 = .ok (.aload_n 0, 1) := by decide +kernel
theorem dX5_isBelowAllUniques_4 : decode cX5_isBelowAllUniques 4 = .ok (.getfield 34, 3) := by decide +kernel
theorem dX5_isBelowAllUniques_7 : decode cX5_isBelowAllUniques 7 = .ok (.iload_n 2, 1) := by decide +kernel
theorem dX5_isBelowAllUniques_8 : decode cX5_isBelowAllUniques 8 = .ok (.iaload, 1) := by decide +kernel
theorem dX5_isBelowAllUniques_9 : decode cX5_isBelowAllUniques 9 = .ok (.if_icmp .ge 36, 3) := by decide +kernel
theorem dX5_isBelowAllUniques_12 : decode cX5_isBelowAllUniques 12 = .ok (.aload_n 0, 1) := by decide +kernel
theorem dX5_isBelowAllUniques_13 : decode cX5_isBelowAllUniques 13 = .ok (.getfield 55, 3) := by decide +kernel
theorem dX5_isBelowAllUniques_16 : decode cX5_isBelowAllUniques 16 = .ok (.getfield 171, 3) := by decide +kernel
theorem dX5_isBelowAllUniques_19 : decode cX5_isBelowAllUniques 19 = .ok (.aload_n 0, 1) := by decide +kernel
theorem dX5_isBelowAllUniques_20 : decode cX5_isBelowAllUniques 20 = .ok (.getfield 31, 3) := by decide +kernel
theorem dX5_isBelowAllUniques_23 : decode cX5_isBelowAllUniques 23 = .ok (.iload_n 2, 1) := by decide +kernel
theorem dX5_isBelowAllUniques_24 : decode cX5_isBelowAllUniques 24 = .ok (.bipush 8, 2) := by decide +kernel
theorem dX5_isBelowAllUniques_26 : decode cX5_isBelowAllUniques 26 = .ok (.imul, 1) := by decide +kernel
theorem dX5_isBelowAllUniques_27 : decode cX5_isBelowAllUniques 27 = .ok (.iload_n 3, 1) := by decide +kernel
theorem dX5_isBelowAllUniques_28 : decode cX5_isBelowAllUniques 28 = .ok (.iadd, 1) := by decide +kernel
theorem dX5_isBelowAllUniques_29 : decode cX5_isBelowAllUniques 29 = .ok (.iaload, 1) := by decide +kernel
theorem dX5_isBelowAllUniques_30 : decode cX5_isBelowAllUniques 30 = .ok (.iload_n 1, 1) := by decide +kernel
theorem dX5_isBelowAllUniques_31 : decode cX5_isBelowAllUniques 31 = .ok (.invokevirtual 92, 3) := by decide +kernel
theorem dX5_isBelowAllUniques_34 : decode cX5_isBelowAllUniques 34 = .ok (.ifCond .ne 5, 3) := by decide +kernel
theorem dX5_isBelowAllUniques_37 : decode cX5_isBelowAllUniques 37 = .ok (.iconst 0, 1) := by decide +kernel
theorem dX5_isBelowAllUniques_38 : decode cX5_isBelowAllUniques 38 = .ok (.ireturn, 1) := by decide +kernel
theorem dX5_isBelowAllUniques_39 : decode cX5_isBelowAllUniques 39 = .ok (.iinc 3 1, 3) := by decide +kernel
theorem dX5_isBelowAllUniques_42 : decode cX5_isBelowAllUniques 42 = .ok (.goto (-40), 3) := by decide +kernel
theorem dX5_isBelowAllUniques_45 : decode cX5_isBelowAllUniques 45 = .ok (.iconst 1, 1) := by decide +kernel
theorem dX5_isBelowAllUniques_46 : decode cX5_isBelowAllUniques 46 = .ok (.ireturn, 1) := by decide +kernel
theorem dX5_stampIn_0 : decode cX5_stampIn 0 = .ok (.iconst 0, 1) := by decide +kernel
theorem dX5_stampIn_1 : decode cX5_stampIn 1 = .ok (.istore_n 3, 1) := by decide +kernel
theorem dX5_stampIn_2 : decode cX5_stampIn 2 = .ok (.iload_n 3, 1) := by decide +kernel
theorem dX5_stampIn_3 : decode cX5_stampIn 3 = .ok (.aload_n 0, 1) := by decide +kernel
theorem dX5_stampIn_4 : decode cX5_stampIn 4 = .ok (.getfield 34, 3) := by decide +kernel
theorem dX5_stampIn_7 : decode cX5_stampIn 7 = .ok (.iload_n 1, 1) := by decide +kernel
theorem dX5_stampIn_8 : decode cX5_stampIn 8 = .ok (.iaload, 1) := by decide +kernel
theorem dX5_stampIn_9 : decode cX5_stampIn 9 = .ok (.if_icmp .ge 89, 3) := by decide +kernel
theorem dX5_stampIn_12 : decode cX5_stampIn 12 = .ok (.aload_n 0, 1) := by decide +kernel
theorem dX5_stampIn_13 : decode cX5_stampIn 13 = .ok (.getfield 51, 3) := by decide +kernel
theorem dX5_stampIn_16 : decode cX5_stampIn 16 = .ok (.getfield 174, 3) := by decide +kernel
theorem dX5_stampIn_19 : decode cX5_stampIn 19 = .ok (.aload_n 0, 1) := by decide +kernel
theorem dX5_stampIn_20 : decode cX5_stampIn 20 = .ok (.iload_n 2, 1) := by decide +kernel
theorem dX5_stampIn_21 : decode cX5_stampIn 21 = .ok (.aload_n 0, 1) := by decide +kernel
theorem dX5_stampIn_22 : decode cX5_stampIn 22 = .ok (.getfield 31, 3) := by decide +kernel
theorem dX5_stampIn_25 : decode cX5_stampIn 25 = .ok (.iload_n 1, 1) := by decide +kernel
theorem dX5_stampIn_26 : decode cX5_stampIn 26 = .ok (.bipush 8, 2) := by decide +kernel
theorem dX5_stampIn_28 : decode cX5_stampIn 28 = .ok (.imul, 1) := by decide +kernel
theorem dX5_stampIn_29 : decode cX5_stampIn 29 = .ok (.iload_n 3, 1) := by decide +kernel
theorem dX5_stampIn_30 : decode cX5_stampIn 30 = .ok (.iadd, 1) := by decide +kernel
theorem dX5_stampIn_31 : decode cX5_stampIn 31 = .ok (.iaload, 1) := by decide +kernel
theorem dX5_stampIn_32 : decode cX5_stampIn 32 = .ok (.invokevirtual 177, 3) := by decide +kernel
theorem dX5_stampIn_35 : decode cX5_stampIn 35 = .ok (.laload, 1) := by decide +kernel
theorem dX5_stampIn_36 : decode cX5_stampIn 36 = .ok (.lstore 4, 2) := by decide +kernel
theorem dX5_stampIn_38 : decode cX5_stampIn 38 = .ok (.iload_n 3, 1) := by decide +kernel
theorem dX5_stampIn_39 : decode cX5_stampIn 39 = .ok (.istore 6, 2) := by decide +kernel
theorem dX5_stampIn_41 : decode cX5_stampIn 41 = .ok (.iload 6, 2) := by decide +kernel
theorem dX5_stampIn_43 : decode cX5_stampIn 43 = .ok (.ifCond .le 40, 3) := by decide +kernel
theorem dX5_stampIn_46 : decode cX5_stampIn 46 = .ok (.aload_n 0, 1) := by decide +kernel
theorem dX5_stampIn_47 : decode cX5_stampIn 47 = .ok (.getfield 44, 3) := by decide +kernel
theorem dX5_stampIn_50 : decode cX5_stampIn 50 = .ok (.iload 6, 2) := by decide +kernel
theorem dX5_stampIn_52 : decode cX5_stampIn 52 = .ok (.iconst 1, 1) := by decide +kernel
theorem dX5_stampIn_53 : decode cX5_stampIn 53 = .ok (.isub, 1) := by decide +kernel
theorem dX5_stampIn_54 : decode cX5_stampIn 54 = .ok (.laload, 1) := by decide +kernel
theorem dX5_stampIn_55 : decode cX5_stampIn 55 = .ok (.lload 4, 2) := by decide +kernel
theorem dX5_stampIn_57 : decode cX5_stampIn 57 = .ok (.lcmp, 1) := by decide +kernel
theorem dX5_stampIn_58 : decode cX5_stampIn 58 = .ok (.ifCond .le 25, 3) := by decide +kernel
theorem dX5_stampIn_61 : decode cX5_stampIn 61 = .ok (.aload_n 0, 1) := by decide +kernel
theorem dX5_stampIn_62 : decode cX5_stampIn 62 = .ok (.getfield 44, 3) := by decide +kernel
theorem dX5_stampIn_65 : decode cX5_stampIn 65 = .ok (.iload 6, 2) := by decide +kernel
theorem dX5_stampIn_67 : decode cX5_stampIn 67 = .ok (.aload_n 0, 1) := by decide +kernel
theorem dX5_stampIn_68 : decode cX5_stampIn 68 = .ok (.getfield 44, 3) := by decide +kernel
theorem dX5_stampIn_71 : decode cX5_stampIn 71 = .ok (.iload 6, 2) := by decide +kernel
theorem dX5_stampIn_73 : decode cX5_stampIn 73 = .ok (.iconst 1, 1) := by decide +kernel
theorem dX5_stampIn_74 : decode cX5_stampIn 74 = .ok (.isub, 1) := by decide +kernel
theorem dX5_stampIn_75 : decode cX5_stampIn 75 = .ok (.laload, 1) := by decide +kernel
theorem dX5_stampIn_76 : decode cX5_stampIn 76 = .ok (.lastore, 1) := by decide +kernel
theorem dX5_stampIn_77 : decode cX5_stampIn 77 = .ok (.iinc 6 (-1), 3) := by decide +kernel
theorem dX5_stampIn_80 : decode cX5_stampIn 80 = .ok (.goto (-39), 3) := by decide +kernel
theorem dX5_stampIn_83 : decode cX5_stampIn 83 = .ok (.aload_n 0, 1) := by decide +kernel
theorem dX5_stampIn_84 : decode cX5_stampIn 84 = .ok (.getfield 44, 3) := by decide +kernel
theorem dX5_stampIn_87 : decode cX5_stampIn 87 = .ok (.iload 6, 2) := by decide +kernel
theorem dX5_stampIn_89 : decode cX5_stampIn 89 = .ok (.lload 4, 2) := by decide +kernel
theorem dX5_stampIn_91 : decode cX5_stampIn 91 = .ok (.lastore, 1) := by decide +kernel
theorem dX5_stampIn_92 : decode cX5_stampIn 92 = .ok (.iinc 3 1, 3) := by decide +kernel
theorem dX5_stampIn_95 : decode cX5_stampIn 95 = .ok (.goto (-93), 3) := by decide +kernel
theorem dX5_stampIn_98 : decode cX5_stampIn 98 = .ok (.aload_n 0, 1) := by decide +kernel
theorem dX5_stampIn_99 : decode cX5_stampIn 99 = .ok (.getfield 44, 3) := by decide +kernel
theorem dX5_stampIn_102 : decode cX5_stampIn 102 = .ok (.aload_n 0, 1) := by decide +kernel
theorem dX5_stampIn_103 : decode cX5_stampIn 103 = .ok (.getfield 34, 3) := by decide +kernel
theorem dX5_stampIn_106 : decode cX5_stampIn 106 = .ok (.iload_n 1, 1) := by decide +kernel
theorem dX5_stampIn_107 : decode cX5_stampIn 107 = .ok (.iaload, 1) := by decide +kernel
theorem dX5_stampIn_108 : decode cX5_stampIn 108 = .ok (.iconst 2, 1) := by decide +kernel
theorem dX5_stampIn_109 : decode cX5_stampIn 109 = .ok (.idiv, 1) := by decide +kernel
theorem dX5_stampIn_110 : decode cX5_stampIn 110 = .ok (.laload, 1) := by decide +kernel
theorem dX5_stampIn_111 : decode cX5_stampIn 111 = .ok (.lreturn, 1) := by decide +kernel
theorem dX5_firstAbove_0 : decode cX5_firstAbove 0 = .ok (.iload_n 2, 1) := by decide +kernel
theorem dX5_firstAbove_1 : decode cX5_firstAbove 1 = .ok (.istore_n 3, 1) := by decide +kernel
theorem dX5_firstAbove_2 : decode cX5_firstAbove 2 = .ok (.iconst 0, 1) := by decide +kernel
theorem dX5_firstAbove_3 : decode cX5_firstAbove 3 = .ok (.istore 4, 2) := by decide +kernel
theorem dX5_firstAbove_5 : decode cX5_firstAbove 5 = .ok (.iload 4, 2) := by decide +kernel
theorem dX5_firstAbove_7 : decode cX5_firstAbove 7 = .ok (.sipush 240, 3) := by decide +kernel
theorem dX5_firstAbove_10 : decode cX5_firstAbove 10 = .ok (.if_icmp .ge 47, 3) := by decide +kernel
theorem dX5_firstAbove_13 : decode cX5_firstAbove 13 = .ok (.aload_n 0, 1) := by decide +kernel
theorem dX5_firstAbove_14 : decode cX5_firstAbove 14 = .ok (.getfield 51, 3) := by decide +kernel
theorem dX5_firstAbove_17 : decode cX5_firstAbove 17 = .ok (.getfield 180, 3) := by decide +kernel
theorem dX5_firstAbove_20 : decode cX5_firstAbove 20 = .ok (.iload_n 3, 1) := by decide +kernel
theorem dX5_firstAbove_21 : decode cX5_firstAbove 21 = .ok (.iaload, 1) := by decide +kernel
theorem dX5_firstAbove_22 : decode cX5_firstAbove 22 = .ok (.istore 5, 2) := by decide +kernel
theorem dX5_firstAbove_24 : decode cX5_firstAbove 24 = .ok (.iload 5, 2) := by decide +kernel
theorem dX5_firstAbove_26 : decode cX5_firstAbove 26 = .ok (.iconst (-1), 1) := by decide +kernel
theorem dX5_firstAbove_27 : decode cX5_firstAbove 27 = .ok (.if_icmp .eq 19, 3) := by decide +kernel
theorem dX5_firstAbove_30 : decode cX5_firstAbove 30 = .ok (.aload_n 0, 1) := by decide +kernel
theorem dX5_firstAbove_31 : decode cX5_firstAbove 31 = .ok (.getfield 55, 3) := by decide +kernel
theorem dX5_firstAbove_34 : decode cX5_firstAbove 34 = .ok (.getfield 171, 3) := by decide +kernel
theorem dX5_firstAbove_37 : decode cX5_firstAbove 37 = .ok (.iload 5, 2) := by decide +kernel
theorem dX5_firstAbove_39 : decode cX5_firstAbove 39 = .ok (.iload_n 1, 1) := by decide +kernel
theorem dX5_firstAbove_40 : decode cX5_firstAbove 40 = .ok (.invokevirtual 92, 3) := by decide +kernel
theorem dX5_firstAbove_43 : decode cX5_firstAbove 43 = .ok (.ifCond .ne 5, 3) := by decide +kernel
theorem dX5_firstAbove_46 : decode cX5_firstAbove 46 = .ok (.iload_n 3, 1) := by decide +kernel
theorem dX5_firstAbove_47 : decode cX5_firstAbove 47 = .ok (.ireturn, 1) := by decide +kernel
theorem dX5_firstAbove_48 : decode cX5_firstAbove 48 = .ok (.iload 5, 2) := by decide +kernel
theorem dX5_firstAbove_50 : decode cX5_firstAbove 50 = .ok (.istore_n 3, 1) := by decide +kernel
theorem dX5_firstAbove_51 : decode cX5_firstAbove 51 = .ok (.iinc 4 1, 3) := by decide +kernel
theorem dX5_firstAbove_54 : decode cX5_firstAbove 54 = .ok (.goto (-49), 3) := by decide +kernel
theorem dX5_firstAbove_57 : decode cX5_firstAbove 57 = .ok (.iload_n 3, 1) := by decide +kernel
theorem dX5_firstAbove_58 : decode cX5_firstAbove 58 = .ok (.ireturn, 1) := by decide +kernel
theorem dX5_findOrder_0 : decode cX5_findOrder 0 = .ok (.aload_n 0, 1) := by decide +kernel
theorem dX5_findOrder_1 : decode cX5_findOrder 1 = .ok (.getfield 22, 3) := by decide +kernel
theorem dX5_findOrder_4 : decode cX5_findOrder 4 = .ok (.iconst (-1), 1) := by decide +kernel
theorem dX5_findOrder_5 : decode cX5_findOrder 5 = .ok (.invokestatic 98, 3) := by decide +kernel
theorem dX5_findOrder_8 : decode cX5_findOrder 8 = .ok (.aload_n 0, 1) := by decide +kernel
theorem dX5_findOrder_9 : decode cX5_findOrder 9 = .ok (.iconst 0, 1) := by decide +kernel
theorem dX5_findOrder_10 : decode cX5_findOrder 10 = .ok (.putfield 183, 3) := by decide +kernel
theorem dX5_findOrder_13 : decode cX5_findOrder 13 = .ok (.iconst 0, 1) := by decide +kernel
theorem dX5_findOrder_14 : decode cX5_findOrder 14 = .ok (.istore_n 1, 1) := by decide +kernel
theorem dX5_findOrder_15 : decode cX5_findOrder 15 = .ok (.iload_n 1, 1) := by decide +kernel
theorem dX5_findOrder_16 : decode cX5_findOrder 16 = .ok (.aload_n 0, 1) := by decide +kernel
theorem dX5_findOrder_17 : decode cX5_findOrder 17 = .ok (.getfield 51, 3) := by decide +kernel
theorem dX5_findOrder_20 : decode cX5_findOrder 20 = .ok (.getfield 157, 3) := by decide +kernel
theorem dX5_findOrder_23 : decode cX5_findOrder 23 = .ok (.if_icmp .ge 23, 3) := by decide +kernel
theorem dX5_findOrder_26 : decode cX5_findOrder 26 = .ok (.aload_n 0, 1) := by decide +kernel
theorem dX5_findOrder_27 : decode cX5_findOrder 27 = .ok (.getfield 15, 3) := by decide +kernel
theorem dX5_findOrder_30 : decode cX5_findOrder 30 = .ok (.iload_n 1, 1) := by decide +kernel
theorem dX5_findOrder_31 : decode cX5_findOrder 31 = .ok (.iaload, 1) := by decide +kernel
theorem dX5_findOrder_32 : decode cX5_findOrder 32 = .ok (.ifCond .eq 8, 3) := by decide +kernel
theorem dX5_findOrder_35 : decode cX5_findOrder 35 = .ok (.aload_n 0, 1) := by decide +kernel
theorem dX5_findOrder_36 : decode cX5_findOrder 36 = .ok (.iload_n 1, 1) := by decide +kernel
theorem dX5_findOrder_37 : decode cX5_findOrder 37 = .ok (.invokevirtual 186, 3) := by decide +kernel
theorem dX5_findOrder_40 : decode cX5_findOrder 40 = .ok (.iinc 1 1, 3) := by decide +kernel
theorem dX5_findOrder_43 : decode cX5_findOrder 43 = .ok (.goto (-28), 3) := by decide +kernel
theorem dX5_findOrder_46 : decode cX5_findOrder 46 = .ok (.iconst 0, 1) := by decide +kernel
theorem dX5_findOrder_47 : decode cX5_findOrder 47 = .ok (.istore_n 1, 1) := by decide +kernel
theorem dX5_findOrder_48 : decode cX5_findOrder 48 = .ok (.iload_n 1, 1) := by decide +kernel
theorem dX5_findOrder_49 : decode cX5_findOrder 49 = .ok (.aload_n 0, 1) := by decide +kernel
theorem dX5_findOrder_50 : decode cX5_findOrder 50 = .ok (.getfield 183, 3) := by decide +kernel
theorem dX5_findOrder_53 : decode cX5_findOrder 53 = .ok (.if_icmp .ge 21, 3) := by decide +kernel
theorem dX5_findOrder_56 : decode cX5_findOrder 56 = .ok (.aload_n 0, 1) := by decide +kernel
theorem dX5_findOrder_57 : decode cX5_findOrder 57 = .ok (.getfield 22, 3) := by decide +kernel
theorem dX5_findOrder_60 : decode cX5_findOrder 60 = .ok (.aload_n 0, 1) := by decide +kernel
theorem dX5_findOrder_61 : decode cX5_findOrder 61 = .ok (.getfield 25, 3) := by decide +kernel
theorem dX5_findOrder_64 : decode cX5_findOrder 64 = .ok (.iload_n 1, 1) := by decide +kernel
theorem dX5_findOrder_65 : decode cX5_findOrder 65 = .ok (.iaload, 1) := by decide +kernel
theorem dX5_findOrder_66 : decode cX5_findOrder 66 = .ok (.iload_n 1, 1) := by decide +kernel
theorem dX5_findOrder_67 : decode cX5_findOrder 67 = .ok (.iastore, 1) := by decide +kernel
theorem dX5_findOrder_68 : decode cX5_findOrder 68 = .ok (.iinc 1 1, 3) := by decide +kernel
theorem dX5_findOrder_71 : decode cX5_findOrder 71 = .ok (.goto (-23), 3) := by decide +kernel
theorem dX5_findOrder_74 : decode cX5_findOrder 74 = .ok (.return_, 1) := by decide +kernel
theorem dX5_insert_0 : decode cX5_insert 0 = .ok (.aload_n 0, 1) := by decide +kernel
theorem dX5_insert_1 : decode cX5_insert 1 = .ok (.getfield 183, 3) := by decide +kernel
theorem dX5_insert_4 : decode cX5_insert 4 = .ok (.istore_n 2, 1) := by decide +kernel
theorem dX5_insert_5 : decode cX5_insert 5 = .ok (.iload_n 2, 1) := by decide +kernel
theorem dX5_insert_6 : decode cX5_insert 6 = .ok (.ifCond .le 39, 3) := by decide +kernel
theorem dX5_insert_9 : decode cX5_insert 9 = .ok (.aload_n 0, 1) := by decide +kernel
theorem dX5_insert_10 : decode cX5_insert 10 = .ok (.iload_n 1, 1) := by decide +kernel
theorem dX5_insert_11 : decode cX5_insert 11 = .ok (.aload_n 0, 1) := by decide +kernel
theorem dX5_insert_12 : decode cX5_insert 12 = .ok (.getfield 25, 3) := by decide +kernel
theorem dX5_insert_15 : decode cX5_insert 15 = .ok (.iload_n 2, 1) := by decide +kernel
theorem dX5_insert_16 : decode cX5_insert 16 = .ok (.iconst 1, 1) := by decide +kernel
theorem dX5_insert_17 : decode cX5_insert 17 = .ok (.isub, 1) := by decide +kernel
theorem dX5_insert_18 : decode cX5_insert 18 = .ok (.iaload, 1) := by decide +kernel
theorem dX5_insert_19 : decode cX5_insert 19 = .ok (.invokevirtual 189, 3) := by decide +kernel
theorem dX5_insert_22 : decode cX5_insert 22 = .ok (.ifCond .eq 23, 3) := by decide +kernel
theorem dX5_insert_25 : decode cX5_insert 25 = .ok (.aload_n 0, 1) := by decide +kernel
theorem dX5_insert_26 : decode cX5_insert 26 = .ok (.getfield 25, 3) := by decide +kernel
theorem dX5_insert_29 : decode cX5_insert 29 = .ok (.iload_n 2, 1) := by decide +kernel
theorem dX5_insert_30 : decode cX5_insert 30 = .ok (.aload_n 0, 1) := by decide +kernel
theorem dX5_insert_31 : decode cX5_insert 31 = .ok (.getfield 25, 3) := by decide +kernel
theorem dX5_insert_34 : decode cX5_insert 34 = .ok (.iload_n 2, 1) := by decide +kernel
theorem dX5_insert_35 : decode cX5_insert 35 = .ok (.iconst 1, 1) := by decide +kernel
theorem dX5_insert_36 : decode cX5_insert 36 = .ok (.isub, 1) := by decide +kernel
theorem dX5_insert_37 : decode cX5_insert 37 = .ok (.iaload, 1) := by decide +kernel
theorem dX5_insert_38 : decode cX5_insert 38 = .ok (.iastore, 1) := by decide +kernel
theorem dX5_insert_39 : decode cX5_insert 39 = .ok (.iinc 2 (-1), 3) := by decide +kernel
theorem dX5_insert_42 : decode cX5_insert 42 = .ok (.goto (-37), 3) := by decide +kernel
theorem dX5_insert_45 : decode cX5_insert 45 = .ok (.aload_n 0, 1) := by decide +kernel
theorem dX5_insert_46 : decode cX5_insert 46 = .ok (.getfield 25, 3) := by decide +kernel
theorem dX5_insert_49 : decode cX5_insert 49 = .ok (.iload_n 2, 1) := by decide +kernel
theorem dX5_insert_50 : decode cX5_insert 50 = .ok (.iload_n 1, 1) := by decide +kernel
theorem dX5_insert_51 : decode cX5_insert 51 = .ok (.iastore, 1) := by decide +kernel
theorem dX5_insert_52 : decode cX5_insert 52 = .ok (.aload_n 0, 1) := by decide +kernel
theorem dX5_insert_53 : decode cX5_insert 53 = .ok (.dup, 1) := by decide +kernel
theorem dX5_insert_54 : decode cX5_insert 54 = .ok (.getfield 183, 3) := by decide +kernel
theorem dX5_insert_57 : decode cX5_insert 57 = .ok (.iconst 1, 1) := by decide +kernel
theorem dX5_insert_58 : decode cX5_insert 58 = .ok (.iadd, 1) := by decide +kernel
theorem dX5_insert_59 : decode cX5_insert 59 = .ok (.putfield 183, 3) := by decide +kernel
theorem dX5_insert_62 : decode cX5_insert 62 = .ok (.return_, 1) := by decide +kernel
theorem dX5_isBefore_0 : decode cX5_isBefore 0 = .ok (.aload_n 0, 1) := by decide +kernel
theorem dX5_isBefore_1 : decode cX5_isBefore 1 = .ok (.getfield 15, 3) := by decide +kernel
theorem dX5_isBefore_4 : decode cX5_isBefore 4 = .ok (.iload_n 1, 1) := by decide +kernel
theorem dX5_isBefore_5 : decode cX5_isBefore 5 = .ok (.iaload, 1) := by decide +kernel
theorem dX5_isBefore_6 : decode cX5_isBefore 6 = .ok (.aload_n 0, 1) := by decide +kernel
theorem dX5_isBefore_7 : decode cX5_isBefore 7 = .ok (.getfield 15, 3) := by decide +kernel
theorem dX5_isBefore_10 : decode cX5_isBefore 10 = .ok (.iload_n 2, 1) := by decide +kernel
theorem dX5_isBefore_11 : decode cX5_isBefore 11 = .ok (.iaload, 1) := by decide +kernel
theorem dX5_isBefore_12 : decode cX5_isBefore 12 = .ok (.if_icmp .eq 24, 3) := by decide +kernel
theorem dX5_isBefore_15 : decode cX5_isBefore 15 = .ok (.aload_n 0, 1) := by decide +kernel
theorem dX5_isBefore_16 : decode cX5_isBefore 16 = .ok (.getfield 15, 3) := by decide +kernel
theorem dX5_isBefore_19 : decode cX5_isBefore 19 = .ok (.iload_n 1, 1) := by decide +kernel
theorem dX5_isBefore_20 : decode cX5_isBefore 20 = .ok (.iaload, 1) := by decide +kernel
theorem dX5_isBefore_21 : decode cX5_isBefore 21 = .ok (.aload_n 0, 1) := by decide +kernel
theorem dX5_isBefore_22 : decode cX5_isBefore 22 = .ok (.getfield 15, 3) := by decide +kernel
theorem dX5_isBefore_25 : decode cX5_isBefore 25 = .ok (.iload_n 2, 1) := by decide +kernel
theorem dX5_isBefore_26 : decode cX5_isBefore 26 = .ok (.iaload, 1) := by decide +kernel
theorem dX5_isBefore_27 : decode cX5_isBefore 27 = .ok (.if_icmp .ge 7, 3) := by decide +kernel
theorem dX5_isBefore_30 : decode cX5_isBefore 30 = .ok (.iconst 1, 1) := by decide +kernel
theorem dX5_isBefore_31 : decode cX5_isBefore 31 = .ok (.goto 4, 3) := by decide +kernel
theorem dX5_isBefore_34 : decode cX5_isBefore 34 = .ok (.iconst 0, 1) := by decide +kernel
theorem dX5_isBefore_35 : decode cX5_isBefore 35 = .ok (.ireturn, 1) := by decide +kernel
theorem dX5_isBefore_36 : decode cX5_isBefore 36 = .ok (.aload_n 0, 1) := by decide +kernel
theorem dX5_isBefore_37 : decode cX5_isBefore 37 = .ok (.getfield 18, 3) := by decide +kernel
theorem dX5_isBefore_40 : decode cX5_isBefore 40 = .ok (.iload_n 1, 1) := by decide +kernel
theorem dX5_isBefore_41 : decode cX5_isBefore 41 = .ok (.laload, 1) := by decide +kernel
theorem dX5_isBefore_42 : decode cX5_isBefore 42 = .ok (.aload_n 0, 1) := by decide +kernel
theorem dX5_isBefore_43 : decode cX5_isBefore 43 = .ok (.getfield 18, 3) := by decide +kernel
theorem dX5_isBefore_46 : decode cX5_isBefore 46 = .ok (.iload_n 2, 1) := by decide +kernel
theorem dX5_isBefore_47 : decode cX5_isBefore 47 = .ok (.laload, 1) := by decide +kernel
theorem dX5_isBefore_48 : decode cX5_isBefore 48 = .ok (.lcmp, 1) := by decide +kernel
theorem dX5_isBefore_49 : decode cX5_isBefore 49 = .ok (.ifCond .eq 25, 3) := by decide +kernel
theorem dX5_isBefore_52 : decode cX5_isBefore 52 = .ok (.aload_n 0, 1) := by decide +kernel
theorem dX5_isBefore_53 : decode cX5_isBefore 53 = .ok (.getfield 18, 3) := by decide +kernel
theorem dX5_isBefore_56 : decode cX5_isBefore 56 = .ok (.iload_n 1, 1) := by decide +kernel
theorem dX5_isBefore_57 : decode cX5_isBefore 57 = .ok (.laload, 1) := by decide +kernel
theorem dX5_isBefore_58 : decode cX5_isBefore 58 = .ok (.aload_n 0, 1) := by decide +kernel
theorem dX5_isBefore_59 : decode cX5_isBefore 59 = .ok (.getfield 18, 3) := by decide +kernel
theorem dX5_isBefore_62 : decode cX5_isBefore 62 = .ok (.iload_n 2, 1) := by decide +kernel
theorem dX5_isBefore_63 : decode cX5_isBefore 63 = .ok (.laload, 1) := by decide +kernel
theorem dX5_isBefore_64 : decode cX5_isBefore 64 = .ok (.lcmp, 1) := by decide +kernel
theorem dX5_isBefore_65 : decode cX5_isBefore 65 = .ok (.ifCond .ge 7, 3) := by decide +kernel
theorem dX5_isBefore_68 : decode cX5_isBefore 68 = .ok (.iconst 1, 1) := by decide +kernel
theorem dX5_isBefore_69 : decode cX5_isBefore 69 = .ok (.goto 4, 3) := by decide +kernel
theorem dX5_isBefore_72 : decode cX5_isBefore 72 = .ok (.iconst 0, 1) := by decide +kernel
theorem dX5_isBefore_73 : decode cX5_isBefore 73 = .ok (.ireturn, 1) := by decide +kernel
theorem dX5_isBefore_74 : decode cX5_isBefore 74 = .ok (.iconst 0, 1) := by decide +kernel
theorem dX5_isBefore_75 : decode cX5_isBefore 75 = .ok (.istore_n 3, 1) := by decide +kernel
theorem dX5_isBefore_76 : decode cX5_isBefore 76 = .ok (.iload_n 3, 1) := by decide +kernel
theorem dX5_isBefore_77 : decode cX5_isBefore 77 = .ok (.bipush 8, 2) := by decide +kernel
theorem dX5_isBefore_79 : decode cX5_isBefore 79 = .ok (.if_icmp .ge 81, 3) := by decide +kernel
theorem dX5_isBefore_82 : decode cX5_isBefore 82 = .ok (.aload_n 0, 1) := by decide +kernel
theorem dX5_isBefore_83 : decode cX5_isBefore 83 = .ok (.getfield 37, 3) := by decide +kernel
theorem dX5_isBefore_86 : decode cX5_isBefore 86 = .ok (.aload_n 0, 1) := by decide +kernel
theorem dX5_isBefore_87 : decode cX5_isBefore 87 = .ok (.getfield 15, 3) := by decide +kernel
theorem dX5_isBefore_90 : decode cX5_isBefore 90 = .ok (.iload_n 1, 1) := by decide +kernel
theorem dX5_isBefore_91 : decode cX5_isBefore 91 = .ok (.iaload, 1) := by decide +kernel
theorem dX5_isBefore_92 : decode cX5_isBefore 92 = .ok (.bipush 8, 2) := by decide +kernel
theorem dX5_isBefore_94 : decode cX5_isBefore 94 = .ok (.imul, 1) := by decide +kernel
theorem dX5_isBefore_95 : decode cX5_isBefore 95 = .ok (.iload_n 3, 1) := by decide +kernel
theorem dX5_isBefore_96 : decode cX5_isBefore 96 = .ok (.iadd, 1) := by decide +kernel
theorem dX5_isBefore_97 : decode cX5_isBefore 97 = .ok (.iaload, 1) := by decide +kernel
theorem dX5_isBefore_98 : decode cX5_isBefore 98 = .ok (.istore 4, 2) := by decide +kernel
theorem dX5_isBefore_100 : decode cX5_isBefore 100 = .ok (.aload_n 0, 1) := by decide +kernel
theorem dX5_isBefore_101 : decode cX5_isBefore 101 = .ok (.getfield 51, 3) := by decide +kernel
theorem dX5_isBefore_104 : decode cX5_isBefore 104 = .ok (.iload_n 1, 1) := by decide +kernel
theorem dX5_isBefore_105 : decode cX5_isBefore 105 = .ok (.iload_n 3, 1) := by decide +kernel
theorem dX5_isBefore_106 : decode cX5_isBefore 106 = .ok (.invokevirtual 141, 3) := by decide +kernel
theorem dX5_isBefore_109 : decode cX5_isBefore 109 = .ok (.iload 4, 2) := by decide +kernel
theorem dX5_isBefore_111 : decode cX5_isBefore 111 = .ok (.ixor, 1) := by decide +kernel
theorem dX5_isBefore_112 : decode cX5_isBefore 112 = .ok (.istore 5, 2) := by decide +kernel
theorem dX5_isBefore_114 : decode cX5_isBefore 114 = .ok (.aload_n 0, 1) := by decide +kernel
theorem dX5_isBefore_115 : decode cX5_isBefore 115 = .ok (.getfield 51, 3) := by decide +kernel
theorem dX5_isBefore_118 : decode cX5_isBefore 118 = .ok (.iload_n 2, 1) := by decide +kernel
theorem dX5_isBefore_119 : decode cX5_isBefore 119 = .ok (.iload_n 3, 1) := by decide +kernel
theorem dX5_isBefore_120 : decode cX5_isBefore 120 = .ok (.invokevirtual 141, 3) := by decide +kernel
theorem dX5_isBefore_123 : decode cX5_isBefore 123 = .ok (.iload 4, 2) := by decide +kernel
theorem dX5_isBefore_125 : decode cX5_isBefore 125 = .ok (.ixor, 1) := by decide +kernel
theorem dX5_isBefore_126 : decode cX5_isBefore 126 = .ok (.istore 6, 2) := by decide +kernel
theorem dX5_isBefore_128 : decode cX5_isBefore 128 = .ok (.iload 5, 2) := by decide +kernel
theorem dX5_isBefore_130 : decode cX5_isBefore 130 = .ok (.iload 6, 2) := by decide +kernel
theorem dX5_isBefore_132 : decode cX5_isBefore 132 = .ok (.if_icmp .eq 22, 3) := by decide +kernel
theorem dX5_isBefore_135 : decode cX5_isBefore 135 = .ok (.iload 5, 2) := by decide +kernel
theorem dX5_isBefore_137 : decode cX5_isBefore 137 = .ok (.ldc 194, 2) := by decide +kernel
theorem dX5_isBefore_139 : decode cX5_isBefore 139 = .ok (.ixor, 1) := by decide +kernel
theorem dX5_isBefore_140 : decode cX5_isBefore 140 = .ok (.iload 6, 2) := by decide +kernel
theorem dX5_isBefore_142 : decode cX5_isBefore 142 = .ok (.ldc 194, 2) := by decide +kernel
theorem dX5_isBefore_144 : decode cX5_isBefore 144 = .ok (.ixor, 1) := by decide +kernel
theorem dX5_isBefore_145 : decode cX5_isBefore 145 = .ok (.if_icmp .ge 7, 3) := by decide +kernel
theorem dX5_isBefore_148 : decode cX5_isBefore 148 = .ok (.iconst 1, 1) := by decide +kernel
theorem dX5_isBefore_149 : decode cX5_isBefore 149 = .ok (.goto 4, 3) := by decide +kernel
theorem dX5_isBefore_152 : decode cX5_isBefore 152 = .ok (.iconst 0, 1) := by decide +kernel
theorem dX5_isBefore_153 : decode cX5_isBefore 153 = .ok (.ireturn, 1) := by decide +kernel
theorem dX5_isBefore_154 : decode cX5_isBefore 154 = .ok (.iinc 3 1, 3) := by decide +kernel
theorem dX5_isBefore_157 : decode cX5_isBefore 157 = .ok (.goto (-81), 3) := by decide +kernel
theorem dX5_isBefore_160 : decode cX5_isBefore 160 = .ok (.iload_n 1, 1) := by decide +kernel
theorem dX5_isBefore_161 : decode cX5_isBefore 161 = .ok (.iload_n 2, 1) := by decide +kernel
theorem dX5_isBefore_162 : decode cX5_isBefore 162 = .ok (.if_icmp .ge 7, 3) := by decide +kernel
theorem dX5_isBefore_165 : decode cX5_isBefore 165 = .ok (.iconst 1, 1) := by decide +kernel
theorem dX5_isBefore_166 : decode cX5_isBefore 166 = .ok (.goto 4, 3) := by decide +kernel
theorem dX5_isBefore_169 : decode cX5_isBefore 169 = .ok (.iconst 0, 1) := by decide +kernel
theorem dX5_isBefore_170 : decode cX5_isBefore 170 = .ok (.ireturn, 1) := by decide +kernel
theorem dX5_findBalances_0 : decode cX5_findBalances 0 = .ok (.aload_n 0, 1) := by decide +kernel
theorem dX5_findBalances_1 : decode cX5_findBalances 1 = .ok (.getfield 28, 3) := by decide +kernel
theorem dX5_findBalances_4 : decode cX5_findBalances 4 = .ok (.iconst 0, 1) := by decide +kernel
theorem dX5_findBalances_5 : decode cX5_findBalances 5 = .ok (.invokestatic 98, 3) := by decide +kernel
theorem dX5_findBalances_8 : decode cX5_findBalances 8 = .ok (.aload_n 0, 1) := by decide +kernel
theorem dX5_findBalances_9 : decode cX5_findBalances 9 = .ok (.getfield 28, 3) := by decide +kernel
theorem dX5_findBalances_12 : decode cX5_findBalances 12 = .ok (.iconst 0, 1) := by decide +kernel
theorem dX5_findBalances_13 : decode cX5_findBalances 13 = .ok (.iload_n 1, 1) := by decide +kernel
theorem dX5_findBalances_14 : decode cX5_findBalances 14 = .ok (.ldc 195, 2) := by decide +kernel
theorem dX5_findBalances_16 : decode cX5_findBalances 16 = .ok (.invokestatic 196, 3) := by decide +kernel
theorem dX5_findBalances_19 : decode cX5_findBalances 19 = .ok (.iconst 0, 1) := by decide +kernel
theorem dX5_findBalances_20 : decode cX5_findBalances 20 = .ok (.istore_n 2, 1) := by decide +kernel
theorem dX5_findBalances_21 : decode cX5_findBalances 21 = .ok (.iload_n 2, 1) := by decide +kernel
theorem dX5_findBalances_22 : decode cX5_findBalances 22 = .ok (.aload_n 0, 1) := by decide +kernel
theorem dX5_findBalances_23 : decode cX5_findBalances 23 = .ok (.getfield 183, 3) := by decide +kernel
theorem dX5_findBalances_26 : decode cX5_findBalances 26 = .ok (.if_icmp .ge 80, 3) := by decide +kernel
theorem dX5_findBalances_29 : decode cX5_findBalances 29 = .ok (.aload_n 0, 1) := by decide +kernel
theorem dX5_findBalances_30 : decode cX5_findBalances 30 = .ok (.getfield 25, 3) := by decide +kernel
theorem dX5_findBalances_33 : decode cX5_findBalances 33 = .ok (.iload_n 2, 1) := by decide +kernel
theorem dX5_findBalances_34 : decode cX5_findBalances 34 = .ok (.iaload, 1) := by decide +kernel
theorem dX5_findBalances_35 : decode cX5_findBalances 35 = .ok (.istore_n 3, 1) := by decide +kernel
theorem dX5_findBalances_36 : decode cX5_findBalances 36 = .ok (.iconst 0, 1) := by decide +kernel
theorem dX5_findBalances_37 : decode cX5_findBalances 37 = .ok (.istore 4, 2) := by decide +kernel
theorem dX5_findBalances_39 : decode cX5_findBalances 39 = .ok (.iload 4, 2) := by decide +kernel
theorem dX5_findBalances_41 : decode cX5_findBalances 41 = .ok (.aload_n 0, 1) := by decide +kernel
theorem dX5_findBalances_42 : decode cX5_findBalances 42 = .ok (.getfield 51, 3) := by decide +kernel
theorem dX5_findBalances_45 : decode cX5_findBalances 45 = .ok (.getfield 199, 3) := by decide +kernel
theorem dX5_findBalances_48 : decode cX5_findBalances 48 = .ok (.iload_n 3, 1) := by decide +kernel
theorem dX5_findBalances_49 : decode cX5_findBalances 49 = .ok (.iaload, 1) := by decide +kernel
theorem dX5_findBalances_50 : decode cX5_findBalances 50 = .ok (.if_icmp .ge 50, 3) := by decide +kernel
theorem dX5_findBalances_53 : decode cX5_findBalances 53 = .ok (.iload_n 3, 1) := by decide +kernel
theorem dX5_findBalances_54 : decode cX5_findBalances 54 = .ok (.iconst 3, 1) := by decide +kernel
theorem dX5_findBalances_55 : decode cX5_findBalances 55 = .ok (.imul, 1) := by decide +kernel
theorem dX5_findBalances_56 : decode cX5_findBalances 56 = .ok (.iload 4, 2) := by decide +kernel
theorem dX5_findBalances_58 : decode cX5_findBalances 58 = .ok (.iadd, 1) := by decide +kernel
theorem dX5_findBalances_59 : decode cX5_findBalances 59 = .ok (.istore 5, 2) := by decide +kernel
theorem dX5_findBalances_61 : decode cX5_findBalances 61 = .ok (.aload_n 0, 1) := by decide +kernel
theorem dX5_findBalances_62 : decode cX5_findBalances 62 = .ok (.aload_n 0, 1) := by decide +kernel
theorem dX5_findBalances_63 : decode cX5_findBalances 63 = .ok (.getfield 51, 3) := by decide +kernel
theorem dX5_findBalances_66 : decode cX5_findBalances 66 = .ok (.getfield 138, 3) := by decide +kernel
theorem dX5_findBalances_69 : decode cX5_findBalances 69 = .ok (.iload_n 3, 1) := by decide +kernel
theorem dX5_findBalances_70 : decode cX5_findBalances 70 = .ok (.iaload, 1) := by decide +kernel
theorem dX5_findBalances_71 : decode cX5_findBalances 71 = .ok (.aload_n 0, 1) := by decide +kernel
theorem dX5_findBalances_72 : decode cX5_findBalances 72 = .ok (.getfield 51, 3) := by decide +kernel
theorem dX5_findBalances_75 : decode cX5_findBalances 75 = .ok (.getfield 202, 3) := by decide +kernel
theorem dX5_findBalances_78 : decode cX5_findBalances 78 = .ok (.iload 5, 2) := by decide +kernel
theorem dX5_findBalances_80 : decode cX5_findBalances 80 = .ok (.iaload, 1) := by decide +kernel
theorem dX5_findBalances_81 : decode cX5_findBalances 81 = .ok (.aload_n 0, 1) := by decide +kernel
theorem dX5_findBalances_82 : decode cX5_findBalances 82 = .ok (.getfield 51, 3) := by decide +kernel
theorem dX5_findBalances_85 : decode cX5_findBalances 85 = .ok (.getfield 205, 3) := by decide +kernel
theorem dX5_findBalances_88 : decode cX5_findBalances 88 = .ok (.iload 5, 2) := by decide +kernel
theorem dX5_findBalances_90 : decode cX5_findBalances 90 = .ok (.iaload, 1) := by decide +kernel
theorem dX5_findBalances_91 : decode cX5_findBalances 91 = .ok (.invokevirtual 208, 3) := by decide +kernel
theorem dX5_findBalances_94 : decode cX5_findBalances 94 = .ok (.iinc 4 1, 3) := by decide +kernel
theorem dX5_findBalances_97 : decode cX5_findBalances 97 = .ok (.goto (-58), 3) := by decide +kernel
theorem dX5_findBalances_100 : decode cX5_findBalances 100 = .ok (.iinc 2 1, 3) := by decide +kernel
theorem dX5_findBalances_103 : decode cX5_findBalances 103 = .ok (.goto (-82), 3) := by decide +kernel
theorem dX5_findBalances_106 : decode cX5_findBalances 106 = .ok (.return_, 1) := by decide +kernel
theorem dX5_pay_0 : decode cX5_pay 0 = .ok (.aload_n 0, 1) := by decide +kernel
theorem dX5_pay_1 : decode cX5_pay 1 = .ok (.getfield 28, 3) := by decide +kernel
theorem dX5_pay_4 : decode cX5_pay 4 = .ok (.iload_n 1, 1) := by decide +kernel
theorem dX5_pay_5 : decode cX5_pay 5 = .ok (.iaload, 1) := by decide +kernel
theorem dX5_pay_6 : decode cX5_pay 6 = .ok (.iload_n 3, 1) := by decide +kernel
theorem dX5_pay_7 : decode cX5_pay 7 = .ok (.if_icmp .lt 23, 3) := by decide +kernel
theorem dX5_pay_10 : decode cX5_pay 10 = .ok (.aload_n 0, 1) := by decide +kernel
theorem dX5_pay_11 : decode cX5_pay 11 = .ok (.getfield 28, 3) := by decide +kernel
theorem dX5_pay_14 : decode cX5_pay 14 = .ok (.iload_n 1, 1) := by decide +kernel
theorem dX5_pay_15 : decode cX5_pay 15 = .ok (.dup2, 1) := by decide +kernel
theorem dX5_pay_16 : decode cX5_pay 16 = .ok (.iaload, 1) := by decide +kernel
theorem dX5_pay_17 : decode cX5_pay 17 = .ok (.iload_n 3, 1) := by decide +kernel
theorem dX5_pay_18 : decode cX5_pay 18 = .ok (.isub, 1) := by decide +kernel
theorem dX5_pay_19 : decode cX5_pay 19 = .ok (.iastore, 1) := by decide +kernel
theorem dX5_pay_20 : decode cX5_pay 20 = .ok (.aload_n 0, 1) := by decide +kernel
theorem dX5_pay_21 : decode cX5_pay 21 = .ok (.getfield 28, 3) := by decide +kernel
theorem dX5_pay_24 : decode cX5_pay 24 = .ok (.iload_n 2, 1) := by decide +kernel
theorem dX5_pay_25 : decode cX5_pay 25 = .ok (.dup2, 1) := by decide +kernel
theorem dX5_pay_26 : decode cX5_pay 26 = .ok (.iaload, 1) := by decide +kernel
theorem dX5_pay_27 : decode cX5_pay 27 = .ok (.iload_n 3, 1) := by decide +kernel
theorem dX5_pay_28 : decode cX5_pay 28 = .ok (.iadd, 1) := by decide +kernel
theorem dX5_pay_29 : decode cX5_pay 29 = .ok (.iastore, 1) := by decide +kernel
theorem dX5_pay_30 : decode cX5_pay 30 = .ok (.return_, 1) := by decide +kernel
theorem dX6_init_0 : decode cX6_init 0 = .ok (.aload_n 0, 1) := by decide +kernel
theorem dX6_init_1 : decode cX6_init 1 = .ok (.invokespecial 3, 3) := by decide +kernel
theorem dX6_init_4 : decode cX6_init 4 = .ok (.aload_n 0, 1) := by decide +kernel
theorem dX6_init_5 : decode cX6_init 5 = .ok (.bipush 64, 2) := by decide +kernel
theorem dX6_init_7 : decode cX6_init 7 = .ok (.newarray .int, 2) := by decide +kernel
theorem dX6_init_9 : decode cX6_init 9 = .ok (.putfield 11, 3) := by decide +kernel
theorem dX6_init_12 : decode cX6_init 12 = .ok (.aload_n 0, 1) := by decide +kernel
theorem dX6_init_13 : decode cX6_init 13 = .ok (.bipush 64, 2) := by decide +kernel
theorem dX6_init_15 : decode cX6_init 15 = .ok (.newarray .int, 2) := by decide +kernel
theorem dX6_init_17 : decode cX6_init 17 = .ok (.putfield 15, 3) := by decide +kernel
theorem dX6_init_20 : decode cX6_init 20 = .ok (.aload_n 0, 1) := by decide +kernel
theorem dX6_init_21 : decode cX6_init 21 = .ok (.bipush 8, 2) := by decide +kernel
theorem dX6_init_23 : decode cX6_init 23 = .ok (.newarray .int, 2) := by decide +kernel
theorem dX6_init_25 : decode cX6_init 25 = .ok (.putfield 18, 3) := by decide +kernel
theorem dX6_init_28 : decode cX6_init 28 = .ok (.return_, 1) := by decide +kernel
theorem dX6_clear_0 : decode cX6_clear 0 = .ok (.aload_n 0, 1) := by decide +kernel
theorem dX6_clear_1 : decode cX6_clear 1 = .ok (.getfield 18, 3) := by decide +kernel
theorem dX6_clear_4 : decode cX6_clear 4 = .ok (.iconst 0, 1) := by decide +kernel
theorem dX6_clear_5 : decode cX6_clear 5 = .ok (.invokestatic 21, 3) := by decide +kernel
theorem dX6_clear_8 : decode cX6_clear 8 = .ok (.return_, 1) := by decide +kernel
theorem dX6_isFull_0 : decode cX6_isFull 0 = .ok (.aload_n 0, 1) := by decide +kernel
theorem dX6_isFull_1 : decode cX6_isFull 1 = .ok (.getfield 18, 3) := by decide +kernel
theorem dX6_isFull_4 : decode cX6_isFull 4 = .ok (.iload_n 1, 1) := by decide +kernel
theorem dX6_isFull_5 : decode cX6_isFull 5 = .ok (.iaload, 1) := by decide +kernel
theorem dX6_isFull_6 : decode cX6_isFull 6 = .ok (.bipush 8, 2) := by decide +kernel
theorem dX6_isFull_8 : decode cX6_isFull 8 = .ok (.if_icmp .ne 7, 3) := by decide +kernel
theorem dX6_isFull_11 : decode cX6_isFull 11 = .ok (.iconst 1, 1) := by decide +kernel
theorem dX6_isFull_12 : decode cX6_isFull 12 = .ok (.goto 4, 3) := by decide +kernel
theorem dX6_isFull_15 : decode cX6_isFull 15 = .ok (.iconst 0, 1) := by decide +kernel
theorem dX6_isFull_16 : decode cX6_isFull 16 = .ok (.ireturn, 1) := by decide +kernel
theorem dX6_join_0 : decode cX6_join 0 = .ok (.iload_n 1, 1) := by decide +kernel
theorem dX6_join_1 : decode cX6_join 1 = .ok (.bipush 8, 2) := by decide +kernel
theorem dX6_join_3 : decode cX6_join 3 = .ok (.imul, 1) := by decide +kernel
theorem dX6_join_4 : decode cX6_join 4 = .ok (.aload_n 0, 1) := by decide +kernel
theorem dX6_join_5 : decode cX6_join 5 = .ok (.getfield 18, 3) := by decide +kernel
theorem dX6_join_8 : decode cX6_join 8 = .ok (.iload_n 1, 1) := by decide +kernel
theorem dX6_join_9 : decode cX6_join 9 = .ok (.iaload, 1) := by decide +kernel
theorem dX6_join_10 : decode cX6_join 10 = .ok (.iadd, 1) := by decide +kernel
theorem dX6_join_11 : decode cX6_join 11 = .ok (.istore 4, 2) := by decide +kernel
theorem dX6_join_13 : decode cX6_join 13 = .ok (.aload_n 0, 1) := by decide +kernel
theorem dX6_join_14 : decode cX6_join 14 = .ok (.getfield 11, 3) := by decide +kernel
theorem dX6_join_17 : decode cX6_join 17 = .ok (.iload 4, 2) := by decide +kernel
theorem dX6_join_19 : decode cX6_join 19 = .ok (.iload_n 2, 1) := by decide +kernel
theorem dX6_join_20 : decode cX6_join 20 = .ok (.iastore, 1) := by decide +kernel
theorem dX6_join_21 : decode cX6_join 21 = .ok (.aload_n 0, 1) := by decide +kernel
theorem dX6_join_22 : decode cX6_join 22 = .ok (.getfield 15, 3) := by decide +kernel
theorem dX6_join_25 : decode cX6_join 25 = .ok (.iload 4, 2) := by decide +kernel
theorem dX6_join_27 : decode cX6_join 27 = .ok (.iload_n 3, 1) := by decide +kernel
theorem dX6_join_28 : decode cX6_join 28 = .ok (.iastore, 1) := by decide +kernel
theorem dX6_join_29 : decode cX6_join 29 = .ok (.aload_n 0, 1) := by decide +kernel
theorem dX6_join_30 : decode cX6_join 30 = .ok (.getfield 18, 3) := by decide +kernel
theorem dX6_join_33 : decode cX6_join 33 = .ok (.iload_n 1, 1) := by decide +kernel
theorem dX6_join_34 : decode cX6_join 34 = .ok (.dup2, 1) := by decide +kernel
theorem dX6_join_35 : decode cX6_join 35 = .ok (.iaload, 1) := by decide +kernel
theorem dX6_join_36 : decode cX6_join 36 = .ok (.iconst 1, 1) := by decide +kernel
theorem dX6_join_37 : decode cX6_join 37 = .ok (.iadd, 1) := by decide +kernel
theorem dX6_join_38 : decode cX6_join 38 = .ok (.iastore, 1) := by decide +kernel
theorem dX6_join_39 : decode cX6_join 39 = .ok (.return_, 1) := by decide +kernel
theorem dX6_firstTo_0 : decode cX6_firstTo 0 = .ok (.aload_n 0, 1) := by decide +kernel
theorem dX6_firstTo_1 : decode cX6_firstTo 1 = .ok (.getfield 11, 3) := by decide +kernel
theorem dX6_firstTo_4 : decode cX6_firstTo 4 = .ok (.iload_n 1, 1) := by decide +kernel
theorem dX6_firstTo_5 : decode cX6_firstTo 5 = .ok (.bipush 8, 2) := by decide +kernel
theorem dX6_firstTo_7 : decode cX6_firstTo 7 = .ok (.imul, 1) := by decide +kernel
theorem dX6_firstTo_8 : decode cX6_firstTo 8 = .ok (.iaload, 1) := by decide +kernel
theorem dX6_firstTo_9 : decode cX6_firstTo 9 = .ok (.ireturn, 1) := by decide +kernel
theorem dX6_firstAmount_0 : decode cX6_firstAmount 0 = .ok (.aload_n 0, 1) := by decide +kernel
theorem dX6_firstAmount_1 : decode cX6_firstAmount 1 = .ok (.getfield 15, 3) := by decide +kernel
theorem dX6_firstAmount_4 : decode cX6_firstAmount 4 = .ok (.iload_n 1, 1) := by decide +kernel
theorem dX6_firstAmount_5 : decode cX6_firstAmount 5 = .ok (.bipush 8, 2) := by decide +kernel
theorem dX6_firstAmount_7 : decode cX6_firstAmount 7 = .ok (.imul, 1) := by decide +kernel
theorem dX6_firstAmount_8 : decode cX6_firstAmount 8 = .ok (.iaload, 1) := by decide +kernel
theorem dX6_firstAmount_9 : decode cX6_firstAmount 9 = .ok (.ireturn, 1) := by decide +kernel
theorem dX6_dropFirst_0 : decode cX6_dropFirst 0 = .ok (.iload_n 1, 1) := by decide +kernel
theorem dX6_dropFirst_1 : decode cX6_dropFirst 1 = .ok (.bipush 8, 2) := by decide +kernel
theorem dX6_dropFirst_3 : decode cX6_dropFirst 3 = .ok (.imul, 1) := by decide +kernel
theorem dX6_dropFirst_4 : decode cX6_dropFirst 4 = .ok (.istore_n 2, 1) := by decide +kernel
theorem dX6_dropFirst_5 : decode cX6_dropFirst 5 = .ok (.aload_n 0, 1) := by decide +kernel
theorem dX6_dropFirst_6 : decode cX6_dropFirst 6 = .ok (.getfield 18, 3) := by decide +kernel
theorem dX6_dropFirst_9 : decode cX6_dropFirst 9 = .ok (.iload_n 1, 1) := by decide +kernel
theorem dX6_dropFirst_10 : decode cX6_dropFirst 10 = .ok (.dup2, 1) := by decide +kernel
theorem dX6_dropFirst_11 : decode cX6_dropFirst 11 = .ok (.iaload, 1) := by decide +kernel
theorem dX6_dropFirst_12 : decode cX6_dropFirst 12 = .ok (.iconst 1, 1) := by decide +kernel
theorem dX6_dropFirst_13 : decode cX6_dropFirst 13 = .ok (.isub, 1) := by decide +kernel
theorem dX6_dropFirst_14 : decode cX6_dropFirst 14 = .ok (.iastore, 1) := by decide +kernel
theorem dX6_dropFirst_15 : decode cX6_dropFirst 15 = .ok (.aload_n 0, 1) := by decide +kernel
theorem dX6_dropFirst_16 : decode cX6_dropFirst 16 = .ok (.getfield 11, 3) := by decide +kernel
theorem dX6_dropFirst_19 : decode cX6_dropFirst 19 = .ok (.iload_n 2, 1) := by decide +kernel
theorem dX6_dropFirst_20 : decode cX6_dropFirst 20 = .ok (.iconst 1, 1) := by decide +kernel
theorem dX6_dropFirst_21 : decode cX6_dropFirst 21 = .ok (.iadd, 1) := by decide +kernel
theorem dX6_dropFirst_22 : decode cX6_dropFirst 22 = .ok (.aload_n 0, 1) := by decide +kernel
theorem dX6_dropFirst_23 : decode cX6_dropFirst 23 = .ok (.getfield 11, 3) := by decide +kernel
theorem dX6_dropFirst_26 : decode cX6_dropFirst 26 = .ok (.iload_n 2, 1) := by decide +kernel
theorem dX6_dropFirst_27 : decode cX6_dropFirst 27 = .ok (.aload_n 0, 1) := by decide +kernel
theorem dX6_dropFirst_28 : decode cX6_dropFirst 28 = .ok (.getfield 18, 3) := by decide +kernel
theorem dX6_dropFirst_31 : decode cX6_dropFirst 31 = .ok (.iload_n 1, 1) := by decide +kernel
theorem dX6_dropFirst_32 : decode cX6_dropFirst 32 = .ok (.iaload, 1) := by decide +kernel
theorem dX6_dropFirst_33 : decode cX6_dropFirst 33 = .ok (.invokestatic 27, 3) := by decide +kernel
theorem dX6_dropFirst_36 : decode cX6_dropFirst 36 = .ok (.aload_n 0, 1) := by decide +kernel
theorem dX6_dropFirst_37 : decode cX6_dropFirst 37 = .ok (.getfield 15, 3) := by decide +kernel
theorem dX6_dropFirst_40 : decode cX6_dropFirst 40 = .ok (.iload_n 2, 1) := by decide +kernel
theorem dX6_dropFirst_41 : decode cX6_dropFirst 41 = .ok (.iconst 1, 1) := by decide +kernel
theorem dX6_dropFirst_42 : decode cX6_dropFirst 42 = .ok (.iadd, 1) := by decide +kernel
theorem dX6_dropFirst_43 : decode cX6_dropFirst 43 = .ok (.aload_n 0, 1) := by decide +kernel
theorem dX6_dropFirst_44 : decode cX6_dropFirst 44 = .ok (.getfield 15, 3) := by decide +kernel
theorem dX6_dropFirst_47 : decode cX6_dropFirst 47 = .ok (.iload_n 2, 1) := by decide +kernel
theorem dX6_dropFirst_48 : decode cX6_dropFirst 48 = .ok (.aload_n 0, 1) := by decide +kernel
theorem dX6_dropFirst_49 : decode cX6_dropFirst 49 = .ok (.getfield 18, 3) := by decide +kernel
theorem dX6_dropFirst_52 : decode cX6_dropFirst 52 = .ok (.iload_n 1, 1) := by decide +kernel
theorem dX6_dropFirst_53 : decode cX6_dropFirst 53 = .ok (.iaload, 1) := by decide +kernel
theorem dX6_dropFirst_54 : decode cX6_dropFirst 54 = .ok (.invokestatic 27, 3) := by decide +kernel
theorem dX6_dropFirst_57 : decode cX6_dropFirst 57 = .ok (.return_, 1) := by decide +kernel
theorem dX6_lengthOfAll_0 : decode cX6_lengthOfAll 0 = .ok (.iconst 0, 1) := by decide +kernel
theorem dX6_lengthOfAll_1 : decode cX6_lengthOfAll 1 = .ok (.istore_n 1, 1) := by decide +kernel
theorem dX6_lengthOfAll_2 : decode cX6_lengthOfAll 2 = .ok (.iconst 0, 1) := by decide +kernel
theorem dX6_lengthOfAll_3 : decode cX6_lengthOfAll 3 = .ok (.istore_n 2, 1) := by decide +kernel
theorem dX6_lengthOfAll_4 : decode cX6_lengthOfAll 4 = .ok (.iload_n 2, 1) := by decide +kernel
theorem dX6_lengthOfAll_5 : decode cX6_lengthOfAll 5 = .ok (.bipush 8, 2) := by decide +kernel
theorem dX6_lengthOfAll_7 : decode cX6_lengthOfAll 7 = .ok (.if_icmp .ge 18, 3) := by decide +kernel
theorem dX6_lengthOfAll_10 : decode cX6_lengthOfAll 10 = .ok (.iload_n 1, 1) := by decide +kernel
theorem dX6_lengthOfAll_11 : decode cX6_lengthOfAll 11 = .ok (.aload_n 0, 1) := by decide +kernel
theorem dX6_lengthOfAll_12 : decode cX6_lengthOfAll 12 = .ok (.getfield 18, 3) := by decide +kernel
theorem dX6_lengthOfAll_15 : decode cX6_lengthOfAll 15 = .ok (.iload_n 2, 1) := by decide +kernel
theorem dX6_lengthOfAll_16 : decode cX6_lengthOfAll 16 = .ok (.iaload, 1) := by decide +kernel
theorem dX6_lengthOfAll_17 : decode cX6_lengthOfAll 17 = .ok (.iadd, 1) := by decide +kernel
theorem dX6_lengthOfAll_18 : decode cX6_lengthOfAll 18 = .ok (.istore_n 1, 1) := by decide +kernel
theorem dX6_lengthOfAll_19 : decode cX6_lengthOfAll 19 = .ok (.iinc 2 1, 3) := by decide +kernel
theorem dX6_lengthOfAll_22 : decode cX6_lengthOfAll 22 = .ok (.goto (-18), 3) := by decide +kernel
theorem dX6_lengthOfAll_25 : decode cX6_lengthOfAll 25 = .ok (.iload_n 1, 1) := by decide +kernel
theorem dX6_lengthOfAll_26 : decode cX6_lengthOfAll 26 = .ok (.ireturn, 1) := by decide +kernel
theorem dX7_init_0 : decode cX7_init 0 = .ok (.aload_n 0, 1) := by decide +kernel
theorem dX7_init_1 : decode cX7_init 1 = .ok (.invokespecial 1, 3) := by decide +kernel
theorem dX7_init_4 : decode cX7_init 4 = .ok (.aload_n 0, 1) := by decide +kernel
theorem dX7_init_5 : decode cX7_init 5 = .ok (.new 7, 3) := by decide +kernel
theorem dX7_init_8 : decode cX7_init 8 = .ok (.dup, 1) := by decide +kernel
theorem dX7_init_9 : decode cX7_init 9 = .ok (.invokespecial 9, 3) := by decide +kernel
theorem dX7_init_12 : decode cX7_init 12 = .ok (.putfield 10, 3) := by decide +kernel
theorem dX7_init_15 : decode cX7_init 15 = .ok (.aload_n 0, 1) := by decide +kernel
theorem dX7_init_16 : decode cX7_init 16 = .ok (.new 16, 3) := by decide +kernel
theorem dX7_init_19 : decode cX7_init 19 = .ok (.dup, 1) := by decide +kernel
theorem dX7_init_20 : decode cX7_init 20 = .ok (.invokespecial 18, 3) := by decide +kernel
theorem dX7_init_23 : decode cX7_init 23 = .ok (.putfield 19, 3) := by decide +kernel
theorem dX7_init_26 : decode cX7_init 26 = .ok (.aload_n 0, 1) := by decide +kernel
theorem dX7_init_27 : decode cX7_init 27 = .ok (.new 23, 3) := by decide +kernel
theorem dX7_init_30 : decode cX7_init 30 = .ok (.dup, 1) := by decide +kernel
theorem dX7_init_31 : decode cX7_init 31 = .ok (.aload_n 0, 1) := by decide +kernel
theorem dX7_init_32 : decode cX7_init 32 = .ok (.getfield 19, 3) := by decide +kernel
theorem dX7_init_35 : decode cX7_init 35 = .ok (.invokespecial 25, 3) := by decide +kernel
theorem dX7_init_38 : decode cX7_init 38 = .ok (.putfield 28, 3) := by decide +kernel
theorem dX7_init_41 : decode cX7_init 41 = .ok (.aload_n 0, 1) := by decide +kernel
theorem dX7_init_42 : decode cX7_init 42 = .ok (.new 32, 3) := by decide +kernel
theorem dX7_init_45 : decode cX7_init 45 = .ok (.dup, 1) := by decide +kernel
theorem dX7_init_46 : decode cX7_init 46 = .ok (.aload_n 0, 1) := by decide +kernel
theorem dX7_init_47 : decode cX7_init 47 = .ok (.getfield 19, 3) := by decide +kernel
theorem dX7_init_50 : decode cX7_init 50 = .ok (.aload_n 0, 1) := by decide +kernel
theorem dX7_init_51 : decode cX7_init 51 = .ok (.getfield 28, 3) := by decide +kernel
theorem dX7_init_54 : decode cX7_init 54 = .ok (.invokespecial 34, 3) := by decide +kernel
theorem dX7_init_57 : decode cX7_init 57 = .ok (.putfield 37, 3) := by decide +kernel
theorem dX7_init_60 : decode cX7_init 60 = .ok (.aload_n 0, 1) := by decide +kernel
theorem dX7_init_61 : decode cX7_init 61 = .ok (.bipush 8, 2) := by decide +kernel
theorem dX7_init_63 : decode cX7_init 63 = .ok (.anewarray 41, 3) := by decide +kernel
theorem dX7_init_66 : decode cX7_init 66 = .ok (.putfield 43, 3) := by decide +kernel
theorem dX7_init_69 : decode cX7_init 69 = .ok (.aload_n 0, 1) := by decide +kernel
theorem dX7_init_70 : decode cX7_init 70 = .ok (.bipush 8, 2) := by decide +kernel
theorem dX7_init_72 : decode cX7_init 72 = .ok (.newarray .int, 2) := by decide +kernel
theorem dX7_init_74 : decode cX7_init 74 = .ok (.putfield 47, 3) := by decide +kernel
theorem dX7_init_77 : decode cX7_init 77 = .ok (.iconst 0, 1) := by decide +kernel
theorem dX7_init_78 : decode cX7_init 78 = .ok (.istore_n 1, 1) := by decide +kernel
theorem dX7_init_79 : decode cX7_init 79 = .ok (.iload_n 1, 1) := by decide +kernel
theorem dX7_init_80 : decode cX7_init 80 = .ok (.bipush 8, 2) := by decide +kernel
theorem dX7_init_82 : decode cX7_init 82 = .ok (.if_icmp .ge 35, 3) := by decide +kernel
theorem dX7_init_85 : decode cX7_init 85 = .ok (.aload_n 0, 1) := by decide +kernel
theorem dX7_init_86 : decode cX7_init 86 = .ok (.getfield 43, 3) := by decide +kernel
theorem dX7_init_89 : decode cX7_init 89 = .ok (.iload_n 1, 1) := by decide +kernel
theorem dX7_init_90 : decode cX7_init 90 = .ok (.new 41, 3) := by decide +kernel
theorem dX7_init_93 : decode cX7_init 93 = .ok (.dup, 1) := by decide +kernel
theorem dX7_init_94 : decode cX7_init 94 = .ok (.iload_n 1, 1) := by decide +kernel
theorem dX7_init_95 : decode cX7_init 95 = .ok (.aload_n 0, 1) := by decide +kernel
theorem dX7_init_96 : decode cX7_init 96 = .ok (.getfield 19, 3) := by decide +kernel
theorem dX7_init_99 : decode cX7_init 99 = .ok (.aload_n 0, 1) := by decide +kernel
theorem dX7_init_100 : decode cX7_init 100 = .ok (.getfield 28, 3) := by decide +kernel
theorem dX7_init_103 : decode cX7_init 103 = .ok (.aload_n 0, 1) := by decide +kernel
theorem dX7_init_104 : decode cX7_init 104 = .ok (.getfield 37, 3) := by decide +kernel
theorem dX7_init_107 : decode cX7_init 107 = .ok (.invokespecial 51, 3) := by decide +kernel
theorem dX7_init_110 : decode cX7_init 110 = .ok (.aastore, 1) := by decide +kernel
theorem dX7_init_111 : decode cX7_init 111 = .ok (.iinc 1 1, 3) := by decide +kernel
theorem dX7_init_114 : decode cX7_init 114 = .ok (.goto (-35), 3) := by decide +kernel
theorem dX7_init_117 : decode cX7_init 117 = .ok (.aload_n 0, 1) := by decide +kernel
theorem dX7_init_118 : decode cX7_init 118 = .ok (.iconst 4, 1) := by decide +kernel
theorem dX7_init_119 : decode cX7_init 119 = .ok (.invokevirtual 54, 3) := by decide +kernel
theorem dX7_init_122 : decode cX7_init 122 = .ok (.return_, 1) := by decide +kernel
theorem dX7_begin_0 : decode cX7_begin 0 = .ok (.iload_n 1, 1) := by decide +kernel
theorem dX7_begin_1 : decode cX7_begin 1 = .ok (.iconst 2, 1) := by decide +kernel
theorem dX7_begin_2 : decode cX7_begin 2 = .ok (.if_icmp .lt 9, 3) := by decide +kernel
theorem dX7_begin_5 : decode cX7_begin 5 = .ok (.iload_n 1, 1) := by decide +kernel
theorem dX7_begin_6 : decode cX7_begin 6 = .ok (.bipush 8, 2) := by decide +kernel
theorem dX7_begin_8 : decode cX7_begin 8 = .ok (.if_icmp .le 11, 3) := by decide +kernel
theorem dX7_begin_11 : decode cX7_begin 11 = .ok (.new 58, 3) := by decide +kernel
theorem dX7_begin_14 : decode cX7_begin 14 = .ok (.dup, 1) := by decide +kernel
theorem dX7_begin_15 : decode cX7_begin 15 = .ok (.invokespecial 60, 3) := by decide +kernel
theorem dX7_begin_18 : decode cX7_begin 18 = .ok (.athrow, 1) := by decide +kernel
theorem dX7_begin_19 : decode cX7_begin 19 = .ok (.aload_n 0, 1) := by decide +kernel
theorem dX7_begin_20 : decode cX7_begin 20 = .ok (.iload_n 1, 1) := by decide +kernel
theorem dX7_begin_21 : decode cX7_begin 21 = .ok (.invokevirtual 54, 3) := by decide +kernel
theorem dX7_begin_24 : decode cX7_begin 24 = .ok (.return_, 1) := by decide +kernel
theorem dX7_submit_0 : decode cX7_submit 0 = .ok (.aload_n 0, 1) := by decide +kernel
theorem dX7_submit_1 : decode cX7_submit 1 = .ok (.iload_n 1, 1) := by decide +kernel
theorem dX7_submit_2 : decode cX7_submit 2 = .ok (.invokevirtual 61, 3) := by decide +kernel
theorem dX7_submit_5 : decode cX7_submit 5 = .ok (.ifCond .eq 21, 3) := by decide +kernel
theorem dX7_submit_8 : decode cX7_submit 8 = .ok (.aload_n 0, 1) := by decide +kernel
theorem dX7_submit_9 : decode cX7_submit 9 = .ok (.iload_n 2, 1) := by decide +kernel
theorem dX7_submit_10 : decode cX7_submit 10 = .ok (.invokevirtual 61, 3) := by decide +kernel
theorem dX7_submit_13 : decode cX7_submit 13 = .ok (.ifCond .eq 13, 3) := by decide +kernel
theorem dX7_submit_16 : decode cX7_submit 16 = .ok (.iload_n 3, 1) := by decide +kernel
theorem dX7_submit_17 : decode cX7_submit 17 = .ok (.ifCond .lt 9, 3) := by decide +kernel
theorem dX7_submit_20 : decode cX7_submit 20 = .ok (.iload_n 3, 1) := by decide +kernel
theorem dX7_submit_21 : decode cX7_submit 21 = .ok (.ldc 65, 2) := by decide +kernel
theorem dX7_submit_23 : decode cX7_submit 23 = .ok (.if_icmp .le 11, 3) := by decide +kernel
theorem dX7_submit_26 : decode cX7_submit 26 = .ok (.new 58, 3) := by decide +kernel
theorem dX7_submit_29 : decode cX7_submit 29 = .ok (.dup, 1) := by decide +kernel
theorem dX7_submit_30 : decode cX7_submit 30 = .ok (.invokespecial 60, 3) := by decide +kernel
theorem dX7_submit_33 : decode cX7_submit 33 = .ok (.athrow, 1) := by decide +kernel
theorem dX7_submit_34 : decode cX7_submit 34 = .ok (.aload_n 0, 1) := by decide +kernel
theorem dX7_submit_35 : decode cX7_submit 35 = .ok (.getfield 10, 3) := by decide +kernel
theorem dX7_submit_38 : decode cX7_submit 38 = .ok (.iload_n 1, 1) := by decide +kernel
theorem dX7_submit_39 : decode cX7_submit 39 = .ok (.invokevirtual 66, 3) := by decide +kernel
theorem dX7_submit_42 : decode cX7_submit 42 = .ok (.ifCond .eq 11, 3) := by decide +kernel
theorem dX7_submit_45 : decode cX7_submit 45 = .ok (.new 69, 3) := by decide +kernel
theorem dX7_submit_48 : decode cX7_submit 48 = .ok (.dup, 1) := by decide +kernel
theorem dX7_submit_49 : decode cX7_submit 49 = .ok (.invokespecial 71, 3) := by decide +kernel
theorem dX7_submit_52 : decode cX7_submit 52 = .ok (.athrow, 1) := by decide +kernel
theorem dX7_submit_53 : decode cX7_submit 53 = .ok (.aload_n 0, 1) := by decide +kernel
theorem dX7_submit_54 : decode cX7_submit 54 = .ok (.getfield 10, 3) := by decide +kernel
theorem dX7_submit_57 : decode cX7_submit 57 = .ok (.iload_n 1, 1) := by decide +kernel
theorem dX7_submit_58 : decode cX7_submit 58 = .ok (.iload_n 2, 1) := by decide +kernel
theorem dX7_submit_59 : decode cX7_submit 59 = .ok (.iload_n 3, 1) := by decide +kernel
theorem dX7_submit_60 : decode cX7_submit 60 = .ok (.invokevirtual 72, 3) := by decide +kernel
theorem dX7_submit_63 : decode cX7_submit 63 = .ok (.aload_n 0, 1) := by decide +kernel
theorem dX7_submit_64 : decode cX7_submit 64 = .ok (.getfield 10, 3) := by decide +kernel
theorem dX7_submit_67 : decode cX7_submit 67 = .ok (.getfield 76, 3) := by decide +kernel
theorem dX7_submit_70 : decode cX7_submit 70 = .ok (.iload_n 1, 1) := by decide +kernel
theorem dX7_submit_71 : decode cX7_submit 71 = .ok (.iaload, 1) := by decide +kernel
theorem dX7_submit_72 : decode cX7_submit 72 = .ok (.ireturn, 1) := by decide +kernel
theorem dX7_sync_0 : decode cX7_sync 0 = .ok (.aload_n 0, 1) := by decide +kernel
theorem dX7_sync_1 : decode cX7_sync 1 = .ok (.iload_n 1, 1) := by decide +kernel
theorem dX7_sync_2 : decode cX7_sync 2 = .ok (.invokevirtual 61, 3) := by decide +kernel
theorem dX7_sync_5 : decode cX7_sync 5 = .ok (.ifCond .eq 16, 3) := by decide +kernel
theorem dX7_sync_8 : decode cX7_sync 8 = .ok (.aload_n 0, 1) := by decide +kernel
theorem dX7_sync_9 : decode cX7_sync 9 = .ok (.iload_n 2, 1) := by decide +kernel
theorem dX7_sync_10 : decode cX7_sync 10 = .ok (.invokevirtual 61, 3) := by decide +kernel
theorem dX7_sync_13 : decode cX7_sync 13 = .ok (.ifCond .eq 8, 3) := by decide +kernel
theorem dX7_sync_16 : decode cX7_sync 16 = .ok (.iload_n 1, 1) := by decide +kernel
theorem dX7_sync_17 : decode cX7_sync 17 = .ok (.iload_n 2, 1) := by decide +kernel
theorem dX7_sync_18 : decode cX7_sync 18 = .ok (.if_icmp .ne 11, 3) := by decide +kernel
theorem dX7_sync_21 : decode cX7_sync 21 = .ok (.new 58, 3) := by decide +kernel
theorem dX7_sync_24 : decode cX7_sync 24 = .ok (.dup, 1) := by decide +kernel
theorem dX7_sync_25 : decode cX7_sync 25 = .ok (.invokespecial 60, 3) := by decide +kernel
theorem dX7_sync_28 : decode cX7_sync 28 = .ok (.athrow, 1) := by decide +kernel
theorem dX7_sync_29 : decode cX7_sync 29 = .ok (.aload_n 0, 1) := by decide +kernel
theorem dX7_sync_30 : decode cX7_sync 30 = .ok (.getfield 19, 3) := by decide +kernel
theorem dX7_sync_33 : decode cX7_sync 33 = .ok (.invokevirtual 79, 3) := by decide +kernel
theorem dX7_sync_36 : decode cX7_sync 36 = .ok (.ifCond .eq 11, 3) := by decide +kernel
theorem dX7_sync_39 : decode cX7_sync 39 = .ok (.new 69, 3) := by decide +kernel
theorem dX7_sync_42 : decode cX7_sync 42 = .ok (.dup, 1) := by decide +kernel
theorem dX7_sync_43 : decode cX7_sync 43 = .ok (.invokespecial 71, 3) := by decide +kernel
theorem dX7_sync_46 : decode cX7_sync 46 = .ok (.athrow, 1) := by decide +kernel
theorem dX7_sync_47 : decode cX7_sync 47 = .ok (.aload_n 0, 1) := by decide +kernel
theorem dX7_sync_48 : decode cX7_sync 48 = .ok (.getfield 19, 3) := by decide +kernel
theorem dX7_sync_51 : decode cX7_sync 51 = .ok (.getfield 82, 3) := by decide +kernel
theorem dX7_sync_54 : decode cX7_sync 54 = .ok (.iload_n 2, 1) := by decide +kernel
theorem dX7_sync_55 : decode cX7_sync 55 = .ok (.aload_n 0, 1) := by decide +kernel
theorem dX7_sync_56 : decode cX7_sync 56 = .ok (.getfield 19, 3) := by decide +kernel
theorem dX7_sync_59 : decode cX7_sync 59 = .ok (.getfield 82, 3) := by decide +kernel
theorem dX7_sync_62 : decode cX7_sync 62 = .ok (.iload_n 1, 1) := by decide +kernel
theorem dX7_sync_63 : decode cX7_sync 63 = .ok (.invokevirtual 86, 3) := by decide +kernel
theorem dX7_sync_66 : decode cX7_sync 66 = .ok (.aload_n 0, 1) := by decide +kernel
theorem dX7_sync_67 : decode cX7_sync 67 = .ok (.iload_n 2, 1) := by decide +kernel
theorem dX7_sync_68 : decode cX7_sync 68 = .ok (.aload_n 0, 1) := by decide +kernel
theorem dX7_sync_69 : decode cX7_sync 69 = .ok (.getfield 47, 3) := by decide +kernel
theorem dX7_sync_72 : decode cX7_sync 72 = .ok (.iload_n 2, 1) := by decide +kernel
theorem dX7_sync_73 : decode cX7_sync 73 = .ok (.iaload, 1) := by decide +kernel
theorem dX7_sync_74 : decode cX7_sync 74 = .ok (.aload_n 0, 1) := by decide +kernel
theorem dX7_sync_75 : decode cX7_sync 75 = .ok (.getfield 47, 3) := by decide +kernel
theorem dX7_sync_78 : decode cX7_sync 78 = .ok (.iload_n 1, 1) := by decide +kernel
theorem dX7_sync_79 : decode cX7_sync 79 = .ok (.iaload, 1) := by decide +kernel
theorem dX7_sync_80 : decode cX7_sync 80 = .ok (.lload_n 3, 1) := by decide +kernel
theorem dX7_sync_81 : decode cX7_sync 81 = .ok (.aload_n 0, 1) := by decide +kernel
theorem dX7_sync_82 : decode cX7_sync 82 = .ok (.getfield 10, 3) := by decide +kernel
theorem dX7_sync_85 : decode cX7_sync 85 = .ok (.getfield 76, 3) := by decide +kernel
theorem dX7_sync_88 : decode cX7_sync 88 = .ok (.iload_n 2, 1) := by decide +kernel
theorem dX7_sync_89 : decode cX7_sync 89 = .ok (.iaload, 1) := by decide +kernel
theorem dX7_sync_90 : decode cX7_sync 90 = .ok (.iconst 3, 1) := by decide +kernel
theorem dX7_sync_91 : decode cX7_sync 91 = .ok (.invokestatic 91, 3) := by decide +kernel
theorem dX7_sync_94 : decode cX7_sync 94 = .ok (.invokevirtual 97, 3) := by decide +kernel
theorem dX7_sync_97 : decode cX7_sync 97 = .ok (.istore 5, 2) := by decide +kernel
theorem dX7_sync_99 : decode cX7_sync 99 = .ok (.aload_n 0, 1) := by decide +kernel
theorem dX7_sync_100 : decode cX7_sync 100 = .ok (.iload 5, 2) := by decide +kernel
theorem dX7_sync_102 : decode cX7_sync 102 = .ok (.iload_n 2, 1) := by decide +kernel
theorem dX7_sync_103 : decode cX7_sync 103 = .ok (.invokevirtual 101, 3) := by decide +kernel
theorem dX7_sync_106 : decode cX7_sync 106 = .ok (.aload_n 0, 1) := by decide +kernel
theorem dX7_sync_107 : decode cX7_sync 107 = .ok (.getfield 47, 3) := by decide +kernel
theorem dX7_sync_110 : decode cX7_sync 110 = .ok (.iload_n 2, 1) := by decide +kernel
theorem dX7_sync_111 : decode cX7_sync 111 = .ok (.iload 5, 2) := by decide +kernel
theorem dX7_sync_113 : decode cX7_sync 113 = .ok (.iastore, 1) := by decide +kernel
theorem dX7_sync_114 : decode cX7_sync 114 = .ok (.iload 5, 2) := by decide +kernel
theorem dX7_sync_116 : decode cX7_sync 116 = .ok (.ireturn, 1) := by decide +kernel
theorem dX7_inject_0 : decode cX7_inject 0 = .ok (.aload_n 0, 1) := by decide +kernel
theorem dX7_inject_1 : decode cX7_inject 1 = .ok (.iload_n 1, 1) := by decide +kernel
theorem dX7_inject_2 : decode cX7_inject 2 = .ok (.invokevirtual 61, 3) := by decide +kernel
theorem dX7_inject_5 : decode cX7_inject 5 = .ok (.ifCond .eq 16, 3) := by decide +kernel
theorem dX7_inject_8 : decode cX7_inject 8 = .ok (.aload_n 0, 1) := by decide +kernel
theorem dX7_inject_9 : decode cX7_inject 9 = .ok (.iload_n 2, 1) := by decide +kernel
theorem dX7_inject_10 : decode cX7_inject 10 = .ok (.invokevirtual 61, 3) := by decide +kernel
theorem dX7_inject_13 : decode cX7_inject 13 = .ok (.ifCond .eq 8, 3) := by decide +kernel
theorem dX7_inject_16 : decode cX7_inject 16 = .ok (.iload_n 1, 1) := by decide +kernel
theorem dX7_inject_17 : decode cX7_inject 17 = .ok (.iload_n 2, 1) := by decide +kernel
theorem dX7_inject_18 : decode cX7_inject 18 = .ok (.if_icmp .ne 11, 3) := by decide +kernel
theorem dX7_inject_21 : decode cX7_inject 21 = .ok (.new 58, 3) := by decide +kernel
theorem dX7_inject_24 : decode cX7_inject 24 = .ok (.dup, 1) := by decide +kernel
theorem dX7_inject_25 : decode cX7_inject 25 = .ok (.invokespecial 60, 3) := by decide +kernel
theorem dX7_inject_28 : decode cX7_inject 28 = .ok (.athrow, 1) := by decide +kernel
theorem dX7_inject_29 : decode cX7_inject 29 = .ok (.aload_n 0, 1) := by decide +kernel
theorem dX7_inject_30 : decode cX7_inject 30 = .ok (.iload_n 1, 1) := by decide +kernel
theorem dX7_inject_31 : decode cX7_inject 31 = .ok (.iload_n 3, 1) := by decide +kernel
theorem dX7_inject_32 : decode cX7_inject 32 = .ok (.invokevirtual 105, 3) := by decide +kernel
theorem dX7_inject_35 : decode cX7_inject 35 = .ok (.ifCond .eq 16, 3) := by decide +kernel
theorem dX7_inject_38 : decode cX7_inject 38 = .ok (.aload_n 0, 1) := by decide +kernel
theorem dX7_inject_39 : decode cX7_inject 39 = .ok (.getfield 19, 3) := by decide +kernel
theorem dX7_inject_42 : decode cX7_inject 42 = .ok (.getfield 109, 3) := by decide +kernel
theorem dX7_inject_45 : decode cX7_inject 45 = .ok (.iload_n 3, 1) := by decide +kernel
theorem dX7_inject_46 : decode cX7_inject 46 = .ok (.iaload, 1) := by decide +kernel
theorem dX7_inject_47 : decode cX7_inject 47 = .ok (.iload_n 2, 1) := by decide +kernel
theorem dX7_inject_48 : decode cX7_inject 48 = .ok (.if_icmp .eq 11, 3) := by decide +kernel
theorem dX7_inject_51 : decode cX7_inject 51 = .ok (.new 58, 3) := by decide +kernel
theorem dX7_inject_54 : decode cX7_inject 54 = .ok (.dup, 1) := by decide +kernel
theorem dX7_inject_55 : decode cX7_inject 55 = .ok (.invokespecial 60, 3) := by decide +kernel
theorem dX7_inject_58 : decode cX7_inject 58 = .ok (.athrow, 1) := by decide +kernel
theorem dX7_inject_59 : decode cX7_inject 59 = .ok (.iload 4, 2) := by decide +kernel
theorem dX7_inject_61 : decode cX7_inject 61 = .ok (.iconst (-1), 1) := by decide +kernel
theorem dX7_inject_62 : decode cX7_inject 62 = .ok (.if_icmp .eq 35, 3) := by decide +kernel
theorem dX7_inject_65 : decode cX7_inject 65 = .ok (.aload_n 0, 1) := by decide +kernel
theorem dX7_inject_66 : decode cX7_inject 66 = .ok (.iload_n 1, 1) := by decide +kernel
theorem dX7_inject_67 : decode cX7_inject 67 = .ok (.iload 4, 2) := by decide +kernel
theorem dX7_inject_69 : decode cX7_inject 69 = .ok (.invokevirtual 105, 3) := by decide +kernel
theorem dX7_inject_72 : decode cX7_inject 72 = .ok (.ifCond .eq 17, 3) := by decide +kernel
theorem dX7_inject_75 : decode cX7_inject 75 = .ok (.aload_n 0, 1) := by decide +kernel
theorem dX7_inject_76 : decode cX7_inject 76 = .ok (.getfield 19, 3) := by decide +kernel
theorem dX7_inject_79 : decode cX7_inject 79 = .ok (.getfield 109, 3) := by decide +kernel
theorem dX7_inject_82 : decode cX7_inject 82 = .ok (.iload 4, 2) := by decide +kernel
theorem dX7_inject_84 : decode cX7_inject 84 = .ok (.iaload, 1) := by decide +kernel
theorem dX7_inject_85 : decode cX7_inject 85 = .ok (.iload_n 2, 1) := by decide +kernel
theorem dX7_inject_86 : decode cX7_inject 86 = .ok (.if_icmp .ne 11, 3) := by decide +kernel
theorem dX7_inject_89 : decode cX7_inject 89 = .ok (.new 58, 3) := by decide +kernel
theorem dX7_inject_92 : decode cX7_inject 92 = .ok (.dup, 1) := by decide +kernel
theorem dX7_inject_93 : decode cX7_inject 93 = .ok (.invokespecial 60, 3) := by decide +kernel
theorem dX7_inject_96 : decode cX7_inject 96 = .ok (.athrow, 1) := by decide +kernel
theorem dX7_inject_97 : decode cX7_inject 97 = .ok (.aload_n 0, 1) := by decide +kernel
theorem dX7_inject_98 : decode cX7_inject 98 = .ok (.getfield 19, 3) := by decide +kernel
theorem dX7_inject_101 : decode cX7_inject 101 = .ok (.iload_n 2, 1) := by decide +kernel
theorem dX7_inject_102 : decode cX7_inject 102 = .ok (.iload_n 3, 1) := by decide +kernel
theorem dX7_inject_103 : decode cX7_inject 103 = .ok (.iload 4, 2) := by decide +kernel
theorem dX7_inject_105 : decode cX7_inject 105 = .ok (.lload 5, 2) := by decide +kernel
theorem dX7_inject_107 : decode cX7_inject 107 = .ok (.invokevirtual 112, 3) := by decide +kernel
theorem dX7_inject_110 : decode cX7_inject 110 = .ok (.ifCond .eq 11, 3) := by decide +kernel
theorem dX7_inject_113 : decode cX7_inject 113 = .ok (.new 116, 3) := by decide +kernel
theorem dX7_inject_116 : decode cX7_inject 116 = .ok (.dup, 1) := by decide +kernel
theorem dX7_inject_117 : decode cX7_inject 117 = .ok (.invokespecial 118, 3) := by decide +kernel
theorem dX7_inject_120 : decode cX7_inject 120 = .ok (.athrow, 1) := by decide +kernel
theorem dX7_inject_121 : decode cX7_inject 121 = .ok (.aload_n 0, 1) := by decide +kernel
theorem dX7_inject_122 : decode cX7_inject 122 = .ok (.getfield 19, 3) := by decide +kernel
theorem dX7_inject_125 : decode cX7_inject 125 = .ok (.invokevirtual 79, 3) := by decide +kernel
theorem dX7_inject_128 : decode cX7_inject 128 = .ok (.ifCond .eq 11, 3) := by decide +kernel
theorem dX7_inject_131 : decode cX7_inject 131 = .ok (.new 69, 3) := by decide +kernel
theorem dX7_inject_134 : decode cX7_inject 134 = .ok (.dup, 1) := by decide +kernel
theorem dX7_inject_135 : decode cX7_inject 135 = .ok (.invokespecial 71, 3) := by decide +kernel
theorem dX7_inject_138 : decode cX7_inject 138 = .ok (.athrow, 1) := by decide +kernel
theorem dX7_inject_139 : decode cX7_inject 139 = .ok (.aload_n 0, 1) := by decide +kernel
theorem dX7_inject_140 : decode cX7_inject 140 = .ok (.iload_n 2, 1) := by decide +kernel
theorem dX7_inject_141 : decode cX7_inject 141 = .ok (.iload_n 3, 1) := by decide +kernel
theorem dX7_inject_142 : decode cX7_inject 142 = .ok (.iload 4, 2) := by decide +kernel
theorem dX7_inject_144 : decode cX7_inject 144 = .ok (.lload 5, 2) := by decide +kernel
theorem dX7_inject_146 : decode cX7_inject 146 = .ok (.iconst 0, 1) := by decide +kernel
theorem dX7_inject_147 : decode cX7_inject 147 = .ok (.invokevirtual 97, 3) := by decide +kernel
theorem dX7_inject_150 : decode cX7_inject 150 = .ok (.istore 7, 2) := by decide +kernel
theorem dX7_inject_152 : decode cX7_inject 152 = .ok (.aload_n 0, 1) := by decide +kernel
theorem dX7_inject_153 : decode cX7_inject 153 = .ok (.iload 7, 2) := by decide +kernel
theorem dX7_inject_155 : decode cX7_inject 155 = .ok (.iload_n 1, 1) := by decide +kernel
theorem dX7_inject_156 : decode cX7_inject 156 = .ok (.invokevirtual 101, 3) := by decide +kernel
theorem dX7_inject_159 : decode cX7_inject 159 = .ok (.iload 7, 2) := by decide +kernel
theorem dX7_inject_161 : decode cX7_inject 161 = .ok (.ireturn, 1) := by decide +kernel
theorem dX7_event_0 : decode cX7_event 0 = .ok (.iload_n 2, 1) := by decide +kernel
theorem dX7_event_1 : decode cX7_event 1 = .ok (.ifCond .lt 9, 3) := by decide +kernel
theorem dX7_event_4 : decode cX7_event 4 = .ok (.iload_n 2, 1) := by decide +kernel
theorem dX7_event_5 : decode cX7_event 5 = .ok (.bipush 7, 2) := by decide +kernel
theorem dX7_event_7 : decode cX7_event 7 = .ok (.if_icmp .le 11, 3) := by decide +kernel
theorem dX7_event_10 : decode cX7_event 10 = .ok (.new 58, 3) := by decide +kernel
theorem dX7_event_13 : decode cX7_event 13 = .ok (.dup, 1) := by decide +kernel
theorem dX7_event_14 : decode cX7_event 14 = .ok (.invokespecial 60, 3) := by decide +kernel
theorem dX7_event_17 : decode cX7_event 17 = .ok (.athrow, 1) := by decide +kernel
theorem dX7_event_18 : decode cX7_event 18 = .ok (.aload_n 0, 1) := by decide +kernel
theorem dX7_event_19 : decode cX7_event 19 = .ok (.iload_n 1, 1) := by decide +kernel
theorem dX7_event_20 : decode cX7_event 20 = .ok (.invokevirtual 119, 3) := by decide +kernel
theorem dX7_event_23 : decode cX7_event 23 = .ok (.ifCond .ne 11, 3) := by decide +kernel
theorem dX7_event_26 : decode cX7_event 26 = .ok (.new 69, 3) := by decide +kernel
theorem dX7_event_29 : decode cX7_event 29 = .ok (.dup, 1) := by decide +kernel
theorem dX7_event_30 : decode cX7_event 30 = .ok (.invokespecial 71, 3) := by decide +kernel
theorem dX7_event_33 : decode cX7_event 33 = .ok (.athrow, 1) := by decide +kernel
theorem dX7_event_34 : decode cX7_event 34 = .ok (.iload_n 2, 1) := by decide +kernel
theorem dX7_event_35 : decode cX7_event 35 = .ok (.tableswitch 121 0 6 #[41, 51, 61, 71, 81, 99, 109], 41) := by decide +kernel
theorem dX7_event_76 : decode cX7_event 76 = .ok (.aload_n 0, 1) := by decide +kernel
theorem dX7_event_77 : decode cX7_event 77 = .ok (.getfield 19, 3) := by decide +kernel
theorem dX7_event_80 : decode cX7_event 80 = .ok (.getfield 109, 3) := by decide +kernel
theorem dX7_event_83 : decode cX7_event 83 = .ok (.iload_n 1, 1) := by decide +kernel
theorem dX7_event_84 : decode cX7_event 84 = .ok (.iaload, 1) := by decide +kernel
theorem dX7_event_85 : decode cX7_event 85 = .ok (.ireturn, 1) := by decide +kernel
theorem dX7_event_86 : decode cX7_event 86 = .ok (.aload_n 0, 1) := by decide +kernel
theorem dX7_event_87 : decode cX7_event 87 = .ok (.getfield 19, 3) := by decide +kernel
theorem dX7_event_90 : decode cX7_event 90 = .ok (.getfield 122, 3) := by decide +kernel
theorem dX7_event_93 : decode cX7_event 93 = .ok (.iload_n 1, 1) := by decide +kernel
theorem dX7_event_94 : decode cX7_event 94 = .ok (.iaload, 1) := by decide +kernel
theorem dX7_event_95 : decode cX7_event 95 = .ok (.ireturn, 1) := by decide +kernel
theorem dX7_event_96 : decode cX7_event 96 = .ok (.aload_n 0, 1) := by decide +kernel
theorem dX7_event_97 : decode cX7_event 97 = .ok (.getfield 19, 3) := by decide +kernel
theorem dX7_event_100 : decode cX7_event 100 = .ok (.getfield 125, 3) := by decide +kernel
theorem dX7_event_103 : decode cX7_event 103 = .ok (.iload_n 1, 1) := by decide +kernel
theorem dX7_event_104 : decode cX7_event 104 = .ok (.iaload, 1) := by decide +kernel
theorem dX7_event_105 : decode cX7_event 105 = .ok (.ireturn, 1) := by decide +kernel
theorem dX7_event_106 : decode cX7_event 106 = .ok (.aload_n 0, 1) := by decide +kernel
theorem dX7_event_107 : decode cX7_event 107 = .ok (.getfield 28, 3) := by decide +kernel
theorem dX7_event_110 : decode cX7_event 110 = .ok (.getfield 128, 3) := by decide +kernel
theorem dX7_event_113 : decode cX7_event 113 = .ok (.iload_n 1, 1) := by decide +kernel
theorem dX7_event_114 : decode cX7_event 114 = .ok (.iaload, 1) := by decide +kernel
theorem dX7_event_115 : decode cX7_event 115 = .ok (.ireturn, 1) := by decide +kernel
theorem dX7_event_116 : decode cX7_event 116 = .ok (.aload_n 0, 1) := by decide +kernel
theorem dX7_event_117 : decode cX7_event 117 = .ok (.getfield 28, 3) := by decide +kernel
theorem dX7_event_120 : decode cX7_event 120 = .ok (.getfield 131, 3) := by decide +kernel
theorem dX7_event_123 : decode cX7_event 123 = .ok (.iload_n 1, 1) := by decide +kernel
theorem dX7_event_124 : decode cX7_event 124 = .ok (.baload, 1) := by decide +kernel
theorem dX7_event_125 : decode cX7_event 125 = .ok (.ifCond .eq 7, 3) := by decide +kernel
theorem dX7_event_128 : decode cX7_event 128 = .ok (.iconst 1, 1) := by decide +kernel
theorem dX7_event_129 : decode cX7_event 129 = .ok (.goto 4, 3) := by decide +kernel
theorem dX7_event_132 : decode cX7_event 132 = .ok (.iconst 0, 1) := by decide +kernel
theorem dX7_event_133 : decode cX7_event 133 = .ok (.ireturn, 1) := by decide +kernel
theorem dX7_event_134 : decode cX7_event 134 = .ok (.aload_n 0, 1) := by decide +kernel
theorem dX7_event_135 : decode cX7_event 135 = .ok (.getfield 19, 3) := by decide +kernel
theorem dX7_event_138 : decode cX7_event 138 = .ok (.getfield 135, 3) := by decide +kernel
theorem dX7_event_141 : decode cX7_event 141 = .ok (.iload_n 1, 1) := by decide +kernel
theorem dX7_event_142 : decode cX7_event 142 = .ok (.iaload, 1) := by decide +kernel
theorem dX7_event_143 : decode cX7_event 143 = .ok (.ireturn, 1) := by decide +kernel
theorem dX7_event_144 : decode cX7_event 144 = .ok (.aload_n 0, 1) := by decide +kernel
theorem dX7_event_145 : decode cX7_event 145 = .ok (.getfield 19, 3) := by decide +kernel
theorem dX7_event_148 : decode cX7_event 148 = .ok (.getfield 82, 3) := by decide +kernel
theorem dX7_event_151 : decode cX7_event 151 = .ok (.iload_n 1, 1) := by decide +kernel
theorem dX7_event_152 : decode cX7_event 152 = .ok (.invokevirtual 138, 3) := by decide +kernel
theorem dX7_event_155 : decode cX7_event 155 = .ok (.ireturn, 1) := by decide +kernel
theorem dX7_event_156 : decode cX7_event 156 = .ok (.aload_n 0, 1) := by decide +kernel
theorem dX7_event_157 : decode cX7_event 157 = .ok (.getfield 28, 3) := by decide +kernel
theorem dX7_event_160 : decode cX7_event 160 = .ok (.getfield 142, 3) := by decide +kernel
theorem dX7_event_163 : decode cX7_event 163 = .ok (.iload_n 1, 1) := by decide +kernel
theorem dX7_event_164 : decode cX7_event 164 = .ok (.invokevirtual 145, 3) := by decide +kernel
theorem dX7_event_167 : decode cX7_event 167 = .ok (.ireturn, 1) := by decide +kernel
theorem dX7_hash_0 : decode cX7_hash 0 = .ok (.aload_n 0, 1) := by decide +kernel
theorem dX7_hash_1 : decode cX7_hash 1 = .ok (.iload_n 1, 1) := by decide +kernel
theorem dX7_hash_2 : decode cX7_hash 2 = .ok (.invokevirtual 119, 3) := by decide +kernel
theorem dX7_hash_5 : decode cX7_hash 5 = .ok (.ifCond .eq 13, 3) := by decide +kernel
theorem dX7_hash_8 : decode cX7_hash 8 = .ok (.iload_n 2, 1) := by decide +kernel
theorem dX7_hash_9 : decode cX7_hash 9 = .ok (.ifCond .lt 9, 3) := by decide +kernel
theorem dX7_hash_12 : decode cX7_hash 12 = .ok (.iload_n 2, 1) := by decide +kernel
theorem dX7_hash_13 : decode cX7_hash 13 = .ok (.bipush 8, 2) := by decide +kernel
theorem dX7_hash_15 : decode cX7_hash 15 = .ok (.if_icmp .lt 11, 3) := by decide +kernel
theorem dX7_hash_18 : decode cX7_hash 18 = .ok (.new 69, 3) := by decide +kernel
theorem dX7_hash_21 : decode cX7_hash 21 = .ok (.dup, 1) := by decide +kernel
theorem dX7_hash_22 : decode cX7_hash 22 = .ok (.invokespecial 71, 3) := by decide +kernel
theorem dX7_hash_25 : decode cX7_hash 25 = .ok (.athrow, 1) := by decide +kernel
theorem dX7_hash_26 : decode cX7_hash 26 = .ok (.aload_n 0, 1) := by decide +kernel
theorem dX7_hash_27 : decode cX7_hash 27 = .ok (.getfield 19, 3) := by decide +kernel
theorem dX7_hash_30 : decode cX7_hash 30 = .ok (.iload_n 1, 1) := by decide +kernel
theorem dX7_hash_31 : decode cX7_hash 31 = .ok (.iload_n 2, 1) := by decide +kernel
theorem dX7_hash_32 : decode cX7_hash 32 = .ok (.invokevirtual 148, 3) := by decide +kernel
theorem dX7_hash_35 : decode cX7_hash 35 = .ok (.ireturn, 1) := by decide +kernel
theorem dX7_sees_0 : decode cX7_sees 0 = .ok (.aload_n 0, 1) := by decide +kernel
theorem dX7_sees_1 : decode cX7_sees 1 = .ok (.iload_n 1, 1) := by decide +kernel
theorem dX7_sees_2 : decode cX7_sees 2 = .ok (.invokevirtual 119, 3) := by decide +kernel
theorem dX7_sees_5 : decode cX7_sees 5 = .ok (.ifCond .eq 11, 3) := by decide +kernel
theorem dX7_sees_8 : decode cX7_sees 8 = .ok (.aload_n 0, 1) := by decide +kernel
theorem dX7_sees_9 : decode cX7_sees 9 = .ok (.iload_n 2, 1) := by decide +kernel
theorem dX7_sees_10 : decode cX7_sees 10 = .ok (.invokevirtual 119, 3) := by decide +kernel
theorem dX7_sees_13 : decode cX7_sees 13 = .ok (.ifCond .ne 11, 3) := by decide +kernel
theorem dX7_sees_16 : decode cX7_sees 16 = .ok (.new 69, 3) := by decide +kernel
theorem dX7_sees_19 : decode cX7_sees 19 = .ok (.dup, 1) := by decide +kernel
theorem dX7_sees_20 : decode cX7_sees 20 = .ok (.invokespecial 71, 3) := by decide +kernel
theorem dX7_sees_23 : decode cX7_sees 23 = .ok (.athrow, 1) := by decide +kernel
theorem dX7_sees_24 : decode cX7_sees 24 = .ok (.iload_n 3, 1) := by decide +kernel
theorem dX7_sees_25 : decode cX7_sees 25 = .ok (.ifCond .eq 18, 3) := by decide +kernel
theorem dX7_sees_28 : decode cX7_sees 28 = .ok (.aload_n 0, 1) := by decide +kernel
theorem dX7_sees_29 : decode cX7_sees 29 = .ok (.getfield 28, 3) := by decide +kernel
theorem dX7_sees_32 : decode cX7_sees 32 = .ok (.getfield 151, 3) := by decide +kernel
theorem dX7_sees_35 : decode cX7_sees 35 = .ok (.iload_n 1, 1) := by decide +kernel
theorem dX7_sees_36 : decode cX7_sees 36 = .ok (.iload_n 2, 1) := by decide +kernel
theorem dX7_sees_37 : decode cX7_sees 37 = .ok (.invokevirtual 154, 3) := by decide +kernel
theorem dX7_sees_40 : decode cX7_sees 40 = .ok (.goto 15, 3) := by decide +kernel
theorem dX7_sees_43 : decode cX7_sees 43 = .ok (.aload_n 0, 1) := by decide +kernel
theorem dX7_sees_44 : decode cX7_sees 44 = .ok (.getfield 28, 3) := by decide +kernel
theorem dX7_sees_47 : decode cX7_sees 47 = .ok (.getfield 157, 3) := by decide +kernel
theorem dX7_sees_50 : decode cX7_sees 50 = .ok (.iload_n 1, 1) := by decide +kernel
theorem dX7_sees_51 : decode cX7_sees 51 = .ok (.iload_n 2, 1) := by decide +kernel
theorem dX7_sees_52 : decode cX7_sees 52 = .ok (.invokevirtual 154, 3) := by decide +kernel
theorem dX7_sees_55 : decode cX7_sees 55 = .ok (.ireturn, 1) := by decide +kernel
theorem dX7_vote_0 : decode cX7_vote 0 = .ok (.aload_n 0, 1) := by decide +kernel
theorem dX7_vote_1 : decode cX7_vote 1 = .ok (.iload_n 1, 1) := by decide +kernel
theorem dX7_vote_2 : decode cX7_vote 2 = .ok (.invokevirtual 119, 3) := by decide +kernel
theorem dX7_vote_5 : decode cX7_vote 5 = .ok (.ifCond .eq 11, 3) := by decide +kernel
theorem dX7_vote_8 : decode cX7_vote 8 = .ok (.aload_n 0, 1) := by decide +kernel
theorem dX7_vote_9 : decode cX7_vote 9 = .ok (.iload_n 2, 1) := by decide +kernel
theorem dX7_vote_10 : decode cX7_vote 10 = .ok (.invokevirtual 119, 3) := by decide +kernel
theorem dX7_vote_13 : decode cX7_vote 13 = .ok (.ifCond .ne 11, 3) := by decide +kernel
theorem dX7_vote_16 : decode cX7_vote 16 = .ok (.new 69, 3) := by decide +kernel
theorem dX7_vote_19 : decode cX7_vote 19 = .ok (.dup, 1) := by decide +kernel
theorem dX7_vote_20 : decode cX7_vote 20 = .ok (.invokespecial 71, 3) := by decide +kernel
theorem dX7_vote_23 : decode cX7_vote 23 = .ok (.athrow, 1) := by decide +kernel
theorem dX7_vote_24 : decode cX7_vote 24 = .ok (.aload_n 0, 1) := by decide +kernel
theorem dX7_vote_25 : decode cX7_vote 25 = .ok (.getfield 28, 3) := by decide +kernel
theorem dX7_vote_28 : decode cX7_vote 28 = .ok (.getfield 131, 3) := by decide +kernel
theorem dX7_vote_31 : decode cX7_vote 31 = .ok (.iload_n 1, 1) := by decide +kernel
theorem dX7_vote_32 : decode cX7_vote 32 = .ok (.baload, 1) := by decide +kernel
theorem dX7_vote_33 : decode cX7_vote 33 = .ok (.ifCond .eq 36, 3) := by decide +kernel
theorem dX7_vote_36 : decode cX7_vote 36 = .ok (.aload_n 0, 1) := by decide +kernel
theorem dX7_vote_37 : decode cX7_vote 37 = .ok (.getfield 28, 3) := by decide +kernel
theorem dX7_vote_40 : decode cX7_vote 40 = .ok (.getfield 131, 3) := by decide +kernel
theorem dX7_vote_43 : decode cX7_vote 43 = .ok (.iload_n 2, 1) := by decide +kernel
theorem dX7_vote_44 : decode cX7_vote 44 = .ok (.baload, 1) := by decide +kernel
theorem dX7_vote_45 : decode cX7_vote 45 = .ok (.ifCond .eq 24, 3) := by decide +kernel
theorem dX7_vote_48 : decode cX7_vote 48 = .ok (.aload_n 0, 1) := by decide +kernel
theorem dX7_vote_49 : decode cX7_vote 49 = .ok (.getfield 28, 3) := by decide +kernel
theorem dX7_vote_52 : decode cX7_vote 52 = .ok (.getfield 128, 3) := by decide +kernel
theorem dX7_vote_55 : decode cX7_vote 55 = .ok (.iload_n 1, 1) := by decide +kernel
theorem dX7_vote_56 : decode cX7_vote 56 = .ok (.iaload, 1) := by decide +kernel
theorem dX7_vote_57 : decode cX7_vote 57 = .ok (.aload_n 0, 1) := by decide +kernel
theorem dX7_vote_58 : decode cX7_vote 58 = .ok (.getfield 28, 3) := by decide +kernel
theorem dX7_vote_61 : decode cX7_vote 61 = .ok (.getfield 128, 3) := by decide +kernel
theorem dX7_vote_64 : decode cX7_vote 64 = .ok (.iload_n 2, 1) := by decide +kernel
theorem dX7_vote_65 : decode cX7_vote 65 = .ok (.iaload, 1) := by decide +kernel
theorem dX7_vote_66 : decode cX7_vote 66 = .ok (.if_icmp .gt 11, 3) := by decide +kernel
theorem dX7_vote_69 : decode cX7_vote 69 = .ok (.new 58, 3) := by decide +kernel
theorem dX7_vote_72 : decode cX7_vote 72 = .ok (.dup, 1) := by decide +kernel
theorem dX7_vote_73 : decode cX7_vote 73 = .ok (.invokespecial 60, 3) := by decide +kernel
theorem dX7_vote_76 : decode cX7_vote 76 = .ok (.athrow, 1) := by decide +kernel
theorem dX7_vote_77 : decode cX7_vote 77 = .ok (.aload_n 0, 1) := by decide +kernel
theorem dX7_vote_78 : decode cX7_vote 78 = .ok (.getfield 37, 3) := by decide +kernel
theorem dX7_vote_81 : decode cX7_vote 81 = .ok (.iload_n 1, 1) := by decide +kernel
theorem dX7_vote_82 : decode cX7_vote 82 = .ok (.iload_n 2, 1) := by decide +kernel
theorem dX7_vote_83 : decode cX7_vote 83 = .ok (.invokevirtual 160, 3) := by decide +kernel
theorem dX7_vote_86 : decode cX7_vote 86 = .ok (.ifCond .eq 7, 3) := by decide +kernel
theorem dX7_vote_89 : decode cX7_vote 89 = .ok (.iconst 1, 1) := by decide +kernel
theorem dX7_vote_90 : decode cX7_vote 90 = .ok (.goto 4, 3) := by decide +kernel
theorem dX7_vote_93 : decode cX7_vote 93 = .ok (.iconst 0, 1) := by decide +kernel
theorem dX7_vote_94 : decode cX7_vote 94 = .ok (.aload_n 0, 1) := by decide +kernel
theorem dX7_vote_95 : decode cX7_vote 95 = .ok (.getfield 37, 3) := by decide +kernel
theorem dX7_vote_98 : decode cX7_vote 98 = .ok (.iload_n 1, 1) := by decide +kernel
theorem dX7_vote_99 : decode cX7_vote 99 = .ok (.iload_n 2, 1) := by decide +kernel
theorem dX7_vote_100 : decode cX7_vote 100 = .ok (.invokevirtual 163, 3) := by decide +kernel
theorem dX7_vote_103 : decode cX7_vote 103 = .ok (.ifCond .eq 7, 3) := by decide +kernel
theorem dX7_vote_106 : decode cX7_vote 106 = .ok (.iconst 2, 1) := by decide +kernel
theorem dX7_vote_107 : decode cX7_vote 107 = .ok (.goto 4, 3) := by decide +kernel
theorem dX7_vote_110 : decode cX7_vote 110 = .ok (.iconst 0, 1) := by decide +kernel
theorem dX7_vote_111 : decode cX7_vote 111 = .ok (.iadd, 1) := by decide +kernel
theorem dX7_vote_112 : decode cX7_vote 112 = .ok (.ireturn, 1) := by decide +kernel
theorem dX7_found_0 : decode cX7_found 0 = .ok (.aload_n 0, 1) := by decide +kernel
theorem dX7_found_1 : decode cX7_found 1 = .ok (.iload_n 1, 1) := by decide +kernel
theorem dX7_found_2 : decode cX7_found 2 = .ok (.invokevirtual 61, 3) := by decide +kernel
theorem dX7_found_5 : decode cX7_found 5 = .ok (.ifCond .eq 12, 3) := by decide +kernel
theorem dX7_found_8 : decode cX7_found 8 = .ok (.iload_n 3, 1) := by decide +kernel
theorem dX7_found_9 : decode cX7_found 9 = .ok (.ifCond .lt 8, 3) := by decide +kernel
theorem dX7_found_12 : decode cX7_found 12 = .ok (.iload_n 3, 1) := by decide +kernel
theorem dX7_found_13 : decode cX7_found 13 = .ok (.iconst 3, 1) := by decide +kernel
theorem dX7_found_14 : decode cX7_found 14 = .ok (.if_icmp .le 11, 3) := by decide +kernel
theorem dX7_found_17 : decode cX7_found 17 = .ok (.new 58, 3) := by decide +kernel
theorem dX7_found_20 : decode cX7_found 20 = .ok (.dup, 1) := by decide +kernel
theorem dX7_found_21 : decode cX7_found 21 = .ok (.invokespecial 60, 3) := by decide +kernel
theorem dX7_found_24 : decode cX7_found 24 = .ok (.athrow, 1) := by decide +kernel
theorem dX7_found_25 : decode cX7_found 25 = .ok (.aload_n 0, 1) := by decide +kernel
theorem dX7_found_26 : decode cX7_found 26 = .ok (.iload_n 2, 1) := by decide +kernel
theorem dX7_found_27 : decode cX7_found 27 = .ok (.invokevirtual 119, 3) := by decide +kernel
theorem dX7_found_30 : decode cX7_found 30 = .ok (.ifCond .ne 11, 3) := by decide +kernel
theorem dX7_found_33 : decode cX7_found 33 = .ok (.new 69, 3) := by decide +kernel
theorem dX7_found_36 : decode cX7_found 36 = .ok (.dup, 1) := by decide +kernel
theorem dX7_found_37 : decode cX7_found 37 = .ok (.invokespecial 71, 3) := by decide +kernel
theorem dX7_found_40 : decode cX7_found 40 = .ok (.athrow, 1) := by decide +kernel
theorem dX7_found_41 : decode cX7_found 41 = .ok (.iload_n 3, 1) := by decide +kernel
theorem dX7_found_42 : decode cX7_found 42 = .ok (.tableswitch 69 0 2 #[26, 47, 58], 26) := by decide +kernel
theorem dX7_found_68 : decode cX7_found 68 = .ok (.aload_n 0, 1) := by decide +kernel
theorem dX7_found_69 : decode cX7_found 69 = .ok (.getfield 19, 3) := by decide +kernel
theorem dX7_found_72 : decode cX7_found 72 = .ok (.getfield 82, 3) := by decide +kernel
theorem dX7_found_75 : decode cX7_found 75 = .ok (.iload_n 1, 1) := by decide +kernel
theorem dX7_found_76 : decode cX7_found 76 = .ok (.iload_n 2, 1) := by decide +kernel
theorem dX7_found_77 : decode cX7_found 77 = .ok (.invokevirtual 154, 3) := by decide +kernel
theorem dX7_found_80 : decode cX7_found 80 = .ok (.ifCond .eq 7, 3) := by decide +kernel
theorem dX7_found_83 : decode cX7_found 83 = .ok (.iconst 1, 1) := by decide +kernel
theorem dX7_found_84 : decode cX7_found 84 = .ok (.goto 4, 3) := by decide +kernel
theorem dX7_found_87 : decode cX7_found 87 = .ok (.iconst 0, 1) := by decide +kernel
theorem dX7_found_88 : decode cX7_found 88 = .ok (.ireturn, 1) := by decide +kernel
theorem dX7_found_89 : decode cX7_found 89 = .ok (.aload_n 0, 1) := by decide +kernel
theorem dX7_found_90 : decode cX7_found 90 = .ok (.iload_n 1, 1) := by decide +kernel
theorem dX7_found_91 : decode cX7_found 91 = .ok (.invokevirtual 166, 3) := by decide +kernel
theorem dX7_found_94 : decode cX7_found 94 = .ok (.getfield 170, 3) := by decide +kernel
theorem dX7_found_97 : decode cX7_found 97 = .ok (.iload_n 2, 1) := by decide +kernel
theorem dX7_found_98 : decode cX7_found 98 = .ok (.iaload, 1) := by decide +kernel
theorem dX7_found_99 : decode cX7_found 99 = .ok (.ireturn, 1) := by decide +kernel
theorem dX7_found_100 : decode cX7_found 100 = .ok (.aload_n 0, 1) := by decide +kernel
theorem dX7_found_101 : decode cX7_found 101 = .ok (.iload_n 1, 1) := by decide +kernel
theorem dX7_found_102 : decode cX7_found 102 = .ok (.invokevirtual 166, 3) := by decide +kernel
theorem dX7_found_105 : decode cX7_found 105 = .ok (.getfield 173, 3) := by decide +kernel
theorem dX7_found_108 : decode cX7_found 108 = .ok (.iload_n 2, 1) := by decide +kernel
theorem dX7_found_109 : decode cX7_found 109 = .ok (.iaload, 1) := by decide +kernel
theorem dX7_found_110 : decode cX7_found 110 = .ok (.ireturn, 1) := by decide +kernel
theorem dX7_found_111 : decode cX7_found 111 = .ok (.aload_n 0, 1) := by decide +kernel
theorem dX7_found_112 : decode cX7_found 112 = .ok (.iload_n 1, 1) := by decide +kernel
theorem dX7_found_113 : decode cX7_found 113 = .ok (.invokevirtual 166, 3) := by decide +kernel
theorem dX7_found_116 : decode cX7_found 116 = .ok (.getfield 176, 3) := by decide +kernel
theorem dX7_found_119 : decode cX7_found 119 = .ok (.iload_n 2, 1) := by decide +kernel
theorem dX7_found_120 : decode cX7_found 120 = .ok (.iaload, 1) := by decide +kernel
theorem dX7_found_121 : decode cX7_found 121 = .ok (.ireturn, 1) := by decide +kernel
theorem dX7_stamp_0 : decode cX7_stamp 0 = .ok (.aload_n 0, 1) := by decide +kernel
theorem dX7_stamp_1 : decode cX7_stamp 1 = .ok (.iload_n 1, 1) := by decide +kernel
theorem dX7_stamp_2 : decode cX7_stamp 2 = .ok (.invokevirtual 61, 3) := by decide +kernel
theorem dX7_stamp_5 : decode cX7_stamp 5 = .ok (.ifCond .ne 11, 3) := by decide +kernel
theorem dX7_stamp_8 : decode cX7_stamp 8 = .ok (.new 58, 3) := by decide +kernel
theorem dX7_stamp_11 : decode cX7_stamp 11 = .ok (.dup, 1) := by decide +kernel
theorem dX7_stamp_12 : decode cX7_stamp 12 = .ok (.invokespecial 60, 3) := by decide +kernel
theorem dX7_stamp_15 : decode cX7_stamp 15 = .ok (.athrow, 1) := by decide +kernel
theorem dX7_stamp_16 : decode cX7_stamp 16 = .ok (.aload_n 0, 1) := by decide +kernel
theorem dX7_stamp_17 : decode cX7_stamp 17 = .ok (.iload_n 2, 1) := by decide +kernel
theorem dX7_stamp_18 : decode cX7_stamp 18 = .ok (.invokevirtual 119, 3) := by decide +kernel
theorem dX7_stamp_21 : decode cX7_stamp 21 = .ok (.ifCond .ne 11, 3) := by decide +kernel
theorem dX7_stamp_24 : decode cX7_stamp 24 = .ok (.new 69, 3) := by decide +kernel
theorem dX7_stamp_27 : decode cX7_stamp 27 = .ok (.dup, 1) := by decide +kernel
theorem dX7_stamp_28 : decode cX7_stamp 28 = .ok (.invokespecial 71, 3) := by decide +kernel
theorem dX7_stamp_31 : decode cX7_stamp 31 = .ok (.athrow, 1) := by decide +kernel
theorem dX7_stamp_32 : decode cX7_stamp 32 = .ok (.aload_n 0, 1) := by decide +kernel
theorem dX7_stamp_33 : decode cX7_stamp 33 = .ok (.iload_n 1, 1) := by decide +kernel
theorem dX7_stamp_34 : decode cX7_stamp 34 = .ok (.invokevirtual 166, 3) := by decide +kernel
theorem dX7_stamp_37 : decode cX7_stamp 37 = .ok (.astore_n 3, 1) := by decide +kernel
theorem dX7_stamp_38 : decode cX7_stamp 38 = .ok (.aload_n 3, 1) := by decide +kernel
theorem dX7_stamp_39 : decode cX7_stamp 39 = .ok (.getfield 173, 3) := by decide +kernel
theorem dX7_stamp_42 : decode cX7_stamp 42 = .ok (.iload_n 2, 1) := by decide +kernel
theorem dX7_stamp_43 : decode cX7_stamp 43 = .ok (.iaload, 1) := by decide +kernel
theorem dX7_stamp_44 : decode cX7_stamp 44 = .ok (.ifCond .ne 11, 3) := by decide +kernel
theorem dX7_stamp_47 : decode cX7_stamp 47 = .ok (.new 179, 3) := by decide +kernel
theorem dX7_stamp_50 : decode cX7_stamp 50 = .ok (.dup, 1) := by decide +kernel
theorem dX7_stamp_51 : decode cX7_stamp 51 = .ok (.invokespecial 181, 3) := by decide +kernel
theorem dX7_stamp_54 : decode cX7_stamp 54 = .ok (.athrow, 1) := by decide +kernel
theorem dX7_stamp_55 : decode cX7_stamp 55 = .ok (.aload_n 3, 1) := by decide +kernel
theorem dX7_stamp_56 : decode cX7_stamp 56 = .ok (.getfield 182, 3) := by decide +kernel
theorem dX7_stamp_59 : decode cX7_stamp 59 = .ok (.iload_n 2, 1) := by decide +kernel
theorem dX7_stamp_60 : decode cX7_stamp 60 = .ok (.laload, 1) := by decide +kernel
theorem dX7_stamp_61 : decode cX7_stamp 61 = .ok (.lreturn, 1) := by decide +kernel
theorem dX7_order_0 : decode cX7_order 0 = .ok (.aload_n 0, 1) := by decide +kernel
theorem dX7_order_1 : decode cX7_order 1 = .ok (.iload_n 1, 1) := by decide +kernel
theorem dX7_order_2 : decode cX7_order 2 = .ok (.invokevirtual 61, 3) := by decide +kernel
theorem dX7_order_5 : decode cX7_order 5 = .ok (.ifCond .ne 11, 3) := by decide +kernel
theorem dX7_order_8 : decode cX7_order 8 = .ok (.new 58, 3) := by decide +kernel
theorem dX7_order_11 : decode cX7_order 11 = .ok (.dup, 1) := by decide +kernel
theorem dX7_order_12 : decode cX7_order 12 = .ok (.invokespecial 60, 3) := by decide +kernel
theorem dX7_order_15 : decode cX7_order 15 = .ok (.athrow, 1) := by decide +kernel
theorem dX7_order_16 : decode cX7_order 16 = .ok (.aload_n 0, 1) := by decide +kernel
theorem dX7_order_17 : decode cX7_order 17 = .ok (.iload_n 1, 1) := by decide +kernel
theorem dX7_order_18 : decode cX7_order 18 = .ok (.invokevirtual 166, 3) := by decide +kernel
theorem dX7_order_21 : decode cX7_order 21 = .ok (.getfield 186, 3) := by decide +kernel
theorem dX7_order_24 : decode cX7_order 24 = .ok (.ireturn, 1) := by decide +kernel
theorem dX7_at_0 : decode cX7_at 0 = .ok (.aload_n 0, 1) := by decide +kernel
theorem dX7_at_1 : decode cX7_at 1 = .ok (.iload_n 1, 1) := by decide +kernel
theorem dX7_at_2 : decode cX7_at 2 = .ok (.invokevirtual 61, 3) := by decide +kernel
theorem dX7_at_5 : decode cX7_at 5 = .ok (.ifCond .ne 11, 3) := by decide +kernel
theorem dX7_at_8 : decode cX7_at 8 = .ok (.new 58, 3) := by decide +kernel
theorem dX7_at_11 : decode cX7_at 11 = .ok (.dup, 1) := by decide +kernel
theorem dX7_at_12 : decode cX7_at 12 = .ok (.invokespecial 60, 3) := by decide +kernel
theorem dX7_at_15 : decode cX7_at 15 = .ok (.athrow, 1) := by decide +kernel
theorem dX7_at_16 : decode cX7_at 16 = .ok (.aload_n 0, 1) := by decide +kernel
theorem dX7_at_17 : decode cX7_at 17 = .ok (.iload_n 1, 1) := by decide +kernel
theorem dX7_at_18 : decode cX7_at 18 = .ok (.invokevirtual 166, 3) := by decide +kernel
theorem dX7_at_21 : decode cX7_at 21 = .ok (.astore_n 3, 1) := by decide +kernel
theorem dX7_at_22 : decode cX7_at 22 = .ok (.iload_n 2, 1) := by decide +kernel
theorem dX7_at_23 : decode cX7_at 23 = .ok (.ifCond .lt 11, 3) := by decide +kernel
theorem dX7_at_26 : decode cX7_at 26 = .ok (.iload_n 2, 1) := by decide +kernel
theorem dX7_at_27 : decode cX7_at 27 = .ok (.aload_n 3, 1) := by decide +kernel
theorem dX7_at_28 : decode cX7_at 28 = .ok (.getfield 186, 3) := by decide +kernel
theorem dX7_at_31 : decode cX7_at 31 = .ok (.if_icmp .lt 11, 3) := by decide +kernel
theorem dX7_at_34 : decode cX7_at 34 = .ok (.new 69, 3) := by decide +kernel
theorem dX7_at_37 : decode cX7_at 37 = .ok (.dup, 1) := by decide +kernel
theorem dX7_at_38 : decode cX7_at 38 = .ok (.invokespecial 71, 3) := by decide +kernel
theorem dX7_at_41 : decode cX7_at 41 = .ok (.athrow, 1) := by decide +kernel
theorem dX7_at_42 : decode cX7_at 42 = .ok (.aload_n 3, 1) := by decide +kernel
theorem dX7_at_43 : decode cX7_at 43 = .ok (.getfield 189, 3) := by decide +kernel
theorem dX7_at_46 : decode cX7_at 46 = .ok (.iload_n 2, 1) := by decide +kernel
theorem dX7_at_47 : decode cX7_at 47 = .ok (.iaload, 1) := by decide +kernel
theorem dX7_at_48 : decode cX7_at 48 = .ok (.ireturn, 1) := by decide +kernel
theorem dX7_balance_0 : decode cX7_balance 0 = .ok (.aload_n 0, 1) := by decide +kernel
theorem dX7_balance_1 : decode cX7_balance 1 = .ok (.iload_n 1, 1) := by decide +kernel
theorem dX7_balance_2 : decode cX7_balance 2 = .ok (.invokevirtual 61, 3) := by decide +kernel
theorem dX7_balance_5 : decode cX7_balance 5 = .ok (.ifCond .eq 11, 3) := by decide +kernel
theorem dX7_balance_8 : decode cX7_balance 8 = .ok (.aload_n 0, 1) := by decide +kernel
theorem dX7_balance_9 : decode cX7_balance 9 = .ok (.iload_n 2, 1) := by decide +kernel
theorem dX7_balance_10 : decode cX7_balance 10 = .ok (.invokevirtual 61, 3) := by decide +kernel
theorem dX7_balance_13 : decode cX7_balance 13 = .ok (.ifCond .ne 11, 3) := by decide +kernel
theorem dX7_balance_16 : decode cX7_balance 16 = .ok (.new 58, 3) := by decide +kernel
theorem dX7_balance_19 : decode cX7_balance 19 = .ok (.dup, 1) := by decide +kernel
theorem dX7_balance_20 : decode cX7_balance 20 = .ok (.invokespecial 60, 3) := by decide +kernel
theorem dX7_balance_23 : decode cX7_balance 23 = .ok (.athrow, 1) := by decide +kernel
theorem dX7_balance_24 : decode cX7_balance 24 = .ok (.aload_n 0, 1) := by decide +kernel
theorem dX7_balance_25 : decode cX7_balance 25 = .ok (.iload_n 1, 1) := by decide +kernel
theorem dX7_balance_26 : decode cX7_balance 26 = .ok (.invokevirtual 166, 3) := by decide +kernel
theorem dX7_balance_29 : decode cX7_balance 29 = .ok (.getfield 192, 3) := by decide +kernel
theorem dX7_balance_32 : decode cX7_balance 32 = .ok (.iload_n 2, 1) := by decide +kernel
theorem dX7_balance_33 : decode cX7_balance 33 = .ok (.iaload, 1) := by decide +kernel
theorem dX7_balance_34 : decode cX7_balance 34 = .ok (.ireturn, 1) := by decide +kernel
theorem dX7_count_0 : decode cX7_count 0 = .ok (.iload_n 1, 1) := by decide +kernel
theorem dX7_count_1 : decode cX7_count 1 = .ok (.tableswitch 85 0 5 #[39, 44, 52, 60, 68, 77], 39) := by decide +kernel
theorem dX7_count_40 : decode cX7_count 40 = .ok (.aload_n 0, 1) := by decide +kernel
theorem dX7_count_41 : decode cX7_count 41 = .ok (.getfield 195, 3) := by decide +kernel
theorem dX7_count_44 : decode cX7_count 44 = .ok (.ireturn, 1) := by decide +kernel
theorem dX7_count_45 : decode cX7_count 45 = .ok (.aload_n 0, 1) := by decide +kernel
theorem dX7_count_46 : decode cX7_count 46 = .ok (.getfield 19, 3) := by decide +kernel
theorem dX7_count_49 : decode cX7_count 49 = .ok (.getfield 198, 3) := by decide +kernel
theorem dX7_count_52 : decode cX7_count 52 = .ok (.ireturn, 1) := by decide +kernel
theorem dX7_count_53 : decode cX7_count 53 = .ok (.aload_n 0, 1) := by decide +kernel
theorem dX7_count_54 : decode cX7_count 54 = .ok (.getfield 28, 3) := by decide +kernel
theorem dX7_count_57 : decode cX7_count 57 = .ok (.getfield 200, 3) := by decide +kernel
theorem dX7_count_60 : decode cX7_count 60 = .ok (.ireturn, 1) := by decide +kernel
theorem dX7_count_61 : decode cX7_count 61 = .ok (.aload_n 0, 1) := by decide +kernel
theorem dX7_count_62 : decode cX7_count 62 = .ok (.getfield 28, 3) := by decide +kernel
theorem dX7_count_65 : decode cX7_count 65 = .ok (.getfield 203, 3) := by decide +kernel
theorem dX7_count_68 : decode cX7_count 68 = .ok (.ireturn, 1) := by decide +kernel
theorem dX7_count_69 : decode cX7_count 69 = .ok (.aload_n 0, 1) := by decide +kernel
theorem dX7_count_70 : decode cX7_count 70 = .ok (.iconst 0, 1) := by decide +kernel
theorem dX7_count_71 : decode cX7_count 71 = .ok (.invokevirtual 166, 3) := by decide +kernel
theorem dX7_count_74 : decode cX7_count 74 = .ok (.getfield 206, 3) := by decide +kernel
theorem dX7_count_77 : decode cX7_count 77 = .ok (.ireturn, 1) := by decide +kernel
theorem dX7_count_78 : decode cX7_count 78 = .ok (.aload_n 0, 1) := by decide +kernel
theorem dX7_count_79 : decode cX7_count 79 = .ok (.getfield 10, 3) := by decide +kernel
theorem dX7_count_82 : decode cX7_count 82 = .ok (.invokevirtual 209, 3) := by decide +kernel
theorem dX7_count_85 : decode cX7_count 85 = .ok (.ireturn, 1) := by decide +kernel
theorem dX7_count_86 : decode cX7_count 86 = .ok (.new 58, 3) := by decide +kernel
theorem dX7_count_89 : decode cX7_count 89 = .ok (.dup, 1) := by decide +kernel
theorem dX7_count_90 : decode cX7_count 90 = .ok (.invokespecial 60, 3) := by decide +kernel
theorem dX7_count_93 : decode cX7_count 93 = .ok (.athrow, 1) := by decide +kernel
theorem dX7_startAnew_0 : decode cX7_startAnew 0 = .ok (.aload_n 0, 1) := by decide +kernel
theorem dX7_startAnew_1 : decode cX7_startAnew 1 = .ok (.iload_n 1, 1) := by decide +kernel
theorem dX7_startAnew_2 : decode cX7_startAnew 2 = .ok (.putfield 195, 3) := by decide +kernel
theorem dX7_startAnew_5 : decode cX7_startAnew 5 = .ok (.aload_n 0, 1) := by decide +kernel
theorem dX7_startAnew_6 : decode cX7_startAnew 6 = .ok (.getfield 10, 3) := by decide +kernel
theorem dX7_startAnew_9 : decode cX7_startAnew 9 = .ok (.invokevirtual 213, 3) := by decide +kernel
theorem dX7_startAnew_12 : decode cX7_startAnew 12 = .ok (.aload_n 0, 1) := by decide +kernel
theorem dX7_startAnew_13 : decode cX7_startAnew 13 = .ok (.getfield 19, 3) := by decide +kernel
theorem dX7_startAnew_16 : decode cX7_startAnew 16 = .ok (.invokevirtual 216, 3) := by decide +kernel
theorem dX7_startAnew_19 : decode cX7_startAnew 19 = .ok (.aload_n 0, 1) := by decide +kernel
theorem dX7_startAnew_20 : decode cX7_startAnew 20 = .ok (.getfield 28, 3) := by decide +kernel
theorem dX7_startAnew_23 : decode cX7_startAnew 23 = .ok (.iload_n 1, 1) := by decide +kernel
theorem dX7_startAnew_24 : decode cX7_startAnew 24 = .ok (.invokevirtual 217, 3) := by decide +kernel
theorem dX7_startAnew_27 : decode cX7_startAnew 27 = .ok (.aload_n 0, 1) := by decide +kernel
theorem dX7_startAnew_28 : decode cX7_startAnew 28 = .ok (.getfield 37, 3) := by decide +kernel
theorem dX7_startAnew_31 : decode cX7_startAnew 31 = .ok (.iload_n 1, 1) := by decide +kernel
theorem dX7_startAnew_32 : decode cX7_startAnew 32 = .ok (.invokevirtual 219, 3) := by decide +kernel
theorem dX7_startAnew_35 : decode cX7_startAnew 35 = .ok (.iconst 0, 1) := by decide +kernel
theorem dX7_startAnew_36 : decode cX7_startAnew 36 = .ok (.istore_n 2, 1) := by decide +kernel
theorem dX7_startAnew_37 : decode cX7_startAnew 37 = .ok (.iload_n 2, 1) := by decide +kernel
theorem dX7_startAnew_38 : decode cX7_startAnew 38 = .ok (.iload_n 1, 1) := by decide +kernel
theorem dX7_startAnew_39 : decode cX7_startAnew 39 = .ok (.if_icmp .ge 35, 3) := by decide +kernel
theorem dX7_startAnew_42 : decode cX7_startAnew 42 = .ok (.aload_n 0, 1) := by decide +kernel
theorem dX7_startAnew_43 : decode cX7_startAnew 43 = .ok (.getfield 47, 3) := by decide +kernel
theorem dX7_startAnew_46 : decode cX7_startAnew 46 = .ok (.iload_n 2, 1) := by decide +kernel
theorem dX7_startAnew_47 : decode cX7_startAnew 47 = .ok (.aload_n 0, 1) := by decide +kernel
theorem dX7_startAnew_48 : decode cX7_startAnew 48 = .ok (.iload_n 2, 1) := by decide +kernel
theorem dX7_startAnew_49 : decode cX7_startAnew 49 = .ok (.iconst (-1), 1) := by decide +kernel
theorem dX7_startAnew_50 : decode cX7_startAnew 50 = .ok (.iconst (-1), 1) := by decide +kernel
theorem dX7_startAnew_51 : decode cX7_startAnew 51 = .ok (.lconst 0, 1) := by decide +kernel
theorem dX7_startAnew_52 : decode cX7_startAnew 52 = .ok (.iconst 0, 1) := by decide +kernel
theorem dX7_startAnew_53 : decode cX7_startAnew 53 = .ok (.invokevirtual 97, 3) := by decide +kernel
theorem dX7_startAnew_56 : decode cX7_startAnew 56 = .ok (.iastore, 1) := by decide +kernel
theorem dX7_startAnew_57 : decode cX7_startAnew 57 = .ok (.aload_n 0, 1) := by decide +kernel
theorem dX7_startAnew_58 : decode cX7_startAnew 58 = .ok (.aload_n 0, 1) := by decide +kernel
theorem dX7_startAnew_59 : decode cX7_startAnew 59 = .ok (.getfield 47, 3) := by decide +kernel
theorem dX7_startAnew_62 : decode cX7_startAnew 62 = .ok (.iload_n 2, 1) := by decide +kernel
theorem dX7_startAnew_63 : decode cX7_startAnew 63 = .ok (.iaload, 1) := by decide +kernel
theorem dX7_startAnew_64 : decode cX7_startAnew 64 = .ok (.iload_n 2, 1) := by decide +kernel
theorem dX7_startAnew_65 : decode cX7_startAnew 65 = .ok (.invokevirtual 101, 3) := by decide +kernel
theorem dX7_startAnew_68 : decode cX7_startAnew 68 = .ok (.iinc 2 1, 3) := by decide +kernel
theorem dX7_startAnew_71 : decode cX7_startAnew 71 = .ok (.goto (-34), 3) := by decide +kernel
theorem dX7_startAnew_74 : decode cX7_startAnew 74 = .ok (.return_, 1) := by decide +kernel
theorem dX7_makeEvent_0 : decode cX7_makeEvent 0 = .ok (.aload_n 0, 1) := by decide +kernel
theorem dX7_makeEvent_1 : decode cX7_makeEvent 1 = .ok (.getfield 19, 3) := by decide +kernel
theorem dX7_makeEvent_4 : decode cX7_makeEvent 4 = .ok (.iload_n 1, 1) := by decide +kernel
theorem dX7_makeEvent_5 : decode cX7_makeEvent 5 = .ok (.iload_n 2, 1) := by decide +kernel
theorem dX7_makeEvent_6 : decode cX7_makeEvent 6 = .ok (.iload_n 3, 1) := by decide +kernel
theorem dX7_makeEvent_7 : decode cX7_makeEvent 7 = .ok (.lload 4, 2) := by decide +kernel
theorem dX7_makeEvent_9 : decode cX7_makeEvent 9 = .ok (.invokevirtual 220, 3) := by decide +kernel
theorem dX7_makeEvent_12 : decode cX7_makeEvent 12 = .ok (.istore 7, 2) := by decide +kernel
theorem dX7_makeEvent_14 : decode cX7_makeEvent 14 = .ok (.iconst 0, 1) := by decide +kernel
theorem dX7_makeEvent_15 : decode cX7_makeEvent 15 = .ok (.istore 8, 2) := by decide +kernel
theorem dX7_makeEvent_17 : decode cX7_makeEvent 17 = .ok (.iload 8, 2) := by decide +kernel
theorem dX7_makeEvent_19 : decode cX7_makeEvent 19 = .ok (.iload 6, 2) := by decide +kernel
theorem dX7_makeEvent_21 : decode cX7_makeEvent 21 = .ok (.if_icmp .ge 42, 3) := by decide +kernel
theorem dX7_makeEvent_24 : decode cX7_makeEvent 24 = .ok (.aload_n 0, 1) := by decide +kernel
theorem dX7_makeEvent_25 : decode cX7_makeEvent 25 = .ok (.getfield 19, 3) := by decide +kernel
theorem dX7_makeEvent_28 : decode cX7_makeEvent 28 = .ok (.iload 7, 2) := by decide +kernel
theorem dX7_makeEvent_30 : decode cX7_makeEvent 30 = .ok (.aload_n 0, 1) := by decide +kernel
theorem dX7_makeEvent_31 : decode cX7_makeEvent 31 = .ok (.getfield 10, 3) := by decide +kernel
theorem dX7_makeEvent_34 : decode cX7_makeEvent 34 = .ok (.iload_n 1, 1) := by decide +kernel
theorem dX7_makeEvent_35 : decode cX7_makeEvent 35 = .ok (.invokevirtual 224, 3) := by decide +kernel
theorem dX7_makeEvent_38 : decode cX7_makeEvent 38 = .ok (.aload_n 0, 1) := by decide +kernel
theorem dX7_makeEvent_39 : decode cX7_makeEvent 39 = .ok (.getfield 10, 3) := by decide +kernel
theorem dX7_makeEvent_42 : decode cX7_makeEvent 42 = .ok (.iload_n 1, 1) := by decide +kernel
theorem dX7_makeEvent_43 : decode cX7_makeEvent 43 = .ok (.invokevirtual 227, 3) := by decide +kernel
theorem dX7_makeEvent_46 : decode cX7_makeEvent 46 = .ok (.invokevirtual 230, 3) := by decide +kernel
theorem dX7_makeEvent_49 : decode cX7_makeEvent 49 = .ok (.aload_n 0, 1) := by decide +kernel
theorem dX7_makeEvent_50 : decode cX7_makeEvent 50 = .ok (.getfield 10, 3) := by decide +kernel
theorem dX7_makeEvent_53 : decode cX7_makeEvent 53 = .ok (.iload_n 1, 1) := by decide +kernel
theorem dX7_makeEvent_54 : decode cX7_makeEvent 54 = .ok (.invokevirtual 233, 3) := by decide +kernel
theorem dX7_makeEvent_57 : decode cX7_makeEvent 57 = .ok (.iinc 8 1, 3) := by decide +kernel
theorem dX7_makeEvent_60 : decode cX7_makeEvent 60 = .ok (.goto (-43), 3) := by decide +kernel
theorem dX7_makeEvent_63 : decode cX7_makeEvent 63 = .ok (.aload_n 0, 1) := by decide +kernel
theorem dX7_makeEvent_64 : decode cX7_makeEvent 64 = .ok (.getfield 19, 3) := by decide +kernel
theorem dX7_makeEvent_67 : decode cX7_makeEvent 67 = .ok (.iload 7, 2) := by decide +kernel
theorem dX7_makeEvent_69 : decode cX7_makeEvent 69 = .ok (.invokevirtual 236, 3) := by decide +kernel
theorem dX7_makeEvent_72 : decode cX7_makeEvent 72 = .ok (.aload_n 0, 1) := by decide +kernel
theorem dX7_makeEvent_73 : decode cX7_makeEvent 73 = .ok (.getfield 28, 3) := by decide +kernel
theorem dX7_makeEvent_76 : decode cX7_makeEvent 76 = .ok (.iload 7, 2) := by decide +kernel
theorem dX7_makeEvent_78 : decode cX7_makeEvent 78 = .ok (.invokevirtual 239, 3) := by decide +kernel
theorem dX7_makeEvent_81 : decode cX7_makeEvent 81 = .ok (.aload_n 0, 1) := by decide +kernel
theorem dX7_makeEvent_82 : decode cX7_makeEvent 82 = .ok (.getfield 37, 3) := by decide +kernel
theorem dX7_makeEvent_85 : decode cX7_makeEvent 85 = .ok (.iload 7, 2) := by decide +kernel
theorem dX7_makeEvent_87 : decode cX7_makeEvent 87 = .ok (.invokevirtual 242, 3) := by decide +kernel
theorem dX7_makeEvent_90 : decode cX7_makeEvent 90 = .ok (.iload 7, 2) := by decide +kernel
theorem dX7_makeEvent_92 : decode cX7_makeEvent 92 = .ok (.ireturn, 1) := by decide +kernel
theorem dX7_give_0 : decode cX7_give 0 = .ok (.aload_n 0, 1) := by decide +kernel
theorem dX7_give_1 : decode cX7_give 1 = .ok (.getfield 19, 3) := by decide +kernel
theorem dX7_give_4 : decode cX7_give 4 = .ok (.getfield 82, 3) := by decide +kernel
theorem dX7_give_7 : decode cX7_give 7 = .ok (.iload_n 2, 1) := by decide +kernel
theorem dX7_give_8 : decode cX7_give 8 = .ok (.iload_n 1, 1) := by decide +kernel
theorem dX7_give_9 : decode cX7_give 9 = .ok (.invokevirtual 243, 3) := by decide +kernel
theorem dX7_give_12 : decode cX7_give 12 = .ok (.aload_n 0, 1) := by decide +kernel
theorem dX7_give_13 : decode cX7_give 13 = .ok (.getfield 43, 3) := by decide +kernel
theorem dX7_give_16 : decode cX7_give 16 = .ok (.iload_n 2, 1) := by decide +kernel
theorem dX7_give_17 : decode cX7_give 17 = .ok (.aaload, 1) := by decide +kernel
theorem dX7_give_18 : decode cX7_give 18 = .ok (.iconst 1, 1) := by decide +kernel
theorem dX7_give_19 : decode cX7_give 19 = .ok (.putfield 246, 3) := by decide +kernel
theorem dX7_give_22 : decode cX7_give 22 = .ok (.return_, 1) := by decide +kernel
theorem dX7_freshView_0 : decode cX7_freshView 0 = .ok (.aload_n 0, 1) := by decide +kernel
theorem dX7_freshView_1 : decode cX7_freshView 1 = .ok (.getfield 43, 3) := by decide +kernel
theorem dX7_freshView_4 : decode cX7_freshView 4 = .ok (.iload_n 1, 1) := by decide +kernel
theorem dX7_freshView_5 : decode cX7_freshView 5 = .ok (.aaload, 1) := by decide +kernel
theorem dX7_freshView_6 : decode cX7_freshView 6 = .ok (.astore_n 2, 1) := by decide +kernel
theorem dX7_freshView_7 : decode cX7_freshView 7 = .ok (.aload_n 2, 1) := by decide +kernel
theorem dX7_freshView_8 : decode cX7_freshView 8 = .ok (.getfield 246, 3) := by decide +kernel
theorem dX7_freshView_11 : decode cX7_freshView 11 = .ok (.ifCond .eq 11, 3) := by decide +kernel
theorem dX7_freshView_14 : decode cX7_freshView 14 = .ok (.aload_n 2, 1) := by decide +kernel
theorem dX7_freshView_15 : decode cX7_freshView 15 = .ok (.aload_n 0, 1) := by decide +kernel
theorem dX7_freshView_16 : decode cX7_freshView 16 = .ok (.getfield 195, 3) := by decide +kernel
theorem dX7_freshView_19 : decode cX7_freshView 19 = .ok (.invokevirtual 250, 3) := by decide +kernel
theorem dX7_freshView_22 : decode cX7_freshView 22 = .ok (.aload_n 2, 1) := by decide +kernel
theorem dX7_freshView_23 : decode cX7_freshView 23 = .ok (.areturn, 1) := by decide +kernel
theorem dX7_isNode_0 : decode cX7_isNode 0 = .ok (.iload_n 1, 1) := by decide +kernel
theorem dX7_isNode_1 : decode cX7_isNode 1 = .ok (.ifCond .lt 15, 3) := by decide +kernel
theorem dX7_isNode_4 : decode cX7_isNode 4 = .ok (.iload_n 1, 1) := by decide +kernel
theorem dX7_isNode_5 : decode cX7_isNode 5 = .ok (.aload_n 0, 1) := by decide +kernel
theorem dX7_isNode_6 : decode cX7_isNode 6 = .ok (.getfield 195, 3) := by decide +kernel
theorem dX7_isNode_9 : decode cX7_isNode 9 = .ok (.if_icmp .ge 7, 3) := by decide +kernel
theorem dX7_isNode_12 : decode cX7_isNode 12 = .ok (.iconst 1, 1) := by decide +kernel
theorem dX7_isNode_13 : decode cX7_isNode 13 = .ok (.goto 4, 3) := by decide +kernel
theorem dX7_isNode_16 : decode cX7_isNode 16 = .ok (.iconst 0, 1) := by decide +kernel
theorem dX7_isNode_17 : decode cX7_isNode 17 = .ok (.ireturn, 1) := by decide +kernel
theorem dX7_isEvent_0 : decode cX7_isEvent 0 = .ok (.iload_n 1, 1) := by decide +kernel
theorem dX7_isEvent_1 : decode cX7_isEvent 1 = .ok (.ifCond .lt 18, 3) := by decide +kernel
theorem dX7_isEvent_4 : decode cX7_isEvent 4 = .ok (.iload_n 1, 1) := by decide +kernel
theorem dX7_isEvent_5 : decode cX7_isEvent 5 = .ok (.aload_n 0, 1) := by decide +kernel
theorem dX7_isEvent_6 : decode cX7_isEvent 6 = .ok (.getfield 19, 3) := by decide +kernel
theorem dX7_isEvent_9 : decode cX7_isEvent 9 = .ok (.getfield 198, 3) := by decide +kernel
theorem dX7_isEvent_12 : decode cX7_isEvent 12 = .ok (.if_icmp .ge 7, 3) := by decide +kernel
theorem dX7_isEvent_15 : decode cX7_isEvent 15 = .ok (.iconst 1, 1) := by decide +kernel
theorem dX7_isEvent_16 : decode cX7_isEvent 16 = .ok (.goto 4, 3) := by decide +kernel
theorem dX7_isEvent_19 : decode cX7_isEvent 19 = .ok (.iconst 0, 1) := by decide +kernel
theorem dX7_isEvent_20 : decode cX7_isEvent 20 = .ok (.ireturn, 1) := by decide +kernel
theorem dX7_isHeld_0 : decode cX7_isHeld 0 = .ok (.aload_n 0, 1) := by decide +kernel
theorem dX7_isHeld_1 : decode cX7_isHeld 1 = .ok (.iload_n 2, 1) := by decide +kernel
theorem dX7_isHeld_2 : decode cX7_isHeld 2 = .ok (.invokevirtual 119, 3) := by decide +kernel
theorem dX7_isHeld_5 : decode cX7_isHeld 5 = .ok (.ifCond .eq 22, 3) := by decide +kernel
theorem dX7_isHeld_8 : decode cX7_isHeld 8 = .ok (.aload_n 0, 1) := by decide +kernel
theorem dX7_isHeld_9 : decode cX7_isHeld 9 = .ok (.getfield 19, 3) := by decide +kernel
theorem dX7_isHeld_12 : decode cX7_isHeld 12 = .ok (.getfield 82, 3) := by decide +kernel
theorem dX7_isHeld_15 : decode cX7_isHeld 15 = .ok (.iload_n 1, 1) := by decide +kernel
theorem dX7_isHeld_16 : decode cX7_isHeld 16 = .ok (.iload_n 2, 1) := by decide +kernel
theorem dX7_isHeld_17 : decode cX7_isHeld 17 = .ok (.invokevirtual 154, 3) := by decide +kernel
theorem dX7_isHeld_20 : decode cX7_isHeld 20 = .ok (.ifCond .eq 7, 3) := by decide +kernel
theorem dX7_isHeld_23 : decode cX7_isHeld 23 = .ok (.iconst 1, 1) := by decide +kernel
theorem dX7_isHeld_24 : decode cX7_isHeld 24 = .ok (.goto 4, 3) := by decide +kernel
theorem dX7_isHeld_27 : decode cX7_isHeld 27 = .ok (.iconst 0, 1) := by decide +kernel
theorem dX7_isHeld_28 : decode cX7_isHeld 28 = .ok (.ireturn, 1) := by decide +kernel
theorem dX7_isMost_0 : decode cX7_isMost 0 = .ok (.iconst 3, 1) := by decide +kernel
theorem dX7_isMost_1 : decode cX7_isMost 1 = .ok (.iload_n 0, 1) := by decide +kernel
theorem dX7_isMost_2 : decode cX7_isMost 2 = .ok (.imul, 1) := by decide +kernel
theorem dX7_isMost_3 : decode cX7_isMost 3 = .ok (.iconst 2, 1) := by decide +kernel
theorem dX7_isMost_4 : decode cX7_isMost 4 = .ok (.iload_n 1, 1) := by decide +kernel
theorem dX7_isMost_5 : decode cX7_isMost 5 = .ok (.imul, 1) := by decide +kernel
theorem dX7_isMost_6 : decode cX7_isMost 6 = .ok (.if_icmp .le 7, 3) := by decide +kernel
theorem dX7_isMost_9 : decode cX7_isMost 9 = .ok (.iconst 1, 1) := by decide +kernel
theorem dX7_isMost_10 : decode cX7_isMost 10 = .ok (.goto 4, 3) := by decide +kernel
theorem dX7_isMost_13 : decode cX7_isMost 13 = .ok (.iconst 0, 1) := by decide +kernel
theorem dX7_isMost_14 : decode cX7_isMost 14 = .ok (.ireturn, 1) := by decide +kernel
