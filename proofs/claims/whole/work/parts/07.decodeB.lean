theorem d_Mo_readsLetter_0 : decode prog_10_method_53_code 0 = .ok (.aload_n 0, 1) := by decide +kernel
theorem d_Mo_readsLetter_1 : decode prog_10_method_53_code 1 = .ok (.bipush 97, 2) := by decide +kernel
theorem d_Mo_readsLetter_3 : decode prog_10_method_53_code 3 = .ok (.bipush 104, 2) := by decide +kernel
theorem d_Mo_readsLetter_5 : decode prog_10_method_53_code 5 = .ok (.invokevirtual 149, 3) := by decide +kernel
theorem d_Mo_readsLetter_8 : decode prog_10_method_53_code 8 = .ok (.ifCond .ne 9, 3) := by decide +kernel
theorem d_Mo_readsLetter_11 : decode prog_10_method_53_code 11 = .ok (.aload_n 0, 1) := by decide +kernel
theorem d_Mo_readsLetter_12 : decode prog_10_method_53_code 12 = .ok (.iconst 1, 1) := by decide +kernel
theorem d_Mo_readsLetter_13 : decode prog_10_method_53_code 13 = .ok (.invokevirtual 162, 3) := by decide +kernel
theorem d_Mo_readsLetter_16 : decode prog_10_method_53_code 16 = .ok (.ireturn, 1) := by decide +kernel
theorem d_Mo_readsLetter_17 : decode prog_10_method_53_code 17 = .ok (.aload_n 0, 1) := by decide +kernel
theorem d_Mo_readsLetter_18 : decode prog_10_method_53_code 18 = .ok (.getfield 155, 3) := by decide +kernel
theorem d_Mo_readsLetter_21 : decode prog_10_method_53_code 21 = .ok (.bipush 60, 2) := by decide +kernel
theorem d_Mo_readsLetter_23 : decode prog_10_method_53_code 23 = .ok (.if_icmp .ne 9, 3) := by decide +kernel
theorem d_Mo_readsLetter_26 : decode prog_10_method_53_code 26 = .ok (.aload_n 0, 1) := by decide +kernel
theorem d_Mo_readsLetter_27 : decode prog_10_method_53_code 27 = .ok (.iconst 4, 1) := by decide +kernel
theorem d_Mo_readsLetter_28 : decode prog_10_method_53_code 28 = .ok (.invokevirtual 162, 3) := by decide +kernel
theorem d_Mo_readsLetter_31 : decode prog_10_method_53_code 31 = .ok (.ireturn, 1) := by decide +kernel
theorem d_Mo_readsLetter_32 : decode prog_10_method_53_code 32 = .ok (.aload_n 0, 1) := by decide +kernel
theorem d_Mo_readsLetter_33 : decode prog_10_method_53_code 33 = .ok (.getfield 46, 3) := by decide +kernel
theorem d_Mo_readsLetter_36 : decode prog_10_method_53_code 36 = .ok (.aload_n 0, 1) := by decide +kernel
theorem d_Mo_readsLetter_37 : decode prog_10_method_53_code 37 = .ok (.getfield 155, 3) := by decide +kernel
theorem d_Mo_readsLetter_40 : decode prog_10_method_53_code 40 = .ok (.aload_n 0, 1) := by decide +kernel
theorem d_Mo_readsLetter_41 : decode prog_10_method_53_code 41 = .ok (.getfield 19, 3) := by decide +kernel
theorem d_Mo_readsLetter_44 : decode prog_10_method_53_code 44 = .ok (.aload_n 0, 1) := by decide +kernel
theorem d_Mo_readsLetter_45 : decode prog_10_method_53_code 45 = .ok (.getfield 143, 3) := by decide +kernel
theorem d_Mo_readsLetter_48 : decode prog_10_method_53_code 48 = .ok (.iaload, 1) := by decide +kernel
theorem d_Mo_readsLetter_49 : decode prog_10_method_53_code 49 = .ok (.bipush 97, 2) := by decide +kernel
theorem d_Mo_readsLetter_51 : decode prog_10_method_53_code 51 = .ok (.isub, 1) := by decide +kernel
theorem d_Mo_readsLetter_52 : decode prog_10_method_53_code 52 = .ok (.iastore, 1) := by decide +kernel
theorem d_Mo_readsLetter_53 : decode prog_10_method_53_code 53 = .ok (.aload_n 0, 1) := by decide +kernel
theorem d_Mo_readsLetter_54 : decode prog_10_method_53_code 54 = .ok (.dup, 1) := by decide +kernel
theorem d_Mo_readsLetter_55 : decode prog_10_method_53_code 55 = .ok (.getfield 155, 3) := by decide +kernel
theorem d_Mo_readsLetter_58 : decode prog_10_method_53_code 58 = .ok (.iconst 1, 1) := by decide +kernel
theorem d_Mo_readsLetter_59 : decode prog_10_method_53_code 59 = .ok (.iadd, 1) := by decide +kernel
theorem d_Mo_readsLetter_60 : decode prog_10_method_53_code 60 = .ok (.putfield 155, 3) := by decide +kernel
theorem d_Mo_readsLetter_63 : decode prog_10_method_53_code 63 = .ok (.aload_n 0, 1) := by decide +kernel
theorem d_Mo_readsLetter_64 : decode prog_10_method_53_code 64 = .ok (.dup, 1) := by decide +kernel
theorem d_Mo_readsLetter_65 : decode prog_10_method_53_code 65 = .ok (.getfield 143, 3) := by decide +kernel
theorem d_Mo_readsLetter_68 : decode prog_10_method_53_code 68 = .ok (.iconst 1, 1) := by decide +kernel
theorem d_Mo_readsLetter_69 : decode prog_10_method_53_code 69 = .ok (.iadd, 1) := by decide +kernel
theorem d_Mo_readsLetter_70 : decode prog_10_method_53_code 70 = .ok (.putfield 143, 3) := by decide +kernel
theorem d_Mo_readsLetter_73 : decode prog_10_method_53_code 73 = .ok (.iconst 1, 1) := by decide +kernel
theorem d_Mo_readsLetter_74 : decode prog_10_method_53_code 74 = .ok (.ireturn, 1) := by decide +kernel
theorem d_Mo_isRight_0 : decode prog_10_method_54_code 0 = .ok (.aload_n 0, 1) := by decide +kernel
theorem d_Mo_isRight_1 : decode prog_10_method_54_code 1 = .ok (.iconst 0, 1) := by decide +kernel
theorem d_Mo_isRight_2 : decode prog_10_method_54_code 2 = .ok (.putfield 143, 3) := by decide +kernel
theorem d_Mo_isRight_5 : decode prog_10_method_54_code 5 = .ok (.aload_n 0, 1) := by decide +kernel
theorem d_Mo_isRight_6 : decode prog_10_method_54_code 6 = .ok (.iconst 0, 1) := by decide +kernel
theorem d_Mo_isRight_7 : decode prog_10_method_54_code 7 = .ok (.putfield 155, 3) := by decide +kernel
theorem d_Mo_isRight_10 : decode prog_10_method_54_code 10 = .ok (.iconst 1, 1) := by decide +kernel
theorem d_Mo_isRight_11 : decode prog_10_method_54_code 11 = .ok (.istore_n 1, 1) := by decide +kernel
theorem d_Mo_isRight_12 : decode prog_10_method_54_code 12 = .ok (.iload_n 1, 1) := by decide +kernel
theorem d_Mo_isRight_13 : decode prog_10_method_54_code 13 = .ok (.ifCond .eq 40, 3) := by decide +kernel
theorem d_Mo_isRight_16 : decode prog_10_method_54_code 16 = .ok (.aload_n 0, 1) := by decide +kernel
theorem d_Mo_isRight_17 : decode prog_10_method_54_code 17 = .ok (.getfield 143, 3) := by decide +kernel
theorem d_Mo_isRight_20 : decode prog_10_method_54_code 20 = .ok (.aload_n 0, 1) := by decide +kernel
theorem d_Mo_isRight_21 : decode prog_10_method_54_code 21 = .ok (.getfield 123, 3) := by decide +kernel
theorem d_Mo_isRight_24 : decode prog_10_method_54_code 24 = .ok (.if_icmp .ge 29, 3) := by decide +kernel
theorem d_Mo_isRight_27 : decode prog_10_method_54_code 27 = .ok (.aload_n 0, 1) := by decide +kernel
theorem d_Mo_isRight_28 : decode prog_10_method_54_code 28 = .ok (.bipush 40, 2) := by decide +kernel
theorem d_Mo_isRight_30 : decode prog_10_method_54_code 30 = .ok (.bipush 40, 2) := by decide +kernel
theorem d_Mo_isRight_32 : decode prog_10_method_54_code 32 = .ok (.invokevirtual 149, 3) := by decide +kernel
theorem d_Mo_isRight_35 : decode prog_10_method_54_code 35 = .ok (.ifCond .eq 10, 3) := by decide +kernel
theorem d_Mo_isRight_38 : decode prog_10_method_54_code 38 = .ok (.aload_n 0, 1) := by decide +kernel
theorem d_Mo_isRight_39 : decode prog_10_method_54_code 39 = .ok (.invokevirtual 171, 3) := by decide +kernel
theorem d_Mo_isRight_42 : decode prog_10_method_54_code 42 = .ok (.goto 7, 3) := by decide +kernel
theorem d_Mo_isRight_45 : decode prog_10_method_54_code 45 = .ok (.aload_n 0, 1) := by decide +kernel
theorem d_Mo_isRight_46 : decode prog_10_method_54_code 46 = .ok (.invokevirtual 174, 3) := by decide +kernel
theorem d_Mo_isRight_49 : decode prog_10_method_54_code 49 = .ok (.istore_n 1, 1) := by decide +kernel
theorem d_Mo_isRight_50 : decode prog_10_method_54_code 50 = .ok (.goto (-38), 3) := by decide +kernel
theorem d_Mo_isRight_53 : decode prog_10_method_54_code 53 = .ok (.iload_n 1, 1) := by decide +kernel
theorem d_Mo_isRight_54 : decode prog_10_method_54_code 54 = .ok (.ireturn, 1) := by decide +kernel
theorem d_Mo_fault_0 : decode prog_10_method_55_code 0 = .ok (.iload_n 1, 1) := by decide +kernel
theorem d_Mo_fault_1 : decode prog_10_method_55_code 1 = .ok (.iconst 0, 1) := by decide +kernel
theorem d_Mo_fault_2 : decode prog_10_method_55_code 2 = .ok (.iconst 1, 1) := by decide +kernel
theorem d_Mo_fault_3 : decode prog_10_method_55_code 3 = .ok (.invokestatic 53, 3) := by decide +kernel
theorem d_Mo_fault_6 : decode prog_10_method_55_code 6 = .ok (.ifCond .ne 7, 3) := by decide +kernel
theorem d_Mo_fault_9 : decode prog_10_method_55_code 9 = .ok (.sipush (-10001), 3) := by decide +kernel
theorem d_Mo_fault_12 : decode prog_10_method_55_code 12 = .ok (.ireturn, 1) := by decide +kernel
theorem d_Mo_fault_13 : decode prog_10_method_55_code 13 = .ok (.aload_n 0, 1) := by decide +kernel
theorem d_Mo_fault_14 : decode prog_10_method_55_code 14 = .ok (.invokevirtual 177, 3) := by decide +kernel
theorem d_Mo_fault_17 : decode prog_10_method_55_code 17 = .ok (.ifCond .eq 9, 3) := by decide +kernel
theorem d_Mo_fault_20 : decode prog_10_method_55_code 20 = .ok (.sipush (-10004), 3) := by decide +kernel
theorem d_Mo_fault_23 : decode prog_10_method_55_code 23 = .ok (.goto 18, 3) := by decide +kernel
theorem d_Mo_fault_26 : decode prog_10_method_55_code 26 = .ok (.iload_n 1, 1) := by decide +kernel
theorem d_Mo_fault_27 : decode prog_10_method_55_code 27 = .ok (.ifCond .ne 10, 3) := by decide +kernel
theorem d_Mo_fault_30 : decode prog_10_method_55_code 30 = .ok (.aload_n 0, 1) := by decide +kernel
theorem d_Mo_fault_31 : decode prog_10_method_55_code 31 = .ok (.getfield 143, 3) := by decide +kernel
theorem d_Mo_fault_34 : decode prog_10_method_55_code 34 = .ok (.goto 7, 3) := by decide +kernel
theorem d_Mo_fault_37 : decode prog_10_method_55_code 37 = .ok (.aload_n 0, 1) := by decide +kernel
theorem d_Mo_fault_38 : decode prog_10_method_55_code 38 = .ok (.getfield 146, 3) := by decide +kernel
theorem d_Mo_fault_41 : decode prog_10_method_55_code 41 = .ok (.ireturn, 1) := by decide +kernel
theorem d_Mo_read_0 : decode prog_10_method_56_code 0 = .ok (.aload_n 0, 1) := by decide +kernel
theorem d_Mo_read_1 : decode prog_10_method_56_code 1 = .ok (.invokevirtual 177, 3) := by decide +kernel
theorem d_Mo_read_4 : decode prog_10_method_56_code 4 = .ok (.ifCond .ne 7, 3) := by decide +kernel
theorem d_Mo_read_7 : decode prog_10_method_56_code 7 = .ok (.sipush (-10002), 3) := by decide +kernel
theorem d_Mo_read_10 : decode prog_10_method_56_code 10 = .ok (.ireturn, 1) := by decide +kernel
theorem d_Mo_read_11 : decode prog_10_method_56_code 11 = .ok (.aload_n 0, 1) := by decide +kernel
theorem d_Mo_read_12 : decode prog_10_method_56_code 12 = .ok (.invokevirtual 57, 3) := by decide +kernel
theorem d_Mo_read_15 : decode prog_10_method_56_code 15 = .ok (.aload_n 0, 1) := by decide +kernel
theorem d_Mo_read_16 : decode prog_10_method_56_code 16 = .ok (.getfield 7, 3) := by decide +kernel
theorem d_Mo_read_19 : decode prog_10_method_56_code 19 = .ok (.iconst 0, 1) := by decide +kernel
theorem d_Mo_read_20 : decode prog_10_method_56_code 20 = .ok (.aload_n 0, 1) := by decide +kernel
theorem d_Mo_read_21 : decode prog_10_method_56_code 21 = .ok (.getfield 155, 3) := by decide +kernel
theorem d_Mo_read_24 : decode prog_10_method_56_code 24 = .ok (.iastore, 1) := by decide +kernel
theorem d_Mo_read_25 : decode prog_10_method_56_code 25 = .ok (.iconst 0, 1) := by decide +kernel
theorem d_Mo_read_26 : decode prog_10_method_56_code 26 = .ok (.istore_n 1, 1) := by decide +kernel
theorem d_Mo_read_27 : decode prog_10_method_56_code 27 = .ok (.iload_n 1, 1) := by decide +kernel
theorem d_Mo_read_28 : decode prog_10_method_56_code 28 = .ok (.aload_n 0, 1) := by decide +kernel
theorem d_Mo_read_29 : decode prog_10_method_56_code 29 = .ok (.getfield 155, 3) := by decide +kernel
theorem d_Mo_read_32 : decode prog_10_method_56_code 32 = .ok (.if_icmp .ge 24, 3) := by decide +kernel
theorem d_Mo_read_35 : decode prog_10_method_56_code 35 = .ok (.aload_n 0, 1) := by decide +kernel
theorem d_Mo_read_36 : decode prog_10_method_56_code 36 = .ok (.getfield 7, 3) := by decide +kernel
theorem d_Mo_read_39 : decode prog_10_method_56_code 39 = .ok (.bipush 6, 2) := by decide +kernel
theorem d_Mo_read_41 : decode prog_10_method_56_code 41 = .ok (.iload_n 1, 1) := by decide +kernel
theorem d_Mo_read_42 : decode prog_10_method_56_code 42 = .ok (.iadd, 1) := by decide +kernel
theorem d_Mo_read_43 : decode prog_10_method_56_code 43 = .ok (.aload_n 0, 1) := by decide +kernel
theorem d_Mo_read_44 : decode prog_10_method_56_code 44 = .ok (.getfield 46, 3) := by decide +kernel
theorem d_Mo_read_47 : decode prog_10_method_56_code 47 = .ok (.iload_n 1, 1) := by decide +kernel
theorem d_Mo_read_48 : decode prog_10_method_56_code 48 = .ok (.iaload, 1) := by decide +kernel
theorem d_Mo_read_49 : decode prog_10_method_56_code 49 = .ok (.iastore, 1) := by decide +kernel
theorem d_Mo_read_50 : decode prog_10_method_56_code 50 = .ok (.iinc 1 1, 3) := by decide +kernel
theorem d_Mo_read_53 : decode prog_10_method_56_code 53 = .ok (.goto (-26), 3) := by decide +kernel
theorem d_Mo_read_56 : decode prog_10_method_56_code 56 = .ok (.aload_n 0, 1) := by decide +kernel
theorem d_Mo_read_57 : decode prog_10_method_56_code 57 = .ok (.getfield 155, 3) := by decide +kernel
theorem d_Mo_read_60 : decode prog_10_method_56_code 60 = .ok (.ireturn, 1) := by decide +kernel
theorem d_Cand_init_0 : decode prog_2_method_1_code 0 = .ok (.aload_n 0, 1) := by decide +kernel
theorem d_Cand_init_1 : decode prog_2_method_1_code 1 = .ok (.invokespecial 3, 3) := by decide +kernel
theorem d_Cand_init_4 : decode prog_2_method_1_code 4 = .ok (.aload_n 0, 1) := by decide +kernel
theorem d_Cand_init_5 : decode prog_2_method_1_code 5 = .ok (.bipush 61, 2) := by decide +kernel
theorem d_Cand_init_7 : decode prog_2_method_1_code 7 = .ok (.newarray .int, 2) := by decide +kernel
theorem d_Cand_init_9 : decode prog_2_method_1_code 9 = .ok (.putfield 9, 3) := by decide +kernel
theorem d_Cand_init_12 : decode prog_2_method_1_code 12 = .ok (.aload_n 0, 1) := by decide +kernel
theorem d_Cand_init_13 : decode prog_2_method_1_code 13 = .ok (.bipush 60, 2) := by decide +kernel
theorem d_Cand_init_15 : decode prog_2_method_1_code 15 = .ok (.newarray .int, 2) := by decide +kernel
theorem d_Cand_init_17 : decode prog_2_method_1_code 17 = .ok (.putfield 15, 3) := by decide +kernel
theorem d_Cand_init_20 : decode prog_2_method_1_code 20 = .ok (.aload_n 0, 1) := by decide +kernel
theorem d_Cand_init_21 : decode prog_2_method_1_code 21 = .ok (.iconst 0, 1) := by decide +kernel
theorem d_Cand_init_22 : decode prog_2_method_1_code 22 = .ok (.putfield 18, 3) := by decide +kernel
theorem d_Cand_init_25 : decode prog_2_method_1_code 25 = .ok (.aload_n 0, 1) := by decide +kernel
theorem d_Cand_init_26 : decode prog_2_method_1_code 26 = .ok (.iconst 0, 1) := by decide +kernel
theorem d_Cand_init_27 : decode prog_2_method_1_code 27 = .ok (.putfield 22, 3) := by decide +kernel
theorem d_Cand_init_30 : decode prog_2_method_1_code 30 = .ok (.aload_n 0, 1) := by decide +kernel
theorem d_Cand_init_31 : decode prog_2_method_1_code 31 = .ok (.iconst 0, 1) := by decide +kernel
theorem d_Cand_init_32 : decode prog_2_method_1_code 32 = .ok (.putfield 25, 3) := by decide +kernel
theorem d_Cand_init_35 : decode prog_2_method_1_code 35 = .ok (.aload_n 0, 1) := by decide +kernel
theorem d_Cand_init_36 : decode prog_2_method_1_code 36 = .ok (.aload_n 1, 1) := by decide +kernel
theorem d_Cand_init_37 : decode prog_2_method_1_code 37 = .ok (.putfield 28, 3) := by decide +kernel
theorem d_Cand_init_40 : decode prog_2_method_1_code 40 = .ok (.return_, 1) := by decide +kernel
theorem d_Cand_beginBehindRow_0 : decode prog_2_method_2_code 0 = .ok (.aload_n 0, 1) := by decide +kernel
theorem d_Cand_beginBehindRow_1 : decode prog_2_method_2_code 1 = .ok (.aload_n 0, 1) := by decide +kernel
theorem d_Cand_beginBehindRow_2 : decode prog_2_method_2_code 2 = .ok (.getfield 28, 3) := by decide +kernel
theorem d_Cand_beginBehindRow_5 : decode prog_2_method_2_code 5 = .ok (.invokevirtual 32, 3) := by decide +kernel
theorem d_Cand_beginBehindRow_8 : decode prog_2_method_2_code 8 = .ok (.putfield 18, 3) := by decide +kernel
theorem d_Cand_beginBehindRow_11 : decode prog_2_method_2_code 11 = .ok (.aload_n 0, 1) := by decide +kernel
theorem d_Cand_beginBehindRow_12 : decode prog_2_method_2_code 12 = .ok (.iconst 0, 1) := by decide +kernel
theorem d_Cand_beginBehindRow_13 : decode prog_2_method_2_code 13 = .ok (.putfield 22, 3) := by decide +kernel
theorem d_Cand_beginBehindRow_16 : decode prog_2_method_2_code 16 = .ok (.aload_n 0, 1) := by decide +kernel
theorem d_Cand_beginBehindRow_17 : decode prog_2_method_2_code 17 = .ok (.iconst 0, 1) := by decide +kernel
theorem d_Cand_beginBehindRow_18 : decode prog_2_method_2_code 18 = .ok (.putfield 25, 3) := by decide +kernel
theorem d_Cand_beginBehindRow_21 : decode prog_2_method_2_code 21 = .ok (.iconst 0, 1) := by decide +kernel
theorem d_Cand_beginBehindRow_22 : decode prog_2_method_2_code 22 = .ok (.istore_n 1, 1) := by decide +kernel
theorem d_Cand_beginBehindRow_23 : decode prog_2_method_2_code 23 = .ok (.iload_n 1, 1) := by decide +kernel
theorem d_Cand_beginBehindRow_24 : decode prog_2_method_2_code 24 = .ok (.aload_n 0, 1) := by decide +kernel
theorem d_Cand_beginBehindRow_25 : decode prog_2_method_2_code 25 = .ok (.getfield 9, 3) := by decide +kernel
theorem d_Cand_beginBehindRow_28 : decode prog_2_method_2_code 28 = .ok (.arraylength, 1) := by decide +kernel
theorem d_Cand_beginBehindRow_29 : decode prog_2_method_2_code 29 = .ok (.if_icmp .ge 18, 3) := by decide +kernel
theorem d_Cand_beginBehindRow_32 : decode prog_2_method_2_code 32 = .ok (.aload_n 0, 1) := by decide +kernel
theorem d_Cand_beginBehindRow_33 : decode prog_2_method_2_code 33 = .ok (.getfield 9, 3) := by decide +kernel
theorem d_Cand_beginBehindRow_36 : decode prog_2_method_2_code 36 = .ok (.iload_n 1, 1) := by decide +kernel
theorem d_Cand_beginBehindRow_37 : decode prog_2_method_2_code 37 = .ok (.iconst 0, 1) := by decide +kernel
theorem d_Cand_beginBehindRow_38 : decode prog_2_method_2_code 38 = .ok (.invokestatic 38, 3) := by decide +kernel
theorem d_Cand_beginBehindRow_41 : decode prog_2_method_2_code 41 = .ok (.iinc 1 1, 3) := by decide +kernel
theorem d_Cand_beginBehindRow_44 : decode prog_2_method_2_code 44 = .ok (.goto (-21), 3) := by decide +kernel
theorem d_Cand_beginBehindRow_47 : decode prog_2_method_2_code 47 = .ok (.return_, 1) := by decide +kernel
theorem d_Cand_stepAhead_0 : decode prog_2_method_3_code 0 = .ok (.aload_n 0, 1) := by decide +kernel
theorem d_Cand_stepAhead_1 : decode prog_2_method_3_code 1 = .ok (.dup, 1) := by decide +kernel
theorem d_Cand_stepAhead_2 : decode prog_2_method_3_code 2 = .ok (.getfield 18, 3) := by decide +kernel
theorem d_Cand_stepAhead_5 : decode prog_2_method_3_code 5 = .ok (.iconst 1, 1) := by decide +kernel
theorem d_Cand_stepAhead_6 : decode prog_2_method_3_code 6 = .ok (.isub, 1) := by decide +kernel
theorem d_Cand_stepAhead_7 : decode prog_2_method_3_code 7 = .ok (.putfield 18, 3) := by decide +kernel
theorem d_Cand_stepAhead_10 : decode prog_2_method_3_code 10 = .ok (.aload_n 0, 1) := by decide +kernel
theorem d_Cand_stepAhead_11 : decode prog_2_method_3_code 11 = .ok (.iconst 0, 1) := by decide +kernel
theorem d_Cand_stepAhead_12 : decode prog_2_method_3_code 12 = .ok (.putfield 22, 3) := by decide +kernel
theorem d_Cand_stepAhead_15 : decode prog_2_method_3_code 15 = .ok (.aload_n 0, 1) := by decide +kernel
theorem d_Cand_stepAhead_16 : decode prog_2_method_3_code 16 = .ok (.iconst 0, 1) := by decide +kernel
theorem d_Cand_stepAhead_17 : decode prog_2_method_3_code 17 = .ok (.putfield 25, 3) := by decide +kernel
theorem d_Cand_stepAhead_20 : decode prog_2_method_3_code 20 = .ok (.aload_n 0, 1) := by decide +kernel
theorem d_Cand_stepAhead_21 : decode prog_2_method_3_code 21 = .ok (.getfield 28, 3) := by decide +kernel
theorem d_Cand_stepAhead_24 : decode prog_2_method_3_code 24 = .ok (.iconst 0, 1) := by decide +kernel
theorem d_Cand_stepAhead_25 : decode prog_2_method_3_code 25 = .ok (.invokevirtual 42, 3) := by decide +kernel
theorem d_Cand_stepAhead_28 : decode prog_2_method_3_code 28 = .ok (.aload_n 0, 1) := by decide +kernel
theorem d_Cand_stepAhead_29 : decode prog_2_method_3_code 29 = .ok (.getfield 18, 3) := by decide +kernel
theorem d_Cand_stepAhead_32 : decode prog_2_method_3_code 32 = .ok (.invokestatic 46, 3) := by decide +kernel
theorem d_Cand_stepAhead_35 : decode prog_2_method_3_code 35 = .ok (.istore_n 1, 1) := by decide +kernel
theorem d_Cand_stepAhead_36 : decode prog_2_method_3_code 36 = .ok (.aload_n 0, 1) := by decide +kernel
theorem d_Cand_stepAhead_37 : decode prog_2_method_3_code 37 = .ok (.getfield 28, 3) := by decide +kernel
theorem d_Cand_stepAhead_40 : decode prog_2_method_3_code 40 = .ok (.iconst 2, 1) := by decide +kernel
theorem d_Cand_stepAhead_41 : decode prog_2_method_3_code 41 = .ok (.invokevirtual 42, 3) := by decide +kernel
theorem d_Cand_stepAhead_44 : decode prog_2_method_3_code 44 = .ok (.istore_n 2, 1) := by decide +kernel
theorem d_Cand_stepAhead_45 : decode prog_2_method_3_code 45 = .ok (.iconst 1, 1) := by decide +kernel
theorem d_Cand_stepAhead_46 : decode prog_2_method_3_code 46 = .ok (.istore_n 3, 1) := by decide +kernel
theorem d_Cand_stepAhead_47 : decode prog_2_method_3_code 47 = .ok (.iload_n 3, 1) := by decide +kernel
theorem d_Cand_stepAhead_48 : decode prog_2_method_3_code 48 = .ok (.iload_n 1, 1) := by decide +kernel
theorem d_Cand_stepAhead_49 : decode prog_2_method_3_code 49 = .ok (.if_icmp .gt 86, 3) := by decide +kernel
theorem d_Cand_stepAhead_52 : decode prog_2_method_3_code 52 = .ok (.aload_n 0, 1) := by decide +kernel
theorem d_Cand_stepAhead_53 : decode prog_2_method_3_code 53 = .ok (.getfield 28, 3) := by decide +kernel
theorem d_Cand_stepAhead_56 : decode prog_2_method_3_code 56 = .ok (.aload_n 0, 1) := by decide +kernel
theorem d_Cand_stepAhead_57 : decode prog_2_method_3_code 57 = .ok (.getfield 18, 3) := by decide +kernel
theorem d_Cand_stepAhead_60 : decode prog_2_method_3_code 60 = .ok (.invokevirtual 52, 3) := by decide +kernel
theorem d_Cand_stepAhead_63 : decode prog_2_method_3_code 63 = .ok (.aload_n 0, 1) := by decide +kernel
theorem d_Cand_stepAhead_64 : decode prog_2_method_3_code 64 = .ok (.getfield 28, 3) := by decide +kernel
theorem d_Cand_stepAhead_67 : decode prog_2_method_3_code 67 = .ok (.aload_n 0, 1) := by decide +kernel
theorem d_Cand_stepAhead_68 : decode prog_2_method_3_code 68 = .ok (.getfield 18, 3) := by decide +kernel
theorem d_Cand_stepAhead_71 : decode prog_2_method_3_code 71 = .ok (.iload_n 3, 1) := by decide +kernel
theorem d_Cand_stepAhead_72 : decode prog_2_method_3_code 72 = .ok (.isub, 1) := by decide +kernel
theorem d_Cand_stepAhead_73 : decode prog_2_method_3_code 73 = .ok (.invokevirtual 52, 3) := by decide +kernel
theorem d_Cand_stepAhead_76 : decode prog_2_method_3_code 76 = .ok (.if_icmp .ne 7, 3) := by decide +kernel
theorem d_Cand_stepAhead_79 : decode prog_2_method_3_code 79 = .ok (.iconst 1, 1) := by decide +kernel
theorem d_Cand_stepAhead_80 : decode prog_2_method_3_code 80 = .ok (.goto 4, 3) := by decide +kernel
theorem d_Cand_stepAhead_83 : decode prog_2_method_3_code 83 = .ok (.iconst 0, 1) := by decide +kernel
theorem d_Cand_stepAhead_84 : decode prog_2_method_3_code 84 = .ok (.istore 4, 2) := by decide +kernel
theorem d_Cand_stepAhead_86 : decode prog_2_method_3_code 86 = .ok (.iload 4, 2) := by decide +kernel
theorem d_Cand_stepAhead_88 : decode prog_2_method_3_code 88 = .ok (.ifCond .eq 16, 3) := by decide +kernel
theorem d_Cand_stepAhead_91 : decode prog_2_method_3_code 91 = .ok (.aload_n 0, 1) := by decide +kernel
theorem d_Cand_stepAhead_92 : decode prog_2_method_3_code 92 = .ok (.getfield 9, 3) := by decide +kernel
theorem d_Cand_stepAhead_95 : decode prog_2_method_3_code 95 = .ok (.iload_n 3, 1) := by decide +kernel
theorem d_Cand_stepAhead_96 : decode prog_2_method_3_code 96 = .ok (.invokestatic 55, 3) := by decide +kernel
theorem d_Cand_stepAhead_99 : decode prog_2_method_3_code 99 = .ok (.iconst 1, 1) := by decide +kernel
theorem d_Cand_stepAhead_100 : decode prog_2_method_3_code 100 = .ok (.iadd, 1) := by decide +kernel
theorem d_Cand_stepAhead_101 : decode prog_2_method_3_code 101 = .ok (.goto 4, 3) := by decide +kernel
theorem d_Cand_stepAhead_104 : decode prog_2_method_3_code 104 = .ok (.iconst 0, 1) := by decide +kernel
theorem d_Cand_stepAhead_105 : decode prog_2_method_3_code 105 = .ok (.istore 5, 2) := by decide +kernel
theorem d_Cand_stepAhead_107 : decode prog_2_method_3_code 107 = .ok (.aload_n 0, 1) := by decide +kernel
theorem d_Cand_stepAhead_108 : decode prog_2_method_3_code 108 = .ok (.getfield 9, 3) := by decide +kernel
theorem d_Cand_stepAhead_111 : decode prog_2_method_3_code 111 = .ok (.iload_n 3, 1) := by decide +kernel
theorem d_Cand_stepAhead_112 : decode prog_2_method_3_code 112 = .ok (.iload 5, 2) := by decide +kernel
theorem d_Cand_stepAhead_114 : decode prog_2_method_3_code 114 = .ok (.invokestatic 38, 3) := by decide +kernel
theorem d_Cand_stepAhead_117 : decode prog_2_method_3_code 117 = .ok (.iload 5, 2) := by decide +kernel
theorem d_Cand_stepAhead_119 : decode prog_2_method_3_code 119 = .ok (.iconst 2, 1) := by decide +kernel
theorem d_Cand_stepAhead_120 : decode prog_2_method_3_code 120 = .ok (.if_icmp .lt 9, 3) := by decide +kernel
theorem d_Cand_stepAhead_123 : decode prog_2_method_3_code 123 = .ok (.aload_n 0, 1) := by decide +kernel
theorem d_Cand_stepAhead_124 : decode prog_2_method_3_code 124 = .ok (.iload_n 3, 1) := by decide +kernel
theorem d_Cand_stepAhead_125 : decode prog_2_method_3_code 125 = .ok (.iload_n 2, 1) := by decide +kernel
theorem d_Cand_stepAhead_126 : decode prog_2_method_3_code 126 = .ok (.invokevirtual 59, 3) := by decide +kernel
theorem d_Cand_stepAhead_129 : decode prog_2_method_3_code 129 = .ok (.iinc 3 1, 3) := by decide +kernel
theorem d_Cand_stepAhead_132 : decode prog_2_method_3_code 132 = .ok (.goto (-85), 3) := by decide +kernel
theorem d_Cand_stepAhead_135 : decode prog_2_method_3_code 135 = .ok (.return_, 1) := by decide +kernel
theorem d_Cand_takeIn_0 : decode prog_2_method_4_code 0 = .ok (.aload_n 0, 1) := by decide +kernel
theorem d_Cand_takeIn_1 : decode prog_2_method_4_code 1 = .ok (.dup, 1) := by decide +kernel
theorem d_Cand_takeIn_2 : decode prog_2_method_4_code 2 = .ok (.getfield 22, 3) := by decide +kernel
theorem d_Cand_takeIn_5 : decode prog_2_method_4_code 5 = .ok (.iconst 1, 1) := by decide +kernel
theorem d_Cand_takeIn_6 : decode prog_2_method_4_code 6 = .ok (.iadd, 1) := by decide +kernel
theorem d_Cand_takeIn_7 : decode prog_2_method_4_code 7 = .ok (.putfield 22, 3) := by decide +kernel
theorem d_Cand_takeIn_10 : decode prog_2_method_4_code 10 = .ok (.aload_n 0, 1) := by decide +kernel
theorem d_Cand_takeIn_11 : decode prog_2_method_4_code 11 = .ok (.getfield 25, 3) := by decide +kernel
theorem d_Cand_takeIn_14 : decode prog_2_method_4_code 14 = .ok (.iload_n 2, 1) := by decide +kernel
theorem d_Cand_takeIn_15 : decode prog_2_method_4_code 15 = .ok (.if_icmp .ge 25, 3) := by decide +kernel
theorem d_Cand_takeIn_18 : decode prog_2_method_4_code 18 = .ok (.aload_n 0, 1) := by decide +kernel
theorem d_Cand_takeIn_19 : decode prog_2_method_4_code 19 = .ok (.getfield 15, 3) := by decide +kernel
theorem d_Cand_takeIn_22 : decode prog_2_method_4_code 22 = .ok (.aload_n 0, 1) := by decide +kernel
theorem d_Cand_takeIn_23 : decode prog_2_method_4_code 23 = .ok (.getfield 25, 3) := by decide +kernel
theorem d_Cand_takeIn_26 : decode prog_2_method_4_code 26 = .ok (.iload_n 1, 1) := by decide +kernel
theorem d_Cand_takeIn_27 : decode prog_2_method_4_code 27 = .ok (.invokestatic 38, 3) := by decide +kernel
theorem d_Cand_takeIn_30 : decode prog_2_method_4_code 30 = .ok (.aload_n 0, 1) := by decide +kernel
theorem d_Cand_takeIn_31 : decode prog_2_method_4_code 31 = .ok (.dup, 1) := by decide +kernel
theorem d_Cand_takeIn_32 : decode prog_2_method_4_code 32 = .ok (.getfield 25, 3) := by decide +kernel
theorem d_Cand_takeIn_35 : decode prog_2_method_4_code 35 = .ok (.iconst 1, 1) := by decide +kernel
theorem d_Cand_takeIn_36 : decode prog_2_method_4_code 36 = .ok (.iadd, 1) := by decide +kernel
theorem d_Cand_takeIn_37 : decode prog_2_method_4_code 37 = .ok (.putfield 25, 3) := by decide +kernel
theorem d_Cand_takeIn_40 : decode prog_2_method_4_code 40 = .ok (.return_, 1) := by decide +kernel
theorem d_Cand_lookAt_0 : decode prog_2_method_5_code 0 = .ok (.aload_n 0, 1) := by decide +kernel
theorem d_Cand_lookAt_1 : decode prog_2_method_5_code 1 = .ok (.invokevirtual 63, 3) := by decide +kernel
theorem d_Cand_lookAt_4 : decode prog_2_method_5_code 4 = .ok (.aload_n 0, 1) := by decide +kernel
theorem d_Cand_lookAt_5 : decode prog_2_method_5_code 5 = .ok (.getfield 28, 3) := by decide +kernel
theorem d_Cand_lookAt_8 : decode prog_2_method_5_code 8 = .ok (.invokevirtual 32, 3) := by decide +kernel
theorem d_Cand_lookAt_11 : decode prog_2_method_5_code 11 = .ok (.iconst 1, 1) := by decide +kernel
theorem d_Cand_lookAt_12 : decode prog_2_method_5_code 12 = .ok (.isub, 1) := by decide +kernel
theorem d_Cand_lookAt_13 : decode prog_2_method_5_code 13 = .ok (.istore_n 2, 1) := by decide +kernel
theorem d_Cand_lookAt_14 : decode prog_2_method_5_code 14 = .ok (.iload_n 2, 1) := by decide +kernel
theorem d_Cand_lookAt_15 : decode prog_2_method_5_code 15 = .ok (.iload_n 1, 1) := by decide +kernel
theorem d_Cand_lookAt_16 : decode prog_2_method_5_code 16 = .ok (.if_icmp .lt 13, 3) := by decide +kernel
theorem d_Cand_lookAt_19 : decode prog_2_method_5_code 19 = .ok (.aload_n 0, 1) := by decide +kernel
theorem d_Cand_lookAt_20 : decode prog_2_method_5_code 20 = .ok (.invokevirtual 66, 3) := by decide +kernel
theorem d_Cand_lookAt_23 : decode prog_2_method_5_code 23 = .ok (.iinc 2 (-1), 3) := by decide +kernel
theorem d_Cand_lookAt_26 : decode prog_2_method_5_code 26 = .ok (.goto (-12), 3) := by decide +kernel
theorem d_Cand_lookAt_29 : decode prog_2_method_5_code 29 = .ok (.return_, 1) := by decide +kernel
theorem d_Cand_all_0 : decode prog_2_method_6_code 0 = .ok (.aload_n 0, 1) := by decide +kernel
theorem d_Cand_all_1 : decode prog_2_method_6_code 1 = .ok (.getfield 22, 3) := by decide +kernel
theorem d_Cand_all_4 : decode prog_2_method_6_code 4 = .ok (.ireturn, 1) := by decide +kernel
theorem d_Cand_lookedAt_0 : decode prog_2_method_7_code 0 = .ok (.aload_n 0, 1) := by decide +kernel
theorem d_Cand_lookedAt_1 : decode prog_2_method_7_code 1 = .ok (.getfield 25, 3) := by decide +kernel
theorem d_Cand_lookedAt_4 : decode prog_2_method_7_code 4 = .ok (.ireturn, 1) := by decide +kernel
theorem d_Cand_distance_0 : decode prog_2_method_8_code 0 = .ok (.aload_n 0, 1) := by decide +kernel
theorem d_Cand_distance_1 : decode prog_2_method_8_code 1 = .ok (.getfield 15, 3) := by decide +kernel
theorem d_Cand_distance_4 : decode prog_2_method_8_code 4 = .ok (.iload_n 1, 1) := by decide +kernel
theorem d_Cand_distance_5 : decode prog_2_method_8_code 5 = .ok (.invokestatic 55, 3) := by decide +kernel
theorem d_Cand_distance_8 : decode prog_2_method_8_code 8 = .ok (.ireturn, 1) := by decide +kernel
theorem d_Cand_reach_0 : decode prog_2_method_9_code 0 = .ok (.bipush 20, 2) := by decide +kernel
theorem d_Cand_reach_2 : decode prog_2_method_9_code 2 = .ok (.aload_n 0, 1) := by decide +kernel
theorem d_Cand_reach_3 : decode prog_2_method_9_code 3 = .ok (.getfield 9, 3) := by decide +kernel
theorem d_Cand_reach_6 : decode prog_2_method_9_code 6 = .ok (.aload_n 0, 1) := by decide +kernel
theorem d_Cand_reach_7 : decode prog_2_method_9_code 7 = .ok (.getfield 15, 3) := by decide +kernel
theorem d_Cand_reach_10 : decode prog_2_method_9_code 10 = .ok (.iload_n 1, 1) := by decide +kernel
theorem d_Cand_reach_11 : decode prog_2_method_9_code 11 = .ok (.invokestatic 55, 3) := by decide +kernel
theorem d_Cand_reach_14 : decode prog_2_method_9_code 14 = .ok (.invokestatic 55, 3) := by decide +kernel
theorem d_Cand_reach_17 : decode prog_2_method_9_code 17 = .ok (.invokestatic 46, 3) := by decide +kernel
theorem d_Cand_reach_20 : decode prog_2_method_9_code 20 = .ok (.ireturn, 1) := by decide +kernel
theorem d_Cand_best_0 : decode prog_2_method_10_code 0 = .ok (.iconst (-1), 1) := by decide +kernel
theorem d_Cand_best_1 : decode prog_2_method_10_code 1 = .ok (.istore_n 1, 1) := by decide +kernel
theorem d_Cand_best_2 : decode prog_2_method_10_code 2 = .ok (.aload_n 0, 1) := by decide +kernel
theorem d_Cand_best_3 : decode prog_2_method_10_code 3 = .ok (.getfield 28, 3) := by decide +kernel
theorem d_Cand_best_6 : decode prog_2_method_10_code 6 = .ok (.iconst 1, 1) := by decide +kernel
theorem d_Cand_best_7 : decode prog_2_method_10_code 7 = .ok (.invokevirtual 42, 3) := by decide +kernel
theorem d_Cand_best_10 : decode prog_2_method_10_code 10 = .ok (.iconst 1, 1) := by decide +kernel
theorem d_Cand_best_11 : decode prog_2_method_10_code 11 = .ok (.isub, 1) := by decide +kernel
theorem d_Cand_best_12 : decode prog_2_method_10_code 12 = .ok (.istore_n 2, 1) := by decide +kernel
theorem d_Cand_best_13 : decode prog_2_method_10_code 13 = .ok (.iconst 0, 1) := by decide +kernel
theorem d_Cand_best_14 : decode prog_2_method_10_code 14 = .ok (.istore_n 3, 1) := by decide +kernel
theorem d_Cand_best_15 : decode prog_2_method_10_code 15 = .ok (.iload_n 3, 1) := by decide +kernel
theorem d_Cand_best_16 : decode prog_2_method_10_code 16 = .ok (.aload_n 0, 1) := by decide +kernel
theorem d_Cand_best_17 : decode prog_2_method_10_code 17 = .ok (.getfield 25, 3) := by decide +kernel
theorem d_Cand_best_20 : decode prog_2_method_10_code 20 = .ok (.if_icmp .ge 26, 3) := by decide +kernel
theorem d_Cand_best_23 : decode prog_2_method_10_code 23 = .ok (.aload_n 0, 1) := by decide +kernel
theorem d_Cand_best_24 : decode prog_2_method_10_code 24 = .ok (.iload_n 3, 1) := by decide +kernel
theorem d_Cand_best_25 : decode prog_2_method_10_code 25 = .ok (.invokevirtual 69, 3) := by decide +kernel
theorem d_Cand_best_28 : decode prog_2_method_10_code 28 = .ok (.iload_n 2, 1) := by decide +kernel
theorem d_Cand_best_29 : decode prog_2_method_10_code 29 = .ok (.if_icmp .le 11, 3) := by decide +kernel
theorem d_Cand_best_32 : decode prog_2_method_10_code 32 = .ok (.aload_n 0, 1) := by decide +kernel
theorem d_Cand_best_33 : decode prog_2_method_10_code 33 = .ok (.iload_n 3, 1) := by decide +kernel
theorem d_Cand_best_34 : decode prog_2_method_10_code 34 = .ok (.invokevirtual 69, 3) := by decide +kernel
theorem d_Cand_best_37 : decode prog_2_method_10_code 37 = .ok (.istore_n 2, 1) := by decide +kernel
theorem d_Cand_best_38 : decode prog_2_method_10_code 38 = .ok (.iload_n 3, 1) := by decide +kernel
theorem d_Cand_best_39 : decode prog_2_method_10_code 39 = .ok (.istore_n 1, 1) := by decide +kernel
theorem d_Cand_best_40 : decode prog_2_method_10_code 40 = .ok (.iinc 3 1, 3) := by decide +kernel
theorem d_Cand_best_43 : decode prog_2_method_10_code 43 = .ok (.goto (-28), 3) := by decide +kernel
theorem d_Cand_best_46 : decode prog_2_method_10_code 46 = .ok (.iload_n 1, 1) := by decide +kernel
theorem d_Cand_best_47 : decode prog_2_method_10_code 47 = .ok (.ireturn, 1) := by decide +kernel
theorem d_History_init_0 : decode prog_3_method_1_code 0 = .ok (.aload_n 0, 1) := by decide +kernel
theorem d_History_init_1 : decode prog_3_method_1_code 1 = .ok (.invokespecial 3, 3) := by decide +kernel
theorem d_History_init_4 : decode prog_3_method_1_code 4 = .ok (.aload_n 0, 1) := by decide +kernel
theorem d_History_init_5 : decode prog_3_method_1_code 5 = .ok (.iconst 4, 1) := by decide +kernel
theorem d_History_init_6 : decode prog_3_method_1_code 6 = .ok (.anewarray 9, 3) := by decide +kernel
theorem d_History_init_9 : decode prog_3_method_1_code 9 = .ok (.putfield 11, 3) := by decide +kernel
theorem d_History_init_12 : decode prog_3_method_1_code 12 = .ok (.aload_n 0, 1) := by decide +kernel
theorem d_History_init_13 : decode prog_3_method_1_code 13 = .ok (.iconst 0, 1) := by decide +kernel
theorem d_History_init_14 : decode prog_3_method_1_code 14 = .ok (.putfield 17, 3) := by decide +kernel
theorem d_History_init_17 : decode prog_3_method_1_code 17 = .ok (.aload_n 0, 1) := by decide +kernel
theorem d_History_init_18 : decode prog_3_method_1_code 18 = .ok (.iconst 0, 1) := by decide +kernel
theorem d_History_init_19 : decode prog_3_method_1_code 19 = .ok (.putfield 21, 3) := by decide +kernel
theorem d_History_init_22 : decode prog_3_method_1_code 22 = .ok (.iconst 0, 1) := by decide +kernel
theorem d_History_init_23 : decode prog_3_method_1_code 23 = .ok (.istore_n 1, 1) := by decide +kernel
theorem d_History_init_24 : decode prog_3_method_1_code 24 = .ok (.iload_n 1, 1) := by decide +kernel
theorem d_History_init_25 : decode prog_3_method_1_code 25 = .ok (.aload_n 0, 1) := by decide +kernel
theorem d_History_init_26 : decode prog_3_method_1_code 26 = .ok (.getfield 11, 3) := by decide +kernel
theorem d_History_init_29 : decode prog_3_method_1_code 29 = .ok (.arraylength, 1) := by decide +kernel
theorem d_History_init_30 : decode prog_3_method_1_code 30 = .ok (.if_icmp .ge 22, 3) := by decide +kernel
theorem d_History_init_33 : decode prog_3_method_1_code 33 = .ok (.aload_n 0, 1) := by decide +kernel
theorem d_History_init_34 : decode prog_3_method_1_code 34 = .ok (.getfield 11, 3) := by decide +kernel
theorem d_History_init_37 : decode prog_3_method_1_code 37 = .ok (.iload_n 1, 1) := by decide +kernel
theorem d_History_init_38 : decode prog_3_method_1_code 38 = .ok (.new 9, 3) := by decide +kernel
theorem d_History_init_41 : decode prog_3_method_1_code 41 = .ok (.dup, 1) := by decide +kernel
theorem d_History_init_42 : decode prog_3_method_1_code 42 = .ok (.invokespecial 24, 3) := by decide +kernel
theorem d_History_init_45 : decode prog_3_method_1_code 45 = .ok (.aastore, 1) := by decide +kernel
theorem d_History_init_46 : decode prog_3_method_1_code 46 = .ok (.iinc 1 1, 3) := by decide +kernel
theorem d_History_init_49 : decode prog_3_method_1_code 49 = .ok (.goto (-25), 3) := by decide +kernel
theorem d_History_init_52 : decode prog_3_method_1_code 52 = .ok (.return_, 1) := by decide +kernel
theorem d_History_size_0 : decode prog_3_method_2_code 0 = .ok (.aload_n 0, 1) := by decide +kernel
theorem d_History_size_1 : decode prog_3_method_2_code 1 = .ok (.getfield 21, 3) := by decide +kernel
theorem d_History_size_4 : decode prog_3_method_2_code 4 = .ok (.ireturn, 1) := by decide +kernel
theorem d_History_record_0 : decode prog_3_method_3_code 0 = .ok (.aload_n 0, 1) := by decide +kernel
theorem d_History_record_1 : decode prog_3_method_3_code 1 = .ok (.getfield 21, 3) := by decide +kernel
theorem d_History_record_4 : decode prog_3_method_3_code 4 = .ok (.iconst 4, 1) := by decide +kernel
theorem d_History_record_5 : decode prog_3_method_3_code 5 = .ok (.if_icmp .ne 22, 3) := by decide +kernel
theorem d_History_record_8 : decode prog_3_method_3_code 8 = .ok (.aload_n 0, 1) := by decide +kernel
theorem d_History_record_9 : decode prog_3_method_3_code 9 = .ok (.aload_n 0, 1) := by decide +kernel
theorem d_History_record_10 : decode prog_3_method_3_code 10 = .ok (.iconst 1, 1) := by decide +kernel
theorem d_History_record_11 : decode prog_3_method_3_code 11 = .ok (.invokevirtual 25, 3) := by decide +kernel
theorem d_History_record_14 : decode prog_3_method_3_code 14 = .ok (.putfield 17, 3) := by decide +kernel
theorem d_History_record_17 : decode prog_3_method_3_code 17 = .ok (.aload_n 0, 1) := by decide +kernel
theorem d_History_record_18 : decode prog_3_method_3_code 18 = .ok (.dup, 1) := by decide +kernel
theorem d_History_record_19 : decode prog_3_method_3_code 19 = .ok (.getfield 21, 3) := by decide +kernel
theorem d_History_record_22 : decode prog_3_method_3_code 22 = .ok (.iconst 1, 1) := by decide +kernel
theorem d_History_record_23 : decode prog_3_method_3_code 23 = .ok (.isub, 1) := by decide +kernel
theorem d_History_record_24 : decode prog_3_method_3_code 24 = .ok (.putfield 21, 3) := by decide +kernel
theorem d_History_record_27 : decode prog_3_method_3_code 27 = .ok (.aload_n 0, 1) := by decide +kernel
theorem d_History_record_28 : decode prog_3_method_3_code 28 = .ok (.aload_n 0, 1) := by decide +kernel
theorem d_History_record_29 : decode prog_3_method_3_code 29 = .ok (.getfield 21, 3) := by decide +kernel
theorem d_History_record_32 : decode prog_3_method_3_code 32 = .ok (.invokevirtual 29, 3) := by decide +kernel
theorem d_History_record_35 : decode prog_3_method_3_code 35 = .ok (.astore_n 2, 1) := by decide +kernel
theorem d_History_record_36 : decode prog_3_method_3_code 36 = .ok (.aload_n 2, 1) := by decide +kernel
theorem d_History_record_37 : decode prog_3_method_3_code 37 = .ok (.ifnull 18, 3) := by decide +kernel
theorem d_History_record_40 : decode prog_3_method_3_code 40 = .ok (.aload_n 2, 1) := by decide +kernel
theorem d_History_record_41 : decode prog_3_method_3_code 41 = .ok (.aload_n 1, 1) := by decide +kernel
theorem d_History_record_42 : decode prog_3_method_3_code 42 = .ok (.invokevirtual 33, 3) := by decide +kernel
theorem d_History_record_45 : decode prog_3_method_3_code 45 = .ok (.aload_n 0, 1) := by decide +kernel
theorem d_History_record_46 : decode prog_3_method_3_code 46 = .ok (.dup, 1) := by decide +kernel
theorem d_History_record_47 : decode prog_3_method_3_code 47 = .ok (.getfield 21, 3) := by decide +kernel
theorem d_History_record_50 : decode prog_3_method_3_code 50 = .ok (.iconst 1, 1) := by decide +kernel
theorem d_History_record_51 : decode prog_3_method_3_code 51 = .ok (.iadd, 1) := by decide +kernel
theorem d_History_record_52 : decode prog_3_method_3_code 52 = .ok (.putfield 21, 3) := by decide +kernel
theorem d_History_record_55 : decode prog_3_method_3_code 55 = .ok (.return_, 1) := by decide +kernel
theorem d_History_takeBack_0 : decode prog_3_method_4_code 0 = .ok (.aload_n 0, 1) := by decide +kernel
theorem d_History_takeBack_1 : decode prog_3_method_4_code 1 = .ok (.aload_n 0, 1) := by decide +kernel
theorem d_History_takeBack_2 : decode prog_3_method_4_code 2 = .ok (.getfield 21, 3) := by decide +kernel
theorem d_History_takeBack_5 : decode prog_3_method_4_code 5 = .ok (.iconst 1, 1) := by decide +kernel
theorem d_History_takeBack_6 : decode prog_3_method_4_code 6 = .ok (.isub, 1) := by decide +kernel
theorem d_History_takeBack_7 : decode prog_3_method_4_code 7 = .ok (.invokevirtual 29, 3) := by decide +kernel
theorem d_History_takeBack_10 : decode prog_3_method_4_code 10 = .ok (.astore_n 2, 1) := by decide +kernel
theorem d_History_takeBack_11 : decode prog_3_method_4_code 11 = .ok (.aload_n 2, 1) := by decide +kernel
theorem d_History_takeBack_12 : decode prog_3_method_4_code 12 = .ok (.ifnull 18, 3) := by decide +kernel
theorem d_History_takeBack_15 : decode prog_3_method_4_code 15 = .ok (.aload_n 1, 1) := by decide +kernel
theorem d_History_takeBack_16 : decode prog_3_method_4_code 16 = .ok (.aload_n 2, 1) := by decide +kernel
theorem d_History_takeBack_17 : decode prog_3_method_4_code 17 = .ok (.invokevirtual 33, 3) := by decide +kernel
theorem d_History_takeBack_20 : decode prog_3_method_4_code 20 = .ok (.aload_n 0, 1) := by decide +kernel
theorem d_History_takeBack_21 : decode prog_3_method_4_code 21 = .ok (.dup, 1) := by decide +kernel
theorem d_History_takeBack_22 : decode prog_3_method_4_code 22 = .ok (.getfield 21, 3) := by decide +kernel
theorem d_History_takeBack_25 : decode prog_3_method_4_code 25 = .ok (.iconst 1, 1) := by decide +kernel
theorem d_History_takeBack_26 : decode prog_3_method_4_code 26 = .ok (.isub, 1) := by decide +kernel
theorem d_History_takeBack_27 : decode prog_3_method_4_code 27 = .ok (.putfield 21, 3) := by decide +kernel
theorem d_History_takeBack_30 : decode prog_3_method_4_code 30 = .ok (.return_, 1) := by decide +kernel
theorem d_History_stateAt_0 : decode prog_3_method_5_code 0 = .ok (.aload_n 0, 1) := by decide +kernel
theorem d_History_stateAt_1 : decode prog_3_method_5_code 1 = .ok (.iload_n 1, 1) := by decide +kernel
theorem d_History_stateAt_2 : decode prog_3_method_5_code 2 = .ok (.invokevirtual 25, 3) := by decide +kernel
theorem d_History_stateAt_5 : decode prog_3_method_5_code 5 = .ok (.istore_n 2, 1) := by decide +kernel
theorem d_History_stateAt_6 : decode prog_3_method_5_code 6 = .ok (.iload_n 1, 1) := by decide +kernel
theorem d_History_stateAt_7 : decode prog_3_method_5_code 7 = .ok (.ifCond .lt 25, 3) := by decide +kernel
theorem d_History_stateAt_10 : decode prog_3_method_5_code 10 = .ok (.iload_n 2, 1) := by decide +kernel
theorem d_History_stateAt_11 : decode prog_3_method_5_code 11 = .ok (.ifCond .lt 21, 3) := by decide +kernel
theorem d_History_stateAt_14 : decode prog_3_method_5_code 14 = .ok (.iload_n 2, 1) := by decide +kernel
theorem d_History_stateAt_15 : decode prog_3_method_5_code 15 = .ok (.aload_n 0, 1) := by decide +kernel
theorem d_History_stateAt_16 : decode prog_3_method_5_code 16 = .ok (.getfield 11, 3) := by decide +kernel
theorem d_History_stateAt_19 : decode prog_3_method_5_code 19 = .ok (.arraylength, 1) := by decide +kernel
theorem d_History_stateAt_20 : decode prog_3_method_5_code 20 = .ok (.if_icmp .ge 12, 3) := by decide +kernel
theorem d_History_stateAt_23 : decode prog_3_method_5_code 23 = .ok (.aload_n 0, 1) := by decide +kernel
theorem d_History_stateAt_24 : decode prog_3_method_5_code 24 = .ok (.getfield 11, 3) := by decide +kernel
theorem d_History_stateAt_27 : decode prog_3_method_5_code 27 = .ok (.iload_n 2, 1) := by decide +kernel
theorem d_History_stateAt_28 : decode prog_3_method_5_code 28 = .ok (.aaload, 1) := by decide +kernel
theorem d_History_stateAt_29 : decode prog_3_method_5_code 29 = .ok (.goto 4, 3) := by decide +kernel
theorem d_History_stateAt_32 : decode prog_3_method_5_code 32 = .ok (.aconst_null, 1) := by decide +kernel
theorem d_History_stateAt_33 : decode prog_3_method_5_code 33 = .ok (.areturn, 1) := by decide +kernel
theorem d_History_slotOf_0 : decode prog_3_method_6_code 0 = .ok (.aload_n 0, 1) := by decide +kernel
theorem d_History_slotOf_1 : decode prog_3_method_6_code 1 = .ok (.getfield 17, 3) := by decide +kernel
theorem d_History_slotOf_4 : decode prog_3_method_6_code 4 = .ok (.iload_n 1, 1) := by decide +kernel
theorem d_History_slotOf_5 : decode prog_3_method_6_code 5 = .ok (.iadd, 1) := by decide +kernel
theorem d_History_slotOf_6 : decode prog_3_method_6_code 6 = .ok (.iconst 4, 1) := by decide +kernel
theorem d_History_slotOf_7 : decode prog_3_method_6_code 7 = .ok (.irem, 1) := by decide +kernel
theorem d_History_slotOf_8 : decode prog_3_method_6_code 8 = .ok (.ireturn, 1) := by decide +kernel
theorem d_Plan_init_0 : decode prog_4_method_1_code 0 = .ok (.aload_n 0, 1) := by decide +kernel
theorem d_Plan_init_1 : decode prog_4_method_1_code 1 = .ok (.invokespecial 3, 3) := by decide +kernel
theorem d_Plan_init_4 : decode prog_4_method_1_code 4 = .ok (.aload_n 0, 1) := by decide +kernel
theorem d_Plan_init_5 : decode prog_4_method_1_code 5 = .ok (.sipush 180, 3) := by decide +kernel
theorem d_Plan_init_8 : decode prog_4_method_1_code 8 = .ok (.newarray .int, 2) := by decide +kernel
theorem d_Plan_init_10 : decode prog_4_method_1_code 10 = .ok (.putfield 9, 3) := by decide +kernel
theorem d_Plan_init_13 : decode prog_4_method_1_code 13 = .ok (.aload_n 0, 1) := by decide +kernel
theorem d_Plan_init_14 : decode prog_4_method_1_code 14 = .ok (.sipush 180, 3) := by decide +kernel
theorem d_Plan_init_17 : decode prog_4_method_1_code 17 = .ok (.newarray .int, 2) := by decide +kernel
theorem d_Plan_init_19 : decode prog_4_method_1_code 19 = .ok (.putfield 15, 3) := by decide +kernel
theorem d_Plan_init_22 : decode prog_4_method_1_code 22 = .ok (.aload_n 0, 1) := by decide +kernel
theorem d_Plan_init_23 : decode prog_4_method_1_code 23 = .ok (.bipush 62, 2) := by decide +kernel
theorem d_Plan_init_25 : decode prog_4_method_1_code 25 = .ok (.newarray .int, 2) := by decide +kernel
theorem d_Plan_init_27 : decode prog_4_method_1_code 27 = .ok (.putfield 18, 3) := by decide +kernel
theorem d_Plan_init_30 : decode prog_4_method_1_code 30 = .ok (.aload_n 0, 1) := by decide +kernel
theorem d_Plan_init_31 : decode prog_4_method_1_code 31 = .ok (.bipush 61, 2) := by decide +kernel
theorem d_Plan_init_33 : decode prog_4_method_1_code 33 = .ok (.newarray .int, 2) := by decide +kernel
theorem d_Plan_init_35 : decode prog_4_method_1_code 35 = .ok (.putfield 21, 3) := by decide +kernel
theorem d_Plan_init_38 : decode prog_4_method_1_code 38 = .ok (.aload_n 0, 1) := by decide +kernel
theorem d_Plan_init_39 : decode prog_4_method_1_code 39 = .ok (.bipush 60, 2) := by decide +kernel
theorem d_Plan_init_41 : decode prog_4_method_1_code 41 = .ok (.newarray .int, 2) := by decide +kernel
theorem d_Plan_init_43 : decode prog_4_method_1_code 43 = .ok (.putfield 24, 3) := by decide +kernel
theorem d_Plan_init_46 : decode prog_4_method_1_code 46 = .ok (.aload_n 0, 1) := by decide +kernel
theorem d_Plan_init_47 : decode prog_4_method_1_code 47 = .ok (.iconst 0, 1) := by decide +kernel
theorem d_Plan_init_48 : decode prog_4_method_1_code 48 = .ok (.putfield 27, 3) := by decide +kernel
theorem d_Plan_init_51 : decode prog_4_method_1_code 51 = .ok (.aload_n 0, 1) := by decide +kernel
theorem d_Plan_init_52 : decode prog_4_method_1_code 52 = .ok (.iconst 0, 1) := by decide +kernel
theorem d_Plan_init_53 : decode prog_4_method_1_code 53 = .ok (.putfield 31, 3) := by decide +kernel
theorem d_Plan_init_56 : decode prog_4_method_1_code 56 = .ok (.aload_n 0, 1) := by decide +kernel
theorem d_Plan_init_57 : decode prog_4_method_1_code 57 = .ok (.iconst 0, 1) := by decide +kernel
theorem d_Plan_init_58 : decode prog_4_method_1_code 58 = .ok (.putfield 34, 3) := by decide +kernel
theorem d_Plan_init_61 : decode prog_4_method_1_code 61 = .ok (.aload_n 0, 1) := by decide +kernel
theorem d_Plan_init_62 : decode prog_4_method_1_code 62 = .ok (.iconst 0, 1) := by decide +kernel
theorem d_Plan_init_63 : decode prog_4_method_1_code 63 = .ok (.putfield 37, 3) := by decide +kernel
theorem d_Plan_init_66 : decode prog_4_method_1_code 66 = .ok (.aload_n 0, 1) := by decide +kernel
theorem d_Plan_init_67 : decode prog_4_method_1_code 67 = .ok (.aload_n 1, 1) := by decide +kernel
theorem d_Plan_init_68 : decode prog_4_method_1_code 68 = .ok (.putfield 40, 3) := by decide +kernel
theorem d_Plan_init_71 : decode prog_4_method_1_code 71 = .ok (.aload_n 0, 1) := by decide +kernel
theorem d_Plan_init_72 : decode prog_4_method_1_code 72 = .ok (.aload_n 2, 1) := by decide +kernel
theorem d_Plan_init_73 : decode prog_4_method_1_code 73 = .ok (.putfield 44, 3) := by decide +kernel
theorem d_Plan_init_76 : decode prog_4_method_1_code 76 = .ok (.return_, 1) := by decide +kernel
theorem d_Plan_make_0 : decode prog_4_method_2_code 0 = .ok (.aload_n 0, 1) := by decide +kernel
theorem d_Plan_make_1 : decode prog_4_method_2_code 1 = .ok (.getfield 40, 3) := by decide +kernel
theorem d_Plan_make_4 : decode prog_4_method_2_code 4 = .ok (.invokevirtual 48, 3) := by decide +kernel
theorem d_Plan_make_7 : decode prog_4_method_2_code 7 = .ok (.istore_n 1, 1) := by decide +kernel
theorem d_Plan_make_8 : decode prog_4_method_2_code 8 = .ok (.aload_n 0, 1) := by decide +kernel
theorem d_Plan_make_9 : decode prog_4_method_2_code 9 = .ok (.getfield 18, 3) := by decide +kernel
theorem d_Plan_make_12 : decode prog_4_method_2_code 12 = .ok (.iload_n 1, 1) := by decide +kernel
theorem d_Plan_make_13 : decode prog_4_method_2_code 13 = .ok (.iconst 0, 1) := by decide +kernel
theorem d_Plan_make_14 : decode prog_4_method_2_code 14 = .ok (.invokestatic 54, 3) := by decide +kernel
theorem d_Plan_make_17 : decode prog_4_method_2_code 17 = .ok (.aload_n 0, 1) := by decide +kernel
theorem d_Plan_make_18 : decode prog_4_method_2_code 18 = .ok (.getfield 18, 3) := by decide +kernel
theorem d_Plan_make_21 : decode prog_4_method_2_code 21 = .ok (.iload_n 1, 1) := by decide +kernel
theorem d_Plan_make_22 : decode prog_4_method_2_code 22 = .ok (.iconst 1, 1) := by decide +kernel
theorem d_Plan_make_23 : decode prog_4_method_2_code 23 = .ok (.iadd, 1) := by decide +kernel
theorem d_Plan_make_24 : decode prog_4_method_2_code 24 = .ok (.iconst 0, 1) := by decide +kernel
theorem d_Plan_make_25 : decode prog_4_method_2_code 25 = .ok (.invokestatic 54, 3) := by decide +kernel
theorem d_Plan_make_28 : decode prog_4_method_2_code 28 = .ok (.aload_n 0, 1) := by decide +kernel
theorem d_Plan_make_29 : decode prog_4_method_2_code 29 = .ok (.getfield 21, 3) := by decide +kernel
theorem d_Plan_make_32 : decode prog_4_method_2_code 32 = .ok (.iload_n 1, 1) := by decide +kernel
theorem d_Plan_make_33 : decode prog_4_method_2_code 33 = .ok (.iconst 0, 1) := by decide +kernel
theorem d_Plan_make_34 : decode prog_4_method_2_code 34 = .ok (.invokestatic 54, 3) := by decide +kernel
theorem d_Plan_make_37 : decode prog_4_method_2_code 37 = .ok (.aload_n 0, 1) := by decide +kernel
theorem d_Plan_make_38 : decode prog_4_method_2_code 38 = .ok (.getfield 44, 3) := by decide +kernel
theorem d_Plan_make_41 : decode prog_4_method_2_code 41 = .ok (.invokevirtual 58, 3) := by decide +kernel
theorem d_Plan_make_44 : decode prog_4_method_2_code 44 = .ok (.iload_n 1, 1) := by decide +kernel
theorem d_Plan_make_45 : decode prog_4_method_2_code 45 = .ok (.iconst 1, 1) := by decide +kernel
theorem d_Plan_make_46 : decode prog_4_method_2_code 46 = .ok (.isub, 1) := by decide +kernel
theorem d_Plan_make_47 : decode prog_4_method_2_code 47 = .ok (.istore_n 2, 1) := by decide +kernel
theorem d_Plan_make_48 : decode prog_4_method_2_code 48 = .ok (.iload_n 2, 1) := by decide +kernel
theorem d_Plan_make_49 : decode prog_4_method_2_code 49 = .ok (.ifCond .lt 31, 3) := by decide +kernel
theorem d_Plan_make_52 : decode prog_4_method_2_code 52 = .ok (.aload_n 0, 1) := by decide +kernel
theorem d_Plan_make_53 : decode prog_4_method_2_code 53 = .ok (.getfield 44, 3) := by decide +kernel
theorem d_Plan_make_56 : decode prog_4_method_2_code 56 = .ok (.invokevirtual 63, 3) := by decide +kernel
theorem d_Plan_make_59 : decode prog_4_method_2_code 59 = .ok (.aload_n 0, 1) := by decide +kernel
theorem d_Plan_make_60 : decode prog_4_method_2_code 60 = .ok (.iload_n 2, 1) := by decide +kernel
theorem d_Plan_make_61 : decode prog_4_method_2_code 61 = .ok (.invokevirtual 66, 3) := by decide +kernel
theorem d_Plan_make_64 : decode prog_4_method_2_code 64 = .ok (.aload_n 0, 1) := by decide +kernel
theorem d_Plan_make_65 : decode prog_4_method_2_code 65 = .ok (.iload_n 2, 1) := by decide +kernel
theorem d_Plan_make_66 : decode prog_4_method_2_code 66 = .ok (.invokevirtual 70, 3) := by decide +kernel
theorem d_Plan_make_69 : decode prog_4_method_2_code 69 = .ok (.aload_n 0, 1) := by decide +kernel
theorem d_Plan_make_70 : decode prog_4_method_2_code 70 = .ok (.iload_n 2, 1) := by decide +kernel
theorem d_Plan_make_71 : decode prog_4_method_2_code 71 = .ok (.invokevirtual 73, 3) := by decide +kernel
theorem d_Plan_make_74 : decode prog_4_method_2_code 74 = .ok (.iinc 2 (-1), 3) := by decide +kernel
theorem d_Plan_make_77 : decode prog_4_method_2_code 77 = .ok (.goto (-29), 3) := by decide +kernel
theorem d_Plan_make_80 : decode prog_4_method_2_code 80 = .ok (.return_, 1) := by decide +kernel
theorem d_Plan_planFound_0 : decode prog_4_method_3_code 0 = .ok (.aload_n 0, 1) := by decide +kernel
theorem d_Plan_planFound_1 : decode prog_4_method_3_code 1 = .ok (.getfield 44, 3) := by decide +kernel
theorem d_Plan_planFound_4 : decode prog_4_method_3_code 4 = .ok (.invokevirtual 76, 3) := by decide +kernel
theorem d_Plan_planFound_7 : decode prog_4_method_3_code 7 = .ok (.istore_n 2, 1) := by decide +kernel
theorem d_Plan_planFound_8 : decode prog_4_method_3_code 8 = .ok (.iload_n 2, 1) := by decide +kernel
theorem d_Plan_planFound_9 : decode prog_4_method_3_code 9 = .ok (.iconst (-1), 1) := by decide +kernel
theorem d_Plan_planFound_10 : decode prog_4_method_3_code 10 = .ok (.if_icmp .ne 21, 3) := by decide +kernel
theorem d_Plan_planFound_13 : decode prog_4_method_3_code 13 = .ok (.aload_n 0, 1) := by decide +kernel
theorem d_Plan_planFound_14 : decode prog_4_method_3_code 14 = .ok (.iconst 0, 1) := by decide +kernel
theorem d_Plan_planFound_15 : decode prog_4_method_3_code 15 = .ok (.iload_n 1, 1) := by decide +kernel
theorem d_Plan_planFound_16 : decode prog_4_method_3_code 16 = .ok (.invokevirtual 79, 3) := by decide +kernel
theorem d_Plan_planFound_19 : decode prog_4_method_3_code 19 = .ok (.aload_n 0, 1) := by decide +kernel
theorem d_Plan_planFound_20 : decode prog_4_method_3_code 20 = .ok (.getfield 18, 3) := by decide +kernel
theorem d_Plan_planFound_23 : decode prog_4_method_3_code 23 = .ok (.iload_n 1, 1) := by decide +kernel
theorem d_Plan_planFound_24 : decode prog_4_method_3_code 24 = .ok (.iconst 0, 1) := by decide +kernel
theorem d_Plan_planFound_25 : decode prog_4_method_3_code 25 = .ok (.invokestatic 54, 3) := by decide +kernel
theorem d_Plan_planFound_28 : decode prog_4_method_3_code 28 = .ok (.goto 43, 3) := by decide +kernel
theorem d_Plan_planFound_31 : decode prog_4_method_3_code 31 = .ok (.aload_n 0, 1) := by decide +kernel
theorem d_Plan_planFound_32 : decode prog_4_method_3_code 32 = .ok (.getfield 44, 3) := by decide +kernel
theorem d_Plan_planFound_35 : decode prog_4_method_3_code 35 = .ok (.iload_n 2, 1) := by decide +kernel
theorem d_Plan_planFound_36 : decode prog_4_method_3_code 36 = .ok (.invokevirtual 83, 3) := by decide +kernel
theorem d_Plan_planFound_39 : decode prog_4_method_3_code 39 = .ok (.istore_n 3, 1) := by decide +kernel
theorem d_Plan_planFound_40 : decode prog_4_method_3_code 40 = .ok (.aload_n 0, 1) := by decide +kernel
theorem d_Plan_planFound_41 : decode prog_4_method_3_code 41 = .ok (.iconst 0, 1) := by decide +kernel
theorem d_Plan_planFound_42 : decode prog_4_method_3_code 42 = .ok (.iload_n 1, 1) := by decide +kernel
theorem d_Plan_planFound_43 : decode prog_4_method_3_code 43 = .ok (.aload_n 0, 1) := by decide +kernel
theorem d_Plan_planFound_44 : decode prog_4_method_3_code 44 = .ok (.getfield 44, 3) := by decide +kernel
theorem d_Plan_planFound_47 : decode prog_4_method_3_code 47 = .ok (.iload_n 2, 1) := by decide +kernel
theorem d_Plan_planFound_48 : decode prog_4_method_3_code 48 = .ok (.invokevirtual 87, 3) := by decide +kernel
theorem d_Plan_planFound_51 : decode prog_4_method_3_code 51 = .ok (.iload_n 3, 1) := by decide +kernel
theorem d_Plan_planFound_52 : decode prog_4_method_3_code 52 = .ok (.invokevirtual 90, 3) := by decide +kernel
theorem d_Plan_planFound_55 : decode prog_4_method_3_code 55 = .ok (.aload_n 0, 1) := by decide +kernel
theorem d_Plan_planFound_56 : decode prog_4_method_3_code 56 = .ok (.getfield 18, 3) := by decide +kernel
theorem d_Plan_planFound_59 : decode prog_4_method_3_code 59 = .ok (.iload_n 1, 1) := by decide +kernel
theorem d_Plan_planFound_60 : decode prog_4_method_3_code 60 = .ok (.aload_n 0, 1) := by decide +kernel
theorem d_Plan_planFound_61 : decode prog_4_method_3_code 61 = .ok (.getfield 40, 3) := by decide +kernel
theorem d_Plan_planFound_64 : decode prog_4_method_3_code 64 = .ok (.iload_n 3, 1) := by decide +kernel
theorem d_Plan_planFound_65 : decode prog_4_method_3_code 65 = .ok (.invokevirtual 94, 3) := by decide +kernel
theorem d_Plan_planFound_68 : decode prog_4_method_3_code 68 = .ok (.invokestatic 54, 3) := by decide +kernel
theorem d_Plan_planFound_71 : decode prog_4_method_3_code 71 = .ok (.return_, 1) := by decide +kernel
theorem d_Plan_planWeighed_0 : decode prog_4_method_4_code 0 = .ok (.aload_n 0, 1) := by decide +kernel
theorem d_Plan_planWeighed_1 : decode prog_4_method_4_code 1 = .ok (.getfield 18, 3) := by decide +kernel
theorem d_Plan_planWeighed_4 : decode prog_4_method_4_code 4 = .ok (.iload_n 1, 1) := by decide +kernel
theorem d_Plan_planWeighed_5 : decode prog_4_method_4_code 5 = .ok (.invokestatic 97, 3) := by decide +kernel
theorem d_Plan_planWeighed_8 : decode prog_4_method_4_code 8 = .ok (.istore_n 2, 1) := by decide +kernel
theorem d_Plan_planWeighed_9 : decode prog_4_method_4_code 9 = .ok (.aload_n 0, 1) := by decide +kernel
theorem d_Plan_planWeighed_10 : decode prog_4_method_4_code 10 = .ok (.getfield 18, 3) := by decide +kernel
theorem d_Plan_planWeighed_13 : decode prog_4_method_4_code 13 = .ok (.iload_n 1, 1) := by decide +kernel
theorem d_Plan_planWeighed_14 : decode prog_4_method_4_code 14 = .ok (.iconst 1, 1) := by decide +kernel
theorem d_Plan_planWeighed_15 : decode prog_4_method_4_code 15 = .ok (.iadd, 1) := by decide +kernel
theorem d_Plan_planWeighed_16 : decode prog_4_method_4_code 16 = .ok (.invokestatic 97, 3) := by decide +kernel
theorem d_Plan_planWeighed_19 : decode prog_4_method_4_code 19 = .ok (.iload_n 2, 1) := by decide +kernel
theorem d_Plan_planWeighed_20 : decode prog_4_method_4_code 20 = .ok (.if_icmp .gt 17, 3) := by decide +kernel
theorem d_Plan_planWeighed_23 : decode prog_4_method_4_code 23 = .ok (.aload_n 0, 1) := by decide +kernel
theorem d_Plan_planWeighed_24 : decode prog_4_method_4_code 24 = .ok (.getfield 18, 3) := by decide +kernel
theorem d_Plan_planWeighed_27 : decode prog_4_method_4_code 27 = .ok (.iload_n 1, 1) := by decide +kernel
theorem d_Plan_planWeighed_28 : decode prog_4_method_4_code 28 = .ok (.iconst 2, 1) := by decide +kernel
theorem d_Plan_planWeighed_29 : decode prog_4_method_4_code 29 = .ok (.iadd, 1) := by decide +kernel
theorem d_Plan_planWeighed_30 : decode prog_4_method_4_code 30 = .ok (.invokestatic 97, 3) := by decide +kernel
theorem d_Plan_planWeighed_33 : decode prog_4_method_4_code 33 = .ok (.iload_n 2, 1) := by decide +kernel
theorem d_Plan_planWeighed_34 : decode prog_4_method_4_code 34 = .ok (.if_icmp .le 7, 3) := by decide +kernel
theorem d_Plan_planWeighed_37 : decode prog_4_method_4_code 37 = .ok (.iconst 1, 1) := by decide +kernel
theorem d_Plan_planWeighed_38 : decode prog_4_method_4_code 38 = .ok (.goto 4, 3) := by decide +kernel
theorem d_Plan_planWeighed_41 : decode prog_4_method_4_code 41 = .ok (.iconst 0, 1) := by decide +kernel
theorem d_Plan_planWeighed_42 : decode prog_4_method_4_code 42 = .ok (.istore_n 3, 1) := by decide +kernel
theorem d_Plan_planWeighed_43 : decode prog_4_method_4_code 43 = .ok (.iload_n 2, 1) := by decide +kernel
theorem d_Plan_planWeighed_44 : decode prog_4_method_4_code 44 = .ok (.ifCond .le 28, 3) := by decide +kernel
theorem d_Plan_planWeighed_47 : decode prog_4_method_4_code 47 = .ok (.iload_n 3, 1) := by decide +kernel
theorem d_Plan_planWeighed_48 : decode prog_4_method_4_code 48 = .ok (.ifCond .ne 24, 3) := by decide +kernel
theorem d_Plan_planWeighed_51 : decode prog_4_method_4_code 51 = .ok (.aload_n 0, 1) := by decide +kernel
theorem d_Plan_planWeighed_52 : decode prog_4_method_4_code 52 = .ok (.iconst 1, 1) := by decide +kernel
theorem d_Plan_planWeighed_53 : decode prog_4_method_4_code 53 = .ok (.iload_n 1, 1) := by decide +kernel
theorem d_Plan_planWeighed_54 : decode prog_4_method_4_code 54 = .ok (.aload_n 0, 1) := by decide +kernel
theorem d_Plan_planWeighed_55 : decode prog_4_method_4_code 55 = .ok (.iconst 0, 1) := by decide +kernel
theorem d_Plan_planWeighed_56 : decode prog_4_method_4_code 56 = .ok (.iload_n 1, 1) := by decide +kernel
theorem d_Plan_planWeighed_57 : decode prog_4_method_4_code 57 = .ok (.invokevirtual 101, 3) := by decide +kernel
theorem d_Plan_planWeighed_60 : decode prog_4_method_4_code 60 = .ok (.aload_n 0, 1) := by decide +kernel
theorem d_Plan_planWeighed_61 : decode prog_4_method_4_code 61 = .ok (.iconst 0, 1) := by decide +kernel
theorem d_Plan_planWeighed_62 : decode prog_4_method_4_code 62 = .ok (.iload_n 1, 1) := by decide +kernel
theorem d_Plan_planWeighed_63 : decode prog_4_method_4_code 63 = .ok (.invokevirtual 105, 3) := by decide +kernel
theorem d_Plan_planWeighed_66 : decode prog_4_method_4_code 66 = .ok (.invokevirtual 90, 3) := by decide +kernel
theorem d_Plan_planWeighed_69 : decode prog_4_method_4_code 69 = .ok (.goto 9, 3) := by decide +kernel
theorem d_Plan_planWeighed_72 : decode prog_4_method_4_code 72 = .ok (.aload_n 0, 1) := by decide +kernel
theorem d_Plan_planWeighed_73 : decode prog_4_method_4_code 73 = .ok (.iconst 1, 1) := by decide +kernel
theorem d_Plan_planWeighed_74 : decode prog_4_method_4_code 74 = .ok (.iload_n 1, 1) := by decide +kernel
theorem d_Plan_planWeighed_75 : decode prog_4_method_4_code 75 = .ok (.invokevirtual 79, 3) := by decide +kernel
theorem d_Plan_planWeighed_78 : decode prog_4_method_4_code 78 = .ok (.return_, 1) := by decide +kernel
theorem d_Plan_planCheapest_0 : decode prog_4_method_5_code 0 = .ok (.aload_n 0, 1) := by decide +kernel
theorem d_Plan_planCheapest_1 : decode prog_4_method_5_code 1 = .ok (.getfield 40, 3) := by decide +kernel
theorem d_Plan_planCheapest_4 : decode prog_4_method_5_code 4 = .ok (.iconst 3, 1) := by decide +kernel
theorem d_Plan_planCheapest_5 : decode prog_4_method_5_code 5 = .ok (.invokevirtual 108, 3) := by decide +kernel
theorem d_Plan_planCheapest_8 : decode prog_4_method_5_code 8 = .ok (.aload_n 0, 1) := by decide +kernel
theorem d_Plan_planCheapest_9 : decode prog_4_method_5_code 9 = .ok (.getfield 21, 3) := by decide +kernel
theorem d_Plan_planCheapest_12 : decode prog_4_method_5_code 12 = .ok (.iload_n 1, 1) := by decide +kernel
theorem d_Plan_planCheapest_13 : decode prog_4_method_5_code 13 = .ok (.iconst 1, 1) := by decide +kernel
theorem d_Plan_planCheapest_14 : decode prog_4_method_5_code 14 = .ok (.iadd, 1) := by decide +kernel
theorem d_Plan_planCheapest_15 : decode prog_4_method_5_code 15 = .ok (.invokestatic 97, 3) := by decide +kernel
theorem d_Plan_planCheapest_18 : decode prog_4_method_5_code 18 = .ok (.iadd, 1) := by decide +kernel
theorem d_Plan_planCheapest_19 : decode prog_4_method_5_code 19 = .ok (.istore_n 2, 1) := by decide +kernel
theorem d_Plan_planCheapest_20 : decode prog_4_method_5_code 20 = .ok (.aload_n 0, 1) := by decide +kernel
theorem d_Plan_planCheapest_21 : decode prog_4_method_5_code 21 = .ok (.iconst 2, 1) := by decide +kernel
theorem d_Plan_planCheapest_22 : decode prog_4_method_5_code 22 = .ok (.iload_n 1, 1) := by decide +kernel
theorem d_Plan_planCheapest_23 : decode prog_4_method_5_code 23 = .ok (.invokevirtual 79, 3) := by decide +kernel
theorem d_Plan_planCheapest_26 : decode prog_4_method_5_code 26 = .ok (.aload_n 0, 1) := by decide +kernel
theorem d_Plan_planCheapest_27 : decode prog_4_method_5_code 27 = .ok (.getfield 40, 3) := by decide +kernel
theorem d_Plan_planCheapest_30 : decode prog_4_method_5_code 30 = .ok (.iconst 1, 1) := by decide +kernel
theorem d_Plan_planCheapest_31 : decode prog_4_method_5_code 31 = .ok (.invokevirtual 108, 3) := by decide +kernel
theorem d_Plan_planCheapest_34 : decode prog_4_method_5_code 34 = .ok (.istore_n 3, 1) := by decide +kernel
theorem d_Plan_planCheapest_35 : decode prog_4_method_5_code 35 = .ok (.aload_n 0, 1) := by decide +kernel
theorem d_Plan_planCheapest_36 : decode prog_4_method_5_code 36 = .ok (.getfield 40, 3) := by decide +kernel
theorem d_Plan_planCheapest_39 : decode prog_4_method_5_code 39 = .ok (.iconst 4, 1) := by decide +kernel
theorem d_Plan_planCheapest_40 : decode prog_4_method_5_code 40 = .ok (.invokevirtual 108, 3) := by decide +kernel
theorem d_Plan_planCheapest_43 : decode prog_4_method_5_code 43 = .ok (.istore 4, 2) := by decide +kernel
theorem d_Plan_planCheapest_45 : decode prog_4_method_5_code 45 = .ok (.iconst 0, 1) := by decide +kernel
theorem d_Plan_planCheapest_46 : decode prog_4_method_5_code 46 = .ok (.istore 5, 2) := by decide +kernel
theorem d_Plan_planCheapest_48 : decode prog_4_method_5_code 48 = .ok (.iload 5, 2) := by decide +kernel
theorem d_Plan_planCheapest_50 : decode prog_4_method_5_code 50 = .ok (.aload_n 0, 1) := by decide +kernel
theorem d_Plan_planCheapest_51 : decode prog_4_method_5_code 51 = .ok (.getfield 44, 3) := by decide +kernel
theorem d_Plan_planCheapest_54 : decode prog_4_method_5_code 54 = .ok (.invokevirtual 111, 3) := by decide +kernel
theorem d_Plan_planCheapest_57 : decode prog_4_method_5_code 57 = .ok (.if_icmp .ge 90, 3) := by decide +kernel
theorem d_Plan_planCheapest_60 : decode prog_4_method_5_code 60 = .ok (.aload_n 0, 1) := by decide +kernel
theorem d_Plan_planCheapest_61 : decode prog_4_method_5_code 61 = .ok (.getfield 44, 3) := by decide +kernel
theorem d_Plan_planCheapest_64 : decode prog_4_method_5_code 64 = .ok (.iload 5, 2) := by decide +kernel
theorem d_Plan_planCheapest_66 : decode prog_4_method_5_code 66 = .ok (.invokevirtual 83, 3) := by decide +kernel
theorem d_Plan_planCheapest_69 : decode prog_4_method_5_code 69 = .ok (.istore 6, 2) := by decide +kernel
theorem d_Plan_planCheapest_71 : decode prog_4_method_5_code 71 = .ok (.iload 6, 2) := by decide +kernel
theorem d_Plan_planCheapest_73 : decode prog_4_method_5_code 73 = .ok (.iload_n 3, 1) := by decide +kernel
theorem d_Plan_planCheapest_74 : decode prog_4_method_5_code 74 = .ok (.if_icmp .lt 51, 3) := by decide +kernel
theorem d_Plan_planCheapest_77 : decode prog_4_method_5_code 77 = .ok (.iload 4, 2) := by decide +kernel
theorem d_Plan_planCheapest_79 : decode prog_4_method_5_code 79 = .ok (.aload_n 0, 1) := by decide +kernel
theorem d_Plan_planCheapest_80 : decode prog_4_method_5_code 80 = .ok (.getfield 21, 3) := by decide +kernel
theorem d_Plan_planCheapest_83 : decode prog_4_method_5_code 83 = .ok (.iload_n 1, 1) := by decide +kernel
theorem d_Plan_planCheapest_84 : decode prog_4_method_5_code 84 = .ok (.iload 6, 2) := by decide +kernel
theorem d_Plan_planCheapest_86 : decode prog_4_method_5_code 86 = .ok (.iadd, 1) := by decide +kernel
theorem d_Plan_planCheapest_87 : decode prog_4_method_5_code 87 = .ok (.invokestatic 97, 3) := by decide +kernel
theorem d_Plan_planCheapest_90 : decode prog_4_method_5_code 90 = .ok (.iadd, 1) := by decide +kernel
theorem d_Plan_planCheapest_91 : decode prog_4_method_5_code 91 = .ok (.istore 7, 2) := by decide +kernel
theorem d_Plan_planCheapest_93 : decode prog_4_method_5_code 93 = .ok (.iload 7, 2) := by decide +kernel
theorem d_Plan_planCheapest_95 : decode prog_4_method_5_code 95 = .ok (.iload_n 2, 1) := by decide +kernel
theorem d_Plan_planCheapest_96 : decode prog_4_method_5_code 96 = .ok (.if_icmp .ge 23, 3) := by decide +kernel
theorem d_Plan_planCheapest_99 : decode prog_4_method_5_code 99 = .ok (.iload 7, 2) := by decide +kernel
theorem d_Plan_planCheapest_101 : decode prog_4_method_5_code 101 = .ok (.istore_n 2, 1) := by decide +kernel
theorem d_Plan_planCheapest_102 : decode prog_4_method_5_code 102 = .ok (.aload_n 0, 1) := by decide +kernel
theorem d_Plan_planCheapest_103 : decode prog_4_method_5_code 103 = .ok (.iconst 2, 1) := by decide +kernel
theorem d_Plan_planCheapest_104 : decode prog_4_method_5_code 104 = .ok (.iload_n 1, 1) := by decide +kernel
theorem d_Plan_planCheapest_105 : decode prog_4_method_5_code 105 = .ok (.aload_n 0, 1) := by decide +kernel
theorem d_Plan_planCheapest_106 : decode prog_4_method_5_code 106 = .ok (.getfield 44, 3) := by decide +kernel
theorem d_Plan_planCheapest_109 : decode prog_4_method_5_code 109 = .ok (.iload 5, 2) := by decide +kernel
theorem d_Plan_planCheapest_111 : decode prog_4_method_5_code 111 = .ok (.invokevirtual 87, 3) := by decide +kernel
theorem d_Plan_planCheapest_114 : decode prog_4_method_5_code 114 = .ok (.iload 6, 2) := by decide +kernel
theorem d_Plan_planCheapest_116 : decode prog_4_method_5_code 116 = .ok (.invokevirtual 90, 3) := by decide +kernel
theorem d_Plan_planCheapest_119 : decode prog_4_method_5_code 119 = .ok (.iinc 6 (-1), 3) := by decide +kernel
theorem d_Plan_planCheapest_122 : decode prog_4_method_5_code 122 = .ok (.goto (-51), 3) := by decide +kernel
theorem d_Plan_planCheapest_125 : decode prog_4_method_5_code 125 = .ok (.iload_n 3, 1) := by decide +kernel
theorem d_Plan_planCheapest_126 : decode prog_4_method_5_code 126 = .ok (.aload_n 0, 1) := by decide +kernel
theorem d_Plan_planCheapest_127 : decode prog_4_method_5_code 127 = .ok (.getfield 44, 3) := by decide +kernel
theorem d_Plan_planCheapest_130 : decode prog_4_method_5_code 130 = .ok (.iload 5, 2) := by decide +kernel
theorem d_Plan_planCheapest_132 : decode prog_4_method_5_code 132 = .ok (.invokevirtual 83, 3) := by decide +kernel
theorem d_Plan_planCheapest_135 : decode prog_4_method_5_code 135 = .ok (.iconst 1, 1) := by decide +kernel
theorem d_Plan_planCheapest_136 : decode prog_4_method_5_code 136 = .ok (.iadd, 1) := by decide +kernel
theorem d_Plan_planCheapest_137 : decode prog_4_method_5_code 137 = .ok (.invokestatic 114, 3) := by decide +kernel
theorem d_Plan_planCheapest_140 : decode prog_4_method_5_code 140 = .ok (.istore_n 3, 1) := by decide +kernel
theorem d_Plan_planCheapest_141 : decode prog_4_method_5_code 141 = .ok (.iinc 5 1, 3) := by decide +kernel
theorem d_Plan_planCheapest_144 : decode prog_4_method_5_code 144 = .ok (.goto (-96), 3) := by decide +kernel
theorem d_Plan_planCheapest_147 : decode prog_4_method_5_code 147 = .ok (.aload_n 0, 1) := by decide +kernel
theorem d_Plan_planCheapest_148 : decode prog_4_method_5_code 148 = .ok (.getfield 21, 3) := by decide +kernel
theorem d_Plan_planCheapest_151 : decode prog_4_method_5_code 151 = .ok (.iload_n 1, 1) := by decide +kernel
theorem d_Plan_planCheapest_152 : decode prog_4_method_5_code 152 = .ok (.iload_n 2, 1) := by decide +kernel
theorem d_Plan_planCheapest_153 : decode prog_4_method_5_code 153 = .ok (.invokestatic 54, 3) := by decide +kernel
theorem d_Plan_planCheapest_156 : decode prog_4_method_5_code 156 = .ok (.return_, 1) := by decide +kernel
theorem d_Plan_planLetter_0 : decode prog_4_method_6_code 0 = .ok (.aload_n 0, 1) := by decide +kernel
theorem d_Plan_planLetter_1 : decode prog_4_method_6_code 1 = .ok (.iload_n 1, 1) := by decide +kernel
theorem d_Plan_planLetter_2 : decode prog_4_method_6_code 2 = .ok (.iload_n 2, 1) := by decide +kernel
theorem d_Plan_planLetter_3 : decode prog_4_method_6_code 3 = .ok (.iconst 0, 1) := by decide +kernel
theorem d_Plan_planLetter_4 : decode prog_4_method_6_code 4 = .ok (.iconst 1, 1) := by decide +kernel
theorem d_Plan_planLetter_5 : decode prog_4_method_6_code 5 = .ok (.invokevirtual 90, 3) := by decide +kernel
theorem d_Plan_planLetter_8 : decode prog_4_method_6_code 8 = .ok (.return_, 1) := by decide +kernel
theorem d_Plan_planPart_0 : decode prog_4_method_7_code 0 = .ok (.aload_n 0, 1) := by decide +kernel
theorem d_Plan_planPart_1 : decode prog_4_method_7_code 1 = .ok (.getfield 9, 3) := by decide +kernel
theorem d_Plan_planPart_4 : decode prog_4_method_7_code 4 = .ok (.iload_n 1, 1) := by decide +kernel
theorem d_Plan_planPart_5 : decode prog_4_method_7_code 5 = .ok (.bipush 60, 2) := by decide +kernel
theorem d_Plan_planPart_7 : decode prog_4_method_7_code 7 = .ok (.imul, 1) := by decide +kernel
theorem d_Plan_planPart_8 : decode prog_4_method_7_code 8 = .ok (.iload_n 2, 1) := by decide +kernel
theorem d_Plan_planPart_9 : decode prog_4_method_7_code 9 = .ok (.iadd, 1) := by decide +kernel
theorem d_Plan_planPart_10 : decode prog_4_method_7_code 10 = .ok (.iload_n 3, 1) := by decide +kernel
theorem d_Plan_planPart_11 : decode prog_4_method_7_code 11 = .ok (.invokestatic 54, 3) := by decide +kernel
theorem d_Plan_planPart_14 : decode prog_4_method_7_code 14 = .ok (.aload_n 0, 1) := by decide +kernel
theorem d_Plan_planPart_15 : decode prog_4_method_7_code 15 = .ok (.getfield 15, 3) := by decide +kernel
theorem d_Plan_planPart_18 : decode prog_4_method_7_code 18 = .ok (.iload_n 1, 1) := by decide +kernel
theorem d_Plan_planPart_19 : decode prog_4_method_7_code 19 = .ok (.bipush 60, 2) := by decide +kernel
theorem d_Plan_planPart_21 : decode prog_4_method_7_code 21 = .ok (.imul, 1) := by decide +kernel
theorem d_Plan_planPart_22 : decode prog_4_method_7_code 22 = .ok (.iload_n 2, 1) := by decide +kernel
theorem d_Plan_planPart_23 : decode prog_4_method_7_code 23 = .ok (.iadd, 1) := by decide +kernel
theorem d_Plan_planPart_24 : decode prog_4_method_7_code 24 = .ok (.iload 4, 2) := by decide +kernel
theorem d_Plan_planPart_26 : decode prog_4_method_7_code 26 = .ok (.invokestatic 54, 3) := by decide +kernel
theorem d_Plan_planPart_29 : decode prog_4_method_7_code 29 = .ok (.return_, 1) := by decide +kernel
theorem d_Plan_distanceAt_0 : decode prog_4_method_8_code 0 = .ok (.aload_n 0, 1) := by decide +kernel
theorem d_Plan_distanceAt_1 : decode prog_4_method_8_code 1 = .ok (.getfield 9, 3) := by decide +kernel
theorem d_Plan_distanceAt_4 : decode prog_4_method_8_code 4 = .ok (.iload_n 1, 1) := by decide +kernel
theorem d_Plan_distanceAt_5 : decode prog_4_method_8_code 5 = .ok (.bipush 60, 2) := by decide +kernel
theorem d_Plan_distanceAt_7 : decode prog_4_method_8_code 7 = .ok (.imul, 1) := by decide +kernel
theorem d_Plan_distanceAt_8 : decode prog_4_method_8_code 8 = .ok (.iload_n 2, 1) := by decide +kernel
theorem d_Plan_distanceAt_9 : decode prog_4_method_8_code 9 = .ok (.iadd, 1) := by decide +kernel
theorem d_Plan_distanceAt_10 : decode prog_4_method_8_code 10 = .ok (.invokestatic 97, 3) := by decide +kernel
theorem d_Plan_distanceAt_13 : decode prog_4_method_8_code 13 = .ok (.ireturn, 1) := by decide +kernel
theorem d_Plan_lengthAt_0 : decode prog_4_method_9_code 0 = .ok (.aload_n 0, 1) := by decide +kernel
theorem d_Plan_lengthAt_1 : decode prog_4_method_9_code 1 = .ok (.getfield 15, 3) := by decide +kernel
theorem d_Plan_lengthAt_4 : decode prog_4_method_9_code 4 = .ok (.iload_n 1, 1) := by decide +kernel
theorem d_Plan_lengthAt_5 : decode prog_4_method_9_code 5 = .ok (.bipush 60, 2) := by decide +kernel
theorem d_Plan_lengthAt_7 : decode prog_4_method_9_code 7 = .ok (.imul, 1) := by decide +kernel
theorem d_Plan_lengthAt_8 : decode prog_4_method_9_code 8 = .ok (.iload_n 2, 1) := by decide +kernel
theorem d_Plan_lengthAt_9 : decode prog_4_method_9_code 9 = .ok (.iadd, 1) := by decide +kernel
theorem d_Plan_lengthAt_10 : decode prog_4_method_9_code 10 = .ok (.invokestatic 97, 3) := by decide +kernel
theorem d_Plan_lengthAt_13 : decode prog_4_method_9_code 13 = .ok (.ireturn, 1) := by decide +kernel
theorem d_Plan_layOut_0 : decode prog_4_method_10_code 0 = .ok (.aload_n 0, 1) := by decide +kernel
theorem d_Plan_layOut_1 : decode prog_4_method_10_code 1 = .ok (.iconst 0, 1) := by decide +kernel
theorem d_Plan_layOut_2 : decode prog_4_method_10_code 2 = .ok (.putfield 27, 3) := by decide +kernel
theorem d_Plan_layOut_5 : decode prog_4_method_10_code 5 = .ok (.aload_n 0, 1) := by decide +kernel
theorem d_Plan_layOut_6 : decode prog_4_method_10_code 6 = .ok (.iconst 0, 1) := by decide +kernel
theorem d_Plan_layOut_7 : decode prog_4_method_10_code 7 = .ok (.putfield 31, 3) := by decide +kernel
theorem d_Plan_layOut_10 : decode prog_4_method_10_code 10 = .ok (.aload_n 0, 1) := by decide +kernel
theorem d_Plan_layOut_11 : decode prog_4_method_10_code 11 = .ok (.iconst 0, 1) := by decide +kernel
theorem d_Plan_layOut_12 : decode prog_4_method_10_code 12 = .ok (.putfield 34, 3) := by decide +kernel
theorem d_Plan_layOut_15 : decode prog_4_method_10_code 15 = .ok (.aload_n 0, 1) := by decide +kernel
theorem d_Plan_layOut_16 : decode prog_4_method_10_code 16 = .ok (.iconst 0, 1) := by decide +kernel
theorem d_Plan_layOut_17 : decode prog_4_method_10_code 17 = .ok (.putfield 37, 3) := by decide +kernel
theorem d_Plan_layOut_20 : decode prog_4_method_10_code 20 = .ok (.iconst 0, 1) := by decide +kernel
theorem d_Plan_layOut_21 : decode prog_4_method_10_code 21 = .ok (.istore_n 2, 1) := by decide +kernel
theorem d_Plan_layOut_22 : decode prog_4_method_10_code 22 = .ok (.iconst 0, 1) := by decide +kernel
theorem d_Plan_layOut_23 : decode prog_4_method_10_code 23 = .ok (.istore_n 3, 1) := by decide +kernel
theorem d_Plan_layOut_24 : decode prog_4_method_10_code 24 = .ok (.iload_n 3, 1) := by decide +kernel
theorem d_Plan_layOut_25 : decode prog_4_method_10_code 25 = .ok (.aload_n 0, 1) := by decide +kernel
theorem d_Plan_layOut_26 : decode prog_4_method_10_code 26 = .ok (.getfield 40, 3) := by decide +kernel
theorem d_Plan_layOut_29 : decode prog_4_method_10_code 29 = .ok (.invokevirtual 48, 3) := by decide +kernel
theorem d_Plan_layOut_32 : decode prog_4_method_10_code 32 = .ok (.if_icmp .ge 64, 3) := by decide +kernel
theorem d_Plan_layOut_35 : decode prog_4_method_10_code 35 = .ok (.iload_n 3, 1) := by decide +kernel
theorem d_Plan_layOut_36 : decode prog_4_method_10_code 36 = .ok (.iload_n 2, 1) := by decide +kernel
theorem d_Plan_layOut_37 : decode prog_4_method_10_code 37 = .ok (.if_icmp .ne 53, 3) := by decide +kernel
theorem d_Plan_layOut_40 : decode prog_4_method_10_code 40 = .ok (.aload_n 0, 1) := by decide +kernel
theorem d_Plan_layOut_41 : decode prog_4_method_10_code 41 = .ok (.getfield 24, 3) := by decide +kernel
theorem d_Plan_layOut_44 : decode prog_4_method_10_code 44 = .ok (.aload_n 0, 1) := by decide +kernel
theorem d_Plan_layOut_45 : decode prog_4_method_10_code 45 = .ok (.getfield 27, 3) := by decide +kernel
theorem d_Plan_layOut_48 : decode prog_4_method_10_code 48 = .ok (.iload_n 3, 1) := by decide +kernel
theorem d_Plan_layOut_49 : decode prog_4_method_10_code 49 = .ok (.invokestatic 54, 3) := by decide +kernel
theorem d_Plan_layOut_52 : decode prog_4_method_10_code 52 = .ok (.aload_n 0, 1) := by decide +kernel
theorem d_Plan_layOut_53 : decode prog_4_method_10_code 53 = .ok (.dup, 1) := by decide +kernel
theorem d_Plan_layOut_54 : decode prog_4_method_10_code 54 = .ok (.getfield 27, 3) := by decide +kernel
theorem d_Plan_layOut_57 : decode prog_4_method_10_code 57 = .ok (.iconst 1, 1) := by decide +kernel
theorem d_Plan_layOut_58 : decode prog_4_method_10_code 58 = .ok (.iadd, 1) := by decide +kernel
theorem d_Plan_layOut_59 : decode prog_4_method_10_code 59 = .ok (.putfield 27, 3) := by decide +kernel
theorem d_Plan_layOut_62 : decode prog_4_method_10_code 62 = .ok (.aload_n 0, 1) := by decide +kernel
theorem d_Plan_layOut_63 : decode prog_4_method_10_code 63 = .ok (.iload_n 1, 1) := by decide +kernel
theorem d_Plan_layOut_64 : decode prog_4_method_10_code 64 = .ok (.iload_n 3, 1) := by decide +kernel
theorem d_Plan_layOut_65 : decode prog_4_method_10_code 65 = .ok (.invokevirtual 101, 3) := by decide +kernel
theorem d_Plan_layOut_68 : decode prog_4_method_10_code 68 = .ok (.ifCond .eq 13, 3) := by decide +kernel
theorem d_Plan_layOut_71 : decode prog_4_method_10_code 71 = .ok (.aload_n 0, 1) := by decide +kernel
theorem d_Plan_layOut_72 : decode prog_4_method_10_code 72 = .ok (.aload_n 0, 1) := by decide +kernel
theorem d_Plan_layOut_73 : decode prog_4_method_10_code 73 = .ok (.iload_n 1, 1) := by decide +kernel
theorem d_Plan_layOut_74 : decode prog_4_method_10_code 74 = .ok (.iload_n 3, 1) := by decide +kernel
theorem d_Plan_layOut_75 : decode prog_4_method_10_code 75 = .ok (.invokevirtual 105, 3) := by decide +kernel
theorem d_Plan_layOut_78 : decode prog_4_method_10_code 78 = .ok (.invokevirtual 119, 3) := by decide +kernel
theorem d_Plan_layOut_81 : decode prog_4_method_10_code 81 = .ok (.iload_n 3, 1) := by decide +kernel
theorem d_Plan_layOut_82 : decode prog_4_method_10_code 82 = .ok (.aload_n 0, 1) := by decide +kernel
theorem d_Plan_layOut_83 : decode prog_4_method_10_code 83 = .ok (.iload_n 1, 1) := by decide +kernel
theorem d_Plan_layOut_84 : decode prog_4_method_10_code 84 = .ok (.iload_n 3, 1) := by decide +kernel
theorem d_Plan_layOut_85 : decode prog_4_method_10_code 85 = .ok (.invokevirtual 105, 3) := by decide +kernel
theorem d_Plan_layOut_88 : decode prog_4_method_10_code 88 = .ok (.iadd, 1) := by decide +kernel
theorem d_Plan_layOut_89 : decode prog_4_method_10_code 89 = .ok (.istore_n 2, 1) := by decide +kernel
theorem d_Plan_layOut_90 : decode prog_4_method_10_code 90 = .ok (.iinc 3 1, 3) := by decide +kernel
theorem d_Plan_layOut_93 : decode prog_4_method_10_code 93 = .ok (.goto (-69), 3) := by decide +kernel
theorem d_Plan_layOut_96 : decode prog_4_method_10_code 96 = .ok (.return_, 1) := by decide +kernel
theorem d_Plan_countCopy_0 : decode prog_4_method_11_code 0 = .ok (.aload_n 0, 1) := by decide +kernel
theorem d_Plan_countCopy_1 : decode prog_4_method_11_code 1 = .ok (.dup, 1) := by decide +kernel
theorem d_Plan_countCopy_2 : decode prog_4_method_11_code 2 = .ok (.getfield 31, 3) := by decide +kernel
theorem d_Plan_countCopy_5 : decode prog_4_method_11_code 5 = .ok (.iconst 1, 1) := by decide +kernel
theorem d_Plan_countCopy_6 : decode prog_4_method_11_code 6 = .ok (.iadd, 1) := by decide +kernel
theorem d_Plan_countCopy_7 : decode prog_4_method_11_code 7 = .ok (.putfield 31, 3) := by decide +kernel
theorem d_Plan_countCopy_10 : decode prog_4_method_11_code 10 = .ok (.aload_n 0, 1) := by decide +kernel
theorem d_Plan_countCopy_11 : decode prog_4_method_11_code 11 = .ok (.dup, 1) := by decide +kernel
theorem d_Plan_countCopy_12 : decode prog_4_method_11_code 12 = .ok (.getfield 34, 3) := by decide +kernel
theorem d_Plan_countCopy_15 : decode prog_4_method_11_code 15 = .ok (.iload_n 1, 1) := by decide +kernel
theorem d_Plan_countCopy_16 : decode prog_4_method_11_code 16 = .ok (.iadd, 1) := by decide +kernel
theorem d_Plan_countCopy_17 : decode prog_4_method_11_code 17 = .ok (.putfield 34, 3) := by decide +kernel
theorem d_Plan_countCopy_20 : decode prog_4_method_11_code 20 = .ok (.aload_n 0, 1) := by decide +kernel
theorem d_Plan_countCopy_21 : decode prog_4_method_11_code 21 = .ok (.aload_n 0, 1) := by decide +kernel
theorem d_Plan_countCopy_22 : decode prog_4_method_11_code 22 = .ok (.getfield 37, 3) := by decide +kernel
theorem d_Plan_countCopy_25 : decode prog_4_method_11_code 25 = .ok (.iload_n 1, 1) := by decide +kernel
theorem d_Plan_countCopy_26 : decode prog_4_method_11_code 26 = .ok (.invokestatic 114, 3) := by decide +kernel
theorem d_Plan_countCopy_29 : decode prog_4_method_11_code 29 = .ok (.putfield 37, 3) := by decide +kernel
theorem d_Plan_countCopy_32 : decode prog_4_method_11_code 32 = .ok (.return_, 1) := by decide +kernel
theorem d_Plan_parts_0 : decode prog_4_method_12_code 0 = .ok (.aload_n 0, 1) := by decide +kernel
theorem d_Plan_parts_1 : decode prog_4_method_12_code 1 = .ok (.getfield 27, 3) := by decide +kernel
theorem d_Plan_parts_4 : decode prog_4_method_12_code 4 = .ok (.ireturn, 1) := by decide +kernel
theorem d_Plan_copies_0 : decode prog_4_method_13_code 0 = .ok (.aload_n 0, 1) := by decide +kernel
theorem d_Plan_copies_1 : decode prog_4_method_13_code 1 = .ok (.getfield 31, 3) := by decide +kernel
theorem d_Plan_copies_4 : decode prog_4_method_13_code 4 = .ok (.ireturn, 1) := by decide +kernel
theorem d_Plan_copiedLetters_0 : decode prog_4_method_14_code 0 = .ok (.aload_n 0, 1) := by decide +kernel
theorem d_Plan_copiedLetters_1 : decode prog_4_method_14_code 1 = .ok (.getfield 34, 3) := by decide +kernel
theorem d_Plan_copiedLetters_4 : decode prog_4_method_14_code 4 = .ok (.ireturn, 1) := by decide +kernel
theorem d_Plan_longestCopy_0 : decode prog_4_method_15_code 0 = .ok (.aload_n 0, 1) := by decide +kernel
theorem d_Plan_longestCopy_1 : decode prog_4_method_15_code 1 = .ok (.getfield 37, 3) := by decide +kernel
theorem d_Plan_longestCopy_4 : decode prog_4_method_15_code 4 = .ok (.ireturn, 1) := by decide +kernel
theorem d_Plan_cost_0 : decode prog_4_method_16_code 0 = .ok (.aload_n 0, 1) := by decide +kernel
theorem d_Plan_cost_1 : decode prog_4_method_16_code 1 = .ok (.getfield 27, 3) := by decide +kernel
theorem d_Plan_cost_4 : decode prog_4_method_16_code 4 = .ok (.aload_n 0, 1) := by decide +kernel
theorem d_Plan_cost_5 : decode prog_4_method_16_code 5 = .ok (.getfield 31, 3) := by decide +kernel
theorem d_Plan_cost_8 : decode prog_4_method_16_code 8 = .ok (.isub, 1) := by decide +kernel
theorem d_Plan_cost_9 : decode prog_4_method_16_code 9 = .ok (.aload_n 0, 1) := by decide +kernel
theorem d_Plan_cost_10 : decode prog_4_method_16_code 10 = .ok (.getfield 40, 3) := by decide +kernel
theorem d_Plan_cost_13 : decode prog_4_method_16_code 13 = .ok (.iconst 3, 1) := by decide +kernel
theorem d_Plan_cost_14 : decode prog_4_method_16_code 14 = .ok (.invokevirtual 108, 3) := by decide +kernel
theorem d_Plan_cost_17 : decode prog_4_method_16_code 17 = .ok (.imul, 1) := by decide +kernel
theorem d_Plan_cost_18 : decode prog_4_method_16_code 18 = .ok (.aload_n 0, 1) := by decide +kernel
theorem d_Plan_cost_19 : decode prog_4_method_16_code 19 = .ok (.getfield 31, 3) := by decide +kernel
theorem d_Plan_cost_22 : decode prog_4_method_16_code 22 = .ok (.aload_n 0, 1) := by decide +kernel
theorem d_Plan_cost_23 : decode prog_4_method_16_code 23 = .ok (.getfield 40, 3) := by decide +kernel
theorem d_Plan_cost_26 : decode prog_4_method_16_code 26 = .ok (.iconst 4, 1) := by decide +kernel
theorem d_Plan_cost_27 : decode prog_4_method_16_code 27 = .ok (.invokevirtual 108, 3) := by decide +kernel
theorem d_Plan_cost_30 : decode prog_4_method_16_code 30 = .ok (.imul, 1) := by decide +kernel
theorem d_Plan_cost_31 : decode prog_4_method_16_code 31 = .ok (.iadd, 1) := by decide +kernel
theorem d_Plan_cost_32 : decode prog_4_method_16_code 32 = .ok (.ireturn, 1) := by decide +kernel
theorem d_Plan_beginOf_0 : decode prog_4_method_17_code 0 = .ok (.aload_n 0, 1) := by decide +kernel
theorem d_Plan_beginOf_1 : decode prog_4_method_17_code 1 = .ok (.getfield 24, 3) := by decide +kernel
theorem d_Plan_beginOf_4 : decode prog_4_method_17_code 4 = .ok (.iload_n 1, 1) := by decide +kernel
theorem d_Plan_beginOf_5 : decode prog_4_method_17_code 5 = .ok (.invokestatic 97, 3) := by decide +kernel
theorem d_Plan_beginOf_8 : decode prog_4_method_17_code 8 = .ok (.ireturn, 1) := by decide +kernel
theorem d_Plan_indexAt_0 : decode prog_4_method_18_code 0 = .ok (.iconst 0, 1) := by decide +kernel
theorem d_Plan_indexAt_1 : decode prog_4_method_18_code 1 = .ok (.istore_n 2, 1) := by decide +kernel
theorem d_Plan_indexAt_2 : decode prog_4_method_18_code 2 = .ok (.iload_n 2, 1) := by decide +kernel
theorem d_Plan_indexAt_3 : decode prog_4_method_18_code 3 = .ok (.iconst 1, 1) := by decide +kernel
theorem d_Plan_indexAt_4 : decode prog_4_method_18_code 4 = .ok (.iadd, 1) := by decide +kernel
theorem d_Plan_indexAt_5 : decode prog_4_method_18_code 5 = .ok (.aload_n 0, 1) := by decide +kernel
theorem d_Plan_indexAt_6 : decode prog_4_method_18_code 6 = .ok (.getfield 27, 3) := by decide +kernel
theorem d_Plan_indexAt_9 : decode prog_4_method_18_code 9 = .ok (.if_icmp .ge 20, 3) := by decide +kernel
theorem d_Plan_indexAt_12 : decode prog_4_method_18_code 12 = .ok (.aload_n 0, 1) := by decide +kernel
theorem d_Plan_indexAt_13 : decode prog_4_method_18_code 13 = .ok (.iload_n 2, 1) := by decide +kernel
theorem d_Plan_indexAt_14 : decode prog_4_method_18_code 14 = .ok (.iconst 1, 1) := by decide +kernel
theorem d_Plan_indexAt_15 : decode prog_4_method_18_code 15 = .ok (.iadd, 1) := by decide +kernel
theorem d_Plan_indexAt_16 : decode prog_4_method_18_code 16 = .ok (.invokevirtual 122, 3) := by decide +kernel
theorem d_Plan_indexAt_19 : decode prog_4_method_18_code 19 = .ok (.iload_n 1, 1) := by decide +kernel
theorem d_Plan_indexAt_20 : decode prog_4_method_18_code 20 = .ok (.if_icmp .gt 9, 3) := by decide +kernel
theorem d_Plan_indexAt_23 : decode prog_4_method_18_code 23 = .ok (.iinc 2 1, 3) := by decide +kernel
theorem d_Plan_indexAt_26 : decode prog_4_method_18_code 26 = .ok (.goto (-24), 3) := by decide +kernel
theorem d_Plan_indexAt_29 : decode prog_4_method_18_code 29 = .ok (.iload_n 2, 1) := by decide +kernel
theorem d_Plan_indexAt_30 : decode prog_4_method_18_code 30 = .ok (.ireturn, 1) := by decide +kernel
theorem d_Plan_firstUnlike_0 : decode prog_4_method_19_code 0 = .ok (.iconst 0, 1) := by decide +kernel
theorem d_Plan_firstUnlike_1 : decode prog_4_method_19_code 1 = .ok (.istore_n 3, 1) := by decide +kernel
theorem d_Plan_firstUnlike_2 : decode prog_4_method_19_code 2 = .ok (.iconst 0, 1) := by decide +kernel
theorem d_Plan_firstUnlike_3 : decode prog_4_method_19_code 3 = .ok (.istore 4, 2) := by decide +kernel
theorem d_Plan_firstUnlike_5 : decode prog_4_method_19_code 5 = .ok (.iload 4, 2) := by decide +kernel
theorem d_Plan_firstUnlike_7 : decode prog_4_method_19_code 7 = .ok (.aload_n 0, 1) := by decide +kernel
theorem d_Plan_firstUnlike_8 : decode prog_4_method_19_code 8 = .ok (.getfield 40, 3) := by decide +kernel
theorem d_Plan_firstUnlike_11 : decode prog_4_method_19_code 11 = .ok (.invokevirtual 48, 3) := by decide +kernel
theorem d_Plan_firstUnlike_14 : decode prog_4_method_19_code 14 = .ok (.if_icmp .ge 63, 3) := by decide +kernel
theorem d_Plan_firstUnlike_17 : decode prog_4_method_19_code 17 = .ok (.iload 4, 2) := by decide +kernel
theorem d_Plan_firstUnlike_19 : decode prog_4_method_19_code 19 = .ok (.iload_n 3, 1) := by decide +kernel
theorem d_Plan_firstUnlike_20 : decode prog_4_method_19_code 20 = .ok (.if_icmp .ne 51, 3) := by decide +kernel
theorem d_Plan_firstUnlike_23 : decode prog_4_method_19_code 23 = .ok (.aload_n 0, 1) := by decide +kernel
theorem d_Plan_firstUnlike_24 : decode prog_4_method_19_code 24 = .ok (.iload_n 1, 1) := by decide +kernel
theorem d_Plan_firstUnlike_25 : decode prog_4_method_19_code 25 = .ok (.iload 4, 2) := by decide +kernel
theorem d_Plan_firstUnlike_27 : decode prog_4_method_19_code 27 = .ok (.invokevirtual 101, 3) := by decide +kernel
theorem d_Plan_firstUnlike_30 : decode prog_4_method_19_code 30 = .ok (.aload_n 0, 1) := by decide +kernel
theorem d_Plan_firstUnlike_31 : decode prog_4_method_19_code 31 = .ok (.iload_n 2, 1) := by decide +kernel
theorem d_Plan_firstUnlike_32 : decode prog_4_method_19_code 32 = .ok (.iload 4, 2) := by decide +kernel
theorem d_Plan_firstUnlike_34 : decode prog_4_method_19_code 34 = .ok (.invokevirtual 101, 3) := by decide +kernel
theorem d_Plan_firstUnlike_37 : decode prog_4_method_19_code 37 = .ok (.if_icmp .ne 20, 3) := by decide +kernel
theorem d_Plan_firstUnlike_40 : decode prog_4_method_19_code 40 = .ok (.aload_n 0, 1) := by decide +kernel
theorem d_Plan_firstUnlike_41 : decode prog_4_method_19_code 41 = .ok (.iload_n 1, 1) := by decide +kernel
theorem d_Plan_firstUnlike_42 : decode prog_4_method_19_code 42 = .ok (.iload 4, 2) := by decide +kernel
theorem d_Plan_firstUnlike_44 : decode prog_4_method_19_code 44 = .ok (.invokevirtual 105, 3) := by decide +kernel
theorem d_Plan_firstUnlike_47 : decode prog_4_method_19_code 47 = .ok (.aload_n 0, 1) := by decide +kernel
theorem d_Plan_firstUnlike_48 : decode prog_4_method_19_code 48 = .ok (.iload_n 2, 1) := by decide +kernel
theorem d_Plan_firstUnlike_49 : decode prog_4_method_19_code 49 = .ok (.iload 4, 2) := by decide +kernel
theorem d_Plan_firstUnlike_51 : decode prog_4_method_19_code 51 = .ok (.invokevirtual 105, 3) := by decide +kernel
theorem d_Plan_firstUnlike_54 : decode prog_4_method_19_code 54 = .ok (.if_icmp .eq 6, 3) := by decide +kernel
theorem d_Plan_firstUnlike_57 : decode prog_4_method_19_code 57 = .ok (.iload 4, 2) := by decide +kernel
theorem d_Plan_firstUnlike_59 : decode prog_4_method_19_code 59 = .ok (.ireturn, 1) := by decide +kernel
theorem d_Plan_firstUnlike_60 : decode prog_4_method_19_code 60 = .ok (.iload 4, 2) := by decide +kernel
theorem d_Plan_firstUnlike_62 : decode prog_4_method_19_code 62 = .ok (.aload_n 0, 1) := by decide +kernel
theorem d_Plan_firstUnlike_63 : decode prog_4_method_19_code 63 = .ok (.iload_n 1, 1) := by decide +kernel
theorem d_Plan_firstUnlike_64 : decode prog_4_method_19_code 64 = .ok (.iload 4, 2) := by decide +kernel
theorem d_Plan_firstUnlike_66 : decode prog_4_method_19_code 66 = .ok (.invokevirtual 105, 3) := by decide +kernel
theorem d_Plan_firstUnlike_69 : decode prog_4_method_19_code 69 = .ok (.iadd, 1) := by decide +kernel
theorem d_Plan_firstUnlike_70 : decode prog_4_method_19_code 70 = .ok (.istore_n 3, 1) := by decide +kernel
theorem d_Plan_firstUnlike_71 : decode prog_4_method_19_code 71 = .ok (.iinc 4 1, 3) := by decide +kernel
theorem d_Plan_firstUnlike_74 : decode prog_4_method_19_code 74 = .ok (.goto (-69), 3) := by decide +kernel
theorem d_Plan_firstUnlike_77 : decode prog_4_method_19_code 77 = .ok (.iconst (-1), 1) := by decide +kernel
theorem d_Plan_firstUnlike_78 : decode prog_4_method_19_code 78 = .ok (.ireturn, 1) := by decide +kernel
theorem d_State_init_0 : decode prog_5_method_1_code 0 = .ok (.aload_n 0, 1) := by decide +kernel
theorem d_State_init_1 : decode prog_5_method_1_code 1 = .ok (.invokespecial 3, 3) := by decide +kernel
theorem d_State_init_4 : decode prog_5_method_1_code 4 = .ok (.aload_n 0, 1) := by decide +kernel
theorem d_State_init_5 : decode prog_5_method_1_code 5 = .ok (.bipush 60, 2) := by decide +kernel
theorem d_State_init_7 : decode prog_5_method_1_code 7 = .ok (.newarray .int, 2) := by decide +kernel
theorem d_State_init_9 : decode prog_5_method_1_code 9 = .ok (.putfield 9, 3) := by decide +kernel
theorem d_State_init_12 : decode prog_5_method_1_code 12 = .ok (.aload_n 0, 1) := by decide +kernel
theorem d_State_init_13 : decode prog_5_method_1_code 13 = .ok (.iconst 5, 1) := by decide +kernel
theorem d_State_init_14 : decode prog_5_method_1_code 14 = .ok (.newarray .int, 2) := by decide +kernel
theorem d_State_init_16 : decode prog_5_method_1_code 16 = .ok (.putfield 15, 3) := by decide +kernel
theorem d_State_init_19 : decode prog_5_method_1_code 19 = .ok (.aload_n 0, 1) := by decide +kernel
theorem d_State_init_20 : decode prog_5_method_1_code 20 = .ok (.iconst 0, 1) := by decide +kernel
theorem d_State_init_21 : decode prog_5_method_1_code 21 = .ok (.putfield 18, 3) := by decide +kernel
theorem d_State_init_24 : decode prog_5_method_1_code 24 = .ok (.iconst 0, 1) := by decide +kernel
theorem d_State_init_25 : decode prog_5_method_1_code 25 = .ok (.istore_n 1, 1) := by decide +kernel
theorem d_State_init_26 : decode prog_5_method_1_code 26 = .ok (.iload_n 1, 1) := by decide +kernel
theorem d_State_init_27 : decode prog_5_method_1_code 27 = .ok (.iconst 5, 1) := by decide +kernel
theorem d_State_init_28 : decode prog_5_method_1_code 28 = .ok (.if_icmp .ge 24, 3) := by decide +kernel
theorem d_State_init_31 : decode prog_5_method_1_code 31 = .ok (.aload_n 0, 1) := by decide +kernel
theorem d_State_init_32 : decode prog_5_method_1_code 32 = .ok (.getfield 15, 3) := by decide +kernel
theorem d_State_init_35 : decode prog_5_method_1_code 35 = .ok (.iload_n 1, 1) := by decide +kernel
theorem d_State_init_36 : decode prog_5_method_1_code 36 = .ok (.getstatic 22, 3) := by decide +kernel
theorem d_State_init_39 : decode prog_5_method_1_code 39 = .ok (.iload_n 1, 1) := by decide +kernel
theorem d_State_init_40 : decode prog_5_method_1_code 40 = .ok (.invokestatic 25, 3) := by decide +kernel
theorem d_State_init_43 : decode prog_5_method_1_code 43 = .ok (.invokestatic 29, 3) := by decide +kernel
theorem d_State_init_46 : decode prog_5_method_1_code 46 = .ok (.iinc 1 1, 3) := by decide +kernel
theorem d_State_init_49 : decode prog_5_method_1_code 49 = .ok (.goto (-23), 3) := by decide +kernel
theorem d_State_init_52 : decode prog_5_method_1_code 52 = .ok (.return_, 1) := by decide +kernel
theorem d_State_size_0 : decode prog_5_method_2_code 0 = .ok (.aload_n 0, 1) := by decide +kernel
theorem d_State_size_1 : decode prog_5_method_2_code 1 = .ok (.getfield 18, 3) := by decide +kernel
theorem d_State_size_4 : decode prog_5_method_2_code 4 = .ok (.ireturn, 1) := by decide +kernel
theorem d_State_hasPlace_0 : decode prog_5_method_3_code 0 = .ok (.iload_n 1, 1) := by decide +kernel
theorem d_State_hasPlace_1 : decode prog_5_method_3_code 1 = .ok (.ifCond .lt 15, 3) := by decide +kernel
theorem d_State_hasPlace_4 : decode prog_5_method_3_code 4 = .ok (.iload_n 1, 1) := by decide +kernel
theorem d_State_hasPlace_5 : decode prog_5_method_3_code 5 = .ok (.aload_n 0, 1) := by decide +kernel
theorem d_State_hasPlace_6 : decode prog_5_method_3_code 6 = .ok (.getfield 18, 3) := by decide +kernel
theorem d_State_hasPlace_9 : decode prog_5_method_3_code 9 = .ok (.if_icmp .ge 7, 3) := by decide +kernel
theorem d_State_hasPlace_12 : decode prog_5_method_3_code 12 = .ok (.iconst 1, 1) := by decide +kernel
theorem d_State_hasPlace_13 : decode prog_5_method_3_code 13 = .ok (.goto 4, 3) := by decide +kernel
theorem d_State_hasPlace_16 : decode prog_5_method_3_code 16 = .ok (.iconst 0, 1) := by decide +kernel
theorem d_State_hasPlace_17 : decode prog_5_method_3_code 17 = .ok (.ireturn, 1) := by decide +kernel
theorem d_State_letterAt_0 : decode prog_5_method_4_code 0 = .ok (.aload_n 0, 1) := by decide +kernel
theorem d_State_letterAt_1 : decode prog_5_method_4_code 1 = .ok (.getfield 9, 3) := by decide +kernel
theorem d_State_letterAt_4 : decode prog_5_method_4_code 4 = .ok (.iload_n 1, 1) := by decide +kernel
theorem d_State_letterAt_5 : decode prog_5_method_4_code 5 = .ok (.invokestatic 25, 3) := by decide +kernel
theorem d_State_letterAt_8 : decode prog_5_method_4_code 8 = .ok (.ireturn, 1) := by decide +kernel
theorem d_State_changeLetter_0 : decode prog_5_method_5_code 0 = .ok (.aload_n 0, 1) := by decide +kernel
theorem d_State_changeLetter_1 : decode prog_5_method_5_code 1 = .ok (.getfield 9, 3) := by decide +kernel
theorem d_State_changeLetter_4 : decode prog_5_method_5_code 4 = .ok (.iload_n 1, 1) := by decide +kernel
theorem d_State_changeLetter_5 : decode prog_5_method_5_code 5 = .ok (.iload_n 2, 1) := by decide +kernel
theorem d_State_changeLetter_6 : decode prog_5_method_5_code 6 = .ok (.invokestatic 29, 3) := by decide +kernel
theorem d_State_changeLetter_9 : decode prog_5_method_5_code 9 = .ok (.return_, 1) := by decide +kernel
theorem d_State_append_0 : decode prog_5_method_6_code 0 = .ok (.aload_n 0, 1) := by decide +kernel
theorem d_State_append_1 : decode prog_5_method_6_code 1 = .ok (.getfield 18, 3) := by decide +kernel
theorem d_State_append_4 : decode prog_5_method_6_code 4 = .ok (.bipush 60, 2) := by decide +kernel
theorem d_State_append_6 : decode prog_5_method_6_code 6 = .ok (.if_icmp .ge 25, 3) := by decide +kernel
theorem d_State_append_9 : decode prog_5_method_6_code 9 = .ok (.aload_n 0, 1) := by decide +kernel
theorem d_State_append_10 : decode prog_5_method_6_code 10 = .ok (.getfield 9, 3) := by decide +kernel
theorem d_State_append_13 : decode prog_5_method_6_code 13 = .ok (.aload_n 0, 1) := by decide +kernel
theorem d_State_append_14 : decode prog_5_method_6_code 14 = .ok (.getfield 18, 3) := by decide +kernel
theorem d_State_append_17 : decode prog_5_method_6_code 17 = .ok (.iload_n 1, 1) := by decide +kernel
theorem d_State_append_18 : decode prog_5_method_6_code 18 = .ok (.invokestatic 29, 3) := by decide +kernel
theorem d_State_append_21 : decode prog_5_method_6_code 21 = .ok (.aload_n 0, 1) := by decide +kernel
theorem d_State_append_22 : decode prog_5_method_6_code 22 = .ok (.dup, 1) := by decide +kernel
theorem d_State_append_23 : decode prog_5_method_6_code 23 = .ok (.getfield 18, 3) := by decide +kernel
theorem d_State_append_26 : decode prog_5_method_6_code 26 = .ok (.iconst 1, 1) := by decide +kernel
theorem d_State_append_27 : decode prog_5_method_6_code 27 = .ok (.iadd, 1) := by decide +kernel
theorem d_State_append_28 : decode prog_5_method_6_code 28 = .ok (.putfield 18, 3) := by decide +kernel
theorem d_State_append_31 : decode prog_5_method_6_code 31 = .ok (.return_, 1) := by decide +kernel
theorem d_State_appendCopy_0 : decode prog_5_method_7_code 0 = .ok (.iconst 0, 1) := by decide +kernel
theorem d_State_appendCopy_1 : decode prog_5_method_7_code 1 = .ok (.istore_n 3, 1) := by decide +kernel
theorem d_State_appendCopy_2 : decode prog_5_method_7_code 2 = .ok (.iload_n 3, 1) := by decide +kernel
theorem d_State_appendCopy_3 : decode prog_5_method_7_code 3 = .ok (.iload_n 2, 1) := by decide +kernel
theorem d_State_appendCopy_4 : decode prog_5_method_7_code 4 = .ok (.if_icmp .ge 23, 3) := by decide +kernel
theorem d_State_appendCopy_7 : decode prog_5_method_7_code 7 = .ok (.aload_n 0, 1) := by decide +kernel
theorem d_State_appendCopy_8 : decode prog_5_method_7_code 8 = .ok (.aload_n 0, 1) := by decide +kernel
theorem d_State_appendCopy_9 : decode prog_5_method_7_code 9 = .ok (.aload_n 0, 1) := by decide +kernel
theorem d_State_appendCopy_10 : decode prog_5_method_7_code 10 = .ok (.getfield 18, 3) := by decide +kernel
theorem d_State_appendCopy_13 : decode prog_5_method_7_code 13 = .ok (.iload_n 1, 1) := by decide +kernel
theorem d_State_appendCopy_14 : decode prog_5_method_7_code 14 = .ok (.isub, 1) := by decide +kernel
theorem d_State_appendCopy_15 : decode prog_5_method_7_code 15 = .ok (.invokevirtual 33, 3) := by decide +kernel
theorem d_State_appendCopy_18 : decode prog_5_method_7_code 18 = .ok (.invokevirtual 37, 3) := by decide +kernel
theorem d_State_appendCopy_21 : decode prog_5_method_7_code 21 = .ok (.iinc 3 1, 3) := by decide +kernel
theorem d_State_appendCopy_24 : decode prog_5_method_7_code 24 = .ok (.goto (-22), 3) := by decide +kernel
theorem d_State_appendCopy_27 : decode prog_5_method_7_code 27 = .ok (.return_, 1) := by decide +kernel
theorem d_State_shorten_0 : decode prog_5_method_8_code 0 = .ok (.aload_n 0, 1) := by decide +kernel
theorem d_State_shorten_1 : decode prog_5_method_8_code 1 = .ok (.iconst 0, 1) := by decide +kernel
theorem d_State_shorten_2 : decode prog_5_method_8_code 2 = .ok (.aload_n 0, 1) := by decide +kernel
theorem d_State_shorten_3 : decode prog_5_method_8_code 3 = .ok (.getfield 18, 3) := by decide +kernel
theorem d_State_shorten_6 : decode prog_5_method_8_code 6 = .ok (.iload_n 1, 1) := by decide +kernel
theorem d_State_shorten_7 : decode prog_5_method_8_code 7 = .ok (.isub, 1) := by decide +kernel
theorem d_State_shorten_8 : decode prog_5_method_8_code 8 = .ok (.invokestatic 41, 3) := by decide +kernel
theorem d_State_shorten_11 : decode prog_5_method_8_code 11 = .ok (.putfield 18, 3) := by decide +kernel
theorem d_State_shorten_14 : decode prog_5_method_8_code 14 = .ok (.return_, 1) := by decide +kernel
theorem d_State_setting_0 : decode prog_5_method_9_code 0 = .ok (.aload_n 0, 1) := by decide +kernel
theorem d_State_setting_1 : decode prog_5_method_9_code 1 = .ok (.getfield 15, 3) := by decide +kernel
theorem d_State_setting_4 : decode prog_5_method_9_code 4 = .ok (.iload_n 1, 1) := by decide +kernel
theorem d_State_setting_5 : decode prog_5_method_9_code 5 = .ok (.invokestatic 25, 3) := by decide +kernel
theorem d_State_setting_8 : decode prog_5_method_9_code 8 = .ok (.ireturn, 1) := by decide +kernel
theorem d_State_changeSetting_0 : decode prog_5_method_10_code 0 = .ok (.aload_n 0, 1) := by decide +kernel
theorem d_State_changeSetting_1 : decode prog_5_method_10_code 1 = .ok (.getfield 15, 3) := by decide +kernel
theorem d_State_changeSetting_4 : decode prog_5_method_10_code 4 = .ok (.iload_n 1, 1) := by decide +kernel
theorem d_State_changeSetting_5 : decode prog_5_method_10_code 5 = .ok (.iload_n 2, 1) := by decide +kernel
theorem d_State_changeSetting_6 : decode prog_5_method_10_code 6 = .ok (.invokestatic 29, 3) := by decide +kernel
theorem d_State_changeSetting_9 : decode prog_5_method_10_code 9 = .ok (.return_, 1) := by decide +kernel
theorem d_State_savingOf_0 : decode prog_5_method_11_code 0 = .ok (.iload_n 1, 1) := by decide +kernel
theorem d_State_savingOf_1 : decode prog_5_method_11_code 1 = .ok (.aload_n 0, 1) := by decide +kernel
theorem d_State_savingOf_2 : decode prog_5_method_11_code 2 = .ok (.iconst 3, 1) := by decide +kernel
theorem d_State_savingOf_3 : decode prog_5_method_11_code 3 = .ok (.invokevirtual 47, 3) := by decide +kernel
theorem d_State_savingOf_6 : decode prog_5_method_11_code 6 = .ok (.imul, 1) := by decide +kernel
theorem d_State_savingOf_7 : decode prog_5_method_11_code 7 = .ok (.aload_n 0, 1) := by decide +kernel
theorem d_State_savingOf_8 : decode prog_5_method_11_code 8 = .ok (.iconst 4, 1) := by decide +kernel
theorem d_State_savingOf_9 : decode prog_5_method_11_code 9 = .ok (.invokevirtual 47, 3) := by decide +kernel
theorem d_State_savingOf_12 : decode prog_5_method_11_code 12 = .ok (.isub, 1) := by decide +kernel
theorem d_State_savingOf_13 : decode prog_5_method_11_code 13 = .ok (.ireturn, 1) := by decide +kernel
theorem d_State_likeLength_0 : decode prog_5_method_12_code 0 = .ok (.iconst 0, 1) := by decide +kernel
theorem d_State_likeLength_1 : decode prog_5_method_12_code 1 = .ok (.istore_n 3, 1) := by decide +kernel
theorem d_State_likeLength_2 : decode prog_5_method_12_code 2 = .ok (.iload_n 2, 1) := by decide +kernel
theorem d_State_likeLength_3 : decode prog_5_method_12_code 3 = .ok (.iload_n 3, 1) := by decide +kernel
theorem d_State_likeLength_4 : decode prog_5_method_12_code 4 = .ok (.iadd, 1) := by decide +kernel
theorem d_State_likeLength_5 : decode prog_5_method_12_code 5 = .ok (.aload_n 0, 1) := by decide +kernel
theorem d_State_likeLength_6 : decode prog_5_method_12_code 6 = .ok (.getfield 18, 3) := by decide +kernel
theorem d_State_likeLength_9 : decode prog_5_method_12_code 9 = .ok (.if_icmp .ge 26, 3) := by decide +kernel
theorem d_State_likeLength_12 : decode prog_5_method_12_code 12 = .ok (.aload_n 0, 1) := by decide +kernel
theorem d_State_likeLength_13 : decode prog_5_method_12_code 13 = .ok (.iload_n 1, 1) := by decide +kernel
theorem d_State_likeLength_14 : decode prog_5_method_12_code 14 = .ok (.iload_n 3, 1) := by decide +kernel
theorem d_State_likeLength_15 : decode prog_5_method_12_code 15 = .ok (.iadd, 1) := by decide +kernel
theorem d_State_likeLength_16 : decode prog_5_method_12_code 16 = .ok (.invokevirtual 33, 3) := by decide +kernel
theorem d_State_likeLength_19 : decode prog_5_method_12_code 19 = .ok (.aload_n 0, 1) := by decide +kernel
theorem d_State_likeLength_20 : decode prog_5_method_12_code 20 = .ok (.iload_n 2, 1) := by decide +kernel
theorem d_State_likeLength_21 : decode prog_5_method_12_code 21 = .ok (.iload_n 3, 1) := by decide +kernel
theorem d_State_likeLength_22 : decode prog_5_method_12_code 22 = .ok (.iadd, 1) := by decide +kernel
theorem d_State_likeLength_23 : decode prog_5_method_12_code 23 = .ok (.invokevirtual 33, 3) := by decide +kernel
theorem d_State_likeLength_26 : decode prog_5_method_12_code 26 = .ok (.if_icmp .ne 9, 3) := by decide +kernel
theorem d_State_likeLength_29 : decode prog_5_method_12_code 29 = .ok (.iinc 3 1, 3) := by decide +kernel
theorem d_State_likeLength_32 : decode prog_5_method_12_code 32 = .ok (.goto (-30), 3) := by decide +kernel
theorem d_State_likeLength_35 : decode prog_5_method_12_code 35 = .ok (.iload_n 3, 1) := by decide +kernel
theorem d_State_likeLength_36 : decode prog_5_method_12_code 36 = .ok (.ireturn, 1) := by decide +kernel
theorem d_State_unlikeLetters_0 : decode prog_5_method_13_code 0 = .ok (.iconst 0, 1) := by decide +kernel
theorem d_State_unlikeLetters_1 : decode prog_5_method_13_code 1 = .ok (.istore_n 1, 1) := by decide +kernel
theorem d_State_unlikeLetters_2 : decode prog_5_method_13_code 2 = .ok (.iconst 0, 1) := by decide +kernel
theorem d_State_unlikeLetters_3 : decode prog_5_method_13_code 3 = .ok (.istore_n 2, 1) := by decide +kernel
theorem d_State_unlikeLetters_4 : decode prog_5_method_13_code 4 = .ok (.iload_n 2, 1) := by decide +kernel
theorem d_State_unlikeLetters_5 : decode prog_5_method_13_code 5 = .ok (.bipush 7, 2) := by decide +kernel
theorem d_State_unlikeLetters_7 : decode prog_5_method_13_code 7 = .ok (.if_icmp .gt 20, 3) := by decide +kernel
theorem d_State_unlikeLetters_10 : decode prog_5_method_13_code 10 = .ok (.aload_n 0, 1) := by decide +kernel
theorem d_State_unlikeLetters_11 : decode prog_5_method_13_code 11 = .ok (.iload_n 2, 1) := by decide +kernel
theorem d_State_unlikeLetters_12 : decode prog_5_method_13_code 12 = .ok (.invokevirtual 50, 3) := by decide +kernel
theorem d_State_unlikeLetters_15 : decode prog_5_method_13_code 15 = .ok (.ifCond .eq 6, 3) := by decide +kernel
theorem d_State_unlikeLetters_18 : decode prog_5_method_13_code 18 = .ok (.iinc 1 1, 3) := by decide +kernel
theorem d_State_unlikeLetters_21 : decode prog_5_method_13_code 21 = .ok (.iinc 2 1, 3) := by decide +kernel
theorem d_State_unlikeLetters_24 : decode prog_5_method_13_code 24 = .ok (.goto (-20), 3) := by decide +kernel
theorem d_State_unlikeLetters_27 : decode prog_5_method_13_code 27 = .ok (.iload_n 1, 1) := by decide +kernel
theorem d_State_unlikeLetters_28 : decode prog_5_method_13_code 28 = .ok (.ireturn, 1) := by decide +kernel
theorem d_State_holds_0 : decode prog_5_method_14_code 0 = .ok (.iconst 0, 1) := by decide +kernel
theorem d_State_holds_1 : decode prog_5_method_14_code 1 = .ok (.istore_n 2, 1) := by decide +kernel
theorem d_State_holds_2 : decode prog_5_method_14_code 2 = .ok (.iload_n 2, 1) := by decide +kernel
theorem d_State_holds_3 : decode prog_5_method_14_code 3 = .ok (.aload_n 0, 1) := by decide +kernel
theorem d_State_holds_4 : decode prog_5_method_14_code 4 = .ok (.getfield 18, 3) := by decide +kernel
theorem d_State_holds_7 : decode prog_5_method_14_code 7 = .ok (.if_icmp .ge 20, 3) := by decide +kernel
theorem d_State_holds_10 : decode prog_5_method_14_code 10 = .ok (.aload_n 0, 1) := by decide +kernel
theorem d_State_holds_11 : decode prog_5_method_14_code 11 = .ok (.iload_n 2, 1) := by decide +kernel
theorem d_State_holds_12 : decode prog_5_method_14_code 12 = .ok (.invokevirtual 33, 3) := by decide +kernel
theorem d_State_holds_15 : decode prog_5_method_14_code 15 = .ok (.iload_n 1, 1) := by decide +kernel
theorem d_State_holds_16 : decode prog_5_method_14_code 16 = .ok (.if_icmp .ne 5, 3) := by decide +kernel
theorem d_State_holds_19 : decode prog_5_method_14_code 19 = .ok (.iconst 1, 1) := by decide +kernel
theorem d_State_holds_20 : decode prog_5_method_14_code 20 = .ok (.ireturn, 1) := by decide +kernel
theorem d_State_holds_21 : decode prog_5_method_14_code 21 = .ok (.iinc 2 1, 3) := by decide +kernel
theorem d_State_holds_24 : decode prog_5_method_14_code 24 = .ok (.goto (-22), 3) := by decide +kernel
theorem d_State_holds_27 : decode prog_5_method_14_code 27 = .ok (.iconst 0, 1) := by decide +kernel
theorem d_State_holds_28 : decode prog_5_method_14_code 28 = .ok (.ireturn, 1) := by decide +kernel
theorem d_State_copyFrom_0 : decode prog_5_method_15_code 0 = .ok (.aload_n 0, 1) := by decide +kernel
theorem d_State_copyFrom_1 : decode prog_5_method_15_code 1 = .ok (.aload_n 1, 1) := by decide +kernel
theorem d_State_copyFrom_2 : decode prog_5_method_15_code 2 = .ok (.invokevirtual 54, 3) := by decide +kernel
theorem d_State_copyFrom_5 : decode prog_5_method_15_code 5 = .ok (.iconst 0, 1) := by decide +kernel
theorem d_State_copyFrom_6 : decode prog_5_method_15_code 6 = .ok (.istore_n 2, 1) := by decide +kernel
theorem d_State_copyFrom_7 : decode prog_5_method_15_code 7 = .ok (.iload_n 2, 1) := by decide +kernel
theorem d_State_copyFrom_8 : decode prog_5_method_15_code 8 = .ok (.iconst 5, 1) := by decide +kernel
theorem d_State_copyFrom_9 : decode prog_5_method_15_code 9 = .ok (.if_icmp .ge 19, 3) := by decide +kernel
theorem d_State_copyFrom_12 : decode prog_5_method_15_code 12 = .ok (.aload_n 0, 1) := by decide +kernel
theorem d_State_copyFrom_13 : decode prog_5_method_15_code 13 = .ok (.iload_n 2, 1) := by decide +kernel
theorem d_State_copyFrom_14 : decode prog_5_method_15_code 14 = .ok (.aload_n 1, 1) := by decide +kernel
theorem d_State_copyFrom_15 : decode prog_5_method_15_code 15 = .ok (.iload_n 2, 1) := by decide +kernel
theorem d_State_copyFrom_16 : decode prog_5_method_15_code 16 = .ok (.invokevirtual 47, 3) := by decide +kernel
theorem d_State_copyFrom_19 : decode prog_5_method_15_code 19 = .ok (.invokevirtual 58, 3) := by decide +kernel
theorem d_State_copyFrom_22 : decode prog_5_method_15_code 22 = .ok (.iinc 2 1, 3) := by decide +kernel
theorem d_State_copyFrom_25 : decode prog_5_method_15_code 25 = .ok (.goto (-18), 3) := by decide +kernel
theorem d_State_copyFrom_28 : decode prog_5_method_15_code 28 = .ok (.return_, 1) := by decide +kernel
theorem d_State_copyRowFrom_0 : decode prog_5_method_16_code 0 = .ok (.aload_n 0, 1) := by decide +kernel
theorem d_State_copyRowFrom_1 : decode prog_5_method_16_code 1 = .ok (.aload_n 1, 1) := by decide +kernel
theorem d_State_copyRowFrom_2 : decode prog_5_method_16_code 2 = .ok (.invokevirtual 62, 3) := by decide +kernel
theorem d_State_copyRowFrom_5 : decode prog_5_method_16_code 5 = .ok (.putfield 18, 3) := by decide +kernel
theorem d_State_copyRowFrom_8 : decode prog_5_method_16_code 8 = .ok (.iconst 0, 1) := by decide +kernel
theorem d_State_copyRowFrom_9 : decode prog_5_method_16_code 9 = .ok (.istore_n 2, 1) := by decide +kernel
theorem d_State_copyRowFrom_10 : decode prog_5_method_16_code 10 = .ok (.iload_n 2, 1) := by decide +kernel
theorem d_State_copyRowFrom_11 : decode prog_5_method_16_code 11 = .ok (.aload_n 0, 1) := by decide +kernel
theorem d_State_copyRowFrom_12 : decode prog_5_method_16_code 12 = .ok (.getfield 18, 3) := by decide +kernel
theorem d_State_copyRowFrom_15 : decode prog_5_method_16_code 15 = .ok (.if_icmp .ge 19, 3) := by decide +kernel
theorem d_State_copyRowFrom_18 : decode prog_5_method_16_code 18 = .ok (.aload_n 0, 1) := by decide +kernel
theorem d_State_copyRowFrom_19 : decode prog_5_method_16_code 19 = .ok (.iload_n 2, 1) := by decide +kernel
theorem d_State_copyRowFrom_20 : decode prog_5_method_16_code 20 = .ok (.aload_n 1, 1) := by decide +kernel
theorem d_State_copyRowFrom_21 : decode prog_5_method_16_code 21 = .ok (.iload_n 2, 1) := by decide +kernel
theorem d_State_copyRowFrom_22 : decode prog_5_method_16_code 22 = .ok (.invokevirtual 33, 3) := by decide +kernel
theorem d_State_copyRowFrom_25 : decode prog_5_method_16_code 25 = .ok (.invokevirtual 65, 3) := by decide +kernel
theorem d_State_copyRowFrom_28 : decode prog_5_method_16_code 28 = .ok (.iinc 2 1, 3) := by decide +kernel
theorem d_State_copyRowFrom_31 : decode prog_5_method_16_code 31 = .ok (.goto (-21), 3) := by decide +kernel
theorem d_State_copyRowFrom_34 : decode prog_5_method_16_code 34 = .ok (.return_, 1) := by decide +kernel
theorem d_Stretch_init_0 : decode prog_6_method_1_code 0 = .ok (.aload_n 0, 1) := by decide +kernel
theorem d_Stretch_init_1 : decode prog_6_method_1_code 1 = .ok (.invokespecial 1, 3) := by decide +kernel
theorem d_Stretch_init_4 : decode prog_6_method_1_code 4 = .ok (.aload_n 0, 1) := by decide +kernel
theorem d_Stretch_init_5 : decode prog_6_method_1_code 5 = .ok (.iconst 0, 1) := by decide +kernel
theorem d_Stretch_init_6 : decode prog_6_method_1_code 6 = .ok (.putfield 7, 3) := by decide +kernel
theorem d_Stretch_init_9 : decode prog_6_method_1_code 9 = .ok (.aload_n 0, 1) := by decide +kernel
theorem d_Stretch_init_10 : decode prog_6_method_1_code 10 = .ok (.iconst 0, 1) := by decide +kernel
theorem d_Stretch_init_11 : decode prog_6_method_1_code 11 = .ok (.putfield 13, 3) := by decide +kernel
theorem d_Stretch_init_14 : decode prog_6_method_1_code 14 = .ok (.aload_n 0, 1) := by decide +kernel
theorem d_Stretch_init_15 : decode prog_6_method_1_code 15 = .ok (.iconst 0, 1) := by decide +kernel
theorem d_Stretch_init_16 : decode prog_6_method_1_code 16 = .ok (.putfield 16, 3) := by decide +kernel
theorem d_Stretch_init_19 : decode prog_6_method_1_code 19 = .ok (.return_, 1) := by decide +kernel
theorem d_Stretch_findLongest_0 : decode prog_6_method_2_code 0 = .ok (.aload_n 0, 1) := by decide +kernel
theorem d_Stretch_findLongest_1 : decode prog_6_method_2_code 1 = .ok (.iconst 0, 1) := by decide +kernel
theorem d_Stretch_findLongest_2 : decode prog_6_method_2_code 2 = .ok (.putfield 7, 3) := by decide +kernel
theorem d_Stretch_findLongest_5 : decode prog_6_method_2_code 5 = .ok (.iconst 1, 1) := by decide +kernel
theorem d_Stretch_findLongest_6 : decode prog_6_method_2_code 6 = .ok (.istore_n 2, 1) := by decide +kernel
theorem d_Stretch_findLongest_7 : decode prog_6_method_2_code 7 = .ok (.iload_n 2, 1) := by decide +kernel
theorem d_Stretch_findLongest_8 : decode prog_6_method_2_code 8 = .ok (.aload_n 0, 1) := by decide +kernel
theorem d_Stretch_findLongest_9 : decode prog_6_method_2_code 9 = .ok (.getfield 7, 3) := by decide +kernel
theorem d_Stretch_findLongest_12 : decode prog_6_method_2_code 12 = .ok (.iadd, 1) := by decide +kernel
theorem d_Stretch_findLongest_13 : decode prog_6_method_2_code 13 = .ok (.aload_n 1, 1) := by decide +kernel
theorem d_Stretch_findLongest_14 : decode prog_6_method_2_code 14 = .ok (.invokevirtual 19, 3) := by decide +kernel
theorem d_Stretch_findLongest_17 : decode prog_6_method_2_code 17 = .ok (.if_icmp .ge 55, 3) := by decide +kernel
theorem d_Stretch_findLongest_20 : decode prog_6_method_2_code 20 = .ok (.iconst 0, 1) := by decide +kernel
theorem d_Stretch_findLongest_21 : decode prog_6_method_2_code 21 = .ok (.istore_n 3, 1) := by decide +kernel
theorem d_Stretch_findLongest_22 : decode prog_6_method_2_code 22 = .ok (.iload_n 3, 1) := by decide +kernel
theorem d_Stretch_findLongest_23 : decode prog_6_method_2_code 23 = .ok (.iload_n 2, 1) := by decide +kernel
theorem d_Stretch_findLongest_24 : decode prog_6_method_2_code 24 = .ok (.if_icmp .ge 42, 3) := by decide +kernel
theorem d_Stretch_findLongest_27 : decode prog_6_method_2_code 27 = .ok (.aload_n 1, 1) := by decide +kernel
theorem d_Stretch_findLongest_28 : decode prog_6_method_2_code 28 = .ok (.iload_n 3, 1) := by decide +kernel
theorem d_Stretch_findLongest_29 : decode prog_6_method_2_code 29 = .ok (.iload_n 2, 1) := by decide +kernel
theorem d_Stretch_findLongest_30 : decode prog_6_method_2_code 30 = .ok (.invokevirtual 25, 3) := by decide +kernel
theorem d_Stretch_findLongest_33 : decode prog_6_method_2_code 33 = .ok (.istore 4, 2) := by decide +kernel
theorem d_Stretch_findLongest_35 : decode prog_6_method_2_code 35 = .ok (.iload 4, 2) := by decide +kernel
theorem d_Stretch_findLongest_37 : decode prog_6_method_2_code 37 = .ok (.aload_n 0, 1) := by decide +kernel
theorem d_Stretch_findLongest_38 : decode prog_6_method_2_code 38 = .ok (.getfield 7, 3) := by decide +kernel
theorem d_Stretch_findLongest_41 : decode prog_6_method_2_code 41 = .ok (.if_icmp .le 19, 3) := by decide +kernel
theorem d_Stretch_findLongest_44 : decode prog_6_method_2_code 44 = .ok (.aload_n 0, 1) := by decide +kernel
theorem d_Stretch_findLongest_45 : decode prog_6_method_2_code 45 = .ok (.iload 4, 2) := by decide +kernel
theorem d_Stretch_findLongest_47 : decode prog_6_method_2_code 47 = .ok (.putfield 7, 3) := by decide +kernel
theorem d_Stretch_findLongest_50 : decode prog_6_method_2_code 50 = .ok (.aload_n 0, 1) := by decide +kernel
theorem d_Stretch_findLongest_51 : decode prog_6_method_2_code 51 = .ok (.iload_n 3, 1) := by decide +kernel
theorem d_Stretch_findLongest_52 : decode prog_6_method_2_code 52 = .ok (.putfield 13, 3) := by decide +kernel
theorem d_Stretch_findLongest_55 : decode prog_6_method_2_code 55 = .ok (.aload_n 0, 1) := by decide +kernel
theorem d_Stretch_findLongest_56 : decode prog_6_method_2_code 56 = .ok (.iload_n 2, 1) := by decide +kernel
theorem d_Stretch_findLongest_57 : decode prog_6_method_2_code 57 = .ok (.putfield 16, 3) := by decide +kernel
theorem d_Stretch_findLongest_60 : decode prog_6_method_2_code 60 = .ok (.iinc 3 1, 3) := by decide +kernel
theorem d_Stretch_findLongest_63 : decode prog_6_method_2_code 63 = .ok (.goto (-41), 3) := by decide +kernel
theorem d_Stretch_findLongest_66 : decode prog_6_method_2_code 66 = .ok (.iinc 2 1, 3) := by decide +kernel
theorem d_Stretch_findLongest_69 : decode prog_6_method_2_code 69 = .ok (.goto (-62), 3) := by decide +kernel
theorem d_Stretch_findLongest_72 : decode prog_6_method_2_code 72 = .ok (.return_, 1) := by decide +kernel
theorem d_Stretch_length_0 : decode prog_6_method_3_code 0 = .ok (.aload_n 0, 1) := by decide +kernel
theorem d_Stretch_length_1 : decode prog_6_method_3_code 1 = .ok (.getfield 7, 3) := by decide +kernel
theorem d_Stretch_length_4 : decode prog_6_method_3_code 4 = .ok (.ireturn, 1) := by decide +kernel
theorem d_Stretch_former_0 : decode prog_6_method_4_code 0 = .ok (.aload_n 0, 1) := by decide +kernel
theorem d_Stretch_former_1 : decode prog_6_method_4_code 1 = .ok (.getfield 13, 3) := by decide +kernel
theorem d_Stretch_former_4 : decode prog_6_method_4_code 4 = .ok (.ireturn, 1) := by decide +kernel
theorem d_Stretch_latter_0 : decode prog_6_method_5_code 0 = .ok (.aload_n 0, 1) := by decide +kernel
theorem d_Stretch_latter_1 : decode prog_6_method_5_code 1 = .ok (.getfield 16, 3) := by decide +kernel
theorem d_Stretch_latter_4 : decode prog_6_method_5_code 4 = .ok (.ireturn, 1) := by decide +kernel
theorem d_Text_init_0 : decode prog_7_method_1_code 0 = .ok (.aload_n 0, 1) := by decide +kernel
theorem d_Text_init_1 : decode prog_7_method_1_code 1 = .ok (.invokespecial 3, 3) := by decide +kernel
theorem d_Text_init_4 : decode prog_7_method_1_code 4 = .ok (.aload_n 0, 1) := by decide +kernel
theorem d_Text_init_5 : decode prog_7_method_1_code 5 = .ok (.bipush 120, 2) := by decide +kernel
theorem d_Text_init_7 : decode prog_7_method_1_code 7 = .ok (.newarray .int, 2) := by decide +kernel
theorem d_Text_init_9 : decode prog_7_method_1_code 9 = .ok (.putfield 9, 3) := by decide +kernel
theorem d_Text_init_12 : decode prog_7_method_1_code 12 = .ok (.aload_n 0, 1) := by decide +kernel
theorem d_Text_init_13 : decode prog_7_method_1_code 13 = .ok (.iconst 0, 1) := by decide +kernel
theorem d_Text_init_14 : decode prog_7_method_1_code 14 = .ok (.putfield 15, 3) := by decide +kernel
theorem d_Text_init_17 : decode prog_7_method_1_code 17 = .ok (.return_, 1) := by decide +kernel
theorem d_Text_size_0 : decode prog_7_method_2_code 0 = .ok (.aload_n 0, 1) := by decide +kernel
theorem d_Text_size_1 : decode prog_7_method_2_code 1 = .ok (.getfield 15, 3) := by decide +kernel
theorem d_Text_size_4 : decode prog_7_method_2_code 4 = .ok (.ireturn, 1) := by decide +kernel
theorem d_Text_characterAt_0 : decode prog_7_method_3_code 0 = .ok (.iload_n 1, 1) := by decide +kernel
theorem d_Text_characterAt_1 : decode prog_7_method_3_code 1 = .ok (.aload_n 0, 1) := by decide +kernel
theorem d_Text_characterAt_2 : decode prog_7_method_3_code 2 = .ok (.getfield 15, 3) := by decide +kernel
theorem d_Text_characterAt_5 : decode prog_7_method_3_code 5 = .ok (.if_icmp .ge 14, 3) := by decide +kernel
theorem d_Text_characterAt_8 : decode prog_7_method_3_code 8 = .ok (.aload_n 0, 1) := by decide +kernel
theorem d_Text_characterAt_9 : decode prog_7_method_3_code 9 = .ok (.getfield 9, 3) := by decide +kernel
theorem d_Text_characterAt_12 : decode prog_7_method_3_code 12 = .ok (.iload_n 1, 1) := by decide +kernel
theorem d_Text_characterAt_13 : decode prog_7_method_3_code 13 = .ok (.invokestatic 19, 3) := by decide +kernel
theorem d_Text_characterAt_16 : decode prog_7_method_3_code 16 = .ok (.goto 4, 3) := by decide +kernel
theorem d_Text_characterAt_19 : decode prog_7_method_3_code 19 = .ok (.iconst (-1), 1) := by decide +kernel
theorem d_Text_characterAt_20 : decode prog_7_method_3_code 20 = .ok (.ireturn, 1) := by decide +kernel
theorem d_Text_empty_0 : decode prog_7_method_4_code 0 = .ok (.aload_n 0, 1) := by decide +kernel
theorem d_Text_empty_1 : decode prog_7_method_4_code 1 = .ok (.iconst 0, 1) := by decide +kernel
theorem d_Text_empty_2 : decode prog_7_method_4_code 2 = .ok (.putfield 15, 3) := by decide +kernel
theorem d_Text_empty_5 : decode prog_7_method_4_code 5 = .ok (.return_, 1) := by decide +kernel
theorem d_Text_append_0 : decode prog_7_method_5_code 0 = .ok (.aload_n 0, 1) := by decide +kernel
theorem d_Text_append_1 : decode prog_7_method_5_code 1 = .ok (.getfield 15, 3) := by decide +kernel
theorem d_Text_append_4 : decode prog_7_method_5_code 4 = .ok (.bipush 120, 2) := by decide +kernel
theorem d_Text_append_6 : decode prog_7_method_5_code 6 = .ok (.if_icmp .ge 25, 3) := by decide +kernel
theorem d_Text_append_9 : decode prog_7_method_5_code 9 = .ok (.aload_n 0, 1) := by decide +kernel
theorem d_Text_append_10 : decode prog_7_method_5_code 10 = .ok (.getfield 9, 3) := by decide +kernel
theorem d_Text_append_13 : decode prog_7_method_5_code 13 = .ok (.aload_n 0, 1) := by decide +kernel
theorem d_Text_append_14 : decode prog_7_method_5_code 14 = .ok (.getfield 15, 3) := by decide +kernel
theorem d_Text_append_17 : decode prog_7_method_5_code 17 = .ok (.iload_n 1, 1) := by decide +kernel
theorem d_Text_append_18 : decode prog_7_method_5_code 18 = .ok (.invokestatic 23, 3) := by decide +kernel
theorem d_Text_append_21 : decode prog_7_method_5_code 21 = .ok (.aload_n 0, 1) := by decide +kernel
theorem d_Text_append_22 : decode prog_7_method_5_code 22 = .ok (.dup, 1) := by decide +kernel
theorem d_Text_append_23 : decode prog_7_method_5_code 23 = .ok (.getfield 15, 3) := by decide +kernel
theorem d_Text_append_26 : decode prog_7_method_5_code 26 = .ok (.iconst 1, 1) := by decide +kernel
theorem d_Text_append_27 : decode prog_7_method_5_code 27 = .ok (.iadd, 1) := by decide +kernel
theorem d_Text_append_28 : decode prog_7_method_5_code 28 = .ok (.putfield 15, 3) := by decide +kernel
theorem d_Text_append_31 : decode prog_7_method_5_code 31 = .ok (.return_, 1) := by decide +kernel
theorem d_Text_appendCopy_0 : decode prog_7_method_6_code 0 = .ok (.aload_n 0, 1) := by decide +kernel
theorem d_Text_appendCopy_1 : decode prog_7_method_6_code 1 = .ok (.bipush 40, 2) := by decide +kernel
theorem d_Text_appendCopy_3 : decode prog_7_method_6_code 3 = .ok (.invokevirtual 27, 3) := by decide +kernel
theorem d_Text_appendCopy_6 : decode prog_7_method_6_code 6 = .ok (.aload_n 0, 1) := by decide +kernel
theorem d_Text_appendCopy_7 : decode prog_7_method_6_code 7 = .ok (.iload_n 1, 1) := by decide +kernel
theorem d_Text_appendCopy_8 : decode prog_7_method_6_code 8 = .ok (.invokevirtual 31, 3) := by decide +kernel
theorem d_Text_appendCopy_11 : decode prog_7_method_6_code 11 = .ok (.aload_n 0, 1) := by decide +kernel
theorem d_Text_appendCopy_12 : decode prog_7_method_6_code 12 = .ok (.bipush 44, 2) := by decide +kernel
theorem d_Text_appendCopy_14 : decode prog_7_method_6_code 14 = .ok (.invokevirtual 27, 3) := by decide +kernel
theorem d_Text_appendCopy_17 : decode prog_7_method_6_code 17 = .ok (.aload_n 0, 1) := by decide +kernel
theorem d_Text_appendCopy_18 : decode prog_7_method_6_code 18 = .ok (.iload_n 2, 1) := by decide +kernel
theorem d_Text_appendCopy_19 : decode prog_7_method_6_code 19 = .ok (.invokevirtual 31, 3) := by decide +kernel
theorem d_Text_appendCopy_22 : decode prog_7_method_6_code 22 = .ok (.aload_n 0, 1) := by decide +kernel
theorem d_Text_appendCopy_23 : decode prog_7_method_6_code 23 = .ok (.bipush 41, 2) := by decide +kernel
theorem d_Text_appendCopy_25 : decode prog_7_method_6_code 25 = .ok (.invokevirtual 27, 3) := by decide +kernel
theorem d_Text_appendCopy_28 : decode prog_7_method_6_code 28 = .ok (.return_, 1) := by decide +kernel
theorem d_Text_appendNumber_0 : decode prog_7_method_7_code 0 = .ok (.iload_n 1, 1) := by decide +kernel
theorem d_Text_appendNumber_1 : decode prog_7_method_7_code 1 = .ok (.bipush 10, 2) := by decide +kernel
theorem d_Text_appendNumber_3 : decode prog_7_method_7_code 3 = .ok (.if_icmp .lt 14, 3) := by decide +kernel
theorem d_Text_appendNumber_6 : decode prog_7_method_7_code 6 = .ok (.aload_n 0, 1) := by decide +kernel
theorem d_Text_appendNumber_7 : decode prog_7_method_7_code 7 = .ok (.bipush 48, 2) := by decide +kernel
theorem d_Text_appendNumber_9 : decode prog_7_method_7_code 9 = .ok (.iload_n 1, 1) := by decide +kernel
theorem d_Text_appendNumber_10 : decode prog_7_method_7_code 10 = .ok (.bipush 10, 2) := by decide +kernel
theorem d_Text_appendNumber_12 : decode prog_7_method_7_code 12 = .ok (.idiv, 1) := by decide +kernel
theorem d_Text_appendNumber_13 : decode prog_7_method_7_code 13 = .ok (.iadd, 1) := by decide +kernel
theorem d_Text_appendNumber_14 : decode prog_7_method_7_code 14 = .ok (.invokevirtual 27, 3) := by decide +kernel
theorem d_Text_appendNumber_17 : decode prog_7_method_7_code 17 = .ok (.aload_n 0, 1) := by decide +kernel
theorem d_Text_appendNumber_18 : decode prog_7_method_7_code 18 = .ok (.bipush 48, 2) := by decide +kernel
theorem d_Text_appendNumber_20 : decode prog_7_method_7_code 20 = .ok (.iload_n 1, 1) := by decide +kernel
theorem d_Text_appendNumber_21 : decode prog_7_method_7_code 21 = .ok (.bipush 10, 2) := by decide +kernel
theorem d_Text_appendNumber_23 : decode prog_7_method_7_code 23 = .ok (.irem, 1) := by decide +kernel
theorem d_Text_appendNumber_24 : decode prog_7_method_7_code 24 = .ok (.iadd, 1) := by decide +kernel
theorem d_Text_appendNumber_25 : decode prog_7_method_7_code 25 = .ok (.invokevirtual 27, 3) := by decide +kernel
theorem d_Text_appendNumber_28 : decode prog_7_method_7_code 28 = .ok (.return_, 1) := by decide +kernel
theorem d_Text_charactersOfCopy_0 : decode prog_7_method_8_code 0 = .ok (.iconst 3, 1) := by decide +kernel
theorem d_Text_charactersOfCopy_1 : decode prog_7_method_8_code 1 = .ok (.istore_n 2, 1) := by decide +kernel
theorem d_Text_charactersOfCopy_2 : decode prog_7_method_8_code 2 = .ok (.iload_n 2, 1) := by decide +kernel
theorem d_Text_charactersOfCopy_3 : decode prog_7_method_8_code 3 = .ok (.iload_n 0, 1) := by decide +kernel
theorem d_Text_charactersOfCopy_4 : decode prog_7_method_8_code 4 = .ok (.invokestatic 34, 3) := by decide +kernel
theorem d_Text_charactersOfCopy_7 : decode prog_7_method_8_code 7 = .ok (.iadd, 1) := by decide +kernel
theorem d_Text_charactersOfCopy_8 : decode prog_7_method_8_code 8 = .ok (.iload_n 1, 1) := by decide +kernel
theorem d_Text_charactersOfCopy_9 : decode prog_7_method_8_code 9 = .ok (.invokestatic 34, 3) := by decide +kernel
theorem d_Text_charactersOfCopy_12 : decode prog_7_method_8_code 12 = .ok (.iadd, 1) := by decide +kernel
theorem d_Text_charactersOfCopy_13 : decode prog_7_method_8_code 13 = .ok (.ireturn, 1) := by decide +kernel
theorem d_Text_digitsOf_0 : decode prog_7_method_9_code 0 = .ok (.iload_n 0, 1) := by decide +kernel
theorem d_Text_digitsOf_1 : decode prog_7_method_9_code 1 = .ok (.bipush 10, 2) := by decide +kernel
theorem d_Text_digitsOf_3 : decode prog_7_method_9_code 3 = .ok (.if_icmp .lt 7, 3) := by decide +kernel
theorem d_Text_digitsOf_6 : decode prog_7_method_9_code 6 = .ok (.iconst 2, 1) := by decide +kernel
theorem d_Text_digitsOf_7 : decode prog_7_method_9_code 7 = .ok (.goto 4, 3) := by decide +kernel
theorem d_Text_digitsOf_10 : decode prog_7_method_9_code 10 = .ok (.iconst 1, 1) := by decide +kernel
theorem d_Text_digitsOf_11 : decode prog_7_method_9_code 11 = .ok (.ireturn, 1) := by decide +kernel
theorem d_Reader_init_0 : decode prog_8_method_1_code 0 = .ok (.aload_n 0, 1) := by decide +kernel
theorem d_Reader_init_1 : decode prog_8_method_1_code 1 = .ok (.invokespecial 3, 3) := by decide +kernel
theorem d_Reader_init_4 : decode prog_8_method_1_code 4 = .ok (.aload_n 0, 1) := by decide +kernel
theorem d_Reader_init_5 : decode prog_8_method_1_code 5 = .ok (.new 9, 3) := by decide +kernel
theorem d_Reader_init_8 : decode prog_8_method_1_code 8 = .ok (.dup, 1) := by decide +kernel
theorem d_Reader_init_9 : decode prog_8_method_1_code 9 = .ok (.invokespecial 11, 3) := by decide +kernel
theorem d_Reader_init_12 : decode prog_8_method_1_code 12 = .ok (.putfield 12, 3) := by decide +kernel
theorem d_Reader_init_15 : decode prog_8_method_1_code 15 = .ok (.aload_n 0, 1) := by decide +kernel
theorem d_Reader_init_16 : decode prog_8_method_1_code 16 = .ok (.iconst 0, 1) := by decide +kernel
theorem d_Reader_init_17 : decode prog_8_method_1_code 17 = .ok (.putfield 18, 3) := by decide +kernel
theorem d_Reader_init_20 : decode prog_8_method_1_code 20 = .ok (.aload_n 0, 1) := by decide +kernel
theorem d_Reader_init_21 : decode prog_8_method_1_code 21 = .ok (.iconst 0, 1) := by decide +kernel
theorem d_Reader_init_22 : decode prog_8_method_1_code 22 = .ok (.putfield 22, 3) := by decide +kernel
theorem d_Reader_init_25 : decode prog_8_method_1_code 25 = .ok (.aload_n 0, 1) := by decide +kernel
theorem d_Reader_init_26 : decode prog_8_method_1_code 26 = .ok (.iconst 0, 1) := by decide +kernel
theorem d_Reader_init_27 : decode prog_8_method_1_code 27 = .ok (.putfield 25, 3) := by decide +kernel
theorem d_Reader_init_30 : decode prog_8_method_1_code 30 = .ok (.aload_n 0, 1) := by decide +kernel
theorem d_Reader_init_31 : decode prog_8_method_1_code 31 = .ok (.aload_n 1, 1) := by decide +kernel
theorem d_Reader_init_32 : decode prog_8_method_1_code 32 = .ok (.putfield 28, 3) := by decide +kernel
theorem d_Reader_init_35 : decode prog_8_method_1_code 35 = .ok (.aload_n 0, 1) := by decide +kernel
theorem d_Reader_init_36 : decode prog_8_method_1_code 36 = .ok (.aload_n 2, 1) := by decide +kernel
theorem d_Reader_init_37 : decode prog_8_method_1_code 37 = .ok (.putfield 32, 3) := by decide +kernel
theorem d_Reader_init_40 : decode prog_8_method_1_code 40 = .ok (.return_, 1) := by decide +kernel
theorem d_Reader_readThrough_0 : decode prog_8_method_2_code 0 = .ok (.aload_n 0, 1) := by decide +kernel
theorem d_Reader_readThrough_1 : decode prog_8_method_2_code 1 = .ok (.getfield 12, 3) := by decide +kernel
theorem d_Reader_readThrough_4 : decode prog_8_method_2_code 4 = .ok (.aload_n 0, 1) := by decide +kernel
theorem d_Reader_readThrough_5 : decode prog_8_method_2_code 5 = .ok (.getfield 12, 3) := by decide +kernel
theorem d_Reader_readThrough_8 : decode prog_8_method_2_code 8 = .ok (.invokevirtual 35, 3) := by decide +kernel
theorem d_Reader_readThrough_11 : decode prog_8_method_2_code 11 = .ok (.invokevirtual 39, 3) := by decide +kernel
theorem d_Reader_readThrough_14 : decode prog_8_method_2_code 14 = .ok (.aload_n 0, 1) := by decide +kernel
theorem d_Reader_readThrough_15 : decode prog_8_method_2_code 15 = .ok (.iconst 0, 1) := by decide +kernel
theorem d_Reader_readThrough_16 : decode prog_8_method_2_code 16 = .ok (.putfield 18, 3) := by decide +kernel
theorem d_Reader_readThrough_19 : decode prog_8_method_2_code 19 = .ok (.aload_n 0, 1) := by decide +kernel
theorem d_Reader_readThrough_20 : decode prog_8_method_2_code 20 = .ok (.iconst 0, 1) := by decide +kernel
theorem d_Reader_readThrough_21 : decode prog_8_method_2_code 21 = .ok (.putfield 25, 3) := by decide +kernel
theorem d_Reader_readThrough_24 : decode prog_8_method_2_code 24 = .ok (.iconst 0, 1) := by decide +kernel
theorem d_Reader_readThrough_25 : decode prog_8_method_2_code 25 = .ok (.istore_n 1, 1) := by decide +kernel
theorem d_Reader_readThrough_26 : decode prog_8_method_2_code 26 = .ok (.iload_n 1, 1) := by decide +kernel
theorem d_Reader_readThrough_27 : decode prog_8_method_2_code 27 = .ok (.bipush 120, 2) := by decide +kernel
theorem d_Reader_readThrough_29 : decode prog_8_method_2_code 29 = .ok (.if_icmp .ge 63, 3) := by decide +kernel
theorem d_Reader_readThrough_32 : decode prog_8_method_2_code 32 = .ok (.aload_n 0, 1) := by decide +kernel
theorem d_Reader_readThrough_33 : decode prog_8_method_2_code 33 = .ok (.getfield 18, 3) := by decide +kernel
theorem d_Reader_readThrough_36 : decode prog_8_method_2_code 36 = .ok (.aload_n 0, 1) := by decide +kernel
theorem d_Reader_readThrough_37 : decode prog_8_method_2_code 37 = .ok (.getfield 28, 3) := by decide +kernel
theorem d_Reader_readThrough_40 : decode prog_8_method_2_code 40 = .ok (.invokevirtual 43, 3) := by decide +kernel
theorem d_Reader_readThrough_43 : decode prog_8_method_2_code 43 = .ok (.if_icmp .ge 49, 3) := by decide +kernel
theorem d_Reader_readThrough_46 : decode prog_8_method_2_code 46 = .ok (.aload_n 0, 1) := by decide +kernel
theorem d_Reader_readThrough_47 : decode prog_8_method_2_code 47 = .ok (.invokevirtual 46, 3) := by decide +kernel
theorem d_Reader_readThrough_50 : decode prog_8_method_2_code 50 = .ok (.ifCond .ne 42, 3) := by decide +kernel
theorem d_Reader_readThrough_53 : decode prog_8_method_2_code 53 = .ok (.aload_n 0, 1) := by decide +kernel
theorem d_Reader_readThrough_54 : decode prog_8_method_2_code 54 = .ok (.getfield 28, 3) := by decide +kernel
theorem d_Reader_readThrough_57 : decode prog_8_method_2_code 57 = .ok (.aload_n 0, 1) := by decide +kernel
theorem d_Reader_readThrough_58 : decode prog_8_method_2_code 58 = .ok (.getfield 18, 3) := by decide +kernel
theorem d_Reader_readThrough_61 : decode prog_8_method_2_code 61 = .ok (.invokevirtual 50, 3) := by decide +kernel
theorem d_Reader_readThrough_64 : decode prog_8_method_2_code 64 = .ok (.istore_n 2, 1) := by decide +kernel
theorem d_Reader_readThrough_65 : decode prog_8_method_2_code 65 = .ok (.iload_n 2, 1) := by decide +kernel
theorem d_Reader_readThrough_66 : decode prog_8_method_2_code 66 = .ok (.bipush 40, 2) := by decide +kernel
theorem d_Reader_readThrough_68 : decode prog_8_method_2_code 68 = .ok (.if_icmp .ne 10, 3) := by decide +kernel
theorem d_Reader_readThrough_71 : decode prog_8_method_2_code 71 = .ok (.aload_n 0, 1) := by decide +kernel
theorem d_Reader_readThrough_72 : decode prog_8_method_2_code 72 = .ok (.invokevirtual 54, 3) := by decide +kernel
theorem d_Reader_readThrough_75 : decode prog_8_method_2_code 75 = .ok (.goto 11, 3) := by decide +kernel
theorem d_Reader_readThrough_78 : decode prog_8_method_2_code 78 = .ok (.aload_n 0, 1) := by decide +kernel
theorem d_Reader_readThrough_79 : decode prog_8_method_2_code 79 = .ok (.iload_n 2, 1) := by decide +kernel
theorem d_Reader_readThrough_80 : decode prog_8_method_2_code 80 = .ok (.bipush 97, 2) := by decide +kernel
theorem d_Reader_readThrough_82 : decode prog_8_method_2_code 82 = .ok (.isub, 1) := by decide +kernel
theorem d_Reader_readThrough_83 : decode prog_8_method_2_code 83 = .ok (.invokevirtual 57, 3) := by decide +kernel
theorem d_Reader_readThrough_86 : decode prog_8_method_2_code 86 = .ok (.iinc 1 1, 3) := by decide +kernel
theorem d_Reader_readThrough_89 : decode prog_8_method_2_code 89 = .ok (.goto (-63), 3) := by decide +kernel
theorem d_Reader_readThrough_92 : decode prog_8_method_2_code 92 = .ok (.return_, 1) := by decide +kernel
theorem d_Reader_hasFault_0 : decode prog_8_method_3_code 0 = .ok (.aload_n 0, 1) := by decide +kernel
theorem d_Reader_hasFault_1 : decode prog_8_method_3_code 1 = .ok (.getfield 25, 3) := by decide +kernel
theorem d_Reader_hasFault_4 : decode prog_8_method_3_code 4 = .ok (.ifCond .eq 7, 3) := by decide +kernel
theorem d_Reader_hasFault_7 : decode prog_8_method_3_code 7 = .ok (.iconst 1, 1) := by decide +kernel
theorem d_Reader_hasFault_8 : decode prog_8_method_3_code 8 = .ok (.goto 4, 3) := by decide +kernel
theorem d_Reader_hasFault_11 : decode prog_8_method_3_code 11 = .ok (.iconst 0, 1) := by decide +kernel
theorem d_Reader_hasFault_12 : decode prog_8_method_3_code 12 = .ok (.ireturn, 1) := by decide +kernel
theorem d_Reader_faultPlace_0 : decode prog_8_method_4_code 0 = .ok (.aload_n 0, 1) := by decide +kernel
theorem d_Reader_faultPlace_1 : decode prog_8_method_4_code 1 = .ok (.getfield 22, 3) := by decide +kernel
theorem d_Reader_faultPlace_4 : decode prog_8_method_4_code 4 = .ok (.ireturn, 1) := by decide +kernel
theorem d_Reader_faultReason_0 : decode prog_8_method_5_code 0 = .ok (.aload_n 0, 1) := by decide +kernel
theorem d_Reader_faultReason_1 : decode prog_8_method_5_code 1 = .ok (.getfield 25, 3) := by decide +kernel
theorem d_Reader_faultReason_4 : decode prog_8_method_5_code 4 = .ok (.ireturn, 1) := by decide +kernel
theorem d_Reader_told_0 : decode prog_8_method_6_code 0 = .ok (.aload_n 0, 1) := by decide +kernel
theorem d_Reader_told_1 : decode prog_8_method_6_code 1 = .ok (.getfield 12, 3) := by decide +kernel
theorem d_Reader_told_4 : decode prog_8_method_6_code 4 = .ok (.areturn, 1) := by decide +kernel
theorem d_Reader_takeLetter_0 : decode prog_8_method_7_code 0 = .ok (.iload_n 1, 1) := by decide +kernel
theorem d_Reader_takeLetter_1 : decode prog_8_method_7_code 1 = .ok (.invokestatic 60, 3) := by decide +kernel
theorem d_Reader_takeLetter_4 : decode prog_8_method_7_code 4 = .ok (.ifCond .ne 15, 3) := by decide +kernel
theorem d_Reader_takeLetter_7 : decode prog_8_method_7_code 7 = .ok (.aload_n 0, 1) := by decide +kernel
theorem d_Reader_takeLetter_8 : decode prog_8_method_7_code 8 = .ok (.aload_n 0, 1) := by decide +kernel
theorem d_Reader_takeLetter_9 : decode prog_8_method_7_code 9 = .ok (.getfield 18, 3) := by decide +kernel
theorem d_Reader_takeLetter_12 : decode prog_8_method_7_code 12 = .ok (.iconst 1, 1) := by decide +kernel
theorem d_Reader_takeLetter_13 : decode prog_8_method_7_code 13 = .ok (.invokevirtual 64, 3) := by decide +kernel
theorem d_Reader_takeLetter_16 : decode prog_8_method_7_code 16 = .ok (.goto 45, 3) := by decide +kernel
theorem d_Reader_takeLetter_19 : decode prog_8_method_7_code 19 = .ok (.aload_n 0, 1) := by decide +kernel
theorem d_Reader_takeLetter_20 : decode prog_8_method_7_code 20 = .ok (.getfield 12, 3) := by decide +kernel
theorem d_Reader_takeLetter_23 : decode prog_8_method_7_code 23 = .ok (.invokevirtual 35, 3) := by decide +kernel
theorem d_Reader_takeLetter_26 : decode prog_8_method_7_code 26 = .ok (.bipush 60, 2) := by decide +kernel
theorem d_Reader_takeLetter_28 : decode prog_8_method_7_code 28 = .ok (.if_icmp .lt 15, 3) := by decide +kernel
theorem d_Reader_takeLetter_31 : decode prog_8_method_7_code 31 = .ok (.aload_n 0, 1) := by decide +kernel
theorem d_Reader_takeLetter_32 : decode prog_8_method_7_code 32 = .ok (.aload_n 0, 1) := by decide +kernel
theorem d_Reader_takeLetter_33 : decode prog_8_method_7_code 33 = .ok (.getfield 18, 3) := by decide +kernel
theorem d_Reader_takeLetter_36 : decode prog_8_method_7_code 36 = .ok (.iconst 4, 1) := by decide +kernel
theorem d_Reader_takeLetter_37 : decode prog_8_method_7_code 37 = .ok (.invokevirtual 64, 3) := by decide +kernel
theorem d_Reader_takeLetter_40 : decode prog_8_method_7_code 40 = .ok (.goto 21, 3) := by decide +kernel
theorem d_Reader_takeLetter_43 : decode prog_8_method_7_code 43 = .ok (.aload_n 0, 1) := by decide +kernel
theorem d_Reader_takeLetter_44 : decode prog_8_method_7_code 44 = .ok (.getfield 12, 3) := by decide +kernel
theorem d_Reader_takeLetter_47 : decode prog_8_method_7_code 47 = .ok (.iload_n 1, 1) := by decide +kernel
theorem d_Reader_takeLetter_48 : decode prog_8_method_7_code 48 = .ok (.invokevirtual 68, 3) := by decide +kernel
theorem d_Reader_takeLetter_51 : decode prog_8_method_7_code 51 = .ok (.aload_n 0, 1) := by decide +kernel
theorem d_Reader_takeLetter_52 : decode prog_8_method_7_code 52 = .ok (.dup, 1) := by decide +kernel
theorem d_Reader_takeLetter_53 : decode prog_8_method_7_code 53 = .ok (.getfield 18, 3) := by decide +kernel
theorem d_Reader_takeLetter_56 : decode prog_8_method_7_code 56 = .ok (.iconst 1, 1) := by decide +kernel
theorem d_Reader_takeLetter_57 : decode prog_8_method_7_code 57 = .ok (.iadd, 1) := by decide +kernel
theorem d_Reader_takeLetter_58 : decode prog_8_method_7_code 58 = .ok (.putfield 18, 3) := by decide +kernel
theorem d_Reader_takeLetter_61 : decode prog_8_method_7_code 61 = .ok (.return_, 1) := by decide +kernel
theorem d_Reader_takeCopy_0 : decode prog_8_method_8_code 0 = .ok (.aload_n 0, 1) := by decide +kernel
theorem d_Reader_takeCopy_1 : decode prog_8_method_8_code 1 = .ok (.getfield 18, 3) := by decide +kernel
theorem d_Reader_takeCopy_4 : decode prog_8_method_8_code 4 = .ok (.istore_n 1, 1) := by decide +kernel
theorem d_Reader_takeCopy_5 : decode prog_8_method_8_code 5 = .ok (.aload_n 0, 1) := by decide +kernel
theorem d_Reader_takeCopy_6 : decode prog_8_method_8_code 6 = .ok (.dup, 1) := by decide +kernel
theorem d_Reader_takeCopy_7 : decode prog_8_method_8_code 7 = .ok (.getfield 18, 3) := by decide +kernel
theorem d_Reader_takeCopy_10 : decode prog_8_method_8_code 10 = .ok (.iconst 1, 1) := by decide +kernel
theorem d_Reader_takeCopy_11 : decode prog_8_method_8_code 11 = .ok (.iadd, 1) := by decide +kernel
theorem d_Reader_takeCopy_12 : decode prog_8_method_8_code 12 = .ok (.putfield 18, 3) := by decide +kernel
theorem d_Reader_takeCopy_15 : decode prog_8_method_8_code 15 = .ok (.aload_n 0, 1) := by decide +kernel
theorem d_Reader_takeCopy_16 : decode prog_8_method_8_code 16 = .ok (.invokevirtual 71, 3) := by decide +kernel
theorem d_Reader_takeCopy_19 : decode prog_8_method_8_code 19 = .ok (.istore_n 2, 1) := by decide +kernel
theorem d_Reader_takeCopy_20 : decode prog_8_method_8_code 20 = .ok (.aload_n 0, 1) := by decide +kernel
theorem d_Reader_takeCopy_21 : decode prog_8_method_8_code 21 = .ok (.bipush 44, 2) := by decide +kernel
theorem d_Reader_takeCopy_23 : decode prog_8_method_8_code 23 = .ok (.invokevirtual 74, 3) := by decide +kernel
theorem d_Reader_takeCopy_26 : decode prog_8_method_8_code 26 = .ok (.aload_n 0, 1) := by decide +kernel
theorem d_Reader_takeCopy_27 : decode prog_8_method_8_code 27 = .ok (.invokevirtual 71, 3) := by decide +kernel
theorem d_Reader_takeCopy_30 : decode prog_8_method_8_code 30 = .ok (.istore_n 3, 1) := by decide +kernel
theorem d_Reader_takeCopy_31 : decode prog_8_method_8_code 31 = .ok (.aload_n 0, 1) := by decide +kernel
theorem d_Reader_takeCopy_32 : decode prog_8_method_8_code 32 = .ok (.bipush 41, 2) := by decide +kernel
theorem d_Reader_takeCopy_34 : decode prog_8_method_8_code 34 = .ok (.invokevirtual 74, 3) := by decide +kernel
theorem d_Reader_takeCopy_37 : decode prog_8_method_8_code 37 = .ok (.aload_n 0, 1) := by decide +kernel
theorem d_Reader_takeCopy_38 : decode prog_8_method_8_code 38 = .ok (.invokevirtual 46, 3) := by decide +kernel
theorem d_Reader_takeCopy_41 : decode prog_8_method_8_code 41 = .ok (.ifCond .eq 4, 3) := by decide +kernel
theorem d_Reader_takeCopy_44 : decode prog_8_method_8_code 44 = .ok (.return_, 1) := by decide +kernel
theorem d_Reader_takeCopy_45 : decode prog_8_method_8_code 45 = .ok (.aload_n 0, 1) := by decide +kernel
theorem d_Reader_takeCopy_46 : decode prog_8_method_8_code 46 = .ok (.iload_n 2, 1) := by decide +kernel
theorem d_Reader_takeCopy_47 : decode prog_8_method_8_code 47 = .ok (.iload_n 3, 1) := by decide +kernel
theorem d_Reader_takeCopy_48 : decode prog_8_method_8_code 48 = .ok (.invokevirtual 77, 3) := by decide +kernel
theorem d_Reader_takeCopy_51 : decode prog_8_method_8_code 51 = .ok (.istore 4, 2) := by decide +kernel
theorem d_Reader_takeCopy_53 : decode prog_8_method_8_code 53 = .ok (.iload 4, 2) := by decide +kernel
theorem d_Reader_takeCopy_55 : decode prog_8_method_8_code 55 = .ok (.ifCond .eq 13, 3) := by decide +kernel
theorem d_Reader_takeCopy_58 : decode prog_8_method_8_code 58 = .ok (.aload_n 0, 1) := by decide +kernel
theorem d_Reader_takeCopy_59 : decode prog_8_method_8_code 59 = .ok (.iload_n 1, 1) := by decide +kernel
theorem d_Reader_takeCopy_60 : decode prog_8_method_8_code 60 = .ok (.iload 4, 2) := by decide +kernel
theorem d_Reader_takeCopy_62 : decode prog_8_method_8_code 62 = .ok (.invokevirtual 64, 3) := by decide +kernel
theorem d_Reader_takeCopy_65 : decode prog_8_method_8_code 65 = .ok (.goto 12, 3) := by decide +kernel
theorem d_Reader_takeCopy_68 : decode prog_8_method_8_code 68 = .ok (.aload_n 0, 1) := by decide +kernel
theorem d_Reader_takeCopy_69 : decode prog_8_method_8_code 69 = .ok (.getfield 12, 3) := by decide +kernel
theorem d_Reader_takeCopy_72 : decode prog_8_method_8_code 72 = .ok (.iload_n 2, 1) := by decide +kernel
theorem d_Reader_takeCopy_73 : decode prog_8_method_8_code 73 = .ok (.iload_n 3, 1) := by decide +kernel
theorem d_Reader_takeCopy_74 : decode prog_8_method_8_code 74 = .ok (.invokevirtual 81, 3) := by decide +kernel
theorem d_Reader_takeCopy_77 : decode prog_8_method_8_code 77 = .ok (.return_, 1) := by decide +kernel
theorem d_Reader_reasonAgainst_0 : decode prog_8_method_9_code 0 = .ok (.iload_n 1, 1) := by decide +kernel
theorem d_Reader_reasonAgainst_1 : decode prog_8_method_9_code 1 = .ok (.iconst 1, 1) := by decide +kernel
theorem d_Reader_reasonAgainst_2 : decode prog_8_method_9_code 2 = .ok (.aload_n 0, 1) := by decide +kernel
theorem d_Reader_reasonAgainst_3 : decode prog_8_method_9_code 3 = .ok (.getfield 32, 3) := by decide +kernel
theorem d_Reader_reasonAgainst_6 : decode prog_8_method_9_code 6 = .ok (.iconst 0, 1) := by decide +kernel
theorem d_Reader_reasonAgainst_7 : decode prog_8_method_9_code 7 = .ok (.invokevirtual 84, 3) := by decide +kernel
theorem d_Reader_reasonAgainst_10 : decode prog_8_method_9_code 10 = .ok (.aload_n 0, 1) := by decide +kernel
theorem d_Reader_reasonAgainst_11 : decode prog_8_method_9_code 11 = .ok (.getfield 12, 3) := by decide +kernel
theorem d_Reader_reasonAgainst_14 : decode prog_8_method_9_code 14 = .ok (.invokevirtual 35, 3) := by decide +kernel
theorem d_Reader_reasonAgainst_17 : decode prog_8_method_9_code 17 = .ok (.invokestatic 87, 3) := by decide +kernel
theorem d_Reader_reasonAgainst_20 : decode prog_8_method_9_code 20 = .ok (.invokestatic 92, 3) := by decide +kernel
theorem d_Reader_reasonAgainst_23 : decode prog_8_method_9_code 23 = .ok (.ifCond .ne 5, 3) := by decide +kernel
theorem d_Reader_reasonAgainst_26 : decode prog_8_method_9_code 26 = .ok (.iconst 2, 1) := by decide +kernel
theorem d_Reader_reasonAgainst_27 : decode prog_8_method_9_code 27 = .ok (.ireturn, 1) := by decide +kernel
theorem d_Reader_reasonAgainst_28 : decode prog_8_method_9_code 28 = .ok (.iload_n 2, 1) := by decide +kernel
theorem d_Reader_reasonAgainst_29 : decode prog_8_method_9_code 29 = .ok (.aload_n 0, 1) := by decide +kernel
theorem d_Reader_reasonAgainst_30 : decode prog_8_method_9_code 30 = .ok (.getfield 32, 3) := by decide +kernel
theorem d_Reader_reasonAgainst_33 : decode prog_8_method_9_code 33 = .ok (.iconst 1, 1) := by decide +kernel
theorem d_Reader_reasonAgainst_34 : decode prog_8_method_9_code 34 = .ok (.invokevirtual 84, 3) := by decide +kernel
theorem d_Reader_reasonAgainst_37 : decode prog_8_method_9_code 37 = .ok (.bipush 20, 2) := by decide +kernel
theorem d_Reader_reasonAgainst_39 : decode prog_8_method_9_code 39 = .ok (.invokestatic 92, 3) := by decide +kernel
theorem d_Reader_reasonAgainst_42 : decode prog_8_method_9_code 42 = .ok (.ifCond .ne 5, 3) := by decide +kernel
theorem d_Reader_reasonAgainst_45 : decode prog_8_method_9_code 45 = .ok (.iconst 3, 1) := by decide +kernel
theorem d_Reader_reasonAgainst_46 : decode prog_8_method_9_code 46 = .ok (.ireturn, 1) := by decide +kernel
theorem d_Reader_reasonAgainst_47 : decode prog_8_method_9_code 47 = .ok (.aload_n 0, 1) := by decide +kernel
theorem d_Reader_reasonAgainst_48 : decode prog_8_method_9_code 48 = .ok (.getfield 12, 3) := by decide +kernel
theorem d_Reader_reasonAgainst_51 : decode prog_8_method_9_code 51 = .ok (.invokevirtual 35, 3) := by decide +kernel
theorem d_Reader_reasonAgainst_54 : decode prog_8_method_9_code 54 = .ok (.iload_n 2, 1) := by decide +kernel
theorem d_Reader_reasonAgainst_55 : decode prog_8_method_9_code 55 = .ok (.iadd, 1) := by decide +kernel
theorem d_Reader_reasonAgainst_56 : decode prog_8_method_9_code 56 = .ok (.bipush 60, 2) := by decide +kernel
theorem d_Reader_reasonAgainst_58 : decode prog_8_method_9_code 58 = .ok (.if_icmp .le 7, 3) := by decide +kernel
theorem d_Reader_reasonAgainst_61 : decode prog_8_method_9_code 61 = .ok (.iconst 4, 1) := by decide +kernel
theorem d_Reader_reasonAgainst_62 : decode prog_8_method_9_code 62 = .ok (.goto 4, 3) := by decide +kernel
theorem d_Reader_reasonAgainst_65 : decode prog_8_method_9_code 65 = .ok (.iconst 0, 1) := by decide +kernel
theorem d_Reader_reasonAgainst_66 : decode prog_8_method_9_code 66 = .ok (.ireturn, 1) := by decide +kernel
theorem d_Reader_takeNumber_0 : decode prog_8_method_10_code 0 = .ok (.aload_n 0, 1) := by decide +kernel
theorem d_Reader_takeNumber_1 : decode prog_8_method_10_code 1 = .ok (.invokevirtual 46, 3) := by decide +kernel
theorem d_Reader_takeNumber_4 : decode prog_8_method_10_code 4 = .ok (.ifCond .eq 5, 3) := by decide +kernel
theorem d_Reader_takeNumber_7 : decode prog_8_method_10_code 7 = .ok (.iconst (-1), 1) := by decide +kernel
theorem d_Reader_takeNumber_8 : decode prog_8_method_10_code 8 = .ok (.ireturn, 1) := by decide +kernel
theorem d_Reader_takeNumber_9 : decode prog_8_method_10_code 9 = .ok (.aload_n 0, 1) := by decide +kernel
theorem d_Reader_takeNumber_10 : decode prog_8_method_10_code 10 = .ok (.aload_n 0, 1) := by decide +kernel
theorem d_Reader_takeNumber_11 : decode prog_8_method_10_code 11 = .ok (.getfield 18, 3) := by decide +kernel
theorem d_Reader_takeNumber_14 : decode prog_8_method_10_code 14 = .ok (.invokevirtual 96, 3) := by decide +kernel
theorem d_Reader_takeNumber_17 : decode prog_8_method_10_code 17 = .ok (.istore_n 1, 1) := by decide +kernel
theorem d_Reader_takeNumber_18 : decode prog_8_method_10_code 18 = .ok (.iload_n 1, 1) := by decide +kernel
theorem d_Reader_takeNumber_19 : decode prog_8_method_10_code 19 = .ok (.iconst (-1), 1) := by decide +kernel
theorem d_Reader_takeNumber_20 : decode prog_8_method_10_code 20 = .ok (.if_icmp .ne 14, 3) := by decide +kernel
theorem d_Reader_takeNumber_23 : decode prog_8_method_10_code 23 = .ok (.aload_n 0, 1) := by decide +kernel
theorem d_Reader_takeNumber_24 : decode prog_8_method_10_code 24 = .ok (.aload_n 0, 1) := by decide +kernel
theorem d_Reader_takeNumber_25 : decode prog_8_method_10_code 25 = .ok (.getfield 18, 3) := by decide +kernel
theorem d_Reader_takeNumber_28 : decode prog_8_method_10_code 28 = .ok (.iconst 1, 1) := by decide +kernel
theorem d_Reader_takeNumber_29 : decode prog_8_method_10_code 29 = .ok (.invokevirtual 64, 3) := by decide +kernel
theorem d_Reader_takeNumber_32 : decode prog_8_method_10_code 32 = .ok (.iconst (-1), 1) := by decide +kernel
theorem d_Reader_takeNumber_33 : decode prog_8_method_10_code 33 = .ok (.ireturn, 1) := by decide +kernel
theorem d_Reader_takeNumber_34 : decode prog_8_method_10_code 34 = .ok (.aload_n 0, 1) := by decide +kernel
theorem d_Reader_takeNumber_35 : decode prog_8_method_10_code 35 = .ok (.dup, 1) := by decide +kernel
theorem d_Reader_takeNumber_36 : decode prog_8_method_10_code 36 = .ok (.getfield 18, 3) := by decide +kernel
theorem d_Reader_takeNumber_39 : decode prog_8_method_10_code 39 = .ok (.iconst 1, 1) := by decide +kernel
theorem d_Reader_takeNumber_40 : decode prog_8_method_10_code 40 = .ok (.iadd, 1) := by decide +kernel
theorem d_Reader_takeNumber_41 : decode prog_8_method_10_code 41 = .ok (.putfield 18, 3) := by decide +kernel
theorem d_Reader_takeNumber_44 : decode prog_8_method_10_code 44 = .ok (.aload_n 0, 1) := by decide +kernel
theorem d_Reader_takeNumber_45 : decode prog_8_method_10_code 45 = .ok (.aload_n 0, 1) := by decide +kernel
theorem d_Reader_takeNumber_46 : decode prog_8_method_10_code 46 = .ok (.getfield 18, 3) := by decide +kernel
theorem d_Reader_takeNumber_49 : decode prog_8_method_10_code 49 = .ok (.invokevirtual 96, 3) := by decide +kernel
theorem d_Reader_takeNumber_52 : decode prog_8_method_10_code 52 = .ok (.istore_n 2, 1) := by decide +kernel
theorem d_Reader_takeNumber_53 : decode prog_8_method_10_code 53 = .ok (.iload_n 1, 1) := by decide +kernel
theorem d_Reader_takeNumber_54 : decode prog_8_method_10_code 54 = .ok (.ifCond .eq 8, 3) := by decide +kernel
theorem d_Reader_takeNumber_57 : decode prog_8_method_10_code 57 = .ok (.iload_n 2, 1) := by decide +kernel
theorem d_Reader_takeNumber_58 : decode prog_8_method_10_code 58 = .ok (.iconst (-1), 1) := by decide +kernel
theorem d_Reader_takeNumber_59 : decode prog_8_method_10_code 59 = .ok (.if_icmp .ne 5, 3) := by decide +kernel
theorem d_Reader_takeNumber_62 : decode prog_8_method_10_code 62 = .ok (.iload_n 1, 1) := by decide +kernel
theorem d_Reader_takeNumber_63 : decode prog_8_method_10_code 63 = .ok (.ireturn, 1) := by decide +kernel
theorem d_Reader_takeNumber_64 : decode prog_8_method_10_code 64 = .ok (.aload_n 0, 1) := by decide +kernel
theorem d_Reader_takeNumber_65 : decode prog_8_method_10_code 65 = .ok (.dup, 1) := by decide +kernel
theorem d_Reader_takeNumber_66 : decode prog_8_method_10_code 66 = .ok (.getfield 18, 3) := by decide +kernel
theorem d_Reader_takeNumber_69 : decode prog_8_method_10_code 69 = .ok (.iconst 1, 1) := by decide +kernel
theorem d_Reader_takeNumber_70 : decode prog_8_method_10_code 70 = .ok (.iadd, 1) := by decide +kernel
theorem d_Reader_takeNumber_71 : decode prog_8_method_10_code 71 = .ok (.putfield 18, 3) := by decide +kernel
theorem d_Reader_takeNumber_74 : decode prog_8_method_10_code 74 = .ok (.iload_n 1, 1) := by decide +kernel
theorem d_Reader_takeNumber_75 : decode prog_8_method_10_code 75 = .ok (.bipush 10, 2) := by decide +kernel
theorem d_Reader_takeNumber_77 : decode prog_8_method_10_code 77 = .ok (.imul, 1) := by decide +kernel
theorem d_Reader_takeNumber_78 : decode prog_8_method_10_code 78 = .ok (.iload_n 2, 1) := by decide +kernel
theorem d_Reader_takeNumber_79 : decode prog_8_method_10_code 79 = .ok (.iadd, 1) := by decide +kernel
theorem d_Reader_takeNumber_80 : decode prog_8_method_10_code 80 = .ok (.ireturn, 1) := by decide +kernel
theorem d_Reader_digitAt_0 : decode prog_8_method_11_code 0 = .ok (.aload_n 0, 1) := by decide +kernel
theorem d_Reader_digitAt_1 : decode prog_8_method_11_code 1 = .ok (.getfield 28, 3) := by decide +kernel
theorem d_Reader_digitAt_4 : decode prog_8_method_11_code 4 = .ok (.iload_n 1, 1) := by decide +kernel
theorem d_Reader_digitAt_5 : decode prog_8_method_11_code 5 = .ok (.invokevirtual 50, 3) := by decide +kernel
theorem d_Reader_digitAt_8 : decode prog_8_method_11_code 8 = .ok (.istore_n 2, 1) := by decide +kernel
theorem d_Reader_digitAt_9 : decode prog_8_method_11_code 9 = .ok (.iload_n 2, 1) := by decide +kernel
theorem d_Reader_digitAt_10 : decode prog_8_method_11_code 10 = .ok (.bipush 48, 2) := by decide +kernel
theorem d_Reader_digitAt_12 : decode prog_8_method_11_code 12 = .ok (.bipush 57, 2) := by decide +kernel
theorem d_Reader_digitAt_14 : decode prog_8_method_11_code 14 = .ok (.invokestatic 92, 3) := by decide +kernel
theorem d_Reader_digitAt_17 : decode prog_8_method_11_code 17 = .ok (.ifCond .eq 10, 3) := by decide +kernel
theorem d_Reader_digitAt_20 : decode prog_8_method_11_code 20 = .ok (.iload_n 2, 1) := by decide +kernel
theorem d_Reader_digitAt_21 : decode prog_8_method_11_code 21 = .ok (.bipush 48, 2) := by decide +kernel
theorem d_Reader_digitAt_23 : decode prog_8_method_11_code 23 = .ok (.isub, 1) := by decide +kernel
theorem d_Reader_digitAt_24 : decode prog_8_method_11_code 24 = .ok (.goto 4, 3) := by decide +kernel
theorem d_Reader_digitAt_27 : decode prog_8_method_11_code 27 = .ok (.iconst (-1), 1) := by decide +kernel
theorem d_Reader_digitAt_28 : decode prog_8_method_11_code 28 = .ok (.ireturn, 1) := by decide +kernel
theorem d_Reader_takeSign_0 : decode prog_8_method_12_code 0 = .ok (.aload_n 0, 1) := by decide +kernel
theorem d_Reader_takeSign_1 : decode prog_8_method_12_code 1 = .ok (.invokevirtual 46, 3) := by decide +kernel
theorem d_Reader_takeSign_4 : decode prog_8_method_12_code 4 = .ok (.ifCond .eq 4, 3) := by decide +kernel
theorem d_Reader_takeSign_7 : decode prog_8_method_12_code 7 = .ok (.return_, 1) := by decide +kernel
theorem d_Reader_takeSign_8 : decode prog_8_method_12_code 8 = .ok (.aload_n 0, 1) := by decide +kernel
theorem d_Reader_takeSign_9 : decode prog_8_method_12_code 9 = .ok (.getfield 28, 3) := by decide +kernel
theorem d_Reader_takeSign_12 : decode prog_8_method_12_code 12 = .ok (.aload_n 0, 1) := by decide +kernel
theorem d_Reader_takeSign_13 : decode prog_8_method_12_code 13 = .ok (.getfield 18, 3) := by decide +kernel
theorem d_Reader_takeSign_16 : decode prog_8_method_12_code 16 = .ok (.invokevirtual 50, 3) := by decide +kernel
theorem d_Reader_takeSign_19 : decode prog_8_method_12_code 19 = .ok (.iload_n 1, 1) := by decide +kernel
theorem d_Reader_takeSign_20 : decode prog_8_method_12_code 20 = .ok (.if_icmp .ne 16, 3) := by decide +kernel
theorem d_Reader_takeSign_23 : decode prog_8_method_12_code 23 = .ok (.aload_n 0, 1) := by decide +kernel
theorem d_Reader_takeSign_24 : decode prog_8_method_12_code 24 = .ok (.dup, 1) := by decide +kernel
theorem d_Reader_takeSign_25 : decode prog_8_method_12_code 25 = .ok (.getfield 18, 3) := by decide +kernel
theorem d_Reader_takeSign_28 : decode prog_8_method_12_code 28 = .ok (.iconst 1, 1) := by decide +kernel
theorem d_Reader_takeSign_29 : decode prog_8_method_12_code 29 = .ok (.iadd, 1) := by decide +kernel
theorem d_Reader_takeSign_30 : decode prog_8_method_12_code 30 = .ok (.putfield 18, 3) := by decide +kernel
theorem d_Reader_takeSign_33 : decode prog_8_method_12_code 33 = .ok (.goto 12, 3) := by decide +kernel
theorem d_Reader_takeSign_36 : decode prog_8_method_12_code 36 = .ok (.aload_n 0, 1) := by decide +kernel
theorem d_Reader_takeSign_37 : decode prog_8_method_12_code 37 = .ok (.aload_n 0, 1) := by decide +kernel
theorem d_Reader_takeSign_38 : decode prog_8_method_12_code 38 = .ok (.getfield 18, 3) := by decide +kernel
theorem d_Reader_takeSign_41 : decode prog_8_method_12_code 41 = .ok (.iconst 1, 1) := by decide +kernel
theorem d_Reader_takeSign_42 : decode prog_8_method_12_code 42 = .ok (.invokevirtual 64, 3) := by decide +kernel
theorem d_Reader_takeSign_45 : decode prog_8_method_12_code 45 = .ok (.return_, 1) := by decide +kernel
theorem d_Reader_blame_0 : decode prog_8_method_13_code 0 = .ok (.aload_n 0, 1) := by decide +kernel
theorem d_Reader_blame_1 : decode prog_8_method_13_code 1 = .ok (.iload_n 1, 1) := by decide +kernel
theorem d_Reader_blame_2 : decode prog_8_method_13_code 2 = .ok (.putfield 22, 3) := by decide +kernel
theorem d_Reader_blame_5 : decode prog_8_method_13_code 5 = .ok (.aload_n 0, 1) := by decide +kernel
theorem d_Reader_blame_6 : decode prog_8_method_13_code 6 = .ok (.iload_n 2, 1) := by decide +kernel
theorem d_Reader_blame_7 : decode prog_8_method_13_code 7 = .ok (.putfield 25, 3) := by decide +kernel
theorem d_Reader_blame_10 : decode prog_8_method_13_code 10 = .ok (.return_, 1) := by decide +kernel
theorem d_law_0 : decode code 0 = .ok (.new 7, 3) := by decide +kernel
theorem d_law_3 : decode code 3 = .ok (.dup, 1) := by decide +kernel
theorem d_law_4 : decode code 4 = .ok (.invokespecial 9, 3) := by decide +kernel
theorem d_law_7 : decode code 7 = .ok (.astore_n 1, 1) := by decide +kernel
theorem d_law_8 : decode code 8 = .ok (.new 10, 3) := by decide +kernel
theorem d_law_11 : decode code 11 = .ok (.dup, 1) := by decide +kernel
theorem d_law_12 : decode code 12 = .ok (.invokespecial 12, 3) := by decide +kernel
theorem d_law_15 : decode code 15 = .ok (.astore_n 2, 1) := by decide +kernel
theorem d_law_16 : decode code 16 = .ok (.iconst 0, 1) := by decide +kernel
theorem d_law_17 : decode code 17 = .ok (.istore_n 3, 1) := by decide +kernel
theorem d_law_18 : decode code 18 = .ok (.iload_n 3, 1) := by decide +kernel
theorem d_law_19 : decode code 19 = .ok (.aload_n 0, 1) := by decide +kernel
theorem d_law_20 : decode code 20 = .ok (.arraylength, 1) := by decide +kernel
theorem d_law_21 : decode code 21 = .ok (.iconst 4, 1) := by decide +kernel
theorem d_law_22 : decode code 22 = .ok (.isub, 1) := by decide +kernel
theorem d_law_23 : decode code 23 = .ok (.if_icmp .gt 695, 3) := by decide +kernel
theorem d_law_26 : decode code 26 = .ok (.aload_n 0, 1) := by decide +kernel
theorem d_law_27 : decode code 27 = .ok (.iload_n 3, 1) := by decide +kernel
theorem d_law_28 : decode code 28 = .ok (.iaload, 1) := by decide +kernel
theorem d_law_29 : decode code 29 = .ok (.bipush 31, 2) := by decide +kernel
theorem d_law_31 : decode code 31 = .ok (.iand, 1) := by decide +kernel
theorem d_law_32 : decode code 32 = .ok (.tableswitch 680 0 21 #[104, 127, 150, 183, 216, 239, 282, 315, 358, 401, 434, 467, 500, 523, 546, 559, 572, 585, 608, 621, 644, 667], 104) := by decide +kernel
theorem d_law_136 : decode code 136 = .ok (.aload_n 1, 1) := by decide +kernel
theorem d_law_137 : decode code 137 = .ok (.aload_n 0, 1) := by decide +kernel
theorem d_law_138 : decode code 138 = .ok (.iload_n 3, 1) := by decide +kernel
theorem d_law_139 : decode code 139 = .ok (.iconst 1, 1) := by decide +kernel
theorem d_law_140 : decode code 140 = .ok (.iadd, 1) := by decide +kernel
theorem d_law_141 : decode code 141 = .ok (.iaload, 1) := by decide +kernel
theorem d_law_142 : decode code 142 = .ok (.invokevirtual 13, 3) := by decide +kernel
theorem d_law_145 : decode code 145 = .ok (.aload_n 2, 1) := by decide +kernel
theorem d_law_146 : decode code 146 = .ok (.aload_n 0, 1) := by decide +kernel
theorem d_law_147 : decode code 147 = .ok (.iload_n 3, 1) := by decide +kernel
theorem d_law_148 : decode code 148 = .ok (.iconst 1, 1) := by decide +kernel
theorem d_law_149 : decode code 149 = .ok (.iadd, 1) := by decide +kernel
theorem d_law_150 : decode code 150 = .ok (.iaload, 1) := by decide +kernel
theorem d_law_151 : decode code 151 = .ok (.invokevirtual 17, 3) := by decide +kernel
theorem d_law_154 : decode code 154 = .ok (.if_icmp .eq 558, 3) := by decide +kernel
theorem d_law_157 : decode code 157 = .ok (.iconst 0, 1) := by decide +kernel
theorem d_law_158 : decode code 158 = .ok (.ireturn, 1) := by decide +kernel
theorem d_law_159 : decode code 159 = .ok (.aload_n 1, 1) := by decide +kernel
theorem d_law_160 : decode code 160 = .ok (.aload_n 0, 1) := by decide +kernel
theorem d_law_161 : decode code 161 = .ok (.iload_n 3, 1) := by decide +kernel
theorem d_law_162 : decode code 162 = .ok (.iconst 1, 1) := by decide +kernel
theorem d_law_163 : decode code 163 = .ok (.iadd, 1) := by decide +kernel
theorem d_law_164 : decode code 164 = .ok (.iaload, 1) := by decide +kernel
theorem d_law_165 : decode code 165 = .ok (.invokevirtual 18, 3) := by decide +kernel
theorem d_law_168 : decode code 168 = .ok (.aload_n 2, 1) := by decide +kernel
theorem d_law_169 : decode code 169 = .ok (.aload_n 0, 1) := by decide +kernel
theorem d_law_170 : decode code 170 = .ok (.iload_n 3, 1) := by decide +kernel
theorem d_law_171 : decode code 171 = .ok (.iconst 1, 1) := by decide +kernel
theorem d_law_172 : decode code 172 = .ok (.iadd, 1) := by decide +kernel
theorem d_law_173 : decode code 173 = .ok (.iaload, 1) := by decide +kernel
theorem d_law_174 : decode code 174 = .ok (.invokevirtual 21, 3) := by decide +kernel
theorem d_law_177 : decode code 177 = .ok (.if_icmp .eq 535, 3) := by decide +kernel
theorem d_law_180 : decode code 180 = .ok (.iconst 0, 1) := by decide +kernel
theorem d_law_181 : decode code 181 = .ok (.ireturn, 1) := by decide +kernel
theorem d_law_182 : decode code 182 = .ok (.aload_n 1, 1) := by decide +kernel
theorem d_law_183 : decode code 183 = .ok (.aload_n 0, 1) := by decide +kernel
theorem d_law_184 : decode code 184 = .ok (.iload_n 3, 1) := by decide +kernel
theorem d_law_185 : decode code 185 = .ok (.iconst 1, 1) := by decide +kernel
theorem d_law_186 : decode code 186 = .ok (.iadd, 1) := by decide +kernel
theorem d_law_187 : decode code 187 = .ok (.iaload, 1) := by decide +kernel
theorem d_law_188 : decode code 188 = .ok (.aload_n 0, 1) := by decide +kernel
theorem d_law_189 : decode code 189 = .ok (.iload_n 3, 1) := by decide +kernel
theorem d_law_190 : decode code 190 = .ok (.iconst 2, 1) := by decide +kernel
theorem d_law_191 : decode code 191 = .ok (.iadd, 1) := by decide +kernel
theorem d_law_192 : decode code 192 = .ok (.iaload, 1) := by decide +kernel
theorem d_law_193 : decode code 193 = .ok (.invokevirtual 22, 3) := by decide +kernel
theorem d_law_196 : decode code 196 = .ok (.aload_n 2, 1) := by decide +kernel
theorem d_law_197 : decode code 197 = .ok (.aload_n 0, 1) := by decide +kernel
theorem d_law_198 : decode code 198 = .ok (.iload_n 3, 1) := by decide +kernel
theorem d_law_199 : decode code 199 = .ok (.iconst 1, 1) := by decide +kernel
theorem d_law_200 : decode code 200 = .ok (.iadd, 1) := by decide +kernel
theorem d_law_201 : decode code 201 = .ok (.iaload, 1) := by decide +kernel
theorem d_law_202 : decode code 202 = .ok (.aload_n 0, 1) := by decide +kernel
theorem d_law_203 : decode code 203 = .ok (.iload_n 3, 1) := by decide +kernel
theorem d_law_204 : decode code 204 = .ok (.iconst 2, 1) := by decide +kernel
theorem d_law_205 : decode code 205 = .ok (.iadd, 1) := by decide +kernel
theorem d_law_206 : decode code 206 = .ok (.iaload, 1) := by decide +kernel
theorem d_law_207 : decode code 207 = .ok (.invokevirtual 26, 3) := by decide +kernel
theorem d_law_210 : decode code 210 = .ok (.if_icmp .eq 502, 3) := by decide +kernel
theorem d_law_213 : decode code 213 = .ok (.iconst 0, 1) := by decide +kernel
theorem d_law_214 : decode code 214 = .ok (.ireturn, 1) := by decide +kernel
theorem d_law_215 : decode code 215 = .ok (.aload_n 1, 1) := by decide +kernel
theorem d_law_216 : decode code 216 = .ok (.aload_n 0, 1) := by decide +kernel
theorem d_law_217 : decode code 217 = .ok (.iload_n 3, 1) := by decide +kernel
theorem d_law_218 : decode code 218 = .ok (.iconst 1, 1) := by decide +kernel
theorem d_law_219 : decode code 219 = .ok (.iadd, 1) := by decide +kernel
theorem d_law_220 : decode code 220 = .ok (.iaload, 1) := by decide +kernel
theorem d_law_221 : decode code 221 = .ok (.aload_n 0, 1) := by decide +kernel
theorem d_law_222 : decode code 222 = .ok (.iload_n 3, 1) := by decide +kernel
theorem d_law_223 : decode code 223 = .ok (.iconst 2, 1) := by decide +kernel
theorem d_law_224 : decode code 224 = .ok (.iadd, 1) := by decide +kernel
theorem d_law_225 : decode code 225 = .ok (.iaload, 1) := by decide +kernel
theorem d_law_226 : decode code 226 = .ok (.invokevirtual 27, 3) := by decide +kernel
theorem d_law_229 : decode code 229 = .ok (.aload_n 2, 1) := by decide +kernel
theorem d_law_230 : decode code 230 = .ok (.aload_n 0, 1) := by decide +kernel
theorem d_law_231 : decode code 231 = .ok (.iload_n 3, 1) := by decide +kernel
theorem d_law_232 : decode code 232 = .ok (.iconst 1, 1) := by decide +kernel
theorem d_law_233 : decode code 233 = .ok (.iadd, 1) := by decide +kernel
theorem d_law_234 : decode code 234 = .ok (.iaload, 1) := by decide +kernel
theorem d_law_235 : decode code 235 = .ok (.aload_n 0, 1) := by decide +kernel
theorem d_law_236 : decode code 236 = .ok (.iload_n 3, 1) := by decide +kernel
theorem d_law_237 : decode code 237 = .ok (.iconst 2, 1) := by decide +kernel
theorem d_law_238 : decode code 238 = .ok (.iadd, 1) := by decide +kernel
theorem d_law_239 : decode code 239 = .ok (.iaload, 1) := by decide +kernel
theorem d_law_240 : decode code 240 = .ok (.invokevirtual 30, 3) := by decide +kernel
theorem d_law_243 : decode code 243 = .ok (.if_icmp .eq 469, 3) := by decide +kernel
theorem d_law_246 : decode code 246 = .ok (.iconst 0, 1) := by decide +kernel
theorem d_law_247 : decode code 247 = .ok (.ireturn, 1) := by decide +kernel
theorem d_law_248 : decode code 248 = .ok (.aload_n 1, 1) := by decide +kernel
theorem d_law_249 : decode code 249 = .ok (.aload_n 0, 1) := by decide +kernel
theorem d_law_250 : decode code 250 = .ok (.iload_n 3, 1) := by decide +kernel
theorem d_law_251 : decode code 251 = .ok (.iconst 1, 1) := by decide +kernel
theorem d_law_252 : decode code 252 = .ok (.iadd, 1) := by decide +kernel
theorem d_law_253 : decode code 253 = .ok (.iaload, 1) := by decide +kernel
theorem d_law_254 : decode code 254 = .ok (.invokevirtual 31, 3) := by decide +kernel
theorem d_law_257 : decode code 257 = .ok (.aload_n 2, 1) := by decide +kernel
theorem d_law_258 : decode code 258 = .ok (.aload_n 0, 1) := by decide +kernel
theorem d_law_259 : decode code 259 = .ok (.iload_n 3, 1) := by decide +kernel
theorem d_law_260 : decode code 260 = .ok (.iconst 1, 1) := by decide +kernel
theorem d_law_261 : decode code 261 = .ok (.iadd, 1) := by decide +kernel
theorem d_law_262 : decode code 262 = .ok (.iaload, 1) := by decide +kernel
theorem d_law_263 : decode code 263 = .ok (.invokevirtual 34, 3) := by decide +kernel
theorem d_law_266 : decode code 266 = .ok (.if_icmp .eq 446, 3) := by decide +kernel
theorem d_law_269 : decode code 269 = .ok (.iconst 0, 1) := by decide +kernel
theorem d_law_270 : decode code 270 = .ok (.ireturn, 1) := by decide +kernel
theorem d_law_271 : decode code 271 = .ok (.aload_n 1, 1) := by decide +kernel
theorem d_law_272 : decode code 272 = .ok (.aload_n 0, 1) := by decide +kernel
theorem d_law_273 : decode code 273 = .ok (.iload_n 3, 1) := by decide +kernel
theorem d_law_274 : decode code 274 = .ok (.iconst 1, 1) := by decide +kernel
theorem d_law_275 : decode code 275 = .ok (.iadd, 1) := by decide +kernel
theorem d_law_276 : decode code 276 = .ok (.iaload, 1) := by decide +kernel
theorem d_law_277 : decode code 277 = .ok (.aload_n 0, 1) := by decide +kernel
theorem d_law_278 : decode code 278 = .ok (.iload_n 3, 1) := by decide +kernel
theorem d_law_279 : decode code 279 = .ok (.iconst 2, 1) := by decide +kernel
theorem d_law_280 : decode code 280 = .ok (.iadd, 1) := by decide +kernel
theorem d_law_281 : decode code 281 = .ok (.iaload, 1) := by decide +kernel
theorem d_law_282 : decode code 282 = .ok (.aload_n 0, 1) := by decide +kernel
theorem d_law_283 : decode code 283 = .ok (.iload_n 3, 1) := by decide +kernel
theorem d_law_284 : decode code 284 = .ok (.iconst 3, 1) := by decide +kernel
theorem d_law_285 : decode code 285 = .ok (.iadd, 1) := by decide +kernel
theorem d_law_286 : decode code 286 = .ok (.iaload, 1) := by decide +kernel
theorem d_law_287 : decode code 287 = .ok (.invokevirtual 35, 3) := by decide +kernel
theorem d_law_290 : decode code 290 = .ok (.aload_n 2, 1) := by decide +kernel
theorem d_law_291 : decode code 291 = .ok (.aload_n 0, 1) := by decide +kernel
theorem d_law_292 : decode code 292 = .ok (.iload_n 3, 1) := by decide +kernel
theorem d_law_293 : decode code 293 = .ok (.iconst 1, 1) := by decide +kernel
theorem d_law_294 : decode code 294 = .ok (.iadd, 1) := by decide +kernel
theorem d_law_295 : decode code 295 = .ok (.iaload, 1) := by decide +kernel
theorem d_law_296 : decode code 296 = .ok (.aload_n 0, 1) := by decide +kernel
theorem d_law_297 : decode code 297 = .ok (.iload_n 3, 1) := by decide +kernel
theorem d_law_298 : decode code 298 = .ok (.iconst 2, 1) := by decide +kernel
theorem d_law_299 : decode code 299 = .ok (.iadd, 1) := by decide +kernel
theorem d_law_300 : decode code 300 = .ok (.iaload, 1) := by decide +kernel
theorem d_law_301 : decode code 301 = .ok (.aload_n 0, 1) := by decide +kernel
theorem d_law_302 : decode code 302 = .ok (.iload_n 3, 1) := by decide +kernel
theorem d_law_303 : decode code 303 = .ok (.iconst 3, 1) := by decide +kernel
theorem d_law_304 : decode code 304 = .ok (.iadd, 1) := by decide +kernel
theorem d_law_305 : decode code 305 = .ok (.iaload, 1) := by decide +kernel
theorem d_law_306 : decode code 306 = .ok (.invokevirtual 39, 3) := by decide +kernel
theorem d_law_309 : decode code 309 = .ok (.if_icmp .eq 403, 3) := by decide +kernel
theorem d_law_312 : decode code 312 = .ok (.iconst 0, 1) := by decide +kernel
theorem d_law_313 : decode code 313 = .ok (.ireturn, 1) := by decide +kernel
theorem d_law_314 : decode code 314 = .ok (.aload_n 1, 1) := by decide +kernel
theorem d_law_315 : decode code 315 = .ok (.aload_n 0, 1) := by decide +kernel
theorem d_law_316 : decode code 316 = .ok (.iload_n 3, 1) := by decide +kernel
theorem d_law_317 : decode code 317 = .ok (.iconst 1, 1) := by decide +kernel
theorem d_law_318 : decode code 318 = .ok (.iadd, 1) := by decide +kernel
theorem d_law_319 : decode code 319 = .ok (.iaload, 1) := by decide +kernel
theorem d_law_320 : decode code 320 = .ok (.aload_n 0, 1) := by decide +kernel
theorem d_law_321 : decode code 321 = .ok (.iload_n 3, 1) := by decide +kernel
theorem d_law_322 : decode code 322 = .ok (.iconst 2, 1) := by decide +kernel
theorem d_law_323 : decode code 323 = .ok (.iadd, 1) := by decide +kernel
theorem d_law_324 : decode code 324 = .ok (.iaload, 1) := by decide +kernel
theorem d_law_325 : decode code 325 = .ok (.invokevirtual 40, 3) := by decide +kernel
theorem d_law_328 : decode code 328 = .ok (.aload_n 2, 1) := by decide +kernel
theorem d_law_329 : decode code 329 = .ok (.aload_n 0, 1) := by decide +kernel
theorem d_law_330 : decode code 330 = .ok (.iload_n 3, 1) := by decide +kernel
theorem d_law_331 : decode code 331 = .ok (.iconst 1, 1) := by decide +kernel
theorem d_law_332 : decode code 332 = .ok (.iadd, 1) := by decide +kernel
theorem d_law_333 : decode code 333 = .ok (.iaload, 1) := by decide +kernel
theorem d_law_334 : decode code 334 = .ok (.aload_n 0, 1) := by decide +kernel
theorem d_law_335 : decode code 335 = .ok (.iload_n 3, 1) := by decide +kernel
theorem d_law_336 : decode code 336 = .ok (.iconst 2, 1) := by decide +kernel
theorem d_law_337 : decode code 337 = .ok (.iadd, 1) := by decide +kernel
theorem d_law_338 : decode code 338 = .ok (.iaload, 1) := by decide +kernel
theorem d_law_339 : decode code 339 = .ok (.invokevirtual 43, 3) := by decide +kernel
theorem d_law_342 : decode code 342 = .ok (.if_icmp .eq 370, 3) := by decide +kernel
theorem d_law_345 : decode code 345 = .ok (.iconst 0, 1) := by decide +kernel
theorem d_law_346 : decode code 346 = .ok (.ireturn, 1) := by decide +kernel
theorem d_law_347 : decode code 347 = .ok (.aload_n 1, 1) := by decide +kernel
theorem d_law_348 : decode code 348 = .ok (.aload_n 0, 1) := by decide +kernel
theorem d_law_349 : decode code 349 = .ok (.iload_n 3, 1) := by decide +kernel
theorem d_law_350 : decode code 350 = .ok (.iconst 1, 1) := by decide +kernel
theorem d_law_351 : decode code 351 = .ok (.iadd, 1) := by decide +kernel
theorem d_law_352 : decode code 352 = .ok (.iaload, 1) := by decide +kernel
theorem d_law_353 : decode code 353 = .ok (.aload_n 0, 1) := by decide +kernel
theorem d_law_354 : decode code 354 = .ok (.iload_n 3, 1) := by decide +kernel
theorem d_law_355 : decode code 355 = .ok (.iconst 2, 1) := by decide +kernel
theorem d_law_356 : decode code 356 = .ok (.iadd, 1) := by decide +kernel
theorem d_law_357 : decode code 357 = .ok (.iaload, 1) := by decide +kernel
theorem d_law_358 : decode code 358 = .ok (.aload_n 0, 1) := by decide +kernel
theorem d_law_359 : decode code 359 = .ok (.iload_n 3, 1) := by decide +kernel
theorem d_law_360 : decode code 360 = .ok (.iconst 3, 1) := by decide +kernel
theorem d_law_361 : decode code 361 = .ok (.iadd, 1) := by decide +kernel
theorem d_law_362 : decode code 362 = .ok (.iaload, 1) := by decide +kernel
theorem d_law_363 : decode code 363 = .ok (.invokevirtual 44, 3) := by decide +kernel
theorem d_law_366 : decode code 366 = .ok (.aload_n 2, 1) := by decide +kernel
theorem d_law_367 : decode code 367 = .ok (.aload_n 0, 1) := by decide +kernel
theorem d_law_368 : decode code 368 = .ok (.iload_n 3, 1) := by decide +kernel
theorem d_law_369 : decode code 369 = .ok (.iconst 1, 1) := by decide +kernel
theorem d_law_370 : decode code 370 = .ok (.iadd, 1) := by decide +kernel
theorem d_law_371 : decode code 371 = .ok (.iaload, 1) := by decide +kernel
theorem d_law_372 : decode code 372 = .ok (.aload_n 0, 1) := by decide +kernel
theorem d_law_373 : decode code 373 = .ok (.iload_n 3, 1) := by decide +kernel
theorem d_law_374 : decode code 374 = .ok (.iconst 2, 1) := by decide +kernel
theorem d_law_375 : decode code 375 = .ok (.iadd, 1) := by decide +kernel
theorem d_law_376 : decode code 376 = .ok (.iaload, 1) := by decide +kernel
theorem d_law_377 : decode code 377 = .ok (.aload_n 0, 1) := by decide +kernel
theorem d_law_378 : decode code 378 = .ok (.iload_n 3, 1) := by decide +kernel
theorem d_law_379 : decode code 379 = .ok (.iconst 3, 1) := by decide +kernel
theorem d_law_380 : decode code 380 = .ok (.iadd, 1) := by decide +kernel
theorem d_law_381 : decode code 381 = .ok (.iaload, 1) := by decide +kernel
theorem d_law_382 : decode code 382 = .ok (.invokevirtual 47, 3) := by decide +kernel
theorem d_law_385 : decode code 385 = .ok (.if_icmp .eq 327, 3) := by decide +kernel
theorem d_law_388 : decode code 388 = .ok (.iconst 0, 1) := by decide +kernel
theorem d_law_389 : decode code 389 = .ok (.ireturn, 1) := by decide +kernel
theorem d_law_390 : decode code 390 = .ok (.aload_n 1, 1) := by decide +kernel
theorem d_law_391 : decode code 391 = .ok (.aload_n 0, 1) := by decide +kernel
theorem d_law_392 : decode code 392 = .ok (.iload_n 3, 1) := by decide +kernel
theorem d_law_393 : decode code 393 = .ok (.iconst 1, 1) := by decide +kernel
theorem d_law_394 : decode code 394 = .ok (.iadd, 1) := by decide +kernel
theorem d_law_395 : decode code 395 = .ok (.iaload, 1) := by decide +kernel
theorem d_law_396 : decode code 396 = .ok (.aload_n 0, 1) := by decide +kernel
theorem d_law_397 : decode code 397 = .ok (.iload_n 3, 1) := by decide +kernel
theorem d_law_398 : decode code 398 = .ok (.iconst 2, 1) := by decide +kernel
theorem d_law_399 : decode code 399 = .ok (.iadd, 1) := by decide +kernel
theorem d_law_400 : decode code 400 = .ok (.iaload, 1) := by decide +kernel
theorem d_law_401 : decode code 401 = .ok (.aload_n 0, 1) := by decide +kernel
theorem d_law_402 : decode code 402 = .ok (.iload_n 3, 1) := by decide +kernel
theorem d_law_403 : decode code 403 = .ok (.iconst 3, 1) := by decide +kernel
theorem d_law_404 : decode code 404 = .ok (.iadd, 1) := by decide +kernel
theorem d_law_405 : decode code 405 = .ok (.iaload, 1) := by decide +kernel
theorem d_law_406 : decode code 406 = .ok (.invokevirtual 48, 3) := by decide +kernel
theorem d_law_409 : decode code 409 = .ok (.aload_n 2, 1) := by decide +kernel
theorem d_law_410 : decode code 410 = .ok (.aload_n 0, 1) := by decide +kernel
theorem d_law_411 : decode code 411 = .ok (.iload_n 3, 1) := by decide +kernel
theorem d_law_412 : decode code 412 = .ok (.iconst 1, 1) := by decide +kernel
theorem d_law_413 : decode code 413 = .ok (.iadd, 1) := by decide +kernel
theorem d_law_414 : decode code 414 = .ok (.iaload, 1) := by decide +kernel
theorem d_law_415 : decode code 415 = .ok (.aload_n 0, 1) := by decide +kernel
theorem d_law_416 : decode code 416 = .ok (.iload_n 3, 1) := by decide +kernel
theorem d_law_417 : decode code 417 = .ok (.iconst 2, 1) := by decide +kernel
theorem d_law_418 : decode code 418 = .ok (.iadd, 1) := by decide +kernel
theorem d_law_419 : decode code 419 = .ok (.iaload, 1) := by decide +kernel
theorem d_law_420 : decode code 420 = .ok (.aload_n 0, 1) := by decide +kernel
theorem d_law_421 : decode code 421 = .ok (.iload_n 3, 1) := by decide +kernel
theorem d_law_422 : decode code 422 = .ok (.iconst 3, 1) := by decide +kernel
theorem d_law_423 : decode code 423 = .ok (.iadd, 1) := by decide +kernel
theorem d_law_424 : decode code 424 = .ok (.iaload, 1) := by decide +kernel
theorem d_law_425 : decode code 425 = .ok (.invokevirtual 51, 3) := by decide +kernel
theorem d_law_428 : decode code 428 = .ok (.if_icmp .eq 284, 3) := by decide +kernel
theorem d_law_431 : decode code 431 = .ok (.iconst 0, 1) := by decide +kernel
theorem d_law_432 : decode code 432 = .ok (.ireturn, 1) := by decide +kernel
theorem d_law_433 : decode code 433 = .ok (.aload_n 1, 1) := by decide +kernel
theorem d_law_434 : decode code 434 = .ok (.aload_n 0, 1) := by decide +kernel
theorem d_law_435 : decode code 435 = .ok (.iload_n 3, 1) := by decide +kernel
theorem d_law_436 : decode code 436 = .ok (.iconst 1, 1) := by decide +kernel
theorem d_law_437 : decode code 437 = .ok (.iadd, 1) := by decide +kernel
theorem d_law_438 : decode code 438 = .ok (.iaload, 1) := by decide +kernel
theorem d_law_439 : decode code 439 = .ok (.aload_n 0, 1) := by decide +kernel
theorem d_law_440 : decode code 440 = .ok (.iload_n 3, 1) := by decide +kernel
theorem d_law_441 : decode code 441 = .ok (.iconst 2, 1) := by decide +kernel
theorem d_law_442 : decode code 442 = .ok (.iadd, 1) := by decide +kernel
theorem d_law_443 : decode code 443 = .ok (.iaload, 1) := by decide +kernel
theorem d_law_444 : decode code 444 = .ok (.invokevirtual 52, 3) := by decide +kernel
theorem d_law_447 : decode code 447 = .ok (.aload_n 2, 1) := by decide +kernel
theorem d_law_448 : decode code 448 = .ok (.aload_n 0, 1) := by decide +kernel
theorem d_law_449 : decode code 449 = .ok (.iload_n 3, 1) := by decide +kernel
theorem d_law_450 : decode code 450 = .ok (.iconst 1, 1) := by decide +kernel
theorem d_law_451 : decode code 451 = .ok (.iadd, 1) := by decide +kernel
theorem d_law_452 : decode code 452 = .ok (.iaload, 1) := by decide +kernel
theorem d_law_453 : decode code 453 = .ok (.aload_n 0, 1) := by decide +kernel
theorem d_law_454 : decode code 454 = .ok (.iload_n 3, 1) := by decide +kernel
theorem d_law_455 : decode code 455 = .ok (.iconst 2, 1) := by decide +kernel
theorem d_law_456 : decode code 456 = .ok (.iadd, 1) := by decide +kernel
theorem d_law_457 : decode code 457 = .ok (.iaload, 1) := by decide +kernel
theorem d_law_458 : decode code 458 = .ok (.invokevirtual 55, 3) := by decide +kernel
theorem d_law_461 : decode code 461 = .ok (.if_icmp .eq 251, 3) := by decide +kernel
theorem d_law_464 : decode code 464 = .ok (.iconst 0, 1) := by decide +kernel
theorem d_law_465 : decode code 465 = .ok (.ireturn, 1) := by decide +kernel
theorem d_law_466 : decode code 466 = .ok (.aload_n 1, 1) := by decide +kernel
theorem d_law_467 : decode code 467 = .ok (.aload_n 0, 1) := by decide +kernel
theorem d_law_468 : decode code 468 = .ok (.iload_n 3, 1) := by decide +kernel
theorem d_law_469 : decode code 469 = .ok (.iconst 1, 1) := by decide +kernel
theorem d_law_470 : decode code 470 = .ok (.iadd, 1) := by decide +kernel
theorem d_law_471 : decode code 471 = .ok (.iaload, 1) := by decide +kernel
theorem d_law_472 : decode code 472 = .ok (.aload_n 0, 1) := by decide +kernel
theorem d_law_473 : decode code 473 = .ok (.iload_n 3, 1) := by decide +kernel
theorem d_law_474 : decode code 474 = .ok (.iconst 2, 1) := by decide +kernel
theorem d_law_475 : decode code 475 = .ok (.iadd, 1) := by decide +kernel
theorem d_law_476 : decode code 476 = .ok (.iaload, 1) := by decide +kernel
theorem d_law_477 : decode code 477 = .ok (.invokevirtual 56, 3) := by decide +kernel
theorem d_law_480 : decode code 480 = .ok (.aload_n 2, 1) := by decide +kernel
theorem d_law_481 : decode code 481 = .ok (.aload_n 0, 1) := by decide +kernel
theorem d_law_482 : decode code 482 = .ok (.iload_n 3, 1) := by decide +kernel
theorem d_law_483 : decode code 483 = .ok (.iconst 1, 1) := by decide +kernel
theorem d_law_484 : decode code 484 = .ok (.iadd, 1) := by decide +kernel
theorem d_law_485 : decode code 485 = .ok (.iaload, 1) := by decide +kernel
theorem d_law_486 : decode code 486 = .ok (.aload_n 0, 1) := by decide +kernel
theorem d_law_487 : decode code 487 = .ok (.iload_n 3, 1) := by decide +kernel
theorem d_law_488 : decode code 488 = .ok (.iconst 2, 1) := by decide +kernel
theorem d_law_489 : decode code 489 = .ok (.iadd, 1) := by decide +kernel
theorem d_law_490 : decode code 490 = .ok (.iaload, 1) := by decide +kernel
theorem d_law_491 : decode code 491 = .ok (.invokevirtual 59, 3) := by decide +kernel
theorem d_law_494 : decode code 494 = .ok (.if_icmp .eq 218, 3) := by decide +kernel
theorem d_law_497 : decode code 497 = .ok (.iconst 0, 1) := by decide +kernel
theorem d_law_498 : decode code 498 = .ok (.ireturn, 1) := by decide +kernel
theorem d_law_499 : decode code 499 = .ok (.aload_n 1, 1) := by decide +kernel
theorem d_law_500 : decode code 500 = .ok (.aload_n 0, 1) := by decide +kernel
theorem d_law_501 : decode code 501 = .ok (.iload_n 3, 1) := by decide +kernel
theorem d_law_502 : decode code 502 = .ok (.iconst 1, 1) := by decide +kernel
theorem d_law_503 : decode code 503 = .ok (.iadd, 1) := by decide +kernel
theorem d_law_504 : decode code 504 = .ok (.iaload, 1) := by decide +kernel
theorem d_law_505 : decode code 505 = .ok (.aload_n 0, 1) := by decide +kernel
theorem d_law_506 : decode code 506 = .ok (.iload_n 3, 1) := by decide +kernel
theorem d_law_507 : decode code 507 = .ok (.iconst 2, 1) := by decide +kernel
theorem d_law_508 : decode code 508 = .ok (.iadd, 1) := by decide +kernel
theorem d_law_509 : decode code 509 = .ok (.iaload, 1) := by decide +kernel
theorem d_law_510 : decode code 510 = .ok (.invokevirtual 60, 3) := by decide +kernel
theorem d_law_513 : decode code 513 = .ok (.aload_n 2, 1) := by decide +kernel
theorem d_law_514 : decode code 514 = .ok (.aload_n 0, 1) := by decide +kernel
theorem d_law_515 : decode code 515 = .ok (.iload_n 3, 1) := by decide +kernel
theorem d_law_516 : decode code 516 = .ok (.iconst 1, 1) := by decide +kernel
theorem d_law_517 : decode code 517 = .ok (.iadd, 1) := by decide +kernel
theorem d_law_518 : decode code 518 = .ok (.iaload, 1) := by decide +kernel
theorem d_law_519 : decode code 519 = .ok (.aload_n 0, 1) := by decide +kernel
theorem d_law_520 : decode code 520 = .ok (.iload_n 3, 1) := by decide +kernel
theorem d_law_521 : decode code 521 = .ok (.iconst 2, 1) := by decide +kernel
theorem d_law_522 : decode code 522 = .ok (.iadd, 1) := by decide +kernel
theorem d_law_523 : decode code 523 = .ok (.iaload, 1) := by decide +kernel
theorem d_law_524 : decode code 524 = .ok (.invokevirtual 63, 3) := by decide +kernel
theorem d_law_527 : decode code 527 = .ok (.if_icmp .eq 185, 3) := by decide +kernel
theorem d_law_530 : decode code 530 = .ok (.iconst 0, 1) := by decide +kernel
theorem d_law_531 : decode code 531 = .ok (.ireturn, 1) := by decide +kernel
theorem d_law_532 : decode code 532 = .ok (.aload_n 1, 1) := by decide +kernel
theorem d_law_533 : decode code 533 = .ok (.aload_n 0, 1) := by decide +kernel
theorem d_law_534 : decode code 534 = .ok (.iload_n 3, 1) := by decide +kernel
theorem d_law_535 : decode code 535 = .ok (.iconst 1, 1) := by decide +kernel
theorem d_law_536 : decode code 536 = .ok (.iadd, 1) := by decide +kernel
theorem d_law_537 : decode code 537 = .ok (.iaload, 1) := by decide +kernel
theorem d_law_538 : decode code 538 = .ok (.invokevirtual 64, 3) := by decide +kernel
theorem d_law_541 : decode code 541 = .ok (.aload_n 2, 1) := by decide +kernel
theorem d_law_542 : decode code 542 = .ok (.aload_n 0, 1) := by decide +kernel
theorem d_law_543 : decode code 543 = .ok (.iload_n 3, 1) := by decide +kernel
theorem d_law_544 : decode code 544 = .ok (.iconst 1, 1) := by decide +kernel
theorem d_law_545 : decode code 545 = .ok (.iadd, 1) := by decide +kernel
theorem d_law_546 : decode code 546 = .ok (.iaload, 1) := by decide +kernel
theorem d_law_547 : decode code 547 = .ok (.invokevirtual 67, 3) := by decide +kernel
theorem d_law_550 : decode code 550 = .ok (.if_icmp .eq 162, 3) := by decide +kernel
theorem d_law_553 : decode code 553 = .ok (.iconst 0, 1) := by decide +kernel
theorem d_law_554 : decode code 554 = .ok (.ireturn, 1) := by decide +kernel
theorem d_law_555 : decode code 555 = .ok (.aload_n 1, 1) := by decide +kernel
theorem d_law_556 : decode code 556 = .ok (.aload_n 0, 1) := by decide +kernel
theorem d_law_557 : decode code 557 = .ok (.iload_n 3, 1) := by decide +kernel
theorem d_law_558 : decode code 558 = .ok (.iconst 1, 1) := by decide +kernel
theorem d_law_559 : decode code 559 = .ok (.iadd, 1) := by decide +kernel
theorem d_law_560 : decode code 560 = .ok (.iaload, 1) := by decide +kernel
theorem d_law_561 : decode code 561 = .ok (.invokevirtual 68, 3) := by decide +kernel
theorem d_law_564 : decode code 564 = .ok (.aload_n 2, 1) := by decide +kernel
theorem d_law_565 : decode code 565 = .ok (.aload_n 0, 1) := by decide +kernel
theorem d_law_566 : decode code 566 = .ok (.iload_n 3, 1) := by decide +kernel
theorem d_law_567 : decode code 567 = .ok (.iconst 1, 1) := by decide +kernel
theorem d_law_568 : decode code 568 = .ok (.iadd, 1) := by decide +kernel
theorem d_law_569 : decode code 569 = .ok (.iaload, 1) := by decide +kernel
theorem d_law_570 : decode code 570 = .ok (.invokevirtual 71, 3) := by decide +kernel
theorem d_law_573 : decode code 573 = .ok (.if_icmp .eq 139, 3) := by decide +kernel
theorem d_law_576 : decode code 576 = .ok (.iconst 0, 1) := by decide +kernel
theorem d_law_577 : decode code 577 = .ok (.ireturn, 1) := by decide +kernel
theorem d_law_578 : decode code 578 = .ok (.aload_n 1, 1) := by decide +kernel
theorem d_law_579 : decode code 579 = .ok (.invokevirtual 72, 3) := by decide +kernel
theorem d_law_582 : decode code 582 = .ok (.aload_n 2, 1) := by decide +kernel
theorem d_law_583 : decode code 583 = .ok (.invokevirtual 76, 3) := by decide +kernel
theorem d_law_586 : decode code 586 = .ok (.if_icmp .eq 126, 3) := by decide +kernel
theorem d_law_589 : decode code 589 = .ok (.iconst 0, 1) := by decide +kernel
theorem d_law_590 : decode code 590 = .ok (.ireturn, 1) := by decide +kernel
theorem d_law_591 : decode code 591 = .ok (.aload_n 1, 1) := by decide +kernel
theorem d_law_592 : decode code 592 = .ok (.invokevirtual 77, 3) := by decide +kernel
theorem d_law_595 : decode code 595 = .ok (.aload_n 2, 1) := by decide +kernel
theorem d_law_596 : decode code 596 = .ok (.invokevirtual 80, 3) := by decide +kernel
theorem d_law_599 : decode code 599 = .ok (.if_icmp .eq 113, 3) := by decide +kernel
theorem d_law_602 : decode code 602 = .ok (.iconst 0, 1) := by decide +kernel
theorem d_law_603 : decode code 603 = .ok (.ireturn, 1) := by decide +kernel
theorem d_law_604 : decode code 604 = .ok (.aload_n 1, 1) := by decide +kernel
theorem d_law_605 : decode code 605 = .ok (.invokevirtual 81, 3) := by decide +kernel
theorem d_law_608 : decode code 608 = .ok (.aload_n 2, 1) := by decide +kernel
theorem d_law_609 : decode code 609 = .ok (.invokevirtual 84, 3) := by decide +kernel
theorem d_law_612 : decode code 612 = .ok (.if_icmp .eq 100, 3) := by decide +kernel
theorem d_law_615 : decode code 615 = .ok (.iconst 0, 1) := by decide +kernel
theorem d_law_616 : decode code 616 = .ok (.ireturn, 1) := by decide +kernel
theorem d_law_617 : decode code 617 = .ok (.aload_n 1, 1) := by decide +kernel
theorem d_law_618 : decode code 618 = .ok (.aload_n 0, 1) := by decide +kernel
theorem d_law_619 : decode code 619 = .ok (.iload_n 3, 1) := by decide +kernel
theorem d_law_620 : decode code 620 = .ok (.iconst 1, 1) := by decide +kernel
theorem d_law_621 : decode code 621 = .ok (.iadd, 1) := by decide +kernel
theorem d_law_622 : decode code 622 = .ok (.iaload, 1) := by decide +kernel
theorem d_law_623 : decode code 623 = .ok (.invokevirtual 85, 3) := by decide +kernel
theorem d_law_626 : decode code 626 = .ok (.aload_n 2, 1) := by decide +kernel
theorem d_law_627 : decode code 627 = .ok (.aload_n 0, 1) := by decide +kernel
theorem d_law_628 : decode code 628 = .ok (.iload_n 3, 1) := by decide +kernel
theorem d_law_629 : decode code 629 = .ok (.iconst 1, 1) := by decide +kernel
theorem d_law_630 : decode code 630 = .ok (.iadd, 1) := by decide +kernel
theorem d_law_631 : decode code 631 = .ok (.iaload, 1) := by decide +kernel
theorem d_law_632 : decode code 632 = .ok (.invokevirtual 88, 3) := by decide +kernel
theorem d_law_635 : decode code 635 = .ok (.if_icmp .eq 77, 3) := by decide +kernel
theorem d_law_638 : decode code 638 = .ok (.iconst 0, 1) := by decide +kernel
theorem d_law_639 : decode code 639 = .ok (.ireturn, 1) := by decide +kernel
theorem d_law_640 : decode code 640 = .ok (.aload_n 1, 1) := by decide +kernel
theorem d_law_641 : decode code 641 = .ok (.invokevirtual 89, 3) := by decide +kernel
theorem d_law_644 : decode code 644 = .ok (.aload_n 2, 1) := by decide +kernel
theorem d_law_645 : decode code 645 = .ok (.invokevirtual 92, 3) := by decide +kernel
theorem d_law_648 : decode code 648 = .ok (.if_icmp .eq 64, 3) := by decide +kernel
theorem d_law_651 : decode code 651 = .ok (.iconst 0, 1) := by decide +kernel
theorem d_law_652 : decode code 652 = .ok (.ireturn, 1) := by decide +kernel
theorem d_law_653 : decode code 653 = .ok (.aload_n 1, 1) := by decide +kernel
theorem d_law_654 : decode code 654 = .ok (.aload_n 0, 1) := by decide +kernel
theorem d_law_655 : decode code 655 = .ok (.iload_n 3, 1) := by decide +kernel
theorem d_law_656 : decode code 656 = .ok (.iconst 1, 1) := by decide +kernel
theorem d_law_657 : decode code 657 = .ok (.iadd, 1) := by decide +kernel
theorem d_law_658 : decode code 658 = .ok (.iaload, 1) := by decide +kernel
theorem d_law_659 : decode code 659 = .ok (.invokevirtual 93, 3) := by decide +kernel
theorem d_law_662 : decode code 662 = .ok (.aload_n 2, 1) := by decide +kernel
theorem d_law_663 : decode code 663 = .ok (.aload_n 0, 1) := by decide +kernel
theorem d_law_664 : decode code 664 = .ok (.iload_n 3, 1) := by decide +kernel
theorem d_law_665 : decode code 665 = .ok (.iconst 1, 1) := by decide +kernel
theorem d_law_666 : decode code 666 = .ok (.iadd, 1) := by decide +kernel
theorem d_law_667 : decode code 667 = .ok (.iaload, 1) := by decide +kernel
theorem d_law_668 : decode code 668 = .ok (.invokevirtual 96, 3) := by decide +kernel
theorem d_law_671 : decode code 671 = .ok (.if_icmp .eq 41, 3) := by decide +kernel
theorem d_law_674 : decode code 674 = .ok (.iconst 0, 1) := by decide +kernel
theorem d_law_675 : decode code 675 = .ok (.ireturn, 1) := by decide +kernel
theorem d_law_676 : decode code 676 = .ok (.aload_n 1, 1) := by decide +kernel
theorem d_law_677 : decode code 677 = .ok (.aload_n 0, 1) := by decide +kernel
theorem d_law_678 : decode code 678 = .ok (.iload_n 3, 1) := by decide +kernel
theorem d_law_679 : decode code 679 = .ok (.iconst 1, 1) := by decide +kernel
theorem d_law_680 : decode code 680 = .ok (.iadd, 1) := by decide +kernel
theorem d_law_681 : decode code 681 = .ok (.iaload, 1) := by decide +kernel
theorem d_law_682 : decode code 682 = .ok (.invokevirtual 97, 3) := by decide +kernel
theorem d_law_685 : decode code 685 = .ok (.aload_n 2, 1) := by decide +kernel
theorem d_law_686 : decode code 686 = .ok (.aload_n 0, 1) := by decide +kernel
theorem d_law_687 : decode code 687 = .ok (.iload_n 3, 1) := by decide +kernel
theorem d_law_688 : decode code 688 = .ok (.iconst 1, 1) := by decide +kernel
theorem d_law_689 : decode code 689 = .ok (.iadd, 1) := by decide +kernel
theorem d_law_690 : decode code 690 = .ok (.iaload, 1) := by decide +kernel
theorem d_law_691 : decode code 691 = .ok (.invokevirtual 100, 3) := by decide +kernel
theorem d_law_694 : decode code 694 = .ok (.if_icmp .eq 18, 3) := by decide +kernel
theorem d_law_697 : decode code 697 = .ok (.iconst 0, 1) := by decide +kernel
theorem d_law_698 : decode code 698 = .ok (.ireturn, 1) := by decide +kernel
theorem d_law_699 : decode code 699 = .ok (.aload_n 1, 1) := by decide +kernel
theorem d_law_700 : decode code 700 = .ok (.invokevirtual 101, 3) := by decide +kernel
theorem d_law_703 : decode code 703 = .ok (.aload_n 2, 1) := by decide +kernel
theorem d_law_704 : decode code 704 = .ok (.invokevirtual 104, 3) := by decide +kernel
theorem d_law_707 : decode code 707 = .ok (.if_icmp .eq 5, 3) := by decide +kernel
theorem d_law_710 : decode code 710 = .ok (.iconst 0, 1) := by decide +kernel
theorem d_law_711 : decode code 711 = .ok (.ireturn, 1) := by decide +kernel
theorem d_law_712 : decode code 712 = .ok (.iinc 3 4, 3) := by decide +kernel
theorem d_law_715 : decode code 715 = .ok (.goto (-697), 3) := by decide +kernel
theorem d_law_718 : decode code 718 = .ok (.iconst 1, 1) := by decide +kernel
theorem d_law_719 : decode code 719 = .ok (.ireturn, 1) := by decide +kernel
