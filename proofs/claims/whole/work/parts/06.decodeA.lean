theorem d_WC_init_0 : decode prog_1_method_1_code 0 = .ok (.aload_n 0, 1) := by decide +kernel
theorem d_WC_init_1 : decode prog_1_method_1_code 1 = .ok (.invokespecial 1, 3) := by decide +kernel
theorem d_WC_init_4 : decode prog_1_method_1_code 4 = .ok (.aload_n 0, 1) := by decide +kernel
theorem d_WC_init_5 : decode prog_1_method_1_code 5 = .ok (.new 7, 3) := by decide +kernel
theorem d_WC_init_8 : decode prog_1_method_1_code 8 = .ok (.dup, 1) := by decide +kernel
theorem d_WC_init_9 : decode prog_1_method_1_code 9 = .ok (.invokespecial 9, 3) := by decide +kernel
theorem d_WC_init_12 : decode prog_1_method_1_code 12 = .ok (.putfield 10, 3) := by decide +kernel
theorem d_WC_init_15 : decode prog_1_method_1_code 15 = .ok (.aload_n 0, 1) := by decide +kernel
theorem d_WC_init_16 : decode prog_1_method_1_code 16 = .ok (.new 7, 3) := by decide +kernel
theorem d_WC_init_19 : decode prog_1_method_1_code 19 = .ok (.dup, 1) := by decide +kernel
theorem d_WC_init_20 : decode prog_1_method_1_code 20 = .ok (.invokespecial 9, 3) := by decide +kernel
theorem d_WC_init_23 : decode prog_1_method_1_code 23 = .ok (.putfield 16, 3) := by decide +kernel
theorem d_WC_init_26 : decode prog_1_method_1_code 26 = .ok (.aload_n 0, 1) := by decide +kernel
theorem d_WC_init_27 : decode prog_1_method_1_code 27 = .ok (.iconst 0, 1) := by decide +kernel
theorem d_WC_init_28 : decode prog_1_method_1_code 28 = .ok (.putfield 19, 3) := by decide +kernel
theorem d_WC_init_31 : decode prog_1_method_1_code 31 = .ok (.aload_n 0, 1) := by decide +kernel
theorem d_WC_init_32 : decode prog_1_method_1_code 32 = .ok (.new 23, 3) := by decide +kernel
theorem d_WC_init_35 : decode prog_1_method_1_code 35 = .ok (.dup, 1) := by decide +kernel
theorem d_WC_init_36 : decode prog_1_method_1_code 36 = .ok (.invokespecial 25, 3) := by decide +kernel
theorem d_WC_init_39 : decode prog_1_method_1_code 39 = .ok (.putfield 26, 3) := by decide +kernel
theorem d_WC_init_42 : decode prog_1_method_1_code 42 = .ok (.aload_n 0, 1) := by decide +kernel
theorem d_WC_init_43 : decode prog_1_method_1_code 43 = .ok (.new 30, 3) := by decide +kernel
theorem d_WC_init_46 : decode prog_1_method_1_code 46 = .ok (.dup, 1) := by decide +kernel
theorem d_WC_init_47 : decode prog_1_method_1_code 47 = .ok (.aload_n 0, 1) := by decide +kernel
theorem d_WC_init_48 : decode prog_1_method_1_code 48 = .ok (.getfield 10, 3) := by decide +kernel
theorem d_WC_init_51 : decode prog_1_method_1_code 51 = .ok (.invokespecial 32, 3) := by decide +kernel
theorem d_WC_init_54 : decode prog_1_method_1_code 54 = .ok (.putfield 35, 3) := by decide +kernel
theorem d_WC_init_57 : decode prog_1_method_1_code 57 = .ok (.aload_n 0, 1) := by decide +kernel
theorem d_WC_init_58 : decode prog_1_method_1_code 58 = .ok (.new 39, 3) := by decide +kernel
theorem d_WC_init_61 : decode prog_1_method_1_code 61 = .ok (.dup, 1) := by decide +kernel
theorem d_WC_init_62 : decode prog_1_method_1_code 62 = .ok (.aload_n 0, 1) := by decide +kernel
theorem d_WC_init_63 : decode prog_1_method_1_code 63 = .ok (.getfield 10, 3) := by decide +kernel
theorem d_WC_init_66 : decode prog_1_method_1_code 66 = .ok (.aload_n 0, 1) := by decide +kernel
theorem d_WC_init_67 : decode prog_1_method_1_code 67 = .ok (.getfield 35, 3) := by decide +kernel
theorem d_WC_init_70 : decode prog_1_method_1_code 70 = .ok (.invokespecial 41, 3) := by decide +kernel
theorem d_WC_init_73 : decode prog_1_method_1_code 73 = .ok (.putfield 44, 3) := by decide +kernel
theorem d_WC_init_76 : decode prog_1_method_1_code 76 = .ok (.aload_n 0, 1) := by decide +kernel
theorem d_WC_init_77 : decode prog_1_method_1_code 77 = .ok (.new 48, 3) := by decide +kernel
theorem d_WC_init_80 : decode prog_1_method_1_code 80 = .ok (.dup, 1) := by decide +kernel
theorem d_WC_init_81 : decode prog_1_method_1_code 81 = .ok (.invokespecial 50, 3) := by decide +kernel
theorem d_WC_init_84 : decode prog_1_method_1_code 84 = .ok (.putfield 51, 3) := by decide +kernel
theorem d_WC_init_87 : decode prog_1_method_1_code 87 = .ok (.aload_n 0, 1) := by decide +kernel
theorem d_WC_init_88 : decode prog_1_method_1_code 88 = .ok (.new 55, 3) := by decide +kernel
theorem d_WC_init_91 : decode prog_1_method_1_code 91 = .ok (.dup, 1) := by decide +kernel
theorem d_WC_init_92 : decode prog_1_method_1_code 92 = .ok (.invokespecial 57, 3) := by decide +kernel
theorem d_WC_init_95 : decode prog_1_method_1_code 95 = .ok (.putfield 58, 3) := by decide +kernel
theorem d_WC_init_98 : decode prog_1_method_1_code 98 = .ok (.aload_n 0, 1) := by decide +kernel
theorem d_WC_init_99 : decode prog_1_method_1_code 99 = .ok (.new 62, 3) := by decide +kernel
theorem d_WC_init_102 : decode prog_1_method_1_code 102 = .ok (.dup, 1) := by decide +kernel
theorem d_WC_init_103 : decode prog_1_method_1_code 103 = .ok (.aload_n 0, 1) := by decide +kernel
theorem d_WC_init_104 : decode prog_1_method_1_code 104 = .ok (.getfield 58, 3) := by decide +kernel
theorem d_WC_init_107 : decode prog_1_method_1_code 107 = .ok (.aload_n 0, 1) := by decide +kernel
theorem d_WC_init_108 : decode prog_1_method_1_code 108 = .ok (.getfield 10, 3) := by decide +kernel
theorem d_WC_init_111 : decode prog_1_method_1_code 111 = .ok (.invokespecial 64, 3) := by decide +kernel
theorem d_WC_init_114 : decode prog_1_method_1_code 114 = .ok (.putfield 67, 3) := by decide +kernel
theorem d_WC_init_117 : decode prog_1_method_1_code 117 = .ok (.return_, 1) := by decide +kernel
theorem d_WC_put_0 : decode prog_1_method_2_code 0 = .ok (.iload_n 1, 1) := by decide +kernel
theorem d_WC_put_1 : decode prog_1_method_2_code 1 = .ok (.invokestatic 71, 3) := by decide +kernel
theorem d_WC_put_4 : decode prog_1_method_2_code 4 = .ok (.ifCond .ne 7, 3) := by decide +kernel
theorem d_WC_put_7 : decode prog_1_method_2_code 7 = .ok (.sipush (-10001), 3) := by decide +kernel
theorem d_WC_put_10 : decode prog_1_method_2_code 10 = .ok (.ireturn, 1) := by decide +kernel
theorem d_WC_put_11 : decode prog_1_method_2_code 11 = .ok (.aload_n 0, 1) := by decide +kernel
theorem d_WC_put_12 : decode prog_1_method_2_code 12 = .ok (.getfield 10, 3) := by decide +kernel
theorem d_WC_put_15 : decode prog_1_method_2_code 15 = .ok (.invokevirtual 75, 3) := by decide +kernel
theorem d_WC_put_18 : decode prog_1_method_2_code 18 = .ok (.bipush 60, 2) := by decide +kernel
theorem d_WC_put_20 : decode prog_1_method_2_code 20 = .ok (.if_icmp .lt 7, 3) := by decide +kernel
theorem d_WC_put_23 : decode prog_1_method_2_code 23 = .ok (.sipush (-10003), 3) := by decide +kernel
theorem d_WC_put_26 : decode prog_1_method_2_code 26 = .ok (.ireturn, 1) := by decide +kernel
theorem d_WC_put_27 : decode prog_1_method_2_code 27 = .ok (.aload_n 0, 1) := by decide +kernel
theorem d_WC_put_28 : decode prog_1_method_2_code 28 = .ok (.getfield 26, 3) := by decide +kernel
theorem d_WC_put_31 : decode prog_1_method_2_code 31 = .ok (.aload_n 0, 1) := by decide +kernel
theorem d_WC_put_32 : decode prog_1_method_2_code 32 = .ok (.getfield 10, 3) := by decide +kernel
theorem d_WC_put_35 : decode prog_1_method_2_code 35 = .ok (.invokevirtual 79, 3) := by decide +kernel
theorem d_WC_put_38 : decode prog_1_method_2_code 38 = .ok (.aload_n 0, 1) := by decide +kernel
theorem d_WC_put_39 : decode prog_1_method_2_code 39 = .ok (.getfield 10, 3) := by decide +kernel
theorem d_WC_put_42 : decode prog_1_method_2_code 42 = .ok (.iload_n 1, 1) := by decide +kernel
theorem d_WC_put_43 : decode prog_1_method_2_code 43 = .ok (.invokevirtual 82, 3) := by decide +kernel
theorem d_WC_put_46 : decode prog_1_method_2_code 46 = .ok (.aload_n 0, 1) := by decide +kernel
theorem d_WC_put_47 : decode prog_1_method_2_code 47 = .ok (.getfield 10, 3) := by decide +kernel
theorem d_WC_put_50 : decode prog_1_method_2_code 50 = .ok (.invokevirtual 75, 3) := by decide +kernel
theorem d_WC_put_53 : decode prog_1_method_2_code 53 = .ok (.ireturn, 1) := by decide +kernel
theorem d_WC_drop_0 : decode prog_1_method_3_code 0 = .ok (.iload_n 1, 1) := by decide +kernel
theorem d_WC_drop_1 : decode prog_1_method_3_code 1 = .ok (.iconst 1, 1) := by decide +kernel
theorem d_WC_drop_2 : decode prog_1_method_3_code 2 = .ok (.bipush 60, 2) := by decide +kernel
theorem d_WC_drop_4 : decode prog_1_method_3_code 4 = .ok (.invokestatic 86, 3) := by decide +kernel
theorem d_WC_drop_7 : decode prog_1_method_3_code 7 = .ok (.ifCond .ne 7, 3) := by decide +kernel
theorem d_WC_drop_10 : decode prog_1_method_3_code 10 = .ok (.sipush (-10001), 3) := by decide +kernel
theorem d_WC_drop_13 : decode prog_1_method_3_code 13 = .ok (.ireturn, 1) := by decide +kernel
theorem d_WC_drop_14 : decode prog_1_method_3_code 14 = .ok (.iload_n 1, 1) := by decide +kernel
theorem d_WC_drop_15 : decode prog_1_method_3_code 15 = .ok (.aload_n 0, 1) := by decide +kernel
theorem d_WC_drop_16 : decode prog_1_method_3_code 16 = .ok (.getfield 10, 3) := by decide +kernel
theorem d_WC_drop_19 : decode prog_1_method_3_code 19 = .ok (.invokevirtual 75, 3) := by decide +kernel
theorem d_WC_drop_22 : decode prog_1_method_3_code 22 = .ok (.if_icmp .le 7, 3) := by decide +kernel
theorem d_WC_drop_25 : decode prog_1_method_3_code 25 = .ok (.sipush (-10002), 3) := by decide +kernel
theorem d_WC_drop_28 : decode prog_1_method_3_code 28 = .ok (.ireturn, 1) := by decide +kernel
theorem d_WC_drop_29 : decode prog_1_method_3_code 29 = .ok (.aload_n 0, 1) := by decide +kernel
theorem d_WC_drop_30 : decode prog_1_method_3_code 30 = .ok (.getfield 26, 3) := by decide +kernel
theorem d_WC_drop_33 : decode prog_1_method_3_code 33 = .ok (.aload_n 0, 1) := by decide +kernel
theorem d_WC_drop_34 : decode prog_1_method_3_code 34 = .ok (.getfield 10, 3) := by decide +kernel
theorem d_WC_drop_37 : decode prog_1_method_3_code 37 = .ok (.invokevirtual 79, 3) := by decide +kernel
theorem d_WC_drop_40 : decode prog_1_method_3_code 40 = .ok (.aload_n 0, 1) := by decide +kernel
theorem d_WC_drop_41 : decode prog_1_method_3_code 41 = .ok (.getfield 10, 3) := by decide +kernel
theorem d_WC_drop_44 : decode prog_1_method_3_code 44 = .ok (.iload_n 1, 1) := by decide +kernel
theorem d_WC_drop_45 : decode prog_1_method_3_code 45 = .ok (.invokevirtual 90, 3) := by decide +kernel
theorem d_WC_drop_48 : decode prog_1_method_3_code 48 = .ok (.aload_n 0, 1) := by decide +kernel
theorem d_WC_drop_49 : decode prog_1_method_3_code 49 = .ok (.getfield 10, 3) := by decide +kernel
theorem d_WC_drop_52 : decode prog_1_method_3_code 52 = .ok (.invokevirtual 75, 3) := by decide +kernel
theorem d_WC_drop_55 : decode prog_1_method_3_code 55 = .ok (.ireturn, 1) := by decide +kernel
theorem d_WC_mend_0 : decode prog_1_method_4_code 0 = .ok (.aload_n 0, 1) := by decide +kernel
theorem d_WC_mend_1 : decode prog_1_method_4_code 1 = .ok (.getfield 10, 3) := by decide +kernel
theorem d_WC_mend_4 : decode prog_1_method_4_code 4 = .ok (.iload_n 1, 1) := by decide +kernel
theorem d_WC_mend_5 : decode prog_1_method_4_code 5 = .ok (.invokevirtual 93, 3) := by decide +kernel
theorem d_WC_mend_8 : decode prog_1_method_4_code 8 = .ok (.ifCond .eq 10, 3) := by decide +kernel
theorem d_WC_mend_11 : decode prog_1_method_4_code 11 = .ok (.iload_n 2, 1) := by decide +kernel
theorem d_WC_mend_12 : decode prog_1_method_4_code 12 = .ok (.invokestatic 71, 3) := by decide +kernel
theorem d_WC_mend_15 : decode prog_1_method_4_code 15 = .ok (.ifCond .ne 7, 3) := by decide +kernel
theorem d_WC_mend_18 : decode prog_1_method_4_code 18 = .ok (.sipush (-10001), 3) := by decide +kernel
theorem d_WC_mend_21 : decode prog_1_method_4_code 21 = .ok (.ireturn, 1) := by decide +kernel
theorem d_WC_mend_22 : decode prog_1_method_4_code 22 = .ok (.aload_n 0, 1) := by decide +kernel
theorem d_WC_mend_23 : decode prog_1_method_4_code 23 = .ok (.getfield 26, 3) := by decide +kernel
theorem d_WC_mend_26 : decode prog_1_method_4_code 26 = .ok (.aload_n 0, 1) := by decide +kernel
theorem d_WC_mend_27 : decode prog_1_method_4_code 27 = .ok (.getfield 10, 3) := by decide +kernel
theorem d_WC_mend_30 : decode prog_1_method_4_code 30 = .ok (.invokevirtual 79, 3) := by decide +kernel
theorem d_WC_mend_33 : decode prog_1_method_4_code 33 = .ok (.aload_n 0, 1) := by decide +kernel
theorem d_WC_mend_34 : decode prog_1_method_4_code 34 = .ok (.getfield 10, 3) := by decide +kernel
theorem d_WC_mend_37 : decode prog_1_method_4_code 37 = .ok (.iload_n 1, 1) := by decide +kernel
theorem d_WC_mend_38 : decode prog_1_method_4_code 38 = .ok (.invokevirtual 96, 3) := by decide +kernel
theorem d_WC_mend_41 : decode prog_1_method_4_code 41 = .ok (.istore_n 3, 1) := by decide +kernel
theorem d_WC_mend_42 : decode prog_1_method_4_code 42 = .ok (.aload_n 0, 1) := by decide +kernel
theorem d_WC_mend_43 : decode prog_1_method_4_code 43 = .ok (.getfield 10, 3) := by decide +kernel
theorem d_WC_mend_46 : decode prog_1_method_4_code 46 = .ok (.iload_n 1, 1) := by decide +kernel
theorem d_WC_mend_47 : decode prog_1_method_4_code 47 = .ok (.iload_n 2, 1) := by decide +kernel
theorem d_WC_mend_48 : decode prog_1_method_4_code 48 = .ok (.invokevirtual 100, 3) := by decide +kernel
theorem d_WC_mend_51 : decode prog_1_method_4_code 51 = .ok (.iload_n 3, 1) := by decide +kernel
theorem d_WC_mend_52 : decode prog_1_method_4_code 52 = .ok (.ireturn, 1) := by decide +kernel
theorem d_WC_set_0 : decode prog_1_method_5_code 0 = .ok (.iload_n 1, 1) := by decide +kernel
theorem d_WC_set_1 : decode prog_1_method_5_code 1 = .ok (.iconst 0, 1) := by decide +kernel
theorem d_WC_set_2 : decode prog_1_method_5_code 2 = .ok (.iconst 4, 1) := by decide +kernel
theorem d_WC_set_3 : decode prog_1_method_5_code 3 = .ok (.invokestatic 86, 3) := by decide +kernel
theorem d_WC_set_6 : decode prog_1_method_5_code 6 = .ok (.ifCond .eq 24, 3) := by decide +kernel
theorem d_WC_set_9 : decode prog_1_method_5_code 9 = .ok (.iload_n 2, 1) := by decide +kernel
theorem d_WC_set_10 : decode prog_1_method_5_code 10 = .ok (.getstatic 104, 3) := by decide +kernel
theorem d_WC_set_13 : decode prog_1_method_5_code 13 = .ok (.iload_n 1, 1) := by decide +kernel
theorem d_WC_set_14 : decode prog_1_method_5_code 14 = .ok (.invokestatic 108, 3) := by decide +kernel
theorem d_WC_set_17 : decode prog_1_method_5_code 17 = .ok (.getstatic 112, 3) := by decide +kernel
theorem d_WC_set_20 : decode prog_1_method_5_code 20 = .ok (.iload_n 1, 1) := by decide +kernel
theorem d_WC_set_21 : decode prog_1_method_5_code 21 = .ok (.invokestatic 108, 3) := by decide +kernel
theorem d_WC_set_24 : decode prog_1_method_5_code 24 = .ok (.invokestatic 86, 3) := by decide +kernel
theorem d_WC_set_27 : decode prog_1_method_5_code 27 = .ok (.ifCond .ne 7, 3) := by decide +kernel
theorem d_WC_set_30 : decode prog_1_method_5_code 30 = .ok (.sipush (-10001), 3) := by decide +kernel
theorem d_WC_set_33 : decode prog_1_method_5_code 33 = .ok (.ireturn, 1) := by decide +kernel
theorem d_WC_set_34 : decode prog_1_method_5_code 34 = .ok (.aload_n 0, 1) := by decide +kernel
theorem d_WC_set_35 : decode prog_1_method_5_code 35 = .ok (.getfield 26, 3) := by decide +kernel
theorem d_WC_set_38 : decode prog_1_method_5_code 38 = .ok (.aload_n 0, 1) := by decide +kernel
theorem d_WC_set_39 : decode prog_1_method_5_code 39 = .ok (.getfield 10, 3) := by decide +kernel
theorem d_WC_set_42 : decode prog_1_method_5_code 42 = .ok (.invokevirtual 79, 3) := by decide +kernel
theorem d_WC_set_45 : decode prog_1_method_5_code 45 = .ok (.aload_n 0, 1) := by decide +kernel
theorem d_WC_set_46 : decode prog_1_method_5_code 46 = .ok (.getfield 10, 3) := by decide +kernel
theorem d_WC_set_49 : decode prog_1_method_5_code 49 = .ok (.iload_n 1, 1) := by decide +kernel
theorem d_WC_set_50 : decode prog_1_method_5_code 50 = .ok (.invokevirtual 115, 3) := by decide +kernel
theorem d_WC_set_53 : decode prog_1_method_5_code 53 = .ok (.istore_n 3, 1) := by decide +kernel
theorem d_WC_set_54 : decode prog_1_method_5_code 54 = .ok (.aload_n 0, 1) := by decide +kernel
theorem d_WC_set_55 : decode prog_1_method_5_code 55 = .ok (.getfield 10, 3) := by decide +kernel
theorem d_WC_set_58 : decode prog_1_method_5_code 58 = .ok (.iload_n 1, 1) := by decide +kernel
theorem d_WC_set_59 : decode prog_1_method_5_code 59 = .ok (.iload_n 2, 1) := by decide +kernel
theorem d_WC_set_60 : decode prog_1_method_5_code 60 = .ok (.invokevirtual 118, 3) := by decide +kernel
theorem d_WC_set_63 : decode prog_1_method_5_code 63 = .ok (.iload_n 3, 1) := by decide +kernel
theorem d_WC_set_64 : decode prog_1_method_5_code 64 = .ok (.ireturn, 1) := by decide +kernel
theorem d_WC_letter_0 : decode prog_1_method_6_code 0 = .ok (.aload_n 0, 1) := by decide +kernel
theorem d_WC_letter_1 : decode prog_1_method_6_code 1 = .ok (.getfield 10, 3) := by decide +kernel
theorem d_WC_letter_4 : decode prog_1_method_6_code 4 = .ok (.iload_n 1, 1) := by decide +kernel
theorem d_WC_letter_5 : decode prog_1_method_6_code 5 = .ok (.invokevirtual 93, 3) := by decide +kernel
theorem d_WC_letter_8 : decode prog_1_method_6_code 8 = .ok (.ifCond .eq 14, 3) := by decide +kernel
theorem d_WC_letter_11 : decode prog_1_method_6_code 11 = .ok (.aload_n 0, 1) := by decide +kernel
theorem d_WC_letter_12 : decode prog_1_method_6_code 12 = .ok (.getfield 10, 3) := by decide +kernel
theorem d_WC_letter_15 : decode prog_1_method_6_code 15 = .ok (.iload_n 1, 1) := by decide +kernel
theorem d_WC_letter_16 : decode prog_1_method_6_code 16 = .ok (.invokevirtual 96, 3) := by decide +kernel
theorem d_WC_letter_19 : decode prog_1_method_6_code 19 = .ok (.goto 6, 3) := by decide +kernel
theorem d_WC_letter_22 : decode prog_1_method_6_code 22 = .ok (.sipush (-10001), 3) := by decide +kernel
theorem d_WC_letter_25 : decode prog_1_method_6_code 25 = .ok (.ireturn, 1) := by decide +kernel
theorem d_WC_candidate_0 : decode prog_1_method_7_code 0 = .ok (.aload_n 0, 1) := by decide +kernel
theorem d_WC_candidate_1 : decode prog_1_method_7_code 1 = .ok (.getfield 10, 3) := by decide +kernel
theorem d_WC_candidate_4 : decode prog_1_method_7_code 4 = .ok (.iload_n 1, 1) := by decide +kernel
theorem d_WC_candidate_5 : decode prog_1_method_7_code 5 = .ok (.invokevirtual 93, 3) := by decide +kernel
theorem d_WC_candidate_8 : decode prog_1_method_7_code 8 = .ok (.ifCond .eq 16, 3) := by decide +kernel
theorem d_WC_candidate_11 : decode prog_1_method_7_code 11 = .ok (.iload_n 2, 1) := by decide +kernel
theorem d_WC_candidate_12 : decode prog_1_method_7_code 12 = .ok (.ifCond .lt 12, 3) := by decide +kernel
theorem d_WC_candidate_15 : decode prog_1_method_7_code 15 = .ok (.iload_n 3, 1) := by decide +kernel
theorem d_WC_candidate_16 : decode prog_1_method_7_code 16 = .ok (.iconst 0, 1) := by decide +kernel
theorem d_WC_candidate_17 : decode prog_1_method_7_code 17 = .ok (.iconst 1, 1) := by decide +kernel
theorem d_WC_candidate_18 : decode prog_1_method_7_code 18 = .ok (.invokestatic 86, 3) := by decide +kernel
theorem d_WC_candidate_21 : decode prog_1_method_7_code 21 = .ok (.ifCond .ne 7, 3) := by decide +kernel
theorem d_WC_candidate_24 : decode prog_1_method_7_code 24 = .ok (.sipush (-10001), 3) := by decide +kernel
theorem d_WC_candidate_27 : decode prog_1_method_7_code 27 = .ok (.ireturn, 1) := by decide +kernel
theorem d_WC_candidate_28 : decode prog_1_method_7_code 28 = .ok (.aload_n 0, 1) := by decide +kernel
theorem d_WC_candidate_29 : decode prog_1_method_7_code 29 = .ok (.getfield 35, 3) := by decide +kernel
theorem d_WC_candidate_32 : decode prog_1_method_7_code 32 = .ok (.iload_n 1, 1) := by decide +kernel
theorem d_WC_candidate_33 : decode prog_1_method_7_code 33 = .ok (.invokevirtual 121, 3) := by decide +kernel
theorem d_WC_candidate_36 : decode prog_1_method_7_code 36 = .ok (.iload_n 2, 1) := by decide +kernel
theorem d_WC_candidate_37 : decode prog_1_method_7_code 37 = .ok (.aload_n 0, 1) := by decide +kernel
theorem d_WC_candidate_38 : decode prog_1_method_7_code 38 = .ok (.getfield 35, 3) := by decide +kernel
theorem d_WC_candidate_41 : decode prog_1_method_7_code 41 = .ok (.invokevirtual 124, 3) := by decide +kernel
theorem d_WC_candidate_44 : decode prog_1_method_7_code 44 = .ok (.if_icmp .lt 7, 3) := by decide +kernel
theorem d_WC_candidate_47 : decode prog_1_method_7_code 47 = .ok (.sipush (-10004), 3) := by decide +kernel
theorem d_WC_candidate_50 : decode prog_1_method_7_code 50 = .ok (.ireturn, 1) := by decide +kernel
theorem d_WC_candidate_51 : decode prog_1_method_7_code 51 = .ok (.iload_n 3, 1) := by decide +kernel
theorem d_WC_candidate_52 : decode prog_1_method_7_code 52 = .ok (.ifCond .ne 14, 3) := by decide +kernel
theorem d_WC_candidate_55 : decode prog_1_method_7_code 55 = .ok (.aload_n 0, 1) := by decide +kernel
theorem d_WC_candidate_56 : decode prog_1_method_7_code 56 = .ok (.getfield 35, 3) := by decide +kernel
theorem d_WC_candidate_59 : decode prog_1_method_7_code 59 = .ok (.iload_n 2, 1) := by decide +kernel
theorem d_WC_candidate_60 : decode prog_1_method_7_code 60 = .ok (.invokevirtual 127, 3) := by decide +kernel
theorem d_WC_candidate_63 : decode prog_1_method_7_code 63 = .ok (.goto 11, 3) := by decide +kernel
theorem d_WC_candidate_66 : decode prog_1_method_7_code 66 = .ok (.aload_n 0, 1) := by decide +kernel
theorem d_WC_candidate_67 : decode prog_1_method_7_code 67 = .ok (.getfield 35, 3) := by decide +kernel
theorem d_WC_candidate_70 : decode prog_1_method_7_code 70 = .ok (.iload_n 2, 1) := by decide +kernel
theorem d_WC_candidate_71 : decode prog_1_method_7_code 71 = .ok (.invokevirtual 130, 3) := by decide +kernel
theorem d_WC_candidate_74 : decode prog_1_method_7_code 74 = .ok (.ireturn, 1) := by decide +kernel
theorem d_WC_found_0 : decode prog_1_method_8_code 0 = .ok (.aload_n 0, 1) := by decide +kernel
theorem d_WC_found_1 : decode prog_1_method_8_code 1 = .ok (.getfield 10, 3) := by decide +kernel
theorem d_WC_found_4 : decode prog_1_method_8_code 4 = .ok (.iload_n 1, 1) := by decide +kernel
theorem d_WC_found_5 : decode prog_1_method_8_code 5 = .ok (.invokevirtual 93, 3) := by decide +kernel
theorem d_WC_found_8 : decode prog_1_method_8_code 8 = .ok (.ifCond .eq 12, 3) := by decide +kernel
theorem d_WC_found_11 : decode prog_1_method_8_code 11 = .ok (.iload_n 2, 1) := by decide +kernel
theorem d_WC_found_12 : decode prog_1_method_8_code 12 = .ok (.iconst 0, 1) := by decide +kernel
theorem d_WC_found_13 : decode prog_1_method_8_code 13 = .ok (.iconst 3, 1) := by decide +kernel
theorem d_WC_found_14 : decode prog_1_method_8_code 14 = .ok (.invokestatic 86, 3) := by decide +kernel
theorem d_WC_found_17 : decode prog_1_method_8_code 17 = .ok (.ifCond .ne 7, 3) := by decide +kernel
theorem d_WC_found_20 : decode prog_1_method_8_code 20 = .ok (.sipush (-10001), 3) := by decide +kernel
theorem d_WC_found_23 : decode prog_1_method_8_code 23 = .ok (.ireturn, 1) := by decide +kernel
theorem d_WC_found_24 : decode prog_1_method_8_code 24 = .ok (.aload_n 0, 1) := by decide +kernel
theorem d_WC_found_25 : decode prog_1_method_8_code 25 = .ok (.getfield 35, 3) := by decide +kernel
theorem d_WC_found_28 : decode prog_1_method_8_code 28 = .ok (.iload_n 1, 1) := by decide +kernel
theorem d_WC_found_29 : decode prog_1_method_8_code 29 = .ok (.invokevirtual 121, 3) := by decide +kernel
theorem d_WC_found_32 : decode prog_1_method_8_code 32 = .ok (.iload_n 2, 1) := by decide +kernel
theorem d_WC_found_33 : decode prog_1_method_8_code 33 = .ok (.iconst 3, 1) := by decide +kernel
theorem d_WC_found_34 : decode prog_1_method_8_code 34 = .ok (.if_icmp .ne 11, 3) := by decide +kernel
theorem d_WC_found_37 : decode prog_1_method_8_code 37 = .ok (.aload_n 0, 1) := by decide +kernel
theorem d_WC_found_38 : decode prog_1_method_8_code 38 = .ok (.getfield 35, 3) := by decide +kernel
theorem d_WC_found_41 : decode prog_1_method_8_code 41 = .ok (.invokevirtual 133, 3) := by decide +kernel
theorem d_WC_found_44 : decode prog_1_method_8_code 44 = .ok (.ireturn, 1) := by decide +kernel
theorem d_WC_found_45 : decode prog_1_method_8_code 45 = .ok (.aload_n 0, 1) := by decide +kernel
theorem d_WC_found_46 : decode prog_1_method_8_code 46 = .ok (.getfield 35, 3) := by decide +kernel
theorem d_WC_found_49 : decode prog_1_method_8_code 49 = .ok (.invokevirtual 136, 3) := by decide +kernel
theorem d_WC_found_52 : decode prog_1_method_8_code 52 = .ok (.istore_n 3, 1) := by decide +kernel
theorem d_WC_found_53 : decode prog_1_method_8_code 53 = .ok (.iload_n 3, 1) := by decide +kernel
theorem d_WC_found_54 : decode prog_1_method_8_code 54 = .ok (.iconst (-1), 1) := by decide +kernel
theorem d_WC_found_55 : decode prog_1_method_8_code 55 = .ok (.if_icmp .ne 7, 3) := by decide +kernel
theorem d_WC_found_58 : decode prog_1_method_8_code 58 = .ok (.sipush (-10004), 3) := by decide +kernel
theorem d_WC_found_61 : decode prog_1_method_8_code 61 = .ok (.ireturn, 1) := by decide +kernel
theorem d_WC_found_62 : decode prog_1_method_8_code 62 = .ok (.iload_n 2, 1) := by decide +kernel
theorem d_WC_found_63 : decode prog_1_method_8_code 63 = .ok (.lookupswitch 43 #[(0, 25), (1, 34)], 25) := by decide +kernel
theorem d_WC_found_88 : decode prog_1_method_8_code 88 = .ok (.aload_n 0, 1) := by decide +kernel
theorem d_WC_found_89 : decode prog_1_method_8_code 89 = .ok (.getfield 35, 3) := by decide +kernel
theorem d_WC_found_92 : decode prog_1_method_8_code 92 = .ok (.iload_n 3, 1) := by decide +kernel
theorem d_WC_found_93 : decode prog_1_method_8_code 93 = .ok (.invokevirtual 127, 3) := by decide +kernel
theorem d_WC_found_96 : decode prog_1_method_8_code 96 = .ok (.ireturn, 1) := by decide +kernel
theorem d_WC_found_97 : decode prog_1_method_8_code 97 = .ok (.aload_n 0, 1) := by decide +kernel
theorem d_WC_found_98 : decode prog_1_method_8_code 98 = .ok (.getfield 35, 3) := by decide +kernel
theorem d_WC_found_101 : decode prog_1_method_8_code 101 = .ok (.iload_n 3, 1) := by decide +kernel
theorem d_WC_found_102 : decode prog_1_method_8_code 102 = .ok (.invokevirtual 130, 3) := by decide +kernel
theorem d_WC_found_105 : decode prog_1_method_8_code 105 = .ok (.ireturn, 1) := by decide +kernel
theorem d_WC_found_106 : decode prog_1_method_8_code 106 = .ok (.aload_n 0, 1) := by decide +kernel
theorem d_WC_found_107 : decode prog_1_method_8_code 107 = .ok (.getfield 10, 3) := by decide +kernel
theorem d_WC_found_110 : decode prog_1_method_8_code 110 = .ok (.aload_n 0, 1) := by decide +kernel
theorem d_WC_found_111 : decode prog_1_method_8_code 111 = .ok (.getfield 35, 3) := by decide +kernel
theorem d_WC_found_114 : decode prog_1_method_8_code 114 = .ok (.iload_n 3, 1) := by decide +kernel
theorem d_WC_found_115 : decode prog_1_method_8_code 115 = .ok (.invokevirtual 130, 3) := by decide +kernel
theorem d_WC_found_118 : decode prog_1_method_8_code 118 = .ok (.invokevirtual 139, 3) := by decide +kernel
theorem d_WC_found_121 : decode prog_1_method_8_code 121 = .ok (.ireturn, 1) := by decide +kernel
theorem d_WC_isCopy_0 : decode prog_1_method_9_code 0 = .ok (.aload_n 0, 1) := by decide +kernel
theorem d_WC_isCopy_1 : decode prog_1_method_9_code 1 = .ok (.getfield 10, 3) := by decide +kernel
theorem d_WC_isCopy_4 : decode prog_1_method_9_code 4 = .ok (.iload_n 1, 1) := by decide +kernel
theorem d_WC_isCopy_5 : decode prog_1_method_9_code 5 = .ok (.invokevirtual 93, 3) := by decide +kernel
theorem d_WC_isCopy_8 : decode prog_1_method_9_code 8 = .ok (.ifCond .ne 7, 3) := by decide +kernel
theorem d_WC_isCopy_11 : decode prog_1_method_9_code 11 = .ok (.sipush (-10001), 3) := by decide +kernel
theorem d_WC_isCopy_14 : decode prog_1_method_9_code 14 = .ok (.ireturn, 1) := by decide +kernel
theorem d_WC_isCopy_15 : decode prog_1_method_9_code 15 = .ok (.iload_n 2, 1) := by decide +kernel
theorem d_WC_isCopy_16 : decode prog_1_method_9_code 16 = .ok (.iconst 1, 1) := by decide +kernel
theorem d_WC_isCopy_17 : decode prog_1_method_9_code 17 = .ok (.aload_n 0, 1) := by decide +kernel
theorem d_WC_isCopy_18 : decode prog_1_method_9_code 18 = .ok (.getfield 10, 3) := by decide +kernel
theorem d_WC_isCopy_21 : decode prog_1_method_9_code 21 = .ok (.iconst 0, 1) := by decide +kernel
theorem d_WC_isCopy_22 : decode prog_1_method_9_code 22 = .ok (.invokevirtual 115, 3) := by decide +kernel
theorem d_WC_isCopy_25 : decode prog_1_method_9_code 25 = .ok (.iload_n 1, 1) := by decide +kernel
theorem d_WC_isCopy_26 : decode prog_1_method_9_code 26 = .ok (.invokestatic 142, 3) := by decide +kernel
theorem d_WC_isCopy_29 : decode prog_1_method_9_code 29 = .ok (.invokestatic 86, 3) := by decide +kernel
theorem d_WC_isCopy_32 : decode prog_1_method_9_code 32 = .ok (.istore 4, 2) := by decide +kernel
theorem d_WC_isCopy_34 : decode prog_1_method_9_code 34 = .ok (.iload_n 3, 1) := by decide +kernel
theorem d_WC_isCopy_35 : decode prog_1_method_9_code 35 = .ok (.aload_n 0, 1) := by decide +kernel
theorem d_WC_isCopy_36 : decode prog_1_method_9_code 36 = .ok (.getfield 10, 3) := by decide +kernel
theorem d_WC_isCopy_39 : decode prog_1_method_9_code 39 = .ok (.iconst 1, 1) := by decide +kernel
theorem d_WC_isCopy_40 : decode prog_1_method_9_code 40 = .ok (.invokevirtual 115, 3) := by decide +kernel
theorem d_WC_isCopy_43 : decode prog_1_method_9_code 43 = .ok (.bipush 20, 2) := by decide +kernel
theorem d_WC_isCopy_45 : decode prog_1_method_9_code 45 = .ok (.invokestatic 86, 3) := by decide +kernel
theorem d_WC_isCopy_48 : decode prog_1_method_9_code 48 = .ok (.istore 5, 2) := by decide +kernel
theorem d_WC_isCopy_50 : decode prog_1_method_9_code 50 = .ok (.iload 4, 2) := by decide +kernel
theorem d_WC_isCopy_52 : decode prog_1_method_9_code 52 = .ok (.ifCond .eq 27, 3) := by decide +kernel
theorem d_WC_isCopy_55 : decode prog_1_method_9_code 55 = .ok (.iload 5, 2) := by decide +kernel
theorem d_WC_isCopy_57 : decode prog_1_method_9_code 57 = .ok (.ifCond .eq 22, 3) := by decide +kernel
theorem d_WC_isCopy_60 : decode prog_1_method_9_code 60 = .ok (.aload_n 0, 1) := by decide +kernel
theorem d_WC_isCopy_61 : decode prog_1_method_9_code 61 = .ok (.getfield 10, 3) := by decide +kernel
theorem d_WC_isCopy_64 : decode prog_1_method_9_code 64 = .ok (.iload_n 1, 1) := by decide +kernel
theorem d_WC_isCopy_65 : decode prog_1_method_9_code 65 = .ok (.iload_n 2, 1) := by decide +kernel
theorem d_WC_isCopy_66 : decode prog_1_method_9_code 66 = .ok (.isub, 1) := by decide +kernel
theorem d_WC_isCopy_67 : decode prog_1_method_9_code 67 = .ok (.iload_n 1, 1) := by decide +kernel
theorem d_WC_isCopy_68 : decode prog_1_method_9_code 68 = .ok (.invokevirtual 148, 3) := by decide +kernel
theorem d_WC_isCopy_71 : decode prog_1_method_9_code 71 = .ok (.iload_n 3, 1) := by decide +kernel
theorem d_WC_isCopy_72 : decode prog_1_method_9_code 72 = .ok (.if_icmp .lt 7, 3) := by decide +kernel
theorem d_WC_isCopy_75 : decode prog_1_method_9_code 75 = .ok (.iconst 1, 1) := by decide +kernel
theorem d_WC_isCopy_76 : decode prog_1_method_9_code 76 = .ok (.goto 4, 3) := by decide +kernel
theorem d_WC_isCopy_79 : decode prog_1_method_9_code 79 = .ok (.iconst 0, 1) := by decide +kernel
theorem d_WC_isCopy_80 : decode prog_1_method_9_code 80 = .ok (.ireturn, 1) := by decide +kernel
theorem d_WC_part_0 : decode prog_1_method_10_code 0 = .ok (.iload_n 1, 1) := by decide +kernel
theorem d_WC_part_1 : decode prog_1_method_10_code 1 = .ok (.invokestatic 151, 3) := by decide +kernel
theorem d_WC_part_4 : decode prog_1_method_10_code 4 = .ok (.ifCond .eq 16, 3) := by decide +kernel
theorem d_WC_part_7 : decode prog_1_method_10_code 7 = .ok (.iload_n 2, 1) := by decide +kernel
theorem d_WC_part_8 : decode prog_1_method_10_code 8 = .ok (.ifCond .lt 12, 3) := by decide +kernel
theorem d_WC_part_11 : decode prog_1_method_10_code 11 = .ok (.iload_n 3, 1) := by decide +kernel
theorem d_WC_part_12 : decode prog_1_method_10_code 12 = .ok (.iconst 0, 1) := by decide +kernel
theorem d_WC_part_13 : decode prog_1_method_10_code 13 = .ok (.iconst 3, 1) := by decide +kernel
theorem d_WC_part_14 : decode prog_1_method_10_code 14 = .ok (.invokestatic 86, 3) := by decide +kernel
theorem d_WC_part_17 : decode prog_1_method_10_code 17 = .ok (.ifCond .ne 7, 3) := by decide +kernel
theorem d_WC_part_20 : decode prog_1_method_10_code 20 = .ok (.sipush (-10001), 3) := by decide +kernel
theorem d_WC_part_23 : decode prog_1_method_10_code 23 = .ok (.ireturn, 1) := by decide +kernel
theorem d_WC_part_24 : decode prog_1_method_10_code 24 = .ok (.aload_n 0, 1) := by decide +kernel
theorem d_WC_part_25 : decode prog_1_method_10_code 25 = .ok (.getfield 44, 3) := by decide +kernel
theorem d_WC_part_28 : decode prog_1_method_10_code 28 = .ok (.invokevirtual 154, 3) := by decide +kernel
theorem d_WC_part_31 : decode prog_1_method_10_code 31 = .ok (.aload_n 0, 1) := by decide +kernel
theorem d_WC_part_32 : decode prog_1_method_10_code 32 = .ok (.getfield 44, 3) := by decide +kernel
theorem d_WC_part_35 : decode prog_1_method_10_code 35 = .ok (.iload_n 1, 1) := by decide +kernel
theorem d_WC_part_36 : decode prog_1_method_10_code 36 = .ok (.invokevirtual 157, 3) := by decide +kernel
theorem d_WC_part_39 : decode prog_1_method_10_code 39 = .ok (.iload_n 2, 1) := by decide +kernel
theorem d_WC_part_40 : decode prog_1_method_10_code 40 = .ok (.aload_n 0, 1) := by decide +kernel
theorem d_WC_part_41 : decode prog_1_method_10_code 41 = .ok (.getfield 44, 3) := by decide +kernel
theorem d_WC_part_44 : decode prog_1_method_10_code 44 = .ok (.invokevirtual 160, 3) := by decide +kernel
theorem d_WC_part_47 : decode prog_1_method_10_code 47 = .ok (.if_icmp .lt 7, 3) := by decide +kernel
theorem d_WC_part_50 : decode prog_1_method_10_code 50 = .ok (.sipush (-10004), 3) := by decide +kernel
theorem d_WC_part_53 : decode prog_1_method_10_code 53 = .ok (.ireturn, 1) := by decide +kernel
theorem d_WC_part_54 : decode prog_1_method_10_code 54 = .ok (.aload_n 0, 1) := by decide +kernel
theorem d_WC_part_55 : decode prog_1_method_10_code 55 = .ok (.getfield 44, 3) := by decide +kernel
theorem d_WC_part_58 : decode prog_1_method_10_code 58 = .ok (.iload_n 2, 1) := by decide +kernel
theorem d_WC_part_59 : decode prog_1_method_10_code 59 = .ok (.invokevirtual 163, 3) := by decide +kernel
theorem d_WC_part_62 : decode prog_1_method_10_code 62 = .ok (.istore 4, 2) := by decide +kernel
theorem d_WC_part_64 : decode prog_1_method_10_code 64 = .ok (.iload_n 3, 1) := by decide +kernel
theorem d_WC_part_65 : decode prog_1_method_10_code 65 = .ok (.tableswitch 52 0 2 #[27, 30, 41], 27) := by decide +kernel
theorem d_WC_part_92 : decode prog_1_method_10_code 92 = .ok (.iload 4, 2) := by decide +kernel
theorem d_WC_part_94 : decode prog_1_method_10_code 94 = .ok (.ireturn, 1) := by decide +kernel
theorem d_WC_part_95 : decode prog_1_method_10_code 95 = .ok (.aload_n 0, 1) := by decide +kernel
theorem d_WC_part_96 : decode prog_1_method_10_code 96 = .ok (.getfield 44, 3) := by decide +kernel
theorem d_WC_part_99 : decode prog_1_method_10_code 99 = .ok (.iload_n 1, 1) := by decide +kernel
theorem d_WC_part_100 : decode prog_1_method_10_code 100 = .ok (.iload 4, 2) := by decide +kernel
theorem d_WC_part_102 : decode prog_1_method_10_code 102 = .ok (.invokevirtual 166, 3) := by decide +kernel
theorem d_WC_part_105 : decode prog_1_method_10_code 105 = .ok (.ireturn, 1) := by decide +kernel
theorem d_WC_part_106 : decode prog_1_method_10_code 106 = .ok (.aload_n 0, 1) := by decide +kernel
theorem d_WC_part_107 : decode prog_1_method_10_code 107 = .ok (.getfield 44, 3) := by decide +kernel
theorem d_WC_part_110 : decode prog_1_method_10_code 110 = .ok (.iload_n 1, 1) := by decide +kernel
theorem d_WC_part_111 : decode prog_1_method_10_code 111 = .ok (.iload 4, 2) := by decide +kernel
theorem d_WC_part_113 : decode prog_1_method_10_code 113 = .ok (.invokevirtual 169, 3) := by decide +kernel
theorem d_WC_part_116 : decode prog_1_method_10_code 116 = .ok (.ireturn, 1) := by decide +kernel
theorem d_WC_part_117 : decode prog_1_method_10_code 117 = .ok (.aload_n 0, 1) := by decide +kernel
theorem d_WC_part_118 : decode prog_1_method_10_code 118 = .ok (.getfield 10, 3) := by decide +kernel
theorem d_WC_part_121 : decode prog_1_method_10_code 121 = .ok (.aload_n 0, 1) := by decide +kernel
theorem d_WC_part_122 : decode prog_1_method_10_code 122 = .ok (.getfield 44, 3) := by decide +kernel
theorem d_WC_part_125 : decode prog_1_method_10_code 125 = .ok (.iload_n 1, 1) := by decide +kernel
theorem d_WC_part_126 : decode prog_1_method_10_code 126 = .ok (.iload 4, 2) := by decide +kernel
theorem d_WC_part_128 : decode prog_1_method_10_code 128 = .ok (.invokevirtual 169, 3) := by decide +kernel
theorem d_WC_part_131 : decode prog_1_method_10_code 131 = .ok (.ifCond .ne 7, 3) := by decide +kernel
theorem d_WC_part_134 : decode prog_1_method_10_code 134 = .ok (.iconst 3, 1) := by decide +kernel
theorem d_WC_part_135 : decode prog_1_method_10_code 135 = .ok (.goto 4, 3) := by decide +kernel
theorem d_WC_part_138 : decode prog_1_method_10_code 138 = .ok (.iconst 4, 1) := by decide +kernel
theorem d_WC_part_139 : decode prog_1_method_10_code 139 = .ok (.invokevirtual 115, 3) := by decide +kernel
theorem d_WC_part_142 : decode prog_1_method_10_code 142 = .ok (.ireturn, 1) := by decide +kernel
theorem d_WC_total_0 : decode prog_1_method_11_code 0 = .ok (.iload_n 1, 1) := by decide +kernel
theorem d_WC_total_1 : decode prog_1_method_11_code 1 = .ok (.invokestatic 151, 3) := by decide +kernel
theorem d_WC_total_4 : decode prog_1_method_11_code 4 = .ok (.ifCond .eq 12, 3) := by decide +kernel
theorem d_WC_total_7 : decode prog_1_method_11_code 7 = .ok (.iload_n 2, 1) := by decide +kernel
theorem d_WC_total_8 : decode prog_1_method_11_code 8 = .ok (.iconst 0, 1) := by decide +kernel
theorem d_WC_total_9 : decode prog_1_method_11_code 9 = .ok (.iconst 5, 1) := by decide +kernel
theorem d_WC_total_10 : decode prog_1_method_11_code 10 = .ok (.invokestatic 86, 3) := by decide +kernel
theorem d_WC_total_13 : decode prog_1_method_11_code 13 = .ok (.ifCond .ne 7, 3) := by decide +kernel
theorem d_WC_total_16 : decode prog_1_method_11_code 16 = .ok (.sipush (-10001), 3) := by decide +kernel
theorem d_WC_total_19 : decode prog_1_method_11_code 19 = .ok (.ireturn, 1) := by decide +kernel
theorem d_WC_total_20 : decode prog_1_method_11_code 20 = .ok (.aload_n 0, 1) := by decide +kernel
theorem d_WC_total_21 : decode prog_1_method_11_code 21 = .ok (.getfield 44, 3) := by decide +kernel
theorem d_WC_total_24 : decode prog_1_method_11_code 24 = .ok (.invokevirtual 154, 3) := by decide +kernel
theorem d_WC_total_27 : decode prog_1_method_11_code 27 = .ok (.aload_n 0, 1) := by decide +kernel
theorem d_WC_total_28 : decode prog_1_method_11_code 28 = .ok (.getfield 44, 3) := by decide +kernel
theorem d_WC_total_31 : decode prog_1_method_11_code 31 = .ok (.iload_n 1, 1) := by decide +kernel
theorem d_WC_total_32 : decode prog_1_method_11_code 32 = .ok (.invokevirtual 157, 3) := by decide +kernel
theorem d_WC_total_35 : decode prog_1_method_11_code 35 = .ok (.iload_n 2, 1) := by decide +kernel
theorem d_WC_total_36 : decode prog_1_method_11_code 36 = .ok (.tableswitch 93 0 4 #[36, 44, 52, 60, 85], 36) := by decide +kernel
theorem d_WC_total_72 : decode prog_1_method_11_code 72 = .ok (.aload_n 0, 1) := by decide +kernel
theorem d_WC_total_73 : decode prog_1_method_11_code 73 = .ok (.getfield 44, 3) := by decide +kernel
theorem d_WC_total_76 : decode prog_1_method_11_code 76 = .ok (.invokevirtual 160, 3) := by decide +kernel
theorem d_WC_total_79 : decode prog_1_method_11_code 79 = .ok (.ireturn, 1) := by decide +kernel
theorem d_WC_total_80 : decode prog_1_method_11_code 80 = .ok (.aload_n 0, 1) := by decide +kernel
theorem d_WC_total_81 : decode prog_1_method_11_code 81 = .ok (.getfield 44, 3) := by decide +kernel
theorem d_WC_total_84 : decode prog_1_method_11_code 84 = .ok (.invokevirtual 172, 3) := by decide +kernel
theorem d_WC_total_87 : decode prog_1_method_11_code 87 = .ok (.ireturn, 1) := by decide +kernel
theorem d_WC_total_88 : decode prog_1_method_11_code 88 = .ok (.aload_n 0, 1) := by decide +kernel
theorem d_WC_total_89 : decode prog_1_method_11_code 89 = .ok (.getfield 44, 3) := by decide +kernel
theorem d_WC_total_92 : decode prog_1_method_11_code 92 = .ok (.invokevirtual 175, 3) := by decide +kernel
theorem d_WC_total_95 : decode prog_1_method_11_code 95 = .ok (.ireturn, 1) := by decide +kernel
theorem d_WC_total_96 : decode prog_1_method_11_code 96 = .ok (.aload_n 0, 1) := by decide +kernel
theorem d_WC_total_97 : decode prog_1_method_11_code 97 = .ok (.getfield 10, 3) := by decide +kernel
theorem d_WC_total_100 : decode prog_1_method_11_code 100 = .ok (.invokevirtual 75, 3) := by decide +kernel
theorem d_WC_total_103 : decode prog_1_method_11_code 103 = .ok (.aload_n 0, 1) := by decide +kernel
theorem d_WC_total_104 : decode prog_1_method_11_code 104 = .ok (.getfield 10, 3) := by decide +kernel
theorem d_WC_total_107 : decode prog_1_method_11_code 107 = .ok (.iconst 3, 1) := by decide +kernel
theorem d_WC_total_108 : decode prog_1_method_11_code 108 = .ok (.invokevirtual 115, 3) := by decide +kernel
theorem d_WC_total_111 : decode prog_1_method_11_code 111 = .ok (.imul, 1) := by decide +kernel
theorem d_WC_total_112 : decode prog_1_method_11_code 112 = .ok (.aload_n 0, 1) := by decide +kernel
theorem d_WC_total_113 : decode prog_1_method_11_code 113 = .ok (.getfield 44, 3) := by decide +kernel
theorem d_WC_total_116 : decode prog_1_method_11_code 116 = .ok (.invokevirtual 175, 3) := by decide +kernel
theorem d_WC_total_119 : decode prog_1_method_11_code 119 = .ok (.isub, 1) := by decide +kernel
theorem d_WC_total_120 : decode prog_1_method_11_code 120 = .ok (.ireturn, 1) := by decide +kernel
theorem d_WC_total_121 : decode prog_1_method_11_code 121 = .ok (.aload_n 0, 1) := by decide +kernel
theorem d_WC_total_122 : decode prog_1_method_11_code 122 = .ok (.getfield 44, 3) := by decide +kernel
theorem d_WC_total_125 : decode prog_1_method_11_code 125 = .ok (.invokevirtual 178, 3) := by decide +kernel
theorem d_WC_total_128 : decode prog_1_method_11_code 128 = .ok (.ireturn, 1) := by decide +kernel
theorem d_WC_total_129 : decode prog_1_method_11_code 129 = .ok (.aload_n 0, 1) := by decide +kernel
theorem d_WC_total_130 : decode prog_1_method_11_code 130 = .ok (.getfield 44, 3) := by decide +kernel
theorem d_WC_total_133 : decode prog_1_method_11_code 133 = .ok (.invokevirtual 181, 3) := by decide +kernel
theorem d_WC_total_136 : decode prog_1_method_11_code 136 = .ok (.ireturn, 1) := by decide +kernel
theorem d_WC_partAt_0 : decode prog_1_method_12_code 0 = .ok (.iload_n 1, 1) := by decide +kernel
theorem d_WC_partAt_1 : decode prog_1_method_12_code 1 = .ok (.invokestatic 151, 3) := by decide +kernel
theorem d_WC_partAt_4 : decode prog_1_method_12_code 4 = .ok (.ifCond .eq 14, 3) := by decide +kernel
theorem d_WC_partAt_7 : decode prog_1_method_12_code 7 = .ok (.aload_n 0, 1) := by decide +kernel
theorem d_WC_partAt_8 : decode prog_1_method_12_code 8 = .ok (.getfield 10, 3) := by decide +kernel
theorem d_WC_partAt_11 : decode prog_1_method_12_code 11 = .ok (.iload_n 2, 1) := by decide +kernel
theorem d_WC_partAt_12 : decode prog_1_method_12_code 12 = .ok (.invokevirtual 93, 3) := by decide +kernel
theorem d_WC_partAt_15 : decode prog_1_method_12_code 15 = .ok (.ifCond .ne 7, 3) := by decide +kernel
theorem d_WC_partAt_18 : decode prog_1_method_12_code 18 = .ok (.sipush (-10001), 3) := by decide +kernel
theorem d_WC_partAt_21 : decode prog_1_method_12_code 21 = .ok (.ireturn, 1) := by decide +kernel
theorem d_WC_partAt_22 : decode prog_1_method_12_code 22 = .ok (.aload_n 0, 1) := by decide +kernel
theorem d_WC_partAt_23 : decode prog_1_method_12_code 23 = .ok (.getfield 44, 3) := by decide +kernel
theorem d_WC_partAt_26 : decode prog_1_method_12_code 26 = .ok (.invokevirtual 154, 3) := by decide +kernel
theorem d_WC_partAt_29 : decode prog_1_method_12_code 29 = .ok (.aload_n 0, 1) := by decide +kernel
theorem d_WC_partAt_30 : decode prog_1_method_12_code 30 = .ok (.getfield 44, 3) := by decide +kernel
theorem d_WC_partAt_33 : decode prog_1_method_12_code 33 = .ok (.iload_n 1, 1) := by decide +kernel
theorem d_WC_partAt_34 : decode prog_1_method_12_code 34 = .ok (.invokevirtual 157, 3) := by decide +kernel
theorem d_WC_partAt_37 : decode prog_1_method_12_code 37 = .ok (.aload_n 0, 1) := by decide +kernel
theorem d_WC_partAt_38 : decode prog_1_method_12_code 38 = .ok (.getfield 44, 3) := by decide +kernel
theorem d_WC_partAt_41 : decode prog_1_method_12_code 41 = .ok (.iload_n 2, 1) := by decide +kernel
theorem d_WC_partAt_42 : decode prog_1_method_12_code 42 = .ok (.invokevirtual 184, 3) := by decide +kernel
theorem d_WC_partAt_45 : decode prog_1_method_12_code 45 = .ok (.ireturn, 1) := by decide +kernel
theorem d_WC_parting_0 : decode prog_1_method_13_code 0 = .ok (.iload_n 1, 1) := by decide +kernel
theorem d_WC_parting_1 : decode prog_1_method_13_code 1 = .ok (.invokestatic 151, 3) := by decide +kernel
theorem d_WC_parting_4 : decode prog_1_method_13_code 4 = .ok (.ifCond .eq 10, 3) := by decide +kernel
theorem d_WC_parting_7 : decode prog_1_method_13_code 7 = .ok (.iload_n 2, 1) := by decide +kernel
theorem d_WC_parting_8 : decode prog_1_method_13_code 8 = .ok (.invokestatic 151, 3) := by decide +kernel
theorem d_WC_parting_11 : decode prog_1_method_13_code 11 = .ok (.ifCond .ne 7, 3) := by decide +kernel
theorem d_WC_parting_14 : decode prog_1_method_13_code 14 = .ok (.sipush (-10001), 3) := by decide +kernel
theorem d_WC_parting_17 : decode prog_1_method_13_code 17 = .ok (.ireturn, 1) := by decide +kernel
theorem d_WC_parting_18 : decode prog_1_method_13_code 18 = .ok (.aload_n 0, 1) := by decide +kernel
theorem d_WC_parting_19 : decode prog_1_method_13_code 19 = .ok (.getfield 44, 3) := by decide +kernel
theorem d_WC_parting_22 : decode prog_1_method_13_code 22 = .ok (.invokevirtual 154, 3) := by decide +kernel
theorem d_WC_parting_25 : decode prog_1_method_13_code 25 = .ok (.aload_n 0, 1) := by decide +kernel
theorem d_WC_parting_26 : decode prog_1_method_13_code 26 = .ok (.getfield 44, 3) := by decide +kernel
theorem d_WC_parting_29 : decode prog_1_method_13_code 29 = .ok (.iload_n 1, 1) := by decide +kernel
theorem d_WC_parting_30 : decode prog_1_method_13_code 30 = .ok (.iload_n 2, 1) := by decide +kernel
theorem d_WC_parting_31 : decode prog_1_method_13_code 31 = .ok (.invokevirtual 187, 3) := by decide +kernel
theorem d_WC_parting_34 : decode prog_1_method_13_code 34 = .ok (.istore_n 3, 1) := by decide +kernel
theorem d_WC_parting_35 : decode prog_1_method_13_code 35 = .ok (.iload_n 3, 1) := by decide +kernel
theorem d_WC_parting_36 : decode prog_1_method_13_code 36 = .ok (.iconst (-1), 1) := by decide +kernel
theorem d_WC_parting_37 : decode prog_1_method_13_code 37 = .ok (.if_icmp .ne 9, 3) := by decide +kernel
theorem d_WC_parting_40 : decode prog_1_method_13_code 40 = .ok (.sipush (-10004), 3) := by decide +kernel
theorem d_WC_parting_43 : decode prog_1_method_13_code 43 = .ok (.goto 4, 3) := by decide +kernel
theorem d_WC_parting_46 : decode prog_1_method_13_code 46 = .ok (.iload_n 3, 1) := by decide +kernel
theorem d_WC_parting_47 : decode prog_1_method_13_code 47 = .ok (.ireturn, 1) := by decide +kernel
theorem d_WC_repeat_0 : decode prog_1_method_14_code 0 = .ok (.iload_n 1, 1) := by decide +kernel
theorem d_WC_repeat_1 : decode prog_1_method_14_code 1 = .ok (.iconst 0, 1) := by decide +kernel
theorem d_WC_repeat_2 : decode prog_1_method_14_code 2 = .ok (.iconst 2, 1) := by decide +kernel
theorem d_WC_repeat_3 : decode prog_1_method_14_code 3 = .ok (.invokestatic 86, 3) := by decide +kernel
theorem d_WC_repeat_6 : decode prog_1_method_14_code 6 = .ok (.ifCond .ne 7, 3) := by decide +kernel
theorem d_WC_repeat_9 : decode prog_1_method_14_code 9 = .ok (.sipush (-10001), 3) := by decide +kernel
theorem d_WC_repeat_12 : decode prog_1_method_14_code 12 = .ok (.ireturn, 1) := by decide +kernel
theorem d_WC_repeat_13 : decode prog_1_method_14_code 13 = .ok (.aload_n 0, 1) := by decide +kernel
theorem d_WC_repeat_14 : decode prog_1_method_14_code 14 = .ok (.getfield 51, 3) := by decide +kernel
theorem d_WC_repeat_17 : decode prog_1_method_14_code 17 = .ok (.aload_n 0, 1) := by decide +kernel
theorem d_WC_repeat_18 : decode prog_1_method_14_code 18 = .ok (.getfield 10, 3) := by decide +kernel
theorem d_WC_repeat_21 : decode prog_1_method_14_code 21 = .ok (.invokevirtual 190, 3) := by decide +kernel
theorem d_WC_repeat_24 : decode prog_1_method_14_code 24 = .ok (.aload_n 0, 1) := by decide +kernel
theorem d_WC_repeat_25 : decode prog_1_method_14_code 25 = .ok (.getfield 51, 3) := by decide +kernel
theorem d_WC_repeat_28 : decode prog_1_method_14_code 28 = .ok (.invokevirtual 193, 3) := by decide +kernel
theorem d_WC_repeat_31 : decode prog_1_method_14_code 31 = .ok (.ifCond .ne 7, 3) := by decide +kernel
theorem d_WC_repeat_34 : decode prog_1_method_14_code 34 = .ok (.sipush (-10004), 3) := by decide +kernel
theorem d_WC_repeat_37 : decode prog_1_method_14_code 37 = .ok (.ireturn, 1) := by decide +kernel
theorem d_WC_repeat_38 : decode prog_1_method_14_code 38 = .ok (.iload_n 1, 1) := by decide +kernel
theorem d_WC_repeat_39 : decode prog_1_method_14_code 39 = .ok (.lookupswitch 41 #[(0, 25), (1, 33)], 25) := by decide +kernel
theorem d_WC_repeat_64 : decode prog_1_method_14_code 64 = .ok (.aload_n 0, 1) := by decide +kernel
theorem d_WC_repeat_65 : decode prog_1_method_14_code 65 = .ok (.getfield 51, 3) := by decide +kernel
theorem d_WC_repeat_68 : decode prog_1_method_14_code 68 = .ok (.invokevirtual 193, 3) := by decide +kernel
theorem d_WC_repeat_71 : decode prog_1_method_14_code 71 = .ok (.ireturn, 1) := by decide +kernel
theorem d_WC_repeat_72 : decode prog_1_method_14_code 72 = .ok (.aload_n 0, 1) := by decide +kernel
theorem d_WC_repeat_73 : decode prog_1_method_14_code 73 = .ok (.getfield 51, 3) := by decide +kernel
theorem d_WC_repeat_76 : decode prog_1_method_14_code 76 = .ok (.invokevirtual 196, 3) := by decide +kernel
theorem d_WC_repeat_79 : decode prog_1_method_14_code 79 = .ok (.ireturn, 1) := by decide +kernel
theorem d_WC_repeat_80 : decode prog_1_method_14_code 80 = .ok (.aload_n 0, 1) := by decide +kernel
theorem d_WC_repeat_81 : decode prog_1_method_14_code 81 = .ok (.getfield 51, 3) := by decide +kernel
theorem d_WC_repeat_84 : decode prog_1_method_14_code 84 = .ok (.invokevirtual 199, 3) := by decide +kernel
theorem d_WC_repeat_87 : decode prog_1_method_14_code 87 = .ok (.ireturn, 1) := by decide +kernel
theorem d_WC_count_0 : decode prog_1_method_15_code 0 = .ok (.iload_n 1, 1) := by decide +kernel
theorem d_WC_count_1 : decode prog_1_method_15_code 1 = .ok (.tableswitch 89 0 5 #[39, 47, 55, 60, 68, 76], 39) := by decide +kernel
theorem d_WC_count_40 : decode prog_1_method_15_code 40 = .ok (.aload_n 0, 1) := by decide +kernel
theorem d_WC_count_41 : decode prog_1_method_15_code 41 = .ok (.getfield 10, 3) := by decide +kernel
theorem d_WC_count_44 : decode prog_1_method_15_code 44 = .ok (.invokevirtual 75, 3) := by decide +kernel
theorem d_WC_count_47 : decode prog_1_method_15_code 47 = .ok (.ireturn, 1) := by decide +kernel
theorem d_WC_count_48 : decode prog_1_method_15_code 48 = .ok (.aload_n 0, 1) := by decide +kernel
theorem d_WC_count_49 : decode prog_1_method_15_code 49 = .ok (.getfield 10, 3) := by decide +kernel
theorem d_WC_count_52 : decode prog_1_method_15_code 52 = .ok (.invokevirtual 202, 3) := by decide +kernel
theorem d_WC_count_55 : decode prog_1_method_15_code 55 = .ok (.ireturn, 1) := by decide +kernel
theorem d_WC_count_56 : decode prog_1_method_15_code 56 = .ok (.aload_n 0, 1) := by decide +kernel
theorem d_WC_count_57 : decode prog_1_method_15_code 57 = .ok (.invokevirtual 205, 3) := by decide +kernel
theorem d_WC_count_60 : decode prog_1_method_15_code 60 = .ok (.ireturn, 1) := by decide +kernel
theorem d_WC_count_61 : decode prog_1_method_15_code 61 = .ok (.aload_n 0, 1) := by decide +kernel
theorem d_WC_count_62 : decode prog_1_method_15_code 62 = .ok (.getfield 26, 3) := by decide +kernel
theorem d_WC_count_65 : decode prog_1_method_15_code 65 = .ok (.invokevirtual 208, 3) := by decide +kernel
theorem d_WC_count_68 : decode prog_1_method_15_code 68 = .ok (.ireturn, 1) := by decide +kernel
theorem d_WC_count_69 : decode prog_1_method_15_code 69 = .ok (.aload_n 0, 1) := by decide +kernel
theorem d_WC_count_70 : decode prog_1_method_15_code 70 = .ok (.getfield 58, 3) := by decide +kernel
theorem d_WC_count_73 : decode prog_1_method_15_code 73 = .ok (.invokevirtual 209, 3) := by decide +kernel
theorem d_WC_count_76 : decode prog_1_method_15_code 76 = .ok (.ireturn, 1) := by decide +kernel
theorem d_WC_count_77 : decode prog_1_method_15_code 77 = .ok (.aload_n 0, 1) := by decide +kernel
theorem d_WC_count_78 : decode prog_1_method_15_code 78 = .ok (.getfield 19, 3) := by decide +kernel
theorem d_WC_count_81 : decode prog_1_method_15_code 81 = .ok (.ifCond .eq 7, 3) := by decide +kernel
theorem d_WC_count_84 : decode prog_1_method_15_code 84 = .ok (.iconst 1, 1) := by decide +kernel
theorem d_WC_count_85 : decode prog_1_method_15_code 85 = .ok (.goto 4, 3) := by decide +kernel
theorem d_WC_count_88 : decode prog_1_method_15_code 88 = .ok (.iconst 0, 1) := by decide +kernel
theorem d_WC_count_89 : decode prog_1_method_15_code 89 = .ok (.ireturn, 1) := by decide +kernel
theorem d_WC_count_90 : decode prog_1_method_15_code 90 = .ok (.aload_n 0, 1) := by decide +kernel
theorem d_WC_count_91 : decode prog_1_method_15_code 91 = .ok (.iload_n 1, 1) := by decide +kernel
theorem d_WC_count_92 : decode prog_1_method_15_code 92 = .ok (.invokevirtual 210, 3) := by decide +kernel
theorem d_WC_count_95 : decode prog_1_method_15_code 95 = .ok (.ireturn, 1) := by decide +kernel
theorem d_WC_settingCount_0 : decode prog_1_method_16_code 0 = .ok (.iload_n 1, 1) := by decide +kernel
theorem d_WC_settingCount_1 : decode prog_1_method_16_code 1 = .ok (.bipush 10, 2) := by decide +kernel
theorem d_WC_settingCount_3 : decode prog_1_method_16_code 3 = .ok (.bipush 14, 2) := by decide +kernel
theorem d_WC_settingCount_5 : decode prog_1_method_16_code 5 = .ok (.invokestatic 86, 3) := by decide +kernel
theorem d_WC_settingCount_8 : decode prog_1_method_16_code 8 = .ok (.ifCond .ne 7, 3) := by decide +kernel
theorem d_WC_settingCount_11 : decode prog_1_method_16_code 11 = .ok (.sipush (-10001), 3) := by decide +kernel
theorem d_WC_settingCount_14 : decode prog_1_method_16_code 14 = .ok (.ireturn, 1) := by decide +kernel
theorem d_WC_settingCount_15 : decode prog_1_method_16_code 15 = .ok (.aload_n 0, 1) := by decide +kernel
theorem d_WC_settingCount_16 : decode prog_1_method_16_code 16 = .ok (.getfield 10, 3) := by decide +kernel
theorem d_WC_settingCount_19 : decode prog_1_method_16_code 19 = .ok (.iload_n 1, 1) := by decide +kernel
theorem d_WC_settingCount_20 : decode prog_1_method_16_code 20 = .ok (.bipush 10, 2) := by decide +kernel
theorem d_WC_settingCount_22 : decode prog_1_method_16_code 22 = .ok (.isub, 1) := by decide +kernel
theorem d_WC_settingCount_23 : decode prog_1_method_16_code 23 = .ok (.invokevirtual 115, 3) := by decide +kernel
theorem d_WC_settingCount_26 : decode prog_1_method_16_code 26 = .ok (.ireturn, 1) := by decide +kernel
theorem d_WC_cheapestWay_0 : decode prog_1_method_17_code 0 = .ok (.aload_n 0, 1) := by decide +kernel
theorem d_WC_cheapestWay_1 : decode prog_1_method_17_code 1 = .ok (.getfield 44, 3) := by decide +kernel
theorem d_WC_cheapestWay_4 : decode prog_1_method_17_code 4 = .ok (.invokevirtual 154, 3) := by decide +kernel
theorem d_WC_cheapestWay_7 : decode prog_1_method_17_code 7 = .ok (.aload_n 0, 1) := by decide +kernel
theorem d_WC_cheapestWay_8 : decode prog_1_method_17_code 8 = .ok (.getfield 44, 3) := by decide +kernel
theorem d_WC_cheapestWay_11 : decode prog_1_method_17_code 11 = .ok (.iconst 0, 1) := by decide +kernel
theorem d_WC_cheapestWay_12 : decode prog_1_method_17_code 12 = .ok (.invokevirtual 157, 3) := by decide +kernel
theorem d_WC_cheapestWay_15 : decode prog_1_method_17_code 15 = .ok (.iconst 0, 1) := by decide +kernel
theorem d_WC_cheapestWay_16 : decode prog_1_method_17_code 16 = .ok (.istore_n 1, 1) := by decide +kernel
theorem d_WC_cheapestWay_17 : decode prog_1_method_17_code 17 = .ok (.aload_n 0, 1) := by decide +kernel
theorem d_WC_cheapestWay_18 : decode prog_1_method_17_code 18 = .ok (.getfield 44, 3) := by decide +kernel
theorem d_WC_cheapestWay_21 : decode prog_1_method_17_code 21 = .ok (.invokevirtual 175, 3) := by decide +kernel
theorem d_WC_cheapestWay_24 : decode prog_1_method_17_code 24 = .ok (.istore_n 2, 1) := by decide +kernel
theorem d_WC_cheapestWay_25 : decode prog_1_method_17_code 25 = .ok (.iconst 1, 1) := by decide +kernel
theorem d_WC_cheapestWay_26 : decode prog_1_method_17_code 26 = .ok (.istore_n 3, 1) := by decide +kernel
theorem d_WC_cheapestWay_27 : decode prog_1_method_17_code 27 = .ok (.iload_n 3, 1) := by decide +kernel
theorem d_WC_cheapestWay_28 : decode prog_1_method_17_code 28 = .ok (.iconst 3, 1) := by decide +kernel
theorem d_WC_cheapestWay_29 : decode prog_1_method_17_code 29 = .ok (.if_icmp .ge 38, 3) := by decide +kernel
theorem d_WC_cheapestWay_32 : decode prog_1_method_17_code 32 = .ok (.aload_n 0, 1) := by decide +kernel
theorem d_WC_cheapestWay_33 : decode prog_1_method_17_code 33 = .ok (.getfield 44, 3) := by decide +kernel
theorem d_WC_cheapestWay_36 : decode prog_1_method_17_code 36 = .ok (.iload_n 3, 1) := by decide +kernel
theorem d_WC_cheapestWay_37 : decode prog_1_method_17_code 37 = .ok (.invokevirtual 157, 3) := by decide +kernel
theorem d_WC_cheapestWay_40 : decode prog_1_method_17_code 40 = .ok (.aload_n 0, 1) := by decide +kernel
theorem d_WC_cheapestWay_41 : decode prog_1_method_17_code 41 = .ok (.getfield 44, 3) := by decide +kernel
theorem d_WC_cheapestWay_44 : decode prog_1_method_17_code 44 = .ok (.invokevirtual 175, 3) := by decide +kernel
theorem d_WC_cheapestWay_47 : decode prog_1_method_17_code 47 = .ok (.iload_n 2, 1) := by decide +kernel
theorem d_WC_cheapestWay_48 : decode prog_1_method_17_code 48 = .ok (.if_icmp .ge 13, 3) := by decide +kernel
theorem d_WC_cheapestWay_51 : decode prog_1_method_17_code 51 = .ok (.aload_n 0, 1) := by decide +kernel
theorem d_WC_cheapestWay_52 : decode prog_1_method_17_code 52 = .ok (.getfield 44, 3) := by decide +kernel
theorem d_WC_cheapestWay_55 : decode prog_1_method_17_code 55 = .ok (.invokevirtual 175, 3) := by decide +kernel
theorem d_WC_cheapestWay_58 : decode prog_1_method_17_code 58 = .ok (.istore_n 2, 1) := by decide +kernel
theorem d_WC_cheapestWay_59 : decode prog_1_method_17_code 59 = .ok (.iload_n 3, 1) := by decide +kernel
theorem d_WC_cheapestWay_60 : decode prog_1_method_17_code 60 = .ok (.istore_n 1, 1) := by decide +kernel
theorem d_WC_cheapestWay_61 : decode prog_1_method_17_code 61 = .ok (.iinc 3 1, 3) := by decide +kernel
theorem d_WC_cheapestWay_64 : decode prog_1_method_17_code 64 = .ok (.goto (-37), 3) := by decide +kernel
theorem d_WC_cheapestWay_67 : decode prog_1_method_17_code 67 = .ok (.iload_n 1, 1) := by decide +kernel
theorem d_WC_cheapestWay_68 : decode prog_1_method_17_code 68 = .ok (.ireturn, 1) := by decide +kernel
theorem d_WC_keep_0 : decode prog_1_method_18_code 0 = .ok (.aload_n 0, 1) := by decide +kernel
theorem d_WC_keep_1 : decode prog_1_method_18_code 1 = .ok (.getfield 16, 3) := by decide +kernel
theorem d_WC_keep_4 : decode prog_1_method_18_code 4 = .ok (.aload_n 0, 1) := by decide +kernel
theorem d_WC_keep_5 : decode prog_1_method_18_code 5 = .ok (.getfield 10, 3) := by decide +kernel
theorem d_WC_keep_8 : decode prog_1_method_18_code 8 = .ok (.invokevirtual 213, 3) := by decide +kernel
theorem d_WC_keep_11 : decode prog_1_method_18_code 11 = .ok (.aload_n 0, 1) := by decide +kernel
theorem d_WC_keep_12 : decode prog_1_method_18_code 12 = .ok (.iconst 1, 1) := by decide +kernel
theorem d_WC_keep_13 : decode prog_1_method_18_code 13 = .ok (.putfield 19, 3) := by decide +kernel
theorem d_WC_keep_16 : decode prog_1_method_18_code 16 = .ok (.aload_n 0, 1) := by decide +kernel
theorem d_WC_keep_17 : decode prog_1_method_18_code 17 = .ok (.getfield 10, 3) := by decide +kernel
theorem d_WC_keep_20 : decode prog_1_method_18_code 20 = .ok (.invokevirtual 75, 3) := by decide +kernel
theorem d_WC_keep_23 : decode prog_1_method_18_code 23 = .ok (.ireturn, 1) := by decide +kernel
theorem d_WC_restore_0 : decode prog_1_method_19_code 0 = .ok (.aload_n 0, 1) := by decide +kernel
theorem d_WC_restore_1 : decode prog_1_method_19_code 1 = .ok (.getfield 19, 3) := by decide +kernel
theorem d_WC_restore_4 : decode prog_1_method_19_code 4 = .ok (.ifCond .ne 7, 3) := by decide +kernel
theorem d_WC_restore_7 : decode prog_1_method_19_code 7 = .ok (.sipush (-10002), 3) := by decide +kernel
theorem d_WC_restore_10 : decode prog_1_method_19_code 10 = .ok (.ireturn, 1) := by decide +kernel
theorem d_WC_restore_11 : decode prog_1_method_19_code 11 = .ok (.aload_n 0, 1) := by decide +kernel
theorem d_WC_restore_12 : decode prog_1_method_19_code 12 = .ok (.getfield 26, 3) := by decide +kernel
theorem d_WC_restore_15 : decode prog_1_method_19_code 15 = .ok (.aload_n 0, 1) := by decide +kernel
theorem d_WC_restore_16 : decode prog_1_method_19_code 16 = .ok (.getfield 10, 3) := by decide +kernel
theorem d_WC_restore_19 : decode prog_1_method_19_code 19 = .ok (.invokevirtual 79, 3) := by decide +kernel
theorem d_WC_restore_22 : decode prog_1_method_19_code 22 = .ok (.aload_n 0, 1) := by decide +kernel
theorem d_WC_restore_23 : decode prog_1_method_19_code 23 = .ok (.getfield 10, 3) := by decide +kernel
theorem d_WC_restore_26 : decode prog_1_method_19_code 26 = .ok (.aload_n 0, 1) := by decide +kernel
theorem d_WC_restore_27 : decode prog_1_method_19_code 27 = .ok (.getfield 16, 3) := by decide +kernel
theorem d_WC_restore_30 : decode prog_1_method_19_code 30 = .ok (.invokevirtual 213, 3) := by decide +kernel
theorem d_WC_restore_33 : decode prog_1_method_19_code 33 = .ok (.aload_n 0, 1) := by decide +kernel
theorem d_WC_restore_34 : decode prog_1_method_19_code 34 = .ok (.getfield 10, 3) := by decide +kernel
theorem d_WC_restore_37 : decode prog_1_method_19_code 37 = .ok (.invokevirtual 75, 3) := by decide +kernel
theorem d_WC_restore_40 : decode prog_1_method_19_code 40 = .ok (.ireturn, 1) := by decide +kernel
theorem d_WC_undo_0 : decode prog_1_method_20_code 0 = .ok (.aload_n 0, 1) := by decide +kernel
theorem d_WC_undo_1 : decode prog_1_method_20_code 1 = .ok (.getfield 26, 3) := by decide +kernel
theorem d_WC_undo_4 : decode prog_1_method_20_code 4 = .ok (.invokevirtual 208, 3) := by decide +kernel
theorem d_WC_undo_7 : decode prog_1_method_20_code 7 = .ok (.ifCond .ne 7, 3) := by decide +kernel
theorem d_WC_undo_10 : decode prog_1_method_20_code 10 = .ok (.sipush (-10002), 3) := by decide +kernel
theorem d_WC_undo_13 : decode prog_1_method_20_code 13 = .ok (.ireturn, 1) := by decide +kernel
theorem d_WC_undo_14 : decode prog_1_method_20_code 14 = .ok (.aload_n 0, 1) := by decide +kernel
theorem d_WC_undo_15 : decode prog_1_method_20_code 15 = .ok (.getfield 26, 3) := by decide +kernel
theorem d_WC_undo_18 : decode prog_1_method_20_code 18 = .ok (.aload_n 0, 1) := by decide +kernel
theorem d_WC_undo_19 : decode prog_1_method_20_code 19 = .ok (.getfield 10, 3) := by decide +kernel
theorem d_WC_undo_22 : decode prog_1_method_20_code 22 = .ok (.invokevirtual 216, 3) := by decide +kernel
theorem d_WC_undo_25 : decode prog_1_method_20_code 25 = .ok (.aload_n 0, 1) := by decide +kernel
theorem d_WC_undo_26 : decode prog_1_method_20_code 26 = .ok (.getfield 26, 3) := by decide +kernel
theorem d_WC_undo_29 : decode prog_1_method_20_code 29 = .ok (.invokevirtual 208, 3) := by decide +kernel
theorem d_WC_undo_32 : decode prog_1_method_20_code 32 = .ok (.ireturn, 1) := by decide +kernel
theorem d_WC_type_0 : decode prog_1_method_21_code 0 = .ok (.iload_n 1, 1) := by decide +kernel
theorem d_WC_type_1 : decode prog_1_method_21_code 1 = .ok (.bipush 32, 2) := by decide +kernel
theorem d_WC_type_3 : decode prog_1_method_21_code 3 = .ok (.bipush 126, 2) := by decide +kernel
theorem d_WC_type_5 : decode prog_1_method_21_code 5 = .ok (.invokestatic 86, 3) := by decide +kernel
theorem d_WC_type_8 : decode prog_1_method_21_code 8 = .ok (.ifCond .ne 7, 3) := by decide +kernel
theorem d_WC_type_11 : decode prog_1_method_21_code 11 = .ok (.sipush (-10001), 3) := by decide +kernel
theorem d_WC_type_14 : decode prog_1_method_21_code 14 = .ok (.ireturn, 1) := by decide +kernel
theorem d_WC_type_15 : decode prog_1_method_21_code 15 = .ok (.aload_n 0, 1) := by decide +kernel
theorem d_WC_type_16 : decode prog_1_method_21_code 16 = .ok (.getfield 58, 3) := by decide +kernel
theorem d_WC_type_19 : decode prog_1_method_21_code 19 = .ok (.invokevirtual 209, 3) := by decide +kernel
theorem d_WC_type_22 : decode prog_1_method_21_code 22 = .ok (.bipush 120, 2) := by decide +kernel
theorem d_WC_type_24 : decode prog_1_method_21_code 24 = .ok (.if_icmp .lt 7, 3) := by decide +kernel
theorem d_WC_type_27 : decode prog_1_method_21_code 27 = .ok (.sipush (-10003), 3) := by decide +kernel
theorem d_WC_type_30 : decode prog_1_method_21_code 30 = .ok (.ireturn, 1) := by decide +kernel
theorem d_WC_type_31 : decode prog_1_method_21_code 31 = .ok (.aload_n 0, 1) := by decide +kernel
theorem d_WC_type_32 : decode prog_1_method_21_code 32 = .ok (.getfield 58, 3) := by decide +kernel
theorem d_WC_type_35 : decode prog_1_method_21_code 35 = .ok (.iload_n 1, 1) := by decide +kernel
theorem d_WC_type_36 : decode prog_1_method_21_code 36 = .ok (.invokevirtual 219, 3) := by decide +kernel
theorem d_WC_type_39 : decode prog_1_method_21_code 39 = .ok (.aload_n 0, 1) := by decide +kernel
theorem d_WC_type_40 : decode prog_1_method_21_code 40 = .ok (.getfield 58, 3) := by decide +kernel
theorem d_WC_type_43 : decode prog_1_method_21_code 43 = .ok (.invokevirtual 209, 3) := by decide +kernel
theorem d_WC_type_46 : decode prog_1_method_21_code 46 = .ok (.ireturn, 1) := by decide +kernel
theorem d_WC_clearText_0 : decode prog_1_method_22_code 0 = .ok (.aload_n 0, 1) := by decide +kernel
theorem d_WC_clearText_1 : decode prog_1_method_22_code 1 = .ok (.getfield 58, 3) := by decide +kernel
theorem d_WC_clearText_4 : decode prog_1_method_22_code 4 = .ok (.invokevirtual 209, 3) := by decide +kernel
theorem d_WC_clearText_7 : decode prog_1_method_22_code 7 = .ok (.istore_n 1, 1) := by decide +kernel
theorem d_WC_clearText_8 : decode prog_1_method_22_code 8 = .ok (.aload_n 0, 1) := by decide +kernel
theorem d_WC_clearText_9 : decode prog_1_method_22_code 9 = .ok (.getfield 58, 3) := by decide +kernel
theorem d_WC_clearText_12 : decode prog_1_method_22_code 12 = .ok (.invokevirtual 220, 3) := by decide +kernel
theorem d_WC_clearText_15 : decode prog_1_method_22_code 15 = .ok (.iload_n 1, 1) := by decide +kernel
theorem d_WC_clearText_16 : decode prog_1_method_22_code 16 = .ok (.ireturn, 1) := by decide +kernel
theorem d_WC_write_0 : decode prog_1_method_23_code 0 = .ok (.iload_n 1, 1) := by decide +kernel
theorem d_WC_write_1 : decode prog_1_method_23_code 1 = .ok (.invokestatic 151, 3) := by decide +kernel
theorem d_WC_write_4 : decode prog_1_method_23_code 4 = .ok (.ifCond .ne 7, 3) := by decide +kernel
theorem d_WC_write_7 : decode prog_1_method_23_code 7 = .ok (.sipush (-10001), 3) := by decide +kernel
theorem d_WC_write_10 : decode prog_1_method_23_code 10 = .ok (.ireturn, 1) := by decide +kernel
theorem d_WC_write_11 : decode prog_1_method_23_code 11 = .ok (.aload_n 0, 1) := by decide +kernel
theorem d_WC_write_12 : decode prog_1_method_23_code 12 = .ok (.getfield 44, 3) := by decide +kernel
theorem d_WC_write_15 : decode prog_1_method_23_code 15 = .ok (.invokevirtual 154, 3) := by decide +kernel
theorem d_WC_write_18 : decode prog_1_method_23_code 18 = .ok (.aload_n 0, 1) := by decide +kernel
theorem d_WC_write_19 : decode prog_1_method_23_code 19 = .ok (.getfield 44, 3) := by decide +kernel
theorem d_WC_write_22 : decode prog_1_method_23_code 22 = .ok (.iload_n 1, 1) := by decide +kernel
theorem d_WC_write_23 : decode prog_1_method_23_code 23 = .ok (.invokevirtual 157, 3) := by decide +kernel
theorem d_WC_write_26 : decode prog_1_method_23_code 26 = .ok (.aload_n 0, 1) := by decide +kernel
theorem d_WC_write_27 : decode prog_1_method_23_code 27 = .ok (.iload_n 1, 1) := by decide +kernel
theorem d_WC_write_28 : decode prog_1_method_23_code 28 = .ok (.invokevirtual 223, 3) := by decide +kernel
theorem d_WC_write_31 : decode prog_1_method_23_code 31 = .ok (.bipush 120, 2) := by decide +kernel
theorem d_WC_write_33 : decode prog_1_method_23_code 33 = .ok (.if_icmp .le 7, 3) := by decide +kernel
theorem d_WC_write_36 : decode prog_1_method_23_code 36 = .ok (.sipush (-10003), 3) := by decide +kernel
theorem d_WC_write_39 : decode prog_1_method_23_code 39 = .ok (.ireturn, 1) := by decide +kernel
theorem d_WC_write_40 : decode prog_1_method_23_code 40 = .ok (.aload_n 0, 1) := by decide +kernel
theorem d_WC_write_41 : decode prog_1_method_23_code 41 = .ok (.getfield 58, 3) := by decide +kernel
theorem d_WC_write_44 : decode prog_1_method_23_code 44 = .ok (.invokevirtual 220, 3) := by decide +kernel
theorem d_WC_write_47 : decode prog_1_method_23_code 47 = .ok (.iconst 0, 1) := by decide +kernel
theorem d_WC_write_48 : decode prog_1_method_23_code 48 = .ok (.istore_n 2, 1) := by decide +kernel
theorem d_WC_write_49 : decode prog_1_method_23_code 49 = .ok (.iload_n 2, 1) := by decide +kernel
theorem d_WC_write_50 : decode prog_1_method_23_code 50 = .ok (.aload_n 0, 1) := by decide +kernel
theorem d_WC_write_51 : decode prog_1_method_23_code 51 = .ok (.getfield 44, 3) := by decide +kernel
theorem d_WC_write_54 : decode prog_1_method_23_code 54 = .ok (.invokevirtual 160, 3) := by decide +kernel
theorem d_WC_write_57 : decode prog_1_method_23_code 57 = .ok (.if_icmp .ge 73, 3) := by decide +kernel
theorem d_WC_write_60 : decode prog_1_method_23_code 60 = .ok (.aload_n 0, 1) := by decide +kernel
theorem d_WC_write_61 : decode prog_1_method_23_code 61 = .ok (.getfield 44, 3) := by decide +kernel
theorem d_WC_write_64 : decode prog_1_method_23_code 64 = .ok (.iload_n 2, 1) := by decide +kernel
theorem d_WC_write_65 : decode prog_1_method_23_code 65 = .ok (.invokevirtual 163, 3) := by decide +kernel
theorem d_WC_write_68 : decode prog_1_method_23_code 68 = .ok (.istore_n 3, 1) := by decide +kernel
theorem d_WC_write_69 : decode prog_1_method_23_code 69 = .ok (.aload_n 0, 1) := by decide +kernel
theorem d_WC_write_70 : decode prog_1_method_23_code 70 = .ok (.getfield 44, 3) := by decide +kernel
theorem d_WC_write_73 : decode prog_1_method_23_code 73 = .ok (.iload_n 1, 1) := by decide +kernel
theorem d_WC_write_74 : decode prog_1_method_23_code 74 = .ok (.iload_n 3, 1) := by decide +kernel
theorem d_WC_write_75 : decode prog_1_method_23_code 75 = .ok (.invokevirtual 169, 3) := by decide +kernel
theorem d_WC_write_78 : decode prog_1_method_23_code 78 = .ok (.istore 4, 2) := by decide +kernel
theorem d_WC_write_80 : decode prog_1_method_23_code 80 = .ok (.iload 4, 2) := by decide +kernel
theorem d_WC_write_82 : decode prog_1_method_23_code 82 = .ok (.ifCond .ne 24, 3) := by decide +kernel
theorem d_WC_write_85 : decode prog_1_method_23_code 85 = .ok (.aload_n 0, 1) := by decide +kernel
theorem d_WC_write_86 : decode prog_1_method_23_code 86 = .ok (.getfield 58, 3) := by decide +kernel
theorem d_WC_write_89 : decode prog_1_method_23_code 89 = .ok (.bipush 97, 2) := by decide +kernel
theorem d_WC_write_91 : decode prog_1_method_23_code 91 = .ok (.aload_n 0, 1) := by decide +kernel
theorem d_WC_write_92 : decode prog_1_method_23_code 92 = .ok (.getfield 10, 3) := by decide +kernel
theorem d_WC_write_95 : decode prog_1_method_23_code 95 = .ok (.iload_n 3, 1) := by decide +kernel
theorem d_WC_write_96 : decode prog_1_method_23_code 96 = .ok (.invokevirtual 96, 3) := by decide +kernel
theorem d_WC_write_99 : decode prog_1_method_23_code 99 = .ok (.iadd, 1) := by decide +kernel
theorem d_WC_write_100 : decode prog_1_method_23_code 100 = .ok (.invokevirtual 219, 3) := by decide +kernel
theorem d_WC_write_103 : decode prog_1_method_23_code 103 = .ok (.goto 21, 3) := by decide +kernel
theorem d_WC_write_106 : decode prog_1_method_23_code 106 = .ok (.aload_n 0, 1) := by decide +kernel
theorem d_WC_write_107 : decode prog_1_method_23_code 107 = .ok (.getfield 58, 3) := by decide +kernel
theorem d_WC_write_110 : decode prog_1_method_23_code 110 = .ok (.iload 4, 2) := by decide +kernel
theorem d_WC_write_112 : decode prog_1_method_23_code 112 = .ok (.aload_n 0, 1) := by decide +kernel
theorem d_WC_write_113 : decode prog_1_method_23_code 113 = .ok (.getfield 44, 3) := by decide +kernel
theorem d_WC_write_116 : decode prog_1_method_23_code 116 = .ok (.iload_n 1, 1) := by decide +kernel
theorem d_WC_write_117 : decode prog_1_method_23_code 117 = .ok (.iload_n 3, 1) := by decide +kernel
theorem d_WC_write_118 : decode prog_1_method_23_code 118 = .ok (.invokevirtual 166, 3) := by decide +kernel
theorem d_WC_write_121 : decode prog_1_method_23_code 121 = .ok (.invokevirtual 226, 3) := by decide +kernel
theorem d_WC_write_124 : decode prog_1_method_23_code 124 = .ok (.iinc 2 1, 3) := by decide +kernel
theorem d_WC_write_127 : decode prog_1_method_23_code 127 = .ok (.goto (-78), 3) := by decide +kernel
theorem d_WC_write_130 : decode prog_1_method_23_code 130 = .ok (.aload_n 0, 1) := by decide +kernel
theorem d_WC_write_131 : decode prog_1_method_23_code 131 = .ok (.getfield 58, 3) := by decide +kernel
theorem d_WC_write_134 : decode prog_1_method_23_code 134 = .ok (.invokevirtual 209, 3) := by decide +kernel
theorem d_WC_write_137 : decode prog_1_method_23_code 137 = .ok (.ireturn, 1) := by decide +kernel
theorem d_WC_charactersOf_0 : decode prog_1_method_24_code 0 = .ok (.iconst 0, 1) := by decide +kernel
theorem d_WC_charactersOf_1 : decode prog_1_method_24_code 1 = .ok (.istore_n 2, 1) := by decide +kernel
theorem d_WC_charactersOf_2 : decode prog_1_method_24_code 2 = .ok (.iconst 0, 1) := by decide +kernel
theorem d_WC_charactersOf_3 : decode prog_1_method_24_code 3 = .ok (.istore_n 3, 1) := by decide +kernel
theorem d_WC_charactersOf_4 : decode prog_1_method_24_code 4 = .ok (.iload_n 3, 1) := by decide +kernel
theorem d_WC_charactersOf_5 : decode prog_1_method_24_code 5 = .ok (.aload_n 0, 1) := by decide +kernel
theorem d_WC_charactersOf_6 : decode prog_1_method_24_code 6 = .ok (.getfield 44, 3) := by decide +kernel
theorem d_WC_charactersOf_9 : decode prog_1_method_24_code 9 = .ok (.invokevirtual 160, 3) := by decide +kernel
theorem d_WC_charactersOf_12 : decode prog_1_method_24_code 12 = .ok (.if_icmp .ge 58, 3) := by decide +kernel
theorem d_WC_charactersOf_15 : decode prog_1_method_24_code 15 = .ok (.aload_n 0, 1) := by decide +kernel
theorem d_WC_charactersOf_16 : decode prog_1_method_24_code 16 = .ok (.getfield 44, 3) := by decide +kernel
theorem d_WC_charactersOf_19 : decode prog_1_method_24_code 19 = .ok (.iload_n 3, 1) := by decide +kernel
theorem d_WC_charactersOf_20 : decode prog_1_method_24_code 20 = .ok (.invokevirtual 163, 3) := by decide +kernel
theorem d_WC_charactersOf_23 : decode prog_1_method_24_code 23 = .ok (.istore 4, 2) := by decide +kernel
theorem d_WC_charactersOf_25 : decode prog_1_method_24_code 25 = .ok (.aload_n 0, 1) := by decide +kernel
theorem d_WC_charactersOf_26 : decode prog_1_method_24_code 26 = .ok (.getfield 44, 3) := by decide +kernel
theorem d_WC_charactersOf_29 : decode prog_1_method_24_code 29 = .ok (.iload_n 1, 1) := by decide +kernel
theorem d_WC_charactersOf_30 : decode prog_1_method_24_code 30 = .ok (.iload 4, 2) := by decide +kernel
theorem d_WC_charactersOf_32 : decode prog_1_method_24_code 32 = .ok (.invokevirtual 169, 3) := by decide +kernel
theorem d_WC_charactersOf_35 : decode prog_1_method_24_code 35 = .ok (.istore 5, 2) := by decide +kernel
theorem d_WC_charactersOf_37 : decode prog_1_method_24_code 37 = .ok (.iload_n 2, 1) := by decide +kernel
theorem d_WC_charactersOf_38 : decode prog_1_method_24_code 38 = .ok (.iload 5, 2) := by decide +kernel
theorem d_WC_charactersOf_40 : decode prog_1_method_24_code 40 = .ok (.ifCond .ne 7, 3) := by decide +kernel
theorem d_WC_charactersOf_43 : decode prog_1_method_24_code 43 = .ok (.iconst 1, 1) := by decide +kernel
theorem d_WC_charactersOf_44 : decode prog_1_method_24_code 44 = .ok (.goto 18, 3) := by decide +kernel
theorem d_WC_charactersOf_47 : decode prog_1_method_24_code 47 = .ok (.iload 5, 2) := by decide +kernel
theorem d_WC_charactersOf_49 : decode prog_1_method_24_code 49 = .ok (.aload_n 0, 1) := by decide +kernel
theorem d_WC_charactersOf_50 : decode prog_1_method_24_code 50 = .ok (.getfield 44, 3) := by decide +kernel
theorem d_WC_charactersOf_53 : decode prog_1_method_24_code 53 = .ok (.iload_n 1, 1) := by decide +kernel
theorem d_WC_charactersOf_54 : decode prog_1_method_24_code 54 = .ok (.iload 4, 2) := by decide +kernel
theorem d_WC_charactersOf_56 : decode prog_1_method_24_code 56 = .ok (.invokevirtual 166, 3) := by decide +kernel
theorem d_WC_charactersOf_59 : decode prog_1_method_24_code 59 = .ok (.invokestatic 229, 3) := by decide +kernel
theorem d_WC_charactersOf_62 : decode prog_1_method_24_code 62 = .ok (.iadd, 1) := by decide +kernel
theorem d_WC_charactersOf_63 : decode prog_1_method_24_code 63 = .ok (.istore_n 2, 1) := by decide +kernel
theorem d_WC_charactersOf_64 : decode prog_1_method_24_code 64 = .ok (.iinc 3 1, 3) := by decide +kernel
theorem d_WC_charactersOf_67 : decode prog_1_method_24_code 67 = .ok (.goto (-63), 3) := by decide +kernel
theorem d_WC_charactersOf_70 : decode prog_1_method_24_code 70 = .ok (.iload_n 2, 1) := by decide +kernel
theorem d_WC_charactersOf_71 : decode prog_1_method_24_code 71 = .ok (.ireturn, 1) := by decide +kernel
theorem d_WC_fault_0 : decode prog_1_method_25_code 0 = .ok (.iload_n 1, 1) := by decide +kernel
theorem d_WC_fault_1 : decode prog_1_method_25_code 1 = .ok (.iconst 0, 1) := by decide +kernel
theorem d_WC_fault_2 : decode prog_1_method_25_code 2 = .ok (.iconst 1, 1) := by decide +kernel
theorem d_WC_fault_3 : decode prog_1_method_25_code 3 = .ok (.invokestatic 86, 3) := by decide +kernel
theorem d_WC_fault_6 : decode prog_1_method_25_code 6 = .ok (.ifCond .ne 7, 3) := by decide +kernel
theorem d_WC_fault_9 : decode prog_1_method_25_code 9 = .ok (.sipush (-10001), 3) := by decide +kernel
theorem d_WC_fault_12 : decode prog_1_method_25_code 12 = .ok (.ireturn, 1) := by decide +kernel
theorem d_WC_fault_13 : decode prog_1_method_25_code 13 = .ok (.aload_n 0, 1) := by decide +kernel
theorem d_WC_fault_14 : decode prog_1_method_25_code 14 = .ok (.getfield 67, 3) := by decide +kernel
theorem d_WC_fault_17 : decode prog_1_method_25_code 17 = .ok (.invokevirtual 232, 3) := by decide +kernel
theorem d_WC_fault_20 : decode prog_1_method_25_code 20 = .ok (.aload_n 0, 1) := by decide +kernel
theorem d_WC_fault_21 : decode prog_1_method_25_code 21 = .ok (.getfield 67, 3) := by decide +kernel
theorem d_WC_fault_24 : decode prog_1_method_25_code 24 = .ok (.invokevirtual 235, 3) := by decide +kernel
theorem d_WC_fault_27 : decode prog_1_method_25_code 27 = .ok (.ifCond .ne 7, 3) := by decide +kernel
theorem d_WC_fault_30 : decode prog_1_method_25_code 30 = .ok (.sipush (-10004), 3) := by decide +kernel
theorem d_WC_fault_33 : decode prog_1_method_25_code 33 = .ok (.ireturn, 1) := by decide +kernel
theorem d_WC_fault_34 : decode prog_1_method_25_code 34 = .ok (.iload_n 1, 1) := by decide +kernel
theorem d_WC_fault_35 : decode prog_1_method_25_code 35 = .ok (.ifCond .ne 13, 3) := by decide +kernel
theorem d_WC_fault_38 : decode prog_1_method_25_code 38 = .ok (.aload_n 0, 1) := by decide +kernel
theorem d_WC_fault_39 : decode prog_1_method_25_code 39 = .ok (.getfield 67, 3) := by decide +kernel
theorem d_WC_fault_42 : decode prog_1_method_25_code 42 = .ok (.invokevirtual 239, 3) := by decide +kernel
theorem d_WC_fault_45 : decode prog_1_method_25_code 45 = .ok (.goto 10, 3) := by decide +kernel
theorem d_WC_fault_48 : decode prog_1_method_25_code 48 = .ok (.aload_n 0, 1) := by decide +kernel
theorem d_WC_fault_49 : decode prog_1_method_25_code 49 = .ok (.getfield 67, 3) := by decide +kernel
theorem d_WC_fault_52 : decode prog_1_method_25_code 52 = .ok (.invokevirtual 242, 3) := by decide +kernel
theorem d_WC_fault_55 : decode prog_1_method_25_code 55 = .ok (.ireturn, 1) := by decide +kernel
theorem d_WC_read_0 : decode prog_1_method_26_code 0 = .ok (.aload_n 0, 1) := by decide +kernel
theorem d_WC_read_1 : decode prog_1_method_26_code 1 = .ok (.getfield 67, 3) := by decide +kernel
theorem d_WC_read_4 : decode prog_1_method_26_code 4 = .ok (.invokevirtual 232, 3) := by decide +kernel
theorem d_WC_read_7 : decode prog_1_method_26_code 7 = .ok (.aload_n 0, 1) := by decide +kernel
theorem d_WC_read_8 : decode prog_1_method_26_code 8 = .ok (.getfield 67, 3) := by decide +kernel
theorem d_WC_read_11 : decode prog_1_method_26_code 11 = .ok (.invokevirtual 235, 3) := by decide +kernel
theorem d_WC_read_14 : decode prog_1_method_26_code 14 = .ok (.ifCond .eq 7, 3) := by decide +kernel
theorem d_WC_read_17 : decode prog_1_method_26_code 17 = .ok (.sipush (-10002), 3) := by decide +kernel
theorem d_WC_read_20 : decode prog_1_method_26_code 20 = .ok (.ireturn, 1) := by decide +kernel
theorem d_WC_read_21 : decode prog_1_method_26_code 21 = .ok (.aload_n 0, 1) := by decide +kernel
theorem d_WC_read_22 : decode prog_1_method_26_code 22 = .ok (.getfield 26, 3) := by decide +kernel
theorem d_WC_read_25 : decode prog_1_method_26_code 25 = .ok (.aload_n 0, 1) := by decide +kernel
theorem d_WC_read_26 : decode prog_1_method_26_code 26 = .ok (.getfield 10, 3) := by decide +kernel
theorem d_WC_read_29 : decode prog_1_method_26_code 29 = .ok (.invokevirtual 79, 3) := by decide +kernel
theorem d_WC_read_32 : decode prog_1_method_26_code 32 = .ok (.aload_n 0, 1) := by decide +kernel
theorem d_WC_read_33 : decode prog_1_method_26_code 33 = .ok (.getfield 10, 3) := by decide +kernel
theorem d_WC_read_36 : decode prog_1_method_26_code 36 = .ok (.aload_n 0, 1) := by decide +kernel
theorem d_WC_read_37 : decode prog_1_method_26_code 37 = .ok (.getfield 67, 3) := by decide +kernel
theorem d_WC_read_40 : decode prog_1_method_26_code 40 = .ok (.invokevirtual 245, 3) := by decide +kernel
theorem d_WC_read_43 : decode prog_1_method_26_code 43 = .ok (.invokevirtual 249, 3) := by decide +kernel
theorem d_WC_read_46 : decode prog_1_method_26_code 46 = .ok (.aload_n 0, 1) := by decide +kernel
theorem d_WC_read_47 : decode prog_1_method_26_code 47 = .ok (.getfield 10, 3) := by decide +kernel
theorem d_WC_read_50 : decode prog_1_method_26_code 50 = .ok (.invokevirtual 75, 3) := by decide +kernel
theorem d_WC_read_53 : decode prog_1_method_26_code 53 = .ok (.ireturn, 1) := by decide +kernel
theorem d_WC_isIn_0 : decode prog_1_method_27_code 0 = .ok (.iload_n 0, 1) := by decide +kernel
theorem d_WC_isIn_1 : decode prog_1_method_27_code 1 = .ok (.iload_n 1, 1) := by decide +kernel
theorem d_WC_isIn_2 : decode prog_1_method_27_code 2 = .ok (.if_icmp .lt 12, 3) := by decide +kernel
theorem d_WC_isIn_5 : decode prog_1_method_27_code 5 = .ok (.iload_n 0, 1) := by decide +kernel
theorem d_WC_isIn_6 : decode prog_1_method_27_code 6 = .ok (.iload_n 2, 1) := by decide +kernel
theorem d_WC_isIn_7 : decode prog_1_method_27_code 7 = .ok (.if_icmp .gt 7, 3) := by decide +kernel
theorem d_WC_isIn_10 : decode prog_1_method_27_code 10 = .ok (.iconst 1, 1) := by decide +kernel
theorem d_WC_isIn_11 : decode prog_1_method_27_code 11 = .ok (.goto 4, 3) := by decide +kernel
theorem d_WC_isIn_14 : decode prog_1_method_27_code 14 = .ok (.iconst 0, 1) := by decide +kernel
theorem d_WC_isIn_15 : decode prog_1_method_27_code 15 = .ok (.ireturn, 1) := by decide +kernel
theorem d_WC_isLetter_0 : decode prog_1_method_28_code 0 = .ok (.iload_n 0, 1) := by decide +kernel
theorem d_WC_isLetter_1 : decode prog_1_method_28_code 1 = .ok (.iconst 0, 1) := by decide +kernel
theorem d_WC_isLetter_2 : decode prog_1_method_28_code 2 = .ok (.bipush 7, 2) := by decide +kernel
theorem d_WC_isLetter_4 : decode prog_1_method_28_code 4 = .ok (.invokestatic 86, 3) := by decide +kernel
theorem d_WC_isLetter_7 : decode prog_1_method_28_code 7 = .ok (.ireturn, 1) := by decide +kernel
theorem d_WC_isWay_0 : decode prog_1_method_29_code 0 = .ok (.iload_n 0, 1) := by decide +kernel
theorem d_WC_isWay_1 : decode prog_1_method_29_code 1 = .ok (.iconst 0, 1) := by decide +kernel
theorem d_WC_isWay_2 : decode prog_1_method_29_code 2 = .ok (.iconst 2, 1) := by decide +kernel
theorem d_WC_isWay_3 : decode prog_1_method_29_code 3 = .ok (.invokestatic 86, 3) := by decide +kernel
theorem d_WC_isWay_6 : decode prog_1_method_29_code 6 = .ok (.ireturn, 1) := by decide +kernel
theorem d_WC_at_0 : decode prog_1_method_30_code 0 = .ok (.iload_n 1, 1) := by decide +kernel
theorem d_WC_at_1 : decode prog_1_method_30_code 1 = .ok (.ifCond .lt 15, 3) := by decide +kernel
theorem d_WC_at_4 : decode prog_1_method_30_code 4 = .ok (.iload_n 1, 1) := by decide +kernel
theorem d_WC_at_5 : decode prog_1_method_30_code 5 = .ok (.aload_n 0, 1) := by decide +kernel
theorem d_WC_at_6 : decode prog_1_method_30_code 6 = .ok (.arraylength, 1) := by decide +kernel
theorem d_WC_at_7 : decode prog_1_method_30_code 7 = .ok (.if_icmp .ge 9, 3) := by decide +kernel
theorem d_WC_at_10 : decode prog_1_method_30_code 10 = .ok (.aload_n 0, 1) := by decide +kernel
theorem d_WC_at_11 : decode prog_1_method_30_code 11 = .ok (.iload_n 1, 1) := by decide +kernel
theorem d_WC_at_12 : decode prog_1_method_30_code 12 = .ok (.iaload, 1) := by decide +kernel
theorem d_WC_at_13 : decode prog_1_method_30_code 13 = .ok (.goto 4, 3) := by decide +kernel
theorem d_WC_at_16 : decode prog_1_method_30_code 16 = .ok (.iconst (-1), 1) := by decide +kernel
theorem d_WC_at_17 : decode prog_1_method_30_code 17 = .ok (.ireturn, 1) := by decide +kernel
theorem d_WC_store_0 : decode prog_1_method_31_code 0 = .ok (.iload_n 1, 1) := by decide +kernel
theorem d_WC_store_1 : decode prog_1_method_31_code 1 = .ok (.ifCond .lt 13, 3) := by decide +kernel
theorem d_WC_store_4 : decode prog_1_method_31_code 4 = .ok (.iload_n 1, 1) := by decide +kernel
theorem d_WC_store_5 : decode prog_1_method_31_code 5 = .ok (.aload_n 0, 1) := by decide +kernel
theorem d_WC_store_6 : decode prog_1_method_31_code 6 = .ok (.arraylength, 1) := by decide +kernel
theorem d_WC_store_7 : decode prog_1_method_31_code 7 = .ok (.if_icmp .ge 7, 3) := by decide +kernel
theorem d_WC_store_10 : decode prog_1_method_31_code 10 = .ok (.aload_n 0, 1) := by decide +kernel
theorem d_WC_store_11 : decode prog_1_method_31_code 11 = .ok (.iload_n 1, 1) := by decide +kernel
theorem d_WC_store_12 : decode prog_1_method_31_code 12 = .ok (.iload_n 2, 1) := by decide +kernel
theorem d_WC_store_13 : decode prog_1_method_31_code 13 = .ok (.iastore, 1) := by decide +kernel
theorem d_WC_store_14 : decode prog_1_method_31_code 14 = .ok (.return_, 1) := by decide +kernel
theorem d_Mo_init_0 : decode prog_10_method_1_code 0 = .ok (.aload_n 0, 1) := by decide +kernel
theorem d_Mo_init_1 : decode prog_10_method_1_code 1 = .ok (.invokespecial 1, 3) := by decide +kernel
theorem d_Mo_init_4 : decode prog_10_method_1_code 4 = .ok (.aload_n 0, 1) := by decide +kernel
theorem d_Mo_init_5 : decode prog_10_method_1_code 5 = .ok (.bipush 66, 2) := by decide +kernel
theorem d_Mo_init_7 : decode prog_10_method_1_code 7 = .ok (.newarray .int, 2) := by decide +kernel
theorem d_Mo_init_9 : decode prog_10_method_1_code 9 = .ok (.putfield 7, 3) := by decide +kernel
theorem d_Mo_init_12 : decode prog_10_method_1_code 12 = .ok (.aload_n 0, 1) := by decide +kernel
theorem d_Mo_init_13 : decode prog_10_method_1_code 13 = .ok (.sipush 264, 3) := by decide +kernel
theorem d_Mo_init_16 : decode prog_10_method_1_code 16 = .ok (.newarray .int, 2) := by decide +kernel
theorem d_Mo_init_18 : decode prog_10_method_1_code 18 = .ok (.putfield 13, 3) := by decide +kernel
theorem d_Mo_init_21 : decode prog_10_method_1_code 21 = .ok (.aload_n 0, 1) := by decide +kernel
theorem d_Mo_init_22 : decode prog_10_method_1_code 22 = .ok (.bipush 66, 2) := by decide +kernel
theorem d_Mo_init_24 : decode prog_10_method_1_code 24 = .ok (.newarray .int, 2) := by decide +kernel
theorem d_Mo_init_26 : decode prog_10_method_1_code 26 = .ok (.putfield 16, 3) := by decide +kernel
theorem d_Mo_init_29 : decode prog_10_method_1_code 29 = .ok (.aload_n 0, 1) := by decide +kernel
theorem d_Mo_init_30 : decode prog_10_method_1_code 30 = .ok (.bipush 120, 2) := by decide +kernel
theorem d_Mo_init_32 : decode prog_10_method_1_code 32 = .ok (.newarray .int, 2) := by decide +kernel
theorem d_Mo_init_34 : decode prog_10_method_1_code 34 = .ok (.putfield 19, 3) := by decide +kernel
theorem d_Mo_init_37 : decode prog_10_method_1_code 37 = .ok (.aload_n 0, 1) := by decide +kernel
theorem d_Mo_init_38 : decode prog_10_method_1_code 38 = .ok (.bipush 60, 2) := by decide +kernel
theorem d_Mo_init_40 : decode prog_10_method_1_code 40 = .ok (.newarray .int, 2) := by decide +kernel
theorem d_Mo_init_42 : decode prog_10_method_1_code 42 = .ok (.putfield 22, 3) := by decide +kernel
theorem d_Mo_init_45 : decode prog_10_method_1_code 45 = .ok (.aload_n 0, 1) := by decide +kernel
theorem d_Mo_init_46 : decode prog_10_method_1_code 46 = .ok (.bipush 60, 2) := by decide +kernel
theorem d_Mo_init_48 : decode prog_10_method_1_code 48 = .ok (.newarray .int, 2) := by decide +kernel
theorem d_Mo_init_50 : decode prog_10_method_1_code 50 = .ok (.putfield 25, 3) := by decide +kernel
theorem d_Mo_init_53 : decode prog_10_method_1_code 53 = .ok (.aload_n 0, 1) := by decide +kernel
theorem d_Mo_init_54 : decode prog_10_method_1_code 54 = .ok (.bipush 60, 2) := by decide +kernel
theorem d_Mo_init_56 : decode prog_10_method_1_code 56 = .ok (.newarray .int, 2) := by decide +kernel
theorem d_Mo_init_58 : decode prog_10_method_1_code 58 = .ok (.putfield 28, 3) := by decide +kernel
theorem d_Mo_init_61 : decode prog_10_method_1_code 61 = .ok (.aload_n 0, 1) := by decide +kernel
theorem d_Mo_init_62 : decode prog_10_method_1_code 62 = .ok (.bipush 61, 2) := by decide +kernel
theorem d_Mo_init_64 : decode prog_10_method_1_code 64 = .ok (.newarray .int, 2) := by decide +kernel
theorem d_Mo_init_66 : decode prog_10_method_1_code 66 = .ok (.putfield 31, 3) := by decide +kernel
theorem d_Mo_init_69 : decode prog_10_method_1_code 69 = .ok (.aload_n 0, 1) := by decide +kernel
theorem d_Mo_init_70 : decode prog_10_method_1_code 70 = .ok (.bipush 60, 2) := by decide +kernel
theorem d_Mo_init_72 : decode prog_10_method_1_code 72 = .ok (.newarray .int, 2) := by decide +kernel
theorem d_Mo_init_74 : decode prog_10_method_1_code 74 = .ok (.putfield 34, 3) := by decide +kernel
theorem d_Mo_init_77 : decode prog_10_method_1_code 77 = .ok (.aload_n 0, 1) := by decide +kernel
theorem d_Mo_init_78 : decode prog_10_method_1_code 78 = .ok (.bipush 60, 2) := by decide +kernel
theorem d_Mo_init_80 : decode prog_10_method_1_code 80 = .ok (.newarray .int, 2) := by decide +kernel
theorem d_Mo_init_82 : decode prog_10_method_1_code 82 = .ok (.putfield 37, 3) := by decide +kernel
theorem d_Mo_init_85 : decode prog_10_method_1_code 85 = .ok (.aload_n 0, 1) := by decide +kernel
theorem d_Mo_init_86 : decode prog_10_method_1_code 86 = .ok (.bipush 60, 2) := by decide +kernel
theorem d_Mo_init_88 : decode prog_10_method_1_code 88 = .ok (.newarray .int, 2) := by decide +kernel
theorem d_Mo_init_90 : decode prog_10_method_1_code 90 = .ok (.putfield 40, 3) := by decide +kernel
theorem d_Mo_init_93 : decode prog_10_method_1_code 93 = .ok (.aload_n 0, 1) := by decide +kernel
theorem d_Mo_init_94 : decode prog_10_method_1_code 94 = .ok (.bipush 60, 2) := by decide +kernel
theorem d_Mo_init_96 : decode prog_10_method_1_code 96 = .ok (.newarray .int, 2) := by decide +kernel
theorem d_Mo_init_98 : decode prog_10_method_1_code 98 = .ok (.putfield 43, 3) := by decide +kernel
theorem d_Mo_init_101 : decode prog_10_method_1_code 101 = .ok (.aload_n 0, 1) := by decide +kernel
theorem d_Mo_init_102 : decode prog_10_method_1_code 102 = .ok (.bipush 60, 2) := by decide +kernel
theorem d_Mo_init_104 : decode prog_10_method_1_code 104 = .ok (.newarray .int, 2) := by decide +kernel
theorem d_Mo_init_106 : decode prog_10_method_1_code 106 = .ok (.putfield 46, 3) := by decide +kernel
theorem d_Mo_init_109 : decode prog_10_method_1_code 109 = .ok (.aload_n 0, 1) := by decide +kernel
theorem d_Mo_init_110 : decode prog_10_method_1_code 110 = .ok (.getfield 7, 3) := by decide +kernel
theorem d_Mo_init_113 : decode prog_10_method_1_code 113 = .ok (.iconst 1, 1) := by decide +kernel
theorem d_Mo_init_114 : decode prog_10_method_1_code 114 = .ok (.bipush 20, 2) := by decide +kernel
theorem d_Mo_init_116 : decode prog_10_method_1_code 116 = .ok (.iastore, 1) := by decide +kernel
theorem d_Mo_init_117 : decode prog_10_method_1_code 117 = .ok (.aload_n 0, 1) := by decide +kernel
theorem d_Mo_init_118 : decode prog_10_method_1_code 118 = .ok (.getfield 7, 3) := by decide +kernel
theorem d_Mo_init_121 : decode prog_10_method_1_code 121 = .ok (.iconst 2, 1) := by decide +kernel
theorem d_Mo_init_122 : decode prog_10_method_1_code 122 = .ok (.iconst 3, 1) := by decide +kernel
theorem d_Mo_init_123 : decode prog_10_method_1_code 123 = .ok (.iastore, 1) := by decide +kernel
theorem d_Mo_init_124 : decode prog_10_method_1_code 124 = .ok (.aload_n 0, 1) := by decide +kernel
theorem d_Mo_init_125 : decode prog_10_method_1_code 125 = .ok (.getfield 7, 3) := by decide +kernel
theorem d_Mo_init_128 : decode prog_10_method_1_code 128 = .ok (.iconst 3, 1) := by decide +kernel
theorem d_Mo_init_129 : decode prog_10_method_1_code 129 = .ok (.bipush 8, 2) := by decide +kernel
theorem d_Mo_init_131 : decode prog_10_method_1_code 131 = .ok (.iastore, 1) := by decide +kernel
theorem d_Mo_init_132 : decode prog_10_method_1_code 132 = .ok (.aload_n 0, 1) := by decide +kernel
theorem d_Mo_init_133 : decode prog_10_method_1_code 133 = .ok (.getfield 7, 3) := by decide +kernel
theorem d_Mo_init_136 : decode prog_10_method_1_code 136 = .ok (.iconst 4, 1) := by decide +kernel
theorem d_Mo_init_137 : decode prog_10_method_1_code 137 = .ok (.bipush 8, 2) := by decide +kernel
theorem d_Mo_init_139 : decode prog_10_method_1_code 139 = .ok (.iastore, 1) := by decide +kernel
theorem d_Mo_init_140 : decode prog_10_method_1_code 140 = .ok (.aload_n 0, 1) := by decide +kernel
theorem d_Mo_init_141 : decode prog_10_method_1_code 141 = .ok (.getfield 7, 3) := by decide +kernel
theorem d_Mo_init_144 : decode prog_10_method_1_code 144 = .ok (.iconst 5, 1) := by decide +kernel
theorem d_Mo_init_145 : decode prog_10_method_1_code 145 = .ok (.bipush 18, 2) := by decide +kernel
theorem d_Mo_init_147 : decode prog_10_method_1_code 147 = .ok (.iastore, 1) := by decide +kernel
theorem d_Mo_init_148 : decode prog_10_method_1_code 148 = .ok (.return_, 1) := by decide +kernel
theorem d_Mo_in_0 : decode prog_10_method_3_code 0 = .ok (.iload_n 0, 1) := by decide +kernel
theorem d_Mo_in_1 : decode prog_10_method_3_code 1 = .ok (.iload_n 1, 1) := by decide +kernel
theorem d_Mo_in_2 : decode prog_10_method_3_code 2 = .ok (.if_icmp .lt 12, 3) := by decide +kernel
theorem d_Mo_in_5 : decode prog_10_method_3_code 5 = .ok (.iload_n 0, 1) := by decide +kernel
theorem d_Mo_in_6 : decode prog_10_method_3_code 6 = .ok (.iload_n 2, 1) := by decide +kernel
theorem d_Mo_in_7 : decode prog_10_method_3_code 7 = .ok (.if_icmp .gt 7, 3) := by decide +kernel
theorem d_Mo_in_10 : decode prog_10_method_3_code 10 = .ok (.iconst 1, 1) := by decide +kernel
theorem d_Mo_in_11 : decode prog_10_method_3_code 11 = .ok (.goto 4, 3) := by decide +kernel
theorem d_Mo_in_14 : decode prog_10_method_3_code 14 = .ok (.iconst 0, 1) := by decide +kernel
theorem d_Mo_in_15 : decode prog_10_method_3_code 15 = .ok (.ireturn, 1) := by decide +kernel
theorem d_Mo_copies_0 : decode prog_10_method_4_code 0 = .ok (.iconst 0, 1) := by decide +kernel
theorem d_Mo_copies_1 : decode prog_10_method_4_code 1 = .ok (.istore_n 2, 1) := by decide +kernel
theorem d_Mo_copies_2 : decode prog_10_method_4_code 2 = .ok (.iload_n 2, 1) := by decide +kernel
theorem d_Mo_copies_3 : decode prog_10_method_4_code 3 = .ok (.bipush 66, 2) := by decide +kernel
theorem d_Mo_copies_5 : decode prog_10_method_4_code 5 = .ok (.if_icmp .ge 15, 3) := by decide +kernel
theorem d_Mo_copies_8 : decode prog_10_method_4_code 8 = .ok (.aload_n 1, 1) := by decide +kernel
theorem d_Mo_copies_9 : decode prog_10_method_4_code 9 = .ok (.iload_n 2, 1) := by decide +kernel
theorem d_Mo_copies_10 : decode prog_10_method_4_code 10 = .ok (.aload_n 0, 1) := by decide +kernel
theorem d_Mo_copies_11 : decode prog_10_method_4_code 11 = .ok (.iload_n 2, 1) := by decide +kernel
theorem d_Mo_copies_12 : decode prog_10_method_4_code 12 = .ok (.iaload, 1) := by decide +kernel
theorem d_Mo_copies_13 : decode prog_10_method_4_code 13 = .ok (.iastore, 1) := by decide +kernel
theorem d_Mo_copies_14 : decode prog_10_method_4_code 14 = .ok (.iinc 2 1, 3) := by decide +kernel
theorem d_Mo_copies_17 : decode prog_10_method_4_code 17 = .ok (.goto (-15), 3) := by decide +kernel
theorem d_Mo_copies_20 : decode prog_10_method_4_code 20 = .ok (.return_, 1) := by decide +kernel
theorem d_Mo_changes_0 : decode prog_10_method_5_code 0 = .ok (.aload_n 0, 1) := by decide +kernel
theorem d_Mo_changes_1 : decode prog_10_method_5_code 1 = .ok (.getfield 49, 3) := by decide +kernel
theorem d_Mo_changes_4 : decode prog_10_method_5_code 4 = .ok (.iconst 4, 1) := by decide +kernel
theorem d_Mo_changes_5 : decode prog_10_method_5_code 5 = .ok (.if_icmp .ne 43, 3) := by decide +kernel
theorem d_Mo_changes_8 : decode prog_10_method_5_code 8 = .ok (.iconst 0, 1) := by decide +kernel
theorem d_Mo_changes_9 : decode prog_10_method_5_code 9 = .ok (.istore_n 1, 1) := by decide +kernel
theorem d_Mo_changes_10 : decode prog_10_method_5_code 10 = .ok (.iload_n 1, 1) := by decide +kernel
theorem d_Mo_changes_11 : decode prog_10_method_5_code 11 = .ok (.sipush 198, 3) := by decide +kernel
theorem d_Mo_changes_14 : decode prog_10_method_5_code 14 = .ok (.if_icmp .ge 24, 3) := by decide +kernel
theorem d_Mo_changes_17 : decode prog_10_method_5_code 17 = .ok (.aload_n 0, 1) := by decide +kernel
theorem d_Mo_changes_18 : decode prog_10_method_5_code 18 = .ok (.getfield 13, 3) := by decide +kernel
theorem d_Mo_changes_21 : decode prog_10_method_5_code 21 = .ok (.iload_n 1, 1) := by decide +kernel
theorem d_Mo_changes_22 : decode prog_10_method_5_code 22 = .ok (.aload_n 0, 1) := by decide +kernel
theorem d_Mo_changes_23 : decode prog_10_method_5_code 23 = .ok (.getfield 13, 3) := by decide +kernel
theorem d_Mo_changes_26 : decode prog_10_method_5_code 26 = .ok (.iload_n 1, 1) := by decide +kernel
theorem d_Mo_changes_27 : decode prog_10_method_5_code 27 = .ok (.bipush 66, 2) := by decide +kernel
theorem d_Mo_changes_29 : decode prog_10_method_5_code 29 = .ok (.iadd, 1) := by decide +kernel
theorem d_Mo_changes_30 : decode prog_10_method_5_code 30 = .ok (.iaload, 1) := by decide +kernel
theorem d_Mo_changes_31 : decode prog_10_method_5_code 31 = .ok (.iastore, 1) := by decide +kernel
theorem d_Mo_changes_32 : decode prog_10_method_5_code 32 = .ok (.iinc 1 1, 3) := by decide +kernel
theorem d_Mo_changes_35 : decode prog_10_method_5_code 35 = .ok (.goto (-25), 3) := by decide +kernel
theorem d_Mo_changes_38 : decode prog_10_method_5_code 38 = .ok (.aload_n 0, 1) := by decide +kernel
theorem d_Mo_changes_39 : decode prog_10_method_5_code 39 = .ok (.dup, 1) := by decide +kernel
theorem d_Mo_changes_40 : decode prog_10_method_5_code 40 = .ok (.getfield 49, 3) := by decide +kernel
theorem d_Mo_changes_43 : decode prog_10_method_5_code 43 = .ok (.iconst 1, 1) := by decide +kernel
theorem d_Mo_changes_44 : decode prog_10_method_5_code 44 = .ok (.isub, 1) := by decide +kernel
theorem d_Mo_changes_45 : decode prog_10_method_5_code 45 = .ok (.putfield 49, 3) := by decide +kernel
theorem d_Mo_changes_48 : decode prog_10_method_5_code 48 = .ok (.iconst 0, 1) := by decide +kernel
theorem d_Mo_changes_49 : decode prog_10_method_5_code 49 = .ok (.istore_n 1, 1) := by decide +kernel
theorem d_Mo_changes_50 : decode prog_10_method_5_code 50 = .ok (.iload_n 1, 1) := by decide +kernel
theorem d_Mo_changes_51 : decode prog_10_method_5_code 51 = .ok (.bipush 66, 2) := by decide +kernel
theorem d_Mo_changes_53 : decode prog_10_method_5_code 53 = .ok (.if_icmp .ge 29, 3) := by decide +kernel
theorem d_Mo_changes_56 : decode prog_10_method_5_code 56 = .ok (.aload_n 0, 1) := by decide +kernel
theorem d_Mo_changes_57 : decode prog_10_method_5_code 57 = .ok (.getfield 13, 3) := by decide +kernel
theorem d_Mo_changes_60 : decode prog_10_method_5_code 60 = .ok (.bipush 66, 2) := by decide +kernel
theorem d_Mo_changes_62 : decode prog_10_method_5_code 62 = .ok (.aload_n 0, 1) := by decide +kernel
theorem d_Mo_changes_63 : decode prog_10_method_5_code 63 = .ok (.getfield 49, 3) := by decide +kernel
theorem d_Mo_changes_66 : decode prog_10_method_5_code 66 = .ok (.imul, 1) := by decide +kernel
theorem d_Mo_changes_67 : decode prog_10_method_5_code 67 = .ok (.iload_n 1, 1) := by decide +kernel
theorem d_Mo_changes_68 : decode prog_10_method_5_code 68 = .ok (.iadd, 1) := by decide +kernel
theorem d_Mo_changes_69 : decode prog_10_method_5_code 69 = .ok (.aload_n 0, 1) := by decide +kernel
theorem d_Mo_changes_70 : decode prog_10_method_5_code 70 = .ok (.getfield 7, 3) := by decide +kernel
theorem d_Mo_changes_73 : decode prog_10_method_5_code 73 = .ok (.iload_n 1, 1) := by decide +kernel
theorem d_Mo_changes_74 : decode prog_10_method_5_code 74 = .ok (.iaload, 1) := by decide +kernel
theorem d_Mo_changes_75 : decode prog_10_method_5_code 75 = .ok (.iastore, 1) := by decide +kernel
theorem d_Mo_changes_76 : decode prog_10_method_5_code 76 = .ok (.iinc 1 1, 3) := by decide +kernel
theorem d_Mo_changes_79 : decode prog_10_method_5_code 79 = .ok (.goto (-29), 3) := by decide +kernel
theorem d_Mo_changes_82 : decode prog_10_method_5_code 82 = .ok (.aload_n 0, 1) := by decide +kernel
theorem d_Mo_changes_83 : decode prog_10_method_5_code 83 = .ok (.dup, 1) := by decide +kernel
theorem d_Mo_changes_84 : decode prog_10_method_5_code 84 = .ok (.getfield 49, 3) := by decide +kernel
theorem d_Mo_changes_87 : decode prog_10_method_5_code 87 = .ok (.iconst 1, 1) := by decide +kernel
theorem d_Mo_changes_88 : decode prog_10_method_5_code 88 = .ok (.iadd, 1) := by decide +kernel
theorem d_Mo_changes_89 : decode prog_10_method_5_code 89 = .ok (.putfield 49, 3) := by decide +kernel
theorem d_Mo_changes_92 : decode prog_10_method_5_code 92 = .ok (.return_, 1) := by decide +kernel
theorem d_Mo_isPlace_0 : decode prog_10_method_6_code 0 = .ok (.iload_n 1, 1) := by decide +kernel
theorem d_Mo_isPlace_1 : decode prog_10_method_6_code 1 = .ok (.ifCond .lt 17, 3) := by decide +kernel
theorem d_Mo_isPlace_4 : decode prog_10_method_6_code 4 = .ok (.iload_n 1, 1) := by decide +kernel
theorem d_Mo_isPlace_5 : decode prog_10_method_6_code 5 = .ok (.aload_n 0, 1) := by decide +kernel
theorem d_Mo_isPlace_6 : decode prog_10_method_6_code 6 = .ok (.getfield 7, 3) := by decide +kernel
theorem d_Mo_isPlace_9 : decode prog_10_method_6_code 9 = .ok (.iconst 0, 1) := by decide +kernel
theorem d_Mo_isPlace_10 : decode prog_10_method_6_code 10 = .ok (.iaload, 1) := by decide +kernel
theorem d_Mo_isPlace_11 : decode prog_10_method_6_code 11 = .ok (.if_icmp .ge 7, 3) := by decide +kernel
theorem d_Mo_isPlace_14 : decode prog_10_method_6_code 14 = .ok (.iconst 1, 1) := by decide +kernel
theorem d_Mo_isPlace_15 : decode prog_10_method_6_code 15 = .ok (.goto 4, 3) := by decide +kernel
theorem d_Mo_isPlace_18 : decode prog_10_method_6_code 18 = .ok (.iconst 0, 1) := by decide +kernel
theorem d_Mo_isPlace_19 : decode prog_10_method_6_code 19 = .ok (.ireturn, 1) := by decide +kernel
theorem d_Mo_put_0 : decode prog_10_method_7_code 0 = .ok (.iload_n 1, 1) := by decide +kernel
theorem d_Mo_put_1 : decode prog_10_method_7_code 1 = .ok (.iconst 0, 1) := by decide +kernel
theorem d_Mo_put_2 : decode prog_10_method_7_code 2 = .ok (.bipush 7, 2) := by decide +kernel
theorem d_Mo_put_4 : decode prog_10_method_7_code 4 = .ok (.invokestatic 53, 3) := by decide +kernel
theorem d_Mo_put_7 : decode prog_10_method_7_code 7 = .ok (.ifCond .ne 7, 3) := by decide +kernel
theorem d_Mo_put_10 : decode prog_10_method_7_code 10 = .ok (.sipush (-10001), 3) := by decide +kernel
theorem d_Mo_put_13 : decode prog_10_method_7_code 13 = .ok (.ireturn, 1) := by decide +kernel
theorem d_Mo_put_14 : decode prog_10_method_7_code 14 = .ok (.aload_n 0, 1) := by decide +kernel
theorem d_Mo_put_15 : decode prog_10_method_7_code 15 = .ok (.getfield 7, 3) := by decide +kernel
theorem d_Mo_put_18 : decode prog_10_method_7_code 18 = .ok (.iconst 0, 1) := by decide +kernel
theorem d_Mo_put_19 : decode prog_10_method_7_code 19 = .ok (.iaload, 1) := by decide +kernel
theorem d_Mo_put_20 : decode prog_10_method_7_code 20 = .ok (.bipush 60, 2) := by decide +kernel
theorem d_Mo_put_22 : decode prog_10_method_7_code 22 = .ok (.if_icmp .ne 7, 3) := by decide +kernel
theorem d_Mo_put_25 : decode prog_10_method_7_code 25 = .ok (.sipush (-10003), 3) := by decide +kernel
theorem d_Mo_put_28 : decode prog_10_method_7_code 28 = .ok (.ireturn, 1) := by decide +kernel
theorem d_Mo_put_29 : decode prog_10_method_7_code 29 = .ok (.aload_n 0, 1) := by decide +kernel
theorem d_Mo_put_30 : decode prog_10_method_7_code 30 = .ok (.invokevirtual 57, 3) := by decide +kernel
theorem d_Mo_put_33 : decode prog_10_method_7_code 33 = .ok (.aload_n 0, 1) := by decide +kernel
theorem d_Mo_put_34 : decode prog_10_method_7_code 34 = .ok (.getfield 7, 3) := by decide +kernel
theorem d_Mo_put_37 : decode prog_10_method_7_code 37 = .ok (.bipush 6, 2) := by decide +kernel
theorem d_Mo_put_39 : decode prog_10_method_7_code 39 = .ok (.aload_n 0, 1) := by decide +kernel
theorem d_Mo_put_40 : decode prog_10_method_7_code 40 = .ok (.getfield 7, 3) := by decide +kernel
theorem d_Mo_put_43 : decode prog_10_method_7_code 43 = .ok (.iconst 0, 1) := by decide +kernel
theorem d_Mo_put_44 : decode prog_10_method_7_code 44 = .ok (.iaload, 1) := by decide +kernel
theorem d_Mo_put_45 : decode prog_10_method_7_code 45 = .ok (.iadd, 1) := by decide +kernel
theorem d_Mo_put_46 : decode prog_10_method_7_code 46 = .ok (.iload_n 1, 1) := by decide +kernel
theorem d_Mo_put_47 : decode prog_10_method_7_code 47 = .ok (.iastore, 1) := by decide +kernel
theorem d_Mo_put_48 : decode prog_10_method_7_code 48 = .ok (.aload_n 0, 1) := by decide +kernel
theorem d_Mo_put_49 : decode prog_10_method_7_code 49 = .ok (.getfield 7, 3) := by decide +kernel
theorem d_Mo_put_52 : decode prog_10_method_7_code 52 = .ok (.iconst 0, 1) := by decide +kernel
theorem d_Mo_put_53 : decode prog_10_method_7_code 53 = .ok (.dup2, 1) := by decide +kernel
theorem d_Mo_put_54 : decode prog_10_method_7_code 54 = .ok (.iaload, 1) := by decide +kernel
theorem d_Mo_put_55 : decode prog_10_method_7_code 55 = .ok (.iconst 1, 1) := by decide +kernel
theorem d_Mo_put_56 : decode prog_10_method_7_code 56 = .ok (.iadd, 1) := by decide +kernel
theorem d_Mo_put_57 : decode prog_10_method_7_code 57 = .ok (.iastore, 1) := by decide +kernel
theorem d_Mo_put_58 : decode prog_10_method_7_code 58 = .ok (.aload_n 0, 1) := by decide +kernel
theorem d_Mo_put_59 : decode prog_10_method_7_code 59 = .ok (.getfield 7, 3) := by decide +kernel
theorem d_Mo_put_62 : decode prog_10_method_7_code 62 = .ok (.iconst 0, 1) := by decide +kernel
theorem d_Mo_put_63 : decode prog_10_method_7_code 63 = .ok (.iaload, 1) := by decide +kernel
theorem d_Mo_put_64 : decode prog_10_method_7_code 64 = .ok (.ireturn, 1) := by decide +kernel
theorem d_Mo_drop_0 : decode prog_10_method_8_code 0 = .ok (.iload_n 1, 1) := by decide +kernel
theorem d_Mo_drop_1 : decode prog_10_method_8_code 1 = .ok (.iconst 1, 1) := by decide +kernel
theorem d_Mo_drop_2 : decode prog_10_method_8_code 2 = .ok (.bipush 60, 2) := by decide +kernel
theorem d_Mo_drop_4 : decode prog_10_method_8_code 4 = .ok (.invokestatic 53, 3) := by decide +kernel
theorem d_Mo_drop_7 : decode prog_10_method_8_code 7 = .ok (.ifCond .ne 7, 3) := by decide +kernel
theorem d_Mo_drop_10 : decode prog_10_method_8_code 10 = .ok (.sipush (-10001), 3) := by decide +kernel
theorem d_Mo_drop_13 : decode prog_10_method_8_code 13 = .ok (.ireturn, 1) := by decide +kernel
theorem d_Mo_drop_14 : decode prog_10_method_8_code 14 = .ok (.iload_n 1, 1) := by decide +kernel
theorem d_Mo_drop_15 : decode prog_10_method_8_code 15 = .ok (.aload_n 0, 1) := by decide +kernel
theorem d_Mo_drop_16 : decode prog_10_method_8_code 16 = .ok (.getfield 7, 3) := by decide +kernel
theorem d_Mo_drop_19 : decode prog_10_method_8_code 19 = .ok (.iconst 0, 1) := by decide +kernel
theorem d_Mo_drop_20 : decode prog_10_method_8_code 20 = .ok (.iaload, 1) := by decide +kernel
theorem d_Mo_drop_21 : decode prog_10_method_8_code 21 = .ok (.if_icmp .le 7, 3) := by decide +kernel
theorem d_Mo_drop_24 : decode prog_10_method_8_code 24 = .ok (.sipush (-10002), 3) := by decide +kernel
theorem d_Mo_drop_27 : decode prog_10_method_8_code 27 = .ok (.ireturn, 1) := by decide +kernel
theorem d_Mo_drop_28 : decode prog_10_method_8_code 28 = .ok (.aload_n 0, 1) := by decide +kernel
theorem d_Mo_drop_29 : decode prog_10_method_8_code 29 = .ok (.invokevirtual 57, 3) := by decide +kernel
theorem d_Mo_drop_32 : decode prog_10_method_8_code 32 = .ok (.aload_n 0, 1) := by decide +kernel
theorem d_Mo_drop_33 : decode prog_10_method_8_code 33 = .ok (.getfield 7, 3) := by decide +kernel
theorem d_Mo_drop_36 : decode prog_10_method_8_code 36 = .ok (.iconst 0, 1) := by decide +kernel
theorem d_Mo_drop_37 : decode prog_10_method_8_code 37 = .ok (.dup2, 1) := by decide +kernel
theorem d_Mo_drop_38 : decode prog_10_method_8_code 38 = .ok (.iaload, 1) := by decide +kernel
theorem d_Mo_drop_39 : decode prog_10_method_8_code 39 = .ok (.iload_n 1, 1) := by decide +kernel
theorem d_Mo_drop_40 : decode prog_10_method_8_code 40 = .ok (.isub, 1) := by decide +kernel
theorem d_Mo_drop_41 : decode prog_10_method_8_code 41 = .ok (.iastore, 1) := by decide +kernel
theorem d_Mo_drop_42 : decode prog_10_method_8_code 42 = .ok (.aload_n 0, 1) := by decide +kernel
theorem d_Mo_drop_43 : decode prog_10_method_8_code 43 = .ok (.getfield 7, 3) := by decide +kernel
theorem d_Mo_drop_46 : decode prog_10_method_8_code 46 = .ok (.iconst 0, 1) := by decide +kernel
theorem d_Mo_drop_47 : decode prog_10_method_8_code 47 = .ok (.iaload, 1) := by decide +kernel
theorem d_Mo_drop_48 : decode prog_10_method_8_code 48 = .ok (.ireturn, 1) := by decide +kernel
theorem d_Mo_mend_0 : decode prog_10_method_9_code 0 = .ok (.aload_n 0, 1) := by decide +kernel
theorem d_Mo_mend_1 : decode prog_10_method_9_code 1 = .ok (.iload_n 1, 1) := by decide +kernel
theorem d_Mo_mend_2 : decode prog_10_method_9_code 2 = .ok (.invokevirtual 60, 3) := by decide +kernel
theorem d_Mo_mend_5 : decode prog_10_method_9_code 5 = .ok (.ifCond .eq 13, 3) := by decide +kernel
theorem d_Mo_mend_8 : decode prog_10_method_9_code 8 = .ok (.iload_n 2, 1) := by decide +kernel
theorem d_Mo_mend_9 : decode prog_10_method_9_code 9 = .ok (.iconst 0, 1) := by decide +kernel
theorem d_Mo_mend_10 : decode prog_10_method_9_code 10 = .ok (.bipush 7, 2) := by decide +kernel
theorem d_Mo_mend_12 : decode prog_10_method_9_code 12 = .ok (.invokestatic 53, 3) := by decide +kernel
theorem d_Mo_mend_15 : decode prog_10_method_9_code 15 = .ok (.ifCond .ne 7, 3) := by decide +kernel
theorem d_Mo_mend_18 : decode prog_10_method_9_code 18 = .ok (.sipush (-10001), 3) := by decide +kernel
theorem d_Mo_mend_21 : decode prog_10_method_9_code 21 = .ok (.ireturn, 1) := by decide +kernel
theorem d_Mo_mend_22 : decode prog_10_method_9_code 22 = .ok (.aload_n 0, 1) := by decide +kernel
theorem d_Mo_mend_23 : decode prog_10_method_9_code 23 = .ok (.invokevirtual 57, 3) := by decide +kernel
theorem d_Mo_mend_26 : decode prog_10_method_9_code 26 = .ok (.aload_n 0, 1) := by decide +kernel
theorem d_Mo_mend_27 : decode prog_10_method_9_code 27 = .ok (.getfield 7, 3) := by decide +kernel
theorem d_Mo_mend_30 : decode prog_10_method_9_code 30 = .ok (.bipush 6, 2) := by decide +kernel
theorem d_Mo_mend_32 : decode prog_10_method_9_code 32 = .ok (.iload_n 1, 1) := by decide +kernel
theorem d_Mo_mend_33 : decode prog_10_method_9_code 33 = .ok (.iadd, 1) := by decide +kernel
theorem d_Mo_mend_34 : decode prog_10_method_9_code 34 = .ok (.iaload, 1) := by decide +kernel
theorem d_Mo_mend_35 : decode prog_10_method_9_code 35 = .ok (.istore_n 3, 1) := by decide +kernel
theorem d_Mo_mend_36 : decode prog_10_method_9_code 36 = .ok (.aload_n 0, 1) := by decide +kernel
theorem d_Mo_mend_37 : decode prog_10_method_9_code 37 = .ok (.getfield 7, 3) := by decide +kernel
theorem d_Mo_mend_40 : decode prog_10_method_9_code 40 = .ok (.bipush 6, 2) := by decide +kernel
theorem d_Mo_mend_42 : decode prog_10_method_9_code 42 = .ok (.iload_n 1, 1) := by decide +kernel
theorem d_Mo_mend_43 : decode prog_10_method_9_code 43 = .ok (.iadd, 1) := by decide +kernel
theorem d_Mo_mend_44 : decode prog_10_method_9_code 44 = .ok (.iload_n 2, 1) := by decide +kernel
theorem d_Mo_mend_45 : decode prog_10_method_9_code 45 = .ok (.iastore, 1) := by decide +kernel
theorem d_Mo_mend_46 : decode prog_10_method_9_code 46 = .ok (.iload_n 3, 1) := by decide +kernel
theorem d_Mo_mend_47 : decode prog_10_method_9_code 47 = .ok (.ireturn, 1) := by decide +kernel
theorem d_Mo_least_0 : decode prog_10_method_10_code 0 = .ok (.iload_n 0, 1) := by decide +kernel
theorem d_Mo_least_1 : decode prog_10_method_10_code 1 = .ok (.iconst 1, 1) := by decide +kernel
theorem d_Mo_least_2 : decode prog_10_method_10_code 2 = .ok (.if_icmp .ne 7, 3) := by decide +kernel
theorem d_Mo_least_5 : decode prog_10_method_10_code 5 = .ok (.iconst 2, 1) := by decide +kernel
theorem d_Mo_least_6 : decode prog_10_method_10_code 6 = .ok (.goto 4, 3) := by decide +kernel
theorem d_Mo_least_9 : decode prog_10_method_10_code 9 = .ok (.iconst 1, 1) := by decide +kernel
theorem d_Mo_least_10 : decode prog_10_method_10_code 10 = .ok (.ireturn, 1) := by decide +kernel
theorem d_Mo_most_0 : decode prog_10_method_11_code 0 = .ok (.iload_n 0, 1) := by decide +kernel
theorem d_Mo_most_1 : decode prog_10_method_11_code 1 = .ok (.iconst 1, 1) := by decide +kernel
theorem d_Mo_most_2 : decode prog_10_method_11_code 2 = .ok (.if_icmp .ne 8, 3) := by decide +kernel
theorem d_Mo_most_5 : decode prog_10_method_11_code 5 = .ok (.bipush 6, 2) := by decide +kernel
theorem d_Mo_most_7 : decode prog_10_method_11_code 7 = .ok (.goto 15, 3) := by decide +kernel
theorem d_Mo_most_10 : decode prog_10_method_11_code 10 = .ok (.iload_n 0, 1) := by decide +kernel
theorem d_Mo_most_11 : decode prog_10_method_11_code 11 = .ok (.iconst 3, 1) := by decide +kernel
theorem d_Mo_most_12 : decode prog_10_method_11_code 12 = .ok (.if_icmp .ne 8, 3) := by decide +kernel
theorem d_Mo_most_15 : decode prog_10_method_11_code 15 = .ok (.bipush 20, 2) := by decide +kernel
theorem d_Mo_most_17 : decode prog_10_method_11_code 17 = .ok (.goto 5, 3) := by decide +kernel
theorem d_Mo_most_20 : decode prog_10_method_11_code 20 = .ok (.bipush 60, 2) := by decide +kernel
theorem d_Mo_most_22 : decode prog_10_method_11_code 22 = .ok (.ireturn, 1) := by decide +kernel
theorem d_Mo_set_0 : decode prog_10_method_12_code 0 = .ok (.iload_n 1, 1) := by decide +kernel
theorem d_Mo_set_1 : decode prog_10_method_12_code 1 = .ok (.iconst 0, 1) := by decide +kernel
theorem d_Mo_set_2 : decode prog_10_method_12_code 2 = .ok (.iconst 4, 1) := by decide +kernel
theorem d_Mo_set_3 : decode prog_10_method_12_code 3 = .ok (.invokestatic 53, 3) := by decide +kernel
theorem d_Mo_set_6 : decode prog_10_method_12_code 6 = .ok (.ifCond .eq 18, 3) := by decide +kernel
theorem d_Mo_set_9 : decode prog_10_method_12_code 9 = .ok (.iload_n 2, 1) := by decide +kernel
theorem d_Mo_set_10 : decode prog_10_method_12_code 10 = .ok (.iload_n 1, 1) := by decide +kernel
theorem d_Mo_set_11 : decode prog_10_method_12_code 11 = .ok (.invokestatic 64, 3) := by decide +kernel
theorem d_Mo_set_14 : decode prog_10_method_12_code 14 = .ok (.iload_n 1, 1) := by decide +kernel
theorem d_Mo_set_15 : decode prog_10_method_12_code 15 = .ok (.invokestatic 68, 3) := by decide +kernel
theorem d_Mo_set_18 : decode prog_10_method_12_code 18 = .ok (.invokestatic 53, 3) := by decide +kernel
theorem d_Mo_set_21 : decode prog_10_method_12_code 21 = .ok (.ifCond .ne 7, 3) := by decide +kernel
theorem d_Mo_set_24 : decode prog_10_method_12_code 24 = .ok (.sipush (-10001), 3) := by decide +kernel
theorem d_Mo_set_27 : decode prog_10_method_12_code 27 = .ok (.ireturn, 1) := by decide +kernel
theorem d_Mo_set_28 : decode prog_10_method_12_code 28 = .ok (.aload_n 0, 1) := by decide +kernel
theorem d_Mo_set_29 : decode prog_10_method_12_code 29 = .ok (.invokevirtual 57, 3) := by decide +kernel
theorem d_Mo_set_32 : decode prog_10_method_12_code 32 = .ok (.aload_n 0, 1) := by decide +kernel
theorem d_Mo_set_33 : decode prog_10_method_12_code 33 = .ok (.getfield 7, 3) := by decide +kernel
theorem d_Mo_set_36 : decode prog_10_method_12_code 36 = .ok (.iconst 1, 1) := by decide +kernel
theorem d_Mo_set_37 : decode prog_10_method_12_code 37 = .ok (.iload_n 1, 1) := by decide +kernel
theorem d_Mo_set_38 : decode prog_10_method_12_code 38 = .ok (.iadd, 1) := by decide +kernel
theorem d_Mo_set_39 : decode prog_10_method_12_code 39 = .ok (.iaload, 1) := by decide +kernel
theorem d_Mo_set_40 : decode prog_10_method_12_code 40 = .ok (.istore_n 3, 1) := by decide +kernel
theorem d_Mo_set_41 : decode prog_10_method_12_code 41 = .ok (.aload_n 0, 1) := by decide +kernel
theorem d_Mo_set_42 : decode prog_10_method_12_code 42 = .ok (.getfield 7, 3) := by decide +kernel
theorem d_Mo_set_45 : decode prog_10_method_12_code 45 = .ok (.iconst 1, 1) := by decide +kernel
theorem d_Mo_set_46 : decode prog_10_method_12_code 46 = .ok (.iload_n 1, 1) := by decide +kernel
theorem d_Mo_set_47 : decode prog_10_method_12_code 47 = .ok (.iadd, 1) := by decide +kernel
theorem d_Mo_set_48 : decode prog_10_method_12_code 48 = .ok (.iload_n 2, 1) := by decide +kernel
theorem d_Mo_set_49 : decode prog_10_method_12_code 49 = .ok (.iastore, 1) := by decide +kernel
theorem d_Mo_set_50 : decode prog_10_method_12_code 50 = .ok (.iload_n 3, 1) := by decide +kernel
theorem d_Mo_set_51 : decode prog_10_method_12_code 51 = .ok (.ireturn, 1) := by decide +kernel
theorem d_Mo_letter_0 : decode prog_10_method_13_code 0 = .ok (.aload_n 0, 1) := by decide +kernel
theorem d_Mo_letter_1 : decode prog_10_method_13_code 1 = .ok (.iload_n 1, 1) := by decide +kernel
theorem d_Mo_letter_2 : decode prog_10_method_13_code 2 = .ok (.invokevirtual 60, 3) := by decide +kernel
theorem d_Mo_letter_5 : decode prog_10_method_13_code 5 = .ok (.ifCond .eq 15, 3) := by decide +kernel
theorem d_Mo_letter_8 : decode prog_10_method_13_code 8 = .ok (.aload_n 0, 1) := by decide +kernel
theorem d_Mo_letter_9 : decode prog_10_method_13_code 9 = .ok (.getfield 7, 3) := by decide +kernel
theorem d_Mo_letter_12 : decode prog_10_method_13_code 12 = .ok (.bipush 6, 2) := by decide +kernel
theorem d_Mo_letter_14 : decode prog_10_method_13_code 14 = .ok (.iload_n 1, 1) := by decide +kernel
theorem d_Mo_letter_15 : decode prog_10_method_13_code 15 = .ok (.iadd, 1) := by decide +kernel
theorem d_Mo_letter_16 : decode prog_10_method_13_code 16 = .ok (.iaload, 1) := by decide +kernel
theorem d_Mo_letter_17 : decode prog_10_method_13_code 17 = .ok (.goto 6, 3) := by decide +kernel
theorem d_Mo_letter_20 : decode prog_10_method_13_code 20 = .ok (.sipush (-10001), 3) := by decide +kernel
theorem d_Mo_letter_23 : decode prog_10_method_13_code 23 = .ok (.ireturn, 1) := by decide +kernel
theorem d_Mo_reach_0 : decode prog_10_method_14_code 0 = .ok (.iconst 0, 1) := by decide +kernel
theorem d_Mo_reach_1 : decode prog_10_method_14_code 1 = .ok (.istore_n 3, 1) := by decide +kernel
theorem d_Mo_reach_2 : decode prog_10_method_14_code 2 = .ok (.iload_n 3, 1) := by decide +kernel
theorem d_Mo_reach_3 : decode prog_10_method_14_code 3 = .ok (.bipush 20, 2) := by decide +kernel
theorem d_Mo_reach_5 : decode prog_10_method_14_code 5 = .ok (.if_icmp .ge 48, 3) := by decide +kernel
theorem d_Mo_reach_8 : decode prog_10_method_14_code 8 = .ok (.iload_n 1, 1) := by decide +kernel
theorem d_Mo_reach_9 : decode prog_10_method_14_code 9 = .ok (.iload_n 3, 1) := by decide +kernel
theorem d_Mo_reach_10 : decode prog_10_method_14_code 10 = .ok (.iadd, 1) := by decide +kernel
theorem d_Mo_reach_11 : decode prog_10_method_14_code 11 = .ok (.aload_n 0, 1) := by decide +kernel
theorem d_Mo_reach_12 : decode prog_10_method_14_code 12 = .ok (.getfield 7, 3) := by decide +kernel
theorem d_Mo_reach_15 : decode prog_10_method_14_code 15 = .ok (.iconst 0, 1) := by decide +kernel
theorem d_Mo_reach_16 : decode prog_10_method_14_code 16 = .ok (.iaload, 1) := by decide +kernel
theorem d_Mo_reach_17 : decode prog_10_method_14_code 17 = .ok (.if_icmp .ge 36, 3) := by decide +kernel
theorem d_Mo_reach_20 : decode prog_10_method_14_code 20 = .ok (.aload_n 0, 1) := by decide +kernel
theorem d_Mo_reach_21 : decode prog_10_method_14_code 21 = .ok (.getfield 7, 3) := by decide +kernel
theorem d_Mo_reach_24 : decode prog_10_method_14_code 24 = .ok (.bipush 6, 2) := by decide +kernel
theorem d_Mo_reach_26 : decode prog_10_method_14_code 26 = .ok (.iload_n 1, 1) := by decide +kernel
theorem d_Mo_reach_27 : decode prog_10_method_14_code 27 = .ok (.iadd, 1) := by decide +kernel
theorem d_Mo_reach_28 : decode prog_10_method_14_code 28 = .ok (.iload_n 3, 1) := by decide +kernel
theorem d_Mo_reach_29 : decode prog_10_method_14_code 29 = .ok (.iadd, 1) := by decide +kernel
theorem d_Mo_reach_30 : decode prog_10_method_14_code 30 = .ok (.iaload, 1) := by decide +kernel
theorem d_Mo_reach_31 : decode prog_10_method_14_code 31 = .ok (.aload_n 0, 1) := by decide +kernel
theorem d_Mo_reach_32 : decode prog_10_method_14_code 32 = .ok (.getfield 7, 3) := by decide +kernel
theorem d_Mo_reach_35 : decode prog_10_method_14_code 35 = .ok (.bipush 6, 2) := by decide +kernel
theorem d_Mo_reach_37 : decode prog_10_method_14_code 37 = .ok (.iload_n 1, 1) := by decide +kernel
theorem d_Mo_reach_38 : decode prog_10_method_14_code 38 = .ok (.iadd, 1) := by decide +kernel
theorem d_Mo_reach_39 : decode prog_10_method_14_code 39 = .ok (.iload_n 3, 1) := by decide +kernel
theorem d_Mo_reach_40 : decode prog_10_method_14_code 40 = .ok (.iadd, 1) := by decide +kernel
theorem d_Mo_reach_41 : decode prog_10_method_14_code 41 = .ok (.iload_n 2, 1) := by decide +kernel
theorem d_Mo_reach_42 : decode prog_10_method_14_code 42 = .ok (.isub, 1) := by decide +kernel
theorem d_Mo_reach_43 : decode prog_10_method_14_code 43 = .ok (.iaload, 1) := by decide +kernel
theorem d_Mo_reach_44 : decode prog_10_method_14_code 44 = .ok (.if_icmp .ne 9, 3) := by decide +kernel
theorem d_Mo_reach_47 : decode prog_10_method_14_code 47 = .ok (.iinc 3 1, 3) := by decide +kernel
theorem d_Mo_reach_50 : decode prog_10_method_14_code 50 = .ok (.goto (-48), 3) := by decide +kernel
theorem d_Mo_reach_53 : decode prog_10_method_14_code 53 = .ok (.iload_n 3, 1) := by decide +kernel
theorem d_Mo_reach_54 : decode prog_10_method_14_code 54 = .ok (.ireturn, 1) := by decide +kernel
theorem d_Mo_isCandidate_0 : decode prog_10_method_15_code 0 = .ok (.iload_n 2, 1) := by decide +kernel
theorem d_Mo_isCandidate_1 : decode prog_10_method_15_code 1 = .ok (.aload_n 0, 1) := by decide +kernel
theorem d_Mo_isCandidate_2 : decode prog_10_method_15_code 2 = .ok (.getfield 7, 3) := by decide +kernel
theorem d_Mo_isCandidate_5 : decode prog_10_method_15_code 5 = .ok (.iconst 1, 1) := by decide +kernel
theorem d_Mo_isCandidate_6 : decode prog_10_method_15_code 6 = .ok (.iaload, 1) := by decide +kernel
theorem d_Mo_isCandidate_7 : decode prog_10_method_15_code 7 = .ok (.if_icmp .gt 22, 3) := by decide +kernel
theorem d_Mo_isCandidate_10 : decode prog_10_method_15_code 10 = .ok (.iload_n 2, 1) := by decide +kernel
theorem d_Mo_isCandidate_11 : decode prog_10_method_15_code 11 = .ok (.iload_n 1, 1) := by decide +kernel
theorem d_Mo_isCandidate_12 : decode prog_10_method_15_code 12 = .ok (.if_icmp .gt 17, 3) := by decide +kernel
theorem d_Mo_isCandidate_15 : decode prog_10_method_15_code 15 = .ok (.aload_n 0, 1) := by decide +kernel
theorem d_Mo_isCandidate_16 : decode prog_10_method_15_code 16 = .ok (.iload_n 1, 1) := by decide +kernel
theorem d_Mo_isCandidate_17 : decode prog_10_method_15_code 17 = .ok (.iload_n 2, 1) := by decide +kernel
theorem d_Mo_isCandidate_18 : decode prog_10_method_15_code 18 = .ok (.invokevirtual 71, 3) := by decide +kernel
theorem d_Mo_isCandidate_21 : decode prog_10_method_15_code 21 = .ok (.iconst 1, 1) := by decide +kernel
theorem d_Mo_isCandidate_22 : decode prog_10_method_15_code 22 = .ok (.if_icmp .le 7, 3) := by decide +kernel
theorem d_Mo_isCandidate_25 : decode prog_10_method_15_code 25 = .ok (.iconst 1, 1) := by decide +kernel
theorem d_Mo_isCandidate_26 : decode prog_10_method_15_code 26 = .ok (.goto 4, 3) := by decide +kernel
theorem d_Mo_isCandidate_29 : decode prog_10_method_15_code 29 = .ok (.iconst 0, 1) := by decide +kernel
theorem d_Mo_isCandidate_30 : decode prog_10_method_15_code 30 = .ok (.ireturn, 1) := by decide +kernel
theorem d_Mo_candidates_0 : decode prog_10_method_16_code 0 = .ok (.iconst 0, 1) := by decide +kernel
theorem d_Mo_candidates_1 : decode prog_10_method_16_code 1 = .ok (.istore_n 2, 1) := by decide +kernel
theorem d_Mo_candidates_2 : decode prog_10_method_16_code 2 = .ok (.iconst 1, 1) := by decide +kernel
theorem d_Mo_candidates_3 : decode prog_10_method_16_code 3 = .ok (.istore_n 3, 1) := by decide +kernel
theorem d_Mo_candidates_4 : decode prog_10_method_16_code 4 = .ok (.iload_n 3, 1) := by decide +kernel
theorem d_Mo_candidates_5 : decode prog_10_method_16_code 5 = .ok (.iload_n 1, 1) := by decide +kernel
theorem d_Mo_candidates_6 : decode prog_10_method_16_code 6 = .ok (.if_icmp .gt 26, 3) := by decide +kernel
theorem d_Mo_candidates_9 : decode prog_10_method_16_code 9 = .ok (.iload_n 2, 1) := by decide +kernel
theorem d_Mo_candidates_10 : decode prog_10_method_16_code 10 = .ok (.aload_n 0, 1) := by decide +kernel
theorem d_Mo_candidates_11 : decode prog_10_method_16_code 11 = .ok (.iload_n 1, 1) := by decide +kernel
theorem d_Mo_candidates_12 : decode prog_10_method_16_code 12 = .ok (.iload_n 3, 1) := by decide +kernel
theorem d_Mo_candidates_13 : decode prog_10_method_16_code 13 = .ok (.invokevirtual 75, 3) := by decide +kernel
theorem d_Mo_candidates_16 : decode prog_10_method_16_code 16 = .ok (.ifCond .eq 7, 3) := by decide +kernel
theorem d_Mo_candidates_19 : decode prog_10_method_16_code 19 = .ok (.iconst 1, 1) := by decide +kernel
theorem d_Mo_candidates_20 : decode prog_10_method_16_code 20 = .ok (.goto 4, 3) := by decide +kernel
theorem d_Mo_candidates_23 : decode prog_10_method_16_code 23 = .ok (.iconst 0, 1) := by decide +kernel
theorem d_Mo_candidates_24 : decode prog_10_method_16_code 24 = .ok (.iadd, 1) := by decide +kernel
theorem d_Mo_candidates_25 : decode prog_10_method_16_code 25 = .ok (.istore_n 2, 1) := by decide +kernel
theorem d_Mo_candidates_26 : decode prog_10_method_16_code 26 = .ok (.iinc 3 1, 3) := by decide +kernel
theorem d_Mo_candidates_29 : decode prog_10_method_16_code 29 = .ok (.goto (-25), 3) := by decide +kernel
theorem d_Mo_candidates_32 : decode prog_10_method_16_code 32 = .ok (.iload_n 2, 1) := by decide +kernel
theorem d_Mo_candidates_33 : decode prog_10_method_16_code 33 = .ok (.ireturn, 1) := by decide +kernel
theorem d_Mo_distance_0 : decode prog_10_method_17_code 0 = .ok (.iconst 0, 1) := by decide +kernel
theorem d_Mo_distance_1 : decode prog_10_method_17_code 1 = .ok (.istore_n 3, 1) := by decide +kernel
theorem d_Mo_distance_2 : decode prog_10_method_17_code 2 = .ok (.iconst 1, 1) := by decide +kernel
theorem d_Mo_distance_3 : decode prog_10_method_17_code 3 = .ok (.istore 4, 2) := by decide +kernel
theorem d_Mo_distance_5 : decode prog_10_method_17_code 5 = .ok (.iload 4, 2) := by decide +kernel
theorem d_Mo_distance_7 : decode prog_10_method_17_code 7 = .ok (.iload_n 1, 1) := by decide +kernel
theorem d_Mo_distance_8 : decode prog_10_method_17_code 8 = .ok (.if_icmp .gt 40, 3) := by decide +kernel
theorem d_Mo_distance_11 : decode prog_10_method_17_code 11 = .ok (.iload_n 2, 1) := by decide +kernel
theorem d_Mo_distance_12 : decode prog_10_method_17_code 12 = .ok (.aload_n 0, 1) := by decide +kernel
theorem d_Mo_distance_13 : decode prog_10_method_17_code 13 = .ok (.getfield 7, 3) := by decide +kernel
theorem d_Mo_distance_16 : decode prog_10_method_17_code 16 = .ok (.iconst 3, 1) := by decide +kernel
theorem d_Mo_distance_17 : decode prog_10_method_17_code 17 = .ok (.iaload, 1) := by decide +kernel
theorem d_Mo_distance_18 : decode prog_10_method_17_code 18 = .ok (.if_icmp .ge 30, 3) := by decide +kernel
theorem d_Mo_distance_21 : decode prog_10_method_17_code 21 = .ok (.aload_n 0, 1) := by decide +kernel
theorem d_Mo_distance_22 : decode prog_10_method_17_code 22 = .ok (.iload_n 1, 1) := by decide +kernel
theorem d_Mo_distance_23 : decode prog_10_method_17_code 23 = .ok (.iload 4, 2) := by decide +kernel
theorem d_Mo_distance_25 : decode prog_10_method_17_code 25 = .ok (.invokevirtual 75, 3) := by decide +kernel
theorem d_Mo_distance_28 : decode prog_10_method_17_code 28 = .ok (.ifCond .eq 14, 3) := by decide +kernel
theorem d_Mo_distance_31 : decode prog_10_method_17_code 31 = .ok (.iload_n 3, 1) := by decide +kernel
theorem d_Mo_distance_32 : decode prog_10_method_17_code 32 = .ok (.iload_n 2, 1) := by decide +kernel
theorem d_Mo_distance_33 : decode prog_10_method_17_code 33 = .ok (.if_icmp .ne 6, 3) := by decide +kernel
theorem d_Mo_distance_36 : decode prog_10_method_17_code 36 = .ok (.iload 4, 2) := by decide +kernel
theorem d_Mo_distance_38 : decode prog_10_method_17_code 38 = .ok (.ireturn, 1) := by decide +kernel
theorem d_Mo_distance_39 : decode prog_10_method_17_code 39 = .ok (.iinc 3 1, 3) := by decide +kernel
theorem d_Mo_distance_42 : decode prog_10_method_17_code 42 = .ok (.iinc 4 1, 3) := by decide +kernel
theorem d_Mo_distance_45 : decode prog_10_method_17_code 45 = .ok (.goto (-40), 3) := by decide +kernel
theorem d_Mo_distance_48 : decode prog_10_method_17_code 48 = .ok (.sipush (-10004), 3) := by decide +kernel
theorem d_Mo_distance_51 : decode prog_10_method_17_code 51 = .ok (.ireturn, 1) := by decide +kernel
theorem d_Mo_candidate_0 : decode prog_10_method_18_code 0 = .ok (.aload_n 0, 1) := by decide +kernel
theorem d_Mo_candidate_1 : decode prog_10_method_18_code 1 = .ok (.iload_n 1, 1) := by decide +kernel
theorem d_Mo_candidate_2 : decode prog_10_method_18_code 2 = .ok (.invokevirtual 60, 3) := by decide +kernel
theorem d_Mo_candidate_5 : decode prog_10_method_18_code 5 = .ok (.ifCond .eq 16, 3) := by decide +kernel
theorem d_Mo_candidate_8 : decode prog_10_method_18_code 8 = .ok (.iload_n 2, 1) := by decide +kernel
theorem d_Mo_candidate_9 : decode prog_10_method_18_code 9 = .ok (.ifCond .lt 12, 3) := by decide +kernel
theorem d_Mo_candidate_12 : decode prog_10_method_18_code 12 = .ok (.iload_n 3, 1) := by decide +kernel
theorem d_Mo_candidate_13 : decode prog_10_method_18_code 13 = .ok (.iconst 0, 1) := by decide +kernel
theorem d_Mo_candidate_14 : decode prog_10_method_18_code 14 = .ok (.iconst 1, 1) := by decide +kernel
theorem d_Mo_candidate_15 : decode prog_10_method_18_code 15 = .ok (.invokestatic 53, 3) := by decide +kernel
theorem d_Mo_candidate_18 : decode prog_10_method_18_code 18 = .ok (.ifCond .ne 7, 3) := by decide +kernel
theorem d_Mo_candidate_21 : decode prog_10_method_18_code 21 = .ok (.sipush (-10001), 3) := by decide +kernel
theorem d_Mo_candidate_24 : decode prog_10_method_18_code 24 = .ok (.ireturn, 1) := by decide +kernel
theorem d_Mo_candidate_25 : decode prog_10_method_18_code 25 = .ok (.aload_n 0, 1) := by decide +kernel
theorem d_Mo_candidate_26 : decode prog_10_method_18_code 26 = .ok (.iload_n 1, 1) := by decide +kernel
theorem d_Mo_candidate_27 : decode prog_10_method_18_code 27 = .ok (.iload_n 2, 1) := by decide +kernel
theorem d_Mo_candidate_28 : decode prog_10_method_18_code 28 = .ok (.invokevirtual 79, 3) := by decide +kernel
theorem d_Mo_candidate_31 : decode prog_10_method_18_code 31 = .ok (.istore 4, 2) := by decide +kernel
theorem d_Mo_candidate_33 : decode prog_10_method_18_code 33 = .ok (.iload 4, 2) := by decide +kernel
theorem d_Mo_candidate_35 : decode prog_10_method_18_code 35 = .ok (.ifCond .lt 7, 3) := by decide +kernel
theorem d_Mo_candidate_38 : decode prog_10_method_18_code 38 = .ok (.iload_n 3, 1) := by decide +kernel
theorem d_Mo_candidate_39 : decode prog_10_method_18_code 39 = .ok (.ifCond .ne 8, 3) := by decide +kernel
theorem d_Mo_candidate_42 : decode prog_10_method_18_code 42 = .ok (.iload 4, 2) := by decide +kernel
theorem d_Mo_candidate_44 : decode prog_10_method_18_code 44 = .ok (.goto 10, 3) := by decide +kernel
theorem d_Mo_candidate_47 : decode prog_10_method_18_code 47 = .ok (.aload_n 0, 1) := by decide +kernel
theorem d_Mo_candidate_48 : decode prog_10_method_18_code 48 = .ok (.iload_n 1, 1) := by decide +kernel
theorem d_Mo_candidate_49 : decode prog_10_method_18_code 49 = .ok (.iload 4, 2) := by decide +kernel
theorem d_Mo_candidate_51 : decode prog_10_method_18_code 51 = .ok (.invokevirtual 71, 3) := by decide +kernel
theorem d_Mo_candidate_54 : decode prog_10_method_18_code 54 = .ok (.ireturn, 1) := by decide +kernel
theorem d_Mo_best_0 : decode prog_10_method_19_code 0 = .ok (.sipush (-10004), 3) := by decide +kernel
theorem d_Mo_best_3 : decode prog_10_method_19_code 3 = .ok (.istore_n 2, 1) := by decide +kernel
theorem d_Mo_best_4 : decode prog_10_method_19_code 4 = .ok (.iconst 0, 1) := by decide +kernel
theorem d_Mo_best_5 : decode prog_10_method_19_code 5 = .ok (.istore_n 3, 1) := by decide +kernel
theorem d_Mo_best_6 : decode prog_10_method_19_code 6 = .ok (.iconst 0, 1) := by decide +kernel
theorem d_Mo_best_7 : decode prog_10_method_19_code 7 = .ok (.istore 4, 2) := by decide +kernel
theorem d_Mo_best_9 : decode prog_10_method_19_code 9 = .ok (.iconst 1, 1) := by decide +kernel
theorem d_Mo_best_10 : decode prog_10_method_19_code 10 = .ok (.istore 5, 2) := by decide +kernel
theorem d_Mo_best_12 : decode prog_10_method_19_code 12 = .ok (.iload 5, 2) := by decide +kernel
theorem d_Mo_best_14 : decode prog_10_method_19_code 14 = .ok (.iload_n 1, 1) := by decide +kernel
theorem d_Mo_best_15 : decode prog_10_method_19_code 15 = .ok (.if_icmp .gt 74, 3) := by decide +kernel
theorem d_Mo_best_18 : decode prog_10_method_19_code 18 = .ok (.iload 4, 2) := by decide +kernel
theorem d_Mo_best_20 : decode prog_10_method_19_code 20 = .ok (.aload_n 0, 1) := by decide +kernel
theorem d_Mo_best_21 : decode prog_10_method_19_code 21 = .ok (.getfield 7, 3) := by decide +kernel
theorem d_Mo_best_24 : decode prog_10_method_19_code 24 = .ok (.iconst 3, 1) := by decide +kernel
theorem d_Mo_best_25 : decode prog_10_method_19_code 25 = .ok (.iaload, 1) := by decide +kernel
theorem d_Mo_best_26 : decode prog_10_method_19_code 26 = .ok (.if_icmp .ge 63, 3) := by decide +kernel
theorem d_Mo_best_29 : decode prog_10_method_19_code 29 = .ok (.aload_n 0, 1) := by decide +kernel
theorem d_Mo_best_30 : decode prog_10_method_19_code 30 = .ok (.iload_n 1, 1) := by decide +kernel
theorem d_Mo_best_31 : decode prog_10_method_19_code 31 = .ok (.iload 5, 2) := by decide +kernel
theorem d_Mo_best_33 : decode prog_10_method_19_code 33 = .ok (.invokevirtual 75, 3) := by decide +kernel
theorem d_Mo_best_36 : decode prog_10_method_19_code 36 = .ok (.ifCond .eq 47, 3) := by decide +kernel
theorem d_Mo_best_39 : decode prog_10_method_19_code 39 = .ok (.iinc 4 1, 3) := by decide +kernel
theorem d_Mo_best_42 : decode prog_10_method_19_code 42 = .ok (.aload_n 0, 1) := by decide +kernel
theorem d_Mo_best_43 : decode prog_10_method_19_code 43 = .ok (.iload_n 1, 1) := by decide +kernel
theorem d_Mo_best_44 : decode prog_10_method_19_code 44 = .ok (.iload 5, 2) := by decide +kernel
theorem d_Mo_best_46 : decode prog_10_method_19_code 46 = .ok (.invokevirtual 71, 3) := by decide +kernel
theorem d_Mo_best_49 : decode prog_10_method_19_code 49 = .ok (.iload_n 3, 1) := by decide +kernel
theorem d_Mo_best_50 : decode prog_10_method_19_code 50 = .ok (.if_icmp .le 8, 3) := by decide +kernel
theorem d_Mo_best_53 : decode prog_10_method_19_code 53 = .ok (.iload 5, 2) := by decide +kernel
theorem d_Mo_best_55 : decode prog_10_method_19_code 55 = .ok (.goto 4, 3) := by decide +kernel
theorem d_Mo_best_58 : decode prog_10_method_19_code 58 = .ok (.iload_n 2, 1) := by decide +kernel
theorem d_Mo_best_59 : decode prog_10_method_19_code 59 = .ok (.istore_n 2, 1) := by decide +kernel
theorem d_Mo_best_60 : decode prog_10_method_19_code 60 = .ok (.aload_n 0, 1) := by decide +kernel
theorem d_Mo_best_61 : decode prog_10_method_19_code 61 = .ok (.iload_n 1, 1) := by decide +kernel
theorem d_Mo_best_62 : decode prog_10_method_19_code 62 = .ok (.iload 5, 2) := by decide +kernel
theorem d_Mo_best_64 : decode prog_10_method_19_code 64 = .ok (.invokevirtual 71, 3) := by decide +kernel
theorem d_Mo_best_67 : decode prog_10_method_19_code 67 = .ok (.iload_n 3, 1) := by decide +kernel
theorem d_Mo_best_68 : decode prog_10_method_19_code 68 = .ok (.if_icmp .le 13, 3) := by decide +kernel
theorem d_Mo_best_71 : decode prog_10_method_19_code 71 = .ok (.aload_n 0, 1) := by decide +kernel
theorem d_Mo_best_72 : decode prog_10_method_19_code 72 = .ok (.iload_n 1, 1) := by decide +kernel
theorem d_Mo_best_73 : decode prog_10_method_19_code 73 = .ok (.iload 5, 2) := by decide +kernel
theorem d_Mo_best_75 : decode prog_10_method_19_code 75 = .ok (.invokevirtual 71, 3) := by decide +kernel
theorem d_Mo_best_78 : decode prog_10_method_19_code 78 = .ok (.goto 4, 3) := by decide +kernel
theorem d_Mo_best_81 : decode prog_10_method_19_code 81 = .ok (.iload_n 3, 1) := by decide +kernel
theorem d_Mo_best_82 : decode prog_10_method_19_code 82 = .ok (.istore_n 3, 1) := by decide +kernel
theorem d_Mo_best_83 : decode prog_10_method_19_code 83 = .ok (.iinc 5 1, 3) := by decide +kernel
theorem d_Mo_best_86 : decode prog_10_method_19_code 86 = .ok (.goto (-74), 3) := by decide +kernel
theorem d_Mo_best_89 : decode prog_10_method_19_code 89 = .ok (.iload_n 3, 1) := by decide +kernel
theorem d_Mo_best_90 : decode prog_10_method_19_code 90 = .ok (.aload_n 0, 1) := by decide +kernel
theorem d_Mo_best_91 : decode prog_10_method_19_code 91 = .ok (.getfield 7, 3) := by decide +kernel
theorem d_Mo_best_94 : decode prog_10_method_19_code 94 = .ok (.iconst 2, 1) := by decide +kernel
theorem d_Mo_best_95 : decode prog_10_method_19_code 95 = .ok (.iaload, 1) := by decide +kernel
theorem d_Mo_best_96 : decode prog_10_method_19_code 96 = .ok (.if_icmp .ge 9, 3) := by decide +kernel
theorem d_Mo_best_99 : decode prog_10_method_19_code 99 = .ok (.sipush (-10004), 3) := by decide +kernel
theorem d_Mo_best_102 : decode prog_10_method_19_code 102 = .ok (.goto 4, 3) := by decide +kernel
theorem d_Mo_best_105 : decode prog_10_method_19_code 105 = .ok (.iload_n 2, 1) := by decide +kernel
theorem d_Mo_best_106 : decode prog_10_method_19_code 106 = .ok (.ireturn, 1) := by decide +kernel
theorem d_Mo_saves_0 : decode prog_10_method_20_code 0 = .ok (.aload_n 0, 1) := by decide +kernel
theorem d_Mo_saves_1 : decode prog_10_method_20_code 1 = .ok (.iload_n 1, 1) := by decide +kernel
theorem d_Mo_saves_2 : decode prog_10_method_20_code 2 = .ok (.aload_n 0, 1) := by decide +kernel
theorem d_Mo_saves_3 : decode prog_10_method_20_code 3 = .ok (.iload_n 1, 1) := by decide +kernel
theorem d_Mo_saves_4 : decode prog_10_method_20_code 4 = .ok (.invokevirtual 82, 3) := by decide +kernel
theorem d_Mo_saves_7 : decode prog_10_method_20_code 7 = .ok (.invokevirtual 71, 3) := by decide +kernel
theorem d_Mo_saves_10 : decode prog_10_method_20_code 10 = .ok (.aload_n 0, 1) := by decide +kernel
theorem d_Mo_saves_11 : decode prog_10_method_20_code 11 = .ok (.getfield 7, 3) := by decide +kernel
theorem d_Mo_saves_14 : decode prog_10_method_20_code 14 = .ok (.iconst 4, 1) := by decide +kernel
theorem d_Mo_saves_15 : decode prog_10_method_20_code 15 = .ok (.iaload, 1) := by decide +kernel
theorem d_Mo_saves_16 : decode prog_10_method_20_code 16 = .ok (.imul, 1) := by decide +kernel
theorem d_Mo_saves_17 : decode prog_10_method_20_code 17 = .ok (.aload_n 0, 1) := by decide +kernel
theorem d_Mo_saves_18 : decode prog_10_method_20_code 18 = .ok (.getfield 7, 3) := by decide +kernel
theorem d_Mo_saves_21 : decode prog_10_method_20_code 21 = .ok (.iconst 5, 1) := by decide +kernel
theorem d_Mo_saves_22 : decode prog_10_method_20_code 22 = .ok (.iaload, 1) := by decide +kernel
theorem d_Mo_saves_23 : decode prog_10_method_20_code 23 = .ok (.isub, 1) := by decide +kernel
theorem d_Mo_saves_24 : decode prog_10_method_20_code 24 = .ok (.ireturn, 1) := by decide +kernel
theorem d_Mo_found_0 : decode prog_10_method_21_code 0 = .ok (.aload_n 0, 1) := by decide +kernel
theorem d_Mo_found_1 : decode prog_10_method_21_code 1 = .ok (.iload_n 1, 1) := by decide +kernel
theorem d_Mo_found_2 : decode prog_10_method_21_code 2 = .ok (.invokevirtual 60, 3) := by decide +kernel
theorem d_Mo_found_5 : decode prog_10_method_21_code 5 = .ok (.ifCond .eq 12, 3) := by decide +kernel
theorem d_Mo_found_8 : decode prog_10_method_21_code 8 = .ok (.iload_n 2, 1) := by decide +kernel
theorem d_Mo_found_9 : decode prog_10_method_21_code 9 = .ok (.iconst 0, 1) := by decide +kernel
theorem d_Mo_found_10 : decode prog_10_method_21_code 10 = .ok (.iconst 3, 1) := by decide +kernel
theorem d_Mo_found_11 : decode prog_10_method_21_code 11 = .ok (.invokestatic 53, 3) := by decide +kernel
theorem d_Mo_found_14 : decode prog_10_method_21_code 14 = .ok (.ifCond .ne 7, 3) := by decide +kernel
theorem d_Mo_found_17 : decode prog_10_method_21_code 17 = .ok (.sipush (-10001), 3) := by decide +kernel
theorem d_Mo_found_20 : decode prog_10_method_21_code 20 = .ok (.ireturn, 1) := by decide +kernel
theorem d_Mo_found_21 : decode prog_10_method_21_code 21 = .ok (.iload_n 2, 1) := by decide +kernel
theorem d_Mo_found_22 : decode prog_10_method_21_code 22 = .ok (.iconst 3, 1) := by decide +kernel
theorem d_Mo_found_23 : decode prog_10_method_21_code 23 = .ok (.if_icmp .ne 9, 3) := by decide +kernel
theorem d_Mo_found_26 : decode prog_10_method_21_code 26 = .ok (.aload_n 0, 1) := by decide +kernel
theorem d_Mo_found_27 : decode prog_10_method_21_code 27 = .ok (.iload_n 1, 1) := by decide +kernel
theorem d_Mo_found_28 : decode prog_10_method_21_code 28 = .ok (.invokevirtual 85, 3) := by decide +kernel
theorem d_Mo_found_31 : decode prog_10_method_21_code 31 = .ok (.ireturn, 1) := by decide +kernel
theorem d_Mo_found_32 : decode prog_10_method_21_code 32 = .ok (.aload_n 0, 1) := by decide +kernel
theorem d_Mo_found_33 : decode prog_10_method_21_code 33 = .ok (.iload_n 1, 1) := by decide +kernel
theorem d_Mo_found_34 : decode prog_10_method_21_code 34 = .ok (.invokevirtual 82, 3) := by decide +kernel
theorem d_Mo_found_37 : decode prog_10_method_21_code 37 = .ok (.istore_n 3, 1) := by decide +kernel
theorem d_Mo_found_38 : decode prog_10_method_21_code 38 = .ok (.iload_n 3, 1) := by decide +kernel
theorem d_Mo_found_39 : decode prog_10_method_21_code 39 = .ok (.ifCond .lt 7, 3) := by decide +kernel
theorem d_Mo_found_42 : decode prog_10_method_21_code 42 = .ok (.iload_n 2, 1) := by decide +kernel
theorem d_Mo_found_43 : decode prog_10_method_21_code 43 = .ok (.ifCond .ne 7, 3) := by decide +kernel
theorem d_Mo_found_46 : decode prog_10_method_21_code 46 = .ok (.iload_n 3, 1) := by decide +kernel
theorem d_Mo_found_47 : decode prog_10_method_21_code 47 = .ok (.goto 22, 3) := by decide +kernel
theorem d_Mo_found_50 : decode prog_10_method_21_code 50 = .ok (.iload_n 2, 1) := by decide +kernel
theorem d_Mo_found_51 : decode prog_10_method_21_code 51 = .ok (.iconst 1, 1) := by decide +kernel
theorem d_Mo_found_52 : decode prog_10_method_21_code 52 = .ok (.if_icmp .ne 12, 3) := by decide +kernel
theorem d_Mo_found_55 : decode prog_10_method_21_code 55 = .ok (.aload_n 0, 1) := by decide +kernel
theorem d_Mo_found_56 : decode prog_10_method_21_code 56 = .ok (.iload_n 1, 1) := by decide +kernel
theorem d_Mo_found_57 : decode prog_10_method_21_code 57 = .ok (.iload_n 3, 1) := by decide +kernel
theorem d_Mo_found_58 : decode prog_10_method_21_code 58 = .ok (.invokevirtual 71, 3) := by decide +kernel
theorem d_Mo_found_61 : decode prog_10_method_21_code 61 = .ok (.goto 8, 3) := by decide +kernel
theorem d_Mo_found_64 : decode prog_10_method_21_code 64 = .ok (.aload_n 0, 1) := by decide +kernel
theorem d_Mo_found_65 : decode prog_10_method_21_code 65 = .ok (.iload_n 1, 1) := by decide +kernel
theorem d_Mo_found_66 : decode prog_10_method_21_code 66 = .ok (.invokevirtual 88, 3) := by decide +kernel
theorem d_Mo_found_69 : decode prog_10_method_21_code 69 = .ok (.ireturn, 1) := by decide +kernel
theorem d_Mo_isCopy_0 : decode prog_10_method_22_code 0 = .ok (.aload_n 0, 1) := by decide +kernel
theorem d_Mo_isCopy_1 : decode prog_10_method_22_code 1 = .ok (.iload_n 1, 1) := by decide +kernel
theorem d_Mo_isCopy_2 : decode prog_10_method_22_code 2 = .ok (.invokevirtual 60, 3) := by decide +kernel
theorem d_Mo_isCopy_5 : decode prog_10_method_22_code 5 = .ok (.ifCond .ne 7, 3) := by decide +kernel
theorem d_Mo_isCopy_8 : decode prog_10_method_22_code 8 = .ok (.sipush (-10001), 3) := by decide +kernel
theorem d_Mo_isCopy_11 : decode prog_10_method_22_code 11 = .ok (.ireturn, 1) := by decide +kernel
theorem d_Mo_isCopy_12 : decode prog_10_method_22_code 12 = .ok (.iload_n 2, 1) := by decide +kernel
theorem d_Mo_isCopy_13 : decode prog_10_method_22_code 13 = .ok (.iconst 1, 1) := by decide +kernel
theorem d_Mo_isCopy_14 : decode prog_10_method_22_code 14 = .ok (.aload_n 0, 1) := by decide +kernel
theorem d_Mo_isCopy_15 : decode prog_10_method_22_code 15 = .ok (.getfield 7, 3) := by decide +kernel
theorem d_Mo_isCopy_18 : decode prog_10_method_22_code 18 = .ok (.iconst 1, 1) := by decide +kernel
theorem d_Mo_isCopy_19 : decode prog_10_method_22_code 19 = .ok (.iaload, 1) := by decide +kernel
theorem d_Mo_isCopy_20 : decode prog_10_method_22_code 20 = .ok (.invokestatic 53, 3) := by decide +kernel
theorem d_Mo_isCopy_23 : decode prog_10_method_22_code 23 = .ok (.ifCond .eq 27, 3) := by decide +kernel
theorem d_Mo_isCopy_26 : decode prog_10_method_22_code 26 = .ok (.iload_n 2, 1) := by decide +kernel
theorem d_Mo_isCopy_27 : decode prog_10_method_22_code 27 = .ok (.iload_n 1, 1) := by decide +kernel
theorem d_Mo_isCopy_28 : decode prog_10_method_22_code 28 = .ok (.if_icmp .gt 22, 3) := by decide +kernel
theorem d_Mo_isCopy_31 : decode prog_10_method_22_code 31 = .ok (.iload_n 3, 1) := by decide +kernel
theorem d_Mo_isCopy_32 : decode prog_10_method_22_code 32 = .ok (.aload_n 0, 1) := by decide +kernel
theorem d_Mo_isCopy_33 : decode prog_10_method_22_code 33 = .ok (.getfield 7, 3) := by decide +kernel
theorem d_Mo_isCopy_36 : decode prog_10_method_22_code 36 = .ok (.iconst 2, 1) := by decide +kernel
theorem d_Mo_isCopy_37 : decode prog_10_method_22_code 37 = .ok (.iaload, 1) := by decide +kernel
theorem d_Mo_isCopy_38 : decode prog_10_method_22_code 38 = .ok (.bipush 20, 2) := by decide +kernel
theorem d_Mo_isCopy_40 : decode prog_10_method_22_code 40 = .ok (.invokestatic 53, 3) := by decide +kernel
theorem d_Mo_isCopy_43 : decode prog_10_method_22_code 43 = .ok (.ifCond .eq 7, 3) := by decide +kernel
theorem d_Mo_isCopy_46 : decode prog_10_method_22_code 46 = .ok (.iconst 1, 1) := by decide +kernel
theorem d_Mo_isCopy_47 : decode prog_10_method_22_code 47 = .ok (.goto 4, 3) := by decide +kernel
theorem d_Mo_isCopy_50 : decode prog_10_method_22_code 50 = .ok (.iconst 0, 1) := by decide +kernel
theorem d_Mo_isCopy_51 : decode prog_10_method_22_code 51 = .ok (.istore 4, 2) := by decide +kernel
theorem d_Mo_isCopy_53 : decode prog_10_method_22_code 53 = .ok (.iload 4, 2) := by decide +kernel
theorem d_Mo_isCopy_55 : decode prog_10_method_22_code 55 = .ok (.ifCond .eq 17, 3) := by decide +kernel
theorem d_Mo_isCopy_58 : decode prog_10_method_22_code 58 = .ok (.aload_n 0, 1) := by decide +kernel
theorem d_Mo_isCopy_59 : decode prog_10_method_22_code 59 = .ok (.iload_n 1, 1) := by decide +kernel
theorem d_Mo_isCopy_60 : decode prog_10_method_22_code 60 = .ok (.iload_n 2, 1) := by decide +kernel
theorem d_Mo_isCopy_61 : decode prog_10_method_22_code 61 = .ok (.invokevirtual 71, 3) := by decide +kernel
theorem d_Mo_isCopy_64 : decode prog_10_method_22_code 64 = .ok (.iload_n 3, 1) := by decide +kernel
theorem d_Mo_isCopy_65 : decode prog_10_method_22_code 65 = .ok (.if_icmp .lt 7, 3) := by decide +kernel
theorem d_Mo_isCopy_68 : decode prog_10_method_22_code 68 = .ok (.iconst 1, 1) := by decide +kernel
theorem d_Mo_isCopy_69 : decode prog_10_method_22_code 69 = .ok (.goto 4, 3) := by decide +kernel
theorem d_Mo_isCopy_72 : decode prog_10_method_22_code 72 = .ok (.iconst 0, 1) := by decide +kernel
theorem d_Mo_isCopy_73 : decode prog_10_method_22_code 73 = .ok (.ireturn, 1) := by decide +kernel
theorem d_Mo_savesMore_0 : decode prog_10_method_23_code 0 = .ok (.aload_n 0, 1) := by decide +kernel
theorem d_Mo_savesMore_1 : decode prog_10_method_23_code 1 = .ok (.iload_n 1, 1) := by decide +kernel
theorem d_Mo_savesMore_2 : decode prog_10_method_23_code 2 = .ok (.invokevirtual 60, 3) := by decide +kernel
theorem d_Mo_savesMore_5 : decode prog_10_method_23_code 5 = .ok (.ifCond .eq 24, 3) := by decide +kernel
theorem d_Mo_savesMore_8 : decode prog_10_method_23_code 8 = .ok (.aload_n 0, 1) := by decide +kernel
theorem d_Mo_savesMore_9 : decode prog_10_method_23_code 9 = .ok (.iload_n 1, 1) := by decide +kernel
theorem d_Mo_savesMore_10 : decode prog_10_method_23_code 10 = .ok (.invokevirtual 82, 3) := by decide +kernel
theorem d_Mo_savesMore_13 : decode prog_10_method_23_code 13 = .ok (.ifCond .le 16, 3) := by decide +kernel
theorem d_Mo_savesMore_16 : decode prog_10_method_23_code 16 = .ok (.aload_n 0, 1) := by decide +kernel
theorem d_Mo_savesMore_17 : decode prog_10_method_23_code 17 = .ok (.iload_n 1, 1) := by decide +kernel
theorem d_Mo_savesMore_18 : decode prog_10_method_23_code 18 = .ok (.invokevirtual 88, 3) := by decide +kernel
theorem d_Mo_savesMore_21 : decode prog_10_method_23_code 21 = .ok (.iload_n 2, 1) := by decide +kernel
theorem d_Mo_savesMore_22 : decode prog_10_method_23_code 22 = .ok (.if_icmp .le 7, 3) := by decide +kernel
theorem d_Mo_savesMore_25 : decode prog_10_method_23_code 25 = .ok (.iconst 1, 1) := by decide +kernel
theorem d_Mo_savesMore_26 : decode prog_10_method_23_code 26 = .ok (.goto 4, 3) := by decide +kernel
theorem d_Mo_savesMore_29 : decode prog_10_method_23_code 29 = .ok (.iconst 0, 1) := by decide +kernel
theorem d_Mo_savesMore_30 : decode prog_10_method_23_code 30 = .ok (.ireturn, 1) := by decide +kernel
theorem d_Mo_takes_0 : decode prog_10_method_24_code 0 = .ok (.aload_n 0, 1) := by decide +kernel
theorem d_Mo_takes_1 : decode prog_10_method_24_code 1 = .ok (.iload_n 2, 1) := by decide +kernel
theorem d_Mo_takes_2 : decode prog_10_method_24_code 2 = .ok (.invokevirtual 82, 3) := by decide +kernel
theorem d_Mo_takes_5 : decode prog_10_method_24_code 5 = .ok (.ifCond .lt 7, 3) := by decide +kernel
theorem d_Mo_takes_8 : decode prog_10_method_24_code 8 = .ok (.iload_n 1, 1) := by decide +kernel
theorem d_Mo_takes_9 : decode prog_10_method_24_code 9 = .ok (.ifCond .ne 17, 3) := by decide +kernel
theorem d_Mo_takes_12 : decode prog_10_method_24_code 12 = .ok (.aload_n 0, 1) := by decide +kernel
theorem d_Mo_takes_13 : decode prog_10_method_24_code 13 = .ok (.iload_n 2, 1) := by decide +kernel
theorem d_Mo_takes_14 : decode prog_10_method_24_code 14 = .ok (.invokevirtual 82, 3) := by decide +kernel
theorem d_Mo_takes_17 : decode prog_10_method_24_code 17 = .ok (.ifCond .le 7, 3) := by decide +kernel
theorem d_Mo_takes_20 : decode prog_10_method_24_code 20 = .ok (.iconst 1, 1) := by decide +kernel
theorem d_Mo_takes_21 : decode prog_10_method_24_code 21 = .ok (.goto 4, 3) := by decide +kernel
theorem d_Mo_takes_24 : decode prog_10_method_24_code 24 = .ok (.iconst 0, 1) := by decide +kernel
theorem d_Mo_takes_25 : decode prog_10_method_24_code 25 = .ok (.ireturn, 1) := by decide +kernel
theorem d_Mo_takes_26 : decode prog_10_method_24_code 26 = .ok (.aload_n 0, 1) := by decide +kernel
theorem d_Mo_takes_27 : decode prog_10_method_24_code 27 = .ok (.iload_n 2, 1) := by decide +kernel
theorem d_Mo_takes_28 : decode prog_10_method_24_code 28 = .ok (.invokevirtual 88, 3) := by decide +kernel
theorem d_Mo_takes_31 : decode prog_10_method_24_code 31 = .ok (.istore_n 3, 1) := by decide +kernel
theorem d_Mo_takes_32 : decode prog_10_method_24_code 32 = .ok (.iload_n 3, 1) := by decide +kernel
theorem d_Mo_takes_33 : decode prog_10_method_24_code 33 = .ok (.ifCond .le 29, 3) := by decide +kernel
theorem d_Mo_takes_36 : decode prog_10_method_24_code 36 = .ok (.aload_n 0, 1) := by decide +kernel
theorem d_Mo_takes_37 : decode prog_10_method_24_code 37 = .ok (.iload_n 2, 1) := by decide +kernel
theorem d_Mo_takes_38 : decode prog_10_method_24_code 38 = .ok (.iconst 1, 1) := by decide +kernel
theorem d_Mo_takes_39 : decode prog_10_method_24_code 39 = .ok (.iadd, 1) := by decide +kernel
theorem d_Mo_takes_40 : decode prog_10_method_24_code 40 = .ok (.iload_n 3, 1) := by decide +kernel
theorem d_Mo_takes_41 : decode prog_10_method_24_code 41 = .ok (.invokevirtual 91, 3) := by decide +kernel
theorem d_Mo_takes_44 : decode prog_10_method_24_code 44 = .ok (.ifCond .ne 18, 3) := by decide +kernel
theorem d_Mo_takes_47 : decode prog_10_method_24_code 47 = .ok (.aload_n 0, 1) := by decide +kernel
theorem d_Mo_takes_48 : decode prog_10_method_24_code 48 = .ok (.iload_n 2, 1) := by decide +kernel
theorem d_Mo_takes_49 : decode prog_10_method_24_code 49 = .ok (.iconst 2, 1) := by decide +kernel
theorem d_Mo_takes_50 : decode prog_10_method_24_code 50 = .ok (.iadd, 1) := by decide +kernel
theorem d_Mo_takes_51 : decode prog_10_method_24_code 51 = .ok (.iload_n 3, 1) := by decide +kernel
theorem d_Mo_takes_52 : decode prog_10_method_24_code 52 = .ok (.invokevirtual 91, 3) := by decide +kernel
theorem d_Mo_takes_55 : decode prog_10_method_24_code 55 = .ok (.ifCond .ne 7, 3) := by decide +kernel
theorem d_Mo_takes_58 : decode prog_10_method_24_code 58 = .ok (.iconst 1, 1) := by decide +kernel
theorem d_Mo_takes_59 : decode prog_10_method_24_code 59 = .ok (.goto 4, 3) := by decide +kernel
theorem d_Mo_takes_62 : decode prog_10_method_24_code 62 = .ok (.iconst 0, 1) := by decide +kernel
theorem d_Mo_takes_63 : decode prog_10_method_24_code 63 = .ok (.ireturn, 1) := by decide +kernel
theorem d_Mo_weighs_0 : decode prog_10_method_25_code 0 = .ok (.iconst 0, 1) := by decide +kernel
theorem d_Mo_weighs_1 : decode prog_10_method_25_code 1 = .ok (.istore_n 2, 1) := by decide +kernel
theorem d_Mo_weighs_2 : decode prog_10_method_25_code 2 = .ok (.aload_n 0, 1) := by decide +kernel
theorem d_Mo_weighs_3 : decode prog_10_method_25_code 3 = .ok (.getfield 31, 3) := by decide +kernel
theorem d_Mo_weighs_6 : decode prog_10_method_25_code 6 = .ok (.iload_n 1, 1) := by decide +kernel
theorem d_Mo_weighs_7 : decode prog_10_method_25_code 7 = .ok (.aload_n 0, 1) := by decide +kernel
theorem d_Mo_weighs_8 : decode prog_10_method_25_code 8 = .ok (.getfield 7, 3) := by decide +kernel
theorem d_Mo_weighs_11 : decode prog_10_method_25_code 11 = .ok (.iconst 4, 1) := by decide +kernel
theorem d_Mo_weighs_12 : decode prog_10_method_25_code 12 = .ok (.iaload, 1) := by decide +kernel
theorem d_Mo_weighs_13 : decode prog_10_method_25_code 13 = .ok (.aload_n 0, 1) := by decide +kernel
theorem d_Mo_weighs_14 : decode prog_10_method_25_code 14 = .ok (.getfield 31, 3) := by decide +kernel
theorem d_Mo_weighs_17 : decode prog_10_method_25_code 17 = .ok (.iload_n 1, 1) := by decide +kernel
theorem d_Mo_weighs_18 : decode prog_10_method_25_code 18 = .ok (.iconst 1, 1) := by decide +kernel
theorem d_Mo_weighs_19 : decode prog_10_method_25_code 19 = .ok (.iadd, 1) := by decide +kernel
theorem d_Mo_weighs_20 : decode prog_10_method_25_code 20 = .ok (.iaload, 1) := by decide +kernel
theorem d_Mo_weighs_21 : decode prog_10_method_25_code 21 = .ok (.iadd, 1) := by decide +kernel
theorem d_Mo_weighs_22 : decode prog_10_method_25_code 22 = .ok (.iastore, 1) := by decide +kernel
theorem d_Mo_weighs_23 : decode prog_10_method_25_code 23 = .ok (.aload_n 0, 1) := by decide +kernel
theorem d_Mo_weighs_24 : decode prog_10_method_25_code 24 = .ok (.getfield 34, 3) := by decide +kernel
theorem d_Mo_weighs_27 : decode prog_10_method_25_code 27 = .ok (.iload_n 1, 1) := by decide +kernel
theorem d_Mo_weighs_28 : decode prog_10_method_25_code 28 = .ok (.iconst 1, 1) := by decide +kernel
theorem d_Mo_weighs_29 : decode prog_10_method_25_code 29 = .ok (.iastore, 1) := by decide +kernel
theorem d_Mo_weighs_30 : decode prog_10_method_25_code 30 = .ok (.aload_n 0, 1) := by decide +kernel
theorem d_Mo_weighs_31 : decode prog_10_method_25_code 31 = .ok (.getfield 37, 3) := by decide +kernel
theorem d_Mo_weighs_34 : decode prog_10_method_25_code 34 = .ok (.iload_n 1, 1) := by decide +kernel
theorem d_Mo_weighs_35 : decode prog_10_method_25_code 35 = .ok (.iconst 0, 1) := by decide +kernel
theorem d_Mo_weighs_36 : decode prog_10_method_25_code 36 = .ok (.iastore, 1) := by decide +kernel
theorem d_Mo_weighs_37 : decode prog_10_method_25_code 37 = .ok (.iconst 1, 1) := by decide +kernel
theorem d_Mo_weighs_38 : decode prog_10_method_25_code 38 = .ok (.istore_n 3, 1) := by decide +kernel
theorem d_Mo_weighs_39 : decode prog_10_method_25_code 39 = .ok (.iload_n 3, 1) := by decide +kernel
theorem d_Mo_weighs_40 : decode prog_10_method_25_code 40 = .ok (.iload_n 1, 1) := by decide +kernel
theorem d_Mo_weighs_41 : decode prog_10_method_25_code 41 = .ok (.if_icmp .gt 157, 3) := by decide +kernel
theorem d_Mo_weighs_44 : decode prog_10_method_25_code 44 = .ok (.iload_n 2, 1) := by decide +kernel
theorem d_Mo_weighs_45 : decode prog_10_method_25_code 45 = .ok (.aload_n 0, 1) := by decide +kernel
theorem d_Mo_weighs_46 : decode prog_10_method_25_code 46 = .ok (.getfield 7, 3) := by decide +kernel
theorem d_Mo_weighs_49 : decode prog_10_method_25_code 49 = .ok (.iconst 3, 1) := by decide +kernel
theorem d_Mo_weighs_50 : decode prog_10_method_25_code 50 = .ok (.iaload, 1) := by decide +kernel
theorem d_Mo_weighs_51 : decode prog_10_method_25_code 51 = .ok (.if_icmp .ge 147, 3) := by decide +kernel
theorem d_Mo_weighs_54 : decode prog_10_method_25_code 54 = .ok (.aload_n 0, 1) := by decide +kernel
theorem d_Mo_weighs_55 : decode prog_10_method_25_code 55 = .ok (.iload_n 1, 1) := by decide +kernel
theorem d_Mo_weighs_56 : decode prog_10_method_25_code 56 = .ok (.iload_n 3, 1) := by decide +kernel
theorem d_Mo_weighs_57 : decode prog_10_method_25_code 57 = .ok (.invokevirtual 75, 3) := by decide +kernel
theorem d_Mo_weighs_60 : decode prog_10_method_25_code 60 = .ok (.ifCond .eq 132, 3) := by decide +kernel
theorem d_Mo_weighs_63 : decode prog_10_method_25_code 63 = .ok (.iinc 2 1, 3) := by decide +kernel
theorem d_Mo_weighs_66 : decode prog_10_method_25_code 66 = .ok (.aload_n 0, 1) := by decide +kernel
theorem d_Mo_weighs_67 : decode prog_10_method_25_code 67 = .ok (.iload_n 1, 1) := by decide +kernel
theorem d_Mo_weighs_68 : decode prog_10_method_25_code 68 = .ok (.iload_n 3, 1) := by decide +kernel
theorem d_Mo_weighs_69 : decode prog_10_method_25_code 69 = .ok (.invokevirtual 71, 3) := by decide +kernel
theorem d_Mo_weighs_72 : decode prog_10_method_25_code 72 = .ok (.istore 4, 2) := by decide +kernel
theorem d_Mo_weighs_74 : decode prog_10_method_25_code 74 = .ok (.iload 4, 2) := by decide +kernel
theorem d_Mo_weighs_76 : decode prog_10_method_25_code 76 = .ok (.aload_n 0, 1) := by decide +kernel
theorem d_Mo_weighs_77 : decode prog_10_method_25_code 77 = .ok (.getfield 7, 3) := by decide +kernel
theorem d_Mo_weighs_80 : decode prog_10_method_25_code 80 = .ok (.iconst 2, 1) := by decide +kernel
theorem d_Mo_weighs_81 : decode prog_10_method_25_code 81 = .ok (.iaload, 1) := by decide +kernel
theorem d_Mo_weighs_82 : decode prog_10_method_25_code 82 = .ok (.if_icmp .lt 110, 3) := by decide +kernel
theorem d_Mo_weighs_85 : decode prog_10_method_25_code 85 = .ok (.aload_n 0, 1) := by decide +kernel
theorem d_Mo_weighs_86 : decode prog_10_method_25_code 86 = .ok (.getfield 7, 3) := by decide +kernel
theorem d_Mo_weighs_89 : decode prog_10_method_25_code 89 = .ok (.iconst 5, 1) := by decide +kernel
theorem d_Mo_weighs_90 : decode prog_10_method_25_code 90 = .ok (.iaload, 1) := by decide +kernel
theorem d_Mo_weighs_91 : decode prog_10_method_25_code 91 = .ok (.aload_n 0, 1) := by decide +kernel
theorem d_Mo_weighs_92 : decode prog_10_method_25_code 92 = .ok (.getfield 31, 3) := by decide +kernel
theorem d_Mo_weighs_95 : decode prog_10_method_25_code 95 = .ok (.iload_n 1, 1) := by decide +kernel
theorem d_Mo_weighs_96 : decode prog_10_method_25_code 96 = .ok (.iload 4, 2) := by decide +kernel
theorem d_Mo_weighs_98 : decode prog_10_method_25_code 98 = .ok (.iadd, 1) := by decide +kernel
theorem d_Mo_weighs_99 : decode prog_10_method_25_code 99 = .ok (.iaload, 1) := by decide +kernel
theorem d_Mo_weighs_100 : decode prog_10_method_25_code 100 = .ok (.iadd, 1) := by decide +kernel
theorem d_Mo_weighs_101 : decode prog_10_method_25_code 101 = .ok (.istore 5, 2) := by decide +kernel
theorem d_Mo_weighs_103 : decode prog_10_method_25_code 103 = .ok (.aload_n 0, 1) := by decide +kernel
theorem d_Mo_weighs_104 : decode prog_10_method_25_code 104 = .ok (.getfield 34, 3) := by decide +kernel
theorem d_Mo_weighs_107 : decode prog_10_method_25_code 107 = .ok (.iload_n 1, 1) := by decide +kernel
theorem d_Mo_weighs_108 : decode prog_10_method_25_code 108 = .ok (.iload 5, 2) := by decide +kernel
theorem d_Mo_weighs_110 : decode prog_10_method_25_code 110 = .ok (.aload_n 0, 1) := by decide +kernel
theorem d_Mo_weighs_111 : decode prog_10_method_25_code 111 = .ok (.getfield 31, 3) := by decide +kernel
theorem d_Mo_weighs_114 : decode prog_10_method_25_code 114 = .ok (.iload_n 1, 1) := by decide +kernel
theorem d_Mo_weighs_115 : decode prog_10_method_25_code 115 = .ok (.iaload, 1) := by decide +kernel
theorem d_Mo_weighs_116 : decode prog_10_method_25_code 116 = .ok (.if_icmp .ge 8, 3) := by decide +kernel
theorem d_Mo_weighs_119 : decode prog_10_method_25_code 119 = .ok (.iload 4, 2) := by decide +kernel
theorem d_Mo_weighs_121 : decode prog_10_method_25_code 121 = .ok (.goto 9, 3) := by decide +kernel
theorem d_Mo_weighs_124 : decode prog_10_method_25_code 124 = .ok (.aload_n 0, 1) := by decide +kernel
theorem d_Mo_weighs_125 : decode prog_10_method_25_code 125 = .ok (.getfield 34, 3) := by decide +kernel
theorem d_Mo_weighs_128 : decode prog_10_method_25_code 128 = .ok (.iload_n 1, 1) := by decide +kernel
theorem d_Mo_weighs_129 : decode prog_10_method_25_code 129 = .ok (.iaload, 1) := by decide +kernel
theorem d_Mo_weighs_130 : decode prog_10_method_25_code 130 = .ok (.iastore, 1) := by decide +kernel
theorem d_Mo_weighs_131 : decode prog_10_method_25_code 131 = .ok (.aload_n 0, 1) := by decide +kernel
theorem d_Mo_weighs_132 : decode prog_10_method_25_code 132 = .ok (.getfield 37, 3) := by decide +kernel
theorem d_Mo_weighs_135 : decode prog_10_method_25_code 135 = .ok (.iload_n 1, 1) := by decide +kernel
theorem d_Mo_weighs_136 : decode prog_10_method_25_code 136 = .ok (.iload 5, 2) := by decide +kernel
theorem d_Mo_weighs_138 : decode prog_10_method_25_code 138 = .ok (.aload_n 0, 1) := by decide +kernel
theorem d_Mo_weighs_139 : decode prog_10_method_25_code 139 = .ok (.getfield 31, 3) := by decide +kernel
theorem d_Mo_weighs_142 : decode prog_10_method_25_code 142 = .ok (.iload_n 1, 1) := by decide +kernel
theorem d_Mo_weighs_143 : decode prog_10_method_25_code 143 = .ok (.iaload, 1) := by decide +kernel
theorem d_Mo_weighs_144 : decode prog_10_method_25_code 144 = .ok (.if_icmp .ge 7, 3) := by decide +kernel
theorem d_Mo_weighs_147 : decode prog_10_method_25_code 147 = .ok (.iload_n 3, 1) := by decide +kernel
theorem d_Mo_weighs_148 : decode prog_10_method_25_code 148 = .ok (.goto 9, 3) := by decide +kernel
theorem d_Mo_weighs_151 : decode prog_10_method_25_code 151 = .ok (.aload_n 0, 1) := by decide +kernel
theorem d_Mo_weighs_152 : decode prog_10_method_25_code 152 = .ok (.getfield 37, 3) := by decide +kernel
theorem d_Mo_weighs_155 : decode prog_10_method_25_code 155 = .ok (.iload_n 1, 1) := by decide +kernel
theorem d_Mo_weighs_156 : decode prog_10_method_25_code 156 = .ok (.iaload, 1) := by decide +kernel
theorem d_Mo_weighs_157 : decode prog_10_method_25_code 157 = .ok (.iastore, 1) := by decide +kernel
theorem d_Mo_weighs_158 : decode prog_10_method_25_code 158 = .ok (.aload_n 0, 1) := by decide +kernel
theorem d_Mo_weighs_159 : decode prog_10_method_25_code 159 = .ok (.getfield 31, 3) := by decide +kernel
theorem d_Mo_weighs_162 : decode prog_10_method_25_code 162 = .ok (.iload_n 1, 1) := by decide +kernel
theorem d_Mo_weighs_163 : decode prog_10_method_25_code 163 = .ok (.iload 5, 2) := by decide +kernel
theorem d_Mo_weighs_165 : decode prog_10_method_25_code 165 = .ok (.aload_n 0, 1) := by decide +kernel
theorem d_Mo_weighs_166 : decode prog_10_method_25_code 166 = .ok (.getfield 31, 3) := by decide +kernel
theorem d_Mo_weighs_169 : decode prog_10_method_25_code 169 = .ok (.iload_n 1, 1) := by decide +kernel
theorem d_Mo_weighs_170 : decode prog_10_method_25_code 170 = .ok (.iaload, 1) := by decide +kernel
theorem d_Mo_weighs_171 : decode prog_10_method_25_code 171 = .ok (.if_icmp .ge 8, 3) := by decide +kernel
theorem d_Mo_weighs_174 : decode prog_10_method_25_code 174 = .ok (.iload 5, 2) := by decide +kernel
theorem d_Mo_weighs_176 : decode prog_10_method_25_code 176 = .ok (.goto 9, 3) := by decide +kernel
theorem d_Mo_weighs_179 : decode prog_10_method_25_code 179 = .ok (.aload_n 0, 1) := by decide +kernel
theorem d_Mo_weighs_180 : decode prog_10_method_25_code 180 = .ok (.getfield 31, 3) := by decide +kernel
theorem d_Mo_weighs_183 : decode prog_10_method_25_code 183 = .ok (.iload_n 1, 1) := by decide +kernel
theorem d_Mo_weighs_184 : decode prog_10_method_25_code 184 = .ok (.iaload, 1) := by decide +kernel
theorem d_Mo_weighs_185 : decode prog_10_method_25_code 185 = .ok (.iastore, 1) := by decide +kernel
theorem d_Mo_weighs_186 : decode prog_10_method_25_code 186 = .ok (.iinc 4 (-1), 3) := by decide +kernel
theorem d_Mo_weighs_189 : decode prog_10_method_25_code 189 = .ok (.goto (-115), 3) := by decide +kernel
theorem d_Mo_weighs_192 : decode prog_10_method_25_code 192 = .ok (.iinc 3 1, 3) := by decide +kernel
theorem d_Mo_weighs_195 : decode prog_10_method_25_code 195 = .ok (.goto (-156), 3) := by decide +kernel
theorem d_Mo_weighs_198 : decode prog_10_method_25_code 198 = .ok (.return_, 1) := by decide +kernel
theorem d_Mo_lays_0 : decode prog_10_method_26_code 0 = .ok (.aload_n 0, 1) := by decide +kernel
theorem d_Mo_lays_1 : decode prog_10_method_26_code 1 = .ok (.getfield 31, 3) := by decide +kernel
theorem d_Mo_lays_4 : decode prog_10_method_26_code 4 = .ok (.aload_n 0, 1) := by decide +kernel
theorem d_Mo_lays_5 : decode prog_10_method_26_code 5 = .ok (.getfield 7, 3) := by decide +kernel
theorem d_Mo_lays_8 : decode prog_10_method_26_code 8 = .ok (.iconst 0, 1) := by decide +kernel
theorem d_Mo_lays_9 : decode prog_10_method_26_code 9 = .ok (.iaload, 1) := by decide +kernel
theorem d_Mo_lays_10 : decode prog_10_method_26_code 10 = .ok (.iconst 0, 1) := by decide +kernel
theorem d_Mo_lays_11 : decode prog_10_method_26_code 11 = .ok (.iastore, 1) := by decide +kernel
theorem d_Mo_lays_12 : decode prog_10_method_26_code 12 = .ok (.aload_n 0, 1) := by decide +kernel
theorem d_Mo_lays_13 : decode prog_10_method_26_code 13 = .ok (.getfield 7, 3) := by decide +kernel
theorem d_Mo_lays_16 : decode prog_10_method_26_code 16 = .ok (.iconst 0, 1) := by decide +kernel
theorem d_Mo_lays_17 : decode prog_10_method_26_code 17 = .ok (.iaload, 1) := by decide +kernel
theorem d_Mo_lays_18 : decode prog_10_method_26_code 18 = .ok (.iconst 1, 1) := by decide +kernel
theorem d_Mo_lays_19 : decode prog_10_method_26_code 19 = .ok (.isub, 1) := by decide +kernel
theorem d_Mo_lays_20 : decode prog_10_method_26_code 20 = .ok (.istore_n 2, 1) := by decide +kernel
theorem d_Mo_lays_21 : decode prog_10_method_26_code 21 = .ok (.iload_n 2, 1) := by decide +kernel
theorem d_Mo_lays_22 : decode prog_10_method_26_code 22 = .ok (.ifCond .lt 19, 3) := by decide +kernel
theorem d_Mo_lays_25 : decode prog_10_method_26_code 25 = .ok (.iload_n 1, 1) := by decide +kernel
theorem d_Mo_lays_26 : decode prog_10_method_26_code 26 = .ok (.iconst 2, 1) := by decide +kernel
theorem d_Mo_lays_27 : decode prog_10_method_26_code 27 = .ok (.if_icmp .ne 14, 3) := by decide +kernel
theorem d_Mo_lays_30 : decode prog_10_method_26_code 30 = .ok (.aload_n 0, 1) := by decide +kernel
theorem d_Mo_lays_31 : decode prog_10_method_26_code 31 = .ok (.iload_n 2, 1) := by decide +kernel
theorem d_Mo_lays_32 : decode prog_10_method_26_code 32 = .ok (.invokevirtual 94, 3) := by decide +kernel
theorem d_Mo_lays_35 : decode prog_10_method_26_code 35 = .ok (.iinc 2 (-1), 3) := by decide +kernel
theorem d_Mo_lays_38 : decode prog_10_method_26_code 38 = .ok (.goto (-17), 3) := by decide +kernel
theorem d_Mo_lays_41 : decode prog_10_method_26_code 41 = .ok (.aload_n 0, 1) := by decide +kernel
theorem d_Mo_lays_42 : decode prog_10_method_26_code 42 = .ok (.iconst 0, 1) := by decide +kernel
theorem d_Mo_lays_43 : decode prog_10_method_26_code 43 = .ok (.putfield 98, 3) := by decide +kernel
theorem d_Mo_lays_46 : decode prog_10_method_26_code 46 = .ok (.iconst 0, 1) := by decide +kernel
theorem d_Mo_lays_47 : decode prog_10_method_26_code 47 = .ok (.istore_n 2, 1) := by decide +kernel
theorem d_Mo_lays_48 : decode prog_10_method_26_code 48 = .ok (.iload_n 2, 1) := by decide +kernel
theorem d_Mo_lays_49 : decode prog_10_method_26_code 49 = .ok (.aload_n 0, 1) := by decide +kernel
theorem d_Mo_lays_50 : decode prog_10_method_26_code 50 = .ok (.getfield 7, 3) := by decide +kernel
theorem d_Mo_lays_53 : decode prog_10_method_26_code 53 = .ok (.iconst 0, 1) := by decide +kernel
theorem d_Mo_lays_54 : decode prog_10_method_26_code 54 = .ok (.iaload, 1) := by decide +kernel
theorem d_Mo_lays_55 : decode prog_10_method_26_code 55 = .ok (.if_icmp .ge 135, 3) := by decide +kernel
theorem d_Mo_lays_58 : decode prog_10_method_26_code 58 = .ok (.iload_n 1, 1) := by decide +kernel
theorem d_Mo_lays_59 : decode prog_10_method_26_code 59 = .ok (.iconst 2, 1) := by decide +kernel
theorem d_Mo_lays_60 : decode prog_10_method_26_code 60 = .ok (.if_icmp .ge 16, 3) := by decide +kernel
theorem d_Mo_lays_63 : decode prog_10_method_26_code 63 = .ok (.aload_n 0, 1) := by decide +kernel
theorem d_Mo_lays_64 : decode prog_10_method_26_code 64 = .ok (.iload_n 1, 1) := by decide +kernel
theorem d_Mo_lays_65 : decode prog_10_method_26_code 65 = .ok (.iload_n 2, 1) := by decide +kernel
theorem d_Mo_lays_66 : decode prog_10_method_26_code 66 = .ok (.invokevirtual 101, 3) := by decide +kernel
theorem d_Mo_lays_69 : decode prog_10_method_26_code 69 = .ok (.ifCond .eq 7, 3) := by decide +kernel
theorem d_Mo_lays_72 : decode prog_10_method_26_code 72 = .ok (.iconst 1, 1) := by decide +kernel
theorem d_Mo_lays_73 : decode prog_10_method_26_code 73 = .ok (.goto 4, 3) := by decide +kernel
theorem d_Mo_lays_76 : decode prog_10_method_26_code 76 = .ok (.iconst 0, 1) := by decide +kernel
theorem d_Mo_lays_77 : decode prog_10_method_26_code 77 = .ok (.istore_n 3, 1) := by decide +kernel
theorem d_Mo_lays_78 : decode prog_10_method_26_code 78 = .ok (.aload_n 0, 1) := by decide +kernel
theorem d_Mo_lays_79 : decode prog_10_method_26_code 79 = .ok (.getfield 22, 3) := by decide +kernel
theorem d_Mo_lays_82 : decode prog_10_method_26_code 82 = .ok (.aload_n 0, 1) := by decide +kernel
theorem d_Mo_lays_83 : decode prog_10_method_26_code 83 = .ok (.getfield 98, 3) := by decide +kernel
theorem d_Mo_lays_86 : decode prog_10_method_26_code 86 = .ok (.iload_n 2, 1) := by decide +kernel
theorem d_Mo_lays_87 : decode prog_10_method_26_code 87 = .ok (.iastore, 1) := by decide +kernel
theorem d_Mo_lays_88 : decode prog_10_method_26_code 88 = .ok (.aload_n 0, 1) := by decide +kernel
theorem d_Mo_lays_89 : decode prog_10_method_26_code 89 = .ok (.getfield 28, 3) := by decide +kernel
theorem d_Mo_lays_92 : decode prog_10_method_26_code 92 = .ok (.aload_n 0, 1) := by decide +kernel
theorem d_Mo_lays_93 : decode prog_10_method_26_code 93 = .ok (.getfield 98, 3) := by decide +kernel
theorem d_Mo_lays_96 : decode prog_10_method_26_code 96 = .ok (.iload_n 1, 1) := by decide +kernel
theorem d_Mo_lays_97 : decode prog_10_method_26_code 97 = .ok (.iconst 2, 1) := by decide +kernel
theorem d_Mo_lays_98 : decode prog_10_method_26_code 98 = .ok (.if_icmp .ne 12, 3) := by decide +kernel
theorem d_Mo_lays_101 : decode prog_10_method_26_code 101 = .ok (.aload_n 0, 1) := by decide +kernel
theorem d_Mo_lays_102 : decode prog_10_method_26_code 102 = .ok (.getfield 37, 3) := by decide +kernel
theorem d_Mo_lays_105 : decode prog_10_method_26_code 105 = .ok (.iload_n 2, 1) := by decide +kernel
theorem d_Mo_lays_106 : decode prog_10_method_26_code 106 = .ok (.iaload, 1) := by decide +kernel
theorem d_Mo_lays_107 : decode prog_10_method_26_code 107 = .ok (.goto 16, 3) := by decide +kernel
theorem d_Mo_lays_110 : decode prog_10_method_26_code 110 = .ok (.iload_n 3, 1) := by decide +kernel
theorem d_Mo_lays_111 : decode prog_10_method_26_code 111 = .ok (.ifCond .eq 11, 3) := by decide +kernel
theorem d_Mo_lays_114 : decode prog_10_method_26_code 114 = .ok (.aload_n 0, 1) := by decide +kernel
theorem d_Mo_lays_115 : decode prog_10_method_26_code 115 = .ok (.iload_n 2, 1) := by decide +kernel
theorem d_Mo_lays_116 : decode prog_10_method_26_code 116 = .ok (.invokevirtual 82, 3) := by decide +kernel
theorem d_Mo_lays_119 : decode prog_10_method_26_code 119 = .ok (.goto 4, 3) := by decide +kernel
theorem d_Mo_lays_122 : decode prog_10_method_26_code 122 = .ok (.iconst 0, 1) := by decide +kernel
theorem d_Mo_lays_123 : decode prog_10_method_26_code 123 = .ok (.iastore, 1) := by decide +kernel
theorem d_Mo_lays_124 : decode prog_10_method_26_code 124 = .ok (.aload_n 0, 1) := by decide +kernel
theorem d_Mo_lays_125 : decode prog_10_method_26_code 125 = .ok (.getfield 25, 3) := by decide +kernel
theorem d_Mo_lays_128 : decode prog_10_method_26_code 128 = .ok (.aload_n 0, 1) := by decide +kernel
theorem d_Mo_lays_129 : decode prog_10_method_26_code 129 = .ok (.getfield 98, 3) := by decide +kernel
theorem d_Mo_lays_132 : decode prog_10_method_26_code 132 = .ok (.iload_n 1, 1) := by decide +kernel
theorem d_Mo_lays_133 : decode prog_10_method_26_code 133 = .ok (.iconst 2, 1) := by decide +kernel
theorem d_Mo_lays_134 : decode prog_10_method_26_code 134 = .ok (.if_icmp .ne 12, 3) := by decide +kernel
theorem d_Mo_lays_137 : decode prog_10_method_26_code 137 = .ok (.aload_n 0, 1) := by decide +kernel
theorem d_Mo_lays_138 : decode prog_10_method_26_code 138 = .ok (.getfield 34, 3) := by decide +kernel
theorem d_Mo_lays_141 : decode prog_10_method_26_code 141 = .ok (.iload_n 2, 1) := by decide +kernel
theorem d_Mo_lays_142 : decode prog_10_method_26_code 142 = .ok (.iaload, 1) := by decide +kernel
theorem d_Mo_lays_143 : decode prog_10_method_26_code 143 = .ok (.goto 21, 3) := by decide +kernel
theorem d_Mo_lays_146 : decode prog_10_method_26_code 146 = .ok (.iload_n 3, 1) := by decide +kernel
theorem d_Mo_lays_147 : decode prog_10_method_26_code 147 = .ok (.ifCond .eq 16, 3) := by decide +kernel
theorem d_Mo_lays_150 : decode prog_10_method_26_code 150 = .ok (.aload_n 0, 1) := by decide +kernel
theorem d_Mo_lays_151 : decode prog_10_method_26_code 151 = .ok (.iload_n 2, 1) := by decide +kernel
theorem d_Mo_lays_152 : decode prog_10_method_26_code 152 = .ok (.aload_n 0, 1) := by decide +kernel
theorem d_Mo_lays_153 : decode prog_10_method_26_code 153 = .ok (.iload_n 2, 1) := by decide +kernel
theorem d_Mo_lays_154 : decode prog_10_method_26_code 154 = .ok (.invokevirtual 82, 3) := by decide +kernel
theorem d_Mo_lays_157 : decode prog_10_method_26_code 157 = .ok (.invokevirtual 71, 3) := by decide +kernel
theorem d_Mo_lays_160 : decode prog_10_method_26_code 160 = .ok (.goto 4, 3) := by decide +kernel
theorem d_Mo_lays_163 : decode prog_10_method_26_code 163 = .ok (.iconst 1, 1) := by decide +kernel
theorem d_Mo_lays_164 : decode prog_10_method_26_code 164 = .ok (.iastore, 1) := by decide +kernel
theorem d_Mo_lays_165 : decode prog_10_method_26_code 165 = .ok (.iload_n 2, 1) := by decide +kernel
theorem d_Mo_lays_166 : decode prog_10_method_26_code 166 = .ok (.aload_n 0, 1) := by decide +kernel
theorem d_Mo_lays_167 : decode prog_10_method_26_code 167 = .ok (.getfield 25, 3) := by decide +kernel
theorem d_Mo_lays_170 : decode prog_10_method_26_code 170 = .ok (.aload_n 0, 1) := by decide +kernel
theorem d_Mo_lays_171 : decode prog_10_method_26_code 171 = .ok (.getfield 98, 3) := by decide +kernel
theorem d_Mo_lays_174 : decode prog_10_method_26_code 174 = .ok (.iaload, 1) := by decide +kernel
theorem d_Mo_lays_175 : decode prog_10_method_26_code 175 = .ok (.iadd, 1) := by decide +kernel
theorem d_Mo_lays_176 : decode prog_10_method_26_code 176 = .ok (.istore_n 2, 1) := by decide +kernel
theorem d_Mo_lays_177 : decode prog_10_method_26_code 177 = .ok (.aload_n 0, 1) := by decide +kernel
theorem d_Mo_lays_178 : decode prog_10_method_26_code 178 = .ok (.dup, 1) := by decide +kernel
theorem d_Mo_lays_179 : decode prog_10_method_26_code 179 = .ok (.getfield 98, 3) := by decide +kernel
theorem d_Mo_lays_182 : decode prog_10_method_26_code 182 = .ok (.iconst 1, 1) := by decide +kernel
theorem d_Mo_lays_183 : decode prog_10_method_26_code 183 = .ok (.iadd, 1) := by decide +kernel
theorem d_Mo_lays_184 : decode prog_10_method_26_code 184 = .ok (.putfield 98, 3) := by decide +kernel
theorem d_Mo_lays_187 : decode prog_10_method_26_code 187 = .ok (.goto (-139), 3) := by decide +kernel
theorem d_Mo_lays_190 : decode prog_10_method_26_code 190 = .ok (.return_, 1) := by decide +kernel
theorem d_Mo_cost_0 : decode prog_10_method_27_code 0 = .ok (.aload_n 0, 1) := by decide +kernel
theorem d_Mo_cost_1 : decode prog_10_method_27_code 1 = .ok (.getfield 28, 3) := by decide +kernel
theorem d_Mo_cost_4 : decode prog_10_method_27_code 4 = .ok (.iload_n 1, 1) := by decide +kernel
theorem d_Mo_cost_5 : decode prog_10_method_27_code 5 = .ok (.iaload, 1) := by decide +kernel
theorem d_Mo_cost_6 : decode prog_10_method_27_code 6 = .ok (.ifCond .le 12, 3) := by decide +kernel
theorem d_Mo_cost_9 : decode prog_10_method_27_code 9 = .ok (.aload_n 0, 1) := by decide +kernel
theorem d_Mo_cost_10 : decode prog_10_method_27_code 10 = .ok (.getfield 7, 3) := by decide +kernel
theorem d_Mo_cost_13 : decode prog_10_method_27_code 13 = .ok (.iconst 5, 1) := by decide +kernel
theorem d_Mo_cost_14 : decode prog_10_method_27_code 14 = .ok (.iaload, 1) := by decide +kernel
theorem d_Mo_cost_15 : decode prog_10_method_27_code 15 = .ok (.goto 9, 3) := by decide +kernel
theorem d_Mo_cost_18 : decode prog_10_method_27_code 18 = .ok (.aload_n 0, 1) := by decide +kernel
theorem d_Mo_cost_19 : decode prog_10_method_27_code 19 = .ok (.getfield 7, 3) := by decide +kernel
theorem d_Mo_cost_22 : decode prog_10_method_27_code 22 = .ok (.iconst 4, 1) := by decide +kernel
theorem d_Mo_cost_23 : decode prog_10_method_27_code 23 = .ok (.iaload, 1) := by decide +kernel
theorem d_Mo_cost_24 : decode prog_10_method_27_code 24 = .ok (.ireturn, 1) := by decide +kernel
theorem d_Mo_part_0 : decode prog_10_method_28_code 0 = .ok (.iload_n 1, 1) := by decide +kernel
theorem d_Mo_part_1 : decode prog_10_method_28_code 1 = .ok (.iconst 0, 1) := by decide +kernel
theorem d_Mo_part_2 : decode prog_10_method_28_code 2 = .ok (.iconst 2, 1) := by decide +kernel
theorem d_Mo_part_3 : decode prog_10_method_28_code 3 = .ok (.invokestatic 53, 3) := by decide +kernel
theorem d_Mo_part_6 : decode prog_10_method_28_code 6 = .ok (.ifCond .eq 16, 3) := by decide +kernel
theorem d_Mo_part_9 : decode prog_10_method_28_code 9 = .ok (.iload_n 2, 1) := by decide +kernel
theorem d_Mo_part_10 : decode prog_10_method_28_code 10 = .ok (.ifCond .lt 12, 3) := by decide +kernel
theorem d_Mo_part_13 : decode prog_10_method_28_code 13 = .ok (.iload_n 3, 1) := by decide +kernel
theorem d_Mo_part_14 : decode prog_10_method_28_code 14 = .ok (.iconst 0, 1) := by decide +kernel
theorem d_Mo_part_15 : decode prog_10_method_28_code 15 = .ok (.iconst 3, 1) := by decide +kernel
theorem d_Mo_part_16 : decode prog_10_method_28_code 16 = .ok (.invokestatic 53, 3) := by decide +kernel
theorem d_Mo_part_19 : decode prog_10_method_28_code 19 = .ok (.ifCond .ne 7, 3) := by decide +kernel
theorem d_Mo_part_22 : decode prog_10_method_28_code 22 = .ok (.sipush (-10001), 3) := by decide +kernel
theorem d_Mo_part_25 : decode prog_10_method_28_code 25 = .ok (.ireturn, 1) := by decide +kernel
theorem d_Mo_part_26 : decode prog_10_method_28_code 26 = .ok (.aload_n 0, 1) := by decide +kernel
theorem d_Mo_part_27 : decode prog_10_method_28_code 27 = .ok (.iload_n 1, 1) := by decide +kernel
theorem d_Mo_part_28 : decode prog_10_method_28_code 28 = .ok (.invokevirtual 104, 3) := by decide +kernel
theorem d_Mo_part_31 : decode prog_10_method_28_code 31 = .ok (.iload_n 2, 1) := by decide +kernel
theorem d_Mo_part_32 : decode prog_10_method_28_code 32 = .ok (.aload_n 0, 1) := by decide +kernel
theorem d_Mo_part_33 : decode prog_10_method_28_code 33 = .ok (.getfield 98, 3) := by decide +kernel
theorem d_Mo_part_36 : decode prog_10_method_28_code 36 = .ok (.if_icmp .lt 7, 3) := by decide +kernel
theorem d_Mo_part_39 : decode prog_10_method_28_code 39 = .ok (.sipush (-10004), 3) := by decide +kernel
theorem d_Mo_part_42 : decode prog_10_method_28_code 42 = .ok (.ireturn, 1) := by decide +kernel
theorem d_Mo_part_43 : decode prog_10_method_28_code 43 = .ok (.iload_n 3, 1) := by decide +kernel
theorem d_Mo_part_44 : decode prog_10_method_28_code 44 = .ok (.ifCond .ne 12, 3) := by decide +kernel
theorem d_Mo_part_47 : decode prog_10_method_28_code 47 = .ok (.aload_n 0, 1) := by decide +kernel
theorem d_Mo_part_48 : decode prog_10_method_28_code 48 = .ok (.getfield 22, 3) := by decide +kernel
theorem d_Mo_part_51 : decode prog_10_method_28_code 51 = .ok (.iload_n 2, 1) := by decide +kernel
theorem d_Mo_part_52 : decode prog_10_method_28_code 52 = .ok (.iaload, 1) := by decide +kernel
theorem d_Mo_part_53 : decode prog_10_method_28_code 53 = .ok (.goto 36, 3) := by decide +kernel
theorem d_Mo_part_56 : decode prog_10_method_28_code 56 = .ok (.iload_n 3, 1) := by decide +kernel
theorem d_Mo_part_57 : decode prog_10_method_28_code 57 = .ok (.iconst 1, 1) := by decide +kernel
theorem d_Mo_part_58 : decode prog_10_method_28_code 58 = .ok (.if_icmp .ne 12, 3) := by decide +kernel
theorem d_Mo_part_61 : decode prog_10_method_28_code 61 = .ok (.aload_n 0, 1) := by decide +kernel
theorem d_Mo_part_62 : decode prog_10_method_28_code 62 = .ok (.getfield 25, 3) := by decide +kernel
theorem d_Mo_part_65 : decode prog_10_method_28_code 65 = .ok (.iload_n 2, 1) := by decide +kernel
theorem d_Mo_part_66 : decode prog_10_method_28_code 66 = .ok (.iaload, 1) := by decide +kernel
theorem d_Mo_part_67 : decode prog_10_method_28_code 67 = .ok (.goto 22, 3) := by decide +kernel
theorem d_Mo_part_70 : decode prog_10_method_28_code 70 = .ok (.iload_n 3, 1) := by decide +kernel
theorem d_Mo_part_71 : decode prog_10_method_28_code 71 = .ok (.iconst 2, 1) := by decide +kernel
theorem d_Mo_part_72 : decode prog_10_method_28_code 72 = .ok (.if_icmp .ne 12, 3) := by decide +kernel
theorem d_Mo_part_75 : decode prog_10_method_28_code 75 = .ok (.aload_n 0, 1) := by decide +kernel
theorem d_Mo_part_76 : decode prog_10_method_28_code 76 = .ok (.getfield 28, 3) := by decide +kernel
theorem d_Mo_part_79 : decode prog_10_method_28_code 79 = .ok (.iload_n 2, 1) := by decide +kernel
theorem d_Mo_part_80 : decode prog_10_method_28_code 80 = .ok (.iaload, 1) := by decide +kernel
theorem d_Mo_part_81 : decode prog_10_method_28_code 81 = .ok (.goto 8, 3) := by decide +kernel
theorem d_Mo_part_84 : decode prog_10_method_28_code 84 = .ok (.aload_n 0, 1) := by decide +kernel
theorem d_Mo_part_85 : decode prog_10_method_28_code 85 = .ok (.iload_n 2, 1) := by decide +kernel
theorem d_Mo_part_86 : decode prog_10_method_28_code 86 = .ok (.invokevirtual 107, 3) := by decide +kernel
theorem d_Mo_part_89 : decode prog_10_method_28_code 89 = .ok (.ireturn, 1) := by decide +kernel
theorem d_Mo_costAll_0 : decode prog_10_method_29_code 0 = .ok (.aload_n 0, 1) := by decide +kernel
theorem d_Mo_costAll_1 : decode prog_10_method_29_code 1 = .ok (.iload_n 1, 1) := by decide +kernel
theorem d_Mo_costAll_2 : decode prog_10_method_29_code 2 = .ok (.invokevirtual 104, 3) := by decide +kernel
theorem d_Mo_costAll_5 : decode prog_10_method_29_code 5 = .ok (.iconst 0, 1) := by decide +kernel
theorem d_Mo_costAll_6 : decode prog_10_method_29_code 6 = .ok (.istore_n 2, 1) := by decide +kernel
theorem d_Mo_costAll_7 : decode prog_10_method_29_code 7 = .ok (.iconst 0, 1) := by decide +kernel
theorem d_Mo_costAll_8 : decode prog_10_method_29_code 8 = .ok (.istore_n 3, 1) := by decide +kernel
theorem d_Mo_costAll_9 : decode prog_10_method_29_code 9 = .ok (.iload_n 3, 1) := by decide +kernel
theorem d_Mo_costAll_10 : decode prog_10_method_29_code 10 = .ok (.aload_n 0, 1) := by decide +kernel
theorem d_Mo_costAll_11 : decode prog_10_method_29_code 11 = .ok (.getfield 98, 3) := by decide +kernel
theorem d_Mo_costAll_14 : decode prog_10_method_29_code 14 = .ok (.if_icmp .ge 17, 3) := by decide +kernel
theorem d_Mo_costAll_17 : decode prog_10_method_29_code 17 = .ok (.iload_n 2, 1) := by decide +kernel
theorem d_Mo_costAll_18 : decode prog_10_method_29_code 18 = .ok (.aload_n 0, 1) := by decide +kernel
theorem d_Mo_costAll_19 : decode prog_10_method_29_code 19 = .ok (.iload_n 3, 1) := by decide +kernel
theorem d_Mo_costAll_20 : decode prog_10_method_29_code 20 = .ok (.invokevirtual 107, 3) := by decide +kernel
theorem d_Mo_costAll_23 : decode prog_10_method_29_code 23 = .ok (.iadd, 1) := by decide +kernel
theorem d_Mo_costAll_24 : decode prog_10_method_29_code 24 = .ok (.istore_n 2, 1) := by decide +kernel
theorem d_Mo_costAll_25 : decode prog_10_method_29_code 25 = .ok (.iinc 3 1, 3) := by decide +kernel
theorem d_Mo_costAll_28 : decode prog_10_method_29_code 28 = .ok (.goto (-19), 3) := by decide +kernel
theorem d_Mo_costAll_31 : decode prog_10_method_29_code 31 = .ok (.iload_n 2, 1) := by decide +kernel
theorem d_Mo_costAll_32 : decode prog_10_method_29_code 32 = .ok (.ireturn, 1) := by decide +kernel
theorem d_Mo_total_0 : decode prog_10_method_30_code 0 = .ok (.iload_n 1, 1) := by decide +kernel
theorem d_Mo_total_1 : decode prog_10_method_30_code 1 = .ok (.iconst 0, 1) := by decide +kernel
theorem d_Mo_total_2 : decode prog_10_method_30_code 2 = .ok (.iconst 2, 1) := by decide +kernel
theorem d_Mo_total_3 : decode prog_10_method_30_code 3 = .ok (.invokestatic 53, 3) := by decide +kernel
theorem d_Mo_total_6 : decode prog_10_method_30_code 6 = .ok (.ifCond .eq 12, 3) := by decide +kernel
theorem d_Mo_total_9 : decode prog_10_method_30_code 9 = .ok (.iload_n 2, 1) := by decide +kernel
theorem d_Mo_total_10 : decode prog_10_method_30_code 10 = .ok (.iconst 0, 1) := by decide +kernel
theorem d_Mo_total_11 : decode prog_10_method_30_code 11 = .ok (.iconst 5, 1) := by decide +kernel
theorem d_Mo_total_12 : decode prog_10_method_30_code 12 = .ok (.invokestatic 53, 3) := by decide +kernel
theorem d_Mo_total_15 : decode prog_10_method_30_code 15 = .ok (.ifCond .ne 7, 3) := by decide +kernel
theorem d_Mo_total_18 : decode prog_10_method_30_code 18 = .ok (.sipush (-10001), 3) := by decide +kernel
theorem d_Mo_total_21 : decode prog_10_method_30_code 21 = .ok (.ireturn, 1) := by decide +kernel
theorem d_Mo_total_22 : decode prog_10_method_30_code 22 = .ok (.aload_n 0, 1) := by decide +kernel
theorem d_Mo_total_23 : decode prog_10_method_30_code 23 = .ok (.iload_n 1, 1) := by decide +kernel
theorem d_Mo_total_24 : decode prog_10_method_30_code 24 = .ok (.invokevirtual 110, 3) := by decide +kernel
theorem d_Mo_total_27 : decode prog_10_method_30_code 27 = .ok (.istore_n 3, 1) := by decide +kernel
theorem d_Mo_total_28 : decode prog_10_method_30_code 28 = .ok (.iconst 0, 1) := by decide +kernel
theorem d_Mo_total_29 : decode prog_10_method_30_code 29 = .ok (.istore 4, 2) := by decide +kernel
theorem d_Mo_total_31 : decode prog_10_method_30_code 31 = .ok (.iconst 0, 1) := by decide +kernel
theorem d_Mo_total_32 : decode prog_10_method_30_code 32 = .ok (.istore 5, 2) := by decide +kernel
theorem d_Mo_total_34 : decode prog_10_method_30_code 34 = .ok (.iconst 0, 1) := by decide +kernel
theorem d_Mo_total_35 : decode prog_10_method_30_code 35 = .ok (.istore 6, 2) := by decide +kernel
theorem d_Mo_total_37 : decode prog_10_method_30_code 37 = .ok (.iconst 0, 1) := by decide +kernel
theorem d_Mo_total_38 : decode prog_10_method_30_code 38 = .ok (.istore 7, 2) := by decide +kernel
theorem d_Mo_total_40 : decode prog_10_method_30_code 40 = .ok (.iload 7, 2) := by decide +kernel
theorem d_Mo_total_42 : decode prog_10_method_30_code 42 = .ok (.aload_n 0, 1) := by decide +kernel
theorem d_Mo_total_43 : decode prog_10_method_30_code 43 = .ok (.getfield 98, 3) := by decide +kernel
theorem d_Mo_total_46 : decode prog_10_method_30_code 46 = .ok (.if_icmp .ge 93, 3) := by decide +kernel
theorem d_Mo_total_49 : decode prog_10_method_30_code 49 = .ok (.aload_n 0, 1) := by decide +kernel
theorem d_Mo_total_50 : decode prog_10_method_30_code 50 = .ok (.getfield 28, 3) := by decide +kernel
theorem d_Mo_total_53 : decode prog_10_method_30_code 53 = .ok (.iload 7, 2) := by decide +kernel
theorem d_Mo_total_55 : decode prog_10_method_30_code 55 = .ok (.iaload, 1) := by decide +kernel
theorem d_Mo_total_56 : decode prog_10_method_30_code 56 = .ok (.ifCond .le 7, 3) := by decide +kernel
theorem d_Mo_total_59 : decode prog_10_method_30_code 59 = .ok (.iconst 1, 1) := by decide +kernel
theorem d_Mo_total_60 : decode prog_10_method_30_code 60 = .ok (.goto 4, 3) := by decide +kernel
theorem d_Mo_total_63 : decode prog_10_method_30_code 63 = .ok (.iconst 0, 1) := by decide +kernel
theorem d_Mo_total_64 : decode prog_10_method_30_code 64 = .ok (.istore 8, 2) := by decide +kernel
theorem d_Mo_total_66 : decode prog_10_method_30_code 66 = .ok (.iload 4, 2) := by decide +kernel
theorem d_Mo_total_68 : decode prog_10_method_30_code 68 = .ok (.iload 8, 2) := by decide +kernel
theorem d_Mo_total_70 : decode prog_10_method_30_code 70 = .ok (.ifCond .eq 7, 3) := by decide +kernel
theorem d_Mo_total_73 : decode prog_10_method_30_code 73 = .ok (.iconst 1, 1) := by decide +kernel
theorem d_Mo_total_74 : decode prog_10_method_30_code 74 = .ok (.goto 4, 3) := by decide +kernel
theorem d_Mo_total_77 : decode prog_10_method_30_code 77 = .ok (.iconst 0, 1) := by decide +kernel
theorem d_Mo_total_78 : decode prog_10_method_30_code 78 = .ok (.iadd, 1) := by decide +kernel
theorem d_Mo_total_79 : decode prog_10_method_30_code 79 = .ok (.istore 4, 2) := by decide +kernel
theorem d_Mo_total_81 : decode prog_10_method_30_code 81 = .ok (.iload 5, 2) := by decide +kernel
theorem d_Mo_total_83 : decode prog_10_method_30_code 83 = .ok (.iload 8, 2) := by decide +kernel
theorem d_Mo_total_85 : decode prog_10_method_30_code 85 = .ok (.ifCond .eq 13, 3) := by decide +kernel
theorem d_Mo_total_88 : decode prog_10_method_30_code 88 = .ok (.aload_n 0, 1) := by decide +kernel
theorem d_Mo_total_89 : decode prog_10_method_30_code 89 = .ok (.getfield 25, 3) := by decide +kernel
theorem d_Mo_total_92 : decode prog_10_method_30_code 92 = .ok (.iload 7, 2) := by decide +kernel
theorem d_Mo_total_94 : decode prog_10_method_30_code 94 = .ok (.iaload, 1) := by decide +kernel
theorem d_Mo_total_95 : decode prog_10_method_30_code 95 = .ok (.goto 4, 3) := by decide +kernel
theorem d_Mo_total_98 : decode prog_10_method_30_code 98 = .ok (.iconst 0, 1) := by decide +kernel
theorem d_Mo_total_99 : decode prog_10_method_30_code 99 = .ok (.iadd, 1) := by decide +kernel
theorem d_Mo_total_100 : decode prog_10_method_30_code 100 = .ok (.istore 5, 2) := by decide +kernel
theorem d_Mo_total_102 : decode prog_10_method_30_code 102 = .ok (.iload 8, 2) := by decide +kernel
theorem d_Mo_total_104 : decode prog_10_method_30_code 104 = .ok (.ifCond .eq 25, 3) := by decide +kernel
theorem d_Mo_total_107 : decode prog_10_method_30_code 107 = .ok (.aload_n 0, 1) := by decide +kernel
theorem d_Mo_total_108 : decode prog_10_method_30_code 108 = .ok (.getfield 25, 3) := by decide +kernel
theorem d_Mo_total_111 : decode prog_10_method_30_code 111 = .ok (.iload 7, 2) := by decide +kernel
theorem d_Mo_total_113 : decode prog_10_method_30_code 113 = .ok (.iaload, 1) := by decide +kernel
theorem d_Mo_total_114 : decode prog_10_method_30_code 114 = .ok (.iload 6, 2) := by decide +kernel
theorem d_Mo_total_116 : decode prog_10_method_30_code 116 = .ok (.if_icmp .le 13, 3) := by decide +kernel
theorem d_Mo_total_119 : decode prog_10_method_30_code 119 = .ok (.aload_n 0, 1) := by decide +kernel
theorem d_Mo_total_120 : decode prog_10_method_30_code 120 = .ok (.getfield 25, 3) := by decide +kernel
theorem d_Mo_total_123 : decode prog_10_method_30_code 123 = .ok (.iload 7, 2) := by decide +kernel
theorem d_Mo_total_125 : decode prog_10_method_30_code 125 = .ok (.iaload, 1) := by decide +kernel
theorem d_Mo_total_126 : decode prog_10_method_30_code 126 = .ok (.goto 5, 3) := by decide +kernel
theorem d_Mo_total_129 : decode prog_10_method_30_code 129 = .ok (.iload 6, 2) := by decide +kernel
theorem d_Mo_total_131 : decode prog_10_method_30_code 131 = .ok (.istore 6, 2) := by decide +kernel
theorem d_Mo_total_133 : decode prog_10_method_30_code 133 = .ok (.iinc 7 1, 3) := by decide +kernel
theorem d_Mo_total_136 : decode prog_10_method_30_code 136 = .ok (.goto (-96), 3) := by decide +kernel
theorem d_Mo_total_139 : decode prog_10_method_30_code 139 = .ok (.iload_n 2, 1) := by decide +kernel
theorem d_Mo_total_140 : decode prog_10_method_30_code 140 = .ok (.tableswitch 65 0 4 #[36, 41, 44, 46, 62], 36) := by decide +kernel
theorem d_Mo_total_176 : decode prog_10_method_30_code 176 = .ok (.aload_n 0, 1) := by decide +kernel
theorem d_Mo_total_177 : decode prog_10_method_30_code 177 = .ok (.getfield 98, 3) := by decide +kernel
theorem d_Mo_total_180 : decode prog_10_method_30_code 180 = .ok (.ireturn, 1) := by decide +kernel
theorem d_Mo_total_181 : decode prog_10_method_30_code 181 = .ok (.iload 4, 2) := by decide +kernel
theorem d_Mo_total_183 : decode prog_10_method_30_code 183 = .ok (.ireturn, 1) := by decide +kernel
theorem d_Mo_total_184 : decode prog_10_method_30_code 184 = .ok (.iload_n 3, 1) := by decide +kernel
theorem d_Mo_total_185 : decode prog_10_method_30_code 185 = .ok (.ireturn, 1) := by decide +kernel
theorem d_Mo_total_186 : decode prog_10_method_30_code 186 = .ok (.aload_n 0, 1) := by decide +kernel
theorem d_Mo_total_187 : decode prog_10_method_30_code 187 = .ok (.getfield 7, 3) := by decide +kernel
theorem d_Mo_total_190 : decode prog_10_method_30_code 190 = .ok (.iconst 0, 1) := by decide +kernel
theorem d_Mo_total_191 : decode prog_10_method_30_code 191 = .ok (.iaload, 1) := by decide +kernel
theorem d_Mo_total_192 : decode prog_10_method_30_code 192 = .ok (.aload_n 0, 1) := by decide +kernel
theorem d_Mo_total_193 : decode prog_10_method_30_code 193 = .ok (.getfield 7, 3) := by decide +kernel
theorem d_Mo_total_196 : decode prog_10_method_30_code 196 = .ok (.iconst 4, 1) := by decide +kernel
theorem d_Mo_total_197 : decode prog_10_method_30_code 197 = .ok (.iaload, 1) := by decide +kernel
theorem d_Mo_total_198 : decode prog_10_method_30_code 198 = .ok (.imul, 1) := by decide +kernel
theorem d_Mo_total_199 : decode prog_10_method_30_code 199 = .ok (.iload_n 3, 1) := by decide +kernel
theorem d_Mo_total_200 : decode prog_10_method_30_code 200 = .ok (.isub, 1) := by decide +kernel
theorem d_Mo_total_201 : decode prog_10_method_30_code 201 = .ok (.ireturn, 1) := by decide +kernel
theorem d_Mo_total_202 : decode prog_10_method_30_code 202 = .ok (.iload 5, 2) := by decide +kernel
theorem d_Mo_total_204 : decode prog_10_method_30_code 204 = .ok (.ireturn, 1) := by decide +kernel
theorem d_Mo_total_205 : decode prog_10_method_30_code 205 = .ok (.iload 6, 2) := by decide +kernel
theorem d_Mo_total_207 : decode prog_10_method_30_code 207 = .ok (.ireturn, 1) := by decide +kernel
theorem d_Mo_partAt_0 : decode prog_10_method_31_code 0 = .ok (.iload_n 1, 1) := by decide +kernel
theorem d_Mo_partAt_1 : decode prog_10_method_31_code 1 = .ok (.iconst 0, 1) := by decide +kernel
theorem d_Mo_partAt_2 : decode prog_10_method_31_code 2 = .ok (.iconst 2, 1) := by decide +kernel
theorem d_Mo_partAt_3 : decode prog_10_method_31_code 3 = .ok (.invokestatic 53, 3) := by decide +kernel
theorem d_Mo_partAt_6 : decode prog_10_method_31_code 6 = .ok (.ifCond .eq 11, 3) := by decide +kernel
theorem d_Mo_partAt_9 : decode prog_10_method_31_code 9 = .ok (.aload_n 0, 1) := by decide +kernel
theorem d_Mo_partAt_10 : decode prog_10_method_31_code 10 = .ok (.iload_n 2, 1) := by decide +kernel
theorem d_Mo_partAt_11 : decode prog_10_method_31_code 11 = .ok (.invokevirtual 60, 3) := by decide +kernel
theorem d_Mo_partAt_14 : decode prog_10_method_31_code 14 = .ok (.ifCond .ne 7, 3) := by decide +kernel
theorem d_Mo_partAt_17 : decode prog_10_method_31_code 17 = .ok (.sipush (-10001), 3) := by decide +kernel
theorem d_Mo_partAt_20 : decode prog_10_method_31_code 20 = .ok (.ireturn, 1) := by decide +kernel
theorem d_Mo_partAt_21 : decode prog_10_method_31_code 21 = .ok (.aload_n 0, 1) := by decide +kernel
theorem d_Mo_partAt_22 : decode prog_10_method_31_code 22 = .ok (.iload_n 1, 1) := by decide +kernel
theorem d_Mo_partAt_23 : decode prog_10_method_31_code 23 = .ok (.invokevirtual 104, 3) := by decide +kernel
theorem d_Mo_partAt_26 : decode prog_10_method_31_code 26 = .ok (.iconst 0, 1) := by decide +kernel
theorem d_Mo_partAt_27 : decode prog_10_method_31_code 27 = .ok (.istore_n 3, 1) := by decide +kernel
theorem d_Mo_partAt_28 : decode prog_10_method_31_code 28 = .ok (.iload_n 3, 1) := by decide +kernel
theorem d_Mo_partAt_29 : decode prog_10_method_31_code 29 = .ok (.iconst 1, 1) := by decide +kernel
theorem d_Mo_partAt_30 : decode prog_10_method_31_code 30 = .ok (.iadd, 1) := by decide +kernel
theorem d_Mo_partAt_31 : decode prog_10_method_31_code 31 = .ok (.aload_n 0, 1) := by decide +kernel
theorem d_Mo_partAt_32 : decode prog_10_method_31_code 32 = .ok (.getfield 98, 3) := by decide +kernel
theorem d_Mo_partAt_35 : decode prog_10_method_31_code 35 = .ok (.if_icmp .ge 21, 3) := by decide +kernel
theorem d_Mo_partAt_38 : decode prog_10_method_31_code 38 = .ok (.aload_n 0, 1) := by decide +kernel
theorem d_Mo_partAt_39 : decode prog_10_method_31_code 39 = .ok (.getfield 22, 3) := by decide +kernel
theorem d_Mo_partAt_42 : decode prog_10_method_31_code 42 = .ok (.iload_n 3, 1) := by decide +kernel
theorem d_Mo_partAt_43 : decode prog_10_method_31_code 43 = .ok (.iconst 1, 1) := by decide +kernel
theorem d_Mo_partAt_44 : decode prog_10_method_31_code 44 = .ok (.iadd, 1) := by decide +kernel
theorem d_Mo_partAt_45 : decode prog_10_method_31_code 45 = .ok (.iaload, 1) := by decide +kernel
theorem d_Mo_partAt_46 : decode prog_10_method_31_code 46 = .ok (.iload_n 2, 1) := by decide +kernel
theorem d_Mo_partAt_47 : decode prog_10_method_31_code 47 = .ok (.if_icmp .gt 9, 3) := by decide +kernel
theorem d_Mo_partAt_50 : decode prog_10_method_31_code 50 = .ok (.iinc 3 1, 3) := by decide +kernel
theorem d_Mo_partAt_53 : decode prog_10_method_31_code 53 = .ok (.goto (-25), 3) := by decide +kernel
theorem d_Mo_partAt_56 : decode prog_10_method_31_code 56 = .ok (.iload_n 3, 1) := by decide +kernel
theorem d_Mo_partAt_57 : decode prog_10_method_31_code 57 = .ok (.ireturn, 1) := by decide +kernel
theorem d_Mo_parting_0 : decode prog_10_method_32_code 0 = .ok (.iload_n 1, 1) := by decide +kernel
theorem d_Mo_parting_1 : decode prog_10_method_32_code 1 = .ok (.iconst 0, 1) := by decide +kernel
theorem d_Mo_parting_2 : decode prog_10_method_32_code 2 = .ok (.iconst 2, 1) := by decide +kernel
theorem d_Mo_parting_3 : decode prog_10_method_32_code 3 = .ok (.invokestatic 53, 3) := by decide +kernel
theorem d_Mo_parting_6 : decode prog_10_method_32_code 6 = .ok (.ifCond .eq 12, 3) := by decide +kernel
theorem d_Mo_parting_9 : decode prog_10_method_32_code 9 = .ok (.iload_n 2, 1) := by decide +kernel
theorem d_Mo_parting_10 : decode prog_10_method_32_code 10 = .ok (.iconst 0, 1) := by decide +kernel
theorem d_Mo_parting_11 : decode prog_10_method_32_code 11 = .ok (.iconst 2, 1) := by decide +kernel
theorem d_Mo_parting_12 : decode prog_10_method_32_code 12 = .ok (.invokestatic 53, 3) := by decide +kernel
theorem d_Mo_parting_15 : decode prog_10_method_32_code 15 = .ok (.ifCond .ne 7, 3) := by decide +kernel
theorem d_Mo_parting_18 : decode prog_10_method_32_code 18 = .ok (.sipush (-10001), 3) := by decide +kernel
theorem d_Mo_parting_21 : decode prog_10_method_32_code 21 = .ok (.ireturn, 1) := by decide +kernel
theorem d_Mo_parting_22 : decode prog_10_method_32_code 22 = .ok (.aload_n 0, 1) := by decide +kernel
theorem d_Mo_parting_23 : decode prog_10_method_32_code 23 = .ok (.iload_n 1, 1) := by decide +kernel
theorem d_Mo_parting_24 : decode prog_10_method_32_code 24 = .ok (.invokevirtual 104, 3) := by decide +kernel
theorem d_Mo_parting_27 : decode prog_10_method_32_code 27 = .ok (.aload_n 0, 1) := by decide +kernel
theorem d_Mo_parting_28 : decode prog_10_method_32_code 28 = .ok (.getfield 98, 3) := by decide +kernel
theorem d_Mo_parting_31 : decode prog_10_method_32_code 31 = .ok (.istore_n 3, 1) := by decide +kernel
theorem d_Mo_parting_32 : decode prog_10_method_32_code 32 = .ok (.iconst 0, 1) := by decide +kernel
theorem d_Mo_parting_33 : decode prog_10_method_32_code 33 = .ok (.istore 4, 2) := by decide +kernel
theorem d_Mo_parting_35 : decode prog_10_method_32_code 35 = .ok (.iload 4, 2) := by decide +kernel
theorem d_Mo_parting_37 : decode prog_10_method_32_code 37 = .ok (.iload_n 3, 1) := by decide +kernel
theorem d_Mo_parting_38 : decode prog_10_method_32_code 38 = .ok (.if_icmp .ge 37, 3) := by decide +kernel
theorem d_Mo_parting_41 : decode prog_10_method_32_code 41 = .ok (.aload_n 0, 1) := by decide +kernel
theorem d_Mo_parting_42 : decode prog_10_method_32_code 42 = .ok (.getfield 40, 3) := by decide +kernel
theorem d_Mo_parting_45 : decode prog_10_method_32_code 45 = .ok (.iload 4, 2) := by decide +kernel
theorem d_Mo_parting_47 : decode prog_10_method_32_code 47 = .ok (.aload_n 0, 1) := by decide +kernel
theorem d_Mo_parting_48 : decode prog_10_method_32_code 48 = .ok (.getfield 25, 3) := by decide +kernel
theorem d_Mo_parting_51 : decode prog_10_method_32_code 51 = .ok (.iload 4, 2) := by decide +kernel
theorem d_Mo_parting_53 : decode prog_10_method_32_code 53 = .ok (.iaload, 1) := by decide +kernel
theorem d_Mo_parting_54 : decode prog_10_method_32_code 54 = .ok (.iastore, 1) := by decide +kernel
theorem d_Mo_parting_55 : decode prog_10_method_32_code 55 = .ok (.aload_n 0, 1) := by decide +kernel
theorem d_Mo_parting_56 : decode prog_10_method_32_code 56 = .ok (.getfield 43, 3) := by decide +kernel
theorem d_Mo_parting_59 : decode prog_10_method_32_code 59 = .ok (.iload 4, 2) := by decide +kernel
theorem d_Mo_parting_61 : decode prog_10_method_32_code 61 = .ok (.aload_n 0, 1) := by decide +kernel
theorem d_Mo_parting_62 : decode prog_10_method_32_code 62 = .ok (.getfield 28, 3) := by decide +kernel
theorem d_Mo_parting_65 : decode prog_10_method_32_code 65 = .ok (.iload 4, 2) := by decide +kernel
theorem d_Mo_parting_67 : decode prog_10_method_32_code 67 = .ok (.iaload, 1) := by decide +kernel
theorem d_Mo_parting_68 : decode prog_10_method_32_code 68 = .ok (.iastore, 1) := by decide +kernel
theorem d_Mo_parting_69 : decode prog_10_method_32_code 69 = .ok (.iinc 4 1, 3) := by decide +kernel
theorem d_Mo_parting_72 : decode prog_10_method_32_code 72 = .ok (.goto (-37), 3) := by decide +kernel
theorem d_Mo_parting_75 : decode prog_10_method_32_code 75 = .ok (.aload_n 0, 1) := by decide +kernel
theorem d_Mo_parting_76 : decode prog_10_method_32_code 76 = .ok (.iload_n 2, 1) := by decide +kernel
theorem d_Mo_parting_77 : decode prog_10_method_32_code 77 = .ok (.invokevirtual 104, 3) := by decide +kernel
theorem d_Mo_parting_80 : decode prog_10_method_32_code 80 = .ok (.iconst 0, 1) := by decide +kernel
theorem d_Mo_parting_81 : decode prog_10_method_32_code 81 = .ok (.istore 4, 2) := by decide +kernel
theorem d_Mo_parting_83 : decode prog_10_method_32_code 83 = .ok (.iload 4, 2) := by decide +kernel
theorem d_Mo_parting_85 : decode prog_10_method_32_code 85 = .ok (.iload_n 3, 1) := by decide +kernel
theorem d_Mo_parting_86 : decode prog_10_method_32_code 86 = .ok (.if_icmp .ge 60, 3) := by decide +kernel
theorem d_Mo_parting_89 : decode prog_10_method_32_code 89 = .ok (.iload 4, 2) := by decide +kernel
theorem d_Mo_parting_91 : decode prog_10_method_32_code 91 = .ok (.aload_n 0, 1) := by decide +kernel
theorem d_Mo_parting_92 : decode prog_10_method_32_code 92 = .ok (.getfield 98, 3) := by decide +kernel
theorem d_Mo_parting_95 : decode prog_10_method_32_code 95 = .ok (.if_icmp .ge 51, 3) := by decide +kernel
theorem d_Mo_parting_98 : decode prog_10_method_32_code 98 = .ok (.aload_n 0, 1) := by decide +kernel
theorem d_Mo_parting_99 : decode prog_10_method_32_code 99 = .ok (.getfield 40, 3) := by decide +kernel
theorem d_Mo_parting_102 : decode prog_10_method_32_code 102 = .ok (.iload 4, 2) := by decide +kernel
theorem d_Mo_parting_104 : decode prog_10_method_32_code 104 = .ok (.iaload, 1) := by decide +kernel
theorem d_Mo_parting_105 : decode prog_10_method_32_code 105 = .ok (.aload_n 0, 1) := by decide +kernel
theorem d_Mo_parting_106 : decode prog_10_method_32_code 106 = .ok (.getfield 25, 3) := by decide +kernel
theorem d_Mo_parting_109 : decode prog_10_method_32_code 109 = .ok (.iload 4, 2) := by decide +kernel
theorem d_Mo_parting_111 : decode prog_10_method_32_code 111 = .ok (.iaload, 1) := by decide +kernel
theorem d_Mo_parting_112 : decode prog_10_method_32_code 112 = .ok (.if_icmp .ne 20, 3) := by decide +kernel
theorem d_Mo_parting_115 : decode prog_10_method_32_code 115 = .ok (.aload_n 0, 1) := by decide +kernel
theorem d_Mo_parting_116 : decode prog_10_method_32_code 116 = .ok (.getfield 43, 3) := by decide +kernel
theorem d_Mo_parting_119 : decode prog_10_method_32_code 119 = .ok (.iload 4, 2) := by decide +kernel
theorem d_Mo_parting_121 : decode prog_10_method_32_code 121 = .ok (.iaload, 1) := by decide +kernel
theorem d_Mo_parting_122 : decode prog_10_method_32_code 122 = .ok (.aload_n 0, 1) := by decide +kernel
theorem d_Mo_parting_123 : decode prog_10_method_32_code 123 = .ok (.getfield 28, 3) := by decide +kernel
theorem d_Mo_parting_126 : decode prog_10_method_32_code 126 = .ok (.iload 4, 2) := by decide +kernel
theorem d_Mo_parting_128 : decode prog_10_method_32_code 128 = .ok (.iaload, 1) := by decide +kernel
theorem d_Mo_parting_129 : decode prog_10_method_32_code 129 = .ok (.if_icmp .eq 11, 3) := by decide +kernel
theorem d_Mo_parting_132 : decode prog_10_method_32_code 132 = .ok (.aload_n 0, 1) := by decide +kernel
theorem d_Mo_parting_133 : decode prog_10_method_32_code 133 = .ok (.getfield 22, 3) := by decide +kernel
theorem d_Mo_parting_136 : decode prog_10_method_32_code 136 = .ok (.iload 4, 2) := by decide +kernel
theorem d_Mo_parting_138 : decode prog_10_method_32_code 138 = .ok (.iaload, 1) := by decide +kernel
theorem d_Mo_parting_139 : decode prog_10_method_32_code 139 = .ok (.ireturn, 1) := by decide +kernel
theorem d_Mo_parting_140 : decode prog_10_method_32_code 140 = .ok (.iinc 4 1, 3) := by decide +kernel
theorem d_Mo_parting_143 : decode prog_10_method_32_code 143 = .ok (.goto (-60), 3) := by decide +kernel
theorem d_Mo_parting_146 : decode prog_10_method_32_code 146 = .ok (.sipush (-10004), 3) := by decide +kernel
theorem d_Mo_parting_149 : decode prog_10_method_32_code 149 = .ok (.ireturn, 1) := by decide +kernel
theorem d_Mo_stretch_0 : decode prog_10_method_33_code 0 = .ok (.iconst 0, 1) := by decide +kernel
theorem d_Mo_stretch_1 : decode prog_10_method_33_code 1 = .ok (.istore_n 3, 1) := by decide +kernel
theorem d_Mo_stretch_2 : decode prog_10_method_33_code 2 = .ok (.iload_n 2, 1) := by decide +kernel
theorem d_Mo_stretch_3 : decode prog_10_method_33_code 3 = .ok (.iload_n 3, 1) := by decide +kernel
theorem d_Mo_stretch_4 : decode prog_10_method_33_code 4 = .ok (.iadd, 1) := by decide +kernel
theorem d_Mo_stretch_5 : decode prog_10_method_33_code 5 = .ok (.aload_n 0, 1) := by decide +kernel
theorem d_Mo_stretch_6 : decode prog_10_method_33_code 6 = .ok (.getfield 7, 3) := by decide +kernel
theorem d_Mo_stretch_9 : decode prog_10_method_33_code 9 = .ok (.iconst 0, 1) := by decide +kernel
theorem d_Mo_stretch_10 : decode prog_10_method_33_code 10 = .ok (.iaload, 1) := by decide +kernel
theorem d_Mo_stretch_11 : decode prog_10_method_33_code 11 = .ok (.if_icmp .ge 34, 3) := by decide +kernel
theorem d_Mo_stretch_14 : decode prog_10_method_33_code 14 = .ok (.aload_n 0, 1) := by decide +kernel
theorem d_Mo_stretch_15 : decode prog_10_method_33_code 15 = .ok (.getfield 7, 3) := by decide +kernel
theorem d_Mo_stretch_18 : decode prog_10_method_33_code 18 = .ok (.bipush 6, 2) := by decide +kernel
theorem d_Mo_stretch_20 : decode prog_10_method_33_code 20 = .ok (.iload_n 1, 1) := by decide +kernel
theorem d_Mo_stretch_21 : decode prog_10_method_33_code 21 = .ok (.iadd, 1) := by decide +kernel
theorem d_Mo_stretch_22 : decode prog_10_method_33_code 22 = .ok (.iload_n 3, 1) := by decide +kernel
theorem d_Mo_stretch_23 : decode prog_10_method_33_code 23 = .ok (.iadd, 1) := by decide +kernel
theorem d_Mo_stretch_24 : decode prog_10_method_33_code 24 = .ok (.iaload, 1) := by decide +kernel
theorem d_Mo_stretch_25 : decode prog_10_method_33_code 25 = .ok (.aload_n 0, 1) := by decide +kernel
theorem d_Mo_stretch_26 : decode prog_10_method_33_code 26 = .ok (.getfield 7, 3) := by decide +kernel
theorem d_Mo_stretch_29 : decode prog_10_method_33_code 29 = .ok (.bipush 6, 2) := by decide +kernel
theorem d_Mo_stretch_31 : decode prog_10_method_33_code 31 = .ok (.iload_n 2, 1) := by decide +kernel
theorem d_Mo_stretch_32 : decode prog_10_method_33_code 32 = .ok (.iadd, 1) := by decide +kernel
theorem d_Mo_stretch_33 : decode prog_10_method_33_code 33 = .ok (.iload_n 3, 1) := by decide +kernel
theorem d_Mo_stretch_34 : decode prog_10_method_33_code 34 = .ok (.iadd, 1) := by decide +kernel
theorem d_Mo_stretch_35 : decode prog_10_method_33_code 35 = .ok (.iaload, 1) := by decide +kernel
theorem d_Mo_stretch_36 : decode prog_10_method_33_code 36 = .ok (.if_icmp .ne 9, 3) := by decide +kernel
theorem d_Mo_stretch_39 : decode prog_10_method_33_code 39 = .ok (.iinc 3 1, 3) := by decide +kernel
theorem d_Mo_stretch_42 : decode prog_10_method_33_code 42 = .ok (.goto (-40), 3) := by decide +kernel
theorem d_Mo_stretch_45 : decode prog_10_method_33_code 45 = .ok (.iload_n 3, 1) := by decide +kernel
theorem d_Mo_stretch_46 : decode prog_10_method_33_code 46 = .ok (.ireturn, 1) := by decide +kernel
theorem d_Mo_repeat_0 : decode prog_10_method_34_code 0 = .ok (.iload_n 1, 1) := by decide +kernel
theorem d_Mo_repeat_1 : decode prog_10_method_34_code 1 = .ok (.iconst 0, 1) := by decide +kernel
theorem d_Mo_repeat_2 : decode prog_10_method_34_code 2 = .ok (.iconst 2, 1) := by decide +kernel
theorem d_Mo_repeat_3 : decode prog_10_method_34_code 3 = .ok (.invokestatic 53, 3) := by decide +kernel
theorem d_Mo_repeat_6 : decode prog_10_method_34_code 6 = .ok (.ifCond .ne 7, 3) := by decide +kernel
theorem d_Mo_repeat_9 : decode prog_10_method_34_code 9 = .ok (.sipush (-10001), 3) := by decide +kernel
theorem d_Mo_repeat_12 : decode prog_10_method_34_code 12 = .ok (.ireturn, 1) := by decide +kernel
theorem d_Mo_repeat_13 : decode prog_10_method_34_code 13 = .ok (.iconst 0, 1) := by decide +kernel
theorem d_Mo_repeat_14 : decode prog_10_method_34_code 14 = .ok (.istore_n 2, 1) := by decide +kernel
theorem d_Mo_repeat_15 : decode prog_10_method_34_code 15 = .ok (.iconst 0, 1) := by decide +kernel
theorem d_Mo_repeat_16 : decode prog_10_method_34_code 16 = .ok (.istore_n 3, 1) := by decide +kernel
theorem d_Mo_repeat_17 : decode prog_10_method_34_code 17 = .ok (.iconst 0, 1) := by decide +kernel
theorem d_Mo_repeat_18 : decode prog_10_method_34_code 18 = .ok (.istore 4, 2) := by decide +kernel
theorem d_Mo_repeat_20 : decode prog_10_method_34_code 20 = .ok (.iconst 1, 1) := by decide +kernel
theorem d_Mo_repeat_21 : decode prog_10_method_34_code 21 = .ok (.istore 5, 2) := by decide +kernel
theorem d_Mo_repeat_23 : decode prog_10_method_34_code 23 = .ok (.iload 5, 2) := by decide +kernel
theorem d_Mo_repeat_25 : decode prog_10_method_34_code 25 = .ok (.aload_n 0, 1) := by decide +kernel
theorem d_Mo_repeat_26 : decode prog_10_method_34_code 26 = .ok (.getfield 7, 3) := by decide +kernel
theorem d_Mo_repeat_29 : decode prog_10_method_34_code 29 = .ok (.iconst 0, 1) := by decide +kernel
theorem d_Mo_repeat_30 : decode prog_10_method_34_code 30 = .ok (.iaload, 1) := by decide +kernel
theorem d_Mo_repeat_31 : decode prog_10_method_34_code 31 = .ok (.if_icmp .ge 76, 3) := by decide +kernel
theorem d_Mo_repeat_34 : decode prog_10_method_34_code 34 = .ok (.iconst 0, 1) := by decide +kernel
theorem d_Mo_repeat_35 : decode prog_10_method_34_code 35 = .ok (.istore 6, 2) := by decide +kernel
theorem d_Mo_repeat_37 : decode prog_10_method_34_code 37 = .ok (.iload 6, 2) := by decide +kernel
theorem d_Mo_repeat_39 : decode prog_10_method_34_code 39 = .ok (.iload 5, 2) := by decide +kernel
theorem d_Mo_repeat_41 : decode prog_10_method_34_code 41 = .ok (.if_icmp .ge 60, 3) := by decide +kernel
theorem d_Mo_repeat_44 : decode prog_10_method_34_code 44 = .ok (.aload_n 0, 1) := by decide +kernel
theorem d_Mo_repeat_45 : decode prog_10_method_34_code 45 = .ok (.iload 6, 2) := by decide +kernel
theorem d_Mo_repeat_47 : decode prog_10_method_34_code 47 = .ok (.iload 5, 2) := by decide +kernel
theorem d_Mo_repeat_49 : decode prog_10_method_34_code 49 = .ok (.invokevirtual 113, 3) := by decide +kernel
theorem d_Mo_repeat_52 : decode prog_10_method_34_code 52 = .ok (.istore 7, 2) := by decide +kernel
theorem d_Mo_repeat_54 : decode prog_10_method_34_code 54 = .ok (.iload 7, 2) := by decide +kernel
theorem d_Mo_repeat_56 : decode prog_10_method_34_code 56 = .ok (.iload_n 2, 1) := by decide +kernel
theorem d_Mo_repeat_57 : decode prog_10_method_34_code 57 = .ok (.if_icmp .le 8, 3) := by decide +kernel
theorem d_Mo_repeat_60 : decode prog_10_method_34_code 60 = .ok (.iload 6, 2) := by decide +kernel
theorem d_Mo_repeat_62 : decode prog_10_method_34_code 62 = .ok (.goto 4, 3) := by decide +kernel
theorem d_Mo_repeat_65 : decode prog_10_method_34_code 65 = .ok (.iload_n 3, 1) := by decide +kernel
theorem d_Mo_repeat_66 : decode prog_10_method_34_code 66 = .ok (.istore_n 3, 1) := by decide +kernel
theorem d_Mo_repeat_67 : decode prog_10_method_34_code 67 = .ok (.iload 7, 2) := by decide +kernel
theorem d_Mo_repeat_69 : decode prog_10_method_34_code 69 = .ok (.iload_n 2, 1) := by decide +kernel
theorem d_Mo_repeat_70 : decode prog_10_method_34_code 70 = .ok (.if_icmp .le 8, 3) := by decide +kernel
theorem d_Mo_repeat_73 : decode prog_10_method_34_code 73 = .ok (.iload 5, 2) := by decide +kernel
theorem d_Mo_repeat_75 : decode prog_10_method_34_code 75 = .ok (.goto 5, 3) := by decide +kernel
theorem d_Mo_repeat_78 : decode prog_10_method_34_code 78 = .ok (.iload 4, 2) := by decide +kernel
theorem d_Mo_repeat_80 : decode prog_10_method_34_code 80 = .ok (.istore 4, 2) := by decide +kernel
theorem d_Mo_repeat_82 : decode prog_10_method_34_code 82 = .ok (.iload 7, 2) := by decide +kernel
theorem d_Mo_repeat_84 : decode prog_10_method_34_code 84 = .ok (.iload_n 2, 1) := by decide +kernel
theorem d_Mo_repeat_85 : decode prog_10_method_34_code 85 = .ok (.if_icmp .le 8, 3) := by decide +kernel
theorem d_Mo_repeat_88 : decode prog_10_method_34_code 88 = .ok (.iload 7, 2) := by decide +kernel
theorem d_Mo_repeat_90 : decode prog_10_method_34_code 90 = .ok (.goto 4, 3) := by decide +kernel
theorem d_Mo_repeat_93 : decode prog_10_method_34_code 93 = .ok (.iload_n 2, 1) := by decide +kernel
theorem d_Mo_repeat_94 : decode prog_10_method_34_code 94 = .ok (.istore_n 2, 1) := by decide +kernel
theorem d_Mo_repeat_95 : decode prog_10_method_34_code 95 = .ok (.iinc 6 1, 3) := by decide +kernel
theorem d_Mo_repeat_98 : decode prog_10_method_34_code 98 = .ok (.goto (-61), 3) := by decide +kernel
theorem d_Mo_repeat_101 : decode prog_10_method_34_code 101 = .ok (.iinc 5 1, 3) := by decide +kernel
theorem d_Mo_repeat_104 : decode prog_10_method_34_code 104 = .ok (.goto (-81), 3) := by decide +kernel
theorem d_Mo_repeat_107 : decode prog_10_method_34_code 107 = .ok (.iload_n 2, 1) := by decide +kernel
theorem d_Mo_repeat_108 : decode prog_10_method_34_code 108 = .ok (.ifCond .ne 9, 3) := by decide +kernel
theorem d_Mo_repeat_111 : decode prog_10_method_34_code 111 = .ok (.sipush (-10004), 3) := by decide +kernel
theorem d_Mo_repeat_114 : decode prog_10_method_34_code 114 = .ok (.goto 22, 3) := by decide +kernel
theorem d_Mo_repeat_117 : decode prog_10_method_34_code 117 = .ok (.iload_n 1, 1) := by decide +kernel
theorem d_Mo_repeat_118 : decode prog_10_method_34_code 118 = .ok (.ifCond .ne 7, 3) := by decide +kernel
theorem d_Mo_repeat_121 : decode prog_10_method_34_code 121 = .ok (.iload_n 2, 1) := by decide +kernel
theorem d_Mo_repeat_122 : decode prog_10_method_34_code 122 = .ok (.goto 14, 3) := by decide +kernel
theorem d_Mo_repeat_125 : decode prog_10_method_34_code 125 = .ok (.iload_n 1, 1) := by decide +kernel
theorem d_Mo_repeat_126 : decode prog_10_method_34_code 126 = .ok (.iconst 1, 1) := by decide +kernel
theorem d_Mo_repeat_127 : decode prog_10_method_34_code 127 = .ok (.if_icmp .ne 7, 3) := by decide +kernel
theorem d_Mo_repeat_130 : decode prog_10_method_34_code 130 = .ok (.iload_n 3, 1) := by decide +kernel
theorem d_Mo_repeat_131 : decode prog_10_method_34_code 131 = .ok (.goto 5, 3) := by decide +kernel
theorem d_Mo_repeat_134 : decode prog_10_method_34_code 134 = .ok (.iload 4, 2) := by decide +kernel
theorem d_Mo_repeat_136 : decode prog_10_method_34_code 136 = .ok (.ireturn, 1) := by decide +kernel
theorem d_Mo_unlike_0 : decode prog_10_method_35_code 0 = .ok (.iconst 0, 1) := by decide +kernel
theorem d_Mo_unlike_1 : decode prog_10_method_35_code 1 = .ok (.istore_n 1, 1) := by decide +kernel
theorem d_Mo_unlike_2 : decode prog_10_method_35_code 2 = .ok (.iconst 0, 1) := by decide +kernel
theorem d_Mo_unlike_3 : decode prog_10_method_35_code 3 = .ok (.istore_n 2, 1) := by decide +kernel
theorem d_Mo_unlike_4 : decode prog_10_method_35_code 4 = .ok (.iconst 0, 1) := by decide +kernel
theorem d_Mo_unlike_5 : decode prog_10_method_35_code 5 = .ok (.istore_n 3, 1) := by decide +kernel
theorem d_Mo_unlike_6 : decode prog_10_method_35_code 6 = .ok (.iload_n 3, 1) := by decide +kernel
theorem d_Mo_unlike_7 : decode prog_10_method_35_code 7 = .ok (.aload_n 0, 1) := by decide +kernel
theorem d_Mo_unlike_8 : decode prog_10_method_35_code 8 = .ok (.getfield 7, 3) := by decide +kernel
theorem d_Mo_unlike_11 : decode prog_10_method_35_code 11 = .ok (.iconst 0, 1) := by decide +kernel
theorem d_Mo_unlike_12 : decode prog_10_method_35_code 12 = .ok (.iaload, 1) := by decide +kernel
theorem d_Mo_unlike_13 : decode prog_10_method_35_code 13 = .ok (.if_icmp .ge 47, 3) := by decide +kernel
theorem d_Mo_unlike_16 : decode prog_10_method_35_code 16 = .ok (.iload_n 2, 1) := by decide +kernel
theorem d_Mo_unlike_17 : decode prog_10_method_35_code 17 = .ok (.iload_n 1, 1) := by decide +kernel
theorem d_Mo_unlike_18 : decode prog_10_method_35_code 18 = .ok (.aload_n 0, 1) := by decide +kernel
theorem d_Mo_unlike_19 : decode prog_10_method_35_code 19 = .ok (.getfield 7, 3) := by decide +kernel
theorem d_Mo_unlike_22 : decode prog_10_method_35_code 22 = .ok (.bipush 6, 2) := by decide +kernel
theorem d_Mo_unlike_24 : decode prog_10_method_35_code 24 = .ok (.iload_n 3, 1) := by decide +kernel
theorem d_Mo_unlike_25 : decode prog_10_method_35_code 25 = .ok (.iadd, 1) := by decide +kernel
theorem d_Mo_unlike_26 : decode prog_10_method_35_code 26 = .ok (.iaload, 1) := by decide +kernel
theorem d_Mo_unlike_27 : decode prog_10_method_35_code 27 = .ok (.ishr, 1) := by decide +kernel
theorem d_Mo_unlike_28 : decode prog_10_method_35_code 28 = .ok (.iconst 1, 1) := by decide +kernel
theorem d_Mo_unlike_29 : decode prog_10_method_35_code 29 = .ok (.iand, 1) := by decide +kernel
theorem d_Mo_unlike_30 : decode prog_10_method_35_code 30 = .ok (.ifCond .ne 7, 3) := by decide +kernel
theorem d_Mo_unlike_33 : decode prog_10_method_35_code 33 = .ok (.iconst 1, 1) := by decide +kernel
theorem d_Mo_unlike_34 : decode prog_10_method_35_code 34 = .ok (.goto 4, 3) := by decide +kernel
theorem d_Mo_unlike_37 : decode prog_10_method_35_code 37 = .ok (.iconst 0, 1) := by decide +kernel
theorem d_Mo_unlike_38 : decode prog_10_method_35_code 38 = .ok (.iadd, 1) := by decide +kernel
theorem d_Mo_unlike_39 : decode prog_10_method_35_code 39 = .ok (.istore_n 2, 1) := by decide +kernel
theorem d_Mo_unlike_40 : decode prog_10_method_35_code 40 = .ok (.iload_n 1, 1) := by decide +kernel
theorem d_Mo_unlike_41 : decode prog_10_method_35_code 41 = .ok (.iconst 1, 1) := by decide +kernel
theorem d_Mo_unlike_42 : decode prog_10_method_35_code 42 = .ok (.aload_n 0, 1) := by decide +kernel
theorem d_Mo_unlike_43 : decode prog_10_method_35_code 43 = .ok (.getfield 7, 3) := by decide +kernel
theorem d_Mo_unlike_46 : decode prog_10_method_35_code 46 = .ok (.bipush 6, 2) := by decide +kernel
theorem d_Mo_unlike_48 : decode prog_10_method_35_code 48 = .ok (.iload_n 3, 1) := by decide +kernel
theorem d_Mo_unlike_49 : decode prog_10_method_35_code 49 = .ok (.iadd, 1) := by decide +kernel
theorem d_Mo_unlike_50 : decode prog_10_method_35_code 50 = .ok (.iaload, 1) := by decide +kernel
theorem d_Mo_unlike_51 : decode prog_10_method_35_code 51 = .ok (.ishl, 1) := by decide +kernel
theorem d_Mo_unlike_52 : decode prog_10_method_35_code 52 = .ok (.ior, 1) := by decide +kernel
theorem d_Mo_unlike_53 : decode prog_10_method_35_code 53 = .ok (.istore_n 1, 1) := by decide +kernel
theorem d_Mo_unlike_54 : decode prog_10_method_35_code 54 = .ok (.iinc 3 1, 3) := by decide +kernel
theorem d_Mo_unlike_57 : decode prog_10_method_35_code 57 = .ok (.goto (-51), 3) := by decide +kernel
theorem d_Mo_unlike_60 : decode prog_10_method_35_code 60 = .ok (.iload_n 2, 1) := by decide +kernel
theorem d_Mo_unlike_61 : decode prog_10_method_35_code 61 = .ok (.ireturn, 1) := by decide +kernel
theorem d_Mo_cheapest_0 : decode prog_10_method_36_code 0 = .ok (.aload_n 0, 1) := by decide +kernel
theorem d_Mo_cheapest_1 : decode prog_10_method_36_code 1 = .ok (.iconst 1, 1) := by decide +kernel
theorem d_Mo_cheapest_2 : decode prog_10_method_36_code 2 = .ok (.invokevirtual 110, 3) := by decide +kernel
theorem d_Mo_cheapest_5 : decode prog_10_method_36_code 5 = .ok (.aload_n 0, 1) := by decide +kernel
theorem d_Mo_cheapest_6 : decode prog_10_method_36_code 6 = .ok (.iconst 0, 1) := by decide +kernel
theorem d_Mo_cheapest_7 : decode prog_10_method_36_code 7 = .ok (.invokevirtual 110, 3) := by decide +kernel
theorem d_Mo_cheapest_10 : decode prog_10_method_36_code 10 = .ok (.if_icmp .ge 7, 3) := by decide +kernel
theorem d_Mo_cheapest_13 : decode prog_10_method_36_code 13 = .ok (.iconst 1, 1) := by decide +kernel
theorem d_Mo_cheapest_14 : decode prog_10_method_36_code 14 = .ok (.goto 4, 3) := by decide +kernel
theorem d_Mo_cheapest_17 : decode prog_10_method_36_code 17 = .ok (.iconst 0, 1) := by decide +kernel
theorem d_Mo_cheapest_18 : decode prog_10_method_36_code 18 = .ok (.istore_n 1, 1) := by decide +kernel
theorem d_Mo_cheapest_19 : decode prog_10_method_36_code 19 = .ok (.aload_n 0, 1) := by decide +kernel
theorem d_Mo_cheapest_20 : decode prog_10_method_36_code 20 = .ok (.iconst 2, 1) := by decide +kernel
theorem d_Mo_cheapest_21 : decode prog_10_method_36_code 21 = .ok (.invokevirtual 110, 3) := by decide +kernel
theorem d_Mo_cheapest_24 : decode prog_10_method_36_code 24 = .ok (.aload_n 0, 1) := by decide +kernel
theorem d_Mo_cheapest_25 : decode prog_10_method_36_code 25 = .ok (.iload_n 1, 1) := by decide +kernel
theorem d_Mo_cheapest_26 : decode prog_10_method_36_code 26 = .ok (.invokevirtual 110, 3) := by decide +kernel
theorem d_Mo_cheapest_29 : decode prog_10_method_36_code 29 = .ok (.if_icmp .ge 7, 3) := by decide +kernel
theorem d_Mo_cheapest_32 : decode prog_10_method_36_code 32 = .ok (.iconst 2, 1) := by decide +kernel
theorem d_Mo_cheapest_33 : decode prog_10_method_36_code 33 = .ok (.goto 4, 3) := by decide +kernel
theorem d_Mo_cheapest_36 : decode prog_10_method_36_code 36 = .ok (.iload_n 1, 1) := by decide +kernel
theorem d_Mo_cheapest_37 : decode prog_10_method_36_code 37 = .ok (.ireturn, 1) := by decide +kernel
theorem d_Mo_count_0 : decode prog_10_method_37_code 0 = .ok (.iload_n 1, 1) := by decide +kernel
theorem d_Mo_count_1 : decode prog_10_method_37_code 1 = .ok (.tableswitch 79 0 5 #[39, 46, 51, 56, 61, 66], 39) := by decide +kernel
theorem d_Mo_count_40 : decode prog_10_method_37_code 40 = .ok (.aload_n 0, 1) := by decide +kernel
theorem d_Mo_count_41 : decode prog_10_method_37_code 41 = .ok (.getfield 7, 3) := by decide +kernel
theorem d_Mo_count_44 : decode prog_10_method_37_code 44 = .ok (.iconst 0, 1) := by decide +kernel
theorem d_Mo_count_45 : decode prog_10_method_37_code 45 = .ok (.iaload, 1) := by decide +kernel
theorem d_Mo_count_46 : decode prog_10_method_37_code 46 = .ok (.ireturn, 1) := by decide +kernel
theorem d_Mo_count_47 : decode prog_10_method_37_code 47 = .ok (.aload_n 0, 1) := by decide +kernel
theorem d_Mo_count_48 : decode prog_10_method_37_code 48 = .ok (.invokevirtual 116, 3) := by decide +kernel
theorem d_Mo_count_51 : decode prog_10_method_37_code 51 = .ok (.ireturn, 1) := by decide +kernel
theorem d_Mo_count_52 : decode prog_10_method_37_code 52 = .ok (.aload_n 0, 1) := by decide +kernel
theorem d_Mo_count_53 : decode prog_10_method_37_code 53 = .ok (.invokevirtual 120, 3) := by decide +kernel
theorem d_Mo_count_56 : decode prog_10_method_37_code 56 = .ok (.ireturn, 1) := by decide +kernel
theorem d_Mo_count_57 : decode prog_10_method_37_code 57 = .ok (.aload_n 0, 1) := by decide +kernel
theorem d_Mo_count_58 : decode prog_10_method_37_code 58 = .ok (.getfield 49, 3) := by decide +kernel
theorem d_Mo_count_61 : decode prog_10_method_37_code 61 = .ok (.ireturn, 1) := by decide +kernel
theorem d_Mo_count_62 : decode prog_10_method_37_code 62 = .ok (.aload_n 0, 1) := by decide +kernel
theorem d_Mo_count_63 : decode prog_10_method_37_code 63 = .ok (.getfield 123, 3) := by decide +kernel
theorem d_Mo_count_66 : decode prog_10_method_37_code 66 = .ok (.ireturn, 1) := by decide +kernel
theorem d_Mo_count_67 : decode prog_10_method_37_code 67 = .ok (.aload_n 0, 1) := by decide +kernel
theorem d_Mo_count_68 : decode prog_10_method_37_code 68 = .ok (.getfield 126, 3) := by decide +kernel
theorem d_Mo_count_71 : decode prog_10_method_37_code 71 = .ok (.ifCond .eq 7, 3) := by decide +kernel
theorem d_Mo_count_74 : decode prog_10_method_37_code 74 = .ok (.iconst 1, 1) := by decide +kernel
theorem d_Mo_count_75 : decode prog_10_method_37_code 75 = .ok (.goto 4, 3) := by decide +kernel
theorem d_Mo_count_78 : decode prog_10_method_37_code 78 = .ok (.iconst 0, 1) := by decide +kernel
theorem d_Mo_count_79 : decode prog_10_method_37_code 79 = .ok (.ireturn, 1) := by decide +kernel
theorem d_Mo_count_80 : decode prog_10_method_37_code 80 = .ok (.iload_n 1, 1) := by decide +kernel
theorem d_Mo_count_81 : decode prog_10_method_37_code 81 = .ok (.bipush 10, 2) := by decide +kernel
theorem d_Mo_count_83 : decode prog_10_method_37_code 83 = .ok (.bipush 14, 2) := by decide +kernel
theorem d_Mo_count_85 : decode prog_10_method_37_code 85 = .ok (.invokestatic 53, 3) := by decide +kernel
theorem d_Mo_count_88 : decode prog_10_method_37_code 88 = .ok (.ifCond .eq 17, 3) := by decide +kernel
theorem d_Mo_count_91 : decode prog_10_method_37_code 91 = .ok (.aload_n 0, 1) := by decide +kernel
theorem d_Mo_count_92 : decode prog_10_method_37_code 92 = .ok (.getfield 7, 3) := by decide +kernel
theorem d_Mo_count_95 : decode prog_10_method_37_code 95 = .ok (.iconst 1, 1) := by decide +kernel
theorem d_Mo_count_96 : decode prog_10_method_37_code 96 = .ok (.iload_n 1, 1) := by decide +kernel
theorem d_Mo_count_97 : decode prog_10_method_37_code 97 = .ok (.iadd, 1) := by decide +kernel
theorem d_Mo_count_98 : decode prog_10_method_37_code 98 = .ok (.bipush 10, 2) := by decide +kernel
theorem d_Mo_count_100 : decode prog_10_method_37_code 100 = .ok (.isub, 1) := by decide +kernel
theorem d_Mo_count_101 : decode prog_10_method_37_code 101 = .ok (.iaload, 1) := by decide +kernel
theorem d_Mo_count_102 : decode prog_10_method_37_code 102 = .ok (.goto 6, 3) := by decide +kernel
theorem d_Mo_count_105 : decode prog_10_method_37_code 105 = .ok (.sipush (-10001), 3) := by decide +kernel
theorem d_Mo_count_108 : decode prog_10_method_37_code 108 = .ok (.ireturn, 1) := by decide +kernel
theorem d_Mo_keep_0 : decode prog_10_method_38_code 0 = .ok (.aload_n 0, 1) := by decide +kernel
theorem d_Mo_keep_1 : decode prog_10_method_38_code 1 = .ok (.getfield 7, 3) := by decide +kernel
theorem d_Mo_keep_4 : decode prog_10_method_38_code 4 = .ok (.aload_n 0, 1) := by decide +kernel
theorem d_Mo_keep_5 : decode prog_10_method_38_code 5 = .ok (.getfield 16, 3) := by decide +kernel
theorem d_Mo_keep_8 : decode prog_10_method_38_code 8 = .ok (.invokestatic 130, 3) := by decide +kernel
theorem d_Mo_keep_11 : decode prog_10_method_38_code 11 = .ok (.aload_n 0, 1) := by decide +kernel
theorem d_Mo_keep_12 : decode prog_10_method_38_code 12 = .ok (.iconst 1, 1) := by decide +kernel
theorem d_Mo_keep_13 : decode prog_10_method_38_code 13 = .ok (.putfield 126, 3) := by decide +kernel
theorem d_Mo_keep_16 : decode prog_10_method_38_code 16 = .ok (.aload_n 0, 1) := by decide +kernel
theorem d_Mo_keep_17 : decode prog_10_method_38_code 17 = .ok (.getfield 7, 3) := by decide +kernel
theorem d_Mo_keep_20 : decode prog_10_method_38_code 20 = .ok (.iconst 0, 1) := by decide +kernel
theorem d_Mo_keep_21 : decode prog_10_method_38_code 21 = .ok (.iaload, 1) := by decide +kernel
theorem d_Mo_keep_22 : decode prog_10_method_38_code 22 = .ok (.ireturn, 1) := by decide +kernel
theorem d_Mo_restore_0 : decode prog_10_method_39_code 0 = .ok (.aload_n 0, 1) := by decide +kernel
theorem d_Mo_restore_1 : decode prog_10_method_39_code 1 = .ok (.getfield 126, 3) := by decide +kernel
theorem d_Mo_restore_4 : decode prog_10_method_39_code 4 = .ok (.ifCond .ne 7, 3) := by decide +kernel
theorem d_Mo_restore_7 : decode prog_10_method_39_code 7 = .ok (.sipush (-10002), 3) := by decide +kernel
theorem d_Mo_restore_10 : decode prog_10_method_39_code 10 = .ok (.ireturn, 1) := by decide +kernel
theorem d_Mo_restore_11 : decode prog_10_method_39_code 11 = .ok (.aload_n 0, 1) := by decide +kernel
theorem d_Mo_restore_12 : decode prog_10_method_39_code 12 = .ok (.invokevirtual 57, 3) := by decide +kernel
theorem d_Mo_restore_15 : decode prog_10_method_39_code 15 = .ok (.aload_n 0, 1) := by decide +kernel
theorem d_Mo_restore_16 : decode prog_10_method_39_code 16 = .ok (.getfield 16, 3) := by decide +kernel
theorem d_Mo_restore_19 : decode prog_10_method_39_code 19 = .ok (.aload_n 0, 1) := by decide +kernel
theorem d_Mo_restore_20 : decode prog_10_method_39_code 20 = .ok (.getfield 7, 3) := by decide +kernel
theorem d_Mo_restore_23 : decode prog_10_method_39_code 23 = .ok (.invokestatic 130, 3) := by decide +kernel
theorem d_Mo_restore_26 : decode prog_10_method_39_code 26 = .ok (.aload_n 0, 1) := by decide +kernel
theorem d_Mo_restore_27 : decode prog_10_method_39_code 27 = .ok (.getfield 7, 3) := by decide +kernel
theorem d_Mo_restore_30 : decode prog_10_method_39_code 30 = .ok (.iconst 0, 1) := by decide +kernel
theorem d_Mo_restore_31 : decode prog_10_method_39_code 31 = .ok (.iaload, 1) := by decide +kernel
theorem d_Mo_restore_32 : decode prog_10_method_39_code 32 = .ok (.ireturn, 1) := by decide +kernel
theorem d_Mo_undo_0 : decode prog_10_method_40_code 0 = .ok (.aload_n 0, 1) := by decide +kernel
theorem d_Mo_undo_1 : decode prog_10_method_40_code 1 = .ok (.getfield 49, 3) := by decide +kernel
theorem d_Mo_undo_4 : decode prog_10_method_40_code 4 = .ok (.ifCond .ne 7, 3) := by decide +kernel
theorem d_Mo_undo_7 : decode prog_10_method_40_code 7 = .ok (.sipush (-10002), 3) := by decide +kernel
theorem d_Mo_undo_10 : decode prog_10_method_40_code 10 = .ok (.ireturn, 1) := by decide +kernel
theorem d_Mo_undo_11 : decode prog_10_method_40_code 11 = .ok (.aload_n 0, 1) := by decide +kernel
theorem d_Mo_undo_12 : decode prog_10_method_40_code 12 = .ok (.dup, 1) := by decide +kernel
theorem d_Mo_undo_13 : decode prog_10_method_40_code 13 = .ok (.getfield 49, 3) := by decide +kernel
theorem d_Mo_undo_16 : decode prog_10_method_40_code 16 = .ok (.iconst 1, 1) := by decide +kernel
theorem d_Mo_undo_17 : decode prog_10_method_40_code 17 = .ok (.isub, 1) := by decide +kernel
theorem d_Mo_undo_18 : decode prog_10_method_40_code 18 = .ok (.putfield 49, 3) := by decide +kernel
theorem d_Mo_undo_21 : decode prog_10_method_40_code 21 = .ok (.iconst 0, 1) := by decide +kernel
theorem d_Mo_undo_22 : decode prog_10_method_40_code 22 = .ok (.istore_n 1, 1) := by decide +kernel
theorem d_Mo_undo_23 : decode prog_10_method_40_code 23 = .ok (.iload_n 1, 1) := by decide +kernel
theorem d_Mo_undo_24 : decode prog_10_method_40_code 24 = .ok (.bipush 66, 2) := by decide +kernel
theorem d_Mo_undo_26 : decode prog_10_method_40_code 26 = .ok (.if_icmp .ge 29, 3) := by decide +kernel
theorem d_Mo_undo_29 : decode prog_10_method_40_code 29 = .ok (.aload_n 0, 1) := by decide +kernel
theorem d_Mo_undo_30 : decode prog_10_method_40_code 30 = .ok (.getfield 7, 3) := by decide +kernel
theorem d_Mo_undo_33 : decode prog_10_method_40_code 33 = .ok (.iload_n 1, 1) := by decide +kernel
theorem d_Mo_undo_34 : decode prog_10_method_40_code 34 = .ok (.aload_n 0, 1) := by decide +kernel
theorem d_Mo_undo_35 : decode prog_10_method_40_code 35 = .ok (.getfield 13, 3) := by decide +kernel
theorem d_Mo_undo_38 : decode prog_10_method_40_code 38 = .ok (.bipush 66, 2) := by decide +kernel
theorem d_Mo_undo_40 : decode prog_10_method_40_code 40 = .ok (.aload_n 0, 1) := by decide +kernel
theorem d_Mo_undo_41 : decode prog_10_method_40_code 41 = .ok (.getfield 49, 3) := by decide +kernel
theorem d_Mo_undo_44 : decode prog_10_method_40_code 44 = .ok (.imul, 1) := by decide +kernel
theorem d_Mo_undo_45 : decode prog_10_method_40_code 45 = .ok (.iload_n 1, 1) := by decide +kernel
theorem d_Mo_undo_46 : decode prog_10_method_40_code 46 = .ok (.iadd, 1) := by decide +kernel
theorem d_Mo_undo_47 : decode prog_10_method_40_code 47 = .ok (.iaload, 1) := by decide +kernel
theorem d_Mo_undo_48 : decode prog_10_method_40_code 48 = .ok (.iastore, 1) := by decide +kernel
theorem d_Mo_undo_49 : decode prog_10_method_40_code 49 = .ok (.iinc 1 1, 3) := by decide +kernel
theorem d_Mo_undo_52 : decode prog_10_method_40_code 52 = .ok (.goto (-29), 3) := by decide +kernel
theorem d_Mo_undo_55 : decode prog_10_method_40_code 55 = .ok (.aload_n 0, 1) := by decide +kernel
theorem d_Mo_undo_56 : decode prog_10_method_40_code 56 = .ok (.getfield 49, 3) := by decide +kernel
theorem d_Mo_undo_59 : decode prog_10_method_40_code 59 = .ok (.ireturn, 1) := by decide +kernel
theorem d_Mo_type_0 : decode prog_10_method_41_code 0 = .ok (.iload_n 1, 1) := by decide +kernel
theorem d_Mo_type_1 : decode prog_10_method_41_code 1 = .ok (.bipush 32, 2) := by decide +kernel
theorem d_Mo_type_3 : decode prog_10_method_41_code 3 = .ok (.bipush 126, 2) := by decide +kernel
theorem d_Mo_type_5 : decode prog_10_method_41_code 5 = .ok (.invokestatic 53, 3) := by decide +kernel
theorem d_Mo_type_8 : decode prog_10_method_41_code 8 = .ok (.ifCond .ne 7, 3) := by decide +kernel
theorem d_Mo_type_11 : decode prog_10_method_41_code 11 = .ok (.sipush (-10001), 3) := by decide +kernel
theorem d_Mo_type_14 : decode prog_10_method_41_code 14 = .ok (.ireturn, 1) := by decide +kernel
theorem d_Mo_type_15 : decode prog_10_method_41_code 15 = .ok (.aload_n 0, 1) := by decide +kernel
theorem d_Mo_type_16 : decode prog_10_method_41_code 16 = .ok (.getfield 123, 3) := by decide +kernel
theorem d_Mo_type_19 : decode prog_10_method_41_code 19 = .ok (.bipush 120, 2) := by decide +kernel
theorem d_Mo_type_21 : decode prog_10_method_41_code 21 = .ok (.if_icmp .ne 7, 3) := by decide +kernel
theorem d_Mo_type_24 : decode prog_10_method_41_code 24 = .ok (.sipush (-10003), 3) := by decide +kernel
theorem d_Mo_type_27 : decode prog_10_method_41_code 27 = .ok (.ireturn, 1) := by decide +kernel
theorem d_Mo_type_28 : decode prog_10_method_41_code 28 = .ok (.aload_n 0, 1) := by decide +kernel
theorem d_Mo_type_29 : decode prog_10_method_41_code 29 = .ok (.getfield 19, 3) := by decide +kernel
theorem d_Mo_type_32 : decode prog_10_method_41_code 32 = .ok (.aload_n 0, 1) := by decide +kernel
theorem d_Mo_type_33 : decode prog_10_method_41_code 33 = .ok (.getfield 123, 3) := by decide +kernel
theorem d_Mo_type_36 : decode prog_10_method_41_code 36 = .ok (.iload_n 1, 1) := by decide +kernel
theorem d_Mo_type_37 : decode prog_10_method_41_code 37 = .ok (.iastore, 1) := by decide +kernel
theorem d_Mo_type_38 : decode prog_10_method_41_code 38 = .ok (.aload_n 0, 1) := by decide +kernel
theorem d_Mo_type_39 : decode prog_10_method_41_code 39 = .ok (.dup, 1) := by decide +kernel
theorem d_Mo_type_40 : decode prog_10_method_41_code 40 = .ok (.getfield 123, 3) := by decide +kernel
theorem d_Mo_type_43 : decode prog_10_method_41_code 43 = .ok (.iconst 1, 1) := by decide +kernel
theorem d_Mo_type_44 : decode prog_10_method_41_code 44 = .ok (.iadd, 1) := by decide +kernel
theorem d_Mo_type_45 : decode prog_10_method_41_code 45 = .ok (.putfield 123, 3) := by decide +kernel
theorem d_Mo_type_48 : decode prog_10_method_41_code 48 = .ok (.aload_n 0, 1) := by decide +kernel
theorem d_Mo_type_49 : decode prog_10_method_41_code 49 = .ok (.getfield 123, 3) := by decide +kernel
theorem d_Mo_type_52 : decode prog_10_method_41_code 52 = .ok (.ireturn, 1) := by decide +kernel
theorem d_Mo_clearText_0 : decode prog_10_method_42_code 0 = .ok (.aload_n 0, 1) := by decide +kernel
theorem d_Mo_clearText_1 : decode prog_10_method_42_code 1 = .ok (.getfield 123, 3) := by decide +kernel
theorem d_Mo_clearText_4 : decode prog_10_method_42_code 4 = .ok (.istore_n 1, 1) := by decide +kernel
theorem d_Mo_clearText_5 : decode prog_10_method_42_code 5 = .ok (.aload_n 0, 1) := by decide +kernel
theorem d_Mo_clearText_6 : decode prog_10_method_42_code 6 = .ok (.iconst 0, 1) := by decide +kernel
theorem d_Mo_clearText_7 : decode prog_10_method_42_code 7 = .ok (.putfield 123, 3) := by decide +kernel
theorem d_Mo_clearText_10 : decode prog_10_method_42_code 10 = .ok (.iload_n 1, 1) := by decide +kernel
theorem d_Mo_clearText_11 : decode prog_10_method_42_code 11 = .ok (.ireturn, 1) := by decide +kernel
theorem d_Mo_digits_0 : decode prog_10_method_43_code 0 = .ok (.iload_n 0, 1) := by decide +kernel
theorem d_Mo_digits_1 : decode prog_10_method_43_code 1 = .ok (.bipush 9, 2) := by decide +kernel
theorem d_Mo_digits_3 : decode prog_10_method_43_code 3 = .ok (.if_icmp .le 7, 3) := by decide +kernel
theorem d_Mo_digits_6 : decode prog_10_method_43_code 6 = .ok (.iconst 2, 1) := by decide +kernel
theorem d_Mo_digits_7 : decode prog_10_method_43_code 7 = .ok (.goto 4, 3) := by decide +kernel
theorem d_Mo_digits_10 : decode prog_10_method_43_code 10 = .ok (.iconst 1, 1) := by decide +kernel
theorem d_Mo_digits_11 : decode prog_10_method_43_code 11 = .ok (.ireturn, 1) := by decide +kernel
theorem d_Mo_writesNumber_0 : decode prog_10_method_44_code 0 = .ok (.iload_n 1, 1) := by decide +kernel
theorem d_Mo_writesNumber_1 : decode prog_10_method_44_code 1 = .ok (.bipush 9, 2) := by decide +kernel
theorem d_Mo_writesNumber_3 : decode prog_10_method_44_code 3 = .ok (.if_icmp .le 29, 3) := by decide +kernel
theorem d_Mo_writesNumber_6 : decode prog_10_method_44_code 6 = .ok (.aload_n 0, 1) := by decide +kernel
theorem d_Mo_writesNumber_7 : decode prog_10_method_44_code 7 = .ok (.getfield 19, 3) := by decide +kernel
theorem d_Mo_writesNumber_10 : decode prog_10_method_44_code 10 = .ok (.aload_n 0, 1) := by decide +kernel
theorem d_Mo_writesNumber_11 : decode prog_10_method_44_code 11 = .ok (.getfield 123, 3) := by decide +kernel
theorem d_Mo_writesNumber_14 : decode prog_10_method_44_code 14 = .ok (.bipush 48, 2) := by decide +kernel
theorem d_Mo_writesNumber_16 : decode prog_10_method_44_code 16 = .ok (.iload_n 1, 1) := by decide +kernel
theorem d_Mo_writesNumber_17 : decode prog_10_method_44_code 17 = .ok (.bipush 10, 2) := by decide +kernel
theorem d_Mo_writesNumber_19 : decode prog_10_method_44_code 19 = .ok (.idiv, 1) := by decide +kernel
theorem d_Mo_writesNumber_20 : decode prog_10_method_44_code 20 = .ok (.iadd, 1) := by decide +kernel
theorem d_Mo_writesNumber_21 : decode prog_10_method_44_code 21 = .ok (.iastore, 1) := by decide +kernel
theorem d_Mo_writesNumber_22 : decode prog_10_method_44_code 22 = .ok (.aload_n 0, 1) := by decide +kernel
theorem d_Mo_writesNumber_23 : decode prog_10_method_44_code 23 = .ok (.dup, 1) := by decide +kernel
theorem d_Mo_writesNumber_24 : decode prog_10_method_44_code 24 = .ok (.getfield 123, 3) := by decide +kernel
theorem d_Mo_writesNumber_27 : decode prog_10_method_44_code 27 = .ok (.iconst 1, 1) := by decide +kernel
theorem d_Mo_writesNumber_28 : decode prog_10_method_44_code 28 = .ok (.iadd, 1) := by decide +kernel
theorem d_Mo_writesNumber_29 : decode prog_10_method_44_code 29 = .ok (.putfield 123, 3) := by decide +kernel
theorem d_Mo_writesNumber_32 : decode prog_10_method_44_code 32 = .ok (.aload_n 0, 1) := by decide +kernel
theorem d_Mo_writesNumber_33 : decode prog_10_method_44_code 33 = .ok (.getfield 19, 3) := by decide +kernel
theorem d_Mo_writesNumber_36 : decode prog_10_method_44_code 36 = .ok (.aload_n 0, 1) := by decide +kernel
theorem d_Mo_writesNumber_37 : decode prog_10_method_44_code 37 = .ok (.getfield 123, 3) := by decide +kernel
theorem d_Mo_writesNumber_40 : decode prog_10_method_44_code 40 = .ok (.bipush 48, 2) := by decide +kernel
theorem d_Mo_writesNumber_42 : decode prog_10_method_44_code 42 = .ok (.iload_n 1, 1) := by decide +kernel
theorem d_Mo_writesNumber_43 : decode prog_10_method_44_code 43 = .ok (.bipush 10, 2) := by decide +kernel
theorem d_Mo_writesNumber_45 : decode prog_10_method_44_code 45 = .ok (.irem, 1) := by decide +kernel
theorem d_Mo_writesNumber_46 : decode prog_10_method_44_code 46 = .ok (.iadd, 1) := by decide +kernel
theorem d_Mo_writesNumber_47 : decode prog_10_method_44_code 47 = .ok (.iastore, 1) := by decide +kernel
theorem d_Mo_writesNumber_48 : decode prog_10_method_44_code 48 = .ok (.aload_n 0, 1) := by decide +kernel
theorem d_Mo_writesNumber_49 : decode prog_10_method_44_code 49 = .ok (.dup, 1) := by decide +kernel
theorem d_Mo_writesNumber_50 : decode prog_10_method_44_code 50 = .ok (.getfield 123, 3) := by decide +kernel
theorem d_Mo_writesNumber_53 : decode prog_10_method_44_code 53 = .ok (.iconst 1, 1) := by decide +kernel
theorem d_Mo_writesNumber_54 : decode prog_10_method_44_code 54 = .ok (.iadd, 1) := by decide +kernel
theorem d_Mo_writesNumber_55 : decode prog_10_method_44_code 55 = .ok (.putfield 123, 3) := by decide +kernel
theorem d_Mo_writesNumber_58 : decode prog_10_method_44_code 58 = .ok (.return_, 1) := by decide +kernel
theorem d_Mo_writesSign_0 : decode prog_10_method_45_code 0 = .ok (.aload_n 0, 1) := by decide +kernel
theorem d_Mo_writesSign_1 : decode prog_10_method_45_code 1 = .ok (.getfield 19, 3) := by decide +kernel
theorem d_Mo_writesSign_4 : decode prog_10_method_45_code 4 = .ok (.aload_n 0, 1) := by decide +kernel
theorem d_Mo_writesSign_5 : decode prog_10_method_45_code 5 = .ok (.getfield 123, 3) := by decide +kernel
theorem d_Mo_writesSign_8 : decode prog_10_method_45_code 8 = .ok (.iload_n 1, 1) := by decide +kernel
theorem d_Mo_writesSign_9 : decode prog_10_method_45_code 9 = .ok (.iastore, 1) := by decide +kernel
theorem d_Mo_writesSign_10 : decode prog_10_method_45_code 10 = .ok (.aload_n 0, 1) := by decide +kernel
theorem d_Mo_writesSign_11 : decode prog_10_method_45_code 11 = .ok (.dup, 1) := by decide +kernel
theorem d_Mo_writesSign_12 : decode prog_10_method_45_code 12 = .ok (.getfield 123, 3) := by decide +kernel
theorem d_Mo_writesSign_15 : decode prog_10_method_45_code 15 = .ok (.iconst 1, 1) := by decide +kernel
theorem d_Mo_writesSign_16 : decode prog_10_method_45_code 16 = .ok (.iadd, 1) := by decide +kernel
theorem d_Mo_writesSign_17 : decode prog_10_method_45_code 17 = .ok (.putfield 123, 3) := by decide +kernel
theorem d_Mo_writesSign_20 : decode prog_10_method_45_code 20 = .ok (.return_, 1) := by decide +kernel
theorem d_Mo_write_0 : decode prog_10_method_46_code 0 = .ok (.iload_n 1, 1) := by decide +kernel
theorem d_Mo_write_1 : decode prog_10_method_46_code 1 = .ok (.iconst 0, 1) := by decide +kernel
theorem d_Mo_write_2 : decode prog_10_method_46_code 2 = .ok (.iconst 2, 1) := by decide +kernel
theorem d_Mo_write_3 : decode prog_10_method_46_code 3 = .ok (.invokestatic 53, 3) := by decide +kernel
theorem d_Mo_write_6 : decode prog_10_method_46_code 6 = .ok (.ifCond .ne 7, 3) := by decide +kernel
theorem d_Mo_write_9 : decode prog_10_method_46_code 9 = .ok (.sipush (-10001), 3) := by decide +kernel
theorem d_Mo_write_12 : decode prog_10_method_46_code 12 = .ok (.ireturn, 1) := by decide +kernel
theorem d_Mo_write_13 : decode prog_10_method_46_code 13 = .ok (.aload_n 0, 1) := by decide +kernel
theorem d_Mo_write_14 : decode prog_10_method_46_code 14 = .ok (.iload_n 1, 1) := by decide +kernel
theorem d_Mo_write_15 : decode prog_10_method_46_code 15 = .ok (.invokevirtual 104, 3) := by decide +kernel
theorem d_Mo_write_18 : decode prog_10_method_46_code 18 = .ok (.iconst 0, 1) := by decide +kernel
theorem d_Mo_write_19 : decode prog_10_method_46_code 19 = .ok (.istore_n 2, 1) := by decide +kernel
theorem d_Mo_write_20 : decode prog_10_method_46_code 20 = .ok (.iconst 0, 1) := by decide +kernel
theorem d_Mo_write_21 : decode prog_10_method_46_code 21 = .ok (.istore_n 3, 1) := by decide +kernel
theorem d_Mo_write_22 : decode prog_10_method_46_code 22 = .ok (.iload_n 3, 1) := by decide +kernel
theorem d_Mo_write_23 : decode prog_10_method_46_code 23 = .ok (.aload_n 0, 1) := by decide +kernel
theorem d_Mo_write_24 : decode prog_10_method_46_code 24 = .ok (.getfield 98, 3) := by decide +kernel
theorem d_Mo_write_27 : decode prog_10_method_46_code 27 = .ok (.if_icmp .ge 46, 3) := by decide +kernel
theorem d_Mo_write_30 : decode prog_10_method_46_code 30 = .ok (.iload_n 2, 1) := by decide +kernel
theorem d_Mo_write_31 : decode prog_10_method_46_code 31 = .ok (.aload_n 0, 1) := by decide +kernel
theorem d_Mo_write_32 : decode prog_10_method_46_code 32 = .ok (.getfield 28, 3) := by decide +kernel
theorem d_Mo_write_35 : decode prog_10_method_46_code 35 = .ok (.iload_n 3, 1) := by decide +kernel
theorem d_Mo_write_36 : decode prog_10_method_46_code 36 = .ok (.iaload, 1) := by decide +kernel
theorem d_Mo_write_37 : decode prog_10_method_46_code 37 = .ok (.ifCond .ne 7, 3) := by decide +kernel
theorem d_Mo_write_40 : decode prog_10_method_46_code 40 = .ok (.iconst 1, 1) := by decide +kernel
theorem d_Mo_write_41 : decode prog_10_method_46_code 41 = .ok (.goto 24, 3) := by decide +kernel
theorem d_Mo_write_44 : decode prog_10_method_46_code 44 = .ok (.iconst 3, 1) := by decide +kernel
theorem d_Mo_write_45 : decode prog_10_method_46_code 45 = .ok (.aload_n 0, 1) := by decide +kernel
theorem d_Mo_write_46 : decode prog_10_method_46_code 46 = .ok (.getfield 28, 3) := by decide +kernel
theorem d_Mo_write_49 : decode prog_10_method_46_code 49 = .ok (.iload_n 3, 1) := by decide +kernel
theorem d_Mo_write_50 : decode prog_10_method_46_code 50 = .ok (.iaload, 1) := by decide +kernel
theorem d_Mo_write_51 : decode prog_10_method_46_code 51 = .ok (.invokestatic 134, 3) := by decide +kernel
theorem d_Mo_write_54 : decode prog_10_method_46_code 54 = .ok (.iadd, 1) := by decide +kernel
theorem d_Mo_write_55 : decode prog_10_method_46_code 55 = .ok (.aload_n 0, 1) := by decide +kernel
theorem d_Mo_write_56 : decode prog_10_method_46_code 56 = .ok (.getfield 25, 3) := by decide +kernel
theorem d_Mo_write_59 : decode prog_10_method_46_code 59 = .ok (.iload_n 3, 1) := by decide +kernel
theorem d_Mo_write_60 : decode prog_10_method_46_code 60 = .ok (.iaload, 1) := by decide +kernel
theorem d_Mo_write_61 : decode prog_10_method_46_code 61 = .ok (.invokestatic 134, 3) := by decide +kernel
theorem d_Mo_write_64 : decode prog_10_method_46_code 64 = .ok (.iadd, 1) := by decide +kernel
theorem d_Mo_write_65 : decode prog_10_method_46_code 65 = .ok (.iadd, 1) := by decide +kernel
theorem d_Mo_write_66 : decode prog_10_method_46_code 66 = .ok (.istore_n 2, 1) := by decide +kernel
theorem d_Mo_write_67 : decode prog_10_method_46_code 67 = .ok (.iinc 3 1, 3) := by decide +kernel
theorem d_Mo_write_70 : decode prog_10_method_46_code 70 = .ok (.goto (-48), 3) := by decide +kernel
theorem d_Mo_write_73 : decode prog_10_method_46_code 73 = .ok (.iload_n 2, 1) := by decide +kernel
theorem d_Mo_write_74 : decode prog_10_method_46_code 74 = .ok (.bipush 120, 2) := by decide +kernel
theorem d_Mo_write_76 : decode prog_10_method_46_code 76 = .ok (.if_icmp .le 7, 3) := by decide +kernel
theorem d_Mo_write_79 : decode prog_10_method_46_code 79 = .ok (.sipush (-10003), 3) := by decide +kernel
theorem d_Mo_write_82 : decode prog_10_method_46_code 82 = .ok (.ireturn, 1) := by decide +kernel
theorem d_Mo_write_83 : decode prog_10_method_46_code 83 = .ok (.aload_n 0, 1) := by decide +kernel
theorem d_Mo_write_84 : decode prog_10_method_46_code 84 = .ok (.iconst 0, 1) := by decide +kernel
theorem d_Mo_write_85 : decode prog_10_method_46_code 85 = .ok (.putfield 123, 3) := by decide +kernel
theorem d_Mo_write_88 : decode prog_10_method_46_code 88 = .ok (.iconst 0, 1) := by decide +kernel
theorem d_Mo_write_89 : decode prog_10_method_46_code 89 = .ok (.istore_n 3, 1) := by decide +kernel
theorem d_Mo_write_90 : decode prog_10_method_46_code 90 = .ok (.iload_n 3, 1) := by decide +kernel
theorem d_Mo_write_91 : decode prog_10_method_46_code 91 = .ok (.aload_n 0, 1) := by decide +kernel
theorem d_Mo_write_92 : decode prog_10_method_46_code 92 = .ok (.getfield 98, 3) := by decide +kernel
theorem d_Mo_write_95 : decode prog_10_method_46_code 95 = .ok (.if_icmp .ge 80, 3) := by decide +kernel
theorem d_Mo_write_98 : decode prog_10_method_46_code 98 = .ok (.aload_n 0, 1) := by decide +kernel
theorem d_Mo_write_99 : decode prog_10_method_46_code 99 = .ok (.getfield 28, 3) := by decide +kernel
theorem d_Mo_write_102 : decode prog_10_method_46_code 102 = .ok (.iload_n 3, 1) := by decide +kernel
theorem d_Mo_write_103 : decode prog_10_method_46_code 103 = .ok (.iaload, 1) := by decide +kernel
theorem d_Mo_write_104 : decode prog_10_method_46_code 104 = .ok (.ifCond .ne 27, 3) := by decide +kernel
theorem d_Mo_write_107 : decode prog_10_method_46_code 107 = .ok (.aload_n 0, 1) := by decide +kernel
theorem d_Mo_write_108 : decode prog_10_method_46_code 108 = .ok (.bipush 97, 2) := by decide +kernel
theorem d_Mo_write_110 : decode prog_10_method_46_code 110 = .ok (.aload_n 0, 1) := by decide +kernel
theorem d_Mo_write_111 : decode prog_10_method_46_code 111 = .ok (.getfield 7, 3) := by decide +kernel
theorem d_Mo_write_114 : decode prog_10_method_46_code 114 = .ok (.bipush 6, 2) := by decide +kernel
theorem d_Mo_write_116 : decode prog_10_method_46_code 116 = .ok (.aload_n 0, 1) := by decide +kernel
theorem d_Mo_write_117 : decode prog_10_method_46_code 117 = .ok (.getfield 22, 3) := by decide +kernel
theorem d_Mo_write_120 : decode prog_10_method_46_code 120 = .ok (.iload_n 3, 1) := by decide +kernel
theorem d_Mo_write_121 : decode prog_10_method_46_code 121 = .ok (.iaload, 1) := by decide +kernel
theorem d_Mo_write_122 : decode prog_10_method_46_code 122 = .ok (.iadd, 1) := by decide +kernel
theorem d_Mo_write_123 : decode prog_10_method_46_code 123 = .ok (.iaload, 1) := by decide +kernel
theorem d_Mo_write_124 : decode prog_10_method_46_code 124 = .ok (.iadd, 1) := by decide +kernel
theorem d_Mo_write_125 : decode prog_10_method_46_code 125 = .ok (.invokevirtual 137, 3) := by decide +kernel
theorem d_Mo_write_128 : decode prog_10_method_46_code 128 = .ok (.goto 41, 3) := by decide +kernel
theorem d_Mo_write_131 : decode prog_10_method_46_code 131 = .ok (.aload_n 0, 1) := by decide +kernel
theorem d_Mo_write_132 : decode prog_10_method_46_code 132 = .ok (.bipush 40, 2) := by decide +kernel
theorem d_Mo_write_134 : decode prog_10_method_46_code 134 = .ok (.invokevirtual 137, 3) := by decide +kernel
theorem d_Mo_write_137 : decode prog_10_method_46_code 137 = .ok (.aload_n 0, 1) := by decide +kernel
theorem d_Mo_write_138 : decode prog_10_method_46_code 138 = .ok (.aload_n 0, 1) := by decide +kernel
theorem d_Mo_write_139 : decode prog_10_method_46_code 139 = .ok (.getfield 28, 3) := by decide +kernel
theorem d_Mo_write_142 : decode prog_10_method_46_code 142 = .ok (.iload_n 3, 1) := by decide +kernel
theorem d_Mo_write_143 : decode prog_10_method_46_code 143 = .ok (.iaload, 1) := by decide +kernel
theorem d_Mo_write_144 : decode prog_10_method_46_code 144 = .ok (.invokevirtual 140, 3) := by decide +kernel
theorem d_Mo_write_147 : decode prog_10_method_46_code 147 = .ok (.aload_n 0, 1) := by decide +kernel
theorem d_Mo_write_148 : decode prog_10_method_46_code 148 = .ok (.bipush 44, 2) := by decide +kernel
theorem d_Mo_write_150 : decode prog_10_method_46_code 150 = .ok (.invokevirtual 137, 3) := by decide +kernel
theorem d_Mo_write_153 : decode prog_10_method_46_code 153 = .ok (.aload_n 0, 1) := by decide +kernel
theorem d_Mo_write_154 : decode prog_10_method_46_code 154 = .ok (.aload_n 0, 1) := by decide +kernel
theorem d_Mo_write_155 : decode prog_10_method_46_code 155 = .ok (.getfield 25, 3) := by decide +kernel
theorem d_Mo_write_158 : decode prog_10_method_46_code 158 = .ok (.iload_n 3, 1) := by decide +kernel
theorem d_Mo_write_159 : decode prog_10_method_46_code 159 = .ok (.iaload, 1) := by decide +kernel
theorem d_Mo_write_160 : decode prog_10_method_46_code 160 = .ok (.invokevirtual 140, 3) := by decide +kernel
theorem d_Mo_write_163 : decode prog_10_method_46_code 163 = .ok (.aload_n 0, 1) := by decide +kernel
theorem d_Mo_write_164 : decode prog_10_method_46_code 164 = .ok (.bipush 41, 2) := by decide +kernel
theorem d_Mo_write_166 : decode prog_10_method_46_code 166 = .ok (.invokevirtual 137, 3) := by decide +kernel
theorem d_Mo_write_169 : decode prog_10_method_46_code 169 = .ok (.iinc 3 1, 3) := by decide +kernel
theorem d_Mo_write_172 : decode prog_10_method_46_code 172 = .ok (.goto (-82), 3) := by decide +kernel
theorem d_Mo_write_175 : decode prog_10_method_46_code 175 = .ok (.aload_n 0, 1) := by decide +kernel
theorem d_Mo_write_176 : decode prog_10_method_46_code 176 = .ok (.getfield 123, 3) := by decide +kernel
theorem d_Mo_write_179 : decode prog_10_method_46_code 179 = .ok (.ireturn, 1) := by decide +kernel
theorem d_Mo_isAt_0 : decode prog_10_method_47_code 0 = .ok (.aload_n 0, 1) := by decide +kernel
theorem d_Mo_isAt_1 : decode prog_10_method_47_code 1 = .ok (.getfield 143, 3) := by decide +kernel
theorem d_Mo_isAt_4 : decode prog_10_method_47_code 4 = .ok (.aload_n 0, 1) := by decide +kernel
theorem d_Mo_isAt_5 : decode prog_10_method_47_code 5 = .ok (.getfield 123, 3) := by decide +kernel
theorem d_Mo_isAt_8 : decode prog_10_method_47_code 8 = .ok (.if_icmp .ge 24, 3) := by decide +kernel
theorem d_Mo_isAt_11 : decode prog_10_method_47_code 11 = .ok (.aload_n 0, 1) := by decide +kernel
theorem d_Mo_isAt_12 : decode prog_10_method_47_code 12 = .ok (.getfield 19, 3) := by decide +kernel
theorem d_Mo_isAt_15 : decode prog_10_method_47_code 15 = .ok (.aload_n 0, 1) := by decide +kernel
theorem d_Mo_isAt_16 : decode prog_10_method_47_code 16 = .ok (.getfield 143, 3) := by decide +kernel
theorem d_Mo_isAt_19 : decode prog_10_method_47_code 19 = .ok (.iaload, 1) := by decide +kernel
theorem d_Mo_isAt_20 : decode prog_10_method_47_code 20 = .ok (.iload_n 1, 1) := by decide +kernel
theorem d_Mo_isAt_21 : decode prog_10_method_47_code 21 = .ok (.iload_n 2, 1) := by decide +kernel
theorem d_Mo_isAt_22 : decode prog_10_method_47_code 22 = .ok (.invokestatic 53, 3) := by decide +kernel
theorem d_Mo_isAt_25 : decode prog_10_method_47_code 25 = .ok (.ifCond .eq 7, 3) := by decide +kernel
theorem d_Mo_isAt_28 : decode prog_10_method_47_code 28 = .ok (.iconst 1, 1) := by decide +kernel
theorem d_Mo_isAt_29 : decode prog_10_method_47_code 29 = .ok (.goto 4, 3) := by decide +kernel
theorem d_Mo_isAt_32 : decode prog_10_method_47_code 32 = .ok (.iconst 0, 1) := by decide +kernel
theorem d_Mo_isAt_33 : decode prog_10_method_47_code 33 = .ok (.ireturn, 1) := by decide +kernel
theorem d_Mo_fails_0 : decode prog_10_method_48_code 0 = .ok (.aload_n 0, 1) := by decide +kernel
theorem d_Mo_fails_1 : decode prog_10_method_48_code 1 = .ok (.iload_n 1, 1) := by decide +kernel
theorem d_Mo_fails_2 : decode prog_10_method_48_code 2 = .ok (.putfield 146, 3) := by decide +kernel
theorem d_Mo_fails_5 : decode prog_10_method_48_code 5 = .ok (.iconst 0, 1) := by decide +kernel
theorem d_Mo_fails_6 : decode prog_10_method_48_code 6 = .ok (.ireturn, 1) := by decide +kernel
theorem d_Mo_sign_0 : decode prog_10_method_49_code 0 = .ok (.aload_n 0, 1) := by decide +kernel
theorem d_Mo_sign_1 : decode prog_10_method_49_code 1 = .ok (.iload_n 1, 1) := by decide +kernel
theorem d_Mo_sign_2 : decode prog_10_method_49_code 2 = .ok (.iload_n 1, 1) := by decide +kernel
theorem d_Mo_sign_3 : decode prog_10_method_49_code 3 = .ok (.invokevirtual 149, 3) := by decide +kernel
theorem d_Mo_sign_6 : decode prog_10_method_49_code 6 = .ok (.istore_n 2, 1) := by decide +kernel
theorem d_Mo_sign_7 : decode prog_10_method_49_code 7 = .ok (.aload_n 0, 1) := by decide +kernel
theorem d_Mo_sign_8 : decode prog_10_method_49_code 8 = .ok (.dup, 1) := by decide +kernel
theorem d_Mo_sign_9 : decode prog_10_method_49_code 9 = .ok (.getfield 143, 3) := by decide +kernel
theorem d_Mo_sign_12 : decode prog_10_method_49_code 12 = .ok (.iload_n 2, 1) := by decide +kernel
theorem d_Mo_sign_13 : decode prog_10_method_49_code 13 = .ok (.ifCond .eq 7, 3) := by decide +kernel
theorem d_Mo_sign_16 : decode prog_10_method_49_code 16 = .ok (.iconst 1, 1) := by decide +kernel
theorem d_Mo_sign_17 : decode prog_10_method_49_code 17 = .ok (.goto 4, 3) := by decide +kernel
theorem d_Mo_sign_20 : decode prog_10_method_49_code 20 = .ok (.iconst 0, 1) := by decide +kernel
theorem d_Mo_sign_21 : decode prog_10_method_49_code 21 = .ok (.iadd, 1) := by decide +kernel
theorem d_Mo_sign_22 : decode prog_10_method_49_code 22 = .ok (.putfield 143, 3) := by decide +kernel
theorem d_Mo_sign_25 : decode prog_10_method_49_code 25 = .ok (.iload_n 2, 1) := by decide +kernel
theorem d_Mo_sign_26 : decode prog_10_method_49_code 26 = .ok (.ireturn, 1) := by decide +kernel
theorem d_Mo_numbered_0 : decode prog_10_method_50_code 0 = .ok (.aload_n 0, 1) := by decide +kernel
theorem d_Mo_numbered_1 : decode prog_10_method_50_code 1 = .ok (.bipush 48, 2) := by decide +kernel
theorem d_Mo_numbered_3 : decode prog_10_method_50_code 3 = .ok (.bipush 57, 2) := by decide +kernel
theorem d_Mo_numbered_5 : decode prog_10_method_50_code 5 = .ok (.invokevirtual 149, 3) := by decide +kernel
theorem d_Mo_numbered_8 : decode prog_10_method_50_code 8 = .ok (.ifCond .ne 5, 3) := by decide +kernel
theorem d_Mo_numbered_11 : decode prog_10_method_50_code 11 = .ok (.iconst 0, 1) := by decide +kernel
theorem d_Mo_numbered_12 : decode prog_10_method_50_code 12 = .ok (.ireturn, 1) := by decide +kernel
theorem d_Mo_numbered_13 : decode prog_10_method_50_code 13 = .ok (.aload_n 0, 1) := by decide +kernel
theorem d_Mo_numbered_14 : decode prog_10_method_50_code 14 = .ok (.aload_n 0, 1) := by decide +kernel
theorem d_Mo_numbered_15 : decode prog_10_method_50_code 15 = .ok (.getfield 19, 3) := by decide +kernel
theorem d_Mo_numbered_18 : decode prog_10_method_50_code 18 = .ok (.aload_n 0, 1) := by decide +kernel
theorem d_Mo_numbered_19 : decode prog_10_method_50_code 19 = .ok (.getfield 143, 3) := by decide +kernel
theorem d_Mo_numbered_22 : decode prog_10_method_50_code 22 = .ok (.iaload, 1) := by decide +kernel
theorem d_Mo_numbered_23 : decode prog_10_method_50_code 23 = .ok (.bipush 48, 2) := by decide +kernel
theorem d_Mo_numbered_25 : decode prog_10_method_50_code 25 = .ok (.isub, 1) := by decide +kernel
theorem d_Mo_numbered_26 : decode prog_10_method_50_code 26 = .ok (.putfield 152, 3) := by decide +kernel
theorem d_Mo_numbered_29 : decode prog_10_method_50_code 29 = .ok (.aload_n 0, 1) := by decide +kernel
theorem d_Mo_numbered_30 : decode prog_10_method_50_code 30 = .ok (.dup, 1) := by decide +kernel
theorem d_Mo_numbered_31 : decode prog_10_method_50_code 31 = .ok (.getfield 143, 3) := by decide +kernel
theorem d_Mo_numbered_34 : decode prog_10_method_50_code 34 = .ok (.iconst 1, 1) := by decide +kernel
theorem d_Mo_numbered_35 : decode prog_10_method_50_code 35 = .ok (.iadd, 1) := by decide +kernel
theorem d_Mo_numbered_36 : decode prog_10_method_50_code 36 = .ok (.putfield 143, 3) := by decide +kernel
theorem d_Mo_numbered_39 : decode prog_10_method_50_code 39 = .ok (.aload_n 0, 1) := by decide +kernel
theorem d_Mo_numbered_40 : decode prog_10_method_50_code 40 = .ok (.getfield 152, 3) := by decide +kernel
theorem d_Mo_numbered_43 : decode prog_10_method_50_code 43 = .ok (.ifCond .le 48, 3) := by decide +kernel
theorem d_Mo_numbered_46 : decode prog_10_method_50_code 46 = .ok (.aload_n 0, 1) := by decide +kernel
theorem d_Mo_numbered_47 : decode prog_10_method_50_code 47 = .ok (.bipush 48, 2) := by decide +kernel
theorem d_Mo_numbered_49 : decode prog_10_method_50_code 49 = .ok (.bipush 57, 2) := by decide +kernel
theorem d_Mo_numbered_51 : decode prog_10_method_50_code 51 = .ok (.invokevirtual 149, 3) := by decide +kernel
theorem d_Mo_numbered_54 : decode prog_10_method_50_code 54 = .ok (.ifCond .eq 37, 3) := by decide +kernel
theorem d_Mo_numbered_57 : decode prog_10_method_50_code 57 = .ok (.aload_n 0, 1) := by decide +kernel
theorem d_Mo_numbered_58 : decode prog_10_method_50_code 58 = .ok (.bipush 10, 2) := by decide +kernel
theorem d_Mo_numbered_60 : decode prog_10_method_50_code 60 = .ok (.aload_n 0, 1) := by decide +kernel
theorem d_Mo_numbered_61 : decode prog_10_method_50_code 61 = .ok (.getfield 152, 3) := by decide +kernel
theorem d_Mo_numbered_64 : decode prog_10_method_50_code 64 = .ok (.imul, 1) := by decide +kernel
theorem d_Mo_numbered_65 : decode prog_10_method_50_code 65 = .ok (.aload_n 0, 1) := by decide +kernel
theorem d_Mo_numbered_66 : decode prog_10_method_50_code 66 = .ok (.getfield 19, 3) := by decide +kernel
theorem d_Mo_numbered_69 : decode prog_10_method_50_code 69 = .ok (.aload_n 0, 1) := by decide +kernel
theorem d_Mo_numbered_70 : decode prog_10_method_50_code 70 = .ok (.getfield 143, 3) := by decide +kernel
theorem d_Mo_numbered_73 : decode prog_10_method_50_code 73 = .ok (.iaload, 1) := by decide +kernel
theorem d_Mo_numbered_74 : decode prog_10_method_50_code 74 = .ok (.iadd, 1) := by decide +kernel
theorem d_Mo_numbered_75 : decode prog_10_method_50_code 75 = .ok (.bipush 48, 2) := by decide +kernel
theorem d_Mo_numbered_77 : decode prog_10_method_50_code 77 = .ok (.isub, 1) := by decide +kernel
theorem d_Mo_numbered_78 : decode prog_10_method_50_code 78 = .ok (.putfield 152, 3) := by decide +kernel
theorem d_Mo_numbered_81 : decode prog_10_method_50_code 81 = .ok (.aload_n 0, 1) := by decide +kernel
theorem d_Mo_numbered_82 : decode prog_10_method_50_code 82 = .ok (.dup, 1) := by decide +kernel
theorem d_Mo_numbered_83 : decode prog_10_method_50_code 83 = .ok (.getfield 143, 3) := by decide +kernel
theorem d_Mo_numbered_86 : decode prog_10_method_50_code 86 = .ok (.iconst 1, 1) := by decide +kernel
theorem d_Mo_numbered_87 : decode prog_10_method_50_code 87 = .ok (.iadd, 1) := by decide +kernel
theorem d_Mo_numbered_88 : decode prog_10_method_50_code 88 = .ok (.putfield 143, 3) := by decide +kernel
theorem d_Mo_numbered_91 : decode prog_10_method_50_code 91 = .ok (.iconst 1, 1) := by decide +kernel
theorem d_Mo_numbered_92 : decode prog_10_method_50_code 92 = .ok (.ireturn, 1) := by decide +kernel
theorem d_Mo_wrong_0 : decode prog_10_method_51_code 0 = .ok (.iload_n 1, 1) := by decide +kernel
theorem d_Mo_wrong_1 : decode prog_10_method_51_code 1 = .ok (.iconst 1, 1) := by decide +kernel
theorem d_Mo_wrong_2 : decode prog_10_method_51_code 2 = .ok (.aload_n 0, 1) := by decide +kernel
theorem d_Mo_wrong_3 : decode prog_10_method_51_code 3 = .ok (.getfield 7, 3) := by decide +kernel
theorem d_Mo_wrong_6 : decode prog_10_method_51_code 6 = .ok (.iconst 1, 1) := by decide +kernel
theorem d_Mo_wrong_7 : decode prog_10_method_51_code 7 = .ok (.iaload, 1) := by decide +kernel
theorem d_Mo_wrong_8 : decode prog_10_method_51_code 8 = .ok (.invokestatic 53, 3) := by decide +kernel
theorem d_Mo_wrong_11 : decode prog_10_method_51_code 11 = .ok (.ifCond .eq 15, 3) := by decide +kernel
theorem d_Mo_wrong_14 : decode prog_10_method_51_code 14 = .ok (.iload_n 1, 1) := by decide +kernel
theorem d_Mo_wrong_15 : decode prog_10_method_51_code 15 = .ok (.aload_n 0, 1) := by decide +kernel
theorem d_Mo_wrong_16 : decode prog_10_method_51_code 16 = .ok (.getfield 155, 3) := by decide +kernel
theorem d_Mo_wrong_19 : decode prog_10_method_51_code 19 = .ok (.if_icmp .gt 7, 3) := by decide +kernel
theorem d_Mo_wrong_22 : decode prog_10_method_51_code 22 = .ok (.iconst 1, 1) := by decide +kernel
theorem d_Mo_wrong_23 : decode prog_10_method_51_code 23 = .ok (.goto 4, 3) := by decide +kernel
theorem d_Mo_wrong_26 : decode prog_10_method_51_code 26 = .ok (.iconst 0, 1) := by decide +kernel
theorem d_Mo_wrong_27 : decode prog_10_method_51_code 27 = .ok (.istore_n 3, 1) := by decide +kernel
theorem d_Mo_wrong_28 : decode prog_10_method_51_code 28 = .ok (.iload_n 3, 1) := by decide +kernel
theorem d_Mo_wrong_29 : decode prog_10_method_51_code 29 = .ok (.ifCond .ne 7, 3) := by decide +kernel
theorem d_Mo_wrong_32 : decode prog_10_method_51_code 32 = .ok (.iconst 2, 1) := by decide +kernel
theorem d_Mo_wrong_33 : decode prog_10_method_51_code 33 = .ok (.goto 38, 3) := by decide +kernel
theorem d_Mo_wrong_36 : decode prog_10_method_51_code 36 = .ok (.iload_n 2, 1) := by decide +kernel
theorem d_Mo_wrong_37 : decode prog_10_method_51_code 37 = .ok (.aload_n 0, 1) := by decide +kernel
theorem d_Mo_wrong_38 : decode prog_10_method_51_code 38 = .ok (.getfield 7, 3) := by decide +kernel
theorem d_Mo_wrong_41 : decode prog_10_method_51_code 41 = .ok (.iconst 2, 1) := by decide +kernel
theorem d_Mo_wrong_42 : decode prog_10_method_51_code 42 = .ok (.iaload, 1) := by decide +kernel
theorem d_Mo_wrong_43 : decode prog_10_method_51_code 43 = .ok (.bipush 20, 2) := by decide +kernel
theorem d_Mo_wrong_45 : decode prog_10_method_51_code 45 = .ok (.invokestatic 53, 3) := by decide +kernel
theorem d_Mo_wrong_48 : decode prog_10_method_51_code 48 = .ok (.ifCond .ne 7, 3) := by decide +kernel
theorem d_Mo_wrong_51 : decode prog_10_method_51_code 51 = .ok (.iconst 3, 1) := by decide +kernel
theorem d_Mo_wrong_52 : decode prog_10_method_51_code 52 = .ok (.goto 19, 3) := by decide +kernel
theorem d_Mo_wrong_55 : decode prog_10_method_51_code 55 = .ok (.iload_n 2, 1) := by decide +kernel
theorem d_Mo_wrong_56 : decode prog_10_method_51_code 56 = .ok (.bipush 60, 2) := by decide +kernel
theorem d_Mo_wrong_58 : decode prog_10_method_51_code 58 = .ok (.aload_n 0, 1) := by decide +kernel
theorem d_Mo_wrong_59 : decode prog_10_method_51_code 59 = .ok (.getfield 155, 3) := by decide +kernel
theorem d_Mo_wrong_62 : decode prog_10_method_51_code 62 = .ok (.isub, 1) := by decide +kernel
theorem d_Mo_wrong_63 : decode prog_10_method_51_code 63 = .ok (.if_icmp .le 7, 3) := by decide +kernel
theorem d_Mo_wrong_66 : decode prog_10_method_51_code 66 = .ok (.iconst 4, 1) := by decide +kernel
theorem d_Mo_wrong_67 : decode prog_10_method_51_code 67 = .ok (.goto 4, 3) := by decide +kernel
theorem d_Mo_wrong_70 : decode prog_10_method_51_code 70 = .ok (.iconst 0, 1) := by decide +kernel
theorem d_Mo_wrong_71 : decode prog_10_method_51_code 71 = .ok (.ireturn, 1) := by decide +kernel
theorem d_Mo_readsCopy_0 : decode prog_10_method_52_code 0 = .ok (.aload_n 0, 1) := by decide +kernel
theorem d_Mo_readsCopy_1 : decode prog_10_method_52_code 1 = .ok (.getfield 143, 3) := by decide +kernel
theorem d_Mo_readsCopy_4 : decode prog_10_method_52_code 4 = .ok (.istore_n 1, 1) := by decide +kernel
theorem d_Mo_readsCopy_5 : decode prog_10_method_52_code 5 = .ok (.aload_n 0, 1) := by decide +kernel
theorem d_Mo_readsCopy_6 : decode prog_10_method_52_code 6 = .ok (.dup, 1) := by decide +kernel
theorem d_Mo_readsCopy_7 : decode prog_10_method_52_code 7 = .ok (.getfield 143, 3) := by decide +kernel
theorem d_Mo_readsCopy_10 : decode prog_10_method_52_code 10 = .ok (.iconst 1, 1) := by decide +kernel
theorem d_Mo_readsCopy_11 : decode prog_10_method_52_code 11 = .ok (.iadd, 1) := by decide +kernel
theorem d_Mo_readsCopy_12 : decode prog_10_method_52_code 12 = .ok (.putfield 143, 3) := by decide +kernel
theorem d_Mo_readsCopy_15 : decode prog_10_method_52_code 15 = .ok (.aload_n 0, 1) := by decide +kernel
theorem d_Mo_readsCopy_16 : decode prog_10_method_52_code 16 = .ok (.invokevirtual 158, 3) := by decide +kernel
theorem d_Mo_readsCopy_19 : decode prog_10_method_52_code 19 = .ok (.ifCond .ne 9, 3) := by decide +kernel
theorem d_Mo_readsCopy_22 : decode prog_10_method_52_code 22 = .ok (.aload_n 0, 1) := by decide +kernel
theorem d_Mo_readsCopy_23 : decode prog_10_method_52_code 23 = .ok (.iconst 1, 1) := by decide +kernel
theorem d_Mo_readsCopy_24 : decode prog_10_method_52_code 24 = .ok (.invokevirtual 162, 3) := by decide +kernel
theorem d_Mo_readsCopy_27 : decode prog_10_method_52_code 27 = .ok (.ireturn, 1) := by decide +kernel
theorem d_Mo_readsCopy_28 : decode prog_10_method_52_code 28 = .ok (.aload_n 0, 1) := by decide +kernel
theorem d_Mo_readsCopy_29 : decode prog_10_method_52_code 29 = .ok (.getfield 152, 3) := by decide +kernel
theorem d_Mo_readsCopy_32 : decode prog_10_method_52_code 32 = .ok (.istore_n 2, 1) := by decide +kernel
theorem d_Mo_readsCopy_33 : decode prog_10_method_52_code 33 = .ok (.aload_n 0, 1) := by decide +kernel
theorem d_Mo_readsCopy_34 : decode prog_10_method_52_code 34 = .ok (.bipush 44, 2) := by decide +kernel
theorem d_Mo_readsCopy_36 : decode prog_10_method_52_code 36 = .ok (.invokevirtual 165, 3) := by decide +kernel
theorem d_Mo_readsCopy_39 : decode prog_10_method_52_code 39 = .ok (.ifCond .eq 19, 3) := by decide +kernel
theorem d_Mo_readsCopy_42 : decode prog_10_method_52_code 42 = .ok (.aload_n 0, 1) := by decide +kernel
theorem d_Mo_readsCopy_43 : decode prog_10_method_52_code 43 = .ok (.invokevirtual 158, 3) := by decide +kernel
theorem d_Mo_readsCopy_46 : decode prog_10_method_52_code 46 = .ok (.ifCond .eq 12, 3) := by decide +kernel
theorem d_Mo_readsCopy_49 : decode prog_10_method_52_code 49 = .ok (.aload_n 0, 1) := by decide +kernel
theorem d_Mo_readsCopy_50 : decode prog_10_method_52_code 50 = .ok (.bipush 41, 2) := by decide +kernel
theorem d_Mo_readsCopy_52 : decode prog_10_method_52_code 52 = .ok (.invokevirtual 165, 3) := by decide +kernel
theorem d_Mo_readsCopy_55 : decode prog_10_method_52_code 55 = .ok (.ifCond .ne 9, 3) := by decide +kernel
theorem d_Mo_readsCopy_58 : decode prog_10_method_52_code 58 = .ok (.aload_n 0, 1) := by decide +kernel
theorem d_Mo_readsCopy_59 : decode prog_10_method_52_code 59 = .ok (.iconst 1, 1) := by decide +kernel
theorem d_Mo_readsCopy_60 : decode prog_10_method_52_code 60 = .ok (.invokevirtual 162, 3) := by decide +kernel
theorem d_Mo_readsCopy_63 : decode prog_10_method_52_code 63 = .ok (.ireturn, 1) := by decide +kernel
theorem d_Mo_readsCopy_64 : decode prog_10_method_52_code 64 = .ok (.aload_n 0, 1) := by decide +kernel
theorem d_Mo_readsCopy_65 : decode prog_10_method_52_code 65 = .ok (.iload_n 2, 1) := by decide +kernel
theorem d_Mo_readsCopy_66 : decode prog_10_method_52_code 66 = .ok (.aload_n 0, 1) := by decide +kernel
theorem d_Mo_readsCopy_67 : decode prog_10_method_52_code 67 = .ok (.getfield 152, 3) := by decide +kernel
theorem d_Mo_readsCopy_70 : decode prog_10_method_52_code 70 = .ok (.invokevirtual 168, 3) := by decide +kernel
theorem d_Mo_readsCopy_73 : decode prog_10_method_52_code 73 = .ok (.istore_n 3, 1) := by decide +kernel
theorem d_Mo_readsCopy_74 : decode prog_10_method_52_code 74 = .ok (.iload_n 3, 1) := by decide +kernel
theorem d_Mo_readsCopy_75 : decode prog_10_method_52_code 75 = .ok (.ifCond .le 14, 3) := by decide +kernel
theorem d_Mo_readsCopy_78 : decode prog_10_method_52_code 78 = .ok (.aload_n 0, 1) := by decide +kernel
theorem d_Mo_readsCopy_79 : decode prog_10_method_52_code 79 = .ok (.iload_n 1, 1) := by decide +kernel
theorem d_Mo_readsCopy_80 : decode prog_10_method_52_code 80 = .ok (.putfield 143, 3) := by decide +kernel
theorem d_Mo_readsCopy_83 : decode prog_10_method_52_code 83 = .ok (.aload_n 0, 1) := by decide +kernel
theorem d_Mo_readsCopy_84 : decode prog_10_method_52_code 84 = .ok (.iload_n 3, 1) := by decide +kernel
theorem d_Mo_readsCopy_85 : decode prog_10_method_52_code 85 = .ok (.invokevirtual 162, 3) := by decide +kernel
theorem d_Mo_readsCopy_88 : decode prog_10_method_52_code 88 = .ok (.ireturn, 1) := by decide +kernel
theorem d_Mo_readsCopy_89 : decode prog_10_method_52_code 89 = .ok (.iconst 0, 1) := by decide +kernel
theorem d_Mo_readsCopy_90 : decode prog_10_method_52_code 90 = .ok (.istore 4, 2) := by decide +kernel
theorem d_Mo_readsCopy_92 : decode prog_10_method_52_code 92 = .ok (.iload 4, 2) := by decide +kernel
theorem d_Mo_readsCopy_94 : decode prog_10_method_52_code 94 = .ok (.aload_n 0, 1) := by decide +kernel
theorem d_Mo_readsCopy_95 : decode prog_10_method_52_code 95 = .ok (.getfield 152, 3) := by decide +kernel
theorem d_Mo_readsCopy_98 : decode prog_10_method_52_code 98 = .ok (.if_icmp .ge 39, 3) := by decide +kernel
theorem d_Mo_readsCopy_101 : decode prog_10_method_52_code 101 = .ok (.aload_n 0, 1) := by decide +kernel
theorem d_Mo_readsCopy_102 : decode prog_10_method_52_code 102 = .ok (.getfield 46, 3) := by decide +kernel
theorem d_Mo_readsCopy_105 : decode prog_10_method_52_code 105 = .ok (.aload_n 0, 1) := by decide +kernel
theorem d_Mo_readsCopy_106 : decode prog_10_method_52_code 106 = .ok (.getfield 155, 3) := by decide +kernel
theorem d_Mo_readsCopy_109 : decode prog_10_method_52_code 109 = .ok (.aload_n 0, 1) := by decide +kernel
theorem d_Mo_readsCopy_110 : decode prog_10_method_52_code 110 = .ok (.getfield 46, 3) := by decide +kernel
theorem d_Mo_readsCopy_113 : decode prog_10_method_52_code 113 = .ok (.aload_n 0, 1) := by decide +kernel
theorem d_Mo_readsCopy_114 : decode prog_10_method_52_code 114 = .ok (.getfield 155, 3) := by decide +kernel
theorem d_Mo_readsCopy_117 : decode prog_10_method_52_code 117 = .ok (.iload_n 2, 1) := by decide +kernel
theorem d_Mo_readsCopy_118 : decode prog_10_method_52_code 118 = .ok (.isub, 1) := by decide +kernel
theorem d_Mo_readsCopy_119 : decode prog_10_method_52_code 119 = .ok (.iaload, 1) := by decide +kernel
theorem d_Mo_readsCopy_120 : decode prog_10_method_52_code 120 = .ok (.iastore, 1) := by decide +kernel
theorem d_Mo_readsCopy_121 : decode prog_10_method_52_code 121 = .ok (.aload_n 0, 1) := by decide +kernel
theorem d_Mo_readsCopy_122 : decode prog_10_method_52_code 122 = .ok (.dup, 1) := by decide +kernel
theorem d_Mo_readsCopy_123 : decode prog_10_method_52_code 123 = .ok (.getfield 155, 3) := by decide +kernel
theorem d_Mo_readsCopy_126 : decode prog_10_method_52_code 126 = .ok (.iconst 1, 1) := by decide +kernel
theorem d_Mo_readsCopy_127 : decode prog_10_method_52_code 127 = .ok (.iadd, 1) := by decide +kernel
theorem d_Mo_readsCopy_128 : decode prog_10_method_52_code 128 = .ok (.putfield 155, 3) := by decide +kernel
theorem d_Mo_readsCopy_131 : decode prog_10_method_52_code 131 = .ok (.iinc 4 1, 3) := by decide +kernel
theorem d_Mo_readsCopy_134 : decode prog_10_method_52_code 134 = .ok (.goto (-42), 3) := by decide +kernel
theorem d_Mo_readsCopy_137 : decode prog_10_method_52_code 137 = .ok (.iconst 1, 1) := by decide +kernel
theorem d_Mo_readsCopy_138 : decode prog_10_method_52_code 138 = .ok (.ireturn, 1) := by decide +kernel
