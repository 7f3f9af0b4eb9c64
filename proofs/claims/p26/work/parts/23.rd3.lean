theorem dX2_test_0 : decode cX2_test 0 = .ok (.aload_n 0, 1) := by decide +kernel
theorem dX2_test_1 : decode cX2_test 1 = .ok (.iload_n 1, 1) := by decide +kernel
theorem dX2_test_2 : decode cX2_test 2 = .ok (.invokevirtual 199, 3) := by decide +kernel
theorem dX2_test_5 : decode cX2_test 5 = .ok (.istore_n 2, 1) := by decide +kernel
theorem dX2_test_6 : decode cX2_test 6 = .ok (.iconst 0, 1) := by decide +kernel
theorem dX2_test_7 : decode cX2_test 7 = .ok (.istore_n 3, 1) := by decide +kernel
theorem dX2_test_8 : decode cX2_test 8 = .ok (.iload_n 3, 1) := by decide +kernel
theorem dX2_test_9 : decode cX2_test 9 = .ok (.sipush 400, 3) := by decide +kernel
theorem dX2_test_12 : decode cX2_test 12 = .ok (.if_icmp .ge 46, 3) := by decide +kernel
theorem dX2_test_15 : decode cX2_test 15 = .ok (.iload_n 2, 1) := by decide +kernel
theorem dX2_test_16 : decode cX2_test 16 = .ok (.ifCond .eq 42, 3) := by decide +kernel
theorem dX2_test_19 : decode cX2_test 19 = .ok (.aload_n 0, 1) := by decide +kernel
theorem dX2_test_20 : decode cX2_test 20 = .ok (.bipush 25, 2) := by decide +kernel
theorem dX2_test_22 : decode cX2_test 22 = .ok (.invokevirtual 66, 3) := by decide +kernel
theorem dX2_test_25 : decode cX2_test 25 = .ok (.ifCond .eq 33, 3) := by decide +kernel
theorem dX2_test_28 : decode cX2_test 28 = .ok (.aload_n 0, 1) := by decide +kernel
theorem dX2_test_29 : decode cX2_test 29 = .ok (.iload_n 1, 1) := by decide +kernel
theorem dX2_test_30 : decode cX2_test 30 = .ok (.invokevirtual 199, 3) := by decide +kernel
theorem dX2_test_33 : decode cX2_test 33 = .ok (.ifCond .eq 17, 3) := by decide +kernel
theorem dX2_test_36 : decode cX2_test 36 = .ok (.aload_n 0, 1) := by decide +kernel
theorem dX2_test_37 : decode cX2_test 37 = .ok (.bipush 25, 2) := by decide +kernel
theorem dX2_test_39 : decode cX2_test 39 = .ok (.iconst 0, 1) := by decide +kernel
theorem dX2_test_40 : decode cX2_test 40 = .ok (.invokevirtual 202, 3) := by decide +kernel
theorem dX2_test_43 : decode cX2_test 43 = .ok (.ifCond .eq 7, 3) := by decide +kernel
theorem dX2_test_46 : decode cX2_test 46 = .ok (.iconst 1, 1) := by decide +kernel
theorem dX2_test_47 : decode cX2_test 47 = .ok (.goto 4, 3) := by decide +kernel
theorem dX2_test_50 : decode cX2_test 50 = .ok (.iconst 0, 1) := by decide +kernel
theorem dX2_test_51 : decode cX2_test 51 = .ok (.istore_n 2, 1) := by decide +kernel
theorem dX2_test_52 : decode cX2_test 52 = .ok (.iinc 3 1, 3) := by decide +kernel
theorem dX2_test_55 : decode cX2_test 55 = .ok (.goto (-47), 3) := by decide +kernel
theorem dX2_test_58 : decode cX2_test 58 = .ok (.iload_n 2, 1) := by decide +kernel
theorem dX2_test_59 : decode cX2_test 59 = .ok (.ireturn, 1) := by decide +kernel
theorem dX2_both_0 : decode cX2_both 0 = .ok (.aload_n 0, 1) := by decide +kernel
theorem dX2_both_1 : decode cX2_both 1 = .ok (.iload_n 1, 1) := by decide +kernel
theorem dX2_both_2 : decode cX2_both 2 = .ok (.invokevirtual 206, 3) := by decide +kernel
theorem dX2_both_5 : decode cX2_both 5 = .ok (.istore_n 2, 1) := by decide +kernel
theorem dX2_both_6 : decode cX2_both 6 = .ok (.iconst 0, 1) := by decide +kernel
theorem dX2_both_7 : decode cX2_both 7 = .ok (.istore_n 3, 1) := by decide +kernel
theorem dX2_both_8 : decode cX2_both 8 = .ok (.iload_n 3, 1) := by decide +kernel
theorem dX2_both_9 : decode cX2_both 9 = .ok (.sipush 400, 3) := by decide +kernel
theorem dX2_both_12 : decode cX2_both 12 = .ok (.if_icmp .ge 46, 3) := by decide +kernel
theorem dX2_both_15 : decode cX2_both 15 = .ok (.iload_n 2, 1) := by decide +kernel
theorem dX2_both_16 : decode cX2_both 16 = .ok (.ifCond .eq 42, 3) := by decide +kernel
theorem dX2_both_19 : decode cX2_both 19 = .ok (.aload_n 0, 1) := by decide +kernel
theorem dX2_both_20 : decode cX2_both 20 = .ok (.bipush 24, 2) := by decide +kernel
theorem dX2_both_22 : decode cX2_both 22 = .ok (.invokevirtual 66, 3) := by decide +kernel
theorem dX2_both_25 : decode cX2_both 25 = .ok (.ifCond .eq 33, 3) := by decide +kernel
theorem dX2_both_28 : decode cX2_both 28 = .ok (.aload_n 0, 1) := by decide +kernel
theorem dX2_both_29 : decode cX2_both 29 = .ok (.iload_n 1, 1) := by decide +kernel
theorem dX2_both_30 : decode cX2_both 30 = .ok (.invokevirtual 206, 3) := by decide +kernel
theorem dX2_both_33 : decode cX2_both 33 = .ok (.ifCond .eq 17, 3) := by decide +kernel
theorem dX2_both_36 : decode cX2_both 36 = .ok (.aload_n 0, 1) := by decide +kernel
theorem dX2_both_37 : decode cX2_both 37 = .ok (.bipush 24, 2) := by decide +kernel
theorem dX2_both_39 : decode cX2_both 39 = .ok (.iconst 0, 1) := by decide +kernel
theorem dX2_both_40 : decode cX2_both 40 = .ok (.invokevirtual 202, 3) := by decide +kernel
theorem dX2_both_43 : decode cX2_both 43 = .ok (.ifCond .eq 7, 3) := by decide +kernel
theorem dX2_both_46 : decode cX2_both 46 = .ok (.iconst 1, 1) := by decide +kernel
theorem dX2_both_47 : decode cX2_both 47 = .ok (.goto 4, 3) := by decide +kernel
theorem dX2_both_50 : decode cX2_both 50 = .ok (.iconst 0, 1) := by decide +kernel
theorem dX2_both_51 : decode cX2_both 51 = .ok (.istore_n 2, 1) := by decide +kernel
theorem dX2_both_52 : decode cX2_both 52 = .ok (.iinc 3 1, 3) := by decide +kernel
theorem dX2_both_55 : decode cX2_both 55 = .ok (.goto (-47), 3) := by decide +kernel
theorem dX2_both_58 : decode cX2_both 58 = .ok (.iload_n 2, 1) := by decide +kernel
theorem dX2_both_59 : decode cX2_both 59 = .ok (.ireturn, 1) := by decide +kernel
theorem dX2_single_0 : decode cX2_single 0 = .ok (.aload_n 0, 1) := by decide +kernel
theorem dX2_single_1 : decode cX2_single 1 = .ok (.invokevirtual 58, 3) := by decide +kernel
theorem dX2_single_4 : decode cX2_single 4 = .ok (.lookupswitch 151 #[(10, 115), (11, 133), (13, 44), (30, 80)], 44) := by decide +kernel
theorem dX2_single_48 : decode cX2_single 48 = .ok (.aload_n 0, 1) := by decide +kernel
theorem dX2_single_49 : decode cX2_single 49 = .ok (.bipush 13, 2) := by decide +kernel
theorem dX2_single_51 : decode cX2_single 51 = .ok (.iload_n 1, 1) := by decide +kernel
theorem dX2_single_52 : decode cX2_single 52 = .ok (.invokevirtual 209, 3) := by decide +kernel
theorem dX2_single_55 : decode cX2_single 55 = .ok (.ifCond .eq 27, 3) := by decide +kernel
theorem dX2_single_58 : decode cX2_single 58 = .ok (.aload_n 0, 1) := by decide +kernel
theorem dX2_single_59 : decode cX2_single 59 = .ok (.iload_n 1, 1) := by decide +kernel
theorem dX2_single_60 : decode cX2_single 60 = .ok (.iconst 1, 1) := by decide +kernel
theorem dX2_single_61 : decode cX2_single 61 = .ok (.iadd, 1) := by decide +kernel
theorem dX2_single_62 : decode cX2_single 62 = .ok (.invokevirtual 206, 3) := by decide +kernel
theorem dX2_single_65 : decode cX2_single 65 = .ok (.ifCond .eq 17, 3) := by decide +kernel
theorem dX2_single_68 : decode cX2_single 68 = .ok (.aload_n 0, 1) := by decide +kernel
theorem dX2_single_69 : decode cX2_single 69 = .ok (.bipush 13, 2) := by decide +kernel
theorem dX2_single_71 : decode cX2_single 71 = .ok (.iconst 0, 1) := by decide +kernel
theorem dX2_single_72 : decode cX2_single 72 = .ok (.invokevirtual 202, 3) := by decide +kernel
theorem dX2_single_75 : decode cX2_single 75 = .ok (.ifCond .eq 7, 3) := by decide +kernel
theorem dX2_single_78 : decode cX2_single 78 = .ok (.iconst 1, 1) := by decide +kernel
theorem dX2_single_79 : decode cX2_single 79 = .ok (.goto 4, 3) := by decide +kernel
theorem dX2_single_82 : decode cX2_single 82 = .ok (.iconst 0, 1) := by decide +kernel
theorem dX2_single_83 : decode cX2_single 83 = .ok (.ireturn, 1) := by decide +kernel
theorem dX2_single_84 : decode cX2_single 84 = .ok (.aload_n 0, 1) := by decide +kernel
theorem dX2_single_85 : decode cX2_single 85 = .ok (.bipush 30, 2) := by decide +kernel
theorem dX2_single_87 : decode cX2_single 87 = .ok (.iload_n 1, 1) := by decide +kernel
theorem dX2_single_88 : decode cX2_single 88 = .ok (.invokevirtual 209, 3) := by decide +kernel
theorem dX2_single_91 : decode cX2_single 91 = .ok (.ifCond .eq 26, 3) := by decide +kernel
theorem dX2_single_94 : decode cX2_single 94 = .ok (.aload_n 0, 1) := by decide +kernel
theorem dX2_single_95 : decode cX2_single 95 = .ok (.iload_n 1, 1) := by decide +kernel
theorem dX2_single_96 : decode cX2_single 96 = .ok (.iconst 1, 1) := by decide +kernel
theorem dX2_single_97 : decode cX2_single 97 = .ok (.iadd, 1) := by decide +kernel
theorem dX2_single_98 : decode cX2_single 98 = .ok (.invokevirtual 193, 3) := by decide +kernel
theorem dX2_single_101 : decode cX2_single 101 = .ok (.ifCond .eq 16, 3) := by decide +kernel
theorem dX2_single_104 : decode cX2_single 104 = .ok (.aload_n 0, 1) := by decide +kernel
theorem dX2_single_105 : decode cX2_single 105 = .ok (.bipush 31, 2) := by decide +kernel
theorem dX2_single_107 : decode cX2_single 107 = .ok (.invokevirtual 66, 3) := by decide +kernel
theorem dX2_single_110 : decode cX2_single 110 = .ok (.ifCond .eq 7, 3) := by decide +kernel
theorem dX2_single_113 : decode cX2_single 113 = .ok (.iconst 1, 1) := by decide +kernel
theorem dX2_single_114 : decode cX2_single 114 = .ok (.goto 4, 3) := by decide +kernel
theorem dX2_single_117 : decode cX2_single 117 = .ok (.iconst 0, 1) := by decide +kernel
theorem dX2_single_118 : decode cX2_single 118 = .ok (.ireturn, 1) := by decide +kernel
theorem dX2_single_119 : decode cX2_single 119 = .ok (.aload_n 0, 1) := by decide +kernel
theorem dX2_single_120 : decode cX2_single 120 = .ok (.bipush 10, 2) := by decide +kernel
theorem dX2_single_122 : decode cX2_single 122 = .ok (.aload_n 0, 1) := by decide +kernel
theorem dX2_single_123 : decode cX2_single 123 = .ok (.getfield 28, 3) := by decide +kernel
theorem dX2_single_126 : decode cX2_single 126 = .ok (.aload_n 0, 1) := by decide +kernel
theorem dX2_single_127 : decode cX2_single 127 = .ok (.getfield 34, 3) := by decide +kernel
theorem dX2_single_130 : decode cX2_single 130 = .ok (.getfield 170, 3) := by decide +kernel
theorem dX2_single_133 : decode cX2_single 133 = .ok (.invokevirtual 212, 3) := by decide +kernel
theorem dX2_single_136 : decode cX2_single 136 = .ok (.ireturn, 1) := by decide +kernel
theorem dX2_single_137 : decode cX2_single 137 = .ok (.aload_n 0, 1) := by decide +kernel
theorem dX2_single_138 : decode cX2_single 138 = .ok (.bipush 11, 2) := by decide +kernel
theorem dX2_single_140 : decode cX2_single 140 = .ok (.aload_n 0, 1) := by decide +kernel
theorem dX2_single_141 : decode cX2_single 141 = .ok (.getfield 25, 3) := by decide +kernel
theorem dX2_single_144 : decode cX2_single 144 = .ok (.aload_n 0, 1) := by decide +kernel
theorem dX2_single_145 : decode cX2_single 145 = .ok (.getfield 34, 3) := by decide +kernel
theorem dX2_single_148 : decode cX2_single 148 = .ok (.getfield 161, 3) := by decide +kernel
theorem dX2_single_151 : decode cX2_single 151 = .ok (.invokevirtual 212, 3) := by decide +kernel
theorem dX2_single_154 : decode cX2_single 154 = .ok (.ireturn, 1) := by decide +kernel
theorem dX2_single_155 : decode cX2_single 155 = .ok (.aload_n 0, 1) := by decide +kernel
theorem dX2_single_156 : decode cX2_single 156 = .ok (.iload_n 1, 1) := by decide +kernel
theorem dX2_single_157 : decode cX2_single 157 = .ok (.invokevirtual 216, 3) := by decide +kernel
theorem dX2_single_160 : decode cX2_single 160 = .ok (.ireturn, 1) := by decide +kernel
theorem dX2_comparison_0 : decode cX2_comparison 0 = .ok (.aload_n 0, 1) := by decide +kernel
theorem dX2_comparison_1 : decode cX2_comparison 1 = .ok (.iload_n 1, 1) := by decide +kernel
theorem dX2_comparison_2 : decode cX2_comparison 2 = .ok (.invokevirtual 219, 3) := by decide +kernel
theorem dX2_comparison_5 : decode cX2_comparison 5 = .ok (.ifCond .ne 5, 3) := by decide +kernel
theorem dX2_comparison_8 : decode cX2_comparison 8 = .ok (.iconst 0, 1) := by decide +kernel
theorem dX2_comparison_9 : decode cX2_comparison 9 = .ok (.ireturn, 1) := by decide +kernel
theorem dX2_comparison_10 : decode cX2_comparison 10 = .ok (.aload_n 0, 1) := by decide +kernel
theorem dX2_comparison_11 : decode cX2_comparison 11 = .ok (.invokevirtual 58, 3) := by decide +kernel
theorem dX2_comparison_14 : decode cX2_comparison 14 = .ok (.istore_n 2, 1) := by decide +kernel
theorem dX2_comparison_15 : decode cX2_comparison 15 = .ok (.iload_n 2, 1) := by decide +kernel
theorem dX2_comparison_16 : decode cX2_comparison 16 = .ok (.bipush 19, 2) := by decide +kernel
theorem dX2_comparison_18 : decode cX2_comparison 18 = .ok (.if_icmp .lt 9, 3) := by decide +kernel
theorem dX2_comparison_21 : decode cX2_comparison 21 = .ok (.iload_n 2, 1) := by decide +kernel
theorem dX2_comparison_22 : decode cX2_comparison 22 = .ok (.bipush 23, 2) := by decide +kernel
theorem dX2_comparison_24 : decode cX2_comparison 24 = .ok (.if_icmp .le 5, 3) := by decide +kernel
theorem dX2_comparison_27 : decode cX2_comparison 27 = .ok (.iconst 0, 1) := by decide +kernel
theorem dX2_comparison_28 : decode cX2_comparison 28 = .ok (.ireturn, 1) := by decide +kernel
theorem dX2_comparison_29 : decode cX2_comparison 29 = .ok (.aload_n 0, 1) := by decide +kernel
theorem dX2_comparison_30 : decode cX2_comparison 30 = .ok (.dup, 1) := by decide +kernel
theorem dX2_comparison_31 : decode cX2_comparison 31 = .ok (.getfield 38, 3) := by decide +kernel
theorem dX2_comparison_34 : decode cX2_comparison 34 = .ok (.iconst 1, 1) := by decide +kernel
theorem dX2_comparison_35 : decode cX2_comparison 35 = .ok (.iadd, 1) := by decide +kernel
theorem dX2_comparison_36 : decode cX2_comparison 36 = .ok (.putfield 38, 3) := by decide +kernel
theorem dX2_comparison_39 : decode cX2_comparison 39 = .ok (.aload_n 0, 1) := by decide +kernel
theorem dX2_comparison_40 : decode cX2_comparison 40 = .ok (.iload_n 1, 1) := by decide +kernel
theorem dX2_comparison_41 : decode cX2_comparison 41 = .ok (.invokevirtual 219, 3) := by decide +kernel
theorem dX2_comparison_44 : decode cX2_comparison 44 = .ok (.ifCond .eq 16, 3) := by decide +kernel
theorem dX2_comparison_47 : decode cX2_comparison 47 = .ok (.aload_n 0, 1) := by decide +kernel
theorem dX2_comparison_48 : decode cX2_comparison 48 = .ok (.iload_n 2, 1) := by decide +kernel
theorem dX2_comparison_49 : decode cX2_comparison 49 = .ok (.iconst 0, 1) := by decide +kernel
theorem dX2_comparison_50 : decode cX2_comparison 50 = .ok (.invokevirtual 202, 3) := by decide +kernel
theorem dX2_comparison_53 : decode cX2_comparison 53 = .ok (.ifCond .eq 7, 3) := by decide +kernel
theorem dX2_comparison_56 : decode cX2_comparison 56 = .ok (.iconst 1, 1) := by decide +kernel
theorem dX2_comparison_57 : decode cX2_comparison 57 = .ok (.goto 4, 3) := by decide +kernel
theorem dX2_comparison_60 : decode cX2_comparison 60 = .ok (.iconst 0, 1) := by decide +kernel
theorem dX2_comparison_61 : decode cX2_comparison 61 = .ok (.ireturn, 1) := by decide +kernel
theorem dX2_sum_0 : decode cX2_sum 0 = .ok (.aload_n 0, 1) := by decide +kernel
theorem dX2_sum_1 : decode cX2_sum 1 = .ok (.iload_n 1, 1) := by decide +kernel
theorem dX2_sum_2 : decode cX2_sum 2 = .ok (.invokevirtual 222, 3) := by decide +kernel
theorem dX2_sum_5 : decode cX2_sum 5 = .ok (.istore_n 2, 1) := by decide +kernel
theorem dX2_sum_6 : decode cX2_sum 6 = .ok (.iconst 0, 1) := by decide +kernel
theorem dX2_sum_7 : decode cX2_sum 7 = .ok (.istore_n 3, 1) := by decide +kernel
theorem dX2_sum_8 : decode cX2_sum 8 = .ok (.iload_n 3, 1) := by decide +kernel
theorem dX2_sum_9 : decode cX2_sum 9 = .ok (.sipush 400, 3) := by decide +kernel
theorem dX2_sum_12 : decode cX2_sum 12 = .ok (.if_icmp .ge 71, 3) := by decide +kernel
theorem dX2_sum_15 : decode cX2_sum 15 = .ok (.iload_n 2, 1) := by decide +kernel
theorem dX2_sum_16 : decode cX2_sum 16 = .ok (.ifCond .eq 67, 3) := by decide +kernel
theorem dX2_sum_19 : decode cX2_sum 19 = .ok (.aload_n 0, 1) := by decide +kernel
theorem dX2_sum_20 : decode cX2_sum 20 = .ok (.invokevirtual 58, 3) := by decide +kernel
theorem dX2_sum_23 : decode cX2_sum 23 = .ok (.bipush 15, 2) := by decide +kernel
theorem dX2_sum_25 : decode cX2_sum 25 = .ok (.if_icmp .eq 12, 3) := by decide +kernel
theorem dX2_sum_28 : decode cX2_sum 28 = .ok (.aload_n 0, 1) := by decide +kernel
theorem dX2_sum_29 : decode cX2_sum 29 = .ok (.invokevirtual 58, 3) := by decide +kernel
theorem dX2_sum_32 : decode cX2_sum 32 = .ok (.bipush 16, 2) := by decide +kernel
theorem dX2_sum_34 : decode cX2_sum 34 = .ok (.if_icmp .ne 49, 3) := by decide +kernel
theorem dX2_sum_37 : decode cX2_sum 37 = .ok (.aload_n 0, 1) := by decide +kernel
theorem dX2_sum_38 : decode cX2_sum 38 = .ok (.invokevirtual 58, 3) := by decide +kernel
theorem dX2_sum_41 : decode cX2_sum 41 = .ok (.istore 4, 2) := by decide +kernel
theorem dX2_sum_43 : decode cX2_sum 43 = .ok (.aload_n 0, 1) := by decide +kernel
theorem dX2_sum_44 : decode cX2_sum 44 = .ok (.dup, 1) := by decide +kernel
theorem dX2_sum_45 : decode cX2_sum 45 = .ok (.getfield 38, 3) := by decide +kernel
theorem dX2_sum_48 : decode cX2_sum 48 = .ok (.iconst 1, 1) := by decide +kernel
theorem dX2_sum_49 : decode cX2_sum 49 = .ok (.iadd, 1) := by decide +kernel
theorem dX2_sum_50 : decode cX2_sum 50 = .ok (.putfield 38, 3) := by decide +kernel
theorem dX2_sum_53 : decode cX2_sum 53 = .ok (.aload_n 0, 1) := by decide +kernel
theorem dX2_sum_54 : decode cX2_sum 54 = .ok (.iload_n 1, 1) := by decide +kernel
theorem dX2_sum_55 : decode cX2_sum 55 = .ok (.invokevirtual 222, 3) := by decide +kernel
theorem dX2_sum_58 : decode cX2_sum 58 = .ok (.ifCond .eq 17, 3) := by decide +kernel
theorem dX2_sum_61 : decode cX2_sum 61 = .ok (.aload_n 0, 1) := by decide +kernel
theorem dX2_sum_62 : decode cX2_sum 62 = .ok (.iload 4, 2) := by decide +kernel
theorem dX2_sum_64 : decode cX2_sum 64 = .ok (.iconst 0, 1) := by decide +kernel
theorem dX2_sum_65 : decode cX2_sum 65 = .ok (.invokevirtual 202, 3) := by decide +kernel
theorem dX2_sum_68 : decode cX2_sum 68 = .ok (.ifCond .eq 7, 3) := by decide +kernel
theorem dX2_sum_71 : decode cX2_sum 71 = .ok (.iconst 1, 1) := by decide +kernel
theorem dX2_sum_72 : decode cX2_sum 72 = .ok (.goto 4, 3) := by decide +kernel
theorem dX2_sum_75 : decode cX2_sum 75 = .ok (.iconst 0, 1) := by decide +kernel
theorem dX2_sum_76 : decode cX2_sum 76 = .ok (.istore_n 2, 1) := by decide +kernel
theorem dX2_sum_77 : decode cX2_sum 77 = .ok (.iinc 3 1, 3) := by decide +kernel
theorem dX2_sum_80 : decode cX2_sum 80 = .ok (.goto (-72), 3) := by decide +kernel
theorem dX2_sum_83 : decode cX2_sum 83 = .ok (.iload_n 2, 1) := by decide +kernel
theorem dX2_sum_84 : decode cX2_sum 84 = .ok (.ireturn, 1) := by decide +kernel
theorem dX2_product_0 : decode cX2_product 0 = .ok (.aload_n 0, 1) := by decide +kernel
theorem dX2_product_1 : decode cX2_product 1 = .ok (.iload_n 1, 1) := by decide +kernel
theorem dX2_product_2 : decode cX2_product 2 = .ok (.invokevirtual 225, 3) := by decide +kernel
theorem dX2_product_5 : decode cX2_product 5 = .ok (.istore_n 2, 1) := by decide +kernel
theorem dX2_product_6 : decode cX2_product 6 = .ok (.iconst 0, 1) := by decide +kernel
theorem dX2_product_7 : decode cX2_product 7 = .ok (.istore_n 3, 1) := by decide +kernel
theorem dX2_product_8 : decode cX2_product 8 = .ok (.iload_n 3, 1) := by decide +kernel
theorem dX2_product_9 : decode cX2_product 9 = .ok (.sipush 400, 3) := by decide +kernel
theorem dX2_product_12 : decode cX2_product 12 = .ok (.if_icmp .ge 71, 3) := by decide +kernel
theorem dX2_product_15 : decode cX2_product 15 = .ok (.iload_n 2, 1) := by decide +kernel
theorem dX2_product_16 : decode cX2_product 16 = .ok (.ifCond .eq 67, 3) := by decide +kernel
theorem dX2_product_19 : decode cX2_product 19 = .ok (.aload_n 0, 1) := by decide +kernel
theorem dX2_product_20 : decode cX2_product 20 = .ok (.invokevirtual 58, 3) := by decide +kernel
theorem dX2_product_23 : decode cX2_product 23 = .ok (.bipush 17, 2) := by decide +kernel
theorem dX2_product_25 : decode cX2_product 25 = .ok (.if_icmp .eq 12, 3) := by decide +kernel
theorem dX2_product_28 : decode cX2_product 28 = .ok (.aload_n 0, 1) := by decide +kernel
theorem dX2_product_29 : decode cX2_product 29 = .ok (.invokevirtual 58, 3) := by decide +kernel
theorem dX2_product_32 : decode cX2_product 32 = .ok (.bipush 18, 2) := by decide +kernel
theorem dX2_product_34 : decode cX2_product 34 = .ok (.if_icmp .ne 49, 3) := by decide +kernel
theorem dX2_product_37 : decode cX2_product 37 = .ok (.aload_n 0, 1) := by decide +kernel
theorem dX2_product_38 : decode cX2_product 38 = .ok (.invokevirtual 58, 3) := by decide +kernel
theorem dX2_product_41 : decode cX2_product 41 = .ok (.istore 4, 2) := by decide +kernel
theorem dX2_product_43 : decode cX2_product 43 = .ok (.aload_n 0, 1) := by decide +kernel
theorem dX2_product_44 : decode cX2_product 44 = .ok (.dup, 1) := by decide +kernel
theorem dX2_product_45 : decode cX2_product 45 = .ok (.getfield 38, 3) := by decide +kernel
theorem dX2_product_48 : decode cX2_product 48 = .ok (.iconst 1, 1) := by decide +kernel
theorem dX2_product_49 : decode cX2_product 49 = .ok (.iadd, 1) := by decide +kernel
theorem dX2_product_50 : decode cX2_product 50 = .ok (.putfield 38, 3) := by decide +kernel
theorem dX2_product_53 : decode cX2_product 53 = .ok (.aload_n 0, 1) := by decide +kernel
theorem dX2_product_54 : decode cX2_product 54 = .ok (.iload_n 1, 1) := by decide +kernel
theorem dX2_product_55 : decode cX2_product 55 = .ok (.invokevirtual 225, 3) := by decide +kernel
theorem dX2_product_58 : decode cX2_product 58 = .ok (.ifCond .eq 17, 3) := by decide +kernel
theorem dX2_product_61 : decode cX2_product 61 = .ok (.aload_n 0, 1) := by decide +kernel
theorem dX2_product_62 : decode cX2_product 62 = .ok (.iload 4, 2) := by decide +kernel
theorem dX2_product_64 : decode cX2_product 64 = .ok (.iconst 0, 1) := by decide +kernel
theorem dX2_product_65 : decode cX2_product 65 = .ok (.invokevirtual 202, 3) := by decide +kernel
theorem dX2_product_68 : decode cX2_product 68 = .ok (.ifCond .eq 7, 3) := by decide +kernel
theorem dX2_product_71 : decode cX2_product 71 = .ok (.iconst 1, 1) := by decide +kernel
theorem dX2_product_72 : decode cX2_product 72 = .ok (.goto 4, 3) := by decide +kernel
theorem dX2_product_75 : decode cX2_product 75 = .ok (.iconst 0, 1) := by decide +kernel
theorem dX2_product_76 : decode cX2_product 76 = .ok (.istore_n 2, 1) := by decide +kernel
theorem dX2_product_77 : decode cX2_product 77 = .ok (.iinc 3 1, 3) := by decide +kernel
theorem dX2_product_80 : decode cX2_product 80 = .ok (.goto (-72), 3) := by decide +kernel
theorem dX2_product_83 : decode cX2_product 83 = .ok (.iload_n 2, 1) := by decide +kernel
theorem dX2_product_84 : decode cX2_product 84 = .ok (.ireturn, 1) := by decide +kernel
theorem dX2_value_0 : decode cX2_value 0 = .ok (.aload_n 0, 1) := by decide +kernel
theorem dX2_value_1 : decode cX2_value 1 = .ok (.invokevirtual 58, 3) := by decide +kernel
theorem dX2_value_4 : decode cX2_value 4 = .ok (.istore_n 2, 1) := by decide +kernel
theorem dX2_value_5 : decode cX2_value 5 = .ok (.iload_n 2, 1) := by decide +kernel
theorem dX2_value_6 : decode cX2_value 6 = .ok (.tableswitch 345 4 28 #[114, 140, 140, 157, 200, 218, 345, 345, 236, 345, 345, 345, 270, 345, 345, 345, 345, 345, 345, 345, 345, 345, 312, 312, 306], 114) := by decide +kernel
theorem dX2_value_120 : decode cX2_value 120 = .ok (.aload_n 0, 1) := by decide +kernel
theorem dX2_value_121 : decode cX2_value 121 = .ok (.dup, 1) := by decide +kernel
theorem dX2_value_122 : decode cX2_value 122 = .ok (.getfield 38, 3) := by decide +kernel
theorem dX2_value_125 : decode cX2_value 125 = .ok (.iconst 1, 1) := by decide +kernel
theorem dX2_value_126 : decode cX2_value 126 = .ok (.iadd, 1) := by decide +kernel
theorem dX2_value_127 : decode cX2_value 127 = .ok (.putfield 38, 3) := by decide +kernel
theorem dX2_value_130 : decode cX2_value 130 = .ok (.aload_n 0, 1) := by decide +kernel
theorem dX2_value_131 : decode cX2_value 131 = .ok (.iconst 4, 1) := by decide +kernel
theorem dX2_value_132 : decode cX2_value 132 = .ok (.aload_n 0, 1) := by decide +kernel
theorem dX2_value_133 : decode cX2_value 133 = .ok (.aload_n 0, 1) := by decide +kernel
theorem dX2_value_134 : decode cX2_value 134 = .ok (.getfield 38, 3) := by decide +kernel
theorem dX2_value_137 : decode cX2_value 137 = .ok (.iconst 1, 1) := by decide +kernel
theorem dX2_value_138 : decode cX2_value 138 = .ok (.isub, 1) := by decide +kernel
theorem dX2_value_139 : decode cX2_value 139 = .ok (.invokevirtual 95, 3) := by decide +kernel
theorem dX2_value_142 : decode cX2_value 142 = .ok (.invokevirtual 202, 3) := by decide +kernel
theorem dX2_value_145 : decode cX2_value 145 = .ok (.ireturn, 1) := by decide +kernel
theorem dX2_value_146 : decode cX2_value 146 = .ok (.aload_n 0, 1) := by decide +kernel
theorem dX2_value_147 : decode cX2_value 147 = .ok (.dup, 1) := by decide +kernel
theorem dX2_value_148 : decode cX2_value 148 = .ok (.getfield 38, 3) := by decide +kernel
theorem dX2_value_151 : decode cX2_value 151 = .ok (.iconst 1, 1) := by decide +kernel
theorem dX2_value_152 : decode cX2_value 152 = .ok (.iadd, 1) := by decide +kernel
theorem dX2_value_153 : decode cX2_value 153 = .ok (.putfield 38, 3) := by decide +kernel
theorem dX2_value_156 : decode cX2_value 156 = .ok (.aload_n 0, 1) := by decide +kernel
theorem dX2_value_157 : decode cX2_value 157 = .ok (.iload_n 2, 1) := by decide +kernel
theorem dX2_value_158 : decode cX2_value 158 = .ok (.iconst 0, 1) := by decide +kernel
theorem dX2_value_159 : decode cX2_value 159 = .ok (.invokevirtual 202, 3) := by decide +kernel
theorem dX2_value_162 : decode cX2_value 162 = .ok (.ireturn, 1) := by decide +kernel
theorem dX2_value_163 : decode cX2_value 163 = .ok (.aload_n 0, 1) := by decide +kernel
theorem dX2_value_164 : decode cX2_value 164 = .ok (.dup, 1) := by decide +kernel
theorem dX2_value_165 : decode cX2_value 165 = .ok (.getfield 38, 3) := by decide +kernel
theorem dX2_value_168 : decode cX2_value 168 = .ok (.iconst 1, 1) := by decide +kernel
theorem dX2_value_169 : decode cX2_value 169 = .ok (.iadd, 1) := by decide +kernel
theorem dX2_value_170 : decode cX2_value 170 = .ok (.putfield 38, 3) := by decide +kernel
theorem dX2_value_173 : decode cX2_value 173 = .ok (.aload_n 0, 1) := by decide +kernel
theorem dX2_value_174 : decode cX2_value 174 = .ok (.iconst 3, 1) := by decide +kernel
theorem dX2_value_175 : decode cX2_value 175 = .ok (.invokevirtual 66, 3) := by decide +kernel
theorem dX2_value_178 : decode cX2_value 178 = .ok (.ifCond .eq 26, 3) := by decide +kernel
theorem dX2_value_181 : decode cX2_value 181 = .ok (.aload_n 0, 1) := by decide +kernel
theorem dX2_value_182 : decode cX2_value 182 = .ok (.bipush 7, 2) := by decide +kernel
theorem dX2_value_184 : decode cX2_value 184 = .ok (.aload_n 0, 1) := by decide +kernel
theorem dX2_value_185 : decode cX2_value 185 = .ok (.aload_n 0, 1) := by decide +kernel
theorem dX2_value_186 : decode cX2_value 186 = .ok (.getfield 38, 3) := by decide +kernel
theorem dX2_value_189 : decode cX2_value 189 = .ok (.iconst 1, 1) := by decide +kernel
theorem dX2_value_190 : decode cX2_value 190 = .ok (.isub, 1) := by decide +kernel
theorem dX2_value_191 : decode cX2_value 191 = .ok (.invokevirtual 95, 3) := by decide +kernel
theorem dX2_value_194 : decode cX2_value 194 = .ok (.invokevirtual 202, 3) := by decide +kernel
theorem dX2_value_197 : decode cX2_value 197 = .ok (.ifCond .eq 7, 3) := by decide +kernel
theorem dX2_value_200 : decode cX2_value 200 = .ok (.iconst 1, 1) := by decide +kernel
theorem dX2_value_201 : decode cX2_value 201 = .ok (.goto 4, 3) := by decide +kernel
theorem dX2_value_204 : decode cX2_value 204 = .ok (.iconst 0, 1) := by decide +kernel
theorem dX2_value_205 : decode cX2_value 205 = .ok (.ireturn, 1) := by decide +kernel
theorem dX2_value_206 : decode cX2_value 206 = .ok (.aload_n 0, 1) := by decide +kernel
theorem dX2_value_207 : decode cX2_value 207 = .ok (.bipush 8, 2) := by decide +kernel
theorem dX2_value_209 : decode cX2_value 209 = .ok (.aload_n 0, 1) := by decide +kernel
theorem dX2_value_210 : decode cX2_value 210 = .ok (.getfield 25, 3) := by decide +kernel
theorem dX2_value_213 : decode cX2_value 213 = .ok (.aload_n 0, 1) := by decide +kernel
theorem dX2_value_214 : decode cX2_value 214 = .ok (.getfield 34, 3) := by decide +kernel
theorem dX2_value_217 : decode cX2_value 217 = .ok (.getfield 161, 3) := by decide +kernel
theorem dX2_value_220 : decode cX2_value 220 = .ok (.invokevirtual 212, 3) := by decide +kernel
theorem dX2_value_223 : decode cX2_value 223 = .ok (.ireturn, 1) := by decide +kernel
theorem dX2_value_224 : decode cX2_value 224 = .ok (.aload_n 0, 1) := by decide +kernel
theorem dX2_value_225 : decode cX2_value 225 = .ok (.bipush 9, 2) := by decide +kernel
theorem dX2_value_227 : decode cX2_value 227 = .ok (.aload_n 0, 1) := by decide +kernel
theorem dX2_value_228 : decode cX2_value 228 = .ok (.getfield 28, 3) := by decide +kernel
theorem dX2_value_231 : decode cX2_value 231 = .ok (.aload_n 0, 1) := by decide +kernel
theorem dX2_value_232 : decode cX2_value 232 = .ok (.getfield 34, 3) := by decide +kernel
theorem dX2_value_235 : decode cX2_value 235 = .ok (.getfield 170, 3) := by decide +kernel
theorem dX2_value_238 : decode cX2_value 238 = .ok (.invokevirtual 212, 3) := by decide +kernel
theorem dX2_value_241 : decode cX2_value 241 = .ok (.ireturn, 1) := by decide +kernel
theorem dX2_value_242 : decode cX2_value 242 = .ok (.aload_n 0, 1) := by decide +kernel
theorem dX2_value_243 : decode cX2_value 243 = .ok (.dup, 1) := by decide +kernel
theorem dX2_value_244 : decode cX2_value 244 = .ok (.getfield 38, 3) := by decide +kernel
theorem dX2_value_247 : decode cX2_value 247 = .ok (.iconst 1, 1) := by decide +kernel
theorem dX2_value_248 : decode cX2_value 248 = .ok (.iadd, 1) := by decide +kernel
theorem dX2_value_249 : decode cX2_value 249 = .ok (.putfield 38, 3) := by decide +kernel
theorem dX2_value_252 : decode cX2_value 252 = .ok (.aload_n 0, 1) := by decide +kernel
theorem dX2_value_253 : decode cX2_value 253 = .ok (.iload_n 1, 1) := by decide +kernel
theorem dX2_value_254 : decode cX2_value 254 = .ok (.invokevirtual 227, 3) := by decide +kernel
theorem dX2_value_257 : decode cX2_value 257 = .ok (.ifCond .eq 17, 3) := by decide +kernel
theorem dX2_value_260 : decode cX2_value 260 = .ok (.aload_n 0, 1) := by decide +kernel
theorem dX2_value_261 : decode cX2_value 261 = .ok (.bipush 12, 2) := by decide +kernel
theorem dX2_value_263 : decode cX2_value 263 = .ok (.iconst 0, 1) := by decide +kernel
theorem dX2_value_264 : decode cX2_value 264 = .ok (.invokevirtual 202, 3) := by decide +kernel
theorem dX2_value_267 : decode cX2_value 267 = .ok (.ifCond .eq 7, 3) := by decide +kernel
theorem dX2_value_270 : decode cX2_value 270 = .ok (.iconst 1, 1) := by decide +kernel
theorem dX2_value_271 : decode cX2_value 271 = .ok (.goto 4, 3) := by decide +kernel
theorem dX2_value_274 : decode cX2_value 274 = .ok (.iconst 0, 1) := by decide +kernel
theorem dX2_value_275 : decode cX2_value 275 = .ok (.ireturn, 1) := by decide +kernel
theorem dX2_value_276 : decode cX2_value 276 = .ok (.aload_n 0, 1) := by decide +kernel
theorem dX2_value_277 : decode cX2_value 277 = .ok (.bipush 16, 2) := by decide +kernel
theorem dX2_value_279 : decode cX2_value 279 = .ok (.iload_n 1, 1) := by decide +kernel
theorem dX2_value_280 : decode cX2_value 280 = .ok (.invokevirtual 209, 3) := by decide +kernel
theorem dX2_value_283 : decode cX2_value 283 = .ok (.ifCond .eq 27, 3) := by decide +kernel
theorem dX2_value_286 : decode cX2_value 286 = .ok (.aload_n 0, 1) := by decide +kernel
theorem dX2_value_287 : decode cX2_value 287 = .ok (.iload_n 1, 1) := by decide +kernel
theorem dX2_value_288 : decode cX2_value 288 = .ok (.iconst 1, 1) := by decide +kernel
theorem dX2_value_289 : decode cX2_value 289 = .ok (.iadd, 1) := by decide +kernel
theorem dX2_value_290 : decode cX2_value 290 = .ok (.invokevirtual 225, 3) := by decide +kernel
theorem dX2_value_293 : decode cX2_value 293 = .ok (.ifCond .eq 17, 3) := by decide +kernel
theorem dX2_value_296 : decode cX2_value 296 = .ok (.aload_n 0, 1) := by decide +kernel
theorem dX2_value_297 : decode cX2_value 297 = .ok (.bipush 14, 2) := by decide +kernel
theorem dX2_value_299 : decode cX2_value 299 = .ok (.iconst 0, 1) := by decide +kernel
theorem dX2_value_300 : decode cX2_value 300 = .ok (.invokevirtual 202, 3) := by decide +kernel
theorem dX2_value_303 : decode cX2_value 303 = .ok (.ifCond .eq 7, 3) := by decide +kernel
theorem dX2_value_306 : decode cX2_value 306 = .ok (.iconst 1, 1) := by decide +kernel
theorem dX2_value_307 : decode cX2_value 307 = .ok (.goto 4, 3) := by decide +kernel
theorem dX2_value_310 : decode cX2_value 310 = .ok (.iconst 0, 1) := by decide +kernel
theorem dX2_value_311 : decode cX2_value 311 = .ok (.ireturn, 1) := by decide +kernel
theorem dX2_value_312 : decode cX2_value 312 = .ok (.aload_n 0, 1) := by decide +kernel
theorem dX2_value_313 : decode cX2_value 313 = .ok (.iload_n 1, 1) := by decide +kernel
theorem dX2_value_314 : decode cX2_value 314 = .ok (.invokevirtual 227, 3) := by decide +kernel
theorem dX2_value_317 : decode cX2_value 317 = .ok (.ireturn, 1) := by decide +kernel
theorem dX2_value_318 : decode cX2_value 318 = .ok (.aload_n 0, 1) := by decide +kernel
theorem dX2_value_319 : decode cX2_value 319 = .ok (.dup, 1) := by decide +kernel
theorem dX2_value_320 : decode cX2_value 320 = .ok (.getfield 38, 3) := by decide +kernel
theorem dX2_value_323 : decode cX2_value 323 = .ok (.iconst 1, 1) := by decide +kernel
theorem dX2_value_324 : decode cX2_value 324 = .ok (.iadd, 1) := by decide +kernel
theorem dX2_value_325 : decode cX2_value 325 = .ok (.putfield 38, 3) := by decide +kernel
theorem dX2_value_328 : decode cX2_value 328 = .ok (.aload_n 0, 1) := by decide +kernel
theorem dX2_value_329 : decode cX2_value 329 = .ok (.iload_n 1, 1) := by decide +kernel
theorem dX2_value_330 : decode cX2_value 330 = .ok (.invokevirtual 230, 3) := by decide +kernel
theorem dX2_value_333 : decode cX2_value 333 = .ok (.ifCond .eq 16, 3) := by decide +kernel
theorem dX2_value_336 : decode cX2_value 336 = .ok (.aload_n 0, 1) := by decide +kernel
theorem dX2_value_337 : decode cX2_value 337 = .ok (.iload_n 2, 1) := by decide +kernel
theorem dX2_value_338 : decode cX2_value 338 = .ok (.iconst 0, 1) := by decide +kernel
theorem dX2_value_339 : decode cX2_value 339 = .ok (.invokevirtual 202, 3) := by decide +kernel
theorem dX2_value_342 : decode cX2_value 342 = .ok (.ifCond .eq 7, 3) := by decide +kernel
theorem dX2_value_345 : decode cX2_value 345 = .ok (.iconst 1, 1) := by decide +kernel
theorem dX2_value_346 : decode cX2_value 346 = .ok (.goto 4, 3) := by decide +kernel
theorem dX2_value_349 : decode cX2_value 349 = .ok (.iconst 0, 1) := by decide +kernel
theorem dX2_value_350 : decode cX2_value 350 = .ok (.ireturn, 1) := by decide +kernel
theorem dX2_value_351 : decode cX2_value 351 = .ok (.iconst 0, 1) := by decide +kernel
theorem dX2_value_352 : decode cX2_value 352 = .ok (.ireturn, 1) := by decide +kernel
theorem dX2_inBrackets_0 : decode cX2_inBrackets 0 = .ok (.aload_n 0, 1) := by decide +kernel
theorem dX2_inBrackets_1 : decode cX2_inBrackets 1 = .ok (.bipush 28, 2) := by decide +kernel
theorem dX2_inBrackets_3 : decode cX2_inBrackets 3 = .ok (.iload_n 1, 1) := by decide +kernel
theorem dX2_inBrackets_4 : decode cX2_inBrackets 4 = .ok (.invokevirtual 209, 3) := by decide +kernel
theorem dX2_inBrackets_7 : decode cX2_inBrackets 7 = .ok (.ifCond .eq 26, 3) := by decide +kernel
theorem dX2_inBrackets_10 : decode cX2_inBrackets 10 = .ok (.aload_n 0, 1) := by decide +kernel
theorem dX2_inBrackets_11 : decode cX2_inBrackets 11 = .ok (.iload_n 1, 1) := by decide +kernel
theorem dX2_inBrackets_12 : decode cX2_inBrackets 12 = .ok (.iconst 1, 1) := by decide +kernel
theorem dX2_inBrackets_13 : decode cX2_inBrackets 13 = .ok (.iadd, 1) := by decide +kernel
theorem dX2_inBrackets_14 : decode cX2_inBrackets 14 = .ok (.invokevirtual 219, 3) := by decide +kernel
theorem dX2_inBrackets_17 : decode cX2_inBrackets 17 = .ok (.ifCond .eq 16, 3) := by decide +kernel
theorem dX2_inBrackets_20 : decode cX2_inBrackets 20 = .ok (.aload_n 0, 1) := by decide +kernel
theorem dX2_inBrackets_21 : decode cX2_inBrackets 21 = .ok (.bipush 29, 2) := by decide +kernel
theorem dX2_inBrackets_23 : decode cX2_inBrackets 23 = .ok (.invokevirtual 66, 3) := by decide +kernel
theorem dX2_inBrackets_26 : decode cX2_inBrackets 26 = .ok (.ifCond .eq 7, 3) := by decide +kernel
theorem dX2_inBrackets_29 : decode cX2_inBrackets 29 = .ok (.iconst 1, 1) := by decide +kernel
theorem dX2_inBrackets_30 : decode cX2_inBrackets 30 = .ok (.goto 4, 3) := by decide +kernel
theorem dX2_inBrackets_33 : decode cX2_inBrackets 33 = .ok (.iconst 0, 1) := by decide +kernel
theorem dX2_inBrackets_34 : decode cX2_inBrackets 34 = .ok (.ireturn, 1) := by decide +kernel
theorem dX2_ofTwo_0 : decode cX2_ofTwo 0 = .ok (.aload_n 0, 1) := by decide +kernel
theorem dX2_ofTwo_1 : decode cX2_ofTwo 1 = .ok (.bipush 28, 2) := by decide +kernel
theorem dX2_ofTwo_3 : decode cX2_ofTwo 3 = .ok (.iload_n 1, 1) := by decide +kernel
theorem dX2_ofTwo_4 : decode cX2_ofTwo 4 = .ok (.invokevirtual 209, 3) := by decide +kernel
theorem dX2_ofTwo_7 : decode cX2_ofTwo 7 = .ok (.ifCond .eq 45, 3) := by decide +kernel
theorem dX2_ofTwo_10 : decode cX2_ofTwo 10 = .ok (.aload_n 0, 1) := by decide +kernel
theorem dX2_ofTwo_11 : decode cX2_ofTwo 11 = .ok (.iload_n 1, 1) := by decide +kernel
theorem dX2_ofTwo_12 : decode cX2_ofTwo 12 = .ok (.iconst 1, 1) := by decide +kernel
theorem dX2_ofTwo_13 : decode cX2_ofTwo 13 = .ok (.iadd, 1) := by decide +kernel
theorem dX2_ofTwo_14 : decode cX2_ofTwo 14 = .ok (.invokevirtual 219, 3) := by decide +kernel
theorem dX2_ofTwo_17 : decode cX2_ofTwo 17 = .ok (.ifCond .eq 35, 3) := by decide +kernel
theorem dX2_ofTwo_20 : decode cX2_ofTwo 20 = .ok (.aload_n 0, 1) := by decide +kernel
theorem dX2_ofTwo_21 : decode cX2_ofTwo 21 = .ok (.bipush 33, 2) := by decide +kernel
theorem dX2_ofTwo_23 : decode cX2_ofTwo 23 = .ok (.invokevirtual 66, 3) := by decide +kernel
theorem dX2_ofTwo_26 : decode cX2_ofTwo 26 = .ok (.ifCond .eq 26, 3) := by decide +kernel
theorem dX2_ofTwo_29 : decode cX2_ofTwo 29 = .ok (.aload_n 0, 1) := by decide +kernel
theorem dX2_ofTwo_30 : decode cX2_ofTwo 30 = .ok (.iload_n 1, 1) := by decide +kernel
theorem dX2_ofTwo_31 : decode cX2_ofTwo 31 = .ok (.iconst 1, 1) := by decide +kernel
theorem dX2_ofTwo_32 : decode cX2_ofTwo 32 = .ok (.iadd, 1) := by decide +kernel
theorem dX2_ofTwo_33 : decode cX2_ofTwo 33 = .ok (.invokevirtual 219, 3) := by decide +kernel
theorem dX2_ofTwo_36 : decode cX2_ofTwo 36 = .ok (.ifCond .eq 16, 3) := by decide +kernel
theorem dX2_ofTwo_39 : decode cX2_ofTwo 39 = .ok (.aload_n 0, 1) := by decide +kernel
theorem dX2_ofTwo_40 : decode cX2_ofTwo 40 = .ok (.bipush 29, 2) := by decide +kernel
theorem dX2_ofTwo_42 : decode cX2_ofTwo 42 = .ok (.invokevirtual 66, 3) := by decide +kernel
theorem dX2_ofTwo_45 : decode cX2_ofTwo 45 = .ok (.ifCond .eq 7, 3) := by decide +kernel
theorem dX2_ofTwo_48 : decode cX2_ofTwo 48 = .ok (.iconst 1, 1) := by decide +kernel
theorem dX2_ofTwo_49 : decode cX2_ofTwo 49 = .ok (.goto 4, 3) := by decide +kernel
theorem dX2_ofTwo_52 : decode cX2_ofTwo 52 = .ok (.iconst 0, 1) := by decide +kernel
theorem dX2_ofTwo_53 : decode cX2_ofTwo 53 = .ok (.ireturn, 1) := by decide +kernel
theorem mi_X2_test : MInfo yX2_test cX2_test 4 (some .boolean) 1 := ⟨wq_1091, wq_79, by decide, ⟨by decide +kernel, by decide +kernel, by decide +kernel⟩, by decide +kernel⟩
theorem mi_X2_both : MInfo yX2_both cX2_both 4 (some .boolean) 1 := ⟨wq_1095, wq_79, by decide, ⟨by decide +kernel, by decide +kernel, by decide +kernel⟩, by decide +kernel⟩
theorem mi_X2_single : MInfo yX2_single cX2_single 2 (some .boolean) 1 := ⟨wq_1099, wq_79, by decide, ⟨by decide +kernel, by decide +kernel, by decide +kernel⟩, by decide +kernel⟩
theorem mi_X2_comparison : MInfo yX2_comparison cX2_comparison 3 (some .boolean) 1 := ⟨wq_1120, wq_79, by decide, ⟨by decide +kernel, by decide +kernel, by decide +kernel⟩, by decide +kernel⟩
theorem mi_X2_sum : MInfo yX2_sum cX2_sum 5 (some .boolean) 1 := ⟨wq_1124, wq_79, by decide, ⟨by decide +kernel, by decide +kernel, by decide +kernel⟩, by decide +kernel⟩
theorem mi_X2_product : MInfo yX2_product cX2_product 5 (some .boolean) 1 := ⟨wq_1128, wq_79, by decide, ⟨by decide +kernel, by decide +kernel, by decide +kernel⟩, by decide +kernel⟩
theorem mi_X2_value : MInfo yX2_value cX2_value 3 (some .boolean) 1 := ⟨wq_1132, wq_79, by decide, ⟨by decide +kernel, by decide +kernel, by decide +kernel⟩, by decide +kernel⟩
theorem mi_X2_inBrackets : MInfo yX2_inBrackets cX2_inBrackets 2 (some .boolean) 1 := ⟨wq_1136, wq_79, by decide, ⟨by decide +kernel, by decide +kernel, by decide +kernel⟩, by decide +kernel⟩
theorem mi_X2_ofTwo : MInfo yX2_ofTwo cX2_ofTwo 2 (some .boolean) 1 := ⟨wq_1140, wq_79, by decide, ⟨by decide +kernel, by decide +kernel, by decide +kernel⟩, by decide +kernel⟩
def wl_X2_test_8 (G : Nat → M2 → L2 → Int32 → (Int32 → M2 → L2 → Prop) → Prop) (K : Int32 → M2 → L2 → Prop) : Nat → M2 → L2 → Int32 → Int32 → Int32 → Prop
  | 0, _, _, _, _, _ => False
  | n + 1, F, L, v1, v2, v3 => ((400 ≤ v3 → (zb v2 ∧ K v2 F L)) ∧ (¬ 400 ≤ v3 → ((v2 = 0 → (zb v2 ∧ K v2 F L)) ∧ (¬ v2 = 0 → wp_X2_take F L 25 (fun r_22 F_22 L_22 => ((r_22 = 0 → (zb v2 ∧ K v2 F_22 L_22)) ∧ (¬ r_22 = 0 → G 1 F_22 L_22 v1 (fun r_30 F_30 L_30 => ((r_30 = 0 → (∀ v3_52 : Int32, v3_52 = v3 + 1 → wl_X2_test_8 G K n F_30 L_30 v1 0 v3_52)) ∧ (¬ r_30 = 0 → wp_X2_emit F_30 L_30 25 0 (fun r_40 F_40 L_40 => ((r_40 = 0 → (∀ v3_52 : Int32, v3_52 = v3 + 1 → wl_X2_test_8 G K n F_40 L_40 v1 0 v3_52)) ∧ (¬ r_40 = 0 → (∀ v3_52 : Int32, v3_52 = v3 + 1 → wl_X2_test_8 G K n F_40 L_40 v1 1 v3_52))))))))))))))
def wp_X2_test (G : Nat → M2 → L2 → Int32 → (Int32 → M2 → L2 → Prop) → Prop) (F : M2) (L : L2) (x1 : Int32) (K : Int32 → M2 → L2 → Prop) : Prop := G 1 F L x1 (fun r_2 F_2 L_2 => wl_X2_test_8 G K fK F_2 L_2 x1 r_2 0)
def wl_X2_both_8 (G : Nat → M2 → L2 → Int32 → (Int32 → M2 → L2 → Prop) → Prop) (K : Int32 → M2 → L2 → Prop) : Nat → M2 → L2 → Int32 → Int32 → Int32 → Prop
  | 0, _, _, _, _, _ => False
  | n + 1, F, L, v1, v2, v3 => ((400 ≤ v3 → (zb v2 ∧ K v2 F L)) ∧ (¬ 400 ≤ v3 → ((v2 = 0 → (zb v2 ∧ K v2 F L)) ∧ (¬ v2 = 0 → wp_X2_take F L 24 (fun r_22 F_22 L_22 => ((r_22 = 0 → (zb v2 ∧ K v2 F_22 L_22)) ∧ (¬ r_22 = 0 → G 2 F_22 L_22 v1 (fun r_30 F_30 L_30 => ((r_30 = 0 → (∀ v3_52 : Int32, v3_52 = v3 + 1 → wl_X2_both_8 G K n F_30 L_30 v1 0 v3_52)) ∧ (¬ r_30 = 0 → wp_X2_emit F_30 L_30 24 0 (fun r_40 F_40 L_40 => ((r_40 = 0 → (∀ v3_52 : Int32, v3_52 = v3 + 1 → wl_X2_both_8 G K n F_40 L_40 v1 0 v3_52)) ∧ (¬ r_40 = 0 → (∀ v3_52 : Int32, v3_52 = v3 + 1 → wl_X2_both_8 G K n F_40 L_40 v1 1 v3_52))))))))))))))
def wp_X2_both (G : Nat → M2 → L2 → Int32 → (Int32 → M2 → L2 → Prop) → Prop) (F : M2) (L : L2) (x1 : Int32) (K : Int32 → M2 → L2 → Prop) : Prop := G 2 F L x1 (fun r_2 F_2 L_2 => wl_X2_both_8 G K fK F_2 L_2 x1 r_2 0)
def wp_X2_single (G : Nat → M2 → L2 → Int32 → (Int32 → M2 → L2 → Prop) → Prop) (F : M2) (L : L2) (x1 : Int32) (K : Int32 → M2 → L2 → Prop) : Prop := wp_X2_peek F L (fun r_1 => ((r_1 = 10 → wp_X2_ofOne_nO F L 10 (F 24 0) (fun r_133 F_133 L_133 => (zb r_133 ∧ K r_133 F_133 L_133))) ∧ (r_1 = 11 → wp_X2_ofOne_nL F L 11 (F 23 0) (fun r_151 F_151 L_151 => (zb r_151 ∧ K r_151 F_151 L_151))) ∧ (r_1 = 13 → wp_X2_takeDeeper F L 13 x1 (fun r_52 F_52 L_52 => ((r_52 = 0 → K 0 F_52 L_52) ∧ (¬ r_52 = 0 → G 2 F_52 L_52 (x1 + 1) (fun r_62 F_62 L_62 => ((r_62 = 0 → K 0 F_62 L_62) ∧ (¬ r_62 = 0 → wp_X2_emit F_62 L_62 13 0 (fun r_72 F_72 L_72 => ((r_72 = 0 → K 0 F_72 L_72) ∧ (¬ r_72 = 0 → K 1 F_72 L_72)))))))))) ∧ (r_1 = 30 → wp_X2_takeDeeper F L 30 x1 (fun r_88 F_88 L_88 => ((r_88 = 0 → K 0 F_88 L_88) ∧ (¬ r_88 = 0 → G 0 F_88 L_88 (x1 + 1) (fun r_98 F_98 L_98 => ((r_98 = 0 → K 0 F_98 L_98) ∧ (¬ r_98 = 0 → wp_X2_take F_98 L_98 31 (fun r_107 F_107 L_107 => ((r_107 = 0 → K 0 F_107 L_107) ∧ (¬ r_107 = 0 → K 1 F_107 L_107)))))))))) ∧ (¬ r_1 = 10 → ¬ r_1 = 11 → ¬ r_1 = 13 → ¬ r_1 = 30 → G 3 F L x1 (fun r_157 F_157 L_157 => (zb r_157 ∧ K r_157 F_157 L_157)))))
def wp_X2_comparison (G : Nat → M2 → L2 → Int32 → (Int32 → M2 → L2 → Prop) → Prop) (F : M2) (L : L2) (x1 : Int32) (K : Int32 → M2 → L2 → Prop) : Prop := G 4 F L x1 (fun r_2 F_2 L_2 => ((¬ r_2 = 0 → wp_X2_peek F_2 L_2 (fun r_11 => ((r_11 < 19 → K 0 F_2 L_2) ∧ (¬ r_11 < 19 → ((r_11 ≤ 23 → (∀ F_36 : M2, F_36 = up2 F_2 66 (fun _ => (F_2 66 0) + 1) → G 4 F_36 L_2 x1 (fun r_41 F_41 L_41 => ((r_41 = 0 → K 0 F_41 L_41) ∧ (¬ r_41 = 0 → wp_X2_emit F_41 L_41 r_11 0 (fun r_50 F_50 L_50 => ((r_50 = 0 → K 0 F_50 L_50) ∧ (¬ r_50 = 0 → K 1 F_50 L_50)))))))) ∧ (¬ r_11 ≤ 23 → K 0 F_2 L_2)))))) ∧ (r_2 = 0 → K 0 F_2 L_2)))
def wj_X2_sum_37 (G : Nat → M2 → L2 → Int32 → (Int32 → M2 → L2 → Prop) → Prop) (C8 : M2 → L2 → Int32 → Int32 → Int32 → Prop) (K : Int32 → M2 → L2 → Prop) (F : M2) (L : L2) (v1 : Int32) (v3 : Int32) : Prop := wp_X2_peek F L (fun r_38 => (∀ F_50 : M2, F_50 = up2 F 66 (fun _ => (F 66 0) + 1) → G 5 F_50 L v1 (fun r_55 F_55 L_55 => ((r_55 = 0 → (∀ v3_77 : Int32, v3_77 = v3 + 1 → C8 F_55 L_55 v1 0 v3_77)) ∧ (¬ r_55 = 0 → wp_X2_emit F_55 L_55 r_38 0 (fun r_65 F_65 L_65 => ((r_65 = 0 → (∀ v3_77 : Int32, v3_77 = v3 + 1 → C8 F_65 L_65 v1 0 v3_77)) ∧ (¬ r_65 = 0 → (∀ v3_77 : Int32, v3_77 = v3 + 1 → C8 F_65 L_65 v1 1 v3_77)))))))))
def wl_X2_sum_8 (G : Nat → M2 → L2 → Int32 → (Int32 → M2 → L2 → Prop) → Prop) (K : Int32 → M2 → L2 → Prop) : Nat → M2 → L2 → Int32 → Int32 → Int32 → Prop
  | 0, _, _, _, _, _ => False
  | n + 1, F, L, v1, v2, v3 => ((400 ≤ v3 → (zb v2 ∧ K v2 F L)) ∧ (¬ 400 ≤ v3 → ((v2 = 0 → (zb v2 ∧ K v2 F L)) ∧ (¬ v2 = 0 → wp_X2_peek F L (fun r_20 => ((r_20 = 15 → wj_X2_sum_37 G (wl_X2_sum_8 G K n) K F L v1 v3) ∧ (¬ r_20 = 15 → wp_X2_peek F L (fun r_29 => ((¬ r_29 = 16 → (zb v2 ∧ K v2 F L)) ∧ (r_29 = 16 → wj_X2_sum_37 G (wl_X2_sum_8 G K n) K F L v1 v3))))))))))
def wp_X2_sum (G : Nat → M2 → L2 → Int32 → (Int32 → M2 → L2 → Prop) → Prop) (F : M2) (L : L2) (x1 : Int32) (K : Int32 → M2 → L2 → Prop) : Prop := G 5 F L x1 (fun r_2 F_2 L_2 => wl_X2_sum_8 G K fK F_2 L_2 x1 r_2 0)
def wj_X2_product_37 (G : Nat → M2 → L2 → Int32 → (Int32 → M2 → L2 → Prop) → Prop) (C8 : M2 → L2 → Int32 → Int32 → Int32 → Prop) (K : Int32 → M2 → L2 → Prop) (F : M2) (L : L2) (v1 : Int32) (v3 : Int32) : Prop := wp_X2_peek F L (fun r_38 => (∀ F_50 : M2, F_50 = up2 F 66 (fun _ => (F 66 0) + 1) → G 6 F_50 L v1 (fun r_55 F_55 L_55 => ((r_55 = 0 → (∀ v3_77 : Int32, v3_77 = v3 + 1 → C8 F_55 L_55 v1 0 v3_77)) ∧ (¬ r_55 = 0 → wp_X2_emit F_55 L_55 r_38 0 (fun r_65 F_65 L_65 => ((r_65 = 0 → (∀ v3_77 : Int32, v3_77 = v3 + 1 → C8 F_65 L_65 v1 0 v3_77)) ∧ (¬ r_65 = 0 → (∀ v3_77 : Int32, v3_77 = v3 + 1 → C8 F_65 L_65 v1 1 v3_77)))))))))
def wl_X2_product_8 (G : Nat → M2 → L2 → Int32 → (Int32 → M2 → L2 → Prop) → Prop) (K : Int32 → M2 → L2 → Prop) : Nat → M2 → L2 → Int32 → Int32 → Int32 → Prop
  | 0, _, _, _, _, _ => False
  | n + 1, F, L, v1, v2, v3 => ((400 ≤ v3 → (zb v2 ∧ K v2 F L)) ∧ (¬ 400 ≤ v3 → ((v2 = 0 → (zb v2 ∧ K v2 F L)) ∧ (¬ v2 = 0 → wp_X2_peek F L (fun r_20 => ((r_20 = 17 → wj_X2_product_37 G (wl_X2_product_8 G K n) K F L v1 v3) ∧ (¬ r_20 = 17 → wp_X2_peek F L (fun r_29 => ((¬ r_29 = 18 → (zb v2 ∧ K v2 F L)) ∧ (r_29 = 18 → wj_X2_product_37 G (wl_X2_product_8 G K n) K F L v1 v3))))))))))
def wp_X2_product (G : Nat → M2 → L2 → Int32 → (Int32 → M2 → L2 → Prop) → Prop) (F : M2) (L : L2) (x1 : Int32) (K : Int32 → M2 → L2 → Prop) : Prop := G 6 F L x1 (fun r_2 F_2 L_2 => wl_X2_product_8 G K fK F_2 L_2 x1 r_2 0)
def wp_X2_value (G : Nat → M2 → L2 → Int32 → (Int32 → M2 → L2 → Prop) → Prop) (F : M2) (L : L2) (x1 : Int32) (K : Int32 → M2 → L2 → Prop) : Prop := wp_X2_peek F L (fun r_1 => ((r_1 = 4 → (∀ F_127 : M2, F_127 = up2 F 66 (fun _ => (F 66 0) + 1) → wp_X2_number F_127 L ((F_127 66 0) - 1) (fun r_139 => wp_X2_emit F_127 L 4 r_139 (fun r_142 F_142 L_142 => (zb r_142 ∧ K r_142 F_142 L_142))))) ∧ (r_1 = 5 → (∀ F_153 : M2, F_153 = up2 F 66 (fun _ => (F 66 0) + 1) → wp_X2_emit F_153 L r_1 0 (fun r_159 F_159 L_159 => (zb r_159 ∧ K r_159 F_159 L_159)))) ∧ (r_1 = 6 → (∀ F_153 : M2, F_153 = up2 F 66 (fun _ => (F 66 0) + 1) → wp_X2_emit F_153 L r_1 0 (fun r_159 F_159 L_159 => (zb r_159 ∧ K r_159 F_159 L_159)))) ∧ (r_1 = 7 → (∀ F_170 : M2, F_170 = up2 F 66 (fun _ => (F 66 0) + 1) → wp_X2_take F_170 L 3 (fun r_175 F_175 L_175 => ((r_175 = 0 → K 0 F_175 L_175) ∧ (¬ r_175 = 0 → wp_X2_number F_175 L_175 ((F_175 66 0) - 1) (fun r_191 => wp_X2_emit F_175 L_175 7 r_191 (fun r_194 F_194 L_194 => ((r_194 = 0 → K 0 F_194 L_194) ∧ (¬ r_194 = 0 → K 1 F_194 L_194))))))))) ∧ (r_1 = 8 → wp_X2_ofOne_nL F L 8 (F 23 0) (fun r_220 F_220 L_220 => (zb r_220 ∧ K r_220 F_220 L_220))) ∧ (r_1 = 9 → wp_X2_ofOne_nO F L 9 (F 24 0) (fun r_238 F_238 L_238 => (zb r_238 ∧ K r_238 F_238 L_238))) ∧ (r_1 = 12 → (∀ F_249 : M2, F_249 = up2 F 66 (fun _ => (F 66 0) + 1) → G 7 F_249 L x1 (fun r_254 F_254 L_254 => ((r_254 = 0 → K 0 F_254 L_254) ∧ (¬ r_254 = 0 → wp_X2_emit F_254 L_254 12 0 (fun r_264 F_264 L_264 => ((r_264 = 0 → K 0 F_264 L_264) ∧ (¬ r_264 = 0 → K 1 F_264 L_264)))))))) ∧ (r_1 = 16 → wp_X2_takeDeeper F L 16 x1 (fun r_280 F_280 L_280 => ((r_280 = 0 → K 0 F_280 L_280) ∧ (¬ r_280 = 0 → G 6 F_280 L_280 (x1 + 1) (fun r_290 F_290 L_290 => ((r_290 = 0 → K 0 F_290 L_290) ∧ (¬ r_290 = 0 → wp_X2_emit F_290 L_290 14 0 (fun r_300 F_300 L_300 => ((r_300 = 0 → K 0 F_300 L_300) ∧ (¬ r_300 = 0 → K 1 F_300 L_300)))))))))) ∧ (r_1 = 26 → (∀ F_325 : M2, F_325 = up2 F 66 (fun _ => (F 66 0) + 1) → G 8 F_325 L x1 (fun r_330 F_330 L_330 => ((r_330 = 0 → K 0 F_330 L_330) ∧ (¬ r_330 = 0 → wp_X2_emit F_330 L_330 r_1 0 (fun r_339 F_339 L_339 => ((r_339 = 0 → K 0 F_339 L_339) ∧ (¬ r_339 = 0 → K 1 F_339 L_339)))))))) ∧ (r_1 = 27 → (∀ F_325 : M2, F_325 = up2 F 66 (fun _ => (F 66 0) + 1) → G 8 F_325 L x1 (fun r_330 F_330 L_330 => ((r_330 = 0 → K 0 F_330 L_330) ∧ (¬ r_330 = 0 → wp_X2_emit F_330 L_330 r_1 0 (fun r_339 F_339 L_339 => ((r_339 = 0 → K 0 F_339 L_339) ∧ (¬ r_339 = 0 → K 1 F_339 L_339)))))))) ∧ (r_1 = 28 → G 7 F L x1 (fun r_314 F_314 L_314 => (zb r_314 ∧ K r_314 F_314 L_314))) ∧ (¬ r_1 = 4 → ¬ r_1 = 5 → ¬ r_1 = 6 → ¬ r_1 = 7 → ¬ r_1 = 8 → ¬ r_1 = 9 → ¬ r_1 = 12 → ¬ r_1 = 16 → ¬ r_1 = 26 → ¬ r_1 = 27 → ¬ r_1 = 28 → K 0 F L)))
def wp_X2_inBrackets (G : Nat → M2 → L2 → Int32 → (Int32 → M2 → L2 → Prop) → Prop) (F : M2) (L : L2) (x1 : Int32) (K : Int32 → M2 → L2 → Prop) : Prop := wp_X2_takeDeeper F L 28 x1 (fun r_4 F_4 L_4 => ((r_4 = 0 → K 0 F_4 L_4) ∧ (¬ r_4 = 0 → G 4 F_4 L_4 (x1 + 1) (fun r_14 F_14 L_14 => ((r_14 = 0 → K 0 F_14 L_14) ∧ (¬ r_14 = 0 → wp_X2_take F_14 L_14 29 (fun r_23 F_23 L_23 => ((r_23 = 0 → K 0 F_23 L_23) ∧ (¬ r_23 = 0 → K 1 F_23 L_23)))))))))
def wp_X2_ofTwo (G : Nat → M2 → L2 → Int32 → (Int32 → M2 → L2 → Prop) → Prop) (F : M2) (L : L2) (x1 : Int32) (K : Int32 → M2 → L2 → Prop) : Prop := wp_X2_takeDeeper F L 28 x1 (fun r_4 F_4 L_4 => ((r_4 = 0 → K 0 F_4 L_4) ∧ (¬ r_4 = 0 → G 4 F_4 L_4 (x1 + 1) (fun r_14 F_14 L_14 => ((r_14 = 0 → K 0 F_14 L_14) ∧ (¬ r_14 = 0 → wp_X2_take F_14 L_14 33 (fun r_23 F_23 L_23 => ((r_23 = 0 → K 0 F_23 L_23) ∧ (¬ r_23 = 0 → G 4 F_23 L_23 (x1 + 1) (fun r_33 F_33 L_33 => ((r_33 = 0 → K 0 F_33 L_33) ∧ (¬ r_33 = 0 → wp_X2_take F_33 L_33 29 (fun r_42 F_42 L_42 => ((r_42 = 0 → K 0 F_42 L_42) ∧ (¬ r_42 = 0 → K 1 F_42 L_42)))))))))))))))
def gX2 : Nat → Nat → M2 → L2 → Int32 → (Int32 → M2 → L2 → Prop) → Prop
  | 0, _, _, _, _, _ => False
  | d + 1, i, F, L, y0, K => if i = 0 then wp_X2_test (gX2 d) F L y0 K else if i = 1 then wp_X2_both (gX2 d) F L y0 K else if i = 2 then wp_X2_single (gX2 d) F L y0 K else if i = 3 then wp_X2_comparison (gX2 d) F L y0 K else if i = 4 then wp_X2_sum (gX2 d) F L y0 K else if i = 5 then wp_X2_product (gX2 d) F L y0 K else if i = 6 then wp_X2_value (gX2 d) F L y0 K else if i = 7 then wp_X2_inBrackets (gX2 d) F L y0 K else wp_X2_ofTwo (gX2 d) F L y0 K
def gX2_IH (d : Nat) : Prop := (∀ (l : Launch) (D : va_G) (Z : Nat → ClassId) (a q : Nat → Nat) (F : M2) (L : L2) (sz : Nat) (x1 : Int32) (K : Int32 → M2 → L2 → Prop), gX2 d 0 F L x1 K → Met l yX2_test (wy yX2_test cX2_test 4 (some .boolean)) (rk (9 + d) 0 0) (pre vwCl D Z (KW Z a q (q 20) F L) sz [.ref (a 60), .int x1]) (poI vwCl D Z (fun u : M2 × L2 => KW Z a q (q 20) u.1 u.2) (F, L) sz (fun (r : Int32) (u : M2 × L2) => K r u.1 u.2)) 0 0 (va_A (KW Z a q (q 20) F L) sz)) ∧ (∀ (l : Launch) (D : va_G) (Z : Nat → ClassId) (a q : Nat → Nat) (F : M2) (L : L2) (sz : Nat) (x1 : Int32) (K : Int32 → M2 → L2 → Prop), gX2 d 1 F L x1 K → Met l yX2_both (wy yX2_both cX2_both 4 (some .boolean)) (rk (9 + d) 0 0) (pre vwCl D Z (KW Z a q (q 20) F L) sz [.ref (a 60), .int x1]) (poI vwCl D Z (fun u : M2 × L2 => KW Z a q (q 20) u.1 u.2) (F, L) sz (fun (r : Int32) (u : M2 × L2) => K r u.1 u.2)) 0 0 (va_A (KW Z a q (q 20) F L) sz)) ∧ (∀ (l : Launch) (D : va_G) (Z : Nat → ClassId) (a q : Nat → Nat) (F : M2) (L : L2) (sz : Nat) (x1 : Int32) (K : Int32 → M2 → L2 → Prop), gX2 d 2 F L x1 K → Met l yX2_single (wy yX2_single cX2_single 2 (some .boolean)) (rk (9 + d) 0 0) (pre vwCl D Z (KW Z a q (q 20) F L) sz [.ref (a 60), .int x1]) (poI vwCl D Z (fun u : M2 × L2 => KW Z a q (q 20) u.1 u.2) (F, L) sz (fun (r : Int32) (u : M2 × L2) => K r u.1 u.2)) 0 0 (va_A (KW Z a q (q 20) F L) sz)) ∧ (∀ (l : Launch) (D : va_G) (Z : Nat → ClassId) (a q : Nat → Nat) (F : M2) (L : L2) (sz : Nat) (x1 : Int32) (K : Int32 → M2 → L2 → Prop), gX2 d 3 F L x1 K → Met l yX2_comparison (wy yX2_comparison cX2_comparison 3 (some .boolean)) (rk (9 + d) 0 0) (pre vwCl D Z (KW Z a q (q 20) F L) sz [.ref (a 60), .int x1]) (poI vwCl D Z (fun u : M2 × L2 => KW Z a q (q 20) u.1 u.2) (F, L) sz (fun (r : Int32) (u : M2 × L2) => K r u.1 u.2)) 0 0 (va_A (KW Z a q (q 20) F L) sz)) ∧ (∀ (l : Launch) (D : va_G) (Z : Nat → ClassId) (a q : Nat → Nat) (F : M2) (L : L2) (sz : Nat) (x1 : Int32) (K : Int32 → M2 → L2 → Prop), gX2 d 4 F L x1 K → Met l yX2_sum (wy yX2_sum cX2_sum 5 (some .boolean)) (rk (9 + d) 0 0) (pre vwCl D Z (KW Z a q (q 20) F L) sz [.ref (a 60), .int x1]) (poI vwCl D Z (fun u : M2 × L2 => KW Z a q (q 20) u.1 u.2) (F, L) sz (fun (r : Int32) (u : M2 × L2) => K r u.1 u.2)) 0 0 (va_A (KW Z a q (q 20) F L) sz)) ∧ (∀ (l : Launch) (D : va_G) (Z : Nat → ClassId) (a q : Nat → Nat) (F : M2) (L : L2) (sz : Nat) (x1 : Int32) (K : Int32 → M2 → L2 → Prop), gX2 d 5 F L x1 K → Met l yX2_product (wy yX2_product cX2_product 5 (some .boolean)) (rk (9 + d) 0 0) (pre vwCl D Z (KW Z a q (q 20) F L) sz [.ref (a 60), .int x1]) (poI vwCl D Z (fun u : M2 × L2 => KW Z a q (q 20) u.1 u.2) (F, L) sz (fun (r : Int32) (u : M2 × L2) => K r u.1 u.2)) 0 0 (va_A (KW Z a q (q 20) F L) sz)) ∧ (∀ (l : Launch) (D : va_G) (Z : Nat → ClassId) (a q : Nat → Nat) (F : M2) (L : L2) (sz : Nat) (x1 : Int32) (K : Int32 → M2 → L2 → Prop), gX2 d 6 F L x1 K → Met l yX2_value (wy yX2_value cX2_value 3 (some .boolean)) (rk (9 + d) 0 0) (pre vwCl D Z (KW Z a q (q 20) F L) sz [.ref (a 60), .int x1]) (poI vwCl D Z (fun u : M2 × L2 => KW Z a q (q 20) u.1 u.2) (F, L) sz (fun (r : Int32) (u : M2 × L2) => K r u.1 u.2)) 0 0 (va_A (KW Z a q (q 20) F L) sz)) ∧ (∀ (l : Launch) (D : va_G) (Z : Nat → ClassId) (a q : Nat → Nat) (F : M2) (L : L2) (sz : Nat) (x1 : Int32) (K : Int32 → M2 → L2 → Prop), gX2 d 7 F L x1 K → Met l yX2_inBrackets (wy yX2_inBrackets cX2_inBrackets 2 (some .boolean)) (rk (9 + d) 0 0) (pre vwCl D Z (KW Z a q (q 20) F L) sz [.ref (a 60), .int x1]) (poI vwCl D Z (fun u : M2 × L2 => KW Z a q (q 20) u.1 u.2) (F, L) sz (fun (r : Int32) (u : M2 × L2) => K r u.1 u.2)) 0 0 (va_A (KW Z a q (q 20) F L) sz)) ∧ (∀ (l : Launch) (D : va_G) (Z : Nat → ClassId) (a q : Nat → Nat) (F : M2) (L : L2) (sz : Nat) (x1 : Int32) (K : Int32 → M2 → L2 → Prop), gX2 d 8 F L x1 K → Met l yX2_ofTwo (wy yX2_ofTwo cX2_ofTwo 2 (some .boolean)) (rk (9 + d) 0 0) (pre vwCl D Z (KW Z a q (q 20) F L) sz [.ref (a 60), .int x1]) (poI vwCl D Z (fun u : M2 × L2 => KW Z a q (q 20) u.1 u.2) (F, L) sz (fun (r : Int32) (u : M2 × L2) => K r u.1 u.2)) 0 0 (va_A (KW Z a q (q 20) F L) sz))
section GgX2
variable {p : Program} {l : Launch} {e : Env} {s : State} {m : MethodId} {args : Array Value} {below : List Frame} {meth : Method} {c : Code} {H H0 : Heap} {locs : List Loc} {cells slots : Nat} {Q : State → Prop} {R : Room} {rn mcR msR : Nat}
variable {pc : Nat} {ls : Array Slot} {rest : List Value} {A : Nat → Prop} {D : va_G}
variable {cc : ByteArray} {nL index : Nat} {own host : String}
theorem kg_X2_test {d : Nat} (IH : gX2_IH d) {Z : Nat → ClassId} {a q : Nat → Nat} {F : M2} {L : L2} {x1 : Int32} {K : Int32 → M2 → L2 → Prop} (hC : CallFix p m c cc nL s args lw_g own) (hN : NW s) (hK : va_K D vwCl (tysG Z) s) (hT : TS vwCl D (KW Z a q (q 20) F L) A H0 H locs) (hm : gX2 d 0 F L x1 K) (hl : Cond.methodLink own index yX2_test ∈ lw_g) (hlt : 9 + d < rn) (hsize : ls.size = nL) (hW : (rest.map fun v => v.category).sum ≤ 8) (hf : cells + 0 ≤ mcR ∧ slots + 0 ≤ msR) (hdg : decode cc pc = .ok (.invokevirtual index, 3)) (kk : ∀ (r : Int32) (F1 : M2) (L1 : L2) (H1 : Heap) (locs1 : List Loc), K r F1 L1 → TS vwCl D (KW Z a q (q 20) F1 L1) A H0 H1 locs1 → W p l e (rk rn mcR msR) s m args below meth c H1 locs1 cells slots Q (F0 m (pc + 3) ls (.int r :: rest))) : W p l e (rk rn mcR msR) s m args below meth c H locs cells slots Q (F0 m pc ls (.int x1 :: .ref (a 60) :: rest)) :=
  rw_go (wsF := (fun u : M2 × L2 => KW Z a q (q 20) u.1 u.2)) (u0 := (F, L)) (wr := []) (isC := cutKW) (isR := []) (pm := cutKW) (ws' := (fun u : M2 × L2 => KW Z a q (q 20) u.1 u.2)) (runV (As := [.int x1]) hC hN (IH.1 l D Z a q F L H.size x1 K hm) mi_X2_test hl wq_1090 wq_51 hlt hT.1 hT.D' hK (q0 := 0) rfl rfl rfl hsize rfl hW hdg hf) (cutOkKW Z a q (q 20) F L) hT (fun r u H1 locs1 hk hT1 => kk r u.1 u.2 H1 locs1 hk hT1)
theorem kg_X2_both {d : Nat} (IH : gX2_IH d) {Z : Nat → ClassId} {a q : Nat → Nat} {F : M2} {L : L2} {x1 : Int32} {K : Int32 → M2 → L2 → Prop} (hC : CallFix p m c cc nL s args lw_g own) (hN : NW s) (hK : va_K D vwCl (tysG Z) s) (hT : TS vwCl D (KW Z a q (q 20) F L) A H0 H locs) (hm : gX2 d 1 F L x1 K) (hl : Cond.methodLink own index yX2_both ∈ lw_g) (hlt : 9 + d < rn) (hsize : ls.size = nL) (hW : (rest.map fun v => v.category).sum ≤ 8) (hf : cells + 0 ≤ mcR ∧ slots + 0 ≤ msR) (hdg : decode cc pc = .ok (.invokevirtual index, 3)) (kk : ∀ (r : Int32) (F1 : M2) (L1 : L2) (H1 : Heap) (locs1 : List Loc), K r F1 L1 → TS vwCl D (KW Z a q (q 20) F1 L1) A H0 H1 locs1 → W p l e (rk rn mcR msR) s m args below meth c H1 locs1 cells slots Q (F0 m (pc + 3) ls (.int r :: rest))) : W p l e (rk rn mcR msR) s m args below meth c H locs cells slots Q (F0 m pc ls (.int x1 :: .ref (a 60) :: rest)) :=
  rw_go (wsF := (fun u : M2 × L2 => KW Z a q (q 20) u.1 u.2)) (u0 := (F, L)) (wr := []) (isC := cutKW) (isR := []) (pm := cutKW) (ws' := (fun u : M2 × L2 => KW Z a q (q 20) u.1 u.2)) (runV (As := [.int x1]) hC hN (IH.2.1 l D Z a q F L H.size x1 K hm) mi_X2_both hl wq_1094 wq_52 hlt hT.1 hT.D' hK (q0 := 0) rfl rfl rfl hsize rfl hW hdg hf) (cutOkKW Z a q (q 20) F L) hT (fun r u H1 locs1 hk hT1 => kk r u.1 u.2 H1 locs1 hk hT1)
theorem kg_X2_single {d : Nat} (IH : gX2_IH d) {Z : Nat → ClassId} {a q : Nat → Nat} {F : M2} {L : L2} {x1 : Int32} {K : Int32 → M2 → L2 → Prop} (hC : CallFix p m c cc nL s args lw_g own) (hN : NW s) (hK : va_K D vwCl (tysG Z) s) (hT : TS vwCl D (KW Z a q (q 20) F L) A H0 H locs) (hm : gX2 d 2 F L x1 K) (hl : Cond.methodLink own index yX2_single ∈ lw_g) (hlt : 9 + d < rn) (hsize : ls.size = nL) (hW : (rest.map fun v => v.category).sum ≤ 8) (hf : cells + 0 ≤ mcR ∧ slots + 0 ≤ msR) (hdg : decode cc pc = .ok (.invokevirtual index, 3)) (kk : ∀ (r : Int32) (F1 : M2) (L1 : L2) (H1 : Heap) (locs1 : List Loc), K r F1 L1 → TS vwCl D (KW Z a q (q 20) F1 L1) A H0 H1 locs1 → W p l e (rk rn mcR msR) s m args below meth c H1 locs1 cells slots Q (F0 m (pc + 3) ls (.int r :: rest))) : W p l e (rk rn mcR msR) s m args below meth c H locs cells slots Q (F0 m pc ls (.int x1 :: .ref (a 60) :: rest)) :=
  rw_go (wsF := (fun u : M2 × L2 => KW Z a q (q 20) u.1 u.2)) (u0 := (F, L)) (wr := []) (isC := cutKW) (isR := []) (pm := cutKW) (ws' := (fun u : M2 × L2 => KW Z a q (q 20) u.1 u.2)) (runV (As := [.int x1]) hC hN (IH.2.2.1 l D Z a q F L H.size x1 K hm) mi_X2_single hl wq_1098 wq_53 hlt hT.1 hT.D' hK (q0 := 0) rfl rfl rfl hsize rfl hW hdg hf) (cutOkKW Z a q (q 20) F L) hT (fun r u H1 locs1 hk hT1 => kk r u.1 u.2 H1 locs1 hk hT1)
theorem kg_X2_comparison {d : Nat} (IH : gX2_IH d) {Z : Nat → ClassId} {a q : Nat → Nat} {F : M2} {L : L2} {x1 : Int32} {K : Int32 → M2 → L2 → Prop} (hC : CallFix p m c cc nL s args lw_g own) (hN : NW s) (hK : va_K D vwCl (tysG Z) s) (hT : TS vwCl D (KW Z a q (q 20) F L) A H0 H locs) (hm : gX2 d 3 F L x1 K) (hl : Cond.methodLink own index yX2_comparison ∈ lw_g) (hlt : 9 + d < rn) (hsize : ls.size = nL) (hW : (rest.map fun v => v.category).sum ≤ 8) (hf : cells + 0 ≤ mcR ∧ slots + 0 ≤ msR) (hdg : decode cc pc = .ok (.invokevirtual index, 3)) (kk : ∀ (r : Int32) (F1 : M2) (L1 : L2) (H1 : Heap) (locs1 : List Loc), K r F1 L1 → TS vwCl D (KW Z a q (q 20) F1 L1) A H0 H1 locs1 → W p l e (rk rn mcR msR) s m args below meth c H1 locs1 cells slots Q (F0 m (pc + 3) ls (.int r :: rest))) : W p l e (rk rn mcR msR) s m args below meth c H locs cells slots Q (F0 m pc ls (.int x1 :: .ref (a 60) :: rest)) :=
  rw_go (wsF := (fun u : M2 × L2 => KW Z a q (q 20) u.1 u.2)) (u0 := (F, L)) (wr := []) (isC := cutKW) (isR := []) (pm := cutKW) (ws' := (fun u : M2 × L2 => KW Z a q (q 20) u.1 u.2)) (runV (As := [.int x1]) hC hN (IH.2.2.2.1 l D Z a q F L H.size x1 K hm) mi_X2_comparison hl wq_1119 wq_57 hlt hT.1 hT.D' hK (q0 := 0) rfl rfl rfl hsize rfl hW hdg hf) (cutOkKW Z a q (q 20) F L) hT (fun r u H1 locs1 hk hT1 => kk r u.1 u.2 H1 locs1 hk hT1)
theorem kg_X2_sum {d : Nat} (IH : gX2_IH d) {Z : Nat → ClassId} {a q : Nat → Nat} {F : M2} {L : L2} {x1 : Int32} {K : Int32 → M2 → L2 → Prop} (hC : CallFix p m c cc nL s args lw_g own) (hN : NW s) (hK : va_K D vwCl (tysG Z) s) (hT : TS vwCl D (KW Z a q (q 20) F L) A H0 H locs) (hm : gX2 d 4 F L x1 K) (hl : Cond.methodLink own index yX2_sum ∈ lw_g) (hlt : 9 + d < rn) (hsize : ls.size = nL) (hW : (rest.map fun v => v.category).sum ≤ 8) (hf : cells + 0 ≤ mcR ∧ slots + 0 ≤ msR) (hdg : decode cc pc = .ok (.invokevirtual index, 3)) (kk : ∀ (r : Int32) (F1 : M2) (L1 : L2) (H1 : Heap) (locs1 : List Loc), K r F1 L1 → TS vwCl D (KW Z a q (q 20) F1 L1) A H0 H1 locs1 → W p l e (rk rn mcR msR) s m args below meth c H1 locs1 cells slots Q (F0 m (pc + 3) ls (.int r :: rest))) : W p l e (rk rn mcR msR) s m args below meth c H locs cells slots Q (F0 m pc ls (.int x1 :: .ref (a 60) :: rest)) :=
  rw_go (wsF := (fun u : M2 × L2 => KW Z a q (q 20) u.1 u.2)) (u0 := (F, L)) (wr := []) (isC := cutKW) (isR := []) (pm := cutKW) (ws' := (fun u : M2 × L2 => KW Z a q (q 20) u.1 u.2)) (runV (As := [.int x1]) hC hN (IH.2.2.2.2.1 l D Z a q F L H.size x1 K hm) mi_X2_sum hl wq_1123 wq_58 hlt hT.1 hT.D' hK (q0 := 0) rfl rfl rfl hsize rfl hW hdg hf) (cutOkKW Z a q (q 20) F L) hT (fun r u H1 locs1 hk hT1 => kk r u.1 u.2 H1 locs1 hk hT1)
theorem kg_X2_product {d : Nat} (IH : gX2_IH d) {Z : Nat → ClassId} {a q : Nat → Nat} {F : M2} {L : L2} {x1 : Int32} {K : Int32 → M2 → L2 → Prop} (hC : CallFix p m c cc nL s args lw_g own) (hN : NW s) (hK : va_K D vwCl (tysG Z) s) (hT : TS vwCl D (KW Z a q (q 20) F L) A H0 H locs) (hm : gX2 d 5 F L x1 K) (hl : Cond.methodLink own index yX2_product ∈ lw_g) (hlt : 9 + d < rn) (hsize : ls.size = nL) (hW : (rest.map fun v => v.category).sum ≤ 8) (hf : cells + 0 ≤ mcR ∧ slots + 0 ≤ msR) (hdg : decode cc pc = .ok (.invokevirtual index, 3)) (kk : ∀ (r : Int32) (F1 : M2) (L1 : L2) (H1 : Heap) (locs1 : List Loc), K r F1 L1 → TS vwCl D (KW Z a q (q 20) F1 L1) A H0 H1 locs1 → W p l e (rk rn mcR msR) s m args below meth c H1 locs1 cells slots Q (F0 m (pc + 3) ls (.int r :: rest))) : W p l e (rk rn mcR msR) s m args below meth c H locs cells slots Q (F0 m pc ls (.int x1 :: .ref (a 60) :: rest)) :=
  rw_go (wsF := (fun u : M2 × L2 => KW Z a q (q 20) u.1 u.2)) (u0 := (F, L)) (wr := []) (isC := cutKW) (isR := []) (pm := cutKW) (ws' := (fun u : M2 × L2 => KW Z a q (q 20) u.1 u.2)) (runV (As := [.int x1]) hC hN (IH.2.2.2.2.2.1 l D Z a q F L H.size x1 K hm) mi_X2_product hl wq_1127 wq_59 hlt hT.1 hT.D' hK (q0 := 0) rfl rfl rfl hsize rfl hW hdg hf) (cutOkKW Z a q (q 20) F L) hT (fun r u H1 locs1 hk hT1 => kk r u.1 u.2 H1 locs1 hk hT1)
theorem kg_X2_value {d : Nat} (IH : gX2_IH d) {Z : Nat → ClassId} {a q : Nat → Nat} {F : M2} {L : L2} {x1 : Int32} {K : Int32 → M2 → L2 → Prop} (hC : CallFix p m c cc nL s args lw_g own) (hN : NW s) (hK : va_K D vwCl (tysG Z) s) (hT : TS vwCl D (KW Z a q (q 20) F L) A H0 H locs) (hm : gX2 d 6 F L x1 K) (hl : Cond.methodLink own index yX2_value ∈ lw_g) (hlt : 9 + d < rn) (hsize : ls.size = nL) (hW : (rest.map fun v => v.category).sum ≤ 8) (hf : cells + 0 ≤ mcR ∧ slots + 0 ≤ msR) (hdg : decode cc pc = .ok (.invokevirtual index, 3)) (kk : ∀ (r : Int32) (F1 : M2) (L1 : L2) (H1 : Heap) (locs1 : List Loc), K r F1 L1 → TS vwCl D (KW Z a q (q 20) F1 L1) A H0 H1 locs1 → W p l e (rk rn mcR msR) s m args below meth c H1 locs1 cells slots Q (F0 m (pc + 3) ls (.int r :: rest))) : W p l e (rk rn mcR msR) s m args below meth c H locs cells slots Q (F0 m pc ls (.int x1 :: .ref (a 60) :: rest)) :=
  rw_go (wsF := (fun u : M2 × L2 => KW Z a q (q 20) u.1 u.2)) (u0 := (F, L)) (wr := []) (isC := cutKW) (isR := []) (pm := cutKW) (ws' := (fun u : M2 × L2 => KW Z a q (q 20) u.1 u.2)) (runV (As := [.int x1]) hC hN (IH.2.2.2.2.2.2.1 l D Z a q F L H.size x1 K hm) mi_X2_value hl wq_1131 wq_60 hlt hT.1 hT.D' hK (q0 := 0) rfl rfl rfl hsize rfl hW hdg hf) (cutOkKW Z a q (q 20) F L) hT (fun r u H1 locs1 hk hT1 => kk r u.1 u.2 H1 locs1 hk hT1)
theorem kg_X2_inBrackets {d : Nat} (IH : gX2_IH d) {Z : Nat → ClassId} {a q : Nat → Nat} {F : M2} {L : L2} {x1 : Int32} {K : Int32 → M2 → L2 → Prop} (hC : CallFix p m c cc nL s args lw_g own) (hN : NW s) (hK : va_K D vwCl (tysG Z) s) (hT : TS vwCl D (KW Z a q (q 20) F L) A H0 H locs) (hm : gX2 d 7 F L x1 K) (hl : Cond.methodLink own index yX2_inBrackets ∈ lw_g) (hlt : 9 + d < rn) (hsize : ls.size = nL) (hW : (rest.map fun v => v.category).sum ≤ 8) (hf : cells + 0 ≤ mcR ∧ slots + 0 ≤ msR) (hdg : decode cc pc = .ok (.invokevirtual index, 3)) (kk : ∀ (r : Int32) (F1 : M2) (L1 : L2) (H1 : Heap) (locs1 : List Loc), K r F1 L1 → TS vwCl D (KW Z a q (q 20) F1 L1) A H0 H1 locs1 → W p l e (rk rn mcR msR) s m args below meth c H1 locs1 cells slots Q (F0 m (pc + 3) ls (.int r :: rest))) : W p l e (rk rn mcR msR) s m args below meth c H locs cells slots Q (F0 m pc ls (.int x1 :: .ref (a 60) :: rest)) :=
  rw_go (wsF := (fun u : M2 × L2 => KW Z a q (q 20) u.1 u.2)) (u0 := (F, L)) (wr := []) (isC := cutKW) (isR := []) (pm := cutKW) (ws' := (fun u : M2 × L2 => KW Z a q (q 20) u.1 u.2)) (runV (As := [.int x1]) hC hN (IH.2.2.2.2.2.2.2.1 l D Z a q F L H.size x1 K hm) mi_X2_inBrackets hl wq_1135 wq_61 hlt hT.1 hT.D' hK (q0 := 0) rfl rfl rfl hsize rfl hW hdg hf) (cutOkKW Z a q (q 20) F L) hT (fun r u H1 locs1 hk hT1 => kk r u.1 u.2 H1 locs1 hk hT1)
theorem kg_X2_ofTwo {d : Nat} (IH : gX2_IH d) {Z : Nat → ClassId} {a q : Nat → Nat} {F : M2} {L : L2} {x1 : Int32} {K : Int32 → M2 → L2 → Prop} (hC : CallFix p m c cc nL s args lw_g own) (hN : NW s) (hK : va_K D vwCl (tysG Z) s) (hT : TS vwCl D (KW Z a q (q 20) F L) A H0 H locs) (hm : gX2 d 8 F L x1 K) (hl : Cond.methodLink own index yX2_ofTwo ∈ lw_g) (hlt : 9 + d < rn) (hsize : ls.size = nL) (hW : (rest.map fun v => v.category).sum ≤ 8) (hf : cells + 0 ≤ mcR ∧ slots + 0 ≤ msR) (hdg : decode cc pc = .ok (.invokevirtual index, 3)) (kk : ∀ (r : Int32) (F1 : M2) (L1 : L2) (H1 : Heap) (locs1 : List Loc), K r F1 L1 → TS vwCl D (KW Z a q (q 20) F1 L1) A H0 H1 locs1 → W p l e (rk rn mcR msR) s m args below meth c H1 locs1 cells slots Q (F0 m (pc + 3) ls (.int r :: rest))) : W p l e (rk rn mcR msR) s m args below meth c H locs cells slots Q (F0 m pc ls (.int x1 :: .ref (a 60) :: rest)) :=
  rw_go (wsF := (fun u : M2 × L2 => KW Z a q (q 20) u.1 u.2)) (u0 := (F, L)) (wr := []) (isC := cutKW) (isR := []) (pm := cutKW) (ws' := (fun u : M2 × L2 => KW Z a q (q 20) u.1 u.2)) (runV (As := [.int x1]) hC hN (IH.2.2.2.2.2.2.2.2 l D Z a q F L H.size x1 K hm) mi_X2_ofTwo hl wq_1139 wq_62 hlt hT.1 hT.D' hK (q0 := 0) rfl rfl rfl hsize rfl hW hdg hf) (cutOkKW Z a q (q 20) F L) hT (fun r u H1 locs1 hk hT1 => kk r u.1 u.2 H1 locs1 hk hT1)
end GgX2
set_option maxRecDepth 100000 in
set_option maxHeartbeats 4000000 in
theorem c_X2_test (d : Nat) (IH : gX2_IH d) (l : Launch) (D : va_G) (Z : Nat → ClassId) (a q : Nat → Nat) (F : M2) (L : L2) (sz : Nat) (x1 : Int32) (K : Int32 → M2 → L2 → Prop) (hm : wp_X2_test (gX2 d) F L x1 K) : Met l yX2_test (wy yX2_test cX2_test 4 (some .boolean)) (rk (10 + d) 0 0) (pre vwCl D Z (KW Z a q (q 20) F L) sz [.ref (a 60), .int x1]) (poI vwCl D Z (fun u : M2 × L2 => KW Z a q (q 20) u.1 u.2) (F, L) sz (fun (r : Int32) (u : M2 × L2) => K r u.1 u.2)) 0 0 (va_A (KW Z a q (q 20) F L) sz) := by
  refine rw_of (ty := .boolean) (wsF := (fun u : M2 × L2 => KW Z a q (q 20) u.1 u.2)) (u0 := (F, L)) (by decide +kernel) (Nat.le_of_ble_eq_true rfl) rfl ?_
  intro p e s m args below meth c Q A hC hN hsz hT hK hret ls hl
  have hx := hC.1
  have hb := hC.2.1
  have hl : lv_has ls 4 [(0, .ref (a 60)), (1, .int x1)] := hl
  have hT : TS vwCl D (KW Z a q (q 20) F L) A s.heap s.heap [] := hT
  have L8 : ∀ (n8 : Nat), ∀ (F : M2) (L : L2) (v1 : Int32) (v2 : Int32) (v3 : Int32) (H : Heap) (locs : List Loc) (ls : Array Slot), wl_X2_test_8 (gX2 d) K n8 F L v1 v2 v3 → TS vwCl D (KW Z a q (q 20) F L) A s.heap H locs → lv_has ls 4 [(0, .ref (a 60)), (1, .int v1), (2, .int v2), (3, .int v3)] → W p l e (rk (10 + d) 0 0) s m args below meth c H locs 0 0 Q (F0 m 8 ls []) := by
    intro n8
    induction n8 with
    | zero =>
      intro F L v1 v2 v3 H locs ls hm hT hl
      exact False.elim hm
    | succ n8 ih8 =>
      intro F L v1 v2 v3 H locs ls hm hT hl
      refine lv_iload_n hx hb dX2_test_8 rfl (lv_at hl 3 rfl) ?_
      refine lv_sipush (v := 400) hx hb dX2_test_9 (by decide) ?_
      refine lv_icmp_ge (tgt := 58) hx hb dX2_test_12 (by decide) (fun c_12 => ?_) (fun c_12 => ?_)
      · have hm := hm.1 c_12
        refine lv_iload_n hx hb dX2_test_58 rfl (lv_at hl 2 rfl) ?_
        exact hret 59 _ _ _ _ (F, L) hm.2 hT hm.1 dX2_test_59
      · have hm := hm.2 c_12
        refine lv_iload_n hx hb dX2_test_15 rfl (lv_at hl 2 rfl) ?_
        refine lv_if_eq (tgt := 58) hx hb dX2_test_16 (by decide) (fun c_16 => ?_) (fun c_16 => ?_)
        · have hm := hm.1 c_16
          refine lv_iload_n hx hb dX2_test_58 rfl (lv_at hl 2 rfl) ?_
          exact hret 59 _ _ _ _ (F, L) hm.2 hT hm.1 dX2_test_59
        · have hm := hm.2 c_16
          refine lv_aload_n hx hb dX2_test_19 rfl (lv_at hl 0 rfl) ?_
          refine lv_bipush (v := 25) hx hb dX2_test_20 (by decide) ?_
          refine k_X2_take hC hN hK hT hm wq_1018 (by omega) hl.1 (Nat.le_of_ble_eq_true rfl) ⟨Nat.le_refl _, Nat.le_refl _⟩ dX2_test_22 (fun r_22 F_22 L_22 H locs hm hT => ?_)
          refine lv_if_eq (tgt := 58) hx hb dX2_test_25 (by decide) (fun c_25 => ?_) (fun c_25 => ?_)
          · have hm := hm.1 c_25
            refine lv_iload_n hx hb dX2_test_58 rfl (lv_at hl 2 rfl) ?_
            exact hret 59 _ _ _ _ (F_22, L_22) hm.2 hT hm.1 dX2_test_59
          · have hm := hm.2 c_25
            refine lv_aload_n hx hb dX2_test_28 rfl (lv_at hl 0 rfl) ?_
            refine lv_iload_n hx hb dX2_test_29 rfl (lv_at hl 1 rfl) ?_
            refine kg_X2_both IH hC hN hK hT hm wq_1092 (by omega) hl.1 (Nat.le_of_ble_eq_true rfl) ⟨Nat.le_refl _, Nat.le_refl _⟩ dX2_test_30 (fun r_30 F_30 L_30 H locs hm hT => ?_)
            refine lv_if_eq (tgt := 50) hx hb dX2_test_33 (by decide) (fun c_33 => ?_) (fun c_33 => ?_)
            · have hm := hm.1 c_33
              refine lv_iconst (v := 0) hx hb dX2_test_50 (by decide) ?_
              refine lv_istore_n (lv' := [(2, .int 0), (0, .ref (a 60)), (1, .int v1), (3, .int v3)]) hx hb dX2_test_51 rfl hl (by decide) rfl (fun ls hl => ?_)
              obtain ⟨v3_52, ev3_52⟩ : ∃ y : Int32, y = v3 + 1 := ⟨_, rfl⟩
              have hm := hm v3_52 ev3_52
              refine lv_iinc (v := v3_52) (lv' := [(3, .int v3_52), (2, .int 0), (0, .ref (a 60)), (1, .int v1)]) hx hb dX2_test_52 hl (k := 3) rfl (by rw [ev3_52]; rfl) (by decide) rfl (fun ls hl => ?_)
              refine lv_goto (tgt := 8) hx hb dX2_test_55 (by decide) ?_
              exact ih8 _ _ _ _ _ _ _ _ hm hT (lv_sub hl [2, 3, 1, 0] rfl)
            · have hm := hm.2 c_33
              refine lv_aload_n hx hb dX2_test_36 rfl (lv_at hl 0 rfl) ?_
              refine lv_bipush (v := 25) hx hb dX2_test_37 (by decide) ?_
              refine lv_iconst (v := 0) hx hb dX2_test_39 (by decide) ?_
              refine k_X2_emit hC hN hK hT hm wq_1104 (by omega) hl.1 (Nat.le_of_ble_eq_true rfl) ⟨Nat.le_refl _, Nat.le_refl _⟩ dX2_test_40 (fun r_40 F_40 L_40 H locs hm hT => ?_)
              refine lv_if_eq (tgt := 50) hx hb dX2_test_43 (by decide) (fun c_43 => ?_) (fun c_43 => ?_)
              · have hm := hm.1 c_43
                refine lv_iconst (v := 0) hx hb dX2_test_50 (by decide) ?_
                refine lv_istore_n (lv' := [(2, .int 0), (0, .ref (a 60)), (1, .int v1), (3, .int v3)]) hx hb dX2_test_51 rfl hl (by decide) rfl (fun ls hl => ?_)
                obtain ⟨v3_52, ev3_52⟩ : ∃ y : Int32, y = v3 + 1 := ⟨_, rfl⟩
                have hm := hm v3_52 ev3_52
                refine lv_iinc (v := v3_52) (lv' := [(3, .int v3_52), (2, .int 0), (0, .ref (a 60)), (1, .int v1)]) hx hb dX2_test_52 hl (k := 3) rfl (by rw [ev3_52]; rfl) (by decide) rfl (fun ls hl => ?_)
                refine lv_goto (tgt := 8) hx hb dX2_test_55 (by decide) ?_
                exact ih8 _ _ _ _ _ _ _ _ hm hT (lv_sub hl [2, 3, 1, 0] rfl)
              · have hm := hm.2 c_43
                refine lv_iconst (v := 1) hx hb dX2_test_46 (by decide) ?_
                refine lv_goto (tgt := 51) hx hb dX2_test_47 (by decide) ?_
                refine lv_istore_n (lv' := [(2, .int 1), (0, .ref (a 60)), (1, .int v1), (3, .int v3)]) hx hb dX2_test_51 rfl hl (by decide) rfl (fun ls hl => ?_)
                obtain ⟨v3_52, ev3_52⟩ : ∃ y : Int32, y = v3 + 1 := ⟨_, rfl⟩
                have hm := hm v3_52 ev3_52
                refine lv_iinc (v := v3_52) (lv' := [(3, .int v3_52), (2, .int 1), (0, .ref (a 60)), (1, .int v1)]) hx hb dX2_test_52 hl (k := 3) rfl (by rw [ev3_52]; rfl) (by decide) rfl (fun ls hl => ?_)
                refine lv_goto (tgt := 8) hx hb dX2_test_55 (by decide) ?_
                exact ih8 _ _ _ _ _ _ _ _ hm hT (lv_sub hl [2, 3, 1, 0] rfl)
  refine lv_aload_n hx hb dX2_test_0 rfl (lv_at hl 0 rfl) ?_
  refine lv_iload_n hx hb dX2_test_1 rfl (lv_at hl 1 rfl) ?_
  refine kg_X2_both IH hC hN hK hT hm wq_1092 (by omega) hl.1 (Nat.le_of_ble_eq_true rfl) ⟨Nat.le_refl _, Nat.le_refl _⟩ dX2_test_2 (fun r_2 F_2 L_2 H locs hm hT => ?_)
  refine lv_istore_n (lv' := [(2, .int r_2), (0, .ref (a 60)), (1, .int x1)]) hx hb dX2_test_5 rfl hl (by decide) rfl (fun ls hl => ?_)
  refine lv_iconst (v := 0) hx hb dX2_test_6 (by decide) ?_
  refine lv_istore_n (lv' := [(3, .int 0), (2, .int r_2), (0, .ref (a 60)), (1, .int x1)]) hx hb dX2_test_7 rfl hl (by decide) rfl (fun ls hl => ?_)
  exact L8 _ _ _ _ _ _ _ _ _ hm hT (lv_sub hl [2, 3, 1, 0] rfl)
set_option maxRecDepth 100000 in
set_option maxHeartbeats 4000000 in
theorem c_X2_both (d : Nat) (IH : gX2_IH d) (l : Launch) (D : va_G) (Z : Nat → ClassId) (a q : Nat → Nat) (F : M2) (L : L2) (sz : Nat) (x1 : Int32) (K : Int32 → M2 → L2 → Prop) (hm : wp_X2_both (gX2 d) F L x1 K) : Met l yX2_both (wy yX2_both cX2_both 4 (some .boolean)) (rk (10 + d) 0 0) (pre vwCl D Z (KW Z a q (q 20) F L) sz [.ref (a 60), .int x1]) (poI vwCl D Z (fun u : M2 × L2 => KW Z a q (q 20) u.1 u.2) (F, L) sz (fun (r : Int32) (u : M2 × L2) => K r u.1 u.2)) 0 0 (va_A (KW Z a q (q 20) F L) sz) := by
  refine rw_of (ty := .boolean) (wsF := (fun u : M2 × L2 => KW Z a q (q 20) u.1 u.2)) (u0 := (F, L)) (by decide +kernel) (Nat.le_of_ble_eq_true rfl) rfl ?_
  intro p e s m args below meth c Q A hC hN hsz hT hK hret ls hl
  have hx := hC.1
  have hb := hC.2.1
  have hl : lv_has ls 4 [(0, .ref (a 60)), (1, .int x1)] := hl
  have hT : TS vwCl D (KW Z a q (q 20) F L) A s.heap s.heap [] := hT
  have L8 : ∀ (n8 : Nat), ∀ (F : M2) (L : L2) (v1 : Int32) (v2 : Int32) (v3 : Int32) (H : Heap) (locs : List Loc) (ls : Array Slot), wl_X2_both_8 (gX2 d) K n8 F L v1 v2 v3 → TS vwCl D (KW Z a q (q 20) F L) A s.heap H locs → lv_has ls 4 [(0, .ref (a 60)), (1, .int v1), (2, .int v2), (3, .int v3)] → W p l e (rk (10 + d) 0 0) s m args below meth c H locs 0 0 Q (F0 m 8 ls []) := by
    intro n8
    induction n8 with
    | zero =>
      intro F L v1 v2 v3 H locs ls hm hT hl
      exact False.elim hm
    | succ n8 ih8 =>
      intro F L v1 v2 v3 H locs ls hm hT hl
      refine lv_iload_n hx hb dX2_both_8 rfl (lv_at hl 3 rfl) ?_
      refine lv_sipush (v := 400) hx hb dX2_both_9 (by decide) ?_
      refine lv_icmp_ge (tgt := 58) hx hb dX2_both_12 (by decide) (fun c_12 => ?_) (fun c_12 => ?_)
      · have hm := hm.1 c_12
        refine lv_iload_n hx hb dX2_both_58 rfl (lv_at hl 2 rfl) ?_
        exact hret 59 _ _ _ _ (F, L) hm.2 hT hm.1 dX2_both_59
      · have hm := hm.2 c_12
        refine lv_iload_n hx hb dX2_both_15 rfl (lv_at hl 2 rfl) ?_
        refine lv_if_eq (tgt := 58) hx hb dX2_both_16 (by decide) (fun c_16 => ?_) (fun c_16 => ?_)
        · have hm := hm.1 c_16
          refine lv_iload_n hx hb dX2_both_58 rfl (lv_at hl 2 rfl) ?_
          exact hret 59 _ _ _ _ (F, L) hm.2 hT hm.1 dX2_both_59
        · have hm := hm.2 c_16
          refine lv_aload_n hx hb dX2_both_19 rfl (lv_at hl 0 rfl) ?_
          refine lv_bipush (v := 24) hx hb dX2_both_20 (by decide) ?_
          refine k_X2_take hC hN hK hT hm wq_1018 (by omega) hl.1 (Nat.le_of_ble_eq_true rfl) ⟨Nat.le_refl _, Nat.le_refl _⟩ dX2_both_22 (fun r_22 F_22 L_22 H locs hm hT => ?_)
          refine lv_if_eq (tgt := 58) hx hb dX2_both_25 (by decide) (fun c_25 => ?_) (fun c_25 => ?_)
          · have hm := hm.1 c_25
            refine lv_iload_n hx hb dX2_both_58 rfl (lv_at hl 2 rfl) ?_
            exact hret 59 _ _ _ _ (F_22, L_22) hm.2 hT hm.1 dX2_both_59
          · have hm := hm.2 c_25
            refine lv_aload_n hx hb dX2_both_28 rfl (lv_at hl 0 rfl) ?_
            refine lv_iload_n hx hb dX2_both_29 rfl (lv_at hl 1 rfl) ?_
            refine kg_X2_single IH hC hN hK hT hm wq_1096 (by omega) hl.1 (Nat.le_of_ble_eq_true rfl) ⟨Nat.le_refl _, Nat.le_refl _⟩ dX2_both_30 (fun r_30 F_30 L_30 H locs hm hT => ?_)
            refine lv_if_eq (tgt := 50) hx hb dX2_both_33 (by decide) (fun c_33 => ?_) (fun c_33 => ?_)
            · have hm := hm.1 c_33
              refine lv_iconst (v := 0) hx hb dX2_both_50 (by decide) ?_
              refine lv_istore_n (lv' := [(2, .int 0), (0, .ref (a 60)), (1, .int v1), (3, .int v3)]) hx hb dX2_both_51 rfl hl (by decide) rfl (fun ls hl => ?_)
              obtain ⟨v3_52, ev3_52⟩ : ∃ y : Int32, y = v3 + 1 := ⟨_, rfl⟩
              have hm := hm v3_52 ev3_52
              refine lv_iinc (v := v3_52) (lv' := [(3, .int v3_52), (2, .int 0), (0, .ref (a 60)), (1, .int v1)]) hx hb dX2_both_52 hl (k := 3) rfl (by rw [ev3_52]; rfl) (by decide) rfl (fun ls hl => ?_)
              refine lv_goto (tgt := 8) hx hb dX2_both_55 (by decide) ?_
              exact ih8 _ _ _ _ _ _ _ _ hm hT (lv_sub hl [2, 3, 1, 0] rfl)
            · have hm := hm.2 c_33
              refine lv_aload_n hx hb dX2_both_36 rfl (lv_at hl 0 rfl) ?_
              refine lv_bipush (v := 24) hx hb dX2_both_37 (by decide) ?_
              refine lv_iconst (v := 0) hx hb dX2_both_39 (by decide) ?_
              refine k_X2_emit hC hN hK hT hm wq_1104 (by omega) hl.1 (Nat.le_of_ble_eq_true rfl) ⟨Nat.le_refl _, Nat.le_refl _⟩ dX2_both_40 (fun r_40 F_40 L_40 H locs hm hT => ?_)
              refine lv_if_eq (tgt := 50) hx hb dX2_both_43 (by decide) (fun c_43 => ?_) (fun c_43 => ?_)
              · have hm := hm.1 c_43
                refine lv_iconst (v := 0) hx hb dX2_both_50 (by decide) ?_
                refine lv_istore_n (lv' := [(2, .int 0), (0, .ref (a 60)), (1, .int v1), (3, .int v3)]) hx hb dX2_both_51 rfl hl (by decide) rfl (fun ls hl => ?_)
                obtain ⟨v3_52, ev3_52⟩ : ∃ y : Int32, y = v3 + 1 := ⟨_, rfl⟩
                have hm := hm v3_52 ev3_52
                refine lv_iinc (v := v3_52) (lv' := [(3, .int v3_52), (2, .int 0), (0, .ref (a 60)), (1, .int v1)]) hx hb dX2_both_52 hl (k := 3) rfl (by rw [ev3_52]; rfl) (by decide) rfl (fun ls hl => ?_)
                refine lv_goto (tgt := 8) hx hb dX2_both_55 (by decide) ?_
                exact ih8 _ _ _ _ _ _ _ _ hm hT (lv_sub hl [2, 3, 1, 0] rfl)
              · have hm := hm.2 c_43
                refine lv_iconst (v := 1) hx hb dX2_both_46 (by decide) ?_
                refine lv_goto (tgt := 51) hx hb dX2_both_47 (by decide) ?_
                refine lv_istore_n (lv' := [(2, .int 1), (0, .ref (a 60)), (1, .int v1), (3, .int v3)]) hx hb dX2_both_51 rfl hl (by decide) rfl (fun ls hl => ?_)
                obtain ⟨v3_52, ev3_52⟩ : ∃ y : Int32, y = v3 + 1 := ⟨_, rfl⟩
                have hm := hm v3_52 ev3_52
                refine lv_iinc (v := v3_52) (lv' := [(3, .int v3_52), (2, .int 1), (0, .ref (a 60)), (1, .int v1)]) hx hb dX2_both_52 hl (k := 3) rfl (by rw [ev3_52]; rfl) (by decide) rfl (fun ls hl => ?_)
                refine lv_goto (tgt := 8) hx hb dX2_both_55 (by decide) ?_
                exact ih8 _ _ _ _ _ _ _ _ hm hT (lv_sub hl [2, 3, 1, 0] rfl)
  refine lv_aload_n hx hb dX2_both_0 rfl (lv_at hl 0 rfl) ?_
  refine lv_iload_n hx hb dX2_both_1 rfl (lv_at hl 1 rfl) ?_
  refine kg_X2_single IH hC hN hK hT hm wq_1096 (by omega) hl.1 (Nat.le_of_ble_eq_true rfl) ⟨Nat.le_refl _, Nat.le_refl _⟩ dX2_both_2 (fun r_2 F_2 L_2 H locs hm hT => ?_)
  refine lv_istore_n (lv' := [(2, .int r_2), (0, .ref (a 60)), (1, .int x1)]) hx hb dX2_both_5 rfl hl (by decide) rfl (fun ls hl => ?_)
  refine lv_iconst (v := 0) hx hb dX2_both_6 (by decide) ?_
  refine lv_istore_n (lv' := [(3, .int 0), (2, .int r_2), (0, .ref (a 60)), (1, .int x1)]) hx hb dX2_both_7 rfl hl (by decide) rfl (fun ls hl => ?_)
  exact L8 _ _ _ _ _ _ _ _ _ hm hT (lv_sub hl [2, 3, 1, 0] rfl)
set_option maxRecDepth 100000 in
set_option maxHeartbeats 4000000 in
theorem c_X2_single (d : Nat) (IH : gX2_IH d) (l : Launch) (D : va_G) (Z : Nat → ClassId) (a q : Nat → Nat) (F : M2) (L : L2) (sz : Nat) (x1 : Int32) (K : Int32 → M2 → L2 → Prop) (hm : wp_X2_single (gX2 d) F L x1 K) : Met l yX2_single (wy yX2_single cX2_single 2 (some .boolean)) (rk (10 + d) 0 0) (pre vwCl D Z (KW Z a q (q 20) F L) sz [.ref (a 60), .int x1]) (poI vwCl D Z (fun u : M2 × L2 => KW Z a q (q 20) u.1 u.2) (F, L) sz (fun (r : Int32) (u : M2 × L2) => K r u.1 u.2)) 0 0 (va_A (KW Z a q (q 20) F L) sz) := by
  refine rw_of (ty := .boolean) (wsF := (fun u : M2 × L2 => KW Z a q (q 20) u.1 u.2)) (u0 := (F, L)) (by decide +kernel) (Nat.le_of_ble_eq_true rfl) rfl ?_
  intro p e s m args below meth c Q A hC hN hsz hT hK hret ls hl
  have hx := hC.1
  have hb := hC.2.1
  have hl : lv_has ls 2 [(0, .ref (a 60)), (1, .int x1)] := hl
  have hT : TS vwCl D (KW Z a q (q 20) F L) A s.heap s.heap [] := hT
  refine lv_aload_n hx hb dX2_single_0 rfl (lv_at hl 0 rfl) ?_
  refine k_X2_peek hC hN hK hT.1 hT.D' hm wq_999 (by omega) hl.1 (Nat.le_of_ble_eq_true rfl) ⟨Nat.le_refl _, Nat.le_refl _⟩ dX2_single_1 (fun r_1 hm => ?_)
  by_cases s4_0 : r_1 = 10
  · have hm := hm.1 s4_0
    refine lv_lookup (off := 115) (tgt := 119) hx hb dX2_single_4 (by decide) (by rw [s4_0]; decide) (by decide) ?_
    refine lv_aload_n hx hb dX2_single_119 rfl (lv_at hl 0 rfl) ?_
    refine lv_bipush (v := 10) hx hb dX2_single_120 (by decide) ?_
    refine lv_aload_n hx hb dX2_single_122 rfl (lv_at hl 0 rfl) ?_
    refine gKW_rd_4 hC hK hT.1 wq_389 dX2_single_123 ?_
    refine lv_aload_n hx hb dX2_single_126 rfl (lv_at hl 0 rfl) ?_
    refine gKW_rd_5 hC hK hT.1 wq_390 dX2_single_127 ?_
    refine gKW_plan_4 hC hK hT.1 wq_306 dX2_single_130 ?_
    refine k_X2_ofOne_nO hC hN hK hT hm wq_1113 (by omega) hl.1 (Nat.le_of_ble_eq_true rfl) ⟨Nat.le_refl _, Nat.le_refl _⟩ dX2_single_133 (fun r_133 F_133 L_133 H locs hm hT => ?_)
    exact hret 136 _ _ _ _ (F_133, L_133) hm.2 hT hm.1 dX2_single_136
  have hm := hm.2
  by_cases s4_1 : r_1 = 11
  · have hm := hm.1 s4_1
    refine lv_lookup (off := 133) (tgt := 137) hx hb dX2_single_4 (by decide) (by rw [s4_1]; decide) (by decide) ?_
    refine lv_aload_n hx hb dX2_single_137 rfl (lv_at hl 0 rfl) ?_
    refine lv_bipush (v := 11) hx hb dX2_single_138 (by decide) ?_
    refine lv_aload_n hx hb dX2_single_140 rfl (lv_at hl 0 rfl) ?_
    refine gKW_rd_3 hC hK hT.1 wq_388 dX2_single_141 ?_
    refine lv_aload_n hx hb dX2_single_144 rfl (lv_at hl 0 rfl) ?_
    refine gKW_rd_5 hC hK hT.1 wq_390 dX2_single_145 ?_
    refine gKW_plan_3 hC hK hT.1 wq_302 dX2_single_148 ?_
    refine k_X2_ofOne_nL hC hN hK hT hm wq_1113 (by omega) hl.1 (Nat.le_of_ble_eq_true rfl) ⟨Nat.le_refl _, Nat.le_refl _⟩ dX2_single_151 (fun r_151 F_151 L_151 H locs hm hT => ?_)
    exact hret 154 _ _ _ _ (F_151, L_151) hm.2 hT hm.1 dX2_single_154
  have hm := hm.2
  by_cases s4_2 : r_1 = 13
  · have hm := hm.1 s4_2
    refine lv_lookup (off := 44) (tgt := 48) hx hb dX2_single_4 (by decide) (by rw [s4_2]; decide) (by decide) ?_
    refine lv_aload_n hx hb dX2_single_48 rfl (lv_at hl 0 rfl) ?_
    refine lv_bipush (v := 13) hx hb dX2_single_49 (by decide) ?_
    refine lv_iload_n hx hb dX2_single_51 rfl (lv_at hl 1 rfl) ?_
    refine k_X2_takeDeeper hC hN hK hT hm wq_1100 (by omega) hl.1 (Nat.le_of_ble_eq_true rfl) ⟨Nat.le_refl _, Nat.le_refl _⟩ dX2_single_52 (fun r_52 F_52 L_52 H locs hm hT => ?_)
    refine lv_if_eq (tgt := 82) hx hb dX2_single_55 (by decide) (fun c_55 => ?_) (fun c_55 => ?_)
    · have hm := hm.1 c_55
      refine lv_iconst (v := 0) hx hb dX2_single_82 (by decide) ?_
      exact hret 83 _ _ _ _ (F_52, L_52) hm hT rfl dX2_single_83
    · have hm := hm.2 c_55
      refine lv_aload_n hx hb dX2_single_58 rfl (lv_at hl 0 rfl) ?_
      refine lv_iload_n hx hb dX2_single_59 rfl (lv_at hl 1 rfl) ?_
      refine lv_iconst (v := 1) hx hb dX2_single_60 (by decide) ?_
      refine lv_iadd hx hb dX2_single_61 ?_
      refine kg_X2_single IH hC hN hK hT hm wq_1096 (by omega) hl.1 (Nat.le_of_ble_eq_true rfl) ⟨Nat.le_refl _, Nat.le_refl _⟩ dX2_single_62 (fun r_62 F_62 L_62 H locs hm hT => ?_)
      refine lv_if_eq (tgt := 82) hx hb dX2_single_65 (by decide) (fun c_65 => ?_) (fun c_65 => ?_)
      · have hm := hm.1 c_65
        refine lv_iconst (v := 0) hx hb dX2_single_82 (by decide) ?_
        exact hret 83 _ _ _ _ (F_62, L_62) hm hT rfl dX2_single_83
      · have hm := hm.2 c_65
        refine lv_aload_n hx hb dX2_single_68 rfl (lv_at hl 0 rfl) ?_
        refine lv_bipush (v := 13) hx hb dX2_single_69 (by decide) ?_
        refine lv_iconst (v := 0) hx hb dX2_single_71 (by decide) ?_
        refine k_X2_emit hC hN hK hT hm wq_1104 (by omega) hl.1 (Nat.le_of_ble_eq_true rfl) ⟨Nat.le_refl _, Nat.le_refl _⟩ dX2_single_72 (fun r_72 F_72 L_72 H locs hm hT => ?_)
        refine lv_if_eq (tgt := 82) hx hb dX2_single_75 (by decide) (fun c_75 => ?_) (fun c_75 => ?_)
        · have hm := hm.1 c_75
          refine lv_iconst (v := 0) hx hb dX2_single_82 (by decide) ?_
          exact hret 83 _ _ _ _ (F_72, L_72) hm hT rfl dX2_single_83
        · have hm := hm.2 c_75
          refine lv_iconst (v := 1) hx hb dX2_single_78 (by decide) ?_
          refine lv_goto (tgt := 83) hx hb dX2_single_79 (by decide) ?_
          exact hret 83 _ _ _ _ (F_72, L_72) hm hT rfl dX2_single_83
  have hm := hm.2
  by_cases s4_3 : r_1 = 30
  · have hm := hm.1 s4_3
    refine lv_lookup (off := 80) (tgt := 84) hx hb dX2_single_4 (by decide) (by rw [s4_3]; decide) (by decide) ?_
    refine lv_aload_n hx hb dX2_single_84 rfl (lv_at hl 0 rfl) ?_
    refine lv_bipush (v := 30) hx hb dX2_single_85 (by decide) ?_
    refine lv_iload_n hx hb dX2_single_87 rfl (lv_at hl 1 rfl) ?_
    refine k_X2_takeDeeper hC hN hK hT hm wq_1100 (by omega) hl.1 (Nat.le_of_ble_eq_true rfl) ⟨Nat.le_refl _, Nat.le_refl _⟩ dX2_single_88 (fun r_88 F_88 L_88 H locs hm hT => ?_)
    refine lv_if_eq (tgt := 117) hx hb dX2_single_91 (by decide) (fun c_91 => ?_) (fun c_91 => ?_)
    · have hm := hm.1 c_91
      refine lv_iconst (v := 0) hx hb dX2_single_117 (by decide) ?_
      exact hret 118 _ _ _ _ (F_88, L_88) hm hT rfl dX2_single_118
    · have hm := hm.2 c_91
      refine lv_aload_n hx hb dX2_single_94 rfl (lv_at hl 0 rfl) ?_
      refine lv_iload_n hx hb dX2_single_95 rfl (lv_at hl 1 rfl) ?_
      refine lv_iconst (v := 1) hx hb dX2_single_96 (by decide) ?_
      refine lv_iadd hx hb dX2_single_97 ?_
      refine kg_X2_test IH hC hN hK hT hm wq_1088 (by omega) hl.1 (Nat.le_of_ble_eq_true rfl) ⟨Nat.le_refl _, Nat.le_refl _⟩ dX2_single_98 (fun r_98 F_98 L_98 H locs hm hT => ?_)
      refine lv_if_eq (tgt := 117) hx hb dX2_single_101 (by decide) (fun c_101 => ?_) (fun c_101 => ?_)
      · have hm := hm.1 c_101
        refine lv_iconst (v := 0) hx hb dX2_single_117 (by decide) ?_
        exact hret 118 _ _ _ _ (F_98, L_98) hm hT rfl dX2_single_118
      · have hm := hm.2 c_101
        refine lv_aload_n hx hb dX2_single_104 rfl (lv_at hl 0 rfl) ?_
        refine lv_bipush (v := 31) hx hb dX2_single_105 (by decide) ?_
        refine k_X2_take hC hN hK hT hm wq_1018 (by omega) hl.1 (Nat.le_of_ble_eq_true rfl) ⟨Nat.le_refl _, Nat.le_refl _⟩ dX2_single_107 (fun r_107 F_107 L_107 H locs hm hT => ?_)
        refine lv_if_eq (tgt := 117) hx hb dX2_single_110 (by decide) (fun c_110 => ?_) (fun c_110 => ?_)
        · have hm := hm.1 c_110
          refine lv_iconst (v := 0) hx hb dX2_single_117 (by decide) ?_
          exact hret 118 _ _ _ _ (F_107, L_107) hm hT rfl dX2_single_118
        · have hm := hm.2 c_110
          refine lv_iconst (v := 1) hx hb dX2_single_113 (by decide) ?_
          refine lv_goto (tgt := 118) hx hb dX2_single_114 (by decide) ?_
          exact hret 118 _ _ _ _ (F_107, L_107) hm hT rfl dX2_single_118
  have hm := hm.2
  have hm := hm s4_0 s4_1 s4_2 s4_3
  refine lv_lookup (off := 151) (tgt := 155) hx hb dX2_single_4 (by decide) (w_lkd _ _ _ (fun k hk => ?_)) (by decide) ?_
  · simp only [List.map_cons, List.map_nil, List.mem_cons, List.not_mem_nil, or_false] at hk
    rcases hk with rfl | rfl | rfl | rfl
    · exact eq_toInt s4_0
    · exact eq_toInt s4_1
    · exact eq_toInt s4_2
    · exact eq_toInt s4_3
  · refine lv_aload_n hx hb dX2_single_155 rfl (lv_at hl 0 rfl) ?_
    refine lv_iload_n hx hb dX2_single_156 rfl (lv_at hl 1 rfl) ?_
    refine kg_X2_comparison IH hC hN hK hT hm wq_1117 (by omega) hl.1 (Nat.le_of_ble_eq_true rfl) ⟨Nat.le_refl _, Nat.le_refl _⟩ dX2_single_157 (fun r_157 F_157 L_157 H locs hm hT => ?_)
    exact hret 160 _ _ _ _ (F_157, L_157) hm.2 hT hm.1 dX2_single_160
set_option maxRecDepth 100000 in
set_option maxHeartbeats 4000000 in
theorem c_X2_comparison (d : Nat) (IH : gX2_IH d) (l : Launch) (D : va_G) (Z : Nat → ClassId) (a q : Nat → Nat) (F : M2) (L : L2) (sz : Nat) (x1 : Int32) (K : Int32 → M2 → L2 → Prop) (hm : wp_X2_comparison (gX2 d) F L x1 K) : Met l yX2_comparison (wy yX2_comparison cX2_comparison 3 (some .boolean)) (rk (10 + d) 0 0) (pre vwCl D Z (KW Z a q (q 20) F L) sz [.ref (a 60), .int x1]) (poI vwCl D Z (fun u : M2 × L2 => KW Z a q (q 20) u.1 u.2) (F, L) sz (fun (r : Int32) (u : M2 × L2) => K r u.1 u.2)) 0 0 (va_A (KW Z a q (q 20) F L) sz) := by
  refine rw_of (ty := .boolean) (wsF := (fun u : M2 × L2 => KW Z a q (q 20) u.1 u.2)) (u0 := (F, L)) (by decide +kernel) (Nat.le_of_ble_eq_true rfl) rfl ?_
  intro p e s m args below meth c Q A hC hN hsz hT hK hret ls hl
  have hx := hC.1
  have hb := hC.2.1
  have hl : lv_has ls 3 [(0, .ref (a 60)), (1, .int x1)] := hl
  have hT : TS vwCl D (KW Z a q (q 20) F L) A s.heap s.heap [] := hT
  refine lv_aload_n hx hb dX2_comparison_0 rfl (lv_at hl 0 rfl) ?_
  refine lv_iload_n hx hb dX2_comparison_1 rfl (lv_at hl 1 rfl) ?_
  refine kg_X2_sum IH hC hN hK hT hm wq_1121 (by omega) hl.1 (Nat.le_of_ble_eq_true rfl) ⟨Nat.le_refl _, Nat.le_refl _⟩ dX2_comparison_2 (fun r_2 F_2 L_2 H locs hm hT => ?_)
  refine lv_if_ne (tgt := 10) hx hb dX2_comparison_5 (by decide) (fun c_5 => ?_) (fun c_5 => ?_)
  · have hm := hm.1 c_5
    refine lv_aload_n hx hb dX2_comparison_10 rfl (lv_at hl 0 rfl) ?_
    refine k_X2_peek hC hN hK hT.1 hT.D' hm wq_999 (by omega) hl.1 (Nat.le_of_ble_eq_true rfl) ⟨Nat.le_refl _, Nat.le_refl _⟩ dX2_comparison_11 (fun r_11 hm => ?_)
    refine lv_istore_n (lv' := [(2, .int r_11), (0, .ref (a 60)), (1, .int x1)]) hx hb dX2_comparison_14 rfl hl (by decide) rfl (fun ls hl => ?_)
    refine lv_iload_n hx hb dX2_comparison_15 rfl (lv_at hl 0 rfl) ?_
    refine lv_bipush (v := 19) hx hb dX2_comparison_16 (by decide) ?_
    refine lv_icmp_lt (tgt := 27) hx hb dX2_comparison_18 (by decide) (fun c_18 => ?_) (fun c_18 => ?_)
    · have hm := hm.1 c_18
      refine lv_iconst (v := 0) hx hb dX2_comparison_27 (by decide) ?_
      exact hret 28 _ _ _ _ (F_2, L_2) hm hT rfl dX2_comparison_28
    · have hm := hm.2 c_18
      refine lv_iload_n hx hb dX2_comparison_21 rfl (lv_at hl 0 rfl) ?_
      refine lv_bipush (v := 23) hx hb dX2_comparison_22 (by decide) ?_
      refine lv_icmp_le (tgt := 29) hx hb dX2_comparison_24 (by decide) (fun c_24 => ?_) (fun c_24 => ?_)
      · have hm := hm.1 c_24
        refine lv_aload_n hx hb dX2_comparison_29 rfl (lv_at hl 1 rfl) ?_
        refine lv_dup hx hb dX2_comparison_30 rfl ?_
        refine gKW_rd_6 hC hK hT.1 wq_391 dX2_comparison_31 ?_
        refine lv_iconst (v := 1) hx hb dX2_comparison_34 (by decide) ?_
        refine lv_iadd hx hb dX2_comparison_35 ?_
        refine pKW_rd_6 hC hK hT wq_391 dX2_comparison_36 (fun F_36 eF_36 H locs hT => ?_)
        have hm := hm F_36 eF_36
        refine lv_aload_n hx hb dX2_comparison_39 rfl (lv_at hl 1 rfl) ?_
        refine lv_iload_n hx hb dX2_comparison_40 rfl (lv_at hl 2 rfl) ?_
        refine kg_X2_sum IH hC hN hK hT hm wq_1121 (by omega) hl.1 (Nat.le_of_ble_eq_true rfl) ⟨Nat.le_refl _, Nat.le_refl _⟩ dX2_comparison_41 (fun r_41 F_41 L_41 H locs hm hT => ?_)
        refine lv_if_eq (tgt := 60) hx hb dX2_comparison_44 (by decide) (fun c_44 => ?_) (fun c_44 => ?_)
        · have hm := hm.1 c_44
          refine lv_iconst (v := 0) hx hb dX2_comparison_60 (by decide) ?_
          exact hret 61 _ _ _ _ (F_41, L_41) hm hT rfl dX2_comparison_61
        · have hm := hm.2 c_44
          refine lv_aload_n hx hb dX2_comparison_47 rfl (lv_at hl 1 rfl) ?_
          refine lv_iload_n hx hb dX2_comparison_48 rfl (lv_at hl 0 rfl) ?_
          refine lv_iconst (v := 0) hx hb dX2_comparison_49 (by decide) ?_
          refine k_X2_emit hC hN hK hT hm wq_1104 (by omega) hl.1 (Nat.le_of_ble_eq_true rfl) ⟨Nat.le_refl _, Nat.le_refl _⟩ dX2_comparison_50 (fun r_50 F_50 L_50 H locs hm hT => ?_)
          refine lv_if_eq (tgt := 60) hx hb dX2_comparison_53 (by decide) (fun c_53 => ?_) (fun c_53 => ?_)
          · have hm := hm.1 c_53
            refine lv_iconst (v := 0) hx hb dX2_comparison_60 (by decide) ?_
            exact hret 61 _ _ _ _ (F_50, L_50) hm hT rfl dX2_comparison_61
          · have hm := hm.2 c_53
            refine lv_iconst (v := 1) hx hb dX2_comparison_56 (by decide) ?_
            refine lv_goto (tgt := 61) hx hb dX2_comparison_57 (by decide) ?_
            exact hret 61 _ _ _ _ (F_50, L_50) hm hT rfl dX2_comparison_61
      · have hm := hm.2 c_24
        refine lv_iconst (v := 0) hx hb dX2_comparison_27 (by decide) ?_
        exact hret 28 _ _ _ _ (F_2, L_2) hm hT rfl dX2_comparison_28
  · have hm := hm.2 c_5
    refine lv_iconst (v := 0) hx hb dX2_comparison_8 (by decide) ?_
    exact hret 9 _ _ _ _ (F_2, L_2) hm hT rfl dX2_comparison_9
set_option maxRecDepth 100000 in
set_option maxHeartbeats 4000000 in
theorem c_X2_sum (d : Nat) (IH : gX2_IH d) (l : Launch) (D : va_G) (Z : Nat → ClassId) (a q : Nat → Nat) (F : M2) (L : L2) (sz : Nat) (x1 : Int32) (K : Int32 → M2 → L2 → Prop) (hm : wp_X2_sum (gX2 d) F L x1 K) : Met l yX2_sum (wy yX2_sum cX2_sum 5 (some .boolean)) (rk (10 + d) 0 0) (pre vwCl D Z (KW Z a q (q 20) F L) sz [.ref (a 60), .int x1]) (poI vwCl D Z (fun u : M2 × L2 => KW Z a q (q 20) u.1 u.2) (F, L) sz (fun (r : Int32) (u : M2 × L2) => K r u.1 u.2)) 0 0 (va_A (KW Z a q (q 20) F L) sz) := by
  refine rw_of (ty := .boolean) (wsF := (fun u : M2 × L2 => KW Z a q (q 20) u.1 u.2)) (u0 := (F, L)) (by decide +kernel) (Nat.le_of_ble_eq_true rfl) rfl ?_
  intro p e s m args below meth c Q A hC hN hsz hT hK hret ls hl
  have hx := hC.1
  have hb := hC.2.1
  have hl : lv_has ls 5 [(0, .ref (a 60)), (1, .int x1)] := hl
  have hT : TS vwCl D (KW Z a q (q 20) F L) A s.heap s.heap [] := hT
  have L8 : ∀ (n8 : Nat), ∀ (F : M2) (L : L2) (v1 : Int32) (v2 : Int32) (v3 : Int32) (H : Heap) (locs : List Loc) (ls : Array Slot), wl_X2_sum_8 (gX2 d) K n8 F L v1 v2 v3 → TS vwCl D (KW Z a q (q 20) F L) A s.heap H locs → lv_has ls 5 [(0, .ref (a 60)), (1, .int v1), (2, .int v2), (3, .int v3)] → W p l e (rk (10 + d) 0 0) s m args below meth c H locs 0 0 Q (F0 m 8 ls []) := by
    intro n8
    induction n8 with
    | zero =>
      intro F L v1 v2 v3 H locs ls hm hT hl
      exact False.elim hm
    | succ n8 ih8 =>
      have L37 : ∀ (F : M2) (L : L2) (v1 : Int32) (v3 : Int32) (H : Heap) (locs : List Loc) (ls : Array Slot), wj_X2_sum_37 (gX2 d) (wl_X2_sum_8 (gX2 d) K n8) K F L v1 v3 → TS vwCl D (KW Z a q (q 20) F L) A s.heap H locs → lv_has ls 5 [(0, .ref (a 60)), (1, .int v1), (3, .int v3)] → W p l e (rk (10 + d) 0 0) s m args below meth c H locs 0 0 Q (F0 m 37 ls []) := by
        intro F L v1 v3 H locs ls hm hT hl
        refine lv_aload_n hx hb dX2_sum_37 rfl (lv_at hl 0 rfl) ?_
        refine k_X2_peek hC hN hK hT.1 hT.D' hm wq_999 (by omega) hl.1 (Nat.le_of_ble_eq_true rfl) ⟨Nat.le_refl _, Nat.le_refl _⟩ dX2_sum_38 (fun r_38 hm => ?_)
        refine lv_istore (lv' := [(4, .int r_38), (0, .ref (a 60)), (1, .int v1), (3, .int v3)]) hx hb dX2_sum_41 hl (by decide) rfl (fun ls hl => ?_)
        refine lv_aload_n hx hb dX2_sum_43 rfl (lv_at hl 1 rfl) ?_
        refine lv_dup hx hb dX2_sum_44 rfl ?_
        refine gKW_rd_6 hC hK hT.1 wq_391 dX2_sum_45 ?_
        refine lv_iconst (v := 1) hx hb dX2_sum_48 (by decide) ?_
        refine lv_iadd hx hb dX2_sum_49 ?_
        refine pKW_rd_6 hC hK hT wq_391 dX2_sum_50 (fun F_50 eF_50 H locs hT => ?_)
        have hm := hm F_50 eF_50
        refine lv_aload_n hx hb dX2_sum_53 rfl (lv_at hl 1 rfl) ?_
        refine lv_iload_n hx hb dX2_sum_54 rfl (lv_at hl 2 rfl) ?_
        refine kg_X2_product IH hC hN hK hT hm wq_1125 (by omega) hl.1 (Nat.le_of_ble_eq_true rfl) ⟨Nat.le_refl _, Nat.le_refl _⟩ dX2_sum_55 (fun r_55 F_55 L_55 H locs hm hT => ?_)
        refine lv_if_eq (tgt := 75) hx hb dX2_sum_58 (by decide) (fun c_58 => ?_) (fun c_58 => ?_)
        · have hm := hm.1 c_58
          refine lv_iconst (v := 0) hx hb dX2_sum_75 (by decide) ?_
          refine lv_istore_n (lv' := [(2, .int 0), (4, .int r_38), (0, .ref (a 60)), (1, .int v1), (3, .int v3)]) hx hb dX2_sum_76 rfl hl (by decide) rfl (fun ls hl => ?_)
          obtain ⟨v3_77, ev3_77⟩ : ∃ y : Int32, y = v3 + 1 := ⟨_, rfl⟩
          have hm := hm v3_77 ev3_77
          refine lv_iinc (v := v3_77) (lv' := [(3, .int v3_77), (2, .int 0), (4, .int r_38), (0, .ref (a 60)), (1, .int v1)]) hx hb dX2_sum_77 hl (k := 4) rfl (by rw [ev3_77]; rfl) (by decide) rfl (fun ls hl => ?_)
          refine lv_goto (tgt := 8) hx hb dX2_sum_80 (by decide) ?_
          exact ih8 _ _ _ _ _ _ _ _ hm hT (lv_sub hl [3, 4, 1, 0] rfl)
        · have hm := hm.2 c_58
          refine lv_aload_n hx hb dX2_sum_61 rfl (lv_at hl 1 rfl) ?_
          refine lv_iload hx hb dX2_sum_62 (lv_at hl 0 rfl) ?_
          refine lv_iconst (v := 0) hx hb dX2_sum_64 (by decide) ?_
          refine k_X2_emit hC hN hK hT hm wq_1104 (by omega) hl.1 (Nat.le_of_ble_eq_true rfl) ⟨Nat.le_refl _, Nat.le_refl _⟩ dX2_sum_65 (fun r_65 F_65 L_65 H locs hm hT => ?_)
          refine lv_if_eq (tgt := 75) hx hb dX2_sum_68 (by decide) (fun c_68 => ?_) (fun c_68 => ?_)
          · have hm := hm.1 c_68
            refine lv_iconst (v := 0) hx hb dX2_sum_75 (by decide) ?_
            refine lv_istore_n (lv' := [(2, .int 0), (4, .int r_38), (0, .ref (a 60)), (1, .int v1), (3, .int v3)]) hx hb dX2_sum_76 rfl hl (by decide) rfl (fun ls hl => ?_)
            obtain ⟨v3_77, ev3_77⟩ : ∃ y : Int32, y = v3 + 1 := ⟨_, rfl⟩
            have hm := hm v3_77 ev3_77
            refine lv_iinc (v := v3_77) (lv' := [(3, .int v3_77), (2, .int 0), (4, .int r_38), (0, .ref (a 60)), (1, .int v1)]) hx hb dX2_sum_77 hl (k := 4) rfl (by rw [ev3_77]; rfl) (by decide) rfl (fun ls hl => ?_)
            refine lv_goto (tgt := 8) hx hb dX2_sum_80 (by decide) ?_
            exact ih8 _ _ _ _ _ _ _ _ hm hT (lv_sub hl [3, 4, 1, 0] rfl)
          · have hm := hm.2 c_68
            refine lv_iconst (v := 1) hx hb dX2_sum_71 (by decide) ?_
            refine lv_goto (tgt := 76) hx hb dX2_sum_72 (by decide) ?_
            refine lv_istore_n (lv' := [(2, .int 1), (4, .int r_38), (0, .ref (a 60)), (1, .int v1), (3, .int v3)]) hx hb dX2_sum_76 rfl hl (by decide) rfl (fun ls hl => ?_)
            obtain ⟨v3_77, ev3_77⟩ : ∃ y : Int32, y = v3 + 1 := ⟨_, rfl⟩
            have hm := hm v3_77 ev3_77
            refine lv_iinc (v := v3_77) (lv' := [(3, .int v3_77), (2, .int 1), (4, .int r_38), (0, .ref (a 60)), (1, .int v1)]) hx hb dX2_sum_77 hl (k := 4) rfl (by rw [ev3_77]; rfl) (by decide) rfl (fun ls hl => ?_)
            refine lv_goto (tgt := 8) hx hb dX2_sum_80 (by decide) ?_
            exact ih8 _ _ _ _ _ _ _ _ hm hT (lv_sub hl [3, 4, 1, 0] rfl)
      intro F L v1 v2 v3 H locs ls hm hT hl
      refine lv_iload_n hx hb dX2_sum_8 rfl (lv_at hl 3 rfl) ?_
      refine lv_sipush (v := 400) hx hb dX2_sum_9 (by decide) ?_
      refine lv_icmp_ge (tgt := 83) hx hb dX2_sum_12 (by decide) (fun c_12 => ?_) (fun c_12 => ?_)
      · have hm := hm.1 c_12
        refine lv_iload_n hx hb dX2_sum_83 rfl (lv_at hl 2 rfl) ?_
        exact hret 84 _ _ _ _ (F, L) hm.2 hT hm.1 dX2_sum_84
      · have hm := hm.2 c_12
        refine lv_iload_n hx hb dX2_sum_15 rfl (lv_at hl 2 rfl) ?_
        refine lv_if_eq (tgt := 83) hx hb dX2_sum_16 (by decide) (fun c_16 => ?_) (fun c_16 => ?_)
        · have hm := hm.1 c_16
          refine lv_iload_n hx hb dX2_sum_83 rfl (lv_at hl 2 rfl) ?_
          exact hret 84 _ _ _ _ (F, L) hm.2 hT hm.1 dX2_sum_84
        · have hm := hm.2 c_16
          refine lv_aload_n hx hb dX2_sum_19 rfl (lv_at hl 0 rfl) ?_
          refine k_X2_peek hC hN hK hT.1 hT.D' hm wq_999 (by omega) hl.1 (Nat.le_of_ble_eq_true rfl) ⟨Nat.le_refl _, Nat.le_refl _⟩ dX2_sum_20 (fun r_20 hm => ?_)
          refine lv_bipush (v := 15) hx hb dX2_sum_23 (by decide) ?_
          refine lv_icmp_eq (tgt := 37) hx hb dX2_sum_25 (by decide) (fun c_25 => ?_) (fun c_25 => ?_)
          · have hm := hm.1 c_25
            exact L37 _ _ _ _ _ _ _ hm hT (lv_sub hl [0, 1, 3] rfl)
          · have hm := hm.2 c_25
            refine lv_aload_n hx hb dX2_sum_28 rfl (lv_at hl 0 rfl) ?_
            refine k_X2_peek hC hN hK hT.1 hT.D' hm wq_999 (by omega) hl.1 (Nat.le_of_ble_eq_true rfl) ⟨Nat.le_refl _, Nat.le_refl _⟩ dX2_sum_29 (fun r_29 hm => ?_)
            refine lv_bipush (v := 16) hx hb dX2_sum_32 (by decide) ?_
            refine lv_icmp_ne (tgt := 83) hx hb dX2_sum_34 (by decide) (fun c_34 => ?_) (fun c_34 => ?_)
            · have hm := hm.1 c_34
              refine lv_iload_n hx hb dX2_sum_83 rfl (lv_at hl 2 rfl) ?_
              exact hret 84 _ _ _ _ (F, L) hm.2 hT hm.1 dX2_sum_84
            · have hm := hm.2 c_34
              exact L37 _ _ _ _ _ _ _ hm hT (lv_sub hl [0, 1, 3] rfl)
  refine lv_aload_n hx hb dX2_sum_0 rfl (lv_at hl 0 rfl) ?_
  refine lv_iload_n hx hb dX2_sum_1 rfl (lv_at hl 1 rfl) ?_
  refine kg_X2_product IH hC hN hK hT hm wq_1125 (by omega) hl.1 (Nat.le_of_ble_eq_true rfl) ⟨Nat.le_refl _, Nat.le_refl _⟩ dX2_sum_2 (fun r_2 F_2 L_2 H locs hm hT => ?_)
  refine lv_istore_n (lv' := [(2, .int r_2), (0, .ref (a 60)), (1, .int x1)]) hx hb dX2_sum_5 rfl hl (by decide) rfl (fun ls hl => ?_)
  refine lv_iconst (v := 0) hx hb dX2_sum_6 (by decide) ?_
  refine lv_istore_n (lv' := [(3, .int 0), (2, .int r_2), (0, .ref (a 60)), (1, .int x1)]) hx hb dX2_sum_7 rfl hl (by decide) rfl (fun ls hl => ?_)
  exact L8 _ _ _ _ _ _ _ _ _ hm hT (lv_sub hl [2, 3, 1, 0] rfl)
set_option maxRecDepth 100000 in
set_option maxHeartbeats 4000000 in
theorem c_X2_product (d : Nat) (IH : gX2_IH d) (l : Launch) (D : va_G) (Z : Nat → ClassId) (a q : Nat → Nat) (F : M2) (L : L2) (sz : Nat) (x1 : Int32) (K : Int32 → M2 → L2 → Prop) (hm : wp_X2_product (gX2 d) F L x1 K) : Met l yX2_product (wy yX2_product cX2_product 5 (some .boolean)) (rk (10 + d) 0 0) (pre vwCl D Z (KW Z a q (q 20) F L) sz [.ref (a 60), .int x1]) (poI vwCl D Z (fun u : M2 × L2 => KW Z a q (q 20) u.1 u.2) (F, L) sz (fun (r : Int32) (u : M2 × L2) => K r u.1 u.2)) 0 0 (va_A (KW Z a q (q 20) F L) sz) := by
  refine rw_of (ty := .boolean) (wsF := (fun u : M2 × L2 => KW Z a q (q 20) u.1 u.2)) (u0 := (F, L)) (by decide +kernel) (Nat.le_of_ble_eq_true rfl) rfl ?_
  intro p e s m args below meth c Q A hC hN hsz hT hK hret ls hl
  have hx := hC.1
  have hb := hC.2.1
  have hl : lv_has ls 5 [(0, .ref (a 60)), (1, .int x1)] := hl
  have hT : TS vwCl D (KW Z a q (q 20) F L) A s.heap s.heap [] := hT
  have L8 : ∀ (n8 : Nat), ∀ (F : M2) (L : L2) (v1 : Int32) (v2 : Int32) (v3 : Int32) (H : Heap) (locs : List Loc) (ls : Array Slot), wl_X2_product_8 (gX2 d) K n8 F L v1 v2 v3 → TS vwCl D (KW Z a q (q 20) F L) A s.heap H locs → lv_has ls 5 [(0, .ref (a 60)), (1, .int v1), (2, .int v2), (3, .int v3)] → W p l e (rk (10 + d) 0 0) s m args below meth c H locs 0 0 Q (F0 m 8 ls []) := by
    intro n8
    induction n8 with
    | zero =>
      intro F L v1 v2 v3 H locs ls hm hT hl
      exact False.elim hm
    | succ n8 ih8 =>
      have L37 : ∀ (F : M2) (L : L2) (v1 : Int32) (v3 : Int32) (H : Heap) (locs : List Loc) (ls : Array Slot), wj_X2_product_37 (gX2 d) (wl_X2_product_8 (gX2 d) K n8) K F L v1 v3 → TS vwCl D (KW Z a q (q 20) F L) A s.heap H locs → lv_has ls 5 [(0, .ref (a 60)), (1, .int v1), (3, .int v3)] → W p l e (rk (10 + d) 0 0) s m args below meth c H locs 0 0 Q (F0 m 37 ls []) := by
        intro F L v1 v3 H locs ls hm hT hl
        refine lv_aload_n hx hb dX2_product_37 rfl (lv_at hl 0 rfl) ?_
        refine k_X2_peek hC hN hK hT.1 hT.D' hm wq_999 (by omega) hl.1 (Nat.le_of_ble_eq_true rfl) ⟨Nat.le_refl _, Nat.le_refl _⟩ dX2_product_38 (fun r_38 hm => ?_)
        refine lv_istore (lv' := [(4, .int r_38), (0, .ref (a 60)), (1, .int v1), (3, .int v3)]) hx hb dX2_product_41 hl (by decide) rfl (fun ls hl => ?_)
        refine lv_aload_n hx hb dX2_product_43 rfl (lv_at hl 1 rfl) ?_
        refine lv_dup hx hb dX2_product_44 rfl ?_
        refine gKW_rd_6 hC hK hT.1 wq_391 dX2_product_45 ?_
        refine lv_iconst (v := 1) hx hb dX2_product_48 (by decide) ?_
        refine lv_iadd hx hb dX2_product_49 ?_
        refine pKW_rd_6 hC hK hT wq_391 dX2_product_50 (fun F_50 eF_50 H locs hT => ?_)
        have hm := hm F_50 eF_50
        refine lv_aload_n hx hb dX2_product_53 rfl (lv_at hl 1 rfl) ?_
        refine lv_iload_n hx hb dX2_product_54 rfl (lv_at hl 2 rfl) ?_
        refine kg_X2_value IH hC hN hK hT hm wq_1129 (by omega) hl.1 (Nat.le_of_ble_eq_true rfl) ⟨Nat.le_refl _, Nat.le_refl _⟩ dX2_product_55 (fun r_55 F_55 L_55 H locs hm hT => ?_)
        refine lv_if_eq (tgt := 75) hx hb dX2_product_58 (by decide) (fun c_58 => ?_) (fun c_58 => ?_)
        · have hm := hm.1 c_58
          refine lv_iconst (v := 0) hx hb dX2_product_75 (by decide) ?_
          refine lv_istore_n (lv' := [(2, .int 0), (4, .int r_38), (0, .ref (a 60)), (1, .int v1), (3, .int v3)]) hx hb dX2_product_76 rfl hl (by decide) rfl (fun ls hl => ?_)
          obtain ⟨v3_77, ev3_77⟩ : ∃ y : Int32, y = v3 + 1 := ⟨_, rfl⟩
          have hm := hm v3_77 ev3_77
          refine lv_iinc (v := v3_77) (lv' := [(3, .int v3_77), (2, .int 0), (4, .int r_38), (0, .ref (a 60)), (1, .int v1)]) hx hb dX2_product_77 hl (k := 4) rfl (by rw [ev3_77]; rfl) (by decide) rfl (fun ls hl => ?_)
          refine lv_goto (tgt := 8) hx hb dX2_product_80 (by decide) ?_
          exact ih8 _ _ _ _ _ _ _ _ hm hT (lv_sub hl [3, 4, 1, 0] rfl)
        · have hm := hm.2 c_58
          refine lv_aload_n hx hb dX2_product_61 rfl (lv_at hl 1 rfl) ?_
          refine lv_iload hx hb dX2_product_62 (lv_at hl 0 rfl) ?_
          refine lv_iconst (v := 0) hx hb dX2_product_64 (by decide) ?_
          refine k_X2_emit hC hN hK hT hm wq_1104 (by omega) hl.1 (Nat.le_of_ble_eq_true rfl) ⟨Nat.le_refl _, Nat.le_refl _⟩ dX2_product_65 (fun r_65 F_65 L_65 H locs hm hT => ?_)
          refine lv_if_eq (tgt := 75) hx hb dX2_product_68 (by decide) (fun c_68 => ?_) (fun c_68 => ?_)
          · have hm := hm.1 c_68
            refine lv_iconst (v := 0) hx hb dX2_product_75 (by decide) ?_
            refine lv_istore_n (lv' := [(2, .int 0), (4, .int r_38), (0, .ref (a 60)), (1, .int v1), (3, .int v3)]) hx hb dX2_product_76 rfl hl (by decide) rfl (fun ls hl => ?_)
            obtain ⟨v3_77, ev3_77⟩ : ∃ y : Int32, y = v3 + 1 := ⟨_, rfl⟩
            have hm := hm v3_77 ev3_77
            refine lv_iinc (v := v3_77) (lv' := [(3, .int v3_77), (2, .int 0), (4, .int r_38), (0, .ref (a 60)), (1, .int v1)]) hx hb dX2_product_77 hl (k := 4) rfl (by rw [ev3_77]; rfl) (by decide) rfl (fun ls hl => ?_)
            refine lv_goto (tgt := 8) hx hb dX2_product_80 (by decide) ?_
            exact ih8 _ _ _ _ _ _ _ _ hm hT (lv_sub hl [3, 4, 1, 0] rfl)
          · have hm := hm.2 c_68
            refine lv_iconst (v := 1) hx hb dX2_product_71 (by decide) ?_
            refine lv_goto (tgt := 76) hx hb dX2_product_72 (by decide) ?_
            refine lv_istore_n (lv' := [(2, .int 1), (4, .int r_38), (0, .ref (a 60)), (1, .int v1), (3, .int v3)]) hx hb dX2_product_76 rfl hl (by decide) rfl (fun ls hl => ?_)
            obtain ⟨v3_77, ev3_77⟩ : ∃ y : Int32, y = v3 + 1 := ⟨_, rfl⟩
            have hm := hm v3_77 ev3_77
            refine lv_iinc (v := v3_77) (lv' := [(3, .int v3_77), (2, .int 1), (4, .int r_38), (0, .ref (a 60)), (1, .int v1)]) hx hb dX2_product_77 hl (k := 4) rfl (by rw [ev3_77]; rfl) (by decide) rfl (fun ls hl => ?_)
            refine lv_goto (tgt := 8) hx hb dX2_product_80 (by decide) ?_
            exact ih8 _ _ _ _ _ _ _ _ hm hT (lv_sub hl [3, 4, 1, 0] rfl)
      intro F L v1 v2 v3 H locs ls hm hT hl
      refine lv_iload_n hx hb dX2_product_8 rfl (lv_at hl 3 rfl) ?_
      refine lv_sipush (v := 400) hx hb dX2_product_9 (by decide) ?_
      refine lv_icmp_ge (tgt := 83) hx hb dX2_product_12 (by decide) (fun c_12 => ?_) (fun c_12 => ?_)
      · have hm := hm.1 c_12
        refine lv_iload_n hx hb dX2_product_83 rfl (lv_at hl 2 rfl) ?_
        exact hret 84 _ _ _ _ (F, L) hm.2 hT hm.1 dX2_product_84
      · have hm := hm.2 c_12
        refine lv_iload_n hx hb dX2_product_15 rfl (lv_at hl 2 rfl) ?_
        refine lv_if_eq (tgt := 83) hx hb dX2_product_16 (by decide) (fun c_16 => ?_) (fun c_16 => ?_)
        · have hm := hm.1 c_16
          refine lv_iload_n hx hb dX2_product_83 rfl (lv_at hl 2 rfl) ?_
          exact hret 84 _ _ _ _ (F, L) hm.2 hT hm.1 dX2_product_84
        · have hm := hm.2 c_16
          refine lv_aload_n hx hb dX2_product_19 rfl (lv_at hl 0 rfl) ?_
          refine k_X2_peek hC hN hK hT.1 hT.D' hm wq_999 (by omega) hl.1 (Nat.le_of_ble_eq_true rfl) ⟨Nat.le_refl _, Nat.le_refl _⟩ dX2_product_20 (fun r_20 hm => ?_)
          refine lv_bipush (v := 17) hx hb dX2_product_23 (by decide) ?_
          refine lv_icmp_eq (tgt := 37) hx hb dX2_product_25 (by decide) (fun c_25 => ?_) (fun c_25 => ?_)
          · have hm := hm.1 c_25
            exact L37 _ _ _ _ _ _ _ hm hT (lv_sub hl [0, 1, 3] rfl)
          · have hm := hm.2 c_25
            refine lv_aload_n hx hb dX2_product_28 rfl (lv_at hl 0 rfl) ?_
            refine k_X2_peek hC hN hK hT.1 hT.D' hm wq_999 (by omega) hl.1 (Nat.le_of_ble_eq_true rfl) ⟨Nat.le_refl _, Nat.le_refl _⟩ dX2_product_29 (fun r_29 hm => ?_)
            refine lv_bipush (v := 18) hx hb dX2_product_32 (by decide) ?_
            refine lv_icmp_ne (tgt := 83) hx hb dX2_product_34 (by decide) (fun c_34 => ?_) (fun c_34 => ?_)
            · have hm := hm.1 c_34
              refine lv_iload_n hx hb dX2_product_83 rfl (lv_at hl 2 rfl) ?_
              exact hret 84 _ _ _ _ (F, L) hm.2 hT hm.1 dX2_product_84
            · have hm := hm.2 c_34
              exact L37 _ _ _ _ _ _ _ hm hT (lv_sub hl [0, 1, 3] rfl)
  refine lv_aload_n hx hb dX2_product_0 rfl (lv_at hl 0 rfl) ?_
  refine lv_iload_n hx hb dX2_product_1 rfl (lv_at hl 1 rfl) ?_
  refine kg_X2_value IH hC hN hK hT hm wq_1129 (by omega) hl.1 (Nat.le_of_ble_eq_true rfl) ⟨Nat.le_refl _, Nat.le_refl _⟩ dX2_product_2 (fun r_2 F_2 L_2 H locs hm hT => ?_)
  refine lv_istore_n (lv' := [(2, .int r_2), (0, .ref (a 60)), (1, .int x1)]) hx hb dX2_product_5 rfl hl (by decide) rfl (fun ls hl => ?_)
  refine lv_iconst (v := 0) hx hb dX2_product_6 (by decide) ?_
  refine lv_istore_n (lv' := [(3, .int 0), (2, .int r_2), (0, .ref (a 60)), (1, .int x1)]) hx hb dX2_product_7 rfl hl (by decide) rfl (fun ls hl => ?_)
  exact L8 _ _ _ _ _ _ _ _ _ hm hT (lv_sub hl [2, 3, 1, 0] rfl)
set_option maxRecDepth 100000 in
set_option maxHeartbeats 4000000 in
theorem c_X2_value (d : Nat) (IH : gX2_IH d) (l : Launch) (D : va_G) (Z : Nat → ClassId) (a q : Nat → Nat) (F : M2) (L : L2) (sz : Nat) (x1 : Int32) (K : Int32 → M2 → L2 → Prop) (hm : wp_X2_value (gX2 d) F L x1 K) : Met l yX2_value (wy yX2_value cX2_value 3 (some .boolean)) (rk (10 + d) 0 0) (pre vwCl D Z (KW Z a q (q 20) F L) sz [.ref (a 60), .int x1]) (poI vwCl D Z (fun u : M2 × L2 => KW Z a q (q 20) u.1 u.2) (F, L) sz (fun (r : Int32) (u : M2 × L2) => K r u.1 u.2)) 0 0 (va_A (KW Z a q (q 20) F L) sz) := by
  refine rw_of (ty := .boolean) (wsF := (fun u : M2 × L2 => KW Z a q (q 20) u.1 u.2)) (u0 := (F, L)) (by decide +kernel) (Nat.le_of_ble_eq_true rfl) rfl ?_
  intro p e s m args below meth c Q A hC hN hsz hT hK hret ls hl
  have hx := hC.1
  have hb := hC.2.1
  have hl : lv_has ls 3 [(0, .ref (a 60)), (1, .int x1)] := hl
  have hT : TS vwCl D (KW Z a q (q 20) F L) A s.heap s.heap [] := hT
  refine lv_aload_n hx hb dX2_value_0 rfl (lv_at hl 0 rfl) ?_
  refine k_X2_peek hC hN hK hT.1 hT.D' hm wq_999 (by omega) hl.1 (Nat.le_of_ble_eq_true rfl) ⟨Nat.le_refl _, Nat.le_refl _⟩ dX2_value_1 (fun r_1 hm => ?_)
  refine lv_istore_n (lv' := [(2, .int r_1), (0, .ref (a 60)), (1, .int x1)]) hx hb dX2_value_4 rfl hl (by decide) rfl (fun ls hl => ?_)
  refine lv_iload_n hx hb dX2_value_5 rfl (lv_at hl 0 rfl) ?_
  by_cases s6_0 : r_1 = 4
  · have hm := hm.1 s6_0
    refine w_swi (off := 114) (tgt := 120) 4 hx hb dX2_value_6 s6_0 (by decide) (by decide) (by decide) (by decide) ?_
    refine lv_aload_n hx hb dX2_value_120 rfl (lv_at hl 1 rfl) ?_
    refine lv_dup hx hb dX2_value_121 rfl ?_
    refine gKW_rd_6 hC hK hT.1 wq_391 dX2_value_122 ?_
    refine lv_iconst (v := 1) hx hb dX2_value_125 (by decide) ?_
    refine lv_iadd hx hb dX2_value_126 ?_
    refine pKW_rd_6 hC hK hT wq_391 dX2_value_127 (fun F_127 eF_127 H locs hT => ?_)
    have hm := hm F_127 eF_127
    refine lv_aload_n hx hb dX2_value_130 rfl (lv_at hl 1 rfl) ?_
    refine lv_iconst (v := 4) hx hb dX2_value_131 (by decide) ?_
    refine lv_aload_n hx hb dX2_value_132 rfl (lv_at hl 1 rfl) ?_
    refine lv_aload_n hx hb dX2_value_133 rfl (lv_at hl 1 rfl) ?_
    refine gKW_rd_6 hC hK hT.1 wq_391 dX2_value_134 ?_
    refine lv_iconst (v := 1) hx hb dX2_value_137 (by decide) ?_
    refine lv_isub hx hb dX2_value_138 ?_
    refine k_X2_number hC hN hK hT.1 hT.D' hm wq_1038 (by omega) hl.1 (Nat.le_of_ble_eq_true rfl) ⟨Nat.le_refl _, Nat.le_refl _⟩ dX2_value_139 (fun r_139 hm => ?_)
    refine k_X2_emit hC hN hK hT hm wq_1104 (by omega) hl.1 (Nat.le_of_ble_eq_true rfl) ⟨Nat.le_refl _, Nat.le_refl _⟩ dX2_value_142 (fun r_142 F_142 L_142 H locs hm hT => ?_)
    exact hret 145 _ _ _ _ (F_142, L_142) hm.2 hT hm.1 dX2_value_145
  have hm := hm.2
  by_cases s6_1 : r_1 = 5
  · have hm := hm.1 s6_1
    refine w_swi (off := 140) (tgt := 146) 5 hx hb dX2_value_6 s6_1 (by decide) (by decide) (by decide) (by decide) ?_
    refine lv_aload_n hx hb dX2_value_146 rfl (lv_at hl 1 rfl) ?_
    refine lv_dup hx hb dX2_value_147 rfl ?_
    refine gKW_rd_6 hC hK hT.1 wq_391 dX2_value_148 ?_
    refine lv_iconst (v := 1) hx hb dX2_value_151 (by decide) ?_
    refine lv_iadd hx hb dX2_value_152 ?_
    refine pKW_rd_6 hC hK hT wq_391 dX2_value_153 (fun F_153 eF_153 H locs hT => ?_)
    have hm := hm F_153 eF_153
    refine lv_aload_n hx hb dX2_value_156 rfl (lv_at hl 1 rfl) ?_
    refine lv_iload_n hx hb dX2_value_157 rfl (lv_at hl 0 rfl) ?_
    refine lv_iconst (v := 0) hx hb dX2_value_158 (by decide) ?_
    refine k_X2_emit hC hN hK hT hm wq_1104 (by omega) hl.1 (Nat.le_of_ble_eq_true rfl) ⟨Nat.le_refl _, Nat.le_refl _⟩ dX2_value_159 (fun r_159 F_159 L_159 H locs hm hT => ?_)
    exact hret 162 _ _ _ _ (F_159, L_159) hm.2 hT hm.1 dX2_value_162
  have hm := hm.2
  by_cases s6_2 : r_1 = 6
  · have hm := hm.1 s6_2
    refine w_swi (off := 140) (tgt := 146) 6 hx hb dX2_value_6 s6_2 (by decide) (by decide) (by decide) (by decide) ?_
    refine lv_aload_n hx hb dX2_value_146 rfl (lv_at hl 1 rfl) ?_
    refine lv_dup hx hb dX2_value_147 rfl ?_
    refine gKW_rd_6 hC hK hT.1 wq_391 dX2_value_148 ?_
    refine lv_iconst (v := 1) hx hb dX2_value_151 (by decide) ?_
    refine lv_iadd hx hb dX2_value_152 ?_
    refine pKW_rd_6 hC hK hT wq_391 dX2_value_153 (fun F_153 eF_153 H locs hT => ?_)
    have hm := hm F_153 eF_153
    refine lv_aload_n hx hb dX2_value_156 rfl (lv_at hl 1 rfl) ?_
    refine lv_iload_n hx hb dX2_value_157 rfl (lv_at hl 0 rfl) ?_
    refine lv_iconst (v := 0) hx hb dX2_value_158 (by decide) ?_
    refine k_X2_emit hC hN hK hT hm wq_1104 (by omega) hl.1 (Nat.le_of_ble_eq_true rfl) ⟨Nat.le_refl _, Nat.le_refl _⟩ dX2_value_159 (fun r_159 F_159 L_159 H locs hm hT => ?_)
    exact hret 162 _ _ _ _ (F_159, L_159) hm.2 hT hm.1 dX2_value_162
  have hm := hm.2
  by_cases s6_3 : r_1 = 7
  · have hm := hm.1 s6_3
    refine w_swi (off := 157) (tgt := 163) 7 hx hb dX2_value_6 s6_3 (by decide) (by decide) (by decide) (by decide) ?_
    refine lv_aload_n hx hb dX2_value_163 rfl (lv_at hl 1 rfl) ?_
    refine lv_dup hx hb dX2_value_164 rfl ?_
    refine gKW_rd_6 hC hK hT.1 wq_391 dX2_value_165 ?_
    refine lv_iconst (v := 1) hx hb dX2_value_168 (by decide) ?_
    refine lv_iadd hx hb dX2_value_169 ?_
    refine pKW_rd_6 hC hK hT wq_391 dX2_value_170 (fun F_170 eF_170 H locs hT => ?_)
    have hm := hm F_170 eF_170
    refine lv_aload_n hx hb dX2_value_173 rfl (lv_at hl 1 rfl) ?_
    refine lv_iconst (v := 3) hx hb dX2_value_174 (by decide) ?_
    refine k_X2_take hC hN hK hT hm wq_1018 (by omega) hl.1 (Nat.le_of_ble_eq_true rfl) ⟨Nat.le_refl _, Nat.le_refl _⟩ dX2_value_175 (fun r_175 F_175 L_175 H locs hm hT => ?_)
    refine lv_if_eq (tgt := 204) hx hb dX2_value_178 (by decide) (fun c_178 => ?_) (fun c_178 => ?_)
    · have hm := hm.1 c_178
      refine lv_iconst (v := 0) hx hb dX2_value_204 (by decide) ?_
      exact hret 205 _ _ _ _ (F_175, L_175) hm hT rfl dX2_value_205
    · have hm := hm.2 c_178
      refine lv_aload_n hx hb dX2_value_181 rfl (lv_at hl 1 rfl) ?_
      refine lv_bipush (v := 7) hx hb dX2_value_182 (by decide) ?_
      refine lv_aload_n hx hb dX2_value_184 rfl (lv_at hl 1 rfl) ?_
      refine lv_aload_n hx hb dX2_value_185 rfl (lv_at hl 1 rfl) ?_
      refine gKW_rd_6 hC hK hT.1 wq_391 dX2_value_186 ?_
      refine lv_iconst (v := 1) hx hb dX2_value_189 (by decide) ?_
      refine lv_isub hx hb dX2_value_190 ?_
      refine k_X2_number hC hN hK hT.1 hT.D' hm wq_1038 (by omega) hl.1 (Nat.le_of_ble_eq_true rfl) ⟨Nat.le_refl _, Nat.le_refl _⟩ dX2_value_191 (fun r_191 hm => ?_)
      refine k_X2_emit hC hN hK hT hm wq_1104 (by omega) hl.1 (Nat.le_of_ble_eq_true rfl) ⟨Nat.le_refl _, Nat.le_refl _⟩ dX2_value_194 (fun r_194 F_194 L_194 H locs hm hT => ?_)
      refine lv_if_eq (tgt := 204) hx hb dX2_value_197 (by decide) (fun c_197 => ?_) (fun c_197 => ?_)
      · have hm := hm.1 c_197
        refine lv_iconst (v := 0) hx hb dX2_value_204 (by decide) ?_
        exact hret 205 _ _ _ _ (F_194, L_194) hm hT rfl dX2_value_205
      · have hm := hm.2 c_197
        refine lv_iconst (v := 1) hx hb dX2_value_200 (by decide) ?_
        refine lv_goto (tgt := 205) hx hb dX2_value_201 (by decide) ?_
        exact hret 205 _ _ _ _ (F_194, L_194) hm hT rfl dX2_value_205
  have hm := hm.2
  by_cases s6_4 : r_1 = 8
  · have hm := hm.1 s6_4
    refine w_swi (off := 200) (tgt := 206) 8 hx hb dX2_value_6 s6_4 (by decide) (by decide) (by decide) (by decide) ?_
    refine lv_aload_n hx hb dX2_value_206 rfl (lv_at hl 1 rfl) ?_
    refine lv_bipush (v := 8) hx hb dX2_value_207 (by decide) ?_
    refine lv_aload_n hx hb dX2_value_209 rfl (lv_at hl 1 rfl) ?_
    refine gKW_rd_3 hC hK hT.1 wq_388 dX2_value_210 ?_
    refine lv_aload_n hx hb dX2_value_213 rfl (lv_at hl 1 rfl) ?_
    refine gKW_rd_5 hC hK hT.1 wq_390 dX2_value_214 ?_
    refine gKW_plan_3 hC hK hT.1 wq_302 dX2_value_217 ?_
    refine k_X2_ofOne_nL hC hN hK hT hm wq_1113 (by omega) hl.1 (Nat.le_of_ble_eq_true rfl) ⟨Nat.le_refl _, Nat.le_refl _⟩ dX2_value_220 (fun r_220 F_220 L_220 H locs hm hT => ?_)
    exact hret 223 _ _ _ _ (F_220, L_220) hm.2 hT hm.1 dX2_value_223
  have hm := hm.2
  by_cases s6_5 : r_1 = 9
  · have hm := hm.1 s6_5
    refine w_swi (off := 218) (tgt := 224) 9 hx hb dX2_value_6 s6_5 (by decide) (by decide) (by decide) (by decide) ?_
    refine lv_aload_n hx hb dX2_value_224 rfl (lv_at hl 1 rfl) ?_
    refine lv_bipush (v := 9) hx hb dX2_value_225 (by decide) ?_
    refine lv_aload_n hx hb dX2_value_227 rfl (lv_at hl 1 rfl) ?_
    refine gKW_rd_4 hC hK hT.1 wq_389 dX2_value_228 ?_
    refine lv_aload_n hx hb dX2_value_231 rfl (lv_at hl 1 rfl) ?_
    refine gKW_rd_5 hC hK hT.1 wq_390 dX2_value_232 ?_
    refine gKW_plan_4 hC hK hT.1 wq_306 dX2_value_235 ?_
    refine k_X2_ofOne_nO hC hN hK hT hm wq_1113 (by omega) hl.1 (Nat.le_of_ble_eq_true rfl) ⟨Nat.le_refl _, Nat.le_refl _⟩ dX2_value_238 (fun r_238 F_238 L_238 H locs hm hT => ?_)
    exact hret 241 _ _ _ _ (F_238, L_238) hm.2 hT hm.1 dX2_value_241
  have hm := hm.2
  by_cases s6_6 : r_1 = 12
  · have hm := hm.1 s6_6
    refine w_swi (off := 236) (tgt := 242) 12 hx hb dX2_value_6 s6_6 (by decide) (by decide) (by decide) (by decide) ?_
    refine lv_aload_n hx hb dX2_value_242 rfl (lv_at hl 1 rfl) ?_
    refine lv_dup hx hb dX2_value_243 rfl ?_
    refine gKW_rd_6 hC hK hT.1 wq_391 dX2_value_244 ?_
    refine lv_iconst (v := 1) hx hb dX2_value_247 (by decide) ?_
    refine lv_iadd hx hb dX2_value_248 ?_
    refine pKW_rd_6 hC hK hT wq_391 dX2_value_249 (fun F_249 eF_249 H locs hT => ?_)
    have hm := hm F_249 eF_249
    refine lv_aload_n hx hb dX2_value_252 rfl (lv_at hl 1 rfl) ?_
    refine lv_iload_n hx hb dX2_value_253 rfl (lv_at hl 2 rfl) ?_
    refine kg_X2_inBrackets IH hC hN hK hT hm wq_1133 (by omega) hl.1 (Nat.le_of_ble_eq_true rfl) ⟨Nat.le_refl _, Nat.le_refl _⟩ dX2_value_254 (fun r_254 F_254 L_254 H locs hm hT => ?_)
    refine lv_if_eq (tgt := 274) hx hb dX2_value_257 (by decide) (fun c_257 => ?_) (fun c_257 => ?_)
    · have hm := hm.1 c_257
      refine lv_iconst (v := 0) hx hb dX2_value_274 (by decide) ?_
      exact hret 275 _ _ _ _ (F_254, L_254) hm hT rfl dX2_value_275
    · have hm := hm.2 c_257
      refine lv_aload_n hx hb dX2_value_260 rfl (lv_at hl 1 rfl) ?_
      refine lv_bipush (v := 12) hx hb dX2_value_261 (by decide) ?_
      refine lv_iconst (v := 0) hx hb dX2_value_263 (by decide) ?_
      refine k_X2_emit hC hN hK hT hm wq_1104 (by omega) hl.1 (Nat.le_of_ble_eq_true rfl) ⟨Nat.le_refl _, Nat.le_refl _⟩ dX2_value_264 (fun r_264 F_264 L_264 H locs hm hT => ?_)
      refine lv_if_eq (tgt := 274) hx hb dX2_value_267 (by decide) (fun c_267 => ?_) (fun c_267 => ?_)
      · have hm := hm.1 c_267
        refine lv_iconst (v := 0) hx hb dX2_value_274 (by decide) ?_
        exact hret 275 _ _ _ _ (F_264, L_264) hm hT rfl dX2_value_275
      · have hm := hm.2 c_267
        refine lv_iconst (v := 1) hx hb dX2_value_270 (by decide) ?_
        refine lv_goto (tgt := 275) hx hb dX2_value_271 (by decide) ?_
        exact hret 275 _ _ _ _ (F_264, L_264) hm hT rfl dX2_value_275
  have hm := hm.2
  by_cases s6_7 : r_1 = 16
  · have hm := hm.1 s6_7
    refine w_swi (off := 270) (tgt := 276) 16 hx hb dX2_value_6 s6_7 (by decide) (by decide) (by decide) (by decide) ?_
    refine lv_aload_n hx hb dX2_value_276 rfl (lv_at hl 1 rfl) ?_
    refine lv_bipush (v := 16) hx hb dX2_value_277 (by decide) ?_
    refine lv_iload_n hx hb dX2_value_279 rfl (lv_at hl 2 rfl) ?_
    refine k_X2_takeDeeper hC hN hK hT hm wq_1100 (by omega) hl.1 (Nat.le_of_ble_eq_true rfl) ⟨Nat.le_refl _, Nat.le_refl _⟩ dX2_value_280 (fun r_280 F_280 L_280 H locs hm hT => ?_)
    refine lv_if_eq (tgt := 310) hx hb dX2_value_283 (by decide) (fun c_283 => ?_) (fun c_283 => ?_)
    · have hm := hm.1 c_283
      refine lv_iconst (v := 0) hx hb dX2_value_310 (by decide) ?_
      exact hret 311 _ _ _ _ (F_280, L_280) hm hT rfl dX2_value_311
    · have hm := hm.2 c_283
      refine lv_aload_n hx hb dX2_value_286 rfl (lv_at hl 1 rfl) ?_
      refine lv_iload_n hx hb dX2_value_287 rfl (lv_at hl 2 rfl) ?_
      refine lv_iconst (v := 1) hx hb dX2_value_288 (by decide) ?_
      refine lv_iadd hx hb dX2_value_289 ?_
      refine kg_X2_value IH hC hN hK hT hm wq_1129 (by omega) hl.1 (Nat.le_of_ble_eq_true rfl) ⟨Nat.le_refl _, Nat.le_refl _⟩ dX2_value_290 (fun r_290 F_290 L_290 H locs hm hT => ?_)
      refine lv_if_eq (tgt := 310) hx hb dX2_value_293 (by decide) (fun c_293 => ?_) (fun c_293 => ?_)
      · have hm := hm.1 c_293
        refine lv_iconst (v := 0) hx hb dX2_value_310 (by decide) ?_
        exact hret 311 _ _ _ _ (F_290, L_290) hm hT rfl dX2_value_311
      · have hm := hm.2 c_293
        refine lv_aload_n hx hb dX2_value_296 rfl (lv_at hl 1 rfl) ?_
        refine lv_bipush (v := 14) hx hb dX2_value_297 (by decide) ?_
        refine lv_iconst (v := 0) hx hb dX2_value_299 (by decide) ?_
        refine k_X2_emit hC hN hK hT hm wq_1104 (by omega) hl.1 (Nat.le_of_ble_eq_true rfl) ⟨Nat.le_refl _, Nat.le_refl _⟩ dX2_value_300 (fun r_300 F_300 L_300 H locs hm hT => ?_)
        refine lv_if_eq (tgt := 310) hx hb dX2_value_303 (by decide) (fun c_303 => ?_) (fun c_303 => ?_)
        · have hm := hm.1 c_303
          refine lv_iconst (v := 0) hx hb dX2_value_310 (by decide) ?_
          exact hret 311 _ _ _ _ (F_300, L_300) hm hT rfl dX2_value_311
        · have hm := hm.2 c_303
          refine lv_iconst (v := 1) hx hb dX2_value_306 (by decide) ?_
          refine lv_goto (tgt := 311) hx hb dX2_value_307 (by decide) ?_
          exact hret 311 _ _ _ _ (F_300, L_300) hm hT rfl dX2_value_311
  have hm := hm.2
  by_cases s6_8 : r_1 = 26
  · have hm := hm.1 s6_8
    refine w_swi (off := 312) (tgt := 318) 26 hx hb dX2_value_6 s6_8 (by decide) (by decide) (by decide) (by decide) ?_
    refine lv_aload_n hx hb dX2_value_318 rfl (lv_at hl 1 rfl) ?_
    refine lv_dup hx hb dX2_value_319 rfl ?_
    refine gKW_rd_6 hC hK hT.1 wq_391 dX2_value_320 ?_
    refine lv_iconst (v := 1) hx hb dX2_value_323 (by decide) ?_
    refine lv_iadd hx hb dX2_value_324 ?_
    refine pKW_rd_6 hC hK hT wq_391 dX2_value_325 (fun F_325 eF_325 H locs hT => ?_)
    have hm := hm F_325 eF_325
    refine lv_aload_n hx hb dX2_value_328 rfl (lv_at hl 1 rfl) ?_
    refine lv_iload_n hx hb dX2_value_329 rfl (lv_at hl 2 rfl) ?_
    refine kg_X2_ofTwo IH hC hN hK hT hm wq_1137 (by omega) hl.1 (Nat.le_of_ble_eq_true rfl) ⟨Nat.le_refl _, Nat.le_refl _⟩ dX2_value_330 (fun r_330 F_330 L_330 H locs hm hT => ?_)
    refine lv_if_eq (tgt := 349) hx hb dX2_value_333 (by decide) (fun c_333 => ?_) (fun c_333 => ?_)
    · have hm := hm.1 c_333
      refine lv_iconst (v := 0) hx hb dX2_value_349 (by decide) ?_
      exact hret 350 _ _ _ _ (F_330, L_330) hm hT rfl dX2_value_350
    · have hm := hm.2 c_333
      refine lv_aload_n hx hb dX2_value_336 rfl (lv_at hl 1 rfl) ?_
      refine lv_iload_n hx hb dX2_value_337 rfl (lv_at hl 0 rfl) ?_
      refine lv_iconst (v := 0) hx hb dX2_value_338 (by decide) ?_
      refine k_X2_emit hC hN hK hT hm wq_1104 (by omega) hl.1 (Nat.le_of_ble_eq_true rfl) ⟨Nat.le_refl _, Nat.le_refl _⟩ dX2_value_339 (fun r_339 F_339 L_339 H locs hm hT => ?_)
      refine lv_if_eq (tgt := 349) hx hb dX2_value_342 (by decide) (fun c_342 => ?_) (fun c_342 => ?_)
      · have hm := hm.1 c_342
        refine lv_iconst (v := 0) hx hb dX2_value_349 (by decide) ?_
        exact hret 350 _ _ _ _ (F_339, L_339) hm hT rfl dX2_value_350
      · have hm := hm.2 c_342
        refine lv_iconst (v := 1) hx hb dX2_value_345 (by decide) ?_
        refine lv_goto (tgt := 350) hx hb dX2_value_346 (by decide) ?_
        exact hret 350 _ _ _ _ (F_339, L_339) hm hT rfl dX2_value_350
  have hm := hm.2
  by_cases s6_9 : r_1 = 27
  · have hm := hm.1 s6_9
    refine w_swi (off := 312) (tgt := 318) 27 hx hb dX2_value_6 s6_9 (by decide) (by decide) (by decide) (by decide) ?_
    refine lv_aload_n hx hb dX2_value_318 rfl (lv_at hl 1 rfl) ?_
    refine lv_dup hx hb dX2_value_319 rfl ?_
    refine gKW_rd_6 hC hK hT.1 wq_391 dX2_value_320 ?_
    refine lv_iconst (v := 1) hx hb dX2_value_323 (by decide) ?_
    refine lv_iadd hx hb dX2_value_324 ?_
    refine pKW_rd_6 hC hK hT wq_391 dX2_value_325 (fun F_325 eF_325 H locs hT => ?_)
    have hm := hm F_325 eF_325
    refine lv_aload_n hx hb dX2_value_328 rfl (lv_at hl 1 rfl) ?_
    refine lv_iload_n hx hb dX2_value_329 rfl (lv_at hl 2 rfl) ?_
    refine kg_X2_ofTwo IH hC hN hK hT hm wq_1137 (by omega) hl.1 (Nat.le_of_ble_eq_true rfl) ⟨Nat.le_refl _, Nat.le_refl _⟩ dX2_value_330 (fun r_330 F_330 L_330 H locs hm hT => ?_)
    refine lv_if_eq (tgt := 349) hx hb dX2_value_333 (by decide) (fun c_333 => ?_) (fun c_333 => ?_)
    · have hm := hm.1 c_333
      refine lv_iconst (v := 0) hx hb dX2_value_349 (by decide) ?_
      exact hret 350 _ _ _ _ (F_330, L_330) hm hT rfl dX2_value_350
    · have hm := hm.2 c_333
      refine lv_aload_n hx hb dX2_value_336 rfl (lv_at hl 1 rfl) ?_
      refine lv_iload_n hx hb dX2_value_337 rfl (lv_at hl 0 rfl) ?_
      refine lv_iconst (v := 0) hx hb dX2_value_338 (by decide) ?_
      refine k_X2_emit hC hN hK hT hm wq_1104 (by omega) hl.1 (Nat.le_of_ble_eq_true rfl) ⟨Nat.le_refl _, Nat.le_refl _⟩ dX2_value_339 (fun r_339 F_339 L_339 H locs hm hT => ?_)
      refine lv_if_eq (tgt := 349) hx hb dX2_value_342 (by decide) (fun c_342 => ?_) (fun c_342 => ?_)
      · have hm := hm.1 c_342
        refine lv_iconst (v := 0) hx hb dX2_value_349 (by decide) ?_
        exact hret 350 _ _ _ _ (F_339, L_339) hm hT rfl dX2_value_350
      · have hm := hm.2 c_342
        refine lv_iconst (v := 1) hx hb dX2_value_345 (by decide) ?_
        refine lv_goto (tgt := 350) hx hb dX2_value_346 (by decide) ?_
        exact hret 350 _ _ _ _ (F_339, L_339) hm hT rfl dX2_value_350
  have hm := hm.2
  by_cases s6_10 : r_1 = 28
  · have hm := hm.1 s6_10
    refine w_swi (off := 306) (tgt := 312) 28 hx hb dX2_value_6 s6_10 (by decide) (by decide) (by decide) (by decide) ?_
    refine lv_aload_n hx hb dX2_value_312 rfl (lv_at hl 1 rfl) ?_
    refine lv_iload_n hx hb dX2_value_313 rfl (lv_at hl 2 rfl) ?_
    refine kg_X2_inBrackets IH hC hN hK hT hm wq_1133 (by omega) hl.1 (Nat.le_of_ble_eq_true rfl) ⟨Nat.le_refl _, Nat.le_refl _⟩ dX2_value_314 (fun r_314 F_314 L_314 H locs hm hT => ?_)
    exact hret 317 _ _ _ _ (F_314, L_314) hm.2 hT hm.1 dX2_value_317
  have hm := hm.2
  have hm := hm s6_0 s6_1 s6_2 s6_3 s6_4 s6_5 s6_6 s6_7 s6_8 s6_9 s6_10
  refine w_swd (tgt := 351) [4, 5, 6, 7, 8, 9, 12, 16, 26, 27, 28] hx hb dX2_value_6 (by decide) (by decide) (fun k hk => ?_) (by decide) ?_
  · simp only [List.mem_cons, List.not_mem_nil, or_false] at hk
    rcases hk with rfl | rfl | rfl | rfl | rfl | rfl | rfl | rfl | rfl | rfl | rfl
    · exact eq_toInt s6_0
    · exact eq_toInt s6_1
    · exact eq_toInt s6_2
    · exact eq_toInt s6_3
    · exact eq_toInt s6_4
    · exact eq_toInt s6_5
    · exact eq_toInt s6_6
    · exact eq_toInt s6_7
    · exact eq_toInt s6_8
    · exact eq_toInt s6_9
    · exact eq_toInt s6_10
  · refine lv_iconst (v := 0) hx hb dX2_value_351 (by decide) ?_
    exact hret 352 _ _ _ _ (F, L) hm hT rfl dX2_value_352
set_option maxRecDepth 100000 in
set_option maxHeartbeats 4000000 in
theorem c_X2_inBrackets (d : Nat) (IH : gX2_IH d) (l : Launch) (D : va_G) (Z : Nat → ClassId) (a q : Nat → Nat) (F : M2) (L : L2) (sz : Nat) (x1 : Int32) (K : Int32 → M2 → L2 → Prop) (hm : wp_X2_inBrackets (gX2 d) F L x1 K) : Met l yX2_inBrackets (wy yX2_inBrackets cX2_inBrackets 2 (some .boolean)) (rk (10 + d) 0 0) (pre vwCl D Z (KW Z a q (q 20) F L) sz [.ref (a 60), .int x1]) (poI vwCl D Z (fun u : M2 × L2 => KW Z a q (q 20) u.1 u.2) (F, L) sz (fun (r : Int32) (u : M2 × L2) => K r u.1 u.2)) 0 0 (va_A (KW Z a q (q 20) F L) sz) := by
  refine rw_of (ty := .boolean) (wsF := (fun u : M2 × L2 => KW Z a q (q 20) u.1 u.2)) (u0 := (F, L)) (by decide +kernel) (Nat.le_of_ble_eq_true rfl) rfl ?_
  intro p e s m args below meth c Q A hC hN hsz hT hK hret ls hl
  have hx := hC.1
  have hb := hC.2.1
  have hl : lv_has ls 2 [(0, .ref (a 60)), (1, .int x1)] := hl
  have hT : TS vwCl D (KW Z a q (q 20) F L) A s.heap s.heap [] := hT
  refine lv_aload_n hx hb dX2_inBrackets_0 rfl (lv_at hl 0 rfl) ?_
  refine lv_bipush (v := 28) hx hb dX2_inBrackets_1 (by decide) ?_
  refine lv_iload_n hx hb dX2_inBrackets_3 rfl (lv_at hl 1 rfl) ?_
  refine k_X2_takeDeeper hC hN hK hT hm wq_1100 (by omega) hl.1 (Nat.le_of_ble_eq_true rfl) ⟨Nat.le_refl _, Nat.le_refl _⟩ dX2_inBrackets_4 (fun r_4 F_4 L_4 H locs hm hT => ?_)
  refine lv_if_eq (tgt := 33) hx hb dX2_inBrackets_7 (by decide) (fun c_7 => ?_) (fun c_7 => ?_)
  · have hm := hm.1 c_7
    refine lv_iconst (v := 0) hx hb dX2_inBrackets_33 (by decide) ?_
    exact hret 34 _ _ _ _ (F_4, L_4) hm hT rfl dX2_inBrackets_34
  · have hm := hm.2 c_7
    refine lv_aload_n hx hb dX2_inBrackets_10 rfl (lv_at hl 0 rfl) ?_
    refine lv_iload_n hx hb dX2_inBrackets_11 rfl (lv_at hl 1 rfl) ?_
    refine lv_iconst (v := 1) hx hb dX2_inBrackets_12 (by decide) ?_
    refine lv_iadd hx hb dX2_inBrackets_13 ?_
    refine kg_X2_sum IH hC hN hK hT hm wq_1121 (by omega) hl.1 (Nat.le_of_ble_eq_true rfl) ⟨Nat.le_refl _, Nat.le_refl _⟩ dX2_inBrackets_14 (fun r_14 F_14 L_14 H locs hm hT => ?_)
    refine lv_if_eq (tgt := 33) hx hb dX2_inBrackets_17 (by decide) (fun c_17 => ?_) (fun c_17 => ?_)
    · have hm := hm.1 c_17
      refine lv_iconst (v := 0) hx hb dX2_inBrackets_33 (by decide) ?_
      exact hret 34 _ _ _ _ (F_14, L_14) hm hT rfl dX2_inBrackets_34
    · have hm := hm.2 c_17
      refine lv_aload_n hx hb dX2_inBrackets_20 rfl (lv_at hl 0 rfl) ?_
      refine lv_bipush (v := 29) hx hb dX2_inBrackets_21 (by decide) ?_
      refine k_X2_take hC hN hK hT hm wq_1018 (by omega) hl.1 (Nat.le_of_ble_eq_true rfl) ⟨Nat.le_refl _, Nat.le_refl _⟩ dX2_inBrackets_23 (fun r_23 F_23 L_23 H locs hm hT => ?_)
      refine lv_if_eq (tgt := 33) hx hb dX2_inBrackets_26 (by decide) (fun c_26 => ?_) (fun c_26 => ?_)
      · have hm := hm.1 c_26
        refine lv_iconst (v := 0) hx hb dX2_inBrackets_33 (by decide) ?_
        exact hret 34 _ _ _ _ (F_23, L_23) hm hT rfl dX2_inBrackets_34
      · have hm := hm.2 c_26
        refine lv_iconst (v := 1) hx hb dX2_inBrackets_29 (by decide) ?_
        refine lv_goto (tgt := 34) hx hb dX2_inBrackets_30 (by decide) ?_
        exact hret 34 _ _ _ _ (F_23, L_23) hm hT rfl dX2_inBrackets_34
set_option maxRecDepth 100000 in
set_option maxHeartbeats 4000000 in
theorem c_X2_ofTwo (d : Nat) (IH : gX2_IH d) (l : Launch) (D : va_G) (Z : Nat → ClassId) (a q : Nat → Nat) (F : M2) (L : L2) (sz : Nat) (x1 : Int32) (K : Int32 → M2 → L2 → Prop) (hm : wp_X2_ofTwo (gX2 d) F L x1 K) : Met l yX2_ofTwo (wy yX2_ofTwo cX2_ofTwo 2 (some .boolean)) (rk (10 + d) 0 0) (pre vwCl D Z (KW Z a q (q 20) F L) sz [.ref (a 60), .int x1]) (poI vwCl D Z (fun u : M2 × L2 => KW Z a q (q 20) u.1 u.2) (F, L) sz (fun (r : Int32) (u : M2 × L2) => K r u.1 u.2)) 0 0 (va_A (KW Z a q (q 20) F L) sz) := by
  refine rw_of (ty := .boolean) (wsF := (fun u : M2 × L2 => KW Z a q (q 20) u.1 u.2)) (u0 := (F, L)) (by decide +kernel) (Nat.le_of_ble_eq_true rfl) rfl ?_
  intro p e s m args below meth c Q A hC hN hsz hT hK hret ls hl
  have hx := hC.1
  have hb := hC.2.1
  have hl : lv_has ls 2 [(0, .ref (a 60)), (1, .int x1)] := hl
  have hT : TS vwCl D (KW Z a q (q 20) F L) A s.heap s.heap [] := hT
  refine lv_aload_n hx hb dX2_ofTwo_0 rfl (lv_at hl 0 rfl) ?_
  refine lv_bipush (v := 28) hx hb dX2_ofTwo_1 (by decide) ?_
  refine lv_iload_n hx hb dX2_ofTwo_3 rfl (lv_at hl 1 rfl) ?_
  refine k_X2_takeDeeper hC hN hK hT hm wq_1100 (by omega) hl.1 (Nat.le_of_ble_eq_true rfl) ⟨Nat.le_refl _, Nat.le_refl _⟩ dX2_ofTwo_4 (fun r_4 F_4 L_4 H locs hm hT => ?_)
  refine lv_if_eq (tgt := 52) hx hb dX2_ofTwo_7 (by decide) (fun c_7 => ?_) (fun c_7 => ?_)
  · have hm := hm.1 c_7
    refine lv_iconst (v := 0) hx hb dX2_ofTwo_52 (by decide) ?_
    exact hret 53 _ _ _ _ (F_4, L_4) hm hT rfl dX2_ofTwo_53
  · have hm := hm.2 c_7
    refine lv_aload_n hx hb dX2_ofTwo_10 rfl (lv_at hl 0 rfl) ?_
    refine lv_iload_n hx hb dX2_ofTwo_11 rfl (lv_at hl 1 rfl) ?_
    refine lv_iconst (v := 1) hx hb dX2_ofTwo_12 (by decide) ?_
    refine lv_iadd hx hb dX2_ofTwo_13 ?_
    refine kg_X2_sum IH hC hN hK hT hm wq_1121 (by omega) hl.1 (Nat.le_of_ble_eq_true rfl) ⟨Nat.le_refl _, Nat.le_refl _⟩ dX2_ofTwo_14 (fun r_14 F_14 L_14 H locs hm hT => ?_)
    refine lv_if_eq (tgt := 52) hx hb dX2_ofTwo_17 (by decide) (fun c_17 => ?_) (fun c_17 => ?_)
    · have hm := hm.1 c_17
      refine lv_iconst (v := 0) hx hb dX2_ofTwo_52 (by decide) ?_
      exact hret 53 _ _ _ _ (F_14, L_14) hm hT rfl dX2_ofTwo_53
    · have hm := hm.2 c_17
      refine lv_aload_n hx hb dX2_ofTwo_20 rfl (lv_at hl 0 rfl) ?_
      refine lv_bipush (v := 33) hx hb dX2_ofTwo_21 (by decide) ?_
      refine k_X2_take hC hN hK hT hm wq_1018 (by omega) hl.1 (Nat.le_of_ble_eq_true rfl) ⟨Nat.le_refl _, Nat.le_refl _⟩ dX2_ofTwo_23 (fun r_23 F_23 L_23 H locs hm hT => ?_)
      refine lv_if_eq (tgt := 52) hx hb dX2_ofTwo_26 (by decide) (fun c_26 => ?_) (fun c_26 => ?_)
      · have hm := hm.1 c_26
        refine lv_iconst (v := 0) hx hb dX2_ofTwo_52 (by decide) ?_
        exact hret 53 _ _ _ _ (F_23, L_23) hm hT rfl dX2_ofTwo_53
      · have hm := hm.2 c_26
        refine lv_aload_n hx hb dX2_ofTwo_29 rfl (lv_at hl 0 rfl) ?_
        refine lv_iload_n hx hb dX2_ofTwo_30 rfl (lv_at hl 1 rfl) ?_
        refine lv_iconst (v := 1) hx hb dX2_ofTwo_31 (by decide) ?_
        refine lv_iadd hx hb dX2_ofTwo_32 ?_
        refine kg_X2_sum IH hC hN hK hT hm wq_1121 (by omega) hl.1 (Nat.le_of_ble_eq_true rfl) ⟨Nat.le_refl _, Nat.le_refl _⟩ dX2_ofTwo_33 (fun r_33 F_33 L_33 H locs hm hT => ?_)
        refine lv_if_eq (tgt := 52) hx hb dX2_ofTwo_36 (by decide) (fun c_36 => ?_) (fun c_36 => ?_)
        · have hm := hm.1 c_36
          refine lv_iconst (v := 0) hx hb dX2_ofTwo_52 (by decide) ?_
          exact hret 53 _ _ _ _ (F_33, L_33) hm hT rfl dX2_ofTwo_53
        · have hm := hm.2 c_36
          refine lv_aload_n hx hb dX2_ofTwo_39 rfl (lv_at hl 0 rfl) ?_
          refine lv_bipush (v := 29) hx hb dX2_ofTwo_40 (by decide) ?_
          refine k_X2_take hC hN hK hT hm wq_1018 (by omega) hl.1 (Nat.le_of_ble_eq_true rfl) ⟨Nat.le_refl _, Nat.le_refl _⟩ dX2_ofTwo_42 (fun r_42 F_42 L_42 H locs hm hT => ?_)
          refine lv_if_eq (tgt := 52) hx hb dX2_ofTwo_45 (by decide) (fun c_45 => ?_) (fun c_45 => ?_)
          · have hm := hm.1 c_45
            refine lv_iconst (v := 0) hx hb dX2_ofTwo_52 (by decide) ?_
            exact hret 53 _ _ _ _ (F_42, L_42) hm hT rfl dX2_ofTwo_53
          · have hm := hm.2 c_45
            refine lv_iconst (v := 1) hx hb dX2_ofTwo_48 (by decide) ?_
            refine lv_goto (tgt := 53) hx hb dX2_ofTwo_49 (by decide) ?_
            exact hret 53 _ _ _ _ (F_42, L_42) hm hT rfl dX2_ofTwo_53
theorem gX2_ih : ∀ d : Nat, gX2_IH d := by
  intro d
  induction d with
  | zero =>
    exact ⟨fun _ _ _ _ _ _ _ _ _ _ hm => False.elim hm, fun _ _ _ _ _ _ _ _ _ _ hm => False.elim hm, fun _ _ _ _ _ _ _ _ _ _ hm => False.elim hm, fun _ _ _ _ _ _ _ _ _ _ hm => False.elim hm, fun _ _ _ _ _ _ _ _ _ _ hm => False.elim hm, fun _ _ _ _ _ _ _ _ _ _ hm => False.elim hm, fun _ _ _ _ _ _ _ _ _ _ hm => False.elim hm, fun _ _ _ _ _ _ _ _ _ _ hm => False.elim hm, fun _ _ _ _ _ _ _ _ _ _ hm => False.elim hm⟩
  | succ d ih =>
    exact ⟨fun l D Z a q F L sz x1 K hm => (show 9 + (d + 1) = 10 + d by omega) ▸ c_X2_test d ih l D Z a q F L sz x1 K hm,
      fun l D Z a q F L sz x1 K hm => (show 9 + (d + 1) = 10 + d by omega) ▸ c_X2_both d ih l D Z a q F L sz x1 K hm,
      fun l D Z a q F L sz x1 K hm => (show 9 + (d + 1) = 10 + d by omega) ▸ c_X2_single d ih l D Z a q F L sz x1 K hm,
      fun l D Z a q F L sz x1 K hm => (show 9 + (d + 1) = 10 + d by omega) ▸ c_X2_comparison d ih l D Z a q F L sz x1 K hm,
      fun l D Z a q F L sz x1 K hm => (show 9 + (d + 1) = 10 + d by omega) ▸ c_X2_sum d ih l D Z a q F L sz x1 K hm,
      fun l D Z a q F L sz x1 K hm => (show 9 + (d + 1) = 10 + d by omega) ▸ c_X2_product d ih l D Z a q F L sz x1 K hm,
      fun l D Z a q F L sz x1 K hm => (show 9 + (d + 1) = 10 + d by omega) ▸ c_X2_value d ih l D Z a q F L sz x1 K hm,
      fun l D Z a q F L sz x1 K hm => (show 9 + (d + 1) = 10 + d by omega) ▸ c_X2_inBrackets d ih l D Z a q F L sz x1 K hm,
      fun l D Z a q F L sz x1 K hm => (show 9 + (d + 1) = 10 + d by omega) ▸ c_X2_ofTwo d ih l D Z a q F L sz x1 K hm⟩
section KgX2
variable {p : Program} {l : Launch} {e : Env} {s : State} {m : MethodId} {args : Array Value} {below : List Frame} {meth : Method} {c : Code} {H H0 : Heap} {locs : List Loc} {cells slots : Nat} {Q : State → Prop} {R : Room} {rn mcR msR : Nat}
variable {pc : Nat} {ls : Array Slot} {rest : List Value} {A : Nat → Prop} {D : va_G}
variable {cc : ByteArray} {nL index : Nat} {own host : String}
theorem k_X2_test {Z : Nat → ClassId} {a q : Nat → Nat} {F : M2} {L : L2} {x1 : Int32} {K : Int32 → M2 → L2 → Prop} (hC : CallFix p m c cc nL s args lw_g own) (hN : NW s) (hK : va_K D vwCl (tysG Z) s) (hT : TS vwCl D (KW Z a q (q 20) F L) A H0 H locs) (hm : wp_X2_test (gX2 120) F L x1 K) (hl : Cond.methodLink own index yX2_test ∈ lw_g) (hlt : 10 + 120 < rn) (hsize : ls.size = nL) (hW : (rest.map fun v => v.category).sum ≤ 8) (hf : cells + 0 ≤ mcR ∧ slots + 0 ≤ msR) (hdg : decode cc pc = .ok (.invokevirtual index, 3)) (kk : ∀ (r : Int32) (F1 : M2) (L1 : L2) (H1 : Heap) (locs1 : List Loc), K r F1 L1 → TS vwCl D (KW Z a q (q 20) F1 L1) A H0 H1 locs1 → W p l e (rk rn mcR msR) s m args below meth c H1 locs1 cells slots Q (F0 m (pc + 3) ls (.int r :: rest))) : W p l e (rk rn mcR msR) s m args below meth c H locs cells slots Q (F0 m pc ls (.int x1 :: .ref (a 60) :: rest)) :=
  rw_go (wsF := (fun u : M2 × L2 => KW Z a q (q 20) u.1 u.2)) (u0 := (F, L)) (wr := []) (isC := cutKW) (isR := []) (pm := cutKW) (ws' := (fun u : M2 × L2 => KW Z a q (q 20) u.1 u.2)) (runV (As := [.int x1]) hC hN (c_X2_test 120 (gX2_ih 120) l D Z a q F L H.size x1 K hm) mi_X2_test hl wq_1090 wq_51 hlt hT.1 hT.D' hK (q0 := 0) rfl rfl rfl hsize rfl hW hdg hf) (cutOkKW Z a q (q 20) F L) hT (fun r u H1 locs1 hk hT1 => kk r u.1 u.2 H1 locs1 hk hT1)
theorem k_X2_both {Z : Nat → ClassId} {a q : Nat → Nat} {F : M2} {L : L2} {x1 : Int32} {K : Int32 → M2 → L2 → Prop} (hC : CallFix p m c cc nL s args lw_g own) (hN : NW s) (hK : va_K D vwCl (tysG Z) s) (hT : TS vwCl D (KW Z a q (q 20) F L) A H0 H locs) (hm : wp_X2_both (gX2 120) F L x1 K) (hl : Cond.methodLink own index yX2_both ∈ lw_g) (hlt : 10 + 120 < rn) (hsize : ls.size = nL) (hW : (rest.map fun v => v.category).sum ≤ 8) (hf : cells + 0 ≤ mcR ∧ slots + 0 ≤ msR) (hdg : decode cc pc = .ok (.invokevirtual index, 3)) (kk : ∀ (r : Int32) (F1 : M2) (L1 : L2) (H1 : Heap) (locs1 : List Loc), K r F1 L1 → TS vwCl D (KW Z a q (q 20) F1 L1) A H0 H1 locs1 → W p l e (rk rn mcR msR) s m args below meth c H1 locs1 cells slots Q (F0 m (pc + 3) ls (.int r :: rest))) : W p l e (rk rn mcR msR) s m args below meth c H locs cells slots Q (F0 m pc ls (.int x1 :: .ref (a 60) :: rest)) :=
  rw_go (wsF := (fun u : M2 × L2 => KW Z a q (q 20) u.1 u.2)) (u0 := (F, L)) (wr := []) (isC := cutKW) (isR := []) (pm := cutKW) (ws' := (fun u : M2 × L2 => KW Z a q (q 20) u.1 u.2)) (runV (As := [.int x1]) hC hN (c_X2_both 120 (gX2_ih 120) l D Z a q F L H.size x1 K hm) mi_X2_both hl wq_1094 wq_52 hlt hT.1 hT.D' hK (q0 := 0) rfl rfl rfl hsize rfl hW hdg hf) (cutOkKW Z a q (q 20) F L) hT (fun r u H1 locs1 hk hT1 => kk r u.1 u.2 H1 locs1 hk hT1)
theorem k_X2_single {Z : Nat → ClassId} {a q : Nat → Nat} {F : M2} {L : L2} {x1 : Int32} {K : Int32 → M2 → L2 → Prop} (hC : CallFix p m c cc nL s args lw_g own) (hN : NW s) (hK : va_K D vwCl (tysG Z) s) (hT : TS vwCl D (KW Z a q (q 20) F L) A H0 H locs) (hm : wp_X2_single (gX2 120) F L x1 K) (hl : Cond.methodLink own index yX2_single ∈ lw_g) (hlt : 10 + 120 < rn) (hsize : ls.size = nL) (hW : (rest.map fun v => v.category).sum ≤ 8) (hf : cells + 0 ≤ mcR ∧ slots + 0 ≤ msR) (hdg : decode cc pc = .ok (.invokevirtual index, 3)) (kk : ∀ (r : Int32) (F1 : M2) (L1 : L2) (H1 : Heap) (locs1 : List Loc), K r F1 L1 → TS vwCl D (KW Z a q (q 20) F1 L1) A H0 H1 locs1 → W p l e (rk rn mcR msR) s m args below meth c H1 locs1 cells slots Q (F0 m (pc + 3) ls (.int r :: rest))) : W p l e (rk rn mcR msR) s m args below meth c H locs cells slots Q (F0 m pc ls (.int x1 :: .ref (a 60) :: rest)) :=
  rw_go (wsF := (fun u : M2 × L2 => KW Z a q (q 20) u.1 u.2)) (u0 := (F, L)) (wr := []) (isC := cutKW) (isR := []) (pm := cutKW) (ws' := (fun u : M2 × L2 => KW Z a q (q 20) u.1 u.2)) (runV (As := [.int x1]) hC hN (c_X2_single 120 (gX2_ih 120) l D Z a q F L H.size x1 K hm) mi_X2_single hl wq_1098 wq_53 hlt hT.1 hT.D' hK (q0 := 0) rfl rfl rfl hsize rfl hW hdg hf) (cutOkKW Z a q (q 20) F L) hT (fun r u H1 locs1 hk hT1 => kk r u.1 u.2 H1 locs1 hk hT1)
theorem k_X2_comparison {Z : Nat → ClassId} {a q : Nat → Nat} {F : M2} {L : L2} {x1 : Int32} {K : Int32 → M2 → L2 → Prop} (hC : CallFix p m c cc nL s args lw_g own) (hN : NW s) (hK : va_K D vwCl (tysG Z) s) (hT : TS vwCl D (KW Z a q (q 20) F L) A H0 H locs) (hm : wp_X2_comparison (gX2 120) F L x1 K) (hl : Cond.methodLink own index yX2_comparison ∈ lw_g) (hlt : 10 + 120 < rn) (hsize : ls.size = nL) (hW : (rest.map fun v => v.category).sum ≤ 8) (hf : cells + 0 ≤ mcR ∧ slots + 0 ≤ msR) (hdg : decode cc pc = .ok (.invokevirtual index, 3)) (kk : ∀ (r : Int32) (F1 : M2) (L1 : L2) (H1 : Heap) (locs1 : List Loc), K r F1 L1 → TS vwCl D (KW Z a q (q 20) F1 L1) A H0 H1 locs1 → W p l e (rk rn mcR msR) s m args below meth c H1 locs1 cells slots Q (F0 m (pc + 3) ls (.int r :: rest))) : W p l e (rk rn mcR msR) s m args below meth c H locs cells slots Q (F0 m pc ls (.int x1 :: .ref (a 60) :: rest)) :=
  rw_go (wsF := (fun u : M2 × L2 => KW Z a q (q 20) u.1 u.2)) (u0 := (F, L)) (wr := []) (isC := cutKW) (isR := []) (pm := cutKW) (ws' := (fun u : M2 × L2 => KW Z a q (q 20) u.1 u.2)) (runV (As := [.int x1]) hC hN (c_X2_comparison 120 (gX2_ih 120) l D Z a q F L H.size x1 K hm) mi_X2_comparison hl wq_1119 wq_57 hlt hT.1 hT.D' hK (q0 := 0) rfl rfl rfl hsize rfl hW hdg hf) (cutOkKW Z a q (q 20) F L) hT (fun r u H1 locs1 hk hT1 => kk r u.1 u.2 H1 locs1 hk hT1)
theorem k_X2_sum {Z : Nat → ClassId} {a q : Nat → Nat} {F : M2} {L : L2} {x1 : Int32} {K : Int32 → M2 → L2 → Prop} (hC : CallFix p m c cc nL s args lw_g own) (hN : NW s) (hK : va_K D vwCl (tysG Z) s) (hT : TS vwCl D (KW Z a q (q 20) F L) A H0 H locs) (hm : wp_X2_sum (gX2 120) F L x1 K) (hl : Cond.methodLink own index yX2_sum ∈ lw_g) (hlt : 10 + 120 < rn) (hsize : ls.size = nL) (hW : (rest.map fun v => v.category).sum ≤ 8) (hf : cells + 0 ≤ mcR ∧ slots + 0 ≤ msR) (hdg : decode cc pc = .ok (.invokevirtual index, 3)) (kk : ∀ (r : Int32) (F1 : M2) (L1 : L2) (H1 : Heap) (locs1 : List Loc), K r F1 L1 → TS vwCl D (KW Z a q (q 20) F1 L1) A H0 H1 locs1 → W p l e (rk rn mcR msR) s m args below meth c H1 locs1 cells slots Q (F0 m (pc + 3) ls (.int r :: rest))) : W p l e (rk rn mcR msR) s m args below meth c H locs cells slots Q (F0 m pc ls (.int x1 :: .ref (a 60) :: rest)) :=
  rw_go (wsF := (fun u : M2 × L2 => KW Z a q (q 20) u.1 u.2)) (u0 := (F, L)) (wr := []) (isC := cutKW) (isR := []) (pm := cutKW) (ws' := (fun u : M2 × L2 => KW Z a q (q 20) u.1 u.2)) (runV (As := [.int x1]) hC hN (c_X2_sum 120 (gX2_ih 120) l D Z a q F L H.size x1 K hm) mi_X2_sum hl wq_1123 wq_58 hlt hT.1 hT.D' hK (q0 := 0) rfl rfl rfl hsize rfl hW hdg hf) (cutOkKW Z a q (q 20) F L) hT (fun r u H1 locs1 hk hT1 => kk r u.1 u.2 H1 locs1 hk hT1)
theorem k_X2_product {Z : Nat → ClassId} {a q : Nat → Nat} {F : M2} {L : L2} {x1 : Int32} {K : Int32 → M2 → L2 → Prop} (hC : CallFix p m c cc nL s args lw_g own) (hN : NW s) (hK : va_K D vwCl (tysG Z) s) (hT : TS vwCl D (KW Z a q (q 20) F L) A H0 H locs) (hm : wp_X2_product (gX2 120) F L x1 K) (hl : Cond.methodLink own index yX2_product ∈ lw_g) (hlt : 10 + 120 < rn) (hsize : ls.size = nL) (hW : (rest.map fun v => v.category).sum ≤ 8) (hf : cells + 0 ≤ mcR ∧ slots + 0 ≤ msR) (hdg : decode cc pc = .ok (.invokevirtual index, 3)) (kk : ∀ (r : Int32) (F1 : M2) (L1 : L2) (H1 : Heap) (locs1 : List Loc), K r F1 L1 → TS vwCl D (KW Z a q (q 20) F1 L1) A H0 H1 locs1 → W p l e (rk rn mcR msR) s m args below meth c H1 locs1 cells slots Q (F0 m (pc + 3) ls (.int r :: rest))) : W p l e (rk rn mcR msR) s m args below meth c H locs cells slots Q (F0 m pc ls (.int x1 :: .ref (a 60) :: rest)) :=
  rw_go (wsF := (fun u : M2 × L2 => KW Z a q (q 20) u.1 u.2)) (u0 := (F, L)) (wr := []) (isC := cutKW) (isR := []) (pm := cutKW) (ws' := (fun u : M2 × L2 => KW Z a q (q 20) u.1 u.2)) (runV (As := [.int x1]) hC hN (c_X2_product 120 (gX2_ih 120) l D Z a q F L H.size x1 K hm) mi_X2_product hl wq_1127 wq_59 hlt hT.1 hT.D' hK (q0 := 0) rfl rfl rfl hsize rfl hW hdg hf) (cutOkKW Z a q (q 20) F L) hT (fun r u H1 locs1 hk hT1 => kk r u.1 u.2 H1 locs1 hk hT1)
theorem k_X2_value {Z : Nat → ClassId} {a q : Nat → Nat} {F : M2} {L : L2} {x1 : Int32} {K : Int32 → M2 → L2 → Prop} (hC : CallFix p m c cc nL s args lw_g own) (hN : NW s) (hK : va_K D vwCl (tysG Z) s) (hT : TS vwCl D (KW Z a q (q 20) F L) A H0 H locs) (hm : wp_X2_value (gX2 120) F L x1 K) (hl : Cond.methodLink own index yX2_value ∈ lw_g) (hlt : 10 + 120 < rn) (hsize : ls.size = nL) (hW : (rest.map fun v => v.category).sum ≤ 8) (hf : cells + 0 ≤ mcR ∧ slots + 0 ≤ msR) (hdg : decode cc pc = .ok (.invokevirtual index, 3)) (kk : ∀ (r : Int32) (F1 : M2) (L1 : L2) (H1 : Heap) (locs1 : List Loc), K r F1 L1 → TS vwCl D (KW Z a q (q 20) F1 L1) A H0 H1 locs1 → W p l e (rk rn mcR msR) s m args below meth c H1 locs1 cells slots Q (F0 m (pc + 3) ls (.int r :: rest))) : W p l e (rk rn mcR msR) s m args below meth c H locs cells slots Q (F0 m pc ls (.int x1 :: .ref (a 60) :: rest)) :=
  rw_go (wsF := (fun u : M2 × L2 => KW Z a q (q 20) u.1 u.2)) (u0 := (F, L)) (wr := []) (isC := cutKW) (isR := []) (pm := cutKW) (ws' := (fun u : M2 × L2 => KW Z a q (q 20) u.1 u.2)) (runV (As := [.int x1]) hC hN (c_X2_value 120 (gX2_ih 120) l D Z a q F L H.size x1 K hm) mi_X2_value hl wq_1131 wq_60 hlt hT.1 hT.D' hK (q0 := 0) rfl rfl rfl hsize rfl hW hdg hf) (cutOkKW Z a q (q 20) F L) hT (fun r u H1 locs1 hk hT1 => kk r u.1 u.2 H1 locs1 hk hT1)
theorem k_X2_inBrackets {Z : Nat → ClassId} {a q : Nat → Nat} {F : M2} {L : L2} {x1 : Int32} {K : Int32 → M2 → L2 → Prop} (hC : CallFix p m c cc nL s args lw_g own) (hN : NW s) (hK : va_K D vwCl (tysG Z) s) (hT : TS vwCl D (KW Z a q (q 20) F L) A H0 H locs) (hm : wp_X2_inBrackets (gX2 120) F L x1 K) (hl : Cond.methodLink own index yX2_inBrackets ∈ lw_g) (hlt : 10 + 120 < rn) (hsize : ls.size = nL) (hW : (rest.map fun v => v.category).sum ≤ 8) (hf : cells + 0 ≤ mcR ∧ slots + 0 ≤ msR) (hdg : decode cc pc = .ok (.invokevirtual index, 3)) (kk : ∀ (r : Int32) (F1 : M2) (L1 : L2) (H1 : Heap) (locs1 : List Loc), K r F1 L1 → TS vwCl D (KW Z a q (q 20) F1 L1) A H0 H1 locs1 → W p l e (rk rn mcR msR) s m args below meth c H1 locs1 cells slots Q (F0 m (pc + 3) ls (.int r :: rest))) : W p l e (rk rn mcR msR) s m args below meth c H locs cells slots Q (F0 m pc ls (.int x1 :: .ref (a 60) :: rest)) :=
  rw_go (wsF := (fun u : M2 × L2 => KW Z a q (q 20) u.1 u.2)) (u0 := (F, L)) (wr := []) (isC := cutKW) (isR := []) (pm := cutKW) (ws' := (fun u : M2 × L2 => KW Z a q (q 20) u.1 u.2)) (runV (As := [.int x1]) hC hN (c_X2_inBrackets 120 (gX2_ih 120) l D Z a q F L H.size x1 K hm) mi_X2_inBrackets hl wq_1135 wq_61 hlt hT.1 hT.D' hK (q0 := 0) rfl rfl rfl hsize rfl hW hdg hf) (cutOkKW Z a q (q 20) F L) hT (fun r u H1 locs1 hk hT1 => kk r u.1 u.2 H1 locs1 hk hT1)
theorem k_X2_ofTwo {Z : Nat → ClassId} {a q : Nat → Nat} {F : M2} {L : L2} {x1 : Int32} {K : Int32 → M2 → L2 → Prop} (hC : CallFix p m c cc nL s args lw_g own) (hN : NW s) (hK : va_K D vwCl (tysG Z) s) (hT : TS vwCl D (KW Z a q (q 20) F L) A H0 H locs) (hm : wp_X2_ofTwo (gX2 120) F L x1 K) (hl : Cond.methodLink own index yX2_ofTwo ∈ lw_g) (hlt : 10 + 120 < rn) (hsize : ls.size = nL) (hW : (rest.map fun v => v.category).sum ≤ 8) (hf : cells + 0 ≤ mcR ∧ slots + 0 ≤ msR) (hdg : decode cc pc = .ok (.invokevirtual index, 3)) (kk : ∀ (r : Int32) (F1 : M2) (L1 : L2) (H1 : Heap) (locs1 : List Loc), K r F1 L1 → TS vwCl D (KW Z a q (q 20) F1 L1) A H0 H1 locs1 → W p l e (rk rn mcR msR) s m args below meth c H1 locs1 cells slots Q (F0 m (pc + 3) ls (.int r :: rest))) : W p l e (rk rn mcR msR) s m args below meth c H locs cells slots Q (F0 m pc ls (.int x1 :: .ref (a 60) :: rest)) :=
  rw_go (wsF := (fun u : M2 × L2 => KW Z a q (q 20) u.1 u.2)) (u0 := (F, L)) (wr := []) (isC := cutKW) (isR := []) (pm := cutKW) (ws' := (fun u : M2 × L2 => KW Z a q (q 20) u.1 u.2)) (runV (As := [.int x1]) hC hN (c_X2_ofTwo 120 (gX2_ih 120) l D Z a q F L H.size x1 K hm) mi_X2_ofTwo hl wq_1139 wq_62 hlt hT.1 hT.D' hK (q0 := 0) rfl rfl rfl hsize rfl hW hdg hf) (cutOkKW Z a q (q 20) F L) hT (fun r u H1 locs1 hk hT1 => kk r u.1 u.2 H1 locs1 hk hT1)
end KgX2
