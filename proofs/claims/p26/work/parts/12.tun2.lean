theorem dX4_putToWait_0 : decode cX4_putToWait 0 = .ok (.aload_n 0, 1) := by decide +kernel
theorem dX4_putToWait_1 : decode cX4_putToWait 1 = .ok (.getfield 37, 3) := by decide +kernel
theorem dX4_putToWait_4 : decode cX4_putToWait 4 = .ok (.iload_n 1, 1) := by decide +kernel
theorem dX4_putToWait_5 : decode cX4_putToWait 5 = .ok (.iload_n 2, 1) := by decide +kernel
theorem dX4_putToWait_6 : decode cX4_putToWait 6 = .ok (.invokestatic 64, 3) := by decide +kernel
theorem dX4_putToWait_9 : decode cX4_putToWait 9 = .ok (.aload_n 0, 1) := by decide +kernel
theorem dX4_putToWait_10 : decode cX4_putToWait 10 = .ok (.getfield 40, 3) := by decide +kernel
theorem dX4_putToWait_13 : decode cX4_putToWait 13 = .ok (.iload_n 1, 1) := by decide +kernel
theorem dX4_putToWait_14 : decode cX4_putToWait 14 = .ok (.iconst 0, 1) := by decide +kernel
theorem dX4_putToWait_15 : decode cX4_putToWait 15 = .ok (.invokestatic 64, 3) := by decide +kernel
theorem dX4_putToWait_18 : decode cX4_putToWait 18 = .ok (.aload_n 0, 1) := by decide +kernel
theorem dX4_putToWait_19 : decode cX4_putToWait 19 = .ok (.getfield 43, 3) := by decide +kernel
theorem dX4_putToWait_22 : decode cX4_putToWait 22 = .ok (.iload_n 1, 1) := by decide +kernel
theorem dX4_putToWait_23 : decode cX4_putToWait 23 = .ok (.iconst (-1), 1) := by decide +kernel
theorem dX4_putToWait_24 : decode cX4_putToWait 24 = .ok (.invokestatic 64, 3) := by decide +kernel
theorem dX4_putToWait_27 : decode cX4_putToWait 27 = .ok (.aload_n 0, 1) := by decide +kernel
theorem dX4_putToWait_28 : decode cX4_putToWait 28 = .ok (.getfield 46, 3) := by decide +kernel
theorem dX4_putToWait_31 : decode cX4_putToWait 31 = .ok (.iload_n 1, 1) := by decide +kernel
theorem dX4_putToWait_32 : decode cX4_putToWait 32 = .ok (.iconst 0, 1) := by decide +kernel
theorem dX4_putToWait_33 : decode cX4_putToWait 33 = .ok (.invokestatic 64, 3) := by decide +kernel
theorem dX4_putToWait_36 : decode cX4_putToWait 36 = .ok (.aload_n 0, 1) := by decide +kernel
theorem dX4_putToWait_37 : decode cX4_putToWait 37 = .ok (.getfield 49, 3) := by decide +kernel
theorem dX4_putToWait_40 : decode cX4_putToWait 40 = .ok (.iload_n 1, 1) := by decide +kernel
theorem dX4_putToWait_41 : decode cX4_putToWait 41 = .ok (.iconst (-1), 1) := by decide +kernel
theorem dX4_putToWait_42 : decode cX4_putToWait 42 = .ok (.invokestatic 64, 3) := by decide +kernel
theorem dX4_putToWait_45 : decode cX4_putToWait 45 = .ok (.return_, 1) := by decide +kernel
theorem dX4_sendBack_0 : decode cX4_sendBack 0 = .ok (.aload_n 0, 1) := by decide +kernel
theorem dX4_sendBack_1 : decode cX4_sendBack 1 = .ok (.getfield 34, 3) := by decide +kernel
theorem dX4_sendBack_4 : decode cX4_sendBack 4 = .ok (.iload_n 1, 1) := by decide +kernel
theorem dX4_sendBack_5 : decode cX4_sendBack 5 = .ok (.aload_n 0, 1) := by decide +kernel
theorem dX4_sendBack_6 : decode cX4_sendBack 6 = .ok (.getfield 34, 3) := by decide +kernel
theorem dX4_sendBack_9 : decode cX4_sendBack 9 = .ok (.iload_n 1, 1) := by decide +kernel
theorem dX4_sendBack_10 : decode cX4_sendBack 10 = .ok (.invokestatic 79, 3) := by decide +kernel
theorem dX4_sendBack_13 : decode cX4_sendBack 13 = .ok (.ifCond .ne 7, 3) := by decide +kernel
theorem dX4_sendBack_16 : decode cX4_sendBack 16 = .ok (.iconst 1, 1) := by decide +kernel
theorem dX4_sendBack_17 : decode cX4_sendBack 17 = .ok (.goto 4, 3) := by decide +kernel
theorem dX4_sendBack_20 : decode cX4_sendBack 20 = .ok (.iconst 0, 1) := by decide +kernel
theorem dX4_sendBack_21 : decode cX4_sendBack 21 = .ok (.invokestatic 64, 3) := by decide +kernel
theorem dX4_sendBack_24 : decode cX4_sendBack 24 = .ok (.aload_n 0, 1) := by decide +kernel
theorem dX4_sendBack_25 : decode cX4_sendBack 25 = .ok (.iload_n 1, 1) := by decide +kernel
theorem dX4_sendBack_26 : decode cX4_sendBack 26 = .ok (.iload_n 2, 1) := by decide +kernel
theorem dX4_sendBack_27 : decode cX4_sendBack 27 = .ok (.invokevirtual 84, 3) := by decide +kernel
theorem dX4_sendBack_30 : decode cX4_sendBack 30 = .ok (.return_, 1) := by decide +kernel
theorem dX4_holds_0 : decode cX4_holds 0 = .ok (.aload_n 0, 1) := by decide +kernel
theorem dX4_holds_1 : decode cX4_holds 1 = .ok (.getfield 55, 3) := by decide +kernel
theorem dX4_holds_4 : decode cX4_holds 4 = .ok (.getfield 142, 3) := by decide +kernel
theorem dX4_holds_7 : decode cX4_holds 7 = .ok (.astore_n 2, 1) := by decide +kernel
theorem dX4_holds_8 : decode cX4_holds 8 = .ok (.aload_n 2, 1) := by decide +kernel
theorem dX4_holds_9 : decode cX4_holds 9 = .ok (.getfield 235, 3) := by decide +kernel
theorem dX4_holds_12 : decode cX4_holds 12 = .ok (.iload_n 1, 1) := by decide +kernel
theorem dX4_holds_13 : decode cX4_holds 13 = .ok (.invokestatic 79, 3) := by decide +kernel
theorem dX4_holds_16 : decode cX4_holds 16 = .ok (.istore_n 3, 1) := by decide +kernel
theorem dX4_holds_17 : decode cX4_holds 17 = .ok (.iconst (-1), 1) := by decide +kernel
theorem dX4_holds_18 : decode cX4_holds 18 = .ok (.istore 4, 2) := by decide +kernel
theorem dX4_holds_20 : decode cX4_holds 20 = .ok (.aload_n 2, 1) := by decide +kernel
theorem dX4_holds_21 : decode cX4_holds 21 = .ok (.getfield 238, 3) := by decide +kernel
theorem dX4_holds_24 : decode cX4_holds 24 = .ok (.iload_n 1, 1) := by decide +kernel
theorem dX4_holds_25 : decode cX4_holds 25 = .ok (.invokestatic 79, 3) := by decide +kernel
theorem dX4_holds_28 : decode cX4_holds 28 = .ok (.istore 5, 2) := by decide +kernel
theorem dX4_holds_30 : decode cX4_holds 30 = .ok (.iload 5, 2) := by decide +kernel
theorem dX4_holds_32 : decode cX4_holds 32 = .ok (.iload_n 3, 1) := by decide +kernel
theorem dX4_holds_33 : decode cX4_holds 33 = .ok (.if_icmp .ge 128, 3) := by decide +kernel
theorem dX4_holds_36 : decode cX4_holds 36 = .ok (.aload_n 2, 1) := by decide +kernel
theorem dX4_holds_37 : decode cX4_holds 37 = .ok (.getfield 241, 3) := by decide +kernel
theorem dX4_holds_40 : decode cX4_holds 40 = .ok (.iload 5, 2) := by decide +kernel
theorem dX4_holds_42 : decode cX4_holds 42 = .ok (.invokestatic 79, 3) := by decide +kernel
theorem dX4_holds_45 : decode cX4_holds 45 = .ok (.istore 6, 2) := by decide +kernel
theorem dX4_holds_47 : decode cX4_holds 47 = .ok (.iload 6, 2) := by decide +kernel
theorem dX4_holds_49 : decode cX4_holds 49 = .ok (.bipush 11, 2) := by decide +kernel
theorem dX4_holds_51 : decode cX4_holds 51 = .ok (.if_icmp .gt 33, 3) := by decide +kernel
theorem dX4_holds_54 : decode cX4_holds 54 = .ok (.iinc 4 1, 3) := by decide +kernel
theorem dX4_holds_57 : decode cX4_holds 57 = .ok (.aload_n 0, 1) := by decide +kernel
theorem dX4_holds_58 : decode cX4_holds 58 = .ok (.getfield 52, 3) := by decide +kernel
theorem dX4_holds_61 : decode cX4_holds 61 = .ok (.iload 4, 2) := by decide +kernel
theorem dX4_holds_63 : decode cX4_holds 63 = .ok (.aload_n 0, 1) := by decide +kernel
theorem dX4_holds_64 : decode cX4_holds 64 = .ok (.iload 6, 2) := by decide +kernel
theorem dX4_holds_66 : decode cX4_holds 66 = .ok (.aload_n 2, 1) := by decide +kernel
theorem dX4_holds_67 : decode cX4_holds 67 = .ok (.getfield 244, 3) := by decide +kernel
theorem dX4_holds_70 : decode cX4_holds 70 = .ok (.iload 5, 2) := by decide +kernel
theorem dX4_holds_72 : decode cX4_holds 72 = .ok (.invokestatic 79, 3) := by decide +kernel
theorem dX4_holds_75 : decode cX4_holds 75 = .ok (.invokevirtual 247, 3) := by decide +kernel
theorem dX4_holds_78 : decode cX4_holds 78 = .ok (.invokestatic 64, 3) := by decide +kernel
theorem dX4_holds_81 : decode cX4_holds 81 = .ok (.goto 74, 3) := by decide +kernel
theorem dX4_holds_84 : decode cX4_holds 84 = .ok (.iload 6, 2) := by decide +kernel
theorem dX4_holds_86 : decode cX4_holds 86 = .ok (.bipush 14, 2) := by decide +kernel
theorem dX4_holds_88 : decode cX4_holds 88 = .ok (.if_icmp .gt 30, 3) := by decide +kernel
theorem dX4_holds_91 : decode cX4_holds 91 = .ok (.aload_n 0, 1) := by decide +kernel
theorem dX4_holds_92 : decode cX4_holds 92 = .ok (.getfield 52, 3) := by decide +kernel
theorem dX4_holds_95 : decode cX4_holds 95 = .ok (.iload 4, 2) := by decide +kernel
theorem dX4_holds_97 : decode cX4_holds 97 = .ok (.aload_n 0, 1) := by decide +kernel
theorem dX4_holds_98 : decode cX4_holds 98 = .ok (.iload 6, 2) := by decide +kernel
theorem dX4_holds_100 : decode cX4_holds 100 = .ok (.aload_n 0, 1) := by decide +kernel
theorem dX4_holds_101 : decode cX4_holds 101 = .ok (.getfield 52, 3) := by decide +kernel
theorem dX4_holds_104 : decode cX4_holds 104 = .ok (.iload 4, 2) := by decide +kernel
theorem dX4_holds_106 : decode cX4_holds 106 = .ok (.invokestatic 79, 3) := by decide +kernel
theorem dX4_holds_109 : decode cX4_holds 109 = .ok (.invokevirtual 250, 3) := by decide +kernel
theorem dX4_holds_112 : decode cX4_holds 112 = .ok (.invokestatic 64, 3) := by decide +kernel
theorem dX4_holds_115 : decode cX4_holds 115 = .ok (.goto 40, 3) := by decide +kernel
theorem dX4_holds_118 : decode cX4_holds 118 = .ok (.iinc 4 (-1), 3) := by decide +kernel
theorem dX4_holds_121 : decode cX4_holds 121 = .ok (.aload_n 0, 1) := by decide +kernel
theorem dX4_holds_122 : decode cX4_holds 122 = .ok (.getfield 52, 3) := by decide +kernel
theorem dX4_holds_125 : decode cX4_holds 125 = .ok (.iload 4, 2) := by decide +kernel
theorem dX4_holds_127 : decode cX4_holds 127 = .ok (.iload 6, 2) := by decide +kernel
theorem dX4_holds_129 : decode cX4_holds 129 = .ok (.aload_n 0, 1) := by decide +kernel
theorem dX4_holds_130 : decode cX4_holds 130 = .ok (.getfield 52, 3) := by decide +kernel
theorem dX4_holds_133 : decode cX4_holds 133 = .ok (.iload 4, 2) := by decide +kernel
theorem dX4_holds_135 : decode cX4_holds 135 = .ok (.invokestatic 79, 3) := by decide +kernel
theorem dX4_holds_138 : decode cX4_holds 138 = .ok (.aload_n 0, 1) := by decide +kernel
theorem dX4_holds_139 : decode cX4_holds 139 = .ok (.getfield 52, 3) := by decide +kernel
theorem dX4_holds_142 : decode cX4_holds 142 = .ok (.iload 4, 2) := by decide +kernel
theorem dX4_holds_144 : decode cX4_holds 144 = .ok (.iconst 1, 1) := by decide +kernel
theorem dX4_holds_145 : decode cX4_holds 145 = .ok (.iadd, 1) := by decide +kernel
theorem dX4_holds_146 : decode cX4_holds 146 = .ok (.invokestatic 79, 3) := by decide +kernel
theorem dX4_holds_149 : decode cX4_holds 149 = .ok (.invokestatic 253, 3) := by decide +kernel
theorem dX4_holds_152 : decode cX4_holds 152 = .ok (.invokestatic 64, 3) := by decide +kernel
theorem dX4_holds_155 : decode cX4_holds 155 = .ok (.iinc 5 1, 3) := by decide +kernel
theorem dX4_holds_158 : decode cX4_holds 158 = .ok (.goto (-128), 3) := by decide +kernel
theorem dX4_holds_161 : decode cX4_holds 161 = .ok (.aload_n 0, 1) := by decide +kernel
theorem dX4_holds_162 : decode cX4_holds 162 = .ok (.getfield 52, 3) := by decide +kernel
theorem dX4_holds_165 : decode cX4_holds 165 = .ok (.iconst 0, 1) := by decide +kernel
theorem dX4_holds_166 : decode cX4_holds 166 = .ok (.invokestatic 79, 3) := by decide +kernel
theorem dX4_holds_169 : decode cX4_holds 169 = .ok (.ifCond .eq 7, 3) := by decide +kernel
theorem dX4_holds_172 : decode cX4_holds 172 = .ok (.iconst 1, 1) := by decide +kernel
theorem dX4_holds_173 : decode cX4_holds 173 = .ok (.goto 4, 3) := by decide +kernel
theorem dX4_holds_176 : decode cX4_holds 176 = .ok (.iconst 0, 1) := by decide +kernel
theorem dX4_holds_177 : decode cX4_holds 177 = .ok (.ireturn, 1) := by decide +kernel
theorem dX4_chooseTurn_0 : decode cX4_chooseTurn 0 = .ok (.aload_n 0, 1) := by decide +kernel
theorem dX4_chooseTurn_1 : decode cX4_chooseTurn 1 = .ok (.getfield 55, 3) := by decide +kernel
theorem dX4_chooseTurn_4 : decode cX4_chooseTurn 4 = .ok (.getfield 142, 3) := by decide +kernel
theorem dX4_chooseTurn_7 : decode cX4_chooseTurn 7 = .ok (.astore_n 1, 1) := by decide +kernel
theorem dX4_chooseTurn_8 : decode cX4_chooseTurn 8 = .ok (.iconst 0, 1) := by decide +kernel
theorem dX4_chooseTurn_9 : decode cX4_chooseTurn 9 = .ok (.istore_n 2, 1) := by decide +kernel
theorem dX4_chooseTurn_10 : decode cX4_chooseTurn 10 = .ok (.iload_n 2, 1) := by decide +kernel
theorem dX4_chooseTurn_11 : decode cX4_chooseTurn 11 = .ok (.aload_n 1, 1) := by decide +kernel
theorem dX4_chooseTurn_12 : decode cX4_chooseTurn 12 = .ok (.getfield 146, 3) := by decide +kernel
theorem dX4_chooseTurn_15 : decode cX4_chooseTurn 15 = .ok (.if_icmp .ge 43, 3) := by decide +kernel
theorem dX4_chooseTurn_18 : decode cX4_chooseTurn 18 = .ok (.aload_n 1, 1) := by decide +kernel
theorem dX4_chooseTurn_19 : decode cX4_chooseTurn 19 = .ok (.getfield 151, 3) := by decide +kernel
theorem dX4_chooseTurn_22 : decode cX4_chooseTurn 22 = .ok (.iload_n 2, 1) := by decide +kernel
theorem dX4_chooseTurn_23 : decode cX4_chooseTurn 23 = .ok (.invokestatic 79, 3) := by decide +kernel
theorem dX4_chooseTurn_26 : decode cX4_chooseTurn 26 = .ok (.bipush 48, 2) := by decide +kernel
theorem dX4_chooseTurn_28 : decode cX4_chooseTurn 28 = .ok (.if_icmp .ne 24, 3) := by decide +kernel
theorem dX4_chooseTurn_31 : decode cX4_chooseTurn 31 = .ok (.aload_n 0, 1) := by decide +kernel
theorem dX4_chooseTurn_32 : decode cX4_chooseTurn 32 = .ok (.iload_n 2, 1) := by decide +kernel
theorem dX4_chooseTurn_33 : decode cX4_chooseTurn 33 = .ok (.invokevirtual 154, 3) := by decide +kernel
theorem dX4_chooseTurn_36 : decode cX4_chooseTurn 36 = .ok (.ifCond .eq 16, 3) := by decide +kernel
theorem dX4_chooseTurn_39 : decode cX4_chooseTurn 39 = .ok (.aload_n 0, 1) := by decide +kernel
theorem dX4_chooseTurn_40 : decode cX4_chooseTurn 40 = .ok (.aload_n 1, 1) := by decide +kernel
theorem dX4_chooseTurn_41 : decode cX4_chooseTurn 41 = .ok (.getfield 157, 3) := by decide +kernel
theorem dX4_chooseTurn_44 : decode cX4_chooseTurn 44 = .ok (.iload_n 2, 1) := by decide +kernel
theorem dX4_chooseTurn_45 : decode cX4_chooseTurn 45 = .ok (.invokestatic 79, 3) := by decide +kernel
theorem dX4_chooseTurn_48 : decode cX4_chooseTurn 48 = .ok (.putfield 15, 3) := by decide +kernel
theorem dX4_chooseTurn_51 : decode cX4_chooseTurn 51 = .ok (.return_, 1) := by decide +kernel
theorem dX4_chooseTurn_52 : decode cX4_chooseTurn 52 = .ok (.iinc 2 1, 3) := by decide +kernel
theorem dX4_chooseTurn_55 : decode cX4_chooseTurn 55 = .ok (.goto (-45), 3) := by decide +kernel
theorem dX4_chooseTurn_58 : decode cX4_chooseTurn 58 = .ok (.return_, 1) := by decide +kernel
theorem dX4_crewRests_0 : decode cX4_crewRests 0 = .ok (.aload_n 0, 1) := by decide +kernel
theorem dX4_crewRests_1 : decode cX4_crewRests 1 = .ok (.getfield 55, 3) := by decide +kernel
theorem dX4_crewRests_4 : decode cX4_crewRests 4 = .ok (.getfield 142, 3) := by decide +kernel
theorem dX4_crewRests_7 : decode cX4_crewRests 7 = .ok (.astore_n 2, 1) := by decide +kernel
theorem dX4_crewRests_8 : decode cX4_crewRests 8 = .ok (.iconst 0, 1) := by decide +kernel
theorem dX4_crewRests_9 : decode cX4_crewRests 9 = .ok (.istore_n 3, 1) := by decide +kernel
theorem dX4_crewRests_10 : decode cX4_crewRests 10 = .ok (.iload_n 3, 1) := by decide +kernel
theorem dX4_crewRests_11 : decode cX4_crewRests 11 = .ok (.aload_n 2, 1) := by decide +kernel
theorem dX4_crewRests_12 : decode cX4_crewRests 12 = .ok (.getfield 146, 3) := by decide +kernel
theorem dX4_crewRests_15 : decode cX4_crewRests 15 = .ok (.if_icmp .ge 51, 3) := by decide +kernel
theorem dX4_crewRests_18 : decode cX4_crewRests 18 = .ok (.aload_n 2, 1) := by decide +kernel
theorem dX4_crewRests_19 : decode cX4_crewRests 19 = .ok (.getfield 151, 3) := by decide +kernel
theorem dX4_crewRests_22 : decode cX4_crewRests 22 = .ok (.iload_n 3, 1) := by decide +kernel
theorem dX4_crewRests_23 : decode cX4_crewRests 23 = .ok (.invokestatic 79, 3) := by decide +kernel
theorem dX4_crewRests_26 : decode cX4_crewRests 26 = .ok (.bipush 49, 2) := by decide +kernel
theorem dX4_crewRests_28 : decode cX4_crewRests 28 = .ok (.if_icmp .ne 32, 3) := by decide +kernel
theorem dX4_crewRests_31 : decode cX4_crewRests 31 = .ok (.aload_n 0, 1) := by decide +kernel
theorem dX4_crewRests_32 : decode cX4_crewRests 32 = .ok (.getfield 55, 3) := by decide +kernel
theorem dX4_crewRests_35 : decode cX4_crewRests 35 = .ok (.aload_n 2, 1) := by decide +kernel
theorem dX4_crewRests_36 : decode cX4_crewRests 36 = .ok (.getfield 157, 3) := by decide +kernel
theorem dX4_crewRests_39 : decode cX4_crewRests 39 = .ok (.iload_n 3, 1) := by decide +kernel
theorem dX4_crewRests_40 : decode cX4_crewRests 40 = .ok (.invokestatic 79, 3) := by decide +kernel
theorem dX4_crewRests_43 : decode cX4_crewRests 43 = .ok (.iload_n 1, 1) := by decide +kernel
theorem dX4_crewRests_44 : decode cX4_crewRests 44 = .ok (.invokevirtual 112, 3) := by decide +kernel
theorem dX4_crewRests_47 : decode cX4_crewRests 47 = .ok (.ifCond .eq 13, 3) := by decide +kernel
theorem dX4_crewRests_50 : decode cX4_crewRests 50 = .ok (.aload_n 0, 1) := by decide +kernel
theorem dX4_crewRests_51 : decode cX4_crewRests 51 = .ok (.iload_n 3, 1) := by decide +kernel
theorem dX4_crewRests_52 : decode cX4_crewRests 52 = .ok (.invokevirtual 154, 3) := by decide +kernel
theorem dX4_crewRests_55 : decode cX4_crewRests 55 = .ok (.ifCond .eq 5, 3) := by decide +kernel
theorem dX4_crewRests_58 : decode cX4_crewRests 58 = .ok (.iconst 1, 1) := by decide +kernel
theorem dX4_crewRests_59 : decode cX4_crewRests 59 = .ok (.ireturn, 1) := by decide +kernel
theorem dX4_crewRests_60 : decode cX4_crewRests 60 = .ok (.iinc 3 1, 3) := by decide +kernel
theorem dX4_crewRests_63 : decode cX4_crewRests 63 = .ok (.goto (-53), 3) := by decide +kernel
theorem dX4_crewRests_66 : decode cX4_crewRests 66 = .ok (.iconst 0, 1) := by decide +kernel
theorem dX4_crewRests_67 : decode cX4_crewRests 67 = .ok (.ireturn, 1) := by decide +kernel
theorem dX4_goesIn_0 : decode cX4_goesIn 0 = .ok (.aload_n 0, 1) := by decide +kernel
theorem dX4_goesIn_1 : decode cX4_goesIn 1 = .ok (.iload_n 1, 1) := by decide +kernel
theorem dX4_goesIn_2 : decode cX4_goesIn 2 = .ok (.invokevirtual 160, 3) := by decide +kernel
theorem dX4_goesIn_5 : decode cX4_goesIn 5 = .ok (.ifCond .eq 87, 3) := by decide +kernel
theorem dX4_goesIn_8 : decode cX4_goesIn 8 = .ok (.aload_n 0, 1) := by decide +kernel
theorem dX4_goesIn_9 : decode cX4_goesIn 9 = .ok (.getfield 34, 3) := by decide +kernel
theorem dX4_goesIn_12 : decode cX4_goesIn 12 = .ok (.iload_n 1, 1) := by decide +kernel
theorem dX4_goesIn_13 : decode cX4_goesIn 13 = .ok (.invokestatic 79, 3) := by decide +kernel
theorem dX4_goesIn_16 : decode cX4_goesIn 16 = .ok (.aload_n 0, 1) := by decide +kernel
theorem dX4_goesIn_17 : decode cX4_goesIn 17 = .ok (.getfield 15, 3) := by decide +kernel
theorem dX4_goesIn_20 : decode cX4_goesIn 20 = .ok (.if_icmp .ne 72, 3) := by decide +kernel
theorem dX4_goesIn_23 : decode cX4_goesIn 23 = .ok (.aload_n 0, 1) := by decide +kernel
theorem dX4_goesIn_24 : decode cX4_goesIn 24 = .ok (.getfield 55, 3) := by decide +kernel
theorem dX4_goesIn_27 : decode cX4_goesIn 27 = .ok (.getfield 59, 3) := by decide +kernel
theorem dX4_goesIn_30 : decode cX4_goesIn 30 = .ok (.ifCond .le 62, 3) := by decide +kernel
theorem dX4_goesIn_33 : decode cX4_goesIn 33 = .ok (.aload_n 0, 1) := by decide +kernel
theorem dX4_goesIn_34 : decode cX4_goesIn 34 = .ok (.aload_n 0, 1) := by decide +kernel
theorem dX4_goesIn_35 : decode cX4_goesIn 35 = .ok (.getfield 15, 3) := by decide +kernel
theorem dX4_goesIn_38 : decode cX4_goesIn 38 = .ok (.invokevirtual 163, 3) := by decide +kernel
theorem dX4_goesIn_41 : decode cX4_goesIn 41 = .ok (.ifCond .eq 51, 3) := by decide +kernel
theorem dX4_goesIn_44 : decode cX4_goesIn 44 = .ok (.aload_n 0, 1) := by decide +kernel
theorem dX4_goesIn_45 : decode cX4_goesIn 45 = .ok (.aload_n 0, 1) := by decide +kernel
theorem dX4_goesIn_46 : decode cX4_goesIn 46 = .ok (.getfield 55, 3) := by decide +kernel
theorem dX4_goesIn_49 : decode cX4_goesIn 49 = .ok (.getfield 166, 3) := by decide +kernel
theorem dX4_goesIn_52 : decode cX4_goesIn 52 = .ok (.iload_n 1, 1) := by decide +kernel
theorem dX4_goesIn_53 : decode cX4_goesIn 53 = .ok (.invokestatic 79, 3) := by decide +kernel
theorem dX4_goesIn_56 : decode cX4_goesIn 56 = .ok (.invokevirtual 169, 3) := by decide +kernel
theorem dX4_goesIn_59 : decode cX4_goesIn 59 = .ok (.ifCond .eq 33, 3) := by decide +kernel
theorem dX4_goesIn_62 : decode cX4_goesIn 62 = .ok (.aload_n 0, 1) := by decide +kernel
theorem dX4_goesIn_63 : decode cX4_goesIn 63 = .ok (.aload_n 0, 1) := by decide +kernel
theorem dX4_goesIn_64 : decode cX4_goesIn 64 = .ok (.getfield 55, 3) := by decide +kernel
theorem dX4_goesIn_67 : decode cX4_goesIn 67 = .ok (.getfield 172, 3) := by decide +kernel
theorem dX4_goesIn_70 : decode cX4_goesIn 70 = .ok (.iload_n 1, 1) := by decide +kernel
theorem dX4_goesIn_71 : decode cX4_goesIn 71 = .ok (.invokestatic 79, 3) := by decide +kernel
theorem dX4_goesIn_74 : decode cX4_goesIn 74 = .ok (.invokevirtual 169, 3) := by decide +kernel
theorem dX4_goesIn_77 : decode cX4_goesIn 77 = .ok (.ifCond .eq 15, 3) := by decide +kernel
theorem dX4_goesIn_80 : decode cX4_goesIn 80 = .ok (.aload_n 0, 1) := by decide +kernel
theorem dX4_goesIn_81 : decode cX4_goesIn 81 = .ok (.iload_n 1, 1) := by decide +kernel
theorem dX4_goesIn_82 : decode cX4_goesIn 82 = .ok (.invokevirtual 175, 3) := by decide +kernel
theorem dX4_goesIn_85 : decode cX4_goesIn 85 = .ok (.ifCond .ne 7, 3) := by decide +kernel
theorem dX4_goesIn_88 : decode cX4_goesIn 88 = .ok (.iconst 1, 1) := by decide +kernel
theorem dX4_goesIn_89 : decode cX4_goesIn 89 = .ok (.goto 4, 3) := by decide +kernel
theorem dX4_goesIn_92 : decode cX4_goesIn 92 = .ok (.iconst 0, 1) := by decide +kernel
theorem dX4_goesIn_93 : decode cX4_goesIn 93 = .ok (.ireturn, 1) := by decide +kernel
theorem dX4_passLow_0 : decode cX4_passLow 0 = .ok (.aload_n 0, 1) := by decide +kernel
theorem dX4_passLow_1 : decode cX4_passLow 1 = .ok (.getfield 31, 3) := by decide +kernel
theorem dX4_passLow_4 : decode cX4_passLow 4 = .ok (.iload_n 1, 1) := by decide +kernel
theorem dX4_passLow_5 : decode cX4_passLow 5 = .ok (.invokestatic 79, 3) := by decide +kernel
theorem dX4_passLow_8 : decode cX4_passLow 8 = .ok (.iconst (-1), 1) := by decide +kernel
theorem dX4_passLow_9 : decode cX4_passLow 9 = .ok (.if_icmp .eq 15, 3) := by decide +kernel
theorem dX4_passLow_12 : decode cX4_passLow 12 = .ok (.aload_n 0, 1) := by decide +kernel
theorem dX4_passLow_13 : decode cX4_passLow 13 = .ok (.getfield 31, 3) := by decide +kernel
theorem dX4_passLow_16 : decode cX4_passLow 16 = .ok (.iload_n 1, 1) := by decide +kernel
theorem dX4_passLow_17 : decode cX4_passLow 17 = .ok (.invokestatic 79, 3) := by decide +kernel
theorem dX4_passLow_20 : decode cX4_passLow 20 = .ok (.iload_n 2, 1) := by decide +kernel
theorem dX4_passLow_21 : decode cX4_passLow 21 = .ok (.if_icmp .ne 7, 3) := by decide +kernel
theorem dX4_passLow_24 : decode cX4_passLow 24 = .ok (.iconst 1, 1) := by decide +kernel
theorem dX4_passLow_25 : decode cX4_passLow 25 = .ok (.goto 4, 3) := by decide +kernel
theorem dX4_passLow_28 : decode cX4_passLow 28 = .ok (.iconst 0, 1) := by decide +kernel
theorem dX4_passLow_29 : decode cX4_passLow 29 = .ok (.istore 4, 2) := by decide +kernel
theorem dX4_passLow_31 : decode cX4_passLow 31 = .ok (.iload 4, 2) := by decide +kernel
theorem dX4_passLow_33 : decode cX4_passLow 33 = .ok (.ifCond .eq 34, 3) := by decide +kernel
theorem dX4_passLow_36 : decode cX4_passLow 36 = .ok (.aload_n 0, 1) := by decide +kernel
theorem dX4_passLow_37 : decode cX4_passLow 37 = .ok (.getfield 31, 3) := by decide +kernel
theorem dX4_passLow_40 : decode cX4_passLow 40 = .ok (.iload_n 1, 1) := by decide +kernel
theorem dX4_passLow_41 : decode cX4_passLow 41 = .ok (.iload_n 3, 1) := by decide +kernel
theorem dX4_passLow_42 : decode cX4_passLow 42 = .ok (.bipush 12, 2) := by decide +kernel
theorem dX4_passLow_44 : decode cX4_passLow 44 = .ok (.aload_n 0, 1) := by decide +kernel
theorem dX4_passLow_45 : decode cX4_passLow 45 = .ok (.getfield 55, 3) := by decide +kernel
theorem dX4_passLow_48 : decode cX4_passLow 48 = .ok (.getfield 194, 3) := by decide +kernel
theorem dX4_passLow_51 : decode cX4_passLow 51 = .ok (.iload_n 1, 1) := by decide +kernel
theorem dX4_passLow_52 : decode cX4_passLow 52 = .ok (.invokestatic 79, 3) := by decide +kernel
theorem dX4_passLow_55 : decode cX4_passLow 55 = .ok (.isub, 1) := by decide +kernel
theorem dX4_passLow_56 : decode cX4_passLow 56 = .ok (.if_icmp .le 7, 3) := by decide +kernel
theorem dX4_passLow_59 : decode cX4_passLow 59 = .ok (.iload_n 2, 1) := by decide +kernel
theorem dX4_passLow_60 : decode cX4_passLow 60 = .ok (.goto 4, 3) := by decide +kernel
theorem dX4_passLow_63 : decode cX4_passLow 63 = .ok (.iconst (-1), 1) := by decide +kernel
theorem dX4_passLow_64 : decode cX4_passLow 64 = .ok (.invokestatic 64, 3) := by decide +kernel
theorem dX4_passLow_67 : decode cX4_passLow 67 = .ok (.return_, 1) := by decide +kernel
theorem dX4_comeTo_0 : decode cX4_comeTo 0 = .ok (.aload_n 0, 1) := by decide +kernel
theorem dX4_comeTo_1 : decode cX4_comeTo 1 = .ok (.getfield 43, 3) := by decide +kernel
theorem dX4_comeTo_4 : decode cX4_comeTo 4 = .ok (.iload_n 1, 1) := by decide +kernel
theorem dX4_comeTo_5 : decode cX4_comeTo 5 = .ok (.iload_n 2, 1) := by decide +kernel
theorem dX4_comeTo_6 : decode cX4_comeTo 6 = .ok (.invokestatic 64, 3) := by decide +kernel
theorem dX4_comeTo_9 : decode cX4_comeTo 9 = .ok (.aload_n 0, 1) := by decide +kernel
theorem dX4_comeTo_10 : decode cX4_comeTo 10 = .ok (.getfield 55, 3) := by decide +kernel
theorem dX4_comeTo_13 : decode cX4_comeTo 13 = .ok (.getfield 184, 3) := by decide +kernel
theorem dX4_comeTo_16 : decode cX4_comeTo 16 = .ok (.aload_n 0, 1) := by decide +kernel
theorem dX4_comeTo_17 : decode cX4_comeTo 17 = .ok (.getfield 55, 3) := by decide +kernel
theorem dX4_comeTo_20 : decode cX4_comeTo 20 = .ok (.getfield 187, 3) := by decide +kernel
theorem dX4_comeTo_23 : decode cX4_comeTo 23 = .ok (.iload_n 2, 1) := by decide +kernel
theorem dX4_comeTo_24 : decode cX4_comeTo 24 = .ok (.invokestatic 79, 3) := by decide +kernel
theorem dX4_comeTo_27 : decode cX4_comeTo 27 = .ok (.invokestatic 79, 3) := by decide +kernel
theorem dX4_comeTo_30 : decode cX4_comeTo 30 = .ok (.istore_n 3, 1) := by decide +kernel
theorem dX4_comeTo_31 : decode cX4_comeTo 31 = .ok (.aload_n 0, 1) := by decide +kernel
theorem dX4_comeTo_32 : decode cX4_comeTo 32 = .ok (.aload_n 0, 1) := by decide +kernel
theorem dX4_comeTo_33 : decode cX4_comeTo 33 = .ok (.getfield 55, 3) := by decide +kernel
theorem dX4_comeTo_36 : decode cX4_comeTo 36 = .ok (.getfield 166, 3) := by decide +kernel
theorem dX4_comeTo_39 : decode cX4_comeTo 39 = .ok (.iload_n 1, 1) := by decide +kernel
theorem dX4_comeTo_40 : decode cX4_comeTo 40 = .ok (.invokestatic 79, 3) := by decide +kernel
theorem dX4_comeTo_43 : decode cX4_comeTo 43 = .ok (.iload_n 2, 1) := by decide +kernel
theorem dX4_comeTo_44 : decode cX4_comeTo 44 = .ok (.iload_n 3, 1) := by decide +kernel
theorem dX4_comeTo_45 : decode cX4_comeTo 45 = .ok (.invokevirtual 190, 3) := by decide +kernel
theorem dX4_comeTo_48 : decode cX4_comeTo 48 = .ok (.aload_n 0, 1) := by decide +kernel
theorem dX4_comeTo_49 : decode cX4_comeTo 49 = .ok (.aload_n 0, 1) := by decide +kernel
theorem dX4_comeTo_50 : decode cX4_comeTo 50 = .ok (.getfield 55, 3) := by decide +kernel
theorem dX4_comeTo_53 : decode cX4_comeTo 53 = .ok (.getfield 172, 3) := by decide +kernel
theorem dX4_comeTo_56 : decode cX4_comeTo 56 = .ok (.iload_n 1, 1) := by decide +kernel
theorem dX4_comeTo_57 : decode cX4_comeTo 57 = .ok (.invokestatic 79, 3) := by decide +kernel
theorem dX4_comeTo_60 : decode cX4_comeTo 60 = .ok (.iload_n 2, 1) := by decide +kernel
theorem dX4_comeTo_61 : decode cX4_comeTo 61 = .ok (.iload_n 3, 1) := by decide +kernel
theorem dX4_comeTo_62 : decode cX4_comeTo 62 = .ok (.invokevirtual 190, 3) := by decide +kernel
theorem dX4_comeTo_65 : decode cX4_comeTo 65 = .ok (.return_, 1) := by decide +kernel
theorem dX4_enter_0 : decode cX4_enter 0 = .ok (.aload_n 0, 1) := by decide +kernel
theorem dX4_enter_1 : decode cX4_enter 1 = .ok (.getfield 40, 3) := by decide +kernel
theorem dX4_enter_4 : decode cX4_enter 4 = .ok (.iload_n 1, 1) := by decide +kernel
theorem dX4_enter_5 : decode cX4_enter 5 = .ok (.iconst 1, 1) := by decide +kernel
theorem dX4_enter_6 : decode cX4_enter 6 = .ok (.invokestatic 64, 3) := by decide +kernel
theorem dX4_enter_9 : decode cX4_enter 9 = .ok (.aload_n 0, 1) := by decide +kernel
theorem dX4_enter_10 : decode cX4_enter 10 = .ok (.getfield 46, 3) := by decide +kernel
theorem dX4_enter_13 : decode cX4_enter 13 = .ok (.iload_n 1, 1) := by decide +kernel
theorem dX4_enter_14 : decode cX4_enter 14 = .ok (.iconst 0, 1) := by decide +kernel
theorem dX4_enter_15 : decode cX4_enter 15 = .ok (.invokestatic 64, 3) := by decide +kernel
theorem dX4_enter_18 : decode cX4_enter 18 = .ok (.aload_n 0, 1) := by decide +kernel
theorem dX4_enter_19 : decode cX4_enter 19 = .ok (.iload_n 1, 1) := by decide +kernel
theorem dX4_enter_20 : decode cX4_enter 20 = .ok (.aload_n 0, 1) := by decide +kernel
theorem dX4_enter_21 : decode cX4_enter 21 = .ok (.getfield 34, 3) := by decide +kernel
theorem dX4_enter_24 : decode cX4_enter 24 = .ok (.iload_n 1, 1) := by decide +kernel
theorem dX4_enter_25 : decode cX4_enter 25 = .ok (.invokestatic 79, 3) := by decide +kernel
theorem dX4_enter_28 : decode cX4_enter 28 = .ok (.ifCond .ne 7, 3) := by decide +kernel
theorem dX4_enter_31 : decode cX4_enter 31 = .ok (.iconst 0, 1) := by decide +kernel
theorem dX4_enter_32 : decode cX4_enter 32 = .ok (.goto 12, 3) := by decide +kernel
theorem dX4_enter_35 : decode cX4_enter 35 = .ok (.aload_n 0, 1) := by decide +kernel
theorem dX4_enter_36 : decode cX4_enter 36 = .ok (.getfield 55, 3) := by decide +kernel
theorem dX4_enter_39 : decode cX4_enter 39 = .ok (.getfield 59, 3) := by decide +kernel
theorem dX4_enter_42 : decode cX4_enter 42 = .ok (.iconst 1, 1) := by decide +kernel
theorem dX4_enter_43 : decode cX4_enter 43 = .ok (.isub, 1) := by decide +kernel
theorem dX4_enter_44 : decode cX4_enter 44 = .ok (.invokevirtual 181, 3) := by decide +kernel
theorem dX4_enter_47 : decode cX4_enter 47 = .ok (.return_, 1) := by decide +kernel
theorem dX4_leave_0 : decode cX4_leave 0 = .ok (.aload_n 0, 1) := by decide +kernel
theorem dX4_leave_1 : decode cX4_leave 1 = .ok (.getfield 40, 3) := by decide +kernel
theorem dX4_leave_4 : decode cX4_leave 4 = .ok (.iload_n 1, 1) := by decide +kernel
theorem dX4_leave_5 : decode cX4_leave 5 = .ok (.iconst 2, 1) := by decide +kernel
theorem dX4_leave_6 : decode cX4_leave 6 = .ok (.invokestatic 64, 3) := by decide +kernel
theorem dX4_leave_9 : decode cX4_leave 9 = .ok (.aload_n 0, 1) := by decide +kernel
theorem dX4_leave_10 : decode cX4_leave 10 = .ok (.getfield 43, 3) := by decide +kernel
theorem dX4_leave_13 : decode cX4_leave 13 = .ok (.iload_n 1, 1) := by decide +kernel
theorem dX4_leave_14 : decode cX4_leave 14 = .ok (.iconst (-1), 1) := by decide +kernel
theorem dX4_leave_15 : decode cX4_leave 15 = .ok (.invokestatic 64, 3) := by decide +kernel
theorem dX4_leave_18 : decode cX4_leave 18 = .ok (.aload_n 0, 1) := by decide +kernel
theorem dX4_leave_19 : decode cX4_leave 19 = .ok (.getfield 46, 3) := by decide +kernel
theorem dX4_leave_22 : decode cX4_leave 22 = .ok (.iload_n 1, 1) := by decide +kernel
theorem dX4_leave_23 : decode cX4_leave 23 = .ok (.iconst 0, 1) := by decide +kernel
theorem dX4_leave_24 : decode cX4_leave 24 = .ok (.invokestatic 64, 3) := by decide +kernel
theorem dX4_leave_27 : decode cX4_leave 27 = .ok (.aload_n 0, 1) := by decide +kernel
theorem dX4_leave_28 : decode cX4_leave 28 = .ok (.getfield 49, 3) := by decide +kernel
theorem dX4_leave_31 : decode cX4_leave 31 = .ok (.iload_n 1, 1) := by decide +kernel
theorem dX4_leave_32 : decode cX4_leave 32 = .ok (.aload_n 0, 1) := by decide +kernel
theorem dX4_leave_33 : decode cX4_leave 33 = .ok (.getfield 9, 3) := by decide +kernel
theorem dX4_leave_36 : decode cX4_leave 36 = .ok (.invokestatic 64, 3) := by decide +kernel
theorem dX4_leave_39 : decode cX4_leave 39 = .ok (.aload_n 0, 1) := by decide +kernel
theorem dX4_leave_40 : decode cX4_leave 40 = .ok (.getfield 28, 3) := by decide +kernel
theorem dX4_leave_43 : decode cX4_leave 43 = .ok (.aload_n 0, 1) := by decide +kernel
theorem dX4_leave_44 : decode cX4_leave 44 = .ok (.getfield 55, 3) := by decide +kernel
theorem dX4_leave_47 : decode cX4_leave 47 = .ok (.getfield 166, 3) := by decide +kernel
theorem dX4_leave_50 : decode cX4_leave 50 = .ok (.iload_n 1, 1) := by decide +kernel
theorem dX4_leave_51 : decode cX4_leave 51 = .ok (.invokestatic 79, 3) := by decide +kernel
theorem dX4_leave_54 : decode cX4_leave 54 = .ok (.bipush 10, 2) := by decide +kernel
theorem dX4_leave_56 : decode cX4_leave 56 = .ok (.invokestatic 64, 3) := by decide +kernel
theorem dX4_leave_59 : decode cX4_leave 59 = .ok (.aload_n 0, 1) := by decide +kernel
theorem dX4_leave_60 : decode cX4_leave 60 = .ok (.getfield 28, 3) := by decide +kernel
theorem dX4_leave_63 : decode cX4_leave 63 = .ok (.aload_n 0, 1) := by decide +kernel
theorem dX4_leave_64 : decode cX4_leave 64 = .ok (.getfield 55, 3) := by decide +kernel
theorem dX4_leave_67 : decode cX4_leave 67 = .ok (.getfield 172, 3) := by decide +kernel
theorem dX4_leave_70 : decode cX4_leave 70 = .ok (.iload_n 1, 1) := by decide +kernel
theorem dX4_leave_71 : decode cX4_leave 71 = .ok (.invokestatic 79, 3) := by decide +kernel
theorem dX4_leave_74 : decode cX4_leave 74 = .ok (.bipush 10, 2) := by decide +kernel
theorem dX4_leave_76 : decode cX4_leave 76 = .ok (.invokestatic 64, 3) := by decide +kernel
theorem dX4_leave_79 : decode cX4_leave 79 = .ok (.return_, 1) := by decide +kernel
theorem mi_X4_putToWait : MInfo yX4_putToWait cX4_putToWait 3 none 2 := ⟨wq_1154, wq_83, by decide, ⟨by decide +kernel, by decide +kernel, by decide +kernel⟩, by decide +kernel⟩
theorem mi_X4_sendBack : MInfo yX4_sendBack cX4_sendBack 3 none 2 := ⟨wq_1484, wq_83, by decide, ⟨by decide +kernel, by decide +kernel, by decide +kernel⟩, by decide +kernel⟩
theorem mi_X4_holds : MInfo yX4_holds cX4_holds 7 (some .boolean) 1 := ⟨wq_675, wq_83, by decide, ⟨by decide +kernel, by decide +kernel, by decide +kernel⟩, by decide +kernel⟩
theorem mi_X4_chooseTurn : MInfo yX4_chooseTurn cX4_chooseTurn 3 none 0 := ⟨wq_735, wq_83, by decide, ⟨by decide +kernel, by decide +kernel, by decide +kernel⟩, by decide +kernel⟩
theorem mi_X4_crewRests : MInfo yX4_crewRests cX4_crewRests 4 (some .boolean) 1 := ⟨wq_671, wq_83, by decide, ⟨by decide +kernel, by decide +kernel, by decide +kernel⟩, by decide +kernel⟩
theorem mi_X4_goesIn : MInfo yX4_goesIn cX4_goesIn 2 (some .boolean) 1 := ⟨wq_654, wq_83, by decide, ⟨by decide +kernel, by decide +kernel, by decide +kernel⟩, by decide +kernel⟩
theorem mi_X4_passLow : MInfo yX4_passLow cX4_passLow 5 none 3 := ⟨wq_748, wq_83, by decide, ⟨by decide +kernel, by decide +kernel, by decide +kernel⟩, by decide +kernel⟩
theorem mi_X4_comeTo : MInfo yX4_comeTo cX4_comeTo 4 none 2 := ⟨wq_744, wq_83, by decide, ⟨by decide +kernel, by decide +kernel, by decide +kernel⟩, by decide +kernel⟩
theorem mi_X4_enter : MInfo yX4_enter cX4_enter 2 none 1 := ⟨wq_740, wq_83, by decide, ⟨by decide +kernel, by decide +kernel, by decide +kernel⟩, by decide +kernel⟩
theorem mi_X4_leave : MInfo yX4_leave cX4_leave 2 none 1 := ⟨wq_760, wq_83, by decide, ⟨by decide +kernel, by decide +kernel, by decide +kernel⟩, by decide +kernel⟩
def wp_X4_putToWait (P : M2) (F : M2) (x1 : Int32) (x2 : Int32) (K : M2 → Prop) : Prop := (∀ F_6 : M2, F_6 = up2 F 9 (putv (F 9) 8 x1 x2) → (∀ F_15 : M2, F_15 = up2 F_6 10 (putv (F_6 10) 8 x1 0) → (∀ F_24 : M2, F_24 = up2 F_15 11 (putv (F_15 11) 8 x1 ((-1))) → (∀ F_33 : M2, F_33 = up2 F_24 12 (putv (F_24 12) 8 x1 0) → (∀ F_42 : M2, F_42 = up2 F_33 13 (putv (F_33 13) 8 x1 ((-1))) → K F_42)))))
set_option maxRecDepth 100000 in
set_option maxHeartbeats 4000000 in
theorem c_X4_putToWait (l : Launch) (D : va_G) (Z : Nat → ClassId) (a q : Nat → Nat) (P : M2) (F : M2) (sz : Nat) (x1 : Int32) (x2 : Int32) (K : M2 → Prop) (hm : wp_X4_putToWait P F x1 x2 K) : Met l yX4_putToWait (wy yX4_putToWait cX4_putToWait 3 none) (rk 1 0 0) (pre vwCl D Z (TW Z a q P F) sz [.ref (a 0), .int x1, .int x2]) (poV vwCl D Z (TW Z a q P) F sz K) 0 0 (va_A (TW Z a q P F) sz) := by
  refine rwv_of (wsF := (TW Z a q P)) (u0 := F) (by decide +kernel) (Nat.le_of_ble_eq_true rfl) rfl ?_
  intro p e s m args below meth c Q A hC hN hsz hnm hT hK hret ls hl
  have hx := hC.1
  have hb := hC.2.1
  have hl : lv_has ls 3 [(0, .ref (a 0)), (1, .int x1), (2, .int x2)] := hl
  have hT : TS vwCl D (TW Z a q P F) A s.heap s.heap [] := hT
  refine lv_aload_n hx hb dX4_putToWait_0 rfl (lv_at hl 0 rfl) ?_
  refine gTW_tun_9 hC hK hT.1 wq_443 dX4_putToWait_1 ?_
  refine lv_iload_n hx hb dX4_putToWait_4 rfl (lv_at hl 1 rfl) ?_
  refine lv_iload_n hx hb dX4_putToWait_5 rfl (lv_at hl 2 rfl) ?_
  refine uTW_Tdue hC hN hK hT wn_684 (by decide) hl.1 (Nat.le_of_ble_eq_true rfl) ⟨Nat.le_refl _, Nat.le_refl _⟩ dX4_putToWait_6 (fun F_6 eF_6 H locs hT => ?_)
  have hm := hm F_6 eF_6
  refine lv_aload_n hx hb dX4_putToWait_9 rfl (lv_at hl 0 rfl) ?_
  refine gTW_tun_10 hC hK hT.1 wq_445 dX4_putToWait_10 ?_
  refine lv_iload_n hx hb dX4_putToWait_13 rfl (lv_at hl 1 rfl) ?_
  refine lv_iconst (v := 0) hx hb dX4_putToWait_14 (by decide) ?_
  refine uTW_Thow hC hN hK hT wn_684 (by decide) hl.1 (Nat.le_of_ble_eq_true rfl) ⟨Nat.le_refl _, Nat.le_refl _⟩ dX4_putToWait_15 (fun F_15 eF_15 H locs hT => ?_)
  have hm := hm F_15 eF_15
  refine lv_aload_n hx hb dX4_putToWait_18 rfl (lv_at hl 0 rfl) ?_
  refine gTW_tun_11 hC hK hT.1 wq_447 dX4_putToWait_19 ?_
  refine lv_iload_n hx hb dX4_putToWait_22 rfl (lv_at hl 1 rfl) ?_
  refine lv_iconst (v := (-1)) hx hb dX4_putToWait_23 (by decide) ?_
  refine uTW_Tspot hC hN hK hT wn_684 (by decide) hl.1 (Nat.le_of_ble_eq_true rfl) ⟨Nat.le_refl _, Nat.le_refl _⟩ dX4_putToWait_24 (fun F_24 eF_24 H locs hT => ?_)
  have hm := hm F_24 eF_24
  refine lv_aload_n hx hb dX4_putToWait_27 rfl (lv_at hl 0 rfl) ?_
  refine gTW_tun_12 hC hK hT.1 wq_449 dX4_putToWait_28 ?_
  refine lv_iload_n hx hb dX4_putToWait_31 rfl (lv_at hl 1 rfl) ?_
  refine lv_iconst (v := 0) hx hb dX4_putToWait_32 (by decide) ?_
  refine uTW_Tpushed hC hN hK hT wn_684 (by decide) hl.1 (Nat.le_of_ble_eq_true rfl) ⟨Nat.le_refl _, Nat.le_refl _⟩ dX4_putToWait_33 (fun F_33 eF_33 H locs hT => ?_)
  have hm := hm F_33 eF_33
  refine lv_aload_n hx hb dX4_putToWait_36 rfl (lv_at hl 0 rfl) ?_
  refine gTW_tun_13 hC hK hT.1 wq_451 dX4_putToWait_37 ?_
  refine lv_iload_n hx hb dX4_putToWait_40 rfl (lv_at hl 1 rfl) ?_
  refine lv_iconst (v := (-1)) hx hb dX4_putToWait_41 (by decide) ?_
  refine uTW_ToutMinute hC hN hK hT wn_684 (by decide) hl.1 (Nat.le_of_ble_eq_true rfl) ⟨Nat.le_refl _, Nat.le_refl _⟩ dX4_putToWait_42 (fun F_42 eF_42 H locs hT => ?_)
  have hm := hm F_42 eF_42
  exact hret 45 _ _ _ _ hm hT dX4_putToWait_45
section KX4_putToWait
variable {p : Program} {l : Launch} {e : Env} {s : State} {m : MethodId} {args : Array Value} {below : List Frame} {meth : Method} {c : Code} {H H0 : Heap} {locs : List Loc} {cells slots : Nat} {Q : State → Prop} {R : Room} {rn mcR msR : Nat}
variable {pc : Nat} {ls : Array Slot} {rest : List Value} {A : Nat → Prop} {D : va_G}
variable {cc : ByteArray} {nL index : Nat} {own host : String}
theorem k_X4_putToWait {Z : Nat → ClassId} {a q : Nat → Nat} {P : M2} {F : M2} {x1 : Int32} {x2 : Int32} {K : M2 → Prop} (hC : CallFix p m c cc nL s args lw_g own) (hN : NW s) (hK : va_K D vwCl (tysG Z) s) (hT : TS vwCl D (TW Z a q P F) A H0 H locs) (hm : wp_X4_putToWait P F x1 x2 K) (hl : Cond.methodLink own index yX4_putToWait ∈ lw_g) (hlt : 1 < rn) (hsize : ls.size = nL) (hW : (rest.map fun v => v.category).sum ≤ 8) (hf : cells + 0 ≤ mcR ∧ slots + 0 ≤ msR) (hdg : decode cc pc = .ok (.invokevirtual index, 3)) (kk : ∀ (F1 : M2) (H1 : Heap) (locs1 : List Loc), K F1 → TS vwCl D (TW Z a q P F1) A H0 H1 locs1 → W p l e (rk rn mcR msR) s m args below meth c H1 locs1 cells slots Q (F0 m (pc + 3) ls (rest))) : W p l e (rk rn mcR msR) s m args below meth c H locs cells slots Q (F0 m pc ls (.int x2 :: .int x1 :: .ref (a 0) :: rest)) :=
  rwv_go (wsF := (TW Z a q P)) (u0 := F) (wr := []) (isC := cutTW) (isR := []) (pm := cutTW) (ws' := (TW Z a q P)) (runV (As := [.int x1, .int x2]) hC hN (c_X4_putToWait l D Z a q P F H.size x1 x2 K hm) mi_X4_putToWait hl wq_1153 wq_63 hlt hT.1 hT.D' hK (q0 := 0) rfl rfl rfl hsize rfl hW hdg hf) (cutOkTW Z a q P F) hT (fun u H1 locs1 hk hT1 => kk u H1 locs1 hk hT1)
end KX4_putToWait
def wp_X4_sendBack (P : M2) (F : M2) (x1 : Int32) (x2 : Int32) (K : M2 → Prop) : Prop := ((¬ (atv (F 8) 8 x1) = 0 → (∀ F_21 : M2, F_21 = up2 F 8 (putv (F 8) 8 x1 0) → wp_X4_putToWait P F_21 x1 x2 (fun F_27 => K F_27))) ∧ ((atv (F 8) 8 x1) = 0 → (∀ F_21 : M2, F_21 = up2 F 8 (putv (F 8) 8 x1 1) → wp_X4_putToWait P F_21 x1 x2 (fun F_27 => K F_27))))
set_option maxRecDepth 100000 in
set_option maxHeartbeats 4000000 in
theorem c_X4_sendBack (l : Launch) (D : va_G) (Z : Nat → ClassId) (a q : Nat → Nat) (P : M2) (F : M2) (sz : Nat) (x1 : Int32) (x2 : Int32) (K : M2 → Prop) (hm : wp_X4_sendBack P F x1 x2 K) : Met l yX4_sendBack (wy yX4_sendBack cX4_sendBack 3 none) (rk 2 0 0) (pre vwCl D Z (TW Z a q P F) sz [.ref (a 0), .int x1, .int x2]) (poV vwCl D Z (TW Z a q P) F sz K) 0 0 (va_A (TW Z a q P F) sz) := by
  refine rwv_of (wsF := (TW Z a q P)) (u0 := F) (by decide +kernel) (Nat.le_of_ble_eq_true rfl) rfl ?_
  intro p e s m args below meth c Q A hC hN hsz hnm hT hK hret ls hl
  have hx := hC.1
  have hb := hC.2.1
  have hl : lv_has ls 3 [(0, .ref (a 0)), (1, .int x1), (2, .int x2)] := hl
  have hT : TS vwCl D (TW Z a q P F) A s.heap s.heap [] := hT
  refine lv_aload_n hx hb dX4_sendBack_0 rfl (lv_at hl 0 rfl) ?_
  refine gTW_tun_8 hC hK hT.1 wq_441 dX4_sendBack_1 ?_
  refine lv_iload_n hx hb dX4_sendBack_4 rfl (lv_at hl 1 rfl) ?_
  refine lv_aload_n hx hb dX4_sendBack_5 rfl (lv_at hl 0 rfl) ?_
  refine gTW_tun_8 hC hK hT.1 wq_441 dX4_sendBack_6 ?_
  refine lv_iload_n hx hb dX4_sendBack_9 rfl (lv_at hl 1 rfl) ?_
  refine w_at (q0 := 5) hC hN hK hT.1 wn_519 rfl (by decide) (by decide) hl.1 (Nat.le_of_ble_eq_true rfl) ⟨Nat.le_refl _, Nat.le_refl _⟩ dX4_sendBack_10 ?_
  refine lv_if_ne (tgt := 20) hx hb dX4_sendBack_13 (by decide) (fun c_13 => ?_) (fun c_13 => ?_)
  · have hm := hm.1 c_13
    refine lv_iconst (v := 0) hx hb dX4_sendBack_20 (by decide) ?_
    refine uTW_Tside hC hN hK hT wn_684 (by decide) hl.1 (Nat.le_of_ble_eq_true rfl) ⟨Nat.le_refl _, Nat.le_refl _⟩ dX4_sendBack_21 (fun F_21 eF_21 H locs hT => ?_)
    have hm := hm F_21 eF_21
    refine lv_aload_n hx hb dX4_sendBack_24 rfl (lv_at hl 0 rfl) ?_
    refine lv_iload_n hx hb dX4_sendBack_25 rfl (lv_at hl 1 rfl) ?_
    refine lv_iload_n hx hb dX4_sendBack_26 rfl (lv_at hl 2 rfl) ?_
    refine k_X4_putToWait hC hN hK hT hm wq_1151 (by decide) hl.1 (Nat.le_of_ble_eq_true rfl) ⟨Nat.le_refl _, Nat.le_refl _⟩ dX4_sendBack_27 (fun F_27 H locs hm hT => ?_)
    exact hret 30 _ _ _ _ hm hT dX4_sendBack_30
  · have hm := hm.2 c_13
    refine lv_iconst (v := 1) hx hb dX4_sendBack_16 (by decide) ?_
    refine lv_goto (tgt := 21) hx hb dX4_sendBack_17 (by decide) ?_
    refine uTW_Tside hC hN hK hT wn_684 (by decide) hl.1 (Nat.le_of_ble_eq_true rfl) ⟨Nat.le_refl _, Nat.le_refl _⟩ dX4_sendBack_21 (fun F_21 eF_21 H locs hT => ?_)
    have hm := hm F_21 eF_21
    refine lv_aload_n hx hb dX4_sendBack_24 rfl (lv_at hl 0 rfl) ?_
    refine lv_iload_n hx hb dX4_sendBack_25 rfl (lv_at hl 1 rfl) ?_
    refine lv_iload_n hx hb dX4_sendBack_26 rfl (lv_at hl 2 rfl) ?_
    refine k_X4_putToWait hC hN hK hT hm wq_1151 (by decide) hl.1 (Nat.le_of_ble_eq_true rfl) ⟨Nat.le_refl _, Nat.le_refl _⟩ dX4_sendBack_27 (fun F_27 H locs hm hT => ?_)
    exact hret 30 _ _ _ _ hm hT dX4_sendBack_30
section KX4_sendBack
variable {p : Program} {l : Launch} {e : Env} {s : State} {m : MethodId} {args : Array Value} {below : List Frame} {meth : Method} {c : Code} {H H0 : Heap} {locs : List Loc} {cells slots : Nat} {Q : State → Prop} {R : Room} {rn mcR msR : Nat}
variable {pc : Nat} {ls : Array Slot} {rest : List Value} {A : Nat → Prop} {D : va_G}
variable {cc : ByteArray} {nL index : Nat} {own host : String}
end KX4_sendBack
def wl_X4_holds_30 (P : M2) (K : Int32 → M2 → Prop) : Nat → M2 → Int32 → Int32 → Int32 → Prop
  | 0, _, _, _, _ => False
  | n + 1, F, v3, v4, v5 => ((v3 ≤ v5 → (((atv (F 14) 400 0) = 0 → K 0 F) ∧ (¬ (atv (F 14) 400 0) = 0 → K 1 F))) ∧ (¬ v3 ≤ v5 → (∀ v6_45, v6_45 = atv (P 46) 400 v5 → ((11 < v6_45 → ((14 < v6_45 → (∀ v4_118 : Int32, v4_118 = v4 + (-1) → wp_X4_ofTwoSides P F v6_45 (atv (F 14) 400 v4_118) (atv (F 14) 400 (v4_118 + 1)) (fun r_149 => (∀ F_152 : M2, F_152 = up2 F 14 (putv (F 14) 400 v4_118 r_149) → (∀ v5_155 : Int32, v5_155 = v5 + 1 → wl_X4_holds_30 P K n F_152 v3 v4_118 v5_155))))) ∧ (¬ 14 < v6_45 → wp_X4_ofOneSide P F v6_45 (atv (F 14) 400 v4) (fun r_109 => (∀ F_112 : M2, F_112 = up2 F 14 (putv (F 14) 400 v4 r_109) → (∀ v5_155 : Int32, v5_155 = v5 + 1 → wl_X4_holds_30 P K n F_112 v3 v4 v5_155)))))) ∧ (¬ 11 < v6_45 → (∀ v4_54 : Int32, v4_54 = v4 + 1 → wp_X4_leaf P F v6_45 (atv (P 47) 400 v5) (fun r_75 => (∀ F_78 : M2, F_78 = up2 F 14 (putv (F 14) 400 v4_54 r_75) → (∀ v5_155 : Int32, v5_155 = v5 + 1 → wl_X4_holds_30 P K n F_78 v3 v4_54 v5_155)))))))))
def wp_X4_holds (P : M2) (F : M2) (x1 : Int32) (K : Int32 → M2 → Prop) : Prop := (∀ v3_16, v3_16 = atv (P 44) 16 x1 → (∀ v5_28, v5_28 = atv (P 43) 16 x1 → wl_X4_holds_30 P K fK F v3_16 ((-1)) v5_28))
set_option maxRecDepth 100000 in
set_option maxHeartbeats 4000000 in
theorem c_X4_holds (l : Launch) (D : va_G) (Z : Nat → ClassId) (a q : Nat → Nat) (P : M2) (F : M2) (sz : Nat) (x1 : Int32) (K : Int32 → M2 → Prop) (hm : wp_X4_holds P F x1 K) : Met l yX4_holds (wy yX4_holds cX4_holds 7 (some .boolean)) (rk 3 0 0) (pre vwCl D Z (TW Z a q P F) sz [.ref (a 0), .int x1]) (poI vwCl D Z (TW Z a q P) F sz K) 0 0 (va_A (TW Z a q P F) sz) := by
  refine rw_of (ty := .boolean) (wsF := (TW Z a q P)) (u0 := F) (by decide +kernel) (Nat.le_of_ble_eq_true rfl) rfl ?_
  intro p e s m args below meth c Q A hC hN hsz hT hK hret ls hl
  have hx := hC.1
  have hb := hC.2.1
  have hl : lv_has ls 7 [(0, .ref (a 0)), (1, .int x1)] := hl
  have hT : TS vwCl D (TW Z a q P F) A s.heap s.heap [] := hT
  have L30 : ∀ (n30 : Nat), ∀ (F : M2) (v3 : Int32) (v4 : Int32) (v5 : Int32) (H : Heap) (locs : List Loc) (ls : Array Slot), wl_X4_holds_30 P K n30 F v3 v4 v5 → TS vwCl D (TW Z a q P F) A s.heap H locs → lv_has ls 7 [(0, .ref (a 0)), (2, .ref (q 40)), (3, .int v3), (4, .int v4), (5, .int v5)] → W p l e (rk 3 0 0) s m args below meth c H locs 0 0 Q (F0 m 30 ls []) := by
    intro n30
    induction n30 with
    | zero =>
      intro F v3 v4 v5 H locs ls hm hT hl
      exact False.elim hm
    | succ n30 ih30 =>
      intro F v3 v4 v5 H locs ls hm hT hl
      refine lv_iload hx hb dX4_holds_30 (lv_at hl 4 rfl) ?_
      refine lv_iload_n hx hb dX4_holds_32 rfl (lv_at hl 2 rfl) ?_
      refine lv_icmp_ge (tgt := 161) hx hb dX4_holds_33 (by decide) (fun c_33 => ?_) (fun c_33 => ?_)
      · have hm := hm.1 c_33
        refine lv_aload_n hx hb dX4_holds_161 rfl (lv_at hl 0 rfl) ?_
        refine gTW_tun_14 hC hK hT.1 wq_453 dX4_holds_162 ?_
        refine lv_iconst (v := 0) hx hb dX4_holds_165 (by decide) ?_
        refine w_at (q0 := 11) hC hN hK hT.1 wn_519 rfl (by decide) (by decide) hl.1 (Nat.le_of_ble_eq_true rfl) ⟨Nat.le_refl _, Nat.le_refl _⟩ dX4_holds_166 ?_
        refine lv_if_eq (tgt := 176) hx hb dX4_holds_169 (by decide) (fun c_169 => ?_) (fun c_169 => ?_)
        · have hm := hm.1 c_169
          refine lv_iconst (v := 0) hx hb dX4_holds_176 (by decide) ?_
          exact hret 177 _ _ _ _ _ hm hT rfl dX4_holds_177
        · have hm := hm.2 c_169
          refine lv_iconst (v := 1) hx hb dX4_holds_172 (by decide) ?_
          refine lv_goto (tgt := 177) hx hb dX4_holds_173 (by decide) ?_
          exact hret 177 _ _ _ _ _ hm hT rfl dX4_holds_177
      · have hm := hm.2 c_33
        refine lv_aload_n hx hb dX4_holds_36 rfl (lv_at hl 1 rfl) ?_
        refine gTW_orders_6 hC hK hT.1 wq_268 dX4_holds_37 ?_
        refine lv_iload hx hb dX4_holds_40 (lv_at hl 4 rfl) ?_
        refine w_at (q0 := 31) hC hN hK hT.1 wn_519 rfl (by decide) (by decide) hl.1 (Nat.le_of_ble_eq_true rfl) ⟨Nat.le_refl _, Nat.le_refl _⟩ dX4_holds_42 ?_
        refine lv_topi (fun v6_45 ev6_45 => ?_)
        have hm := hm v6_45 ev6_45
        refine lv_istore (lv' := [(6, .int v6_45), (0, .ref (a 0)), (2, .ref (q 40)), (3, .int v3), (4, .int v4), (5, .int v5)]) hx hb dX4_holds_45 hl (by decide) rfl (fun ls hl => ?_)
        refine lv_iload hx hb dX4_holds_47 (lv_at hl 0 rfl) ?_
        refine lv_bipush (v := 11) hx hb dX4_holds_49 (by decide) ?_
        refine lv_icmp_gt (tgt := 84) hx hb dX4_holds_51 (by decide) (fun c_51 => ?_) (fun c_51 => ?_)
        · have hm := hm.1 c_51
          refine lv_iload hx hb dX4_holds_84 (lv_at hl 0 rfl) ?_
          refine lv_bipush (v := 14) hx hb dX4_holds_86 (by decide) ?_
          refine lv_icmp_gt (tgt := 118) hx hb dX4_holds_88 (by decide) (fun c_88 => ?_) (fun c_88 => ?_)
          · have hm := hm.1 c_88
            obtain ⟨v4_118, ev4_118⟩ : ∃ y : Int32, y = v4 + (-1) := ⟨_, rfl⟩
            have hm := hm v4_118 ev4_118
            refine lv_iinc (v := v4_118) (lv' := [(4, .int v4_118), (6, .int v6_45), (0, .ref (a 0)), (2, .ref (q 40)), (3, .int v3), (5, .int v5)]) hx hb dX4_holds_118 hl (k := 4) rfl (by rw [ev4_118]; rfl) (by decide) rfl (fun ls hl => ?_)
            refine lv_aload_n hx hb dX4_holds_121 rfl (lv_at hl 2 rfl) ?_
            refine gTW_tun_14 hC hK hT.1 wq_453 dX4_holds_122 ?_
            refine lv_iload hx hb dX4_holds_125 (lv_at hl 0 rfl) ?_
            refine lv_iload hx hb dX4_holds_127 (lv_at hl 1 rfl) ?_
            refine lv_aload_n hx hb dX4_holds_129 rfl (lv_at hl 2 rfl) ?_
            refine gTW_tun_14 hC hK hT.1 wq_453 dX4_holds_130 ?_
            refine lv_iload hx hb dX4_holds_133 (lv_at hl 0 rfl) ?_
            refine w_at (q0 := 11) hC hN hK hT.1 wn_519 rfl (by decide) (by decide) hl.1 (Nat.le_of_ble_eq_true rfl) ⟨Nat.le_refl _, Nat.le_refl _⟩ dX4_holds_135 ?_
            refine lv_aload_n hx hb dX4_holds_138 rfl (lv_at hl 2 rfl) ?_
            refine gTW_tun_14 hC hK hT.1 wq_453 dX4_holds_139 ?_
            refine lv_iload hx hb dX4_holds_142 (lv_at hl 0 rfl) ?_
            refine lv_iconst (v := 1) hx hb dX4_holds_144 (by decide) ?_
            refine lv_iadd hx hb dX4_holds_145 ?_
            refine w_at (q0 := 11) hC hN hK hT.1 wn_519 rfl (by decide) (by decide) hl.1 (Nat.le_of_ble_eq_true rfl) ⟨Nat.le_refl _, Nat.le_refl _⟩ dX4_holds_146 ?_
            refine k_X4_ofTwoSides hC hN hK hT.1 hT.D' hm wq_689 (by decide) hl.1 (Nat.le_of_ble_eq_true rfl) ⟨Nat.le_refl _, Nat.le_refl _⟩ dX4_holds_149 (fun r_149 hm => ?_)
            refine uTW_Tstack hC hN hK hT wn_684 (by decide) hl.1 (Nat.le_of_ble_eq_true rfl) ⟨Nat.le_refl _, Nat.le_refl _⟩ dX4_holds_152 (fun F_152 eF_152 H locs hT => ?_)
            have hm := hm F_152 eF_152
            obtain ⟨v5_155, ev5_155⟩ : ∃ y : Int32, y = v5 + 1 := ⟨_, rfl⟩
            have hm := hm v5_155 ev5_155
            refine lv_iinc (v := v5_155) (lv' := [(5, .int v5_155), (4, .int v4_118), (6, .int v6_45), (0, .ref (a 0)), (2, .ref (q 40)), (3, .int v3)]) hx hb dX4_holds_155 hl (k := 5) rfl (by rw [ev5_155]; rfl) (by decide) rfl (fun ls hl => ?_)
            refine lv_goto (tgt := 30) hx hb dX4_holds_158 (by decide) ?_
            exact ih30 _ _ _ _ _ _ _ hm hT (lv_sub hl [3, 4, 5, 1, 0] rfl)
          · have hm := hm.2 c_88
            refine lv_aload_n hx hb dX4_holds_91 rfl (lv_at hl 1 rfl) ?_
            refine gTW_tun_14 hC hK hT.1 wq_453 dX4_holds_92 ?_
            refine lv_iload hx hb dX4_holds_95 (lv_at hl 4 rfl) ?_
            refine lv_aload_n hx hb dX4_holds_97 rfl (lv_at hl 1 rfl) ?_
            refine lv_iload hx hb dX4_holds_98 (lv_at hl 0 rfl) ?_
            refine lv_aload_n hx hb dX4_holds_100 rfl (lv_at hl 1 rfl) ?_
            refine gTW_tun_14 hC hK hT.1 wq_453 dX4_holds_101 ?_
            refine lv_iload hx hb dX4_holds_104 (lv_at hl 4 rfl) ?_
            refine w_at (q0 := 11) hC hN hK hT.1 wn_519 rfl (by decide) (by decide) hl.1 (Nat.le_of_ble_eq_true rfl) ⟨Nat.le_refl _, Nat.le_refl _⟩ dX4_holds_106 ?_
            refine k_X4_ofOneSide hC hN hK hT.1 hT.D' hm wq_685 (by decide) hl.1 (Nat.le_of_ble_eq_true rfl) ⟨Nat.le_refl _, Nat.le_refl _⟩ dX4_holds_109 (fun r_109 hm => ?_)
            refine uTW_Tstack hC hN hK hT wn_684 (by decide) hl.1 (Nat.le_of_ble_eq_true rfl) ⟨Nat.le_refl _, Nat.le_refl _⟩ dX4_holds_112 (fun F_112 eF_112 H locs hT => ?_)
            have hm := hm F_112 eF_112
            refine lv_goto (tgt := 155) hx hb dX4_holds_115 (by decide) ?_
            obtain ⟨v5_155, ev5_155⟩ : ∃ y : Int32, y = v5 + 1 := ⟨_, rfl⟩
            have hm := hm v5_155 ev5_155
            refine lv_iinc (v := v5_155) (lv' := [(5, .int v5_155), (6, .int v6_45), (0, .ref (a 0)), (2, .ref (q 40)), (3, .int v3), (4, .int v4)]) hx hb dX4_holds_155 hl (k := 5) rfl (by rw [ev5_155]; rfl) (by decide) rfl (fun ls hl => ?_)
            refine lv_goto (tgt := 30) hx hb dX4_holds_158 (by decide) ?_
            exact ih30 _ _ _ _ _ _ _ hm hT (lv_sub hl [2, 3, 4, 5, 0] rfl)
        · have hm := hm.2 c_51
          obtain ⟨v4_54, ev4_54⟩ : ∃ y : Int32, y = v4 + 1 := ⟨_, rfl⟩
          have hm := hm v4_54 ev4_54
          refine lv_iinc (v := v4_54) (lv' := [(4, .int v4_54), (6, .int v6_45), (0, .ref (a 0)), (2, .ref (q 40)), (3, .int v3), (5, .int v5)]) hx hb dX4_holds_54 hl (k := 4) rfl (by rw [ev4_54]; rfl) (by decide) rfl (fun ls hl => ?_)
          refine lv_aload_n hx hb dX4_holds_57 rfl (lv_at hl 2 rfl) ?_
          refine gTW_tun_14 hC hK hT.1 wq_453 dX4_holds_58 ?_
          refine lv_iload hx hb dX4_holds_61 (lv_at hl 0 rfl) ?_
          refine lv_aload_n hx hb dX4_holds_63 rfl (lv_at hl 2 rfl) ?_
          refine lv_iload hx hb dX4_holds_64 (lv_at hl 1 rfl) ?_
          refine lv_aload_n hx hb dX4_holds_66 rfl (lv_at hl 3 rfl) ?_
          refine gTW_orders_7 hC hK hT.1 wq_270 dX4_holds_67 ?_
          refine lv_iload hx hb dX4_holds_70 (lv_at hl 5 rfl) ?_
          refine w_at (q0 := 32) hC hN hK hT.1 wn_519 rfl (by decide) (by decide) hl.1 (Nat.le_of_ble_eq_true rfl) ⟨Nat.le_refl _, Nat.le_refl _⟩ dX4_holds_72 ?_
          refine k_X4_leaf hC hN hK hT.1 hT.D' hm wq_676 (by decide) hl.1 (Nat.le_of_ble_eq_true rfl) ⟨Nat.le_refl _, Nat.le_refl _⟩ dX4_holds_75 (fun r_75 hm => ?_)
          refine uTW_Tstack hC hN hK hT wn_684 (by decide) hl.1 (Nat.le_of_ble_eq_true rfl) ⟨Nat.le_refl _, Nat.le_refl _⟩ dX4_holds_78 (fun F_78 eF_78 H locs hT => ?_)
          have hm := hm F_78 eF_78
          refine lv_goto (tgt := 155) hx hb dX4_holds_81 (by decide) ?_
          obtain ⟨v5_155, ev5_155⟩ : ∃ y : Int32, y = v5 + 1 := ⟨_, rfl⟩
          have hm := hm v5_155 ev5_155
          refine lv_iinc (v := v5_155) (lv' := [(5, .int v5_155), (4, .int v4_54), (6, .int v6_45), (0, .ref (a 0)), (2, .ref (q 40)), (3, .int v3)]) hx hb dX4_holds_155 hl (k := 5) rfl (by rw [ev5_155]; rfl) (by decide) rfl (fun ls hl => ?_)
          refine lv_goto (tgt := 30) hx hb dX4_holds_158 (by decide) ?_
          exact ih30 _ _ _ _ _ _ _ hm hT (lv_sub hl [3, 4, 5, 1, 0] rfl)
  refine lv_aload_n hx hb dX4_holds_0 rfl (lv_at hl 0 rfl) ?_
  refine gTW_tun_0 hC hK hT.1 wq_425 dX4_holds_1 ?_
  refine gTW_plan_18 hC hK hT.1 wq_344 dX4_holds_4 ?_
  refine lv_astore_n (lv' := [(2, .ref (q 40)), (0, .ref (a 0)), (1, .int x1)]) hx hb dX4_holds_7 rfl hl (by decide) rfl (fun ls hl => ?_)
  refine lv_aload_n hx hb dX4_holds_8 rfl (lv_at hl 0 rfl) ?_
  refine gTW_orders_4 hC hK hT.1 wq_264 dX4_holds_9 ?_
  refine lv_iload_n hx hb dX4_holds_12 rfl (lv_at hl 2 rfl) ?_
  refine w_at (q0 := 30) hC hN hK hT.1 wn_519 rfl (by decide) (by decide) hl.1 (Nat.le_of_ble_eq_true rfl) ⟨Nat.le_refl _, Nat.le_refl _⟩ dX4_holds_13 ?_
  refine lv_topi (fun v3_16 ev3_16 => ?_)
  have hm := hm v3_16 ev3_16
  refine lv_istore_n (lv' := [(3, .int v3_16), (2, .ref (q 40)), (0, .ref (a 0)), (1, .int x1)]) hx hb dX4_holds_16 rfl hl (by decide) rfl (fun ls hl => ?_)
  refine lv_iconst (v := (-1)) hx hb dX4_holds_17 (by decide) ?_
  refine lv_istore (lv' := [(4, .int ((-1))), (3, .int v3_16), (2, .ref (q 40)), (0, .ref (a 0)), (1, .int x1)]) hx hb dX4_holds_18 hl (by decide) rfl (fun ls hl => ?_)
  refine lv_aload_n hx hb dX4_holds_20 rfl (lv_at hl 2 rfl) ?_
  refine gTW_orders_3 hC hK hT.1 wq_262 dX4_holds_21 ?_
  refine lv_iload_n hx hb dX4_holds_24 rfl (lv_at hl 4 rfl) ?_
  refine w_at (q0 := 29) hC hN hK hT.1 wn_519 rfl (by decide) (by decide) hl.1 (Nat.le_of_ble_eq_true rfl) ⟨Nat.le_refl _, Nat.le_refl _⟩ dX4_holds_25 ?_
  refine lv_topi (fun v5_28 ev5_28 => ?_)
  have hm := hm v5_28 ev5_28
  refine lv_istore (lv' := [(5, .int v5_28), (4, .int ((-1))), (3, .int v3_16), (2, .ref (q 40)), (0, .ref (a 0)), (1, .int x1)]) hx hb dX4_holds_28 hl (by decide) rfl (fun ls hl => ?_)
  exact L30 _ _ _ _ _ _ _ _ hm hT (lv_sub hl [4, 3, 2, 1, 0] rfl)
section KX4_holds
variable {p : Program} {l : Launch} {e : Env} {s : State} {m : MethodId} {args : Array Value} {below : List Frame} {meth : Method} {c : Code} {H H0 : Heap} {locs : List Loc} {cells slots : Nat} {Q : State → Prop} {R : Room} {rn mcR msR : Nat}
variable {pc : Nat} {ls : Array Slot} {rest : List Value} {A : Nat → Prop} {D : va_G}
variable {cc : ByteArray} {nL index : Nat} {own host : String}
theorem k_X4_holds {Z : Nat → ClassId} {a q : Nat → Nat} {P : M2} {F : M2} {x1 : Int32} {K : Int32 → M2 → Prop} (hC : CallFix p m c cc nL s args lw_g own) (hN : NW s) (hK : va_K D vwCl (tysG Z) s) (hT : TS vwCl D (TW Z a q P F) A H0 H locs) (hm : wp_X4_holds P F x1 K) (hl : Cond.methodLink own index yX4_holds ∈ lw_g) (hlt : 3 < rn) (hsize : ls.size = nL) (hW : (rest.map fun v => v.category).sum ≤ 8) (hf : cells + 0 ≤ mcR ∧ slots + 0 ≤ msR) (hdg : decode cc pc = .ok (.invokevirtual index, 3)) (kk : ∀ (r : Int32) (F1 : M2) (H1 : Heap) (locs1 : List Loc), K r F1 → TS vwCl D (TW Z a q P F1) A H0 H1 locs1 → W p l e (rk rn mcR msR) s m args below meth c H1 locs1 cells slots Q (F0 m (pc + 3) ls (.int r :: rest))) : W p l e (rk rn mcR msR) s m args below meth c H locs cells slots Q (F0 m pc ls (.int x1 :: .ref (a 0) :: rest)) :=
  rw_go (wsF := (TW Z a q P)) (u0 := F) (wr := []) (isC := cutTW) (isR := []) (pm := cutTW) (ws' := (TW Z a q P)) (runV (As := [.int x1]) hC hN (c_X4_holds l D Z a q P F H.size x1 K hm) mi_X4_holds hl wq_674 wq_9 hlt hT.1 hT.D' hK (q0 := 0) rfl rfl rfl hsize rfl hW hdg hf) (cutOkTW Z a q P F) hT (fun r u H1 locs1 hk hT1 => kk r u H1 locs1 hk hT1)
end KX4_holds
def wl_X4_chooseTurn_10 (P : M2) (K : M2 → Prop) : Nat → M2 → Int32 → Prop
  | 0, _, _ => False
  | n + 1, F, v2 => (((P 40 0) ≤ v2 → K F) ∧ (¬ (P 40 0) ≤ v2 → ((¬ (atv (P 41) 16 v2) = 48 → (∀ v2_52 : Int32, v2_52 = v2 + 1 → wl_X4_chooseTurn_10 P K n F v2_52)) ∧ ((atv (P 41) 16 v2) = 48 → wp_X4_holds P F v2 (fun r_33 F_33 => ((r_33 = 0 → (∀ v2_52 : Int32, v2_52 = v2 + 1 → wl_X4_chooseTurn_10 P K n F_33 v2_52)) ∧ (¬ r_33 = 0 → (∀ F_48 : M2, F_48 = up2 F_33 2 (fun _ => atv (P 42) 16 v2) → K F_48))))))))
def wp_X4_chooseTurn (P : M2) (F : M2) (K : M2 → Prop) : Prop := wl_X4_chooseTurn_10 P K fK F 0
set_option maxRecDepth 100000 in
set_option maxHeartbeats 4000000 in
theorem c_X4_chooseTurn (l : Launch) (D : va_G) (Z : Nat → ClassId) (a q : Nat → Nat) (P : M2) (F : M2) (sz : Nat) (K : M2 → Prop) (hm : wp_X4_chooseTurn P F K) : Met l yX4_chooseTurn (wy yX4_chooseTurn cX4_chooseTurn 3 none) (rk 4 0 0) (pre vwCl D Z (TW Z a q P F) sz [.ref (a 0)]) (poV vwCl D Z (TW Z a q P) F sz K) 0 0 (va_A (TW Z a q P F) sz) := by
  refine rwv_of (wsF := (TW Z a q P)) (u0 := F) (by decide +kernel) (Nat.le_of_ble_eq_true rfl) rfl ?_
  intro p e s m args below meth c Q A hC hN hsz hnm hT hK hret ls hl
  have hx := hC.1
  have hb := hC.2.1
  have hl : lv_has ls 3 [(0, .ref (a 0))] := hl
  have hT : TS vwCl D (TW Z a q P F) A s.heap s.heap [] := hT
  have L10 : ∀ (n10 : Nat), ∀ (F : M2) (v2 : Int32) (H : Heap) (locs : List Loc) (ls : Array Slot), wl_X4_chooseTurn_10 P K n10 F v2 → TS vwCl D (TW Z a q P F) A s.heap H locs → lv_has ls 3 [(0, .ref (a 0)), (1, .ref (q 40)), (2, .int v2)] → W p l e (rk 4 0 0) s m args below meth c H locs 0 0 Q (F0 m 10 ls []) := by
    intro n10
    induction n10 with
    | zero =>
      intro F v2 H locs ls hm hT hl
      exact False.elim hm
    | succ n10 ih10 =>
      intro F v2 H locs ls hm hT hl
      refine lv_iload_n hx hb dX4_chooseTurn_10 rfl (lv_at hl 2 rfl) ?_
      refine lv_aload_n hx hb dX4_chooseTurn_11 rfl (lv_at hl 1 rfl) ?_
      refine gTW_orders_0 hC hK hT.1 wq_255 dX4_chooseTurn_12 ?_
      refine lv_icmp_ge (tgt := 58) hx hb dX4_chooseTurn_15 (by decide) (fun c_15 => ?_) (fun c_15 => ?_)
      · have hm := hm.1 c_15
        exact hret 58 _ _ _ _ hm hT dX4_chooseTurn_58
      · have hm := hm.2 c_15
        refine lv_aload_n hx hb dX4_chooseTurn_18 rfl (lv_at hl 1 rfl) ?_
        refine gTW_orders_1 hC hK hT.1 wq_258 dX4_chooseTurn_19 ?_
        refine lv_iload_n hx hb dX4_chooseTurn_22 rfl (lv_at hl 2 rfl) ?_
        refine w_at (q0 := 27) hC hN hK hT.1 wn_519 rfl (by decide) (by decide) hl.1 (Nat.le_of_ble_eq_true rfl) ⟨Nat.le_refl _, Nat.le_refl _⟩ dX4_chooseTurn_23 ?_
        refine lv_bipush (v := 48) hx hb dX4_chooseTurn_26 (by decide) ?_
        refine lv_icmp_ne (tgt := 52) hx hb dX4_chooseTurn_28 (by decide) (fun c_28 => ?_) (fun c_28 => ?_)
        · have hm := hm.1 c_28
          obtain ⟨v2_52, ev2_52⟩ : ∃ y : Int32, y = v2 + 1 := ⟨_, rfl⟩
          have hm := hm v2_52 ev2_52
          refine lv_iinc (v := v2_52) (lv' := [(2, .int v2_52), (0, .ref (a 0)), (1, .ref (q 40))]) hx hb dX4_chooseTurn_52 hl (k := 2) rfl (by rw [ev2_52]; rfl) (by decide) rfl (fun ls hl => ?_)
          refine lv_goto (tgt := 10) hx hb dX4_chooseTurn_55 (by decide) ?_
          exact ih10 _ _ _ _ _ hm hT (lv_sub hl [1, 2, 0] rfl)
        · have hm := hm.2 c_28
          refine lv_aload_n hx hb dX4_chooseTurn_31 rfl (lv_at hl 0 rfl) ?_
          refine lv_iload_n hx hb dX4_chooseTurn_32 rfl (lv_at hl 2 rfl) ?_
          refine k_X4_holds hC hN hK hT hm wq_672 (by decide) hl.1 (Nat.le_of_ble_eq_true rfl) ⟨Nat.le_refl _, Nat.le_refl _⟩ dX4_chooseTurn_33 (fun r_33 F_33 H locs hm hT => ?_)
          refine lv_if_eq (tgt := 52) hx hb dX4_chooseTurn_36 (by decide) (fun c_36 => ?_) (fun c_36 => ?_)
          · have hm := hm.1 c_36
            obtain ⟨v2_52, ev2_52⟩ : ∃ y : Int32, y = v2 + 1 := ⟨_, rfl⟩
            have hm := hm v2_52 ev2_52
            refine lv_iinc (v := v2_52) (lv' := [(2, .int v2_52), (0, .ref (a 0)), (1, .ref (q 40))]) hx hb dX4_chooseTurn_52 hl (k := 2) rfl (by rw [ev2_52]; rfl) (by decide) rfl (fun ls hl => ?_)
            refine lv_goto (tgt := 10) hx hb dX4_chooseTurn_55 (by decide) ?_
            exact ih10 _ _ _ _ _ hm hT (lv_sub hl [1, 2, 0] rfl)
          · have hm := hm.2 c_36
            refine lv_aload_n hx hb dX4_chooseTurn_39 rfl (lv_at hl 0 rfl) ?_
            refine lv_aload_n hx hb dX4_chooseTurn_40 rfl (lv_at hl 1 rfl) ?_
            refine gTW_orders_2 hC hK hT.1 wq_260 dX4_chooseTurn_41 ?_
            refine lv_iload_n hx hb dX4_chooseTurn_44 rfl (lv_at hl 2 rfl) ?_
            refine w_at (q0 := 28) hC hN hK hT.1 wn_519 rfl (by decide) (by decide) hl.1 (Nat.le_of_ble_eq_true rfl) ⟨Nat.le_refl _, Nat.le_refl _⟩ dX4_chooseTurn_45 ?_
            refine pTW_tun_2 hC hK hT wq_429 dX4_chooseTurn_48 (fun F_48 eF_48 H locs hT => ?_)
            have hm := hm F_48 eF_48
            exact hret 51 _ _ _ _ hm hT dX4_chooseTurn_51
  refine lv_aload_n hx hb dX4_chooseTurn_0 rfl (lv_at hl 0 rfl) ?_
  refine gTW_tun_0 hC hK hT.1 wq_425 dX4_chooseTurn_1 ?_
  refine gTW_plan_18 hC hK hT.1 wq_344 dX4_chooseTurn_4 ?_
  refine lv_astore_n (lv' := [(1, .ref (q 40)), (0, .ref (a 0))]) hx hb dX4_chooseTurn_7 rfl hl (by decide) rfl (fun ls hl => ?_)
  refine lv_iconst (v := 0) hx hb dX4_chooseTurn_8 (by decide) ?_
  refine lv_istore_n (lv' := [(2, .int 0), (1, .ref (q 40)), (0, .ref (a 0))]) hx hb dX4_chooseTurn_9 rfl hl (by decide) rfl (fun ls hl => ?_)
  exact L10 _ _ _ _ _ _ hm hT (lv_sub hl [2, 1, 0] rfl)
section KX4_chooseTurn
variable {p : Program} {l : Launch} {e : Env} {s : State} {m : MethodId} {args : Array Value} {below : List Frame} {meth : Method} {c : Code} {H H0 : Heap} {locs : List Loc} {cells slots : Nat} {Q : State → Prop} {R : Room} {rn mcR msR : Nat}
variable {pc : Nat} {ls : Array Slot} {rest : List Value} {A : Nat → Prop} {D : va_G}
variable {cc : ByteArray} {nL index : Nat} {own host : String}
theorem k_X4_chooseTurn {Z : Nat → ClassId} {a q : Nat → Nat} {P : M2} {F : M2} {K : M2 → Prop} (hC : CallFix p m c cc nL s args lw_g own) (hN : NW s) (hK : va_K D vwCl (tysG Z) s) (hT : TS vwCl D (TW Z a q P F) A H0 H locs) (hm : wp_X4_chooseTurn P F K) (hl : Cond.methodLink own index yX4_chooseTurn ∈ lw_g) (hlt : 4 < rn) (hsize : ls.size = nL) (hW : (rest.map fun v => v.category).sum ≤ 8) (hf : cells + 0 ≤ mcR ∧ slots + 0 ≤ msR) (hdg : decode cc pc = .ok (.invokevirtual index, 3)) (kk : ∀ (F1 : M2) (H1 : Heap) (locs1 : List Loc), K F1 → TS vwCl D (TW Z a q P F1) A H0 H1 locs1 → W p l e (rk rn mcR msR) s m args below meth c H1 locs1 cells slots Q (F0 m (pc + 3) ls (rest))) : W p l e (rk rn mcR msR) s m args below meth c H locs cells slots Q (F0 m pc ls (.ref (a 0) :: rest)) :=
  rwv_go (wsF := (TW Z a q P)) (u0 := F) (wr := []) (isC := cutTW) (isR := []) (pm := cutTW) (ws' := (TW Z a q P)) (runV (As := []) hC hN (c_X4_chooseTurn l D Z a q P F H.size K hm) mi_X4_chooseTurn hl wq_734 wq_13 hlt hT.1 hT.D' hK (q0 := 0) rfl rfl rfl hsize rfl hW hdg hf) (cutOkTW Z a q P F) hT (fun u H1 locs1 hk hT1 => kk u H1 locs1 hk hT1)
end KX4_chooseTurn
def wl_X4_crewRests_10 (P : M2) (K : Int32 → M2 → Prop) : Nat → M2 → Int32 → Int32 → Prop
  | 0, _, _, _ => False
  | n + 1, F, v1, v3 => (((P 40 0) ≤ v3 → K 0 F) ∧ (¬ (P 40 0) ≤ v3 → ((¬ (atv (P 41) 16 v3) = 49 → (∀ v3_60 : Int32, v3_60 = v3 + 1 → wl_X4_crewRests_10 P K n F v1 v3_60)) ∧ ((atv (P 41) 16 v3) = 49 → wp_X1_isCrew P F (atv (P 42) 16 v3) v1 (fun r_44 => ((r_44 = 0 → (∀ v3_60 : Int32, v3_60 = v3 + 1 → wl_X4_crewRests_10 P K n F v1 v3_60)) ∧ (¬ r_44 = 0 → wp_X4_holds P F v3 (fun r_52 F_52 => ((r_52 = 0 → (∀ v3_60 : Int32, v3_60 = v3 + 1 → wl_X4_crewRests_10 P K n F_52 v1 v3_60)) ∧ (¬ r_52 = 0 → K 1 F_52))))))))))
def wp_X4_crewRests (P : M2) (F : M2) (x1 : Int32) (K : Int32 → M2 → Prop) : Prop := wl_X4_crewRests_10 P K fK F x1 0
set_option maxRecDepth 100000 in
set_option maxHeartbeats 4000000 in
theorem c_X4_crewRests (l : Launch) (D : va_G) (Z : Nat → ClassId) (a q : Nat → Nat) (P : M2) (F : M2) (sz : Nat) (x1 : Int32) (K : Int32 → M2 → Prop) (hm : wp_X4_crewRests P F x1 K) : Met l yX4_crewRests (wy yX4_crewRests cX4_crewRests 4 (some .boolean)) (rk 4 0 0) (pre vwCl D Z (TW Z a q P F) sz [.ref (a 0), .int x1]) (poI vwCl D Z (TW Z a q P) F sz K) 0 0 (va_A (TW Z a q P F) sz) := by
  refine rw_of (ty := .boolean) (wsF := (TW Z a q P)) (u0 := F) (by decide +kernel) (Nat.le_of_ble_eq_true rfl) rfl ?_
  intro p e s m args below meth c Q A hC hN hsz hT hK hret ls hl
  have hx := hC.1
  have hb := hC.2.1
  have hl : lv_has ls 4 [(0, .ref (a 0)), (1, .int x1)] := hl
  have hT : TS vwCl D (TW Z a q P F) A s.heap s.heap [] := hT
  have L10 : ∀ (n10 : Nat), ∀ (F : M2) (v1 : Int32) (v3 : Int32) (H : Heap) (locs : List Loc) (ls : Array Slot), wl_X4_crewRests_10 P K n10 F v1 v3 → TS vwCl D (TW Z a q P F) A s.heap H locs → lv_has ls 4 [(0, .ref (a 0)), (1, .int v1), (2, .ref (q 40)), (3, .int v3)] → W p l e (rk 4 0 0) s m args below meth c H locs 0 0 Q (F0 m 10 ls []) := by
    intro n10
    induction n10 with
    | zero =>
      intro F v1 v3 H locs ls hm hT hl
      exact False.elim hm
    | succ n10 ih10 =>
      intro F v1 v3 H locs ls hm hT hl
      refine lv_iload_n hx hb dX4_crewRests_10 rfl (lv_at hl 3 rfl) ?_
      refine lv_aload_n hx hb dX4_crewRests_11 rfl (lv_at hl 2 rfl) ?_
      refine gTW_orders_0 hC hK hT.1 wq_255 dX4_crewRests_12 ?_
      refine lv_icmp_ge (tgt := 66) hx hb dX4_crewRests_15 (by decide) (fun c_15 => ?_) (fun c_15 => ?_)
      · have hm := hm.1 c_15
        refine lv_iconst (v := 0) hx hb dX4_crewRests_66 (by decide) ?_
        exact hret 67 _ _ _ _ _ hm hT rfl dX4_crewRests_67
      · have hm := hm.2 c_15
        refine lv_aload_n hx hb dX4_crewRests_18 rfl (lv_at hl 2 rfl) ?_
        refine gTW_orders_1 hC hK hT.1 wq_258 dX4_crewRests_19 ?_
        refine lv_iload_n hx hb dX4_crewRests_22 rfl (lv_at hl 3 rfl) ?_
        refine w_at (q0 := 27) hC hN hK hT.1 wn_519 rfl (by decide) (by decide) hl.1 (Nat.le_of_ble_eq_true rfl) ⟨Nat.le_refl _, Nat.le_refl _⟩ dX4_crewRests_23 ?_
        refine lv_bipush (v := 49) hx hb dX4_crewRests_26 (by decide) ?_
        refine lv_icmp_ne (tgt := 60) hx hb dX4_crewRests_28 (by decide) (fun c_28 => ?_) (fun c_28 => ?_)
        · have hm := hm.1 c_28
          obtain ⟨v3_60, ev3_60⟩ : ∃ y : Int32, y = v3 + 1 := ⟨_, rfl⟩
          have hm := hm v3_60 ev3_60
          refine lv_iinc (v := v3_60) (lv' := [(3, .int v3_60), (0, .ref (a 0)), (1, .int v1), (2, .ref (q 40))]) hx hb dX4_crewRests_60 hl (k := 3) rfl (by rw [ev3_60]; rfl) (by decide) rfl (fun ls hl => ?_)
          refine lv_goto (tgt := 10) hx hb dX4_crewRests_63 (by decide) ?_
          exact ih10 _ _ _ _ _ _ hm hT (lv_sub hl [1, 2, 3, 0] rfl)
        · have hm := hm.2 c_28
          refine lv_aload_n hx hb dX4_crewRests_31 rfl (lv_at hl 0 rfl) ?_
          refine gTW_tun_0 hC hK hT.1 wq_425 dX4_crewRests_32 ?_
          refine lv_aload_n hx hb dX4_crewRests_35 rfl (lv_at hl 2 rfl) ?_
          refine gTW_orders_2 hC hK hT.1 wq_260 dX4_crewRests_36 ?_
          refine lv_iload_n hx hb dX4_crewRests_39 rfl (lv_at hl 3 rfl) ?_
          refine w_at (q0 := 28) hC hN hK hT.1 wn_519 rfl (by decide) (by decide) hl.1 (Nat.le_of_ble_eq_true rfl) ⟨Nat.le_refl _, Nat.le_refl _⟩ dX4_crewRests_40 ?_
          refine lv_iload_n hx hb dX4_crewRests_43 rfl (lv_at hl 1 rfl) ?_
          refine k_X1_isCrew hC hN hK hT.1 hT.D' hm wq_632 (by decide) hl.1 (Nat.le_of_ble_eq_true rfl) ⟨Nat.le_refl _, Nat.le_refl _⟩ dX4_crewRests_44 (fun r_44 hm => ?_)
          refine lv_if_eq (tgt := 60) hx hb dX4_crewRests_47 (by decide) (fun c_47 => ?_) (fun c_47 => ?_)
          · have hm := hm.1 c_47
            obtain ⟨v3_60, ev3_60⟩ : ∃ y : Int32, y = v3 + 1 := ⟨_, rfl⟩
            have hm := hm v3_60 ev3_60
            refine lv_iinc (v := v3_60) (lv' := [(3, .int v3_60), (0, .ref (a 0)), (1, .int v1), (2, .ref (q 40))]) hx hb dX4_crewRests_60 hl (k := 3) rfl (by rw [ev3_60]; rfl) (by decide) rfl (fun ls hl => ?_)
            refine lv_goto (tgt := 10) hx hb dX4_crewRests_63 (by decide) ?_
            exact ih10 _ _ _ _ _ _ hm hT (lv_sub hl [1, 2, 3, 0] rfl)
          · have hm := hm.2 c_47
            refine lv_aload_n hx hb dX4_crewRests_50 rfl (lv_at hl 0 rfl) ?_
            refine lv_iload_n hx hb dX4_crewRests_51 rfl (lv_at hl 3 rfl) ?_
            refine k_X4_holds hC hN hK hT hm wq_672 (by decide) hl.1 (Nat.le_of_ble_eq_true rfl) ⟨Nat.le_refl _, Nat.le_refl _⟩ dX4_crewRests_52 (fun r_52 F_52 H locs hm hT => ?_)
            refine lv_if_eq (tgt := 60) hx hb dX4_crewRests_55 (by decide) (fun c_55 => ?_) (fun c_55 => ?_)
            · have hm := hm.1 c_55
              obtain ⟨v3_60, ev3_60⟩ : ∃ y : Int32, y = v3 + 1 := ⟨_, rfl⟩
              have hm := hm v3_60 ev3_60
              refine lv_iinc (v := v3_60) (lv' := [(3, .int v3_60), (0, .ref (a 0)), (1, .int v1), (2, .ref (q 40))]) hx hb dX4_crewRests_60 hl (k := 3) rfl (by rw [ev3_60]; rfl) (by decide) rfl (fun ls hl => ?_)
              refine lv_goto (tgt := 10) hx hb dX4_crewRests_63 (by decide) ?_
              exact ih10 _ _ _ _ _ _ hm hT (lv_sub hl [1, 2, 3, 0] rfl)
            · have hm := hm.2 c_55
              refine lv_iconst (v := 1) hx hb dX4_crewRests_58 (by decide) ?_
              exact hret 59 _ _ _ _ _ hm hT rfl dX4_crewRests_59
  refine lv_aload_n hx hb dX4_crewRests_0 rfl (lv_at hl 0 rfl) ?_
  refine gTW_tun_0 hC hK hT.1 wq_425 dX4_crewRests_1 ?_
  refine gTW_plan_18 hC hK hT.1 wq_344 dX4_crewRests_4 ?_
  refine lv_astore_n (lv' := [(2, .ref (q 40)), (0, .ref (a 0)), (1, .int x1)]) hx hb dX4_crewRests_7 rfl hl (by decide) rfl (fun ls hl => ?_)
  refine lv_iconst (v := 0) hx hb dX4_crewRests_8 (by decide) ?_
  refine lv_istore_n (lv' := [(3, .int 0), (2, .ref (q 40)), (0, .ref (a 0)), (1, .int x1)]) hx hb dX4_crewRests_9 rfl hl (by decide) rfl (fun ls hl => ?_)
  exact L10 _ _ _ _ _ _ _ hm hT (lv_sub hl [2, 3, 1, 0] rfl)
section KX4_crewRests
variable {p : Program} {l : Launch} {e : Env} {s : State} {m : MethodId} {args : Array Value} {below : List Frame} {meth : Method} {c : Code} {H H0 : Heap} {locs : List Loc} {cells slots : Nat} {Q : State → Prop} {R : Room} {rn mcR msR : Nat}
variable {pc : Nat} {ls : Array Slot} {rest : List Value} {A : Nat → Prop} {D : va_G}
variable {cc : ByteArray} {nL index : Nat} {own host : String}
theorem k_X4_crewRests {Z : Nat → ClassId} {a q : Nat → Nat} {P : M2} {F : M2} {x1 : Int32} {K : Int32 → M2 → Prop} (hC : CallFix p m c cc nL s args lw_g own) (hN : NW s) (hK : va_K D vwCl (tysG Z) s) (hT : TS vwCl D (TW Z a q P F) A H0 H locs) (hm : wp_X4_crewRests P F x1 K) (hl : Cond.methodLink own index yX4_crewRests ∈ lw_g) (hlt : 4 < rn) (hsize : ls.size = nL) (hW : (rest.map fun v => v.category).sum ≤ 8) (hf : cells + 0 ≤ mcR ∧ slots + 0 ≤ msR) (hdg : decode cc pc = .ok (.invokevirtual index, 3)) (kk : ∀ (r : Int32) (F1 : M2) (H1 : Heap) (locs1 : List Loc), K r F1 → TS vwCl D (TW Z a q P F1) A H0 H1 locs1 → W p l e (rk rn mcR msR) s m args below meth c H1 locs1 cells slots Q (F0 m (pc + 3) ls (.int r :: rest))) : W p l e (rk rn mcR msR) s m args below meth c H locs cells slots Q (F0 m pc ls (.int x1 :: .ref (a 0) :: rest)) :=
  rw_go (wsF := (TW Z a q P)) (u0 := F) (wr := []) (isC := cutTW) (isR := []) (pm := cutTW) (ws' := (TW Z a q P)) (runV (As := [.int x1]) hC hN (c_X4_crewRests l D Z a q P F H.size x1 K hm) mi_X4_crewRests hl wq_670 wq_8 hlt hT.1 hT.D' hK (q0 := 0) rfl rfl rfl hsize rfl hW hdg hf) (cutOkTW Z a q P F) hT (fun r u H1 locs1 hk hT1 => kk r u H1 locs1 hk hT1)
end KX4_crewRests
def wp_X4_goesIn (P : M2) (F : M2) (x1 : Int32) (K : Int32 → M2 → Prop) : Prop := wp_X4_isDue P F x1 (fun r_2 => ((r_2 = 0 → K 0 F) ∧ (¬ r_2 = 0 → ((¬ (atv (F 8) 8 x1) = (F 2 0) → K 0 F) ∧ ((atv (F 8) 8 x1) = (F 2 0) → (((P 21 0) ≤ 0 → K 0 F) ∧ (¬ (P 21 0) ≤ 0 → wp_X4_isClear P F (F 2 0) (fun r_38 => ((r_38 = 0 → K 0 F) ∧ (¬ r_38 = 0 → wp_X4_isReady P F (atv (P 36) 8 x1) (fun r_56 => ((r_56 = 0 → K 0 F) ∧ (¬ r_56 = 0 → wp_X4_isReady P F (atv (P 37) 8 x1) (fun r_74 => ((r_74 = 0 → K 0 F) ∧ (¬ r_74 = 0 → wp_X4_crewRests P F x1 (fun r_82 F_82 => ((¬ r_82 = 0 → K 0 F_82) ∧ (r_82 = 0 → K 1 F_82)))))))))))))))))))
set_option maxRecDepth 100000 in
set_option maxHeartbeats 4000000 in
theorem c_X4_goesIn (l : Launch) (D : va_G) (Z : Nat → ClassId) (a q : Nat → Nat) (P : M2) (F : M2) (sz : Nat) (x1 : Int32) (K : Int32 → M2 → Prop) (hm : wp_X4_goesIn P F x1 K) : Met l yX4_goesIn (wy yX4_goesIn cX4_goesIn 2 (some .boolean)) (rk 5 0 0) (pre vwCl D Z (TW Z a q P F) sz [.ref (a 0), .int x1]) (poI vwCl D Z (TW Z a q P) F sz K) 0 0 (va_A (TW Z a q P F) sz) := by
  refine rw_of (ty := .boolean) (wsF := (TW Z a q P)) (u0 := F) (by decide +kernel) (Nat.le_of_ble_eq_true rfl) rfl ?_
  intro p e s m args below meth c Q A hC hN hsz hT hK hret ls hl
  have hx := hC.1
  have hb := hC.2.1
  have hl : lv_has ls 2 [(0, .ref (a 0)), (1, .int x1)] := hl
  have hT : TS vwCl D (TW Z a q P F) A s.heap s.heap [] := hT
  refine lv_aload_n hx hb dX4_goesIn_0 rfl (lv_at hl 0 rfl) ?_
  refine lv_iload_n hx hb dX4_goesIn_1 rfl (lv_at hl 1 rfl) ?_
  refine k_X4_isDue hC hN hK hT.1 hT.D' hm wq_655 (by decide) hl.1 (Nat.le_of_ble_eq_true rfl) ⟨Nat.le_refl _, Nat.le_refl _⟩ dX4_goesIn_2 (fun r_2 hm => ?_)
  refine lv_if_eq (tgt := 92) hx hb dX4_goesIn_5 (by decide) (fun c_5 => ?_) (fun c_5 => ?_)
  · have hm := hm.1 c_5
    refine lv_iconst (v := 0) hx hb dX4_goesIn_92 (by decide) ?_
    exact hret 93 _ _ _ _ _ hm hT rfl dX4_goesIn_93
  · have hm := hm.2 c_5
    refine lv_aload_n hx hb dX4_goesIn_8 rfl (lv_at hl 0 rfl) ?_
    refine gTW_tun_8 hC hK hT.1 wq_441 dX4_goesIn_9 ?_
    refine lv_iload_n hx hb dX4_goesIn_12 rfl (lv_at hl 1 rfl) ?_
    refine w_at (q0 := 5) hC hN hK hT.1 wn_519 rfl (by decide) (by decide) hl.1 (Nat.le_of_ble_eq_true rfl) ⟨Nat.le_refl _, Nat.le_refl _⟩ dX4_goesIn_13 ?_
    refine lv_aload_n hx hb dX4_goesIn_16 rfl (lv_at hl 0 rfl) ?_
    refine gTW_tun_2 hC hK hT.1 wq_429 dX4_goesIn_17 ?_
    refine lv_icmp_ne (tgt := 92) hx hb dX4_goesIn_20 (by decide) (fun c_20 => ?_) (fun c_20 => ?_)
    · have hm := hm.1 c_20
      refine lv_iconst (v := 0) hx hb dX4_goesIn_92 (by decide) ?_
      exact hret 93 _ _ _ _ _ hm hT rfl dX4_goesIn_93
    · have hm := hm.2 c_20
      refine lv_aload_n hx hb dX4_goesIn_23 rfl (lv_at hl 0 rfl) ?_
      refine gTW_tun_0 hC hK hT.1 wq_425 dX4_goesIn_24 ?_
      refine gTW_plan_1 hC hK hT.1 wq_292 dX4_goesIn_27 ?_
      refine lv_if_le (tgt := 92) hx hb dX4_goesIn_30 (by decide) (fun c_30 => ?_) (fun c_30 => ?_)
      · have hm := hm.1 c_30
        refine lv_iconst (v := 0) hx hb dX4_goesIn_92 (by decide) ?_
        exact hret 93 _ _ _ _ _ hm hT rfl dX4_goesIn_93
      · have hm := hm.2 c_30
        refine lv_aload_n hx hb dX4_goesIn_33 rfl (lv_at hl 0 rfl) ?_
        refine lv_aload_n hx hb dX4_goesIn_34 rfl (lv_at hl 0 rfl) ?_
        refine gTW_tun_2 hC hK hT.1 wq_429 dX4_goesIn_35 ?_
        refine k_X4_isClear hC hN hK hT.1 hT.D' hm wq_659 (by decide) hl.1 (Nat.le_of_ble_eq_true rfl) ⟨Nat.le_refl _, Nat.le_refl _⟩ dX4_goesIn_38 (fun r_38 hm => ?_)
        refine lv_if_eq (tgt := 92) hx hb dX4_goesIn_41 (by decide) (fun c_41 => ?_) (fun c_41 => ?_)
        · have hm := hm.1 c_41
          refine lv_iconst (v := 0) hx hb dX4_goesIn_92 (by decide) ?_
          exact hret 93 _ _ _ _ _ hm hT rfl dX4_goesIn_93
        · have hm := hm.2 c_41
          refine lv_aload_n hx hb dX4_goesIn_44 rfl (lv_at hl 0 rfl) ?_
          refine lv_aload_n hx hb dX4_goesIn_45 rfl (lv_at hl 0 rfl) ?_
          refine gTW_tun_0 hC hK hT.1 wq_425 dX4_goesIn_46 ?_
          refine gTW_plan_16 hC hK hT.1 wq_338 dX4_goesIn_49 ?_
          refine lv_iload_n hx hb dX4_goesIn_52 rfl (lv_at hl 1 rfl) ?_
          refine w_at (q0 := 24) hC hN hK hT.1 wn_519 rfl (by decide) (by decide) hl.1 (Nat.le_of_ble_eq_true rfl) ⟨Nat.le_refl _, Nat.le_refl _⟩ dX4_goesIn_53 ?_
          refine k_X4_isReady hC hN hK hT.1 hT.D' hm wq_663 (by decide) hl.1 (Nat.le_of_ble_eq_true rfl) ⟨Nat.le_refl _, Nat.le_refl _⟩ dX4_goesIn_56 (fun r_56 hm => ?_)
          refine lv_if_eq (tgt := 92) hx hb dX4_goesIn_59 (by decide) (fun c_59 => ?_) (fun c_59 => ?_)
          · have hm := hm.1 c_59
            refine lv_iconst (v := 0) hx hb dX4_goesIn_92 (by decide) ?_
            exact hret 93 _ _ _ _ _ hm hT rfl dX4_goesIn_93
          · have hm := hm.2 c_59
            refine lv_aload_n hx hb dX4_goesIn_62 rfl (lv_at hl 0 rfl) ?_
            refine lv_aload_n hx hb dX4_goesIn_63 rfl (lv_at hl 0 rfl) ?_
            refine gTW_tun_0 hC hK hT.1 wq_425 dX4_goesIn_64 ?_
            refine gTW_plan_17 hC hK hT.1 wq_341 dX4_goesIn_67 ?_
            refine lv_iload_n hx hb dX4_goesIn_70 rfl (lv_at hl 1 rfl) ?_
            refine w_at (q0 := 25) hC hN hK hT.1 wn_519 rfl (by decide) (by decide) hl.1 (Nat.le_of_ble_eq_true rfl) ⟨Nat.le_refl _, Nat.le_refl _⟩ dX4_goesIn_71 ?_
            refine k_X4_isReady hC hN hK hT.1 hT.D' hm wq_663 (by decide) hl.1 (Nat.le_of_ble_eq_true rfl) ⟨Nat.le_refl _, Nat.le_refl _⟩ dX4_goesIn_74 (fun r_74 hm => ?_)
            refine lv_if_eq (tgt := 92) hx hb dX4_goesIn_77 (by decide) (fun c_77 => ?_) (fun c_77 => ?_)
            · have hm := hm.1 c_77
              refine lv_iconst (v := 0) hx hb dX4_goesIn_92 (by decide) ?_
              exact hret 93 _ _ _ _ _ hm hT rfl dX4_goesIn_93
            · have hm := hm.2 c_77
              refine lv_aload_n hx hb dX4_goesIn_80 rfl (lv_at hl 0 rfl) ?_
              refine lv_iload_n hx hb dX4_goesIn_81 rfl (lv_at hl 1 rfl) ?_
              refine k_X4_crewRests hC hN hK hT hm wq_668 (by decide) hl.1 (Nat.le_of_ble_eq_true rfl) ⟨Nat.le_refl _, Nat.le_refl _⟩ dX4_goesIn_82 (fun r_82 F_82 H locs hm hT => ?_)
              refine lv_if_ne (tgt := 92) hx hb dX4_goesIn_85 (by decide) (fun c_85 => ?_) (fun c_85 => ?_)
              · have hm := hm.1 c_85
                refine lv_iconst (v := 0) hx hb dX4_goesIn_92 (by decide) ?_
                exact hret 93 _ _ _ _ _ hm hT rfl dX4_goesIn_93
              · have hm := hm.2 c_85
                refine lv_iconst (v := 1) hx hb dX4_goesIn_88 (by decide) ?_
                refine lv_goto (tgt := 93) hx hb dX4_goesIn_89 (by decide) ?_
                exact hret 93 _ _ _ _ _ hm hT rfl dX4_goesIn_93
section KX4_goesIn
variable {p : Program} {l : Launch} {e : Env} {s : State} {m : MethodId} {args : Array Value} {below : List Frame} {meth : Method} {c : Code} {H H0 : Heap} {locs : List Loc} {cells slots : Nat} {Q : State → Prop} {R : Room} {rn mcR msR : Nat}
variable {pc : Nat} {ls : Array Slot} {rest : List Value} {A : Nat → Prop} {D : va_G}
variable {cc : ByteArray} {nL index : Nat} {own host : String}
theorem k_X4_goesIn {Z : Nat → ClassId} {a q : Nat → Nat} {P : M2} {F : M2} {x1 : Int32} {K : Int32 → M2 → Prop} (hC : CallFix p m c cc nL s args lw_g own) (hN : NW s) (hK : va_K D vwCl (tysG Z) s) (hT : TS vwCl D (TW Z a q P F) A H0 H locs) (hm : wp_X4_goesIn P F x1 K) (hl : Cond.methodLink own index yX4_goesIn ∈ lw_g) (hlt : 5 < rn) (hsize : ls.size = nL) (hW : (rest.map fun v => v.category).sum ≤ 8) (hf : cells + 0 ≤ mcR ∧ slots + 0 ≤ msR) (hdg : decode cc pc = .ok (.invokevirtual index, 3)) (kk : ∀ (r : Int32) (F1 : M2) (H1 : Heap) (locs1 : List Loc), K r F1 → TS vwCl D (TW Z a q P F1) A H0 H1 locs1 → W p l e (rk rn mcR msR) s m args below meth c H1 locs1 cells slots Q (F0 m (pc + 3) ls (.int r :: rest))) : W p l e (rk rn mcR msR) s m args below meth c H locs cells slots Q (F0 m pc ls (.int x1 :: .ref (a 0) :: rest)) :=
  rw_go (wsF := (TW Z a q P)) (u0 := F) (wr := []) (isC := cutTW) (isR := []) (pm := cutTW) (ws' := (TW Z a q P)) (runV (As := [.int x1]) hC hN (c_X4_goesIn l D Z a q P F H.size x1 K hm) mi_X4_goesIn hl wq_652 wq_653 hlt hT.1 hT.D' hK (q0 := 0) rfl rfl rfl hsize rfl hW hdg hf) (cutOkTW Z a q P F) hT (fun r u H1 locs1 hk hT1 => kk r u H1 locs1 hk hT1)
end KX4_goesIn
def wj_X4_passLow_29 (P : M2) (K : M2 → Prop) (F : M2) (v1 : Int32) (v2 : Int32) (v3 : Int32) (q0 : Int32) : Prop := ((q0 = 0 → K F) ∧ (¬ q0 = 0 → ((v3 ≤ (12 - (atv (P 31) 6 v1)) → (∀ F_64 : M2, F_64 = up2 F 7 (putv (F 7) 6 v1 ((-1))) → K F_64)) ∧ (¬ v3 ≤ (12 - (atv (P 31) 6 v1)) → (∀ F_64 : M2, F_64 = up2 F 7 (putv (F 7) 6 v1 v2) → K F_64)))))
def wp_X4_passLow (P : M2) (F : M2) (x1 : Int32) (x2 : Int32) (x3 : Int32) (K : M2 → Prop) : Prop := (((atv (F 7) 6 x1) = ((-1)) → wj_X4_passLow_29 P K F x1 x2 x3 1) ∧ (¬ (atv (F 7) 6 x1) = ((-1)) → ((¬ (atv (F 7) 6 x1) = x2 → wj_X4_passLow_29 P K F x1 x2 x3 0) ∧ ((atv (F 7) 6 x1) = x2 → wj_X4_passLow_29 P K F x1 x2 x3 1))))
set_option maxRecDepth 100000 in
set_option maxHeartbeats 4000000 in
theorem c_X4_passLow (l : Launch) (D : va_G) (Z : Nat → ClassId) (a q : Nat → Nat) (P : M2) (F : M2) (sz : Nat) (x1 : Int32) (x2 : Int32) (x3 : Int32) (K : M2 → Prop) (hm : wp_X4_passLow P F x1 x2 x3 K) : Met l yX4_passLow (wy yX4_passLow cX4_passLow 5 none) (rk 1 0 0) (pre vwCl D Z (TW Z a q P F) sz [.ref (a 0), .int x1, .int x2, .int x3]) (poV vwCl D Z (TW Z a q P) F sz K) 0 0 (va_A (TW Z a q P F) sz) := by
  refine rwv_of (wsF := (TW Z a q P)) (u0 := F) (by decide +kernel) (Nat.le_of_ble_eq_true rfl) rfl ?_
  intro p e s m args below meth c Q A hC hN hsz hnm hT hK hret ls hl
  have hx := hC.1
  have hb := hC.2.1
  have hl : lv_has ls 5 [(0, .ref (a 0)), (1, .int x1), (2, .int x2), (3, .int x3)] := hl
  have hT : TS vwCl D (TW Z a q P F) A s.heap s.heap [] := hT
  have L29 : ∀ (F : M2) (v1 : Int32) (v2 : Int32) (v3 : Int32) (q0 : Int32) (H : Heap) (locs : List Loc) (ls : Array Slot), wj_X4_passLow_29 P K F v1 v2 v3 q0 → TS vwCl D (TW Z a q P F) A s.heap H locs → lv_has ls 5 [(0, .ref (a 0)), (1, .int v1), (2, .int v2), (3, .int v3)] → W p l e (rk 1 0 0) s m args below meth c H locs 0 0 Q (F0 m 29 ls [.int q0]) := by
    intro F v1 v2 v3 q0 H locs ls hm hT hl
    refine lv_istore (lv' := [(4, .int q0), (0, .ref (a 0)), (1, .int v1), (2, .int v2), (3, .int v3)]) hx hb dX4_passLow_29 hl (by decide) rfl (fun ls hl => ?_)
    refine lv_iload hx hb dX4_passLow_31 (lv_at hl 0 rfl) ?_
    refine lv_if_eq (tgt := 67) hx hb dX4_passLow_33 (by decide) (fun c_33 => ?_) (fun c_33 => ?_)
    · have hm := hm.1 c_33
      exact hret 67 _ _ _ _ hm hT dX4_passLow_67
    · have hm := hm.2 c_33
      refine lv_aload_n hx hb dX4_passLow_36 rfl (lv_at hl 1 rfl) ?_
      refine gTW_tun_7 hC hK hT.1 wq_439 dX4_passLow_37 ?_
      refine lv_iload_n hx hb dX4_passLow_40 rfl (lv_at hl 2 rfl) ?_
      refine lv_iload_n hx hb dX4_passLow_41 rfl (lv_at hl 4 rfl) ?_
      refine lv_bipush (v := 12) hx hb dX4_passLow_42 (by decide) ?_
      refine lv_aload_n hx hb dX4_passLow_44 rfl (lv_at hl 1 rfl) ?_
      refine gTW_tun_0 hC hK hT.1 wq_425 dX4_passLow_45 ?_
      refine gTW_plan_11 hC hK hT.1 wq_325 dX4_passLow_48 ?_
      refine lv_iload_n hx hb dX4_passLow_51 rfl (lv_at hl 2 rfl) ?_
      refine w_at (q0 := 19) hC hN hK hT.1 wn_519 rfl (by decide) (by decide) hl.1 (Nat.le_of_ble_eq_true rfl) ⟨Nat.le_refl _, Nat.le_refl _⟩ dX4_passLow_52 ?_
      refine lv_isub hx hb dX4_passLow_55 ?_
      refine lv_icmp_le (tgt := 63) hx hb dX4_passLow_56 (by decide) (fun c_56 => ?_) (fun c_56 => ?_)
      · have hm := hm.1 c_56
        refine lv_iconst (v := (-1)) hx hb dX4_passLow_63 (by decide) ?_
        refine uTW_TcapPlace hC hN hK hT wn_684 (by decide) hl.1 (Nat.le_of_ble_eq_true rfl) ⟨Nat.le_refl _, Nat.le_refl _⟩ dX4_passLow_64 (fun F_64 eF_64 H locs hT => ?_)
        have hm := hm F_64 eF_64
        exact hret 67 _ _ _ _ hm hT dX4_passLow_67
      · have hm := hm.2 c_56
        refine lv_iload_n hx hb dX4_passLow_59 rfl (lv_at hl 3 rfl) ?_
        refine lv_goto (tgt := 64) hx hb dX4_passLow_60 (by decide) ?_
        refine uTW_TcapPlace hC hN hK hT wn_684 (by decide) hl.1 (Nat.le_of_ble_eq_true rfl) ⟨Nat.le_refl _, Nat.le_refl _⟩ dX4_passLow_64 (fun F_64 eF_64 H locs hT => ?_)
        have hm := hm F_64 eF_64
        exact hret 67 _ _ _ _ hm hT dX4_passLow_67
  refine lv_aload_n hx hb dX4_passLow_0 rfl (lv_at hl 0 rfl) ?_
  refine gTW_tun_7 hC hK hT.1 wq_439 dX4_passLow_1 ?_
  refine lv_iload_n hx hb dX4_passLow_4 rfl (lv_at hl 1 rfl) ?_
  refine w_at (q0 := 4) hC hN hK hT.1 wn_519 rfl (by decide) (by decide) hl.1 (Nat.le_of_ble_eq_true rfl) ⟨Nat.le_refl _, Nat.le_refl _⟩ dX4_passLow_5 ?_
  refine lv_iconst (v := (-1)) hx hb dX4_passLow_8 (by decide) ?_
  refine lv_icmp_eq (tgt := 24) hx hb dX4_passLow_9 (by decide) (fun c_9 => ?_) (fun c_9 => ?_)
  · have hm := hm.1 c_9
    refine lv_iconst (v := 1) hx hb dX4_passLow_24 (by decide) ?_
    refine lv_goto (tgt := 29) hx hb dX4_passLow_25 (by decide) ?_
    exact L29 _ _ _ _ _ _ _ _ hm hT (lv_sub hl [0, 1, 2, 3] rfl)
  · have hm := hm.2 c_9
    refine lv_aload_n hx hb dX4_passLow_12 rfl (lv_at hl 0 rfl) ?_
    refine gTW_tun_7 hC hK hT.1 wq_439 dX4_passLow_13 ?_
    refine lv_iload_n hx hb dX4_passLow_16 rfl (lv_at hl 1 rfl) ?_
    refine w_at (q0 := 4) hC hN hK hT.1 wn_519 rfl (by decide) (by decide) hl.1 (Nat.le_of_ble_eq_true rfl) ⟨Nat.le_refl _, Nat.le_refl _⟩ dX4_passLow_17 ?_
    refine lv_iload_n hx hb dX4_passLow_20 rfl (lv_at hl 2 rfl) ?_
    refine lv_icmp_ne (tgt := 28) hx hb dX4_passLow_21 (by decide) (fun c_21 => ?_) (fun c_21 => ?_)
    · have hm := hm.1 c_21
      refine lv_iconst (v := 0) hx hb dX4_passLow_28 (by decide) ?_
      exact L29 _ _ _ _ _ _ _ _ hm hT (lv_sub hl [0, 1, 2, 3] rfl)
    · have hm := hm.2 c_21
      refine lv_iconst (v := 1) hx hb dX4_passLow_24 (by decide) ?_
      refine lv_goto (tgt := 29) hx hb dX4_passLow_25 (by decide) ?_
      exact L29 _ _ _ _ _ _ _ _ hm hT (lv_sub hl [0, 1, 2, 3] rfl)
section KX4_passLow
variable {p : Program} {l : Launch} {e : Env} {s : State} {m : MethodId} {args : Array Value} {below : List Frame} {meth : Method} {c : Code} {H H0 : Heap} {locs : List Loc} {cells slots : Nat} {Q : State → Prop} {R : Room} {rn mcR msR : Nat}
variable {pc : Nat} {ls : Array Slot} {rest : List Value} {A : Nat → Prop} {D : va_G}
variable {cc : ByteArray} {nL index : Nat} {own host : String}
theorem k_X4_passLow {Z : Nat → ClassId} {a q : Nat → Nat} {P : M2} {F : M2} {x1 : Int32} {x2 : Int32} {x3 : Int32} {K : M2 → Prop} (hC : CallFix p m c cc nL s args lw_g own) (hN : NW s) (hK : va_K D vwCl (tysG Z) s) (hT : TS vwCl D (TW Z a q P F) A H0 H locs) (hm : wp_X4_passLow P F x1 x2 x3 K) (hl : Cond.methodLink own index yX4_passLow ∈ lw_g) (hlt : 1 < rn) (hsize : ls.size = nL) (hW : (rest.map fun v => v.category).sum ≤ 8) (hf : cells + 0 ≤ mcR ∧ slots + 0 ≤ msR) (hdg : decode cc pc = .ok (.invokevirtual index, 3)) (kk : ∀ (F1 : M2) (H1 : Heap) (locs1 : List Loc), K F1 → TS vwCl D (TW Z a q P F1) A H0 H1 locs1 → W p l e (rk rn mcR msR) s m args below meth c H1 locs1 cells slots Q (F0 m (pc + 3) ls (rest))) : W p l e (rk rn mcR msR) s m args below meth c H locs cells slots Q (F0 m pc ls (.int x3 :: .int x2 :: .int x1 :: .ref (a 0) :: rest)) :=
  rwv_go (wsF := (TW Z a q P)) (u0 := F) (wr := []) (isC := cutTW) (isR := []) (pm := cutTW) (ws' := (TW Z a q P)) (runV (As := [.int x1, .int x2, .int x3]) hC hN (c_X4_passLow l D Z a q P F H.size x1 x2 x3 K hm) mi_X4_passLow hl wq_747 wq_16 hlt hT.1 hT.D' hK (q0 := 0) rfl rfl rfl hsize rfl hW hdg hf) (cutOkTW Z a q P F) hT (fun u H1 locs1 hk hT1 => kk u H1 locs1 hk hT1)
end KX4_passLow
def wp_X4_comeTo (P : M2) (F : M2) (x1 : Int32) (x2 : Int32) (K : M2 → Prop) : Prop := (∀ F_6 : M2, F_6 = up2 F 11 (putv (F 11) 8 x1 x2) → (∀ v3_30, v3_30 = atv (P 26) 5 (atv (P 28) 60 x2) → wp_X4_passLow P F_6 (atv (P 36) 8 x1) x2 v3_30 (fun F_45 => wp_X4_passLow P F_45 (atv (P 37) 8 x1) x2 v3_30 (fun F_62 => K F_62))))
set_option maxRecDepth 100000 in
set_option maxHeartbeats 4000000 in
theorem c_X4_comeTo (l : Launch) (D : va_G) (Z : Nat → ClassId) (a q : Nat → Nat) (P : M2) (F : M2) (sz : Nat) (x1 : Int32) (x2 : Int32) (K : M2 → Prop) (hm : wp_X4_comeTo P F x1 x2 K) : Met l yX4_comeTo (wy yX4_comeTo cX4_comeTo 4 none) (rk 2 0 0) (pre vwCl D Z (TW Z a q P F) sz [.ref (a 0), .int x1, .int x2]) (poV vwCl D Z (TW Z a q P) F sz K) 0 0 (va_A (TW Z a q P F) sz) := by
  refine rwv_of (wsF := (TW Z a q P)) (u0 := F) (by decide +kernel) (Nat.le_of_ble_eq_true rfl) rfl ?_
  intro p e s m args below meth c Q A hC hN hsz hnm hT hK hret ls hl
  have hx := hC.1
  have hb := hC.2.1
  have hl : lv_has ls 4 [(0, .ref (a 0)), (1, .int x1), (2, .int x2)] := hl
  have hT : TS vwCl D (TW Z a q P F) A s.heap s.heap [] := hT
  refine lv_aload_n hx hb dX4_comeTo_0 rfl (lv_at hl 0 rfl) ?_
  refine gTW_tun_11 hC hK hT.1 wq_447 dX4_comeTo_1 ?_
  refine lv_iload_n hx hb dX4_comeTo_4 rfl (lv_at hl 1 rfl) ?_
  refine lv_iload_n hx hb dX4_comeTo_5 rfl (lv_at hl 2 rfl) ?_
  refine uTW_Tspot hC hN hK hT wn_684 (by decide) hl.1 (Nat.le_of_ble_eq_true rfl) ⟨Nat.le_refl _, Nat.le_refl _⟩ dX4_comeTo_6 (fun F_6 eF_6 H locs hT => ?_)
  have hm := hm F_6 eF_6
  refine lv_aload_n hx hb dX4_comeTo_9 rfl (lv_at hl 0 rfl) ?_
  refine gTW_tun_0 hC hK hT.1 wq_425 dX4_comeTo_10 ?_
  refine gTW_plan_6 hC hK hT.1 wq_312 dX4_comeTo_13 ?_
  refine lv_aload_n hx hb dX4_comeTo_16 rfl (lv_at hl 0 rfl) ?_
  refine gTW_tun_0 hC hK hT.1 wq_425 dX4_comeTo_17 ?_
  refine gTW_plan_8 hC hK hT.1 wq_318 dX4_comeTo_20 ?_
  refine lv_iload_n hx hb dX4_comeTo_23 rfl (lv_at hl 2 rfl) ?_
  refine w_at (q0 := 16) hC hN hK hT.1 wn_519 rfl (by decide) (by decide) hl.1 (Nat.le_of_ble_eq_true rfl) ⟨Nat.le_refl _, Nat.le_refl _⟩ dX4_comeTo_24 ?_
  refine w_at (q0 := 14) hC hN hK hT.1 wn_519 rfl (by decide) (by decide) hl.1 (Nat.le_of_ble_eq_true rfl) ⟨Nat.le_refl _, Nat.le_refl _⟩ dX4_comeTo_27 ?_
  refine lv_topi (fun v3_30 ev3_30 => ?_)
  have hm := hm v3_30 ev3_30
  refine lv_istore_n (lv' := [(3, .int v3_30), (0, .ref (a 0)), (1, .int x1), (2, .int x2)]) hx hb dX4_comeTo_30 rfl hl (by decide) rfl (fun ls hl => ?_)
  refine lv_aload_n hx hb dX4_comeTo_31 rfl (lv_at hl 1 rfl) ?_
  refine lv_aload_n hx hb dX4_comeTo_32 rfl (lv_at hl 1 rfl) ?_
  refine gTW_tun_0 hC hK hT.1 wq_425 dX4_comeTo_33 ?_
  refine gTW_plan_16 hC hK hT.1 wq_338 dX4_comeTo_36 ?_
  refine lv_iload_n hx hb dX4_comeTo_39 rfl (lv_at hl 2 rfl) ?_
  refine w_at (q0 := 24) hC hN hK hT.1 wn_519 rfl (by decide) (by decide) hl.1 (Nat.le_of_ble_eq_true rfl) ⟨Nat.le_refl _, Nat.le_refl _⟩ dX4_comeTo_40 ?_
  refine lv_iload_n hx hb dX4_comeTo_43 rfl (lv_at hl 3 rfl) ?_
  refine lv_iload_n hx hb dX4_comeTo_44 rfl (lv_at hl 0 rfl) ?_
  refine k_X4_passLow hC hN hK hT hm wq_745 (by decide) hl.1 (Nat.le_of_ble_eq_true rfl) ⟨Nat.le_refl _, Nat.le_refl _⟩ dX4_comeTo_45 (fun F_45 H locs hm hT => ?_)
  refine lv_aload_n hx hb dX4_comeTo_48 rfl (lv_at hl 1 rfl) ?_
  refine lv_aload_n hx hb dX4_comeTo_49 rfl (lv_at hl 1 rfl) ?_
  refine gTW_tun_0 hC hK hT.1 wq_425 dX4_comeTo_50 ?_
  refine gTW_plan_17 hC hK hT.1 wq_341 dX4_comeTo_53 ?_
  refine lv_iload_n hx hb dX4_comeTo_56 rfl (lv_at hl 2 rfl) ?_
  refine w_at (q0 := 25) hC hN hK hT.1 wn_519 rfl (by decide) (by decide) hl.1 (Nat.le_of_ble_eq_true rfl) ⟨Nat.le_refl _, Nat.le_refl _⟩ dX4_comeTo_57 ?_
  refine lv_iload_n hx hb dX4_comeTo_60 rfl (lv_at hl 3 rfl) ?_
  refine lv_iload_n hx hb dX4_comeTo_61 rfl (lv_at hl 0 rfl) ?_
  refine k_X4_passLow hC hN hK hT hm wq_745 (by decide) hl.1 (Nat.le_of_ble_eq_true rfl) ⟨Nat.le_refl _, Nat.le_refl _⟩ dX4_comeTo_62 (fun F_62 H locs hm hT => ?_)
  exact hret 65 _ _ _ _ hm hT dX4_comeTo_65
section KX4_comeTo
variable {p : Program} {l : Launch} {e : Env} {s : State} {m : MethodId} {args : Array Value} {below : List Frame} {meth : Method} {c : Code} {H H0 : Heap} {locs : List Loc} {cells slots : Nat} {Q : State → Prop} {R : Room} {rn mcR msR : Nat}
variable {pc : Nat} {ls : Array Slot} {rest : List Value} {A : Nat → Prop} {D : va_G}
variable {cc : ByteArray} {nL index : Nat} {own host : String}
theorem k_X4_comeTo {Z : Nat → ClassId} {a q : Nat → Nat} {P : M2} {F : M2} {x1 : Int32} {x2 : Int32} {K : M2 → Prop} (hC : CallFix p m c cc nL s args lw_g own) (hN : NW s) (hK : va_K D vwCl (tysG Z) s) (hT : TS vwCl D (TW Z a q P F) A H0 H locs) (hm : wp_X4_comeTo P F x1 x2 K) (hl : Cond.methodLink own index yX4_comeTo ∈ lw_g) (hlt : 2 < rn) (hsize : ls.size = nL) (hW : (rest.map fun v => v.category).sum ≤ 8) (hf : cells + 0 ≤ mcR ∧ slots + 0 ≤ msR) (hdg : decode cc pc = .ok (.invokevirtual index, 3)) (kk : ∀ (F1 : M2) (H1 : Heap) (locs1 : List Loc), K F1 → TS vwCl D (TW Z a q P F1) A H0 H1 locs1 → W p l e (rk rn mcR msR) s m args below meth c H1 locs1 cells slots Q (F0 m (pc + 3) ls (rest))) : W p l e (rk rn mcR msR) s m args below meth c H locs cells slots Q (F0 m pc ls (.int x2 :: .int x1 :: .ref (a 0) :: rest)) :=
  rwv_go (wsF := (TW Z a q P)) (u0 := F) (wr := []) (isC := cutTW) (isR := []) (pm := cutTW) (ws' := (TW Z a q P)) (runV (As := [.int x1, .int x2]) hC hN (c_X4_comeTo l D Z a q P F H.size x1 x2 K hm) mi_X4_comeTo hl wq_743 wq_15 hlt hT.1 hT.D' hK (q0 := 0) rfl rfl rfl hsize rfl hW hdg hf) (cutOkTW Z a q P F) hT (fun u H1 locs1 hk hT1 => kk u H1 locs1 hk hT1)
end KX4_comeTo
def wp_X4_enter (P : M2) (F : M2) (x1 : Int32) (K : M2 → Prop) : Prop := (∀ F_6 : M2, F_6 = up2 F 10 (putv (F 10) 8 x1 1) → (∀ F_15 : M2, F_15 = up2 F_6 12 (putv (F_6 12) 8 x1 0) → ((¬ (atv (F_15 8) 8 x1) = 0 → wp_X4_comeTo P F_15 x1 ((P 21 0) - 1) (fun F_44 => K F_44)) ∧ ((atv (F_15 8) 8 x1) = 0 → wp_X4_comeTo P F_15 x1 0 (fun F_44 => K F_44)))))
set_option maxRecDepth 100000 in
set_option maxHeartbeats 4000000 in
theorem c_X4_enter (l : Launch) (D : va_G) (Z : Nat → ClassId) (a q : Nat → Nat) (P : M2) (F : M2) (sz : Nat) (x1 : Int32) (K : M2 → Prop) (hm : wp_X4_enter P F x1 K) : Met l yX4_enter (wy yX4_enter cX4_enter 2 none) (rk 3 0 0) (pre vwCl D Z (TW Z a q P F) sz [.ref (a 0), .int x1]) (poV vwCl D Z (TW Z a q P) F sz K) 0 0 (va_A (TW Z a q P F) sz) := by
  refine rwv_of (wsF := (TW Z a q P)) (u0 := F) (by decide +kernel) (Nat.le_of_ble_eq_true rfl) rfl ?_
  intro p e s m args below meth c Q A hC hN hsz hnm hT hK hret ls hl
  have hx := hC.1
  have hb := hC.2.1
  have hl : lv_has ls 2 [(0, .ref (a 0)), (1, .int x1)] := hl
  have hT : TS vwCl D (TW Z a q P F) A s.heap s.heap [] := hT
  refine lv_aload_n hx hb dX4_enter_0 rfl (lv_at hl 0 rfl) ?_
  refine gTW_tun_10 hC hK hT.1 wq_445 dX4_enter_1 ?_
  refine lv_iload_n hx hb dX4_enter_4 rfl (lv_at hl 1 rfl) ?_
  refine lv_iconst (v := 1) hx hb dX4_enter_5 (by decide) ?_
  refine uTW_Thow hC hN hK hT wn_684 (by decide) hl.1 (Nat.le_of_ble_eq_true rfl) ⟨Nat.le_refl _, Nat.le_refl _⟩ dX4_enter_6 (fun F_6 eF_6 H locs hT => ?_)
  have hm := hm F_6 eF_6
  refine lv_aload_n hx hb dX4_enter_9 rfl (lv_at hl 0 rfl) ?_
  refine gTW_tun_12 hC hK hT.1 wq_449 dX4_enter_10 ?_
  refine lv_iload_n hx hb dX4_enter_13 rfl (lv_at hl 1 rfl) ?_
  refine lv_iconst (v := 0) hx hb dX4_enter_14 (by decide) ?_
  refine uTW_Tpushed hC hN hK hT wn_684 (by decide) hl.1 (Nat.le_of_ble_eq_true rfl) ⟨Nat.le_refl _, Nat.le_refl _⟩ dX4_enter_15 (fun F_15 eF_15 H locs hT => ?_)
  have hm := hm F_15 eF_15
  refine lv_aload_n hx hb dX4_enter_18 rfl (lv_at hl 0 rfl) ?_
  refine lv_iload_n hx hb dX4_enter_19 rfl (lv_at hl 1 rfl) ?_
  refine lv_aload_n hx hb dX4_enter_20 rfl (lv_at hl 0 rfl) ?_
  refine gTW_tun_8 hC hK hT.1 wq_441 dX4_enter_21 ?_
  refine lv_iload_n hx hb dX4_enter_24 rfl (lv_at hl 1 rfl) ?_
  refine w_at (q0 := 5) hC hN hK hT.1 wn_519 rfl (by decide) (by decide) hl.1 (Nat.le_of_ble_eq_true rfl) ⟨Nat.le_refl _, Nat.le_refl _⟩ dX4_enter_25 ?_
  refine lv_if_ne (tgt := 35) hx hb dX4_enter_28 (by decide) (fun c_28 => ?_) (fun c_28 => ?_)
  · have hm := hm.1 c_28
    refine lv_aload_n hx hb dX4_enter_35 rfl (lv_at hl 0 rfl) ?_
    refine gTW_tun_0 hC hK hT.1 wq_425 dX4_enter_36 ?_
    refine gTW_plan_1 hC hK hT.1 wq_292 dX4_enter_39 ?_
    refine lv_iconst (v := 1) hx hb dX4_enter_42 (by decide) ?_
    refine lv_isub hx hb dX4_enter_43 ?_
    refine k_X4_comeTo hC hN hK hT hm wq_741 (by decide) hl.1 (Nat.le_of_ble_eq_true rfl) ⟨Nat.le_refl _, Nat.le_refl _⟩ dX4_enter_44 (fun F_44 H locs hm hT => ?_)
    exact hret 47 _ _ _ _ hm hT dX4_enter_47
  · have hm := hm.2 c_28
    refine lv_iconst (v := 0) hx hb dX4_enter_31 (by decide) ?_
    refine lv_goto (tgt := 44) hx hb dX4_enter_32 (by decide) ?_
    refine k_X4_comeTo hC hN hK hT hm wq_741 (by decide) hl.1 (Nat.le_of_ble_eq_true rfl) ⟨Nat.le_refl _, Nat.le_refl _⟩ dX4_enter_44 (fun F_44 H locs hm hT => ?_)
    exact hret 47 _ _ _ _ hm hT dX4_enter_47
section KX4_enter
variable {p : Program} {l : Launch} {e : Env} {s : State} {m : MethodId} {args : Array Value} {below : List Frame} {meth : Method} {c : Code} {H H0 : Heap} {locs : List Loc} {cells slots : Nat} {Q : State → Prop} {R : Room} {rn mcR msR : Nat}
variable {pc : Nat} {ls : Array Slot} {rest : List Value} {A : Nat → Prop} {D : va_G}
variable {cc : ByteArray} {nL index : Nat} {own host : String}
theorem k_X4_enter {Z : Nat → ClassId} {a q : Nat → Nat} {P : M2} {F : M2} {x1 : Int32} {K : M2 → Prop} (hC : CallFix p m c cc nL s args lw_g own) (hN : NW s) (hK : va_K D vwCl (tysG Z) s) (hT : TS vwCl D (TW Z a q P F) A H0 H locs) (hm : wp_X4_enter P F x1 K) (hl : Cond.methodLink own index yX4_enter ∈ lw_g) (hlt : 3 < rn) (hsize : ls.size = nL) (hW : (rest.map fun v => v.category).sum ≤ 8) (hf : cells + 0 ≤ mcR ∧ slots + 0 ≤ msR) (hdg : decode cc pc = .ok (.invokevirtual index, 3)) (kk : ∀ (F1 : M2) (H1 : Heap) (locs1 : List Loc), K F1 → TS vwCl D (TW Z a q P F1) A H0 H1 locs1 → W p l e (rk rn mcR msR) s m args below meth c H1 locs1 cells slots Q (F0 m (pc + 3) ls (rest))) : W p l e (rk rn mcR msR) s m args below meth c H locs cells slots Q (F0 m pc ls (.int x1 :: .ref (a 0) :: rest)) :=
  rwv_go (wsF := (TW Z a q P)) (u0 := F) (wr := []) (isC := cutTW) (isR := []) (pm := cutTW) (ws' := (TW Z a q P)) (runV (As := [.int x1]) hC hN (c_X4_enter l D Z a q P F H.size x1 K hm) mi_X4_enter hl wq_739 wq_14 hlt hT.1 hT.D' hK (q0 := 0) rfl rfl rfl hsize rfl hW hdg hf) (cutOkTW Z a q P F) hT (fun u H1 locs1 hk hT1 => kk u H1 locs1 hk hT1)
end KX4_enter
def wp_X4_leave (P : M2) (F : M2) (x1 : Int32) (K : M2 → Prop) : Prop := (∀ F_6 : M2, F_6 = up2 F 10 (putv (F 10) 8 x1 2) → (∀ F_15 : M2, F_15 = up2 F_6 11 (putv (F_6 11) 8 x1 ((-1))) → (∀ F_24 : M2, F_24 = up2 F_15 12 (putv (F_15 12) 8 x1 0) → (∀ F_36 : M2, F_36 = up2 F_24 13 (putv (F_24 13) 8 x1 (F_24 1 0)) → (∀ F_56 : M2, F_56 = up2 F_36 6 (putv (F_36 6) 6 (atv (P 36) 8 x1) 10) → (∀ F_76 : M2, F_76 = up2 F_56 6 (putv (F_56 6) 6 (atv (P 37) 8 x1) 10) → K F_76))))))
set_option maxRecDepth 100000 in
set_option maxHeartbeats 4000000 in
theorem c_X4_leave (l : Launch) (D : va_G) (Z : Nat → ClassId) (a q : Nat → Nat) (P : M2) (F : M2) (sz : Nat) (x1 : Int32) (K : M2 → Prop) (hm : wp_X4_leave P F x1 K) : Met l yX4_leave (wy yX4_leave cX4_leave 2 none) (rk 1 0 0) (pre vwCl D Z (TW Z a q P F) sz [.ref (a 0), .int x1]) (poV vwCl D Z (TW Z a q P) F sz K) 0 0 (va_A (TW Z a q P F) sz) := by
  refine rwv_of (wsF := (TW Z a q P)) (u0 := F) (by decide +kernel) (Nat.le_of_ble_eq_true rfl) rfl ?_
  intro p e s m args below meth c Q A hC hN hsz hnm hT hK hret ls hl
  have hx := hC.1
  have hb := hC.2.1
  have hl : lv_has ls 2 [(0, .ref (a 0)), (1, .int x1)] := hl
  have hT : TS vwCl D (TW Z a q P F) A s.heap s.heap [] := hT
  refine lv_aload_n hx hb dX4_leave_0 rfl (lv_at hl 0 rfl) ?_
  refine gTW_tun_10 hC hK hT.1 wq_445 dX4_leave_1 ?_
  refine lv_iload_n hx hb dX4_leave_4 rfl (lv_at hl 1 rfl) ?_
  refine lv_iconst (v := 2) hx hb dX4_leave_5 (by decide) ?_
  refine uTW_Thow hC hN hK hT wn_684 (by decide) hl.1 (Nat.le_of_ble_eq_true rfl) ⟨Nat.le_refl _, Nat.le_refl _⟩ dX4_leave_6 (fun F_6 eF_6 H locs hT => ?_)
  have hm := hm F_6 eF_6
  refine lv_aload_n hx hb dX4_leave_9 rfl (lv_at hl 0 rfl) ?_
  refine gTW_tun_11 hC hK hT.1 wq_447 dX4_leave_10 ?_
  refine lv_iload_n hx hb dX4_leave_13 rfl (lv_at hl 1 rfl) ?_
  refine lv_iconst (v := (-1)) hx hb dX4_leave_14 (by decide) ?_
  refine uTW_Tspot hC hN hK hT wn_684 (by decide) hl.1 (Nat.le_of_ble_eq_true rfl) ⟨Nat.le_refl _, Nat.le_refl _⟩ dX4_leave_15 (fun F_15 eF_15 H locs hT => ?_)
  have hm := hm F_15 eF_15
  refine lv_aload_n hx hb dX4_leave_18 rfl (lv_at hl 0 rfl) ?_
  refine gTW_tun_12 hC hK hT.1 wq_449 dX4_leave_19 ?_
  refine lv_iload_n hx hb dX4_leave_22 rfl (lv_at hl 1 rfl) ?_
  refine lv_iconst (v := 0) hx hb dX4_leave_23 (by decide) ?_
  refine uTW_Tpushed hC hN hK hT wn_684 (by decide) hl.1 (Nat.le_of_ble_eq_true rfl) ⟨Nat.le_refl _, Nat.le_refl _⟩ dX4_leave_24 (fun F_24 eF_24 H locs hT => ?_)
  have hm := hm F_24 eF_24
  refine lv_aload_n hx hb dX4_leave_27 rfl (lv_at hl 0 rfl) ?_
  refine gTW_tun_13 hC hK hT.1 wq_451 dX4_leave_28 ?_
  refine lv_iload_n hx hb dX4_leave_31 rfl (lv_at hl 1 rfl) ?_
  refine lv_aload_n hx hb dX4_leave_32 rfl (lv_at hl 0 rfl) ?_
  refine gTW_tun_1 hC hK hT.1 wq_427 dX4_leave_33 ?_
  refine uTW_ToutMinute hC hN hK hT wn_684 (by decide) hl.1 (Nat.le_of_ble_eq_true rfl) ⟨Nat.le_refl _, Nat.le_refl _⟩ dX4_leave_36 (fun F_36 eF_36 H locs hT => ?_)
  have hm := hm F_36 eF_36
  refine lv_aload_n hx hb dX4_leave_39 rfl (lv_at hl 0 rfl) ?_
  refine gTW_tun_6 hC hK hT.1 wq_437 dX4_leave_40 ?_
  refine lv_aload_n hx hb dX4_leave_43 rfl (lv_at hl 0 rfl) ?_
  refine gTW_tun_0 hC hK hT.1 wq_425 dX4_leave_44 ?_
  refine gTW_plan_16 hC hK hT.1 wq_338 dX4_leave_47 ?_
  refine lv_iload_n hx hb dX4_leave_50 rfl (lv_at hl 1 rfl) ?_
  refine w_at (q0 := 24) hC hN hK hT.1 wn_519 rfl (by decide) (by decide) hl.1 (Nat.le_of_ble_eq_true rfl) ⟨Nat.le_refl _, Nat.le_refl _⟩ dX4_leave_51 ?_
  refine lv_bipush (v := 10) hx hb dX4_leave_54 (by decide) ?_
  refine uTW_Twalk hC hN hK hT wn_684 (by decide) hl.1 (Nat.le_of_ble_eq_true rfl) ⟨Nat.le_refl _, Nat.le_refl _⟩ dX4_leave_56 (fun F_56 eF_56 H locs hT => ?_)
  have hm := hm F_56 eF_56
  refine lv_aload_n hx hb dX4_leave_59 rfl (lv_at hl 0 rfl) ?_
  refine gTW_tun_6 hC hK hT.1 wq_437 dX4_leave_60 ?_
  refine lv_aload_n hx hb dX4_leave_63 rfl (lv_at hl 0 rfl) ?_
  refine gTW_tun_0 hC hK hT.1 wq_425 dX4_leave_64 ?_
  refine gTW_plan_17 hC hK hT.1 wq_341 dX4_leave_67 ?_
  refine lv_iload_n hx hb dX4_leave_70 rfl (lv_at hl 1 rfl) ?_
  refine w_at (q0 := 25) hC hN hK hT.1 wn_519 rfl (by decide) (by decide) hl.1 (Nat.le_of_ble_eq_true rfl) ⟨Nat.le_refl _, Nat.le_refl _⟩ dX4_leave_71 ?_
  refine lv_bipush (v := 10) hx hb dX4_leave_74 (by decide) ?_
  refine uTW_Twalk hC hN hK hT wn_684 (by decide) hl.1 (Nat.le_of_ble_eq_true rfl) ⟨Nat.le_refl _, Nat.le_refl _⟩ dX4_leave_76 (fun F_76 eF_76 H locs hT => ?_)
  have hm := hm F_76 eF_76
  exact hret 79 _ _ _ _ hm hT dX4_leave_79
section KX4_leave
variable {p : Program} {l : Launch} {e : Env} {s : State} {m : MethodId} {args : Array Value} {below : List Frame} {meth : Method} {c : Code} {H H0 : Heap} {locs : List Loc} {cells slots : Nat} {Q : State → Prop} {R : Room} {rn mcR msR : Nat}
variable {pc : Nat} {ls : Array Slot} {rest : List Value} {A : Nat → Prop} {D : va_G}
variable {cc : ByteArray} {nL index : Nat} {own host : String}
theorem k_X4_leave {Z : Nat → ClassId} {a q : Nat → Nat} {P : M2} {F : M2} {x1 : Int32} {K : M2 → Prop} (hC : CallFix p m c cc nL s args lw_g own) (hN : NW s) (hK : va_K D vwCl (tysG Z) s) (hT : TS vwCl D (TW Z a q P F) A H0 H locs) (hm : wp_X4_leave P F x1 K) (hl : Cond.methodLink own index yX4_leave ∈ lw_g) (hlt : 1 < rn) (hsize : ls.size = nL) (hW : (rest.map fun v => v.category).sum ≤ 8) (hf : cells + 0 ≤ mcR ∧ slots + 0 ≤ msR) (hdg : decode cc pc = .ok (.invokevirtual index, 3)) (kk : ∀ (F1 : M2) (H1 : Heap) (locs1 : List Loc), K F1 → TS vwCl D (TW Z a q P F1) A H0 H1 locs1 → W p l e (rk rn mcR msR) s m args below meth c H1 locs1 cells slots Q (F0 m (pc + 3) ls (rest))) : W p l e (rk rn mcR msR) s m args below meth c H locs cells slots Q (F0 m pc ls (.int x1 :: .ref (a 0) :: rest)) :=
  rwv_go (wsF := (TW Z a q P)) (u0 := F) (wr := []) (isC := cutTW) (isR := []) (pm := cutTW) (ws' := (TW Z a q P)) (runV (As := [.int x1]) hC hN (c_X4_leave l D Z a q P F H.size x1 K hm) mi_X4_leave hl wq_759 wq_19 hlt hT.1 hT.D' hK (q0 := 0) rfl rfl rfl hsize rfl hW hdg hf) (cutOkTW Z a q P F) hT (fun u H1 locs1 hk hT1 => kk u H1 locs1 hk hT1)
end KX4_leave
