theorem dX7_boatOf_0 : decode cX7_boatOf 0 = .ok (.iconst 0, 1) := by decide +kernel
theorem dX7_boatOf_1 : decode cX7_boatOf 1 = .ok (.istore_n 2, 1) := by decide +kernel
theorem dX7_boatOf_2 : decode cX7_boatOf 2 = .ok (.iload_n 2, 1) := by decide +kernel
theorem dX7_boatOf_3 : decode cX7_boatOf 3 = .ok (.aload_n 0, 1) := by decide +kernel
theorem dX7_boatOf_4 : decode cX7_boatOf 4 = .ok (.getfield 3, 3) := by decide +kernel
theorem dX7_boatOf_7 : decode cX7_boatOf 7 = .ok (.getfield 69, 3) := by decide +kernel
theorem dX7_boatOf_10 : decode cX7_boatOf 10 = .ok (.getfield 83, 3) := by decide +kernel
theorem dX7_boatOf_13 : decode cX7_boatOf 13 = .ok (.if_icmp .ge 57, 3) := by decide +kernel
theorem dX7_boatOf_16 : decode cX7_boatOf 16 = .ok (.aload_n 0, 1) := by decide +kernel
theorem dX7_boatOf_17 : decode cX7_boatOf 17 = .ok (.getfield 28, 3) := by decide +kernel
theorem dX7_boatOf_20 : decode cX7_boatOf 20 = .ok (.iload_n 2, 1) := by decide +kernel
theorem dX7_boatOf_21 : decode cX7_boatOf 21 = .ok (.iaload, 1) := by decide +kernel
theorem dX7_boatOf_22 : decode cX7_boatOf 22 = .ok (.iconst 1, 1) := by decide +kernel
theorem dX7_boatOf_23 : decode cX7_boatOf 23 = .ok (.if_icmp .ne 41, 3) := by decide +kernel
theorem dX7_boatOf_26 : decode cX7_boatOf 26 = .ok (.aload_n 0, 1) := by decide +kernel
theorem dX7_boatOf_27 : decode cX7_boatOf 27 = .ok (.getfield 3, 3) := by decide +kernel
theorem dX7_boatOf_30 : decode cX7_boatOf 30 = .ok (.getfield 69, 3) := by decide +kernel
theorem dX7_boatOf_33 : decode cX7_boatOf 33 = .ok (.getfield 86, 3) := by decide +kernel
theorem dX7_boatOf_36 : decode cX7_boatOf 36 = .ok (.iload_n 2, 1) := by decide +kernel
theorem dX7_boatOf_37 : decode cX7_boatOf 37 = .ok (.aaload, 1) := by decide +kernel
theorem dX7_boatOf_38 : decode cX7_boatOf 38 = .ok (.iconst 0, 1) := by decide +kernel
theorem dX7_boatOf_39 : decode cX7_boatOf 39 = .ok (.iaload, 1) := by decide +kernel
theorem dX7_boatOf_40 : decode cX7_boatOf 40 = .ok (.iload_n 1, 1) := by decide +kernel
theorem dX7_boatOf_41 : decode cX7_boatOf 41 = .ok (.if_icmp .eq 21, 3) := by decide +kernel
theorem dX7_boatOf_44 : decode cX7_boatOf 44 = .ok (.aload_n 0, 1) := by decide +kernel
theorem dX7_boatOf_45 : decode cX7_boatOf 45 = .ok (.getfield 3, 3) := by decide +kernel
theorem dX7_boatOf_48 : decode cX7_boatOf 48 = .ok (.getfield 69, 3) := by decide +kernel
theorem dX7_boatOf_51 : decode cX7_boatOf 51 = .ok (.getfield 86, 3) := by decide +kernel
theorem dX7_boatOf_54 : decode cX7_boatOf 54 = .ok (.iload_n 2, 1) := by decide +kernel
theorem dX7_boatOf_55 : decode cX7_boatOf 55 = .ok (.aaload, 1) := by decide +kernel
theorem dX7_boatOf_56 : decode cX7_boatOf 56 = .ok (.iconst 1, 1) := by decide +kernel
theorem dX7_boatOf_57 : decode cX7_boatOf 57 = .ok (.iaload, 1) := by decide +kernel
theorem dX7_boatOf_58 : decode cX7_boatOf 58 = .ok (.iload_n 1, 1) := by decide +kernel
theorem dX7_boatOf_59 : decode cX7_boatOf 59 = .ok (.if_icmp .ne 5, 3) := by decide +kernel
theorem dX7_boatOf_62 : decode cX7_boatOf 62 = .ok (.iload_n 2, 1) := by decide +kernel
theorem dX7_boatOf_63 : decode cX7_boatOf 63 = .ok (.ireturn, 1) := by decide +kernel
theorem dX7_boatOf_64 : decode cX7_boatOf 64 = .ok (.iinc 2 1, 3) := by decide +kernel
theorem dX7_boatOf_67 : decode cX7_boatOf 67 = .ok (.goto (-65), 3) := by decide +kernel
theorem dX7_boatOf_70 : decode cX7_boatOf 70 = .ok (.iconst (-1), 1) := by decide +kernel
theorem dX7_boatOf_71 : decode cX7_boatOf 71 = .ok (.ireturn, 1) := by decide +kernel
theorem dX7_boatAt_0 : decode cX7_boatAt 0 = .ok (.iconst 0, 1) := by decide +kernel
theorem dX7_boatAt_1 : decode cX7_boatAt 1 = .ok (.istore_n 2, 1) := by decide +kernel
theorem dX7_boatAt_2 : decode cX7_boatAt 2 = .ok (.iload_n 2, 1) := by decide +kernel
theorem dX7_boatAt_3 : decode cX7_boatAt 3 = .ok (.aload_n 0, 1) := by decide +kernel
theorem dX7_boatAt_4 : decode cX7_boatAt 4 = .ok (.getfield 3, 3) := by decide +kernel
theorem dX7_boatAt_7 : decode cX7_boatAt 7 = .ok (.getfield 69, 3) := by decide +kernel
theorem dX7_boatAt_10 : decode cX7_boatAt 10 = .ok (.getfield 83, 3) := by decide +kernel
theorem dX7_boatAt_13 : decode cX7_boatAt 13 = .ok (.if_icmp .ge 31, 3) := by decide +kernel
theorem dX7_boatAt_16 : decode cX7_boatAt 16 = .ok (.aload_n 0, 1) := by decide +kernel
theorem dX7_boatAt_17 : decode cX7_boatAt 17 = .ok (.getfield 28, 3) := by decide +kernel
theorem dX7_boatAt_20 : decode cX7_boatAt 20 = .ok (.iload_n 2, 1) := by decide +kernel
theorem dX7_boatAt_21 : decode cX7_boatAt 21 = .ok (.iaload, 1) := by decide +kernel
theorem dX7_boatAt_22 : decode cX7_boatAt 22 = .ok (.iconst 1, 1) := by decide +kernel
theorem dX7_boatAt_23 : decode cX7_boatAt 23 = .ok (.if_icmp .ne 15, 3) := by decide +kernel
theorem dX7_boatAt_26 : decode cX7_boatAt 26 = .ok (.aload_n 0, 1) := by decide +kernel
theorem dX7_boatAt_27 : decode cX7_boatAt 27 = .ok (.getfield 37, 3) := by decide +kernel
theorem dX7_boatAt_30 : decode cX7_boatAt 30 = .ok (.iload_n 2, 1) := by decide +kernel
theorem dX7_boatAt_31 : decode cX7_boatAt 31 = .ok (.iaload, 1) := by decide +kernel
theorem dX7_boatAt_32 : decode cX7_boatAt 32 = .ok (.iload_n 1, 1) := by decide +kernel
theorem dX7_boatAt_33 : decode cX7_boatAt 33 = .ok (.if_icmp .ne 5, 3) := by decide +kernel
theorem dX7_boatAt_36 : decode cX7_boatAt 36 = .ok (.iload_n 2, 1) := by decide +kernel
theorem dX7_boatAt_37 : decode cX7_boatAt 37 = .ok (.ireturn, 1) := by decide +kernel
theorem dX7_boatAt_38 : decode cX7_boatAt 38 = .ok (.iinc 2 1, 3) := by decide +kernel
theorem dX7_boatAt_41 : decode cX7_boatAt 41 = .ok (.goto (-39), 3) := by decide +kernel
theorem dX7_boatAt_44 : decode cX7_boatAt 44 = .ok (.iconst (-1), 1) := by decide +kernel
theorem dX7_boatAt_45 : decode cX7_boatAt 45 = .ok (.ireturn, 1) := by decide +kernel
theorem dX7_those_0 : decode cX7_those 0 = .ok (.iconst 0, 1) := by decide +kernel
theorem dX7_those_1 : decode cX7_those 1 = .ok (.istore_n 2, 1) := by decide +kernel
theorem dX7_those_2 : decode cX7_those 2 = .ok (.iconst 0, 1) := by decide +kernel
theorem dX7_those_3 : decode cX7_those 3 = .ok (.istore_n 3, 1) := by decide +kernel
theorem dX7_those_4 : decode cX7_those 4 = .ok (.iload_n 3, 1) := by decide +kernel
theorem dX7_those_5 : decode cX7_those 5 = .ok (.aload_n 0, 1) := by decide +kernel
theorem dX7_those_6 : decode cX7_those 6 = .ok (.getfield 3, 3) := by decide +kernel
theorem dX7_those_9 : decode cX7_those 9 = .ok (.getfield 69, 3) := by decide +kernel
theorem dX7_those_12 : decode cX7_those 12 = .ok (.getfield 83, 3) := by decide +kernel
theorem dX7_those_15 : decode cX7_those 15 = .ok (.if_icmp .ge 27, 3) := by decide +kernel
theorem dX7_those_18 : decode cX7_those 18 = .ok (.iload_n 2, 1) := by decide +kernel
theorem dX7_those_19 : decode cX7_those 19 = .ok (.aload_n 0, 1) := by decide +kernel
theorem dX7_those_20 : decode cX7_those 20 = .ok (.getfield 28, 3) := by decide +kernel
theorem dX7_those_23 : decode cX7_those 23 = .ok (.iload_n 3, 1) := by decide +kernel
theorem dX7_those_24 : decode cX7_those 24 = .ok (.iaload, 1) := by decide +kernel
theorem dX7_those_25 : decode cX7_those 25 = .ok (.iload_n 1, 1) := by decide +kernel
theorem dX7_those_26 : decode cX7_those 26 = .ok (.if_icmp .ne 7, 3) := by decide +kernel
theorem dX7_those_29 : decode cX7_those 29 = .ok (.iconst 1, 1) := by decide +kernel
theorem dX7_those_30 : decode cX7_those 30 = .ok (.goto 4, 3) := by decide +kernel
theorem dX7_those_33 : decode cX7_those 33 = .ok (.iconst 0, 1) := by decide +kernel
theorem dX7_those_34 : decode cX7_those 34 = .ok (.iadd, 1) := by decide +kernel
theorem dX7_those_35 : decode cX7_those 35 = .ok (.istore_n 2, 1) := by decide +kernel
theorem dX7_those_36 : decode cX7_those 36 = .ok (.iinc 3 1, 3) := by decide +kernel
theorem dX7_those_39 : decode cX7_those 39 = .ok (.goto (-35), 3) := by decide +kernel
theorem dX7_those_42 : decode cX7_those 42 = .ok (.iload_n 2, 1) := by decide +kernel
theorem dX7_those_43 : decode cX7_those 43 = .ok (.ireturn, 1) := by decide +kernel
theorem dX7_waiting_0 : decode cX7_waiting 0 = .ok (.iconst 0, 1) := by decide +kernel
theorem dX7_waiting_1 : decode cX7_waiting 1 = .ok (.istore_n 2, 1) := by decide +kernel
theorem dX7_waiting_2 : decode cX7_waiting 2 = .ok (.iconst 0, 1) := by decide +kernel
theorem dX7_waiting_3 : decode cX7_waiting 3 = .ok (.istore_n 3, 1) := by decide +kernel
theorem dX7_waiting_4 : decode cX7_waiting 4 = .ok (.iload_n 3, 1) := by decide +kernel
theorem dX7_waiting_5 : decode cX7_waiting 5 = .ok (.aload_n 0, 1) := by decide +kernel
theorem dX7_waiting_6 : decode cX7_waiting 6 = .ok (.getfield 3, 3) := by decide +kernel
theorem dX7_waiting_9 : decode cX7_waiting 9 = .ok (.getfield 69, 3) := by decide +kernel
theorem dX7_waiting_12 : decode cX7_waiting 12 = .ok (.getfield 83, 3) := by decide +kernel
theorem dX7_waiting_15 : decode cX7_waiting 15 = .ok (.if_icmp .ge 49, 3) := by decide +kernel
theorem dX7_waiting_18 : decode cX7_waiting 18 = .ok (.iload_n 2, 1) := by decide +kernel
theorem dX7_waiting_19 : decode cX7_waiting 19 = .ok (.aload_n 0, 1) := by decide +kernel
theorem dX7_waiting_20 : decode cX7_waiting 20 = .ok (.getfield 28, 3) := by decide +kernel
theorem dX7_waiting_23 : decode cX7_waiting 23 = .ok (.iload_n 3, 1) := by decide +kernel
theorem dX7_waiting_24 : decode cX7_waiting 24 = .ok (.iaload, 1) := by decide +kernel
theorem dX7_waiting_25 : decode cX7_waiting 25 = .ok (.ifCond .ne 30, 3) := by decide +kernel
theorem dX7_waiting_28 : decode cX7_waiting 28 = .ok (.aload_n 0, 1) := by decide +kernel
theorem dX7_waiting_29 : decode cX7_waiting 29 = .ok (.getfield 31, 3) := by decide +kernel
theorem dX7_waiting_32 : decode cX7_waiting 32 = .ok (.iload_n 3, 1) := by decide +kernel
theorem dX7_waiting_33 : decode cX7_waiting 33 = .ok (.iaload, 1) := by decide +kernel
theorem dX7_waiting_34 : decode cX7_waiting 34 = .ok (.iload_n 1, 1) := by decide +kernel
theorem dX7_waiting_35 : decode cX7_waiting 35 = .ok (.if_icmp .ne 20, 3) := by decide +kernel
theorem dX7_waiting_38 : decode cX7_waiting 38 = .ok (.aload_n 0, 1) := by decide +kernel
theorem dX7_waiting_39 : decode cX7_waiting 39 = .ok (.getfield 34, 3) := by decide +kernel
theorem dX7_waiting_42 : decode cX7_waiting 42 = .ok (.iload_n 3, 1) := by decide +kernel
theorem dX7_waiting_43 : decode cX7_waiting 43 = .ok (.iaload, 1) := by decide +kernel
theorem dX7_waiting_44 : decode cX7_waiting 44 = .ok (.aload_n 0, 1) := by decide +kernel
theorem dX7_waiting_45 : decode cX7_waiting 45 = .ok (.getfield 59, 3) := by decide +kernel
theorem dX7_waiting_48 : decode cX7_waiting 48 = .ok (.if_icmp .gt 7, 3) := by decide +kernel
theorem dX7_waiting_51 : decode cX7_waiting 51 = .ok (.iconst 1, 1) := by decide +kernel
theorem dX7_waiting_52 : decode cX7_waiting 52 = .ok (.goto 4, 3) := by decide +kernel
theorem dX7_waiting_55 : decode cX7_waiting 55 = .ok (.iconst 0, 1) := by decide +kernel
theorem dX7_waiting_56 : decode cX7_waiting 56 = .ok (.iadd, 1) := by decide +kernel
theorem dX7_waiting_57 : decode cX7_waiting 57 = .ok (.istore_n 2, 1) := by decide +kernel
theorem dX7_waiting_58 : decode cX7_waiting 58 = .ok (.iinc 3 1, 3) := by decide +kernel
theorem dX7_waiting_61 : decode cX7_waiting 61 = .ok (.goto (-57), 3) := by decide +kernel
theorem dX7_waiting_64 : decode cX7_waiting 64 = .ok (.iload_n 2, 1) := by decide +kernel
theorem dX7_waiting_65 : decode cX7_waiting 65 = .ok (.ireturn, 1) := by decide +kernel
theorem dX7_airOf_0 : decode cX7_airOf 0 = .ok (.iload_n 1, 1) := by decide +kernel
theorem dX7_airOf_1 : decode cX7_airOf 1 = .ok (.iconst 0, 1) := by decide +kernel
theorem dX7_airOf_2 : decode cX7_airOf 2 = .ok (.aload_n 0, 1) := by decide +kernel
theorem dX7_airOf_3 : decode cX7_airOf 3 = .ok (.getfield 3, 3) := by decide +kernel
theorem dX7_airOf_6 : decode cX7_airOf 6 = .ok (.getfield 69, 3) := by decide +kernel
theorem dX7_airOf_9 : decode cX7_airOf 9 = .ok (.getfield 73, 3) := by decide +kernel
theorem dX7_airOf_12 : decode cX7_airOf 12 = .ok (.iconst 1, 1) := by decide +kernel
theorem dX7_airOf_13 : decode cX7_airOf 13 = .ok (.isub, 1) := by decide +kernel
theorem dX7_airOf_14 : decode cX7_airOf 14 = .ok (.invokestatic 90, 3) := by decide +kernel
theorem dX7_airOf_17 : decode cX7_airOf 17 = .ok (.ifCond .eq 12, 3) := by decide +kernel
theorem dX7_airOf_20 : decode cX7_airOf 20 = .ok (.aload_n 0, 1) := by decide +kernel
theorem dX7_airOf_21 : decode cX7_airOf 21 = .ok (.getfield 15, 3) := by decide +kernel
theorem dX7_airOf_24 : decode cX7_airOf 24 = .ok (.iload_n 1, 1) := by decide +kernel
theorem dX7_airOf_25 : decode cX7_airOf 25 = .ok (.iaload, 1) := by decide +kernel
theorem dX7_airOf_26 : decode cX7_airOf 26 = .ok (.goto 4, 3) := by decide +kernel
theorem dX7_airOf_29 : decode cX7_airOf 29 = .ok (.iconst 0, 1) := by decide +kernel
theorem dX7_airOf_30 : decode cX7_airOf 30 = .ok (.ireturn, 1) := by decide +kernel
theorem dX7_allAir_0 : decode cX7_allAir 0 = .ok (.iconst 0, 1) := by decide +kernel
theorem dX7_allAir_1 : decode cX7_allAir 1 = .ok (.istore_n 1, 1) := by decide +kernel
theorem dX7_allAir_2 : decode cX7_allAir 2 = .ok (.iconst 0, 1) := by decide +kernel
theorem dX7_allAir_3 : decode cX7_allAir 3 = .ok (.istore_n 2, 1) := by decide +kernel
theorem dX7_allAir_4 : decode cX7_allAir 4 = .ok (.iload_n 2, 1) := by decide +kernel
theorem dX7_allAir_5 : decode cX7_allAir 5 = .ok (.aload_n 0, 1) := by decide +kernel
theorem dX7_allAir_6 : decode cX7_allAir 6 = .ok (.getfield 3, 3) := by decide +kernel
theorem dX7_allAir_9 : decode cX7_allAir 9 = .ok (.getfield 69, 3) := by decide +kernel
theorem dX7_allAir_12 : decode cX7_allAir 12 = .ok (.getfield 73, 3) := by decide +kernel
theorem dX7_allAir_15 : decode cX7_allAir 15 = .ok (.if_icmp .ge 18, 3) := by decide +kernel
theorem dX7_allAir_18 : decode cX7_allAir 18 = .ok (.iload_n 1, 1) := by decide +kernel
theorem dX7_allAir_19 : decode cX7_allAir 19 = .ok (.aload_n 0, 1) := by decide +kernel
theorem dX7_allAir_20 : decode cX7_allAir 20 = .ok (.getfield 15, 3) := by decide +kernel
theorem dX7_allAir_23 : decode cX7_allAir 23 = .ok (.iload_n 2, 1) := by decide +kernel
theorem dX7_allAir_24 : decode cX7_allAir 24 = .ok (.iaload, 1) := by decide +kernel
theorem dX7_allAir_25 : decode cX7_allAir 25 = .ok (.iadd, 1) := by decide +kernel
theorem dX7_allAir_26 : decode cX7_allAir 26 = .ok (.istore_n 1, 1) := by decide +kernel
theorem dX7_allAir_27 : decode cX7_allAir 27 = .ok (.iinc 2 1, 3) := by decide +kernel
theorem dX7_allAir_30 : decode cX7_allAir 30 = .ok (.goto (-26), 3) := by decide +kernel
theorem dX7_allAir_33 : decode cX7_allAir 33 = .ok (.iload_n 1, 1) := by decide +kernel
theorem dX7_allAir_34 : decode cX7_allAir 34 = .ok (.ireturn, 1) := by decide +kernel
theorem dX7_capsAt_0 : decode cX7_capsAt 0 = .ok (.iconst 0, 1) := by decide +kernel
theorem dX7_capsAt_1 : decode cX7_capsAt 1 = .ok (.istore_n 2, 1) := by decide +kernel
theorem dX7_capsAt_2 : decode cX7_capsAt 2 = .ok (.iconst 0, 1) := by decide +kernel
theorem dX7_capsAt_3 : decode cX7_capsAt 3 = .ok (.istore_n 3, 1) := by decide +kernel
theorem dX7_capsAt_4 : decode cX7_capsAt 4 = .ok (.iload_n 3, 1) := by decide +kernel
theorem dX7_capsAt_5 : decode cX7_capsAt 5 = .ok (.aload_n 0, 1) := by decide +kernel
theorem dX7_capsAt_6 : decode cX7_capsAt 6 = .ok (.getfield 3, 3) := by decide +kernel
theorem dX7_capsAt_9 : decode cX7_capsAt 9 = .ok (.getfield 69, 3) := by decide +kernel
theorem dX7_capsAt_12 : decode cX7_capsAt 12 = .ok (.getfield 94, 3) := by decide +kernel
theorem dX7_capsAt_15 : decode cX7_capsAt 15 = .ok (.if_icmp .ge 27, 3) := by decide +kernel
theorem dX7_capsAt_18 : decode cX7_capsAt 18 = .ok (.iload_n 2, 1) := by decide +kernel
theorem dX7_capsAt_19 : decode cX7_capsAt 19 = .ok (.aload_n 0, 1) := by decide +kernel
theorem dX7_capsAt_20 : decode cX7_capsAt 20 = .ok (.getfield 22, 3) := by decide +kernel
theorem dX7_capsAt_23 : decode cX7_capsAt 23 = .ok (.iload_n 3, 1) := by decide +kernel
theorem dX7_capsAt_24 : decode cX7_capsAt 24 = .ok (.iaload, 1) := by decide +kernel
theorem dX7_capsAt_25 : decode cX7_capsAt 25 = .ok (.iload_n 1, 1) := by decide +kernel
theorem dX7_capsAt_26 : decode cX7_capsAt 26 = .ok (.if_icmp .ne 7, 3) := by decide +kernel
theorem dX7_capsAt_29 : decode cX7_capsAt 29 = .ok (.iconst 1, 1) := by decide +kernel
theorem dX7_capsAt_30 : decode cX7_capsAt 30 = .ok (.goto 4, 3) := by decide +kernel
theorem dX7_capsAt_33 : decode cX7_capsAt 33 = .ok (.iconst 0, 1) := by decide +kernel
theorem dX7_capsAt_34 : decode cX7_capsAt 34 = .ok (.iadd, 1) := by decide +kernel
theorem dX7_capsAt_35 : decode cX7_capsAt 35 = .ok (.istore_n 2, 1) := by decide +kernel
theorem dX7_capsAt_36 : decode cX7_capsAt 36 = .ok (.iinc 3 1, 3) := by decide +kernel
theorem dX7_capsAt_39 : decode cX7_capsAt 39 = .ok (.goto (-35), 3) := by decide +kernel
theorem dX7_capsAt_42 : decode cX7_capsAt 42 = .ok (.iload_n 2, 1) := by decide +kernel
theorem dX7_capsAt_43 : decode cX7_capsAt 43 = .ok (.ireturn, 1) := by decide +kernel
theorem dX7_pushed_0 : decode cX7_pushed 0 = .ok (.iload_n 1, 1) := by decide +kernel
theorem dX7_pushed_1 : decode cX7_pushed 1 = .ok (.tableswitch 115 20 32 #[69, 74, 115, 85, 92, 79, 99, 115, 115, 115, 115, 115, 67], 67) := by decide +kernel
theorem dX7_pushed_68 : decode cX7_pushed 68 = .ok (.iload_n 2, 1) := by decide +kernel
theorem dX7_pushed_69 : decode cX7_pushed 69 = .ok (.ireturn, 1) := by decide +kernel
theorem dX7_pushed_70 : decode cX7_pushed 70 = .ok (.aload_n 0, 1) := by decide +kernel
theorem dX7_pushed_71 : decode cX7_pushed 71 = .ok (.getfield 59, 3) := by decide +kernel
theorem dX7_pushed_74 : decode cX7_pushed 74 = .ok (.ireturn, 1) := by decide +kernel
theorem dX7_pushed_75 : decode cX7_pushed 75 = .ok (.aload_n 0, 1) := by decide +kernel
theorem dX7_pushed_76 : decode cX7_pushed 76 = .ok (.getfield 62, 3) := by decide +kernel
theorem dX7_pushed_79 : decode cX7_pushed 79 = .ok (.ireturn, 1) := by decide +kernel
theorem dX7_pushed_80 : decode cX7_pushed 80 = .ok (.aload_n 0, 1) := by decide +kernel
theorem dX7_pushed_81 : decode cX7_pushed 81 = .ok (.iload_n 2, 1) := by decide +kernel
theorem dX7_pushed_82 : decode cX7_pushed 82 = .ok (.invokevirtual 222, 3) := by decide +kernel
theorem dX7_pushed_85 : decode cX7_pushed 85 = .ok (.ireturn, 1) := by decide +kernel
theorem dX7_pushed_86 : decode cX7_pushed 86 = .ok (.aload_n 0, 1) := by decide +kernel
theorem dX7_pushed_87 : decode cX7_pushed 87 = .ok (.getfield 19, 3) := by decide +kernel
theorem dX7_pushed_90 : decode cX7_pushed 90 = .ok (.iload_n 2, 1) := by decide +kernel
theorem dX7_pushed_91 : decode cX7_pushed 91 = .ok (.iaload, 1) := by decide +kernel
theorem dX7_pushed_92 : decode cX7_pushed 92 = .ok (.ireturn, 1) := by decide +kernel
theorem dX7_pushed_93 : decode cX7_pushed 93 = .ok (.aload_n 0, 1) := by decide +kernel
theorem dX7_pushed_94 : decode cX7_pushed 94 = .ok (.getfield 37, 3) := by decide +kernel
theorem dX7_pushed_97 : decode cX7_pushed 97 = .ok (.iload_n 2, 1) := by decide +kernel
theorem dX7_pushed_98 : decode cX7_pushed 98 = .ok (.iaload, 1) := by decide +kernel
theorem dX7_pushed_99 : decode cX7_pushed 99 = .ok (.ireturn, 1) := by decide +kernel
theorem dX7_pushed_100 : decode cX7_pushed 100 = .ok (.aload_n 0, 1) := by decide +kernel
theorem dX7_pushed_101 : decode cX7_pushed 101 = .ok (.getfield 28, 3) := by decide +kernel
theorem dX7_pushed_104 : decode cX7_pushed 104 = .ok (.iload_n 2, 1) := by decide +kernel
theorem dX7_pushed_105 : decode cX7_pushed 105 = .ok (.iaload, 1) := by decide +kernel
theorem dX7_pushed_106 : decode cX7_pushed 106 = .ok (.iconst 1, 1) := by decide +kernel
theorem dX7_pushed_107 : decode cX7_pushed 107 = .ok (.if_icmp .ne 7, 3) := by decide +kernel
theorem dX7_pushed_110 : decode cX7_pushed 110 = .ok (.iconst 1, 1) := by decide +kernel
theorem dX7_pushed_111 : decode cX7_pushed 111 = .ok (.goto 4, 3) := by decide +kernel
theorem dX7_pushed_114 : decode cX7_pushed 114 = .ok (.iconst 0, 1) := by decide +kernel
theorem dX7_pushed_115 : decode cX7_pushed 115 = .ok (.ireturn, 1) := by decide +kernel
theorem dX7_pushed_116 : decode cX7_pushed 116 = .ok (.aload_n 0, 1) := by decide +kernel
theorem dX7_pushed_117 : decode cX7_pushed 117 = .ok (.getfield 22, 3) := by decide +kernel
theorem dX7_pushed_120 : decode cX7_pushed 120 = .ok (.iload_n 2, 1) := by decide +kernel
theorem dX7_pushed_121 : decode cX7_pushed 121 = .ok (.iaload, 1) := by decide +kernel
theorem dX7_pushed_122 : decode cX7_pushed 122 = .ok (.iconst (-1), 1) := by decide +kernel
theorem dX7_pushed_123 : decode cX7_pushed 123 = .ok (.if_icmp .ne 7, 3) := by decide +kernel
theorem dX7_pushed_126 : decode cX7_pushed 126 = .ok (.iconst 1, 1) := by decide +kernel
theorem dX7_pushed_127 : decode cX7_pushed 127 = .ok (.goto 4, 3) := by decide +kernel
theorem dX7_pushed_130 : decode cX7_pushed 130 = .ok (.iconst 0, 1) := by decide +kernel
theorem dX7_pushed_131 : decode cX7_pushed 131 = .ok (.ireturn, 1) := by decide +kernel
theorem dX7_carryOut_0 : decode cX7_carryOut 0 = .ok (.iconst (-1), 1) := by decide +kernel
theorem dX7_carryOut_1 : decode cX7_carryOut 1 = .ok (.istore_n 3, 1) := by decide +kernel
theorem dX7_carryOut_2 : decode cX7_carryOut 2 = .ok (.iload_n 1, 1) := by decide +kernel
theorem dX7_carryOut_3 : decode cX7_carryOut 3 = .ok (.istore 4, 2) := by decide +kernel
theorem dX7_carryOut_5 : decode cX7_carryOut 5 = .ok (.iload 4, 2) := by decide +kernel
theorem dX7_carryOut_7 : decode cX7_carryOut 7 = .ok (.iload_n 2, 1) := by decide +kernel
theorem dX7_carryOut_8 : decode cX7_carryOut 8 = .ok (.if_icmp .ge 212, 3) := by decide +kernel
theorem dX7_carryOut_11 : decode cX7_carryOut 11 = .ok (.aload_n 0, 1) := by decide +kernel
theorem dX7_carryOut_12 : decode cX7_carryOut 12 = .ok (.getfield 3, 3) := by decide +kernel
theorem dX7_carryOut_15 : decode cX7_carryOut 15 = .ok (.getfield 69, 3) := by decide +kernel
theorem dX7_carryOut_18 : decode cX7_carryOut 18 = .ok (.getfield 204, 3) := by decide +kernel
theorem dX7_carryOut_21 : decode cX7_carryOut 21 = .ok (.iload 4, 2) := by decide +kernel
theorem dX7_carryOut_23 : decode cX7_carryOut 23 = .ok (.iaload, 1) := by decide +kernel
theorem dX7_carryOut_24 : decode cX7_carryOut 24 = .ok (.istore 5, 2) := by decide +kernel
theorem dX7_carryOut_26 : decode cX7_carryOut 26 = .ok (.iinc 4 1, 3) := by decide +kernel
theorem dX7_carryOut_29 : decode cX7_carryOut 29 = .ok (.iload 5, 2) := by decide +kernel
theorem dX7_carryOut_31 : decode cX7_carryOut 31 = .ok (.invokestatic 207, 3) := by decide +kernel
theorem dX7_carryOut_34 : decode cX7_carryOut 34 = .ok (.ifCond .eq 80, 3) := by decide +kernel
theorem dX7_carryOut_37 : decode cX7_carryOut 37 = .ok (.iinc 3 1, 3) := by decide +kernel
theorem dX7_carryOut_40 : decode cX7_carryOut 40 = .ok (.iload 5, 2) := by decide +kernel
theorem dX7_carryOut_42 : decode cX7_carryOut 42 = .ok (.bipush 32, 2) := by decide +kernel
theorem dX7_carryOut_44 : decode cX7_carryOut 44 = .ok (.if_icmp .eq 11, 3) := by decide +kernel
theorem dX7_carryOut_47 : decode cX7_carryOut 47 = .ok (.iload 5, 2) := by decide +kernel
theorem dX7_carryOut_49 : decode cX7_carryOut 49 = .ok (.invokestatic 210, 3) := by decide +kernel
theorem dX7_carryOut_52 : decode cX7_carryOut 52 = .ok (.ifCond .eq 7, 3) := by decide +kernel
theorem dX7_carryOut_55 : decode cX7_carryOut 55 = .ok (.iconst 1, 1) := by decide +kernel
theorem dX7_carryOut_56 : decode cX7_carryOut 56 = .ok (.goto 4, 3) := by decide +kernel
theorem dX7_carryOut_59 : decode cX7_carryOut 59 = .ok (.iconst 0, 1) := by decide +kernel
theorem dX7_carryOut_60 : decode cX7_carryOut 60 = .ok (.istore 6, 2) := by decide +kernel
theorem dX7_carryOut_62 : decode cX7_carryOut 62 = .ok (.aload_n 0, 1) := by decide +kernel
theorem dX7_carryOut_63 : decode cX7_carryOut 63 = .ok (.getfield 50, 3) := by decide +kernel
theorem dX7_carryOut_66 : decode cX7_carryOut 66 = .ok (.iload_n 3, 1) := by decide +kernel
theorem dX7_carryOut_67 : decode cX7_carryOut 67 = .ok (.aload_n 0, 1) := by decide +kernel
theorem dX7_carryOut_68 : decode cX7_carryOut 68 = .ok (.iload 5, 2) := by decide +kernel
theorem dX7_carryOut_70 : decode cX7_carryOut 70 = .ok (.iload 6, 2) := by decide +kernel
theorem dX7_carryOut_72 : decode cX7_carryOut 72 = .ok (.ifCond .eq 19, 3) := by decide +kernel
theorem dX7_carryOut_75 : decode cX7_carryOut 75 = .ok (.aload_n 0, 1) := by decide +kernel
theorem dX7_carryOut_76 : decode cX7_carryOut 76 = .ok (.getfield 3, 3) := by decide +kernel
theorem dX7_carryOut_79 : decode cX7_carryOut 79 = .ok (.getfield 69, 3) := by decide +kernel
theorem dX7_carryOut_82 : decode cX7_carryOut 82 = .ok (.getfield 204, 3) := by decide +kernel
theorem dX7_carryOut_85 : decode cX7_carryOut 85 = .ok (.iload 4, 2) := by decide +kernel
theorem dX7_carryOut_87 : decode cX7_carryOut 87 = .ok (.iaload, 1) := by decide +kernel
theorem dX7_carryOut_88 : decode cX7_carryOut 88 = .ok (.goto 4, 3) := by decide +kernel
theorem dX7_carryOut_91 : decode cX7_carryOut 91 = .ok (.iconst (-1), 1) := by decide +kernel
theorem dX7_carryOut_92 : decode cX7_carryOut 92 = .ok (.invokevirtual 213, 3) := by decide +kernel
theorem dX7_carryOut_95 : decode cX7_carryOut 95 = .ok (.iastore, 1) := by decide +kernel
theorem dX7_carryOut_96 : decode cX7_carryOut 96 = .ok (.iload 4, 2) := by decide +kernel
theorem dX7_carryOut_98 : decode cX7_carryOut 98 = .ok (.iload 6, 2) := by decide +kernel
theorem dX7_carryOut_100 : decode cX7_carryOut 100 = .ok (.ifCond .eq 7, 3) := by decide +kernel
theorem dX7_carryOut_103 : decode cX7_carryOut 103 = .ok (.iconst 1, 1) := by decide +kernel
theorem dX7_carryOut_104 : decode cX7_carryOut 104 = .ok (.goto 4, 3) := by decide +kernel
theorem dX7_carryOut_107 : decode cX7_carryOut 107 = .ok (.iconst 0, 1) := by decide +kernel
theorem dX7_carryOut_108 : decode cX7_carryOut 108 = .ok (.iadd, 1) := by decide +kernel
theorem dX7_carryOut_109 : decode cX7_carryOut 109 = .ok (.istore 4, 2) := by decide +kernel
theorem dX7_carryOut_111 : decode cX7_carryOut 111 = .ok (.goto (-106), 3) := by decide +kernel
theorem dX7_carryOut_114 : decode cX7_carryOut 114 = .ok (.iload 5, 2) := by decide +kernel
theorem dX7_carryOut_116 : decode cX7_carryOut 116 = .ok (.bipush 33, 2) := by decide +kernel
theorem dX7_carryOut_118 : decode cX7_carryOut 118 = .ok (.if_icmp .eq 17, 3) := by decide +kernel
theorem dX7_carryOut_121 : decode cX7_carryOut 121 = .ok (.iload 5, 2) := by decide +kernel
theorem dX7_carryOut_123 : decode cX7_carryOut 123 = .ok (.bipush 28, 2) := by decide +kernel
theorem dX7_carryOut_125 : decode cX7_carryOut 125 = .ok (.if_icmp .eq 10, 3) := by decide +kernel
theorem dX7_carryOut_128 : decode cX7_carryOut 128 = .ok (.iload 5, 2) := by decide +kernel
theorem dX7_carryOut_130 : decode cX7_carryOut 130 = .ok (.bipush 22, 2) := by decide +kernel
theorem dX7_carryOut_132 : decode cX7_carryOut 132 = .ok (.if_icmp .ne 57, 3) := by decide +kernel
theorem dX7_carryOut_135 : decode cX7_carryOut 135 = .ok (.aload_n 0, 1) := by decide +kernel
theorem dX7_carryOut_136 : decode cX7_carryOut 136 = .ok (.getfield 50, 3) := by decide +kernel
theorem dX7_carryOut_139 : decode cX7_carryOut 139 = .ok (.iload_n 3, 1) := by decide +kernel
theorem dX7_carryOut_140 : decode cX7_carryOut 140 = .ok (.iload 5, 2) := by decide +kernel
theorem dX7_carryOut_142 : decode cX7_carryOut 142 = .ok (.bipush 33, 2) := by decide +kernel
theorem dX7_carryOut_144 : decode cX7_carryOut 144 = .ok (.if_icmp .ne 13, 3) := by decide +kernel
theorem dX7_carryOut_147 : decode cX7_carryOut 147 = .ok (.aload_n 0, 1) := by decide +kernel
theorem dX7_carryOut_148 : decode cX7_carryOut 148 = .ok (.getfield 50, 3) := by decide +kernel
theorem dX7_carryOut_151 : decode cX7_carryOut 151 = .ok (.iload_n 3, 1) := by decide +kernel
theorem dX7_carryOut_152 : decode cX7_carryOut 152 = .ok (.iaload, 1) := by decide +kernel
theorem dX7_carryOut_153 : decode cX7_carryOut 153 = .ok (.ineg, 1) := by decide +kernel
theorem dX7_carryOut_154 : decode cX7_carryOut 154 = .ok (.goto 31, 3) := by decide +kernel
theorem dX7_carryOut_157 : decode cX7_carryOut 157 = .ok (.iload 5, 2) := by decide +kernel
theorem dX7_carryOut_159 : decode cX7_carryOut 159 = .ok (.bipush 28, 2) := by decide +kernel
theorem dX7_carryOut_161 : decode cX7_carryOut 161 = .ok (.if_icmp .ne 14, 3) := by decide +kernel
theorem dX7_carryOut_164 : decode cX7_carryOut 164 = .ok (.iconst 1, 1) := by decide +kernel
theorem dX7_carryOut_165 : decode cX7_carryOut 165 = .ok (.aload_n 0, 1) := by decide +kernel
theorem dX7_carryOut_166 : decode cX7_carryOut 166 = .ok (.getfield 50, 3) := by decide +kernel
theorem dX7_carryOut_169 : decode cX7_carryOut 169 = .ok (.iload_n 3, 1) := by decide +kernel
theorem dX7_carryOut_170 : decode cX7_carryOut 170 = .ok (.iaload, 1) := by decide +kernel
theorem dX7_carryOut_171 : decode cX7_carryOut 171 = .ok (.isub, 1) := by decide +kernel
theorem dX7_carryOut_172 : decode cX7_carryOut 172 = .ok (.goto 13, 3) := by decide +kernel
theorem dX7_carryOut_175 : decode cX7_carryOut 175 = .ok (.aload_n 0, 1) := by decide +kernel
theorem dX7_carryOut_176 : decode cX7_carryOut 176 = .ok (.aload_n 0, 1) := by decide +kernel
theorem dX7_carryOut_177 : decode cX7_carryOut 177 = .ok (.getfield 50, 3) := by decide +kernel
theorem dX7_carryOut_180 : decode cX7_carryOut 180 = .ok (.iload_n 3, 1) := by decide +kernel
theorem dX7_carryOut_181 : decode cX7_carryOut 181 = .ok (.iaload, 1) := by decide +kernel
theorem dX7_carryOut_182 : decode cX7_carryOut 182 = .ok (.invokevirtual 215, 3) := by decide +kernel
theorem dX7_carryOut_185 : decode cX7_carryOut 185 = .ok (.iastore, 1) := by decide +kernel
theorem dX7_carryOut_186 : decode cX7_carryOut 186 = .ok (.goto (-181), 3) := by decide +kernel
theorem dX7_carryOut_189 : decode cX7_carryOut 189 = .ok (.iinc 3 (-1), 3) := by decide +kernel
theorem dX7_carryOut_192 : decode cX7_carryOut 192 = .ok (.aload_n 0, 1) := by decide +kernel
theorem dX7_carryOut_193 : decode cX7_carryOut 193 = .ok (.getfield 50, 3) := by decide +kernel
theorem dX7_carryOut_196 : decode cX7_carryOut 196 = .ok (.iload_n 3, 1) := by decide +kernel
theorem dX7_carryOut_197 : decode cX7_carryOut 197 = .ok (.iload 5, 2) := by decide +kernel
theorem dX7_carryOut_199 : decode cX7_carryOut 199 = .ok (.aload_n 0, 1) := by decide +kernel
theorem dX7_carryOut_200 : decode cX7_carryOut 200 = .ok (.getfield 50, 3) := by decide +kernel
theorem dX7_carryOut_203 : decode cX7_carryOut 203 = .ok (.iload_n 3, 1) := by decide +kernel
theorem dX7_carryOut_204 : decode cX7_carryOut 204 = .ok (.iaload, 1) := by decide +kernel
theorem dX7_carryOut_205 : decode cX7_carryOut 205 = .ok (.aload_n 0, 1) := by decide +kernel
theorem dX7_carryOut_206 : decode cX7_carryOut 206 = .ok (.getfield 50, 3) := by decide +kernel
theorem dX7_carryOut_209 : decode cX7_carryOut 209 = .ok (.iload_n 3, 1) := by decide +kernel
theorem dX7_carryOut_210 : decode cX7_carryOut 210 = .ok (.iconst 1, 1) := by decide +kernel
theorem dX7_carryOut_211 : decode cX7_carryOut 211 = .ok (.iadd, 1) := by decide +kernel
theorem dX7_carryOut_212 : decode cX7_carryOut 212 = .ok (.iaload, 1) := by decide +kernel
theorem dX7_carryOut_213 : decode cX7_carryOut 213 = .ok (.invokestatic 218, 3) := by decide +kernel
theorem dX7_carryOut_216 : decode cX7_carryOut 216 = .ok (.iastore, 1) := by decide +kernel
theorem dX7_carryOut_217 : decode cX7_carryOut 217 = .ok (.goto (-212), 3) := by decide +kernel
theorem dX7_carryOut_220 : decode cX7_carryOut 220 = .ok (.aload_n 0, 1) := by decide +kernel
theorem dX7_carryOut_221 : decode cX7_carryOut 221 = .ok (.getfield 50, 3) := by decide +kernel
theorem dX7_carryOut_224 : decode cX7_carryOut 224 = .ok (.iconst 0, 1) := by decide +kernel
theorem dX7_carryOut_225 : decode cX7_carryOut 225 = .ok (.iaload, 1) := by decide +kernel
theorem dX7_carryOut_226 : decode cX7_carryOut 226 = .ok (.ireturn, 1) := by decide +kernel
theorem dX7_holds_0 : decode cX7_holds 0 = .ok (.aload_n 0, 1) := by decide +kernel
theorem dX7_holds_1 : decode cX7_holds 1 = .ok (.aload_n 0, 1) := by decide +kernel
theorem dX7_holds_2 : decode cX7_holds 2 = .ok (.getfield 3, 3) := by decide +kernel
theorem dX7_holds_5 : decode cX7_holds 5 = .ok (.getfield 69, 3) := by decide +kernel
theorem dX7_holds_8 : decode cX7_holds 8 = .ok (.getfield 97, 3) := by decide +kernel
theorem dX7_holds_11 : decode cX7_holds 11 = .ok (.iload_n 1, 1) := by decide +kernel
theorem dX7_holds_12 : decode cX7_holds 12 = .ok (.iaload, 1) := by decide +kernel
theorem dX7_holds_13 : decode cX7_holds 13 = .ok (.aload_n 0, 1) := by decide +kernel
theorem dX7_holds_14 : decode cX7_holds 14 = .ok (.getfield 3, 3) := by decide +kernel
theorem dX7_holds_17 : decode cX7_holds 17 = .ok (.getfield 69, 3) := by decide +kernel
theorem dX7_holds_20 : decode cX7_holds 20 = .ok (.getfield 100, 3) := by decide +kernel
theorem dX7_holds_23 : decode cX7_holds 23 = .ok (.iload_n 1, 1) := by decide +kernel
theorem dX7_holds_24 : decode cX7_holds 24 = .ok (.iaload, 1) := by decide +kernel
theorem dX7_holds_25 : decode cX7_holds 25 = .ok (.invokevirtual 103, 3) := by decide +kernel
theorem dX7_holds_28 : decode cX7_holds 28 = .ok (.iconst 1, 1) := by decide +kernel
theorem dX7_holds_29 : decode cX7_holds 29 = .ok (.if_icmp .ne 7, 3) := by decide +kernel
theorem dX7_holds_32 : decode cX7_holds 32 = .ok (.iconst 1, 1) := by decide +kernel
theorem dX7_holds_33 : decode cX7_holds 33 = .ok (.goto 4, 3) := by decide +kernel
theorem dX7_holds_36 : decode cX7_holds 36 = .ok (.iconst 0, 1) := by decide +kernel
theorem dX7_holds_37 : decode cX7_holds 37 = .ok (.ireturn, 1) := by decide +kernel
theorem dX7_blow_0 : decode cX7_blow 0 = .ok (.iconst 0, 1) := by decide +kernel
theorem dX7_blow_1 : decode cX7_blow 1 = .ok (.istore_n 1, 1) := by decide +kernel
theorem dX7_blow_2 : decode cX7_blow 2 = .ok (.iload_n 1, 1) := by decide +kernel
theorem dX7_blow_3 : decode cX7_blow 3 = .ok (.aload_n 0, 1) := by decide +kernel
theorem dX7_blow_4 : decode cX7_blow 4 = .ok (.getfield 3, 3) := by decide +kernel
theorem dX7_blow_7 : decode cX7_blow 7 = .ok (.getfield 69, 3) := by decide +kernel
theorem dX7_blow_10 : decode cX7_blow 10 = .ok (.getfield 107, 3) := by decide +kernel
theorem dX7_blow_13 : decode cX7_blow 13 = .ok (.if_icmp .ge 54, 3) := by decide +kernel
theorem dX7_blow_16 : decode cX7_blow 16 = .ok (.aload_n 0, 1) := by decide +kernel
theorem dX7_blow_17 : decode cX7_blow 17 = .ok (.getfield 3, 3) := by decide +kernel
theorem dX7_blow_20 : decode cX7_blow 20 = .ok (.getfield 69, 3) := by decide +kernel
theorem dX7_blow_23 : decode cX7_blow 23 = .ok (.getfield 110, 3) := by decide +kernel
theorem dX7_blow_26 : decode cX7_blow 26 = .ok (.iload_n 1, 1) := by decide +kernel
theorem dX7_blow_27 : decode cX7_blow 27 = .ok (.iaload, 1) := by decide +kernel
theorem dX7_blow_28 : decode cX7_blow 28 = .ok (.bipush 17, 2) := by decide +kernel
theorem dX7_blow_30 : decode cX7_blow 30 = .ok (.if_icmp .ne 31, 3) := by decide +kernel
theorem dX7_blow_33 : decode cX7_blow 33 = .ok (.aload_n 0, 1) := by decide +kernel
theorem dX7_blow_34 : decode cX7_blow 34 = .ok (.iload_n 1, 1) := by decide +kernel
theorem dX7_blow_35 : decode cX7_blow 35 = .ok (.invokevirtual 113, 3) := by decide +kernel
theorem dX7_blow_38 : decode cX7_blow 38 = .ok (.ifCond .ne 6, 3) := by decide +kernel
theorem dX7_blow_41 : decode cX7_blow 41 = .ok (.goto 20, 3) := by decide +kernel
theorem dX7_blow_44 : decode cX7_blow 44 = .ok (.aload_n 0, 1) := by decide +kernel
theorem dX7_blow_45 : decode cX7_blow 45 = .ok (.aload_n 0, 1) := by decide +kernel
theorem dX7_blow_46 : decode cX7_blow 46 = .ok (.getfield 3, 3) := by decide +kernel
theorem dX7_blow_49 : decode cX7_blow 49 = .ok (.getfield 69, 3) := by decide +kernel
theorem dX7_blow_52 : decode cX7_blow 52 = .ok (.getfield 117, 3) := by decide +kernel
theorem dX7_blow_55 : decode cX7_blow 55 = .ok (.iload_n 1, 1) := by decide +kernel
theorem dX7_blow_56 : decode cX7_blow 56 = .ok (.iaload, 1) := by decide +kernel
theorem dX7_blow_57 : decode cX7_blow 57 = .ok (.putfield 62, 3) := by decide +kernel
theorem dX7_blow_60 : decode cX7_blow 60 = .ok (.return_, 1) := by decide +kernel
theorem dX7_blow_61 : decode cX7_blow 61 = .ok (.iinc 1 1, 3) := by decide +kernel
theorem dX7_blow_64 : decode cX7_blow 64 = .ok (.goto (-62), 3) := by decide +kernel
theorem dX7_blow_67 : decode cX7_blow 67 = .ok (.return_, 1) := by decide +kernel
theorem dX7_isReady_0 : decode cX7_isReady 0 = .ok (.aload_n 0, 1) := by decide +kernel
theorem dX7_isReady_1 : decode cX7_isReady 1 = .ok (.getfield 25, 3) := by decide +kernel
theorem dX7_isReady_4 : decode cX7_isReady 4 = .ok (.iload_n 1, 1) := by decide +kernel
theorem dX7_isReady_5 : decode cX7_isReady 5 = .ok (.iaload, 1) := by decide +kernel
theorem dX7_isReady_6 : decode cX7_isReady 6 = .ok (.ifCond .gt 23, 3) := by decide +kernel
theorem dX7_isReady_9 : decode cX7_isReady 9 = .ok (.aload_n 0, 1) := by decide +kernel
theorem dX7_isReady_10 : decode cX7_isReady 10 = .ok (.iload_n 1, 1) := by decide +kernel
theorem dX7_isReady_11 : decode cX7_isReady 11 = .ok (.invokevirtual 120, 3) := by decide +kernel
theorem dX7_isReady_14 : decode cX7_isReady 14 = .ok (.iconst (-1), 1) := by decide +kernel
theorem dX7_isReady_15 : decode cX7_isReady 15 = .ok (.if_icmp .ne 14, 3) := by decide +kernel
theorem dX7_isReady_18 : decode cX7_isReady 18 = .ok (.aload_n 0, 1) := by decide +kernel
theorem dX7_isReady_19 : decode cX7_isReady 19 = .ok (.getfield 19, 3) := by decide +kernel
theorem dX7_isReady_22 : decode cX7_isReady 22 = .ok (.iload_n 1, 1) := by decide +kernel
theorem dX7_isReady_23 : decode cX7_isReady 23 = .ok (.iaload, 1) := by decide +kernel
theorem dX7_isReady_24 : decode cX7_isReady 24 = .ok (.bipush 20, 2) := by decide +kernel
theorem dX7_isReady_26 : decode cX7_isReady 26 = .ok (.if_icmp .ge 5, 3) := by decide +kernel
theorem dX7_isReady_29 : decode cX7_isReady 29 = .ok (.iconst 0, 1) := by decide +kernel
theorem dX7_isReady_30 : decode cX7_isReady 30 = .ok (.ireturn, 1) := by decide +kernel
theorem dX7_isReady_31 : decode cX7_isReady 31 = .ok (.iconst 0, 1) := by decide +kernel
theorem dX7_isReady_32 : decode cX7_isReady 32 = .ok (.istore_n 2, 1) := by decide +kernel
theorem dX7_isReady_33 : decode cX7_isReady 33 = .ok (.iload_n 2, 1) := by decide +kernel
theorem dX7_isReady_34 : decode cX7_isReady 34 = .ok (.aload_n 0, 1) := by decide +kernel
theorem dX7_isReady_35 : decode cX7_isReady 35 = .ok (.getfield 3, 3) := by decide +kernel
theorem dX7_isReady_38 : decode cX7_isReady 38 = .ok (.getfield 69, 3) := by decide +kernel
theorem dX7_isReady_41 : decode cX7_isReady 41 = .ok (.getfield 107, 3) := by decide +kernel
theorem dX7_isReady_44 : decode cX7_isReady 44 = .ok (.if_icmp .ge 52, 3) := by decide +kernel
theorem dX7_isReady_47 : decode cX7_isReady 47 = .ok (.aload_n 0, 1) := by decide +kernel
theorem dX7_isReady_48 : decode cX7_isReady 48 = .ok (.getfield 3, 3) := by decide +kernel
theorem dX7_isReady_51 : decode cX7_isReady 51 = .ok (.getfield 69, 3) := by decide +kernel
theorem dX7_isReady_54 : decode cX7_isReady 54 = .ok (.getfield 110, 3) := by decide +kernel
theorem dX7_isReady_57 : decode cX7_isReady 57 = .ok (.iload_n 2, 1) := by decide +kernel
theorem dX7_isReady_58 : decode cX7_isReady 58 = .ok (.iaload, 1) := by decide +kernel
theorem dX7_isReady_59 : decode cX7_isReady 59 = .ok (.bipush 18, 2) := by decide +kernel
theorem dX7_isReady_61 : decode cX7_isReady 61 = .ok (.if_icmp .ne 29, 3) := by decide +kernel
theorem dX7_isReady_64 : decode cX7_isReady 64 = .ok (.aload_n 0, 1) := by decide +kernel
theorem dX7_isReady_65 : decode cX7_isReady 65 = .ok (.getfield 3, 3) := by decide +kernel
theorem dX7_isReady_68 : decode cX7_isReady 68 = .ok (.getfield 69, 3) := by decide +kernel
theorem dX7_isReady_71 : decode cX7_isReady 71 = .ok (.getfield 117, 3) := by decide +kernel
theorem dX7_isReady_74 : decode cX7_isReady 74 = .ok (.iload_n 2, 1) := by decide +kernel
theorem dX7_isReady_75 : decode cX7_isReady 75 = .ok (.iaload, 1) := by decide +kernel
theorem dX7_isReady_76 : decode cX7_isReady 76 = .ok (.iload_n 1, 1) := by decide +kernel
theorem dX7_isReady_77 : decode cX7_isReady 77 = .ok (.if_icmp .ne 13, 3) := by decide +kernel
theorem dX7_isReady_80 : decode cX7_isReady 80 = .ok (.aload_n 0, 1) := by decide +kernel
theorem dX7_isReady_81 : decode cX7_isReady 81 = .ok (.iload_n 2, 1) := by decide +kernel
theorem dX7_isReady_82 : decode cX7_isReady 82 = .ok (.invokevirtual 113, 3) := by decide +kernel
theorem dX7_isReady_85 : decode cX7_isReady 85 = .ok (.ifCond .eq 5, 3) := by decide +kernel
theorem dX7_isReady_88 : decode cX7_isReady 88 = .ok (.iconst 0, 1) := by decide +kernel
theorem dX7_isReady_89 : decode cX7_isReady 89 = .ok (.ireturn, 1) := by decide +kernel
theorem dX7_isReady_90 : decode cX7_isReady 90 = .ok (.iinc 2 1, 3) := by decide +kernel
theorem dX7_isReady_93 : decode cX7_isReady 93 = .ok (.goto (-60), 3) := by decide +kernel
theorem dX7_isReady_96 : decode cX7_isReady 96 = .ok (.iconst 1, 1) := by decide +kernel
theorem dX7_isReady_97 : decode cX7_isReady 97 = .ok (.ireturn, 1) := by decide +kernel
theorem dX7_isOpen_0 : decode cX7_isOpen 0 = .ok (.iconst 0, 1) := by decide +kernel
theorem dX7_isOpen_1 : decode cX7_isOpen 1 = .ok (.istore_n 2, 1) := by decide +kernel
theorem dX7_isOpen_2 : decode cX7_isOpen 2 = .ok (.iload_n 2, 1) := by decide +kernel
theorem dX7_isOpen_3 : decode cX7_isOpen 3 = .ok (.aload_n 0, 1) := by decide +kernel
theorem dX7_isOpen_4 : decode cX7_isOpen 4 = .ok (.getfield 3, 3) := by decide +kernel
theorem dX7_isOpen_7 : decode cX7_isOpen 7 = .ok (.getfield 69, 3) := by decide +kernel
theorem dX7_isOpen_10 : decode cX7_isOpen 10 = .ok (.getfield 83, 3) := by decide +kernel
theorem dX7_isOpen_13 : decode cX7_isOpen 13 = .ok (.if_icmp .ge 72, 3) := by decide +kernel
theorem dX7_isOpen_16 : decode cX7_isOpen 16 = .ok (.aload_n 0, 1) := by decide +kernel
theorem dX7_isOpen_17 : decode cX7_isOpen 17 = .ok (.getfield 28, 3) := by decide +kernel
theorem dX7_isOpen_20 : decode cX7_isOpen 20 = .ok (.iload_n 2, 1) := by decide +kernel
theorem dX7_isOpen_21 : decode cX7_isOpen 21 = .ok (.iaload, 1) := by decide +kernel
theorem dX7_isOpen_22 : decode cX7_isOpen 22 = .ok (.iconst 1, 1) := by decide +kernel
theorem dX7_isOpen_23 : decode cX7_isOpen 23 = .ok (.if_icmp .eq 6, 3) := by decide +kernel
theorem dX7_isOpen_26 : decode cX7_isOpen 26 = .ok (.goto 53, 3) := by decide +kernel
theorem dX7_isOpen_29 : decode cX7_isOpen 29 = .ok (.iload_n 1, 1) := by decide +kernel
theorem dX7_isOpen_30 : decode cX7_isOpen 30 = .ok (.ifCond .ne 12, 3) := by decide +kernel
theorem dX7_isOpen_33 : decode cX7_isOpen 33 = .ok (.aload_n 0, 1) := by decide +kernel
theorem dX7_isOpen_34 : decode cX7_isOpen 34 = .ok (.getfield 37, 3) := by decide +kernel
theorem dX7_isOpen_37 : decode cX7_isOpen 37 = .ok (.iload_n 2, 1) := by decide +kernel
theorem dX7_isOpen_38 : decode cX7_isOpen 38 = .ok (.iaload, 1) := by decide +kernel
theorem dX7_isOpen_39 : decode cX7_isOpen 39 = .ok (.goto 22, 3) := by decide +kernel
theorem dX7_isOpen_42 : decode cX7_isOpen 42 = .ok (.aload_n 0, 1) := by decide +kernel
theorem dX7_isOpen_43 : decode cX7_isOpen 43 = .ok (.getfield 3, 3) := by decide +kernel
theorem dX7_isOpen_46 : decode cX7_isOpen 46 = .ok (.getfield 69, 3) := by decide +kernel
theorem dX7_isOpen_49 : decode cX7_isOpen 49 = .ok (.getfield 73, 3) := by decide +kernel
theorem dX7_isOpen_52 : decode cX7_isOpen 52 = .ok (.iconst 1, 1) := by decide +kernel
theorem dX7_isOpen_53 : decode cX7_isOpen 53 = .ok (.isub, 1) := by decide +kernel
theorem dX7_isOpen_54 : decode cX7_isOpen 54 = .ok (.aload_n 0, 1) := by decide +kernel
theorem dX7_isOpen_55 : decode cX7_isOpen 55 = .ok (.getfield 37, 3) := by decide +kernel
theorem dX7_isOpen_58 : decode cX7_isOpen 58 = .ok (.iload_n 2, 1) := by decide +kernel
theorem dX7_isOpen_59 : decode cX7_isOpen 59 = .ok (.iaload, 1) := by decide +kernel
theorem dX7_isOpen_60 : decode cX7_isOpen 60 = .ok (.isub, 1) := by decide +kernel
theorem dX7_isOpen_61 : decode cX7_isOpen 61 = .ok (.istore_n 3, 1) := by decide +kernel
theorem dX7_isOpen_62 : decode cX7_isOpen 62 = .ok (.aload_n 0, 1) := by decide +kernel
theorem dX7_isOpen_63 : decode cX7_isOpen 63 = .ok (.getfield 31, 3) := by decide +kernel
theorem dX7_isOpen_66 : decode cX7_isOpen 66 = .ok (.iload_n 2, 1) := by decide +kernel
theorem dX7_isOpen_67 : decode cX7_isOpen 67 = .ok (.iaload, 1) := by decide +kernel
theorem dX7_isOpen_68 : decode cX7_isOpen 68 = .ok (.iload_n 1, 1) := by decide +kernel
theorem dX7_isOpen_69 : decode cX7_isOpen 69 = .ok (.if_icmp .ne 8, 3) := by decide +kernel
theorem dX7_isOpen_72 : decode cX7_isOpen 72 = .ok (.iload_n 3, 1) := by decide +kernel
theorem dX7_isOpen_73 : decode cX7_isOpen 73 = .ok (.iconst 4, 1) := by decide +kernel
theorem dX7_isOpen_74 : decode cX7_isOpen 74 = .ok (.if_icmp .ge 5, 3) := by decide +kernel
theorem dX7_isOpen_77 : decode cX7_isOpen 77 = .ok (.iconst 0, 1) := by decide +kernel
theorem dX7_isOpen_78 : decode cX7_isOpen 78 = .ok (.ireturn, 1) := by decide +kernel
theorem dX7_isOpen_79 : decode cX7_isOpen 79 = .ok (.iinc 2 1, 3) := by decide +kernel
theorem dX7_isOpen_82 : decode cX7_isOpen 82 = .ok (.goto (-80), 3) := by decide +kernel
theorem dX7_isOpen_85 : decode cX7_isOpen 85 = .ok (.aload_n 0, 1) := by decide +kernel
theorem dX7_isOpen_86 : decode cX7_isOpen 86 = .ok (.getfield 3, 3) := by decide +kernel
theorem dX7_isOpen_89 : decode cX7_isOpen 89 = .ok (.getfield 69, 3) := by decide +kernel
theorem dX7_isOpen_92 : decode cX7_isOpen 92 = .ok (.getfield 73, 3) := by decide +kernel
theorem dX7_isOpen_95 : decode cX7_isOpen 95 = .ok (.ifCond .le 7, 3) := by decide +kernel
theorem dX7_isOpen_98 : decode cX7_isOpen 98 = .ok (.iconst 1, 1) := by decide +kernel
theorem dX7_isOpen_99 : decode cX7_isOpen 99 = .ok (.goto 4, 3) := by decide +kernel
theorem dX7_isOpen_102 : decode cX7_isOpen 102 = .ok (.iconst 0, 1) := by decide +kernel
theorem dX7_isOpen_103 : decode cX7_isOpen 103 = .ok (.ireturn, 1) := by decide +kernel
theorem dX7_canEnter_0 : decode cX7_canEnter 0 = .ok (.aload_n 0, 1) := by decide +kernel
theorem dX7_canEnter_1 : decode cX7_canEnter 1 = .ok (.getfield 28, 3) := by decide +kernel
theorem dX7_canEnter_4 : decode cX7_canEnter 4 = .ok (.iload_n 1, 1) := by decide +kernel
theorem dX7_canEnter_5 : decode cX7_canEnter 5 = .ok (.iaload, 1) := by decide +kernel
theorem dX7_canEnter_6 : decode cX7_canEnter 6 = .ok (.ifCond .ne 88, 3) := by decide +kernel
theorem dX7_canEnter_9 : decode cX7_canEnter 9 = .ok (.aload_n 0, 1) := by decide +kernel
theorem dX7_canEnter_10 : decode cX7_canEnter 10 = .ok (.getfield 34, 3) := by decide +kernel
theorem dX7_canEnter_13 : decode cX7_canEnter 13 = .ok (.iload_n 1, 1) := by decide +kernel
theorem dX7_canEnter_14 : decode cX7_canEnter 14 = .ok (.iaload, 1) := by decide +kernel
theorem dX7_canEnter_15 : decode cX7_canEnter 15 = .ok (.aload_n 0, 1) := by decide +kernel
theorem dX7_canEnter_16 : decode cX7_canEnter 16 = .ok (.getfield 59, 3) := by decide +kernel
theorem dX7_canEnter_19 : decode cX7_canEnter 19 = .ok (.if_icmp .gt 75, 3) := by decide +kernel
theorem dX7_canEnter_22 : decode cX7_canEnter 22 = .ok (.aload_n 0, 1) := by decide +kernel
theorem dX7_canEnter_23 : decode cX7_canEnter 23 = .ok (.getfield 31, 3) := by decide +kernel
theorem dX7_canEnter_26 : decode cX7_canEnter 26 = .ok (.iload_n 1, 1) := by decide +kernel
theorem dX7_canEnter_27 : decode cX7_canEnter 27 = .ok (.iaload, 1) := by decide +kernel
theorem dX7_canEnter_28 : decode cX7_canEnter 28 = .ok (.aload_n 0, 1) := by decide +kernel
theorem dX7_canEnter_29 : decode cX7_canEnter 29 = .ok (.getfield 62, 3) := by decide +kernel
theorem dX7_canEnter_32 : decode cX7_canEnter 32 = .ok (.if_icmp .ne 62, 3) := by decide +kernel
theorem dX7_canEnter_35 : decode cX7_canEnter 35 = .ok (.aload_n 0, 1) := by decide +kernel
theorem dX7_canEnter_36 : decode cX7_canEnter 36 = .ok (.aload_n 0, 1) := by decide +kernel
theorem dX7_canEnter_37 : decode cX7_canEnter 37 = .ok (.getfield 31, 3) := by decide +kernel
theorem dX7_canEnter_40 : decode cX7_canEnter 40 = .ok (.iload_n 1, 1) := by decide +kernel
theorem dX7_canEnter_41 : decode cX7_canEnter 41 = .ok (.iaload, 1) := by decide +kernel
theorem dX7_canEnter_42 : decode cX7_canEnter 42 = .ok (.invokevirtual 124, 3) := by decide +kernel
theorem dX7_canEnter_45 : decode cX7_canEnter 45 = .ok (.ifCond .eq 49, 3) := by decide +kernel
theorem dX7_canEnter_48 : decode cX7_canEnter 48 = .ok (.aload_n 0, 1) := by decide +kernel
theorem dX7_canEnter_49 : decode cX7_canEnter 49 = .ok (.aload_n 0, 1) := by decide +kernel
theorem dX7_canEnter_50 : decode cX7_canEnter 50 = .ok (.getfield 3, 3) := by decide +kernel
theorem dX7_canEnter_53 : decode cX7_canEnter 53 = .ok (.getfield 69, 3) := by decide +kernel
theorem dX7_canEnter_56 : decode cX7_canEnter 56 = .ok (.getfield 86, 3) := by decide +kernel
theorem dX7_canEnter_59 : decode cX7_canEnter 59 = .ok (.iload_n 1, 1) := by decide +kernel
theorem dX7_canEnter_60 : decode cX7_canEnter 60 = .ok (.aaload, 1) := by decide +kernel
theorem dX7_canEnter_61 : decode cX7_canEnter 61 = .ok (.iconst 0, 1) := by decide +kernel
theorem dX7_canEnter_62 : decode cX7_canEnter 62 = .ok (.iaload, 1) := by decide +kernel
theorem dX7_canEnter_63 : decode cX7_canEnter 63 = .ok (.invokevirtual 127, 3) := by decide +kernel
theorem dX7_canEnter_66 : decode cX7_canEnter 66 = .ok (.ifCond .eq 28, 3) := by decide +kernel
theorem dX7_canEnter_69 : decode cX7_canEnter 69 = .ok (.aload_n 0, 1) := by decide +kernel
theorem dX7_canEnter_70 : decode cX7_canEnter 70 = .ok (.aload_n 0, 1) := by decide +kernel
theorem dX7_canEnter_71 : decode cX7_canEnter 71 = .ok (.getfield 3, 3) := by decide +kernel
theorem dX7_canEnter_74 : decode cX7_canEnter 74 = .ok (.getfield 69, 3) := by decide +kernel
theorem dX7_canEnter_77 : decode cX7_canEnter 77 = .ok (.getfield 86, 3) := by decide +kernel
theorem dX7_canEnter_80 : decode cX7_canEnter 80 = .ok (.iload_n 1, 1) := by decide +kernel
theorem dX7_canEnter_81 : decode cX7_canEnter 81 = .ok (.aaload, 1) := by decide +kernel
theorem dX7_canEnter_82 : decode cX7_canEnter 82 = .ok (.iconst 1, 1) := by decide +kernel
theorem dX7_canEnter_83 : decode cX7_canEnter 83 = .ok (.iaload, 1) := by decide +kernel
theorem dX7_canEnter_84 : decode cX7_canEnter 84 = .ok (.invokevirtual 127, 3) := by decide +kernel
theorem dX7_canEnter_87 : decode cX7_canEnter 87 = .ok (.ifCond .eq 7, 3) := by decide +kernel
theorem dX7_canEnter_90 : decode cX7_canEnter 90 = .ok (.iconst 1, 1) := by decide +kernel
theorem dX7_canEnter_91 : decode cX7_canEnter 91 = .ok (.goto 4, 3) := by decide +kernel
theorem dX7_canEnter_94 : decode cX7_canEnter 94 = .ok (.iconst 0, 1) := by decide +kernel
theorem dX7_canEnter_95 : decode cX7_canEnter 95 = .ok (.ireturn, 1) := by decide +kernel
theorem dX7_comeTo_0 : decode cX7_comeTo 0 = .ok (.aload_n 0, 1) := by decide +kernel
theorem dX7_comeTo_1 : decode cX7_comeTo 1 = .ok (.getfield 37, 3) := by decide +kernel
theorem dX7_comeTo_4 : decode cX7_comeTo 4 = .ok (.iload_n 1, 1) := by decide +kernel
theorem dX7_comeTo_5 : decode cX7_comeTo 5 = .ok (.iload_n 2, 1) := by decide +kernel
theorem dX7_comeTo_6 : decode cX7_comeTo 6 = .ok (.iastore, 1) := by decide +kernel
theorem dX7_comeTo_7 : decode cX7_comeTo 7 = .ok (.aload_n 0, 1) := by decide +kernel
theorem dX7_comeTo_8 : decode cX7_comeTo 8 = .ok (.getfield 3, 3) := by decide +kernel
theorem dX7_comeTo_11 : decode cX7_comeTo 11 = .ok (.getfield 69, 3) := by decide +kernel
theorem dX7_comeTo_14 : decode cX7_comeTo 14 = .ok (.getfield 86, 3) := by decide +kernel
theorem dX7_comeTo_17 : decode cX7_comeTo 17 = .ok (.iload_n 1, 1) := by decide +kernel
theorem dX7_comeTo_18 : decode cX7_comeTo 18 = .ok (.aaload, 1) := by decide +kernel
theorem dX7_comeTo_19 : decode cX7_comeTo 19 = .ok (.astore_n 3, 1) := by decide +kernel
theorem dX7_comeTo_20 : decode cX7_comeTo 20 = .ok (.aload_n 3, 1) := by decide +kernel
theorem dX7_comeTo_21 : decode cX7_comeTo 21 = .ok (.arraylength, 1) := by decide +kernel
theorem dX7_comeTo_22 : decode cX7_comeTo 22 = .ok (.istore 4, 2) := by decide +kernel
theorem dX7_comeTo_24 : decode cX7_comeTo 24 = .ok (.iconst 0, 1) := by decide +kernel
theorem dX7_comeTo_25 : decode cX7_comeTo 25 = .ok (.istore 5, 2) := by decide +kernel
theorem dX7_comeTo_27 : decode cX7_comeTo 27 = .ok (.iload 5, 2) := by decide +kernel
theorem dX7_comeTo_29 : decode cX7_comeTo 29 = .ok (.iload 4, 2) := by decide +kernel
theorem dX7_comeTo_31 : decode cX7_comeTo 31 = .ok (.if_icmp .ge 95, 3) := by decide +kernel
theorem dX7_comeTo_34 : decode cX7_comeTo 34 = .ok (.aload_n 3, 1) := by decide +kernel
theorem dX7_comeTo_35 : decode cX7_comeTo 35 = .ok (.iload 5, 2) := by decide +kernel
theorem dX7_comeTo_37 : decode cX7_comeTo 37 = .ok (.iaload, 1) := by decide +kernel
theorem dX7_comeTo_38 : decode cX7_comeTo 38 = .ok (.istore 6, 2) := by decide +kernel
theorem dX7_comeTo_40 : decode cX7_comeTo 40 = .ok (.aload_n 0, 1) := by decide +kernel
theorem dX7_comeTo_41 : decode cX7_comeTo 41 = .ok (.getfield 22, 3) := by decide +kernel
theorem dX7_comeTo_44 : decode cX7_comeTo 44 = .ok (.iload 6, 2) := by decide +kernel
theorem dX7_comeTo_46 : decode cX7_comeTo 46 = .ok (.iaload, 1) := by decide +kernel
theorem dX7_comeTo_47 : decode cX7_comeTo 47 = .ok (.iload_n 2, 1) := by decide +kernel
theorem dX7_comeTo_48 : decode cX7_comeTo 48 = .ok (.if_icmp .ne 11, 3) := by decide +kernel
theorem dX7_comeTo_51 : decode cX7_comeTo 51 = .ok (.aload_n 0, 1) := by decide +kernel
theorem dX7_comeTo_52 : decode cX7_comeTo 52 = .ok (.getfield 22, 3) := by decide +kernel
theorem dX7_comeTo_55 : decode cX7_comeTo 55 = .ok (.iload 6, 2) := by decide +kernel
theorem dX7_comeTo_57 : decode cX7_comeTo 57 = .ok (.iconst (-1), 1) := by decide +kernel
theorem dX7_comeTo_58 : decode cX7_comeTo 58 = .ok (.iastore, 1) := by decide +kernel
theorem dX7_comeTo_59 : decode cX7_comeTo 59 = .ok (.aload_n 0, 1) := by decide +kernel
theorem dX7_comeTo_60 : decode cX7_comeTo 60 = .ok (.getfield 22, 3) := by decide +kernel
theorem dX7_comeTo_63 : decode cX7_comeTo 63 = .ok (.iload 6, 2) := by decide +kernel
theorem dX7_comeTo_65 : decode cX7_comeTo 65 = .ok (.iaload, 1) := by decide +kernel
theorem dX7_comeTo_66 : decode cX7_comeTo 66 = .ok (.iconst (-1), 1) := by decide +kernel
theorem dX7_comeTo_67 : decode cX7_comeTo 67 = .ok (.if_icmp .ne 53, 3) := by decide +kernel
theorem dX7_comeTo_70 : decode cX7_comeTo 70 = .ok (.aload_n 0, 1) := by decide +kernel
theorem dX7_comeTo_71 : decode cX7_comeTo 71 = .ok (.getfield 3, 3) := by decide +kernel
theorem dX7_comeTo_74 : decode cX7_comeTo 74 = .ok (.getfield 69, 3) := by decide +kernel
theorem dX7_comeTo_77 : decode cX7_comeTo 77 = .ok (.getfield 130, 3) := by decide +kernel
theorem dX7_comeTo_80 : decode cX7_comeTo 80 = .ok (.aload_n 0, 1) := by decide +kernel
theorem dX7_comeTo_81 : decode cX7_comeTo 81 = .ok (.getfield 3, 3) := by decide +kernel
theorem dX7_comeTo_84 : decode cX7_comeTo 84 = .ok (.getfield 69, 3) := by decide +kernel
theorem dX7_comeTo_87 : decode cX7_comeTo 87 = .ok (.getfield 133, 3) := by decide +kernel
theorem dX7_comeTo_90 : decode cX7_comeTo 90 = .ok (.iload_n 2, 1) := by decide +kernel
theorem dX7_comeTo_91 : decode cX7_comeTo 91 = .ok (.iaload, 1) := by decide +kernel
theorem dX7_comeTo_92 : decode cX7_comeTo 92 = .ok (.iaload, 1) := by decide +kernel
theorem dX7_comeTo_93 : decode cX7_comeTo 93 = .ok (.bipush 12, 2) := by decide +kernel
theorem dX7_comeTo_95 : decode cX7_comeTo 95 = .ok (.aload_n 0, 1) := by decide +kernel
theorem dX7_comeTo_96 : decode cX7_comeTo 96 = .ok (.getfield 3, 3) := by decide +kernel
theorem dX7_comeTo_99 : decode cX7_comeTo 99 = .ok (.getfield 69, 3) := by decide +kernel
theorem dX7_comeTo_102 : decode cX7_comeTo 102 = .ok (.getfield 136, 3) := by decide +kernel
theorem dX7_comeTo_105 : decode cX7_comeTo 105 = .ok (.iload 6, 2) := by decide +kernel
theorem dX7_comeTo_107 : decode cX7_comeTo 107 = .ok (.iaload, 1) := by decide +kernel
theorem dX7_comeTo_108 : decode cX7_comeTo 108 = .ok (.isub, 1) := by decide +kernel
theorem dX7_comeTo_109 : decode cX7_comeTo 109 = .ok (.if_icmp .le 11, 3) := by decide +kernel
theorem dX7_comeTo_112 : decode cX7_comeTo 112 = .ok (.aload_n 0, 1) := by decide +kernel
theorem dX7_comeTo_113 : decode cX7_comeTo 113 = .ok (.getfield 22, 3) := by decide +kernel
theorem dX7_comeTo_116 : decode cX7_comeTo 116 = .ok (.iload 6, 2) := by decide +kernel
theorem dX7_comeTo_118 : decode cX7_comeTo 118 = .ok (.iload_n 2, 1) := by decide +kernel
theorem dX7_comeTo_119 : decode cX7_comeTo 119 = .ok (.iastore, 1) := by decide +kernel
theorem dX7_comeTo_120 : decode cX7_comeTo 120 = .ok (.iinc 5 1, 3) := by decide +kernel
theorem dX7_comeTo_123 : decode cX7_comeTo 123 = .ok (.goto (-96), 3) := by decide +kernel
theorem dX7_comeTo_126 : decode cX7_comeTo 126 = .ok (.return_, 1) := by decide +kernel
theorem dX7_enter_0 : decode cX7_enter 0 = .ok (.aload_n 0, 1) := by decide +kernel
theorem dX7_enter_1 : decode cX7_enter 1 = .ok (.iload_n 1, 1) := by decide +kernel
theorem dX7_enter_2 : decode cX7_enter 2 = .ok (.invokevirtual 139, 3) := by decide +kernel
theorem dX7_enter_5 : decode cX7_enter 5 = .ok (.ifCond .ne 4, 3) := by decide +kernel
theorem dX7_enter_8 : decode cX7_enter 8 = .ok (.return_, 1) := by decide +kernel
theorem dX7_enter_9 : decode cX7_enter 9 = .ok (.aload_n 0, 1) := by decide +kernel
theorem dX7_enter_10 : decode cX7_enter 10 = .ok (.getfield 28, 3) := by decide +kernel
theorem dX7_enter_13 : decode cX7_enter 13 = .ok (.iload_n 1, 1) := by decide +kernel
theorem dX7_enter_14 : decode cX7_enter 14 = .ok (.iconst 1, 1) := by decide +kernel
theorem dX7_enter_15 : decode cX7_enter 15 = .ok (.iastore, 1) := by decide +kernel
theorem dX7_enter_16 : decode cX7_enter 16 = .ok (.aload_n 0, 1) := by decide +kernel
theorem dX7_enter_17 : decode cX7_enter 17 = .ok (.getfield 40, 3) := by decide +kernel
theorem dX7_enter_20 : decode cX7_enter 20 = .ok (.iload_n 1, 1) := by decide +kernel
theorem dX7_enter_21 : decode cX7_enter 21 = .ok (.iconst 0, 1) := by decide +kernel
theorem dX7_enter_22 : decode cX7_enter 22 = .ok (.iastore, 1) := by decide +kernel
theorem dX7_enter_23 : decode cX7_enter 23 = .ok (.aload_n 0, 1) := by decide +kernel
theorem dX7_enter_24 : decode cX7_enter 24 = .ok (.iload_n 1, 1) := by decide +kernel
theorem dX7_enter_25 : decode cX7_enter 25 = .ok (.aload_n 0, 1) := by decide +kernel
theorem dX7_enter_26 : decode cX7_enter 26 = .ok (.getfield 31, 3) := by decide +kernel
theorem dX7_enter_29 : decode cX7_enter 29 = .ok (.iload_n 1, 1) := by decide +kernel
theorem dX7_enter_30 : decode cX7_enter 30 = .ok (.iaload, 1) := by decide +kernel
theorem dX7_enter_31 : decode cX7_enter 31 = .ok (.ifCond .ne 7, 3) := by decide +kernel
theorem dX7_enter_34 : decode cX7_enter 34 = .ok (.iconst 0, 1) := by decide +kernel
theorem dX7_enter_35 : decode cX7_enter 35 = .ok (.goto 15, 3) := by decide +kernel
theorem dX7_enter_38 : decode cX7_enter 38 = .ok (.aload_n 0, 1) := by decide +kernel
theorem dX7_enter_39 : decode cX7_enter 39 = .ok (.getfield 3, 3) := by decide +kernel
theorem dX7_enter_42 : decode cX7_enter 42 = .ok (.getfield 69, 3) := by decide +kernel
theorem dX7_enter_45 : decode cX7_enter 45 = .ok (.getfield 73, 3) := by decide +kernel
theorem dX7_enter_48 : decode cX7_enter 48 = .ok (.iconst 1, 1) := by decide +kernel
theorem dX7_enter_49 : decode cX7_enter 49 = .ok (.isub, 1) := by decide +kernel
theorem dX7_enter_50 : decode cX7_enter 50 = .ok (.invokevirtual 142, 3) := by decide +kernel
theorem dX7_enter_53 : decode cX7_enter 53 = .ok (.return_, 1) := by decide +kernel
theorem mi_X7_boatOf : MInfo yX7_boatOf cX7_boatOf 3 (some .int) 1 := ⟨wq_1784, wq_137, by decide, ⟨by decide +kernel, by decide +kernel, by decide +kernel⟩, by decide +kernel⟩
theorem mi_X7_boatAt : MInfo yX7_boatAt cX7_boatAt 3 (some .int) 1 := ⟨wq_1756, wq_137, by decide, ⟨by decide +kernel, by decide +kernel, by decide +kernel⟩, by decide +kernel⟩
theorem mi_X7_those : MInfo yX7_those cX7_those 4 (some .int) 1 := ⟨wq_1731, wq_137, by decide, ⟨by decide +kernel, by decide +kernel, by decide +kernel⟩, by decide +kernel⟩
theorem mi_X7_waiting : MInfo yX7_waiting cX7_waiting 4 (some .int) 1 := ⟨wq_1840, wq_137, by decide, ⟨by decide +kernel, by decide +kernel, by decide +kernel⟩, by decide +kernel⟩
theorem mi_X7_airOf : MInfo yX7_airOf cX7_airOf 2 (some .int) 1 := ⟨wq_1844, wq_137, by decide, ⟨by decide +kernel, by decide +kernel, by decide +kernel⟩, by decide +kernel⟩
theorem mi_X7_allAir : MInfo yX7_allAir cX7_allAir 3 (some .int) 0 := ⟨wq_1735, wq_137, by decide, ⟨by decide +kernel, by decide +kernel, by decide +kernel⟩, by decide +kernel⟩
theorem mi_X7_capsAt : MInfo yX7_capsAt cX7_capsAt 4 (some .int) 1 := ⟨wq_1739, wq_137, by decide, ⟨by decide +kernel, by decide +kernel, by decide +kernel⟩, by decide +kernel⟩
theorem mi_X7_pushed : MInfo yX7_pushed cX7_pushed 3 (some .int) 2 := ⟨wq_1836, wq_137, by decide, ⟨by decide +kernel, by decide +kernel, by decide +kernel⟩, by decide +kernel⟩
theorem mi_X7_carryOut : MInfo yX7_carryOut cX7_carryOut 7 (some .int) 2 := ⟨wq_1825, wq_137, by decide, ⟨by decide +kernel, by decide +kernel, by decide +kernel⟩, by decide +kernel⟩
theorem mi_X7_holds : MInfo yX7_holds cX7_holds 2 (some .boolean) 1 := ⟨wq_1821, wq_137, by decide, ⟨by decide +kernel, by decide +kernel, by decide +kernel⟩, by decide +kernel⟩
theorem mi_X7_blow : MInfo yX7_blow cX7_blow 2 none 0 := ⟨wq_1887, wq_137, by decide, ⟨by decide +kernel, by decide +kernel, by decide +kernel⟩, by decide +kernel⟩
theorem mi_X7_isReady : MInfo yX7_isReady cX7_isReady 3 (some .boolean) 1 := ⟨wq_1816, wq_137, by decide, ⟨by decide +kernel, by decide +kernel, by decide +kernel⟩, by decide +kernel⟩
theorem mi_X7_isOpen : MInfo yX7_isOpen cX7_isOpen 4 (some .boolean) 1 := ⟨wq_1812, wq_137, by decide, ⟨by decide +kernel, by decide +kernel, by decide +kernel⟩, by decide +kernel⟩
theorem mi_X7_canEnter : MInfo yX7_canEnter cX7_canEnter 2 (some .boolean) 1 := ⟨wq_1808, wq_137, by decide, ⟨by decide +kernel, by decide +kernel, by decide +kernel⟩, by decide +kernel⟩
theorem mi_X7_comeTo : MInfo yX7_comeTo cX7_comeTo 7 none 2 := ⟨wq_1896, wq_137, by decide, ⟨by decide +kernel, by decide +kernel, by decide +kernel⟩, by decide +kernel⟩
theorem mi_X7_enter : MInfo yX7_enter cX7_enter 2 none 1 := ⟨wq_1891, wq_137, by decide, ⟨by decide +kernel, by decide +kernel, by decide +kernel⟩, by decide +kernel⟩
def wl_X7_boatOf_2 (N : M2) (P : M2) (S : M2) (K : Int32 → Prop) : Nat → Int32 → Int32 → Prop
  | 0, _, _ => False
  | n + 1, v1, v2 => (((P 252 0) ≤ v2 → K ((-1))) ∧ (¬ (P 252 0) ≤ v2 → (inb v2 8 ∧ ((¬ (S 206 v2.toInt.toNat) = 1 → (∀ v2_64 : Int32, v2_64 = v2 + 1 → wl_X7_boatOf_2 N P S K n v1 v2_64)) ∧ ((S 206 v2.toInt.toNat) = 1 → (inb v2 8 ∧ (inb v2 8 ∧ inb 0 2 ∧ (((P (310 + v2.toInt.toNat) (0 : Int32).toInt.toNat) = v1 → K v2) ∧ (¬ (P (310 + v2.toInt.toNat) (0 : Int32).toInt.toNat) = v1 → (inb v2 8 ∧ (inb v2 8 ∧ inb 1 2 ∧ ((¬ (P (310 + v2.toInt.toNat) (1 : Int32).toInt.toNat) = v1 → (∀ v2_64 : Int32, v2_64 = v2 + 1 → wl_X7_boatOf_2 N P S K n v1 v2_64)) ∧ ((P (310 + v2.toInt.toNat) (1 : Int32).toInt.toNat) = v1 → K v2)))))))))))))
def wp_X7_boatOf (N : M2) (P : M2) (S : M2) (x1 : Int32) (K : Int32 → Prop) : Prop := wl_X7_boatOf_2 N P S K fK x1 0
set_option maxRecDepth 100000 in
set_option maxHeartbeats 4000000 in
theorem c_X7_boatOf (l : Launch) (D : va_G) (Z : Nat → ClassId) (a q g : Nat → Nat) (rg sa aa : Nat) (N P : M2) (S : M2) (sz : Nat) (x1 : Int32) (K : Int32 → Prop) (hm : wp_X7_boatOf N P S x1 K) : Met l yX7_boatOf (wy yX7_boatOf cX7_boatOf 3 (some .int)) (rk 1 0 0) (pre vwCl D Z (SW Z a q g rg sa aa N P S) sz [.ref (a 200), .int x1]) (vp_Si K) 0 0 (fun _ => False) := by
  refine ro_of (ty := .int) (by decide +kernel) (Nat.le_of_ble_eq_true rfl) rfl ?_
  intro p e s m args below meth c Q hC hN hsz hP hD hK hret ls hl
  have hx := hC.1
  have hb := hC.2.1
  have hl : lv_has ls 3 [(0, .ref (a 200)), (1, .int x1)] := hl
  have L2 : ∀ (n2 : Nat), ∀ (v1 : Int32) (v2 : Int32) (ls : Array Slot), wl_X7_boatOf_2 N P S K n2 v1 v2 → lv_has ls 3 [(0, .ref (a 200)), (1, .int v1), (2, .int v2)] → W p l e (rk 1 0 0) s m args below meth c s.heap [] 0 0 Q (F0 m 2 ls []) := by
    intro n2
    induction n2 with
    | zero =>
      intro v1 v2 ls hm hl
      exact False.elim hm
    | succ n2 ih2 =>
      intro v1 v2 ls hm hl
      refine lv_iload_n hx hb dX7_boatOf_2 rfl (lv_at hl 2 rfl) ?_
      refine lv_aload_n hx hb dX7_boatOf_3 rfl (lv_at hl 0 rfl) ?_
      refine gSW_st_14 hC hK hP wq_1383 dX7_boatOf_4 ?_
      refine gNSW_mod_11 hC hN hK hP wn_1431 dX7_boatOf_7 ?_
      refine gNSW_plan_12 hC hN hK hP wn_1259 dX7_boatOf_10 ?_
      refine lv_icmp_ge (tgt := 70) hx hb dX7_boatOf_13 (by decide) (fun c_13 => ?_) (fun c_13 => ?_)
      · have hm := hm.1 c_13
        refine lv_iconst (v := (-1)) hx hb dX7_boatOf_70 (by decide) ?_
        exact hret 71 _ _ hm rfl dX7_boatOf_71
      · have hm := hm.2 c_13
        refine lv_aload_n hx hb dX7_boatOf_16 rfl (lv_at hl 0 rfl) ?_
        refine gSW_st_6 hC hK hP wq_1368 dX7_boatOf_17 ?_
        refine lv_iload_n hx hb dX7_boatOf_20 rfl (lv_at hl 2 rfl) ?_
        refine w_iald (q0 := 5) hC hK hP rfl hm.1 dX7_boatOf_21 ?_
        have hm := hm.2
        refine lv_iconst (v := 1) hx hb dX7_boatOf_22 (by decide) ?_
        refine lv_icmp_ne (tgt := 64) hx hb dX7_boatOf_23 (by decide) (fun c_23 => ?_) (fun c_23 => ?_)
        · have hm := hm.1 c_23
          obtain ⟨v2_64, ev2_64⟩ : ∃ y : Int32, y = v2 + 1 := ⟨_, rfl⟩
          have hm := hm v2_64 ev2_64
          refine lv_iinc (v := v2_64) (lv' := [(2, .int v2_64), (0, .ref (a 200)), (1, .int v1)]) hx hb dX7_boatOf_64 hl (k := 2) rfl (by rw [ev2_64]; rfl) (by decide) rfl (fun ls hl => ?_)
          refine lv_goto (tgt := 2) hx hb dX7_boatOf_67 (by decide) ?_
          exact ih2 _ _ _ hm (lv_sub hl [1, 2, 0] rfl)
        · have hm := hm.2 c_23
          refine lv_aload_n hx hb dX7_boatOf_26 rfl (lv_at hl 0 rfl) ?_
          refine gSW_st_14 hC hK hP wq_1383 dX7_boatOf_27 ?_
          refine gNSW_mod_11 hC hN hK hP wn_1431 dX7_boatOf_30 ?_
          refine gNSW_plan_16 hC hN hK hP wn_1271 dX7_boatOf_33 ?_
          refine lv_iload_n hx hb dX7_boatOf_36 rfl (lv_at hl 2 rfl) ?_
          refine w_aaldR (q0 := 25) hC hK hP rfl hm.1 dX7_boatOf_37 ?_
          have hm := hm.2
          refine lv_iconst (v := 0) hx hb dX7_boatOf_38 (by decide) ?_
          refine wrl_SW hC hK hP hm.1 hm.2.1 dX7_boatOf_39 ?_
          have hm := hm.2.2
          refine lv_iload_n hx hb dX7_boatOf_40 rfl (lv_at hl 1 rfl) ?_
          refine lv_icmp_eq (tgt := 62) hx hb dX7_boatOf_41 (by decide) (fun c_41 => ?_) (fun c_41 => ?_)
          · have hm := hm.1 c_41
            refine lv_iload_n hx hb dX7_boatOf_62 rfl (lv_at hl 2 rfl) ?_
            exact hret 63 _ _ hm rfl dX7_boatOf_63
          · have hm := hm.2 c_41
            refine lv_aload_n hx hb dX7_boatOf_44 rfl (lv_at hl 0 rfl) ?_
            refine gSW_st_14 hC hK hP wq_1383 dX7_boatOf_45 ?_
            refine gNSW_mod_11 hC hN hK hP wn_1431 dX7_boatOf_48 ?_
            refine gNSW_plan_16 hC hN hK hP wn_1271 dX7_boatOf_51 ?_
            refine lv_iload_n hx hb dX7_boatOf_54 rfl (lv_at hl 2 rfl) ?_
            refine w_aaldR (q0 := 25) hC hK hP rfl hm.1 dX7_boatOf_55 ?_
            have hm := hm.2
            refine lv_iconst (v := 1) hx hb dX7_boatOf_56 (by decide) ?_
            refine wrl_SW hC hK hP hm.1 hm.2.1 dX7_boatOf_57 ?_
            have hm := hm.2.2
            refine lv_iload_n hx hb dX7_boatOf_58 rfl (lv_at hl 1 rfl) ?_
            refine lv_icmp_ne (tgt := 64) hx hb dX7_boatOf_59 (by decide) (fun c_59 => ?_) (fun c_59 => ?_)
            · have hm := hm.1 c_59
              obtain ⟨v2_64, ev2_64⟩ : ∃ y : Int32, y = v2 + 1 := ⟨_, rfl⟩
              have hm := hm v2_64 ev2_64
              refine lv_iinc (v := v2_64) (lv' := [(2, .int v2_64), (0, .ref (a 200)), (1, .int v1)]) hx hb dX7_boatOf_64 hl (k := 2) rfl (by rw [ev2_64]; rfl) (by decide) rfl (fun ls hl => ?_)
              refine lv_goto (tgt := 2) hx hb dX7_boatOf_67 (by decide) ?_
              exact ih2 _ _ _ hm (lv_sub hl [1, 2, 0] rfl)
            · have hm := hm.2 c_59
              refine lv_iload_n hx hb dX7_boatOf_62 rfl (lv_at hl 2 rfl) ?_
              exact hret 63 _ _ hm rfl dX7_boatOf_63
  refine lv_iconst (v := 0) hx hb dX7_boatOf_0 (by decide) ?_
  refine lv_istore_n (lv' := [(2, .int 0), (0, .ref (a 200)), (1, .int x1)]) hx hb dX7_boatOf_1 rfl hl (by decide) rfl (fun ls hl => ?_)
  exact L2 _ _ _ _ hm (lv_sub hl [1, 2, 0] rfl)
section KX7_boatOf
variable {p : Program} {l : Launch} {e : Env} {s : State} {m : MethodId} {args : Array Value} {below : List Frame} {meth : Method} {c : Code} {H H0 : Heap} {locs : List Loc} {cells slots : Nat} {Q : State → Prop} {R : Room} {rn mcR msR : Nat}
variable {pc : Nat} {ls : Array Slot} {rest : List Value} {A : Nat → Prop} {D : va_G}
variable {cc : ByteArray} {nL index : Nat} {own host : String}
theorem k_X7_boatOf {Z : Nat → ClassId} {a q g : Nat → Nat} {rg sa aa : Nat} {N P : M2} {S : M2} {x1 : Int32} {K : Int32 → Prop} (hC : CallFix p m c cc nL s args lw_g own) (hN : NW s) (hK : va_K D vwCl (tysG Z) s) (hP : va_P D vwCl (SW Z a q g rg sa aa N P S) H) (hD : va_D (fun _ => True) (SW Z a q g rg sa aa N P S)) (hm : wp_X7_boatOf N P S x1 K) (hl : Cond.methodLink own index yX7_boatOf ∈ lw_g) (hlt : 1 < rn) (hsize : ls.size = nL) (hW : (rest.map fun v => v.category).sum ≤ 8) (hf : cells + 0 ≤ mcR ∧ slots + 0 ≤ msR) (hdg : decode cc pc = .ok (.invokevirtual index, 3)) (kk : ∀ r : Int32, K r → W p l e (rk rn mcR msR) s m args below meth c H locs cells slots Q (F0 m (pc + 3) ls (.int r :: rest))) : W p l e (rk rn mcR msR) s m args below meth c H locs cells slots Q (F0 m pc ls (.int x1 :: .ref (a 200) :: rest)) :=
  ro_go (runV (As := [.int x1]) hC hN (c_X7_boatOf l D Z a q g rg sa aa N P S H.size x1 K hm) mi_X7_boatOf hl wq_1782 wq_1783 hlt hP hD hK (q0 := 0) rfl rfl rfl hsize rfl hW hdg hf) kk
end KX7_boatOf
def wl_X7_boatAt_2 (N : M2) (P : M2) (S : M2) (K : Int32 → Prop) : Nat → Int32 → Int32 → Prop
  | 0, _, _ => False
  | n + 1, v1, v2 => (((P 252 0) ≤ v2 → K ((-1))) ∧ (¬ (P 252 0) ≤ v2 → (inb v2 8 ∧ ((¬ (S 206 v2.toInt.toNat) = 1 → (∀ v2_38 : Int32, v2_38 = v2 + 1 → wl_X7_boatAt_2 N P S K n v1 v2_38)) ∧ ((S 206 v2.toInt.toNat) = 1 → (inb v2 8 ∧ ((¬ (S 209 v2.toInt.toNat) = v1 → (∀ v2_38 : Int32, v2_38 = v2 + 1 → wl_X7_boatAt_2 N P S K n v1 v2_38)) ∧ ((S 209 v2.toInt.toNat) = v1 → K v2))))))))
def wp_X7_boatAt (N : M2) (P : M2) (S : M2) (x1 : Int32) (K : Int32 → Prop) : Prop := wl_X7_boatAt_2 N P S K fK x1 0
set_option maxRecDepth 100000 in
set_option maxHeartbeats 4000000 in
theorem c_X7_boatAt (l : Launch) (D : va_G) (Z : Nat → ClassId) (a q g : Nat → Nat) (rg sa aa : Nat) (N P : M2) (S : M2) (sz : Nat) (x1 : Int32) (K : Int32 → Prop) (hm : wp_X7_boatAt N P S x1 K) : Met l yX7_boatAt (wy yX7_boatAt cX7_boatAt 3 (some .int)) (rk 1 0 0) (pre vwCl D Z (SW Z a q g rg sa aa N P S) sz [.ref (a 200), .int x1]) (vp_Si K) 0 0 (fun _ => False) := by
  refine ro_of (ty := .int) (by decide +kernel) (Nat.le_of_ble_eq_true rfl) rfl ?_
  intro p e s m args below meth c Q hC hN hsz hP hD hK hret ls hl
  have hx := hC.1
  have hb := hC.2.1
  have hl : lv_has ls 3 [(0, .ref (a 200)), (1, .int x1)] := hl
  have L2 : ∀ (n2 : Nat), ∀ (v1 : Int32) (v2 : Int32) (ls : Array Slot), wl_X7_boatAt_2 N P S K n2 v1 v2 → lv_has ls 3 [(0, .ref (a 200)), (1, .int v1), (2, .int v2)] → W p l e (rk 1 0 0) s m args below meth c s.heap [] 0 0 Q (F0 m 2 ls []) := by
    intro n2
    induction n2 with
    | zero =>
      intro v1 v2 ls hm hl
      exact False.elim hm
    | succ n2 ih2 =>
      intro v1 v2 ls hm hl
      refine lv_iload_n hx hb dX7_boatAt_2 rfl (lv_at hl 2 rfl) ?_
      refine lv_aload_n hx hb dX7_boatAt_3 rfl (lv_at hl 0 rfl) ?_
      refine gSW_st_14 hC hK hP wq_1383 dX7_boatAt_4 ?_
      refine gNSW_mod_11 hC hN hK hP wn_1431 dX7_boatAt_7 ?_
      refine gNSW_plan_12 hC hN hK hP wn_1259 dX7_boatAt_10 ?_
      refine lv_icmp_ge (tgt := 44) hx hb dX7_boatAt_13 (by decide) (fun c_13 => ?_) (fun c_13 => ?_)
      · have hm := hm.1 c_13
        refine lv_iconst (v := (-1)) hx hb dX7_boatAt_44 (by decide) ?_
        exact hret 45 _ _ hm rfl dX7_boatAt_45
      · have hm := hm.2 c_13
        refine lv_aload_n hx hb dX7_boatAt_16 rfl (lv_at hl 0 rfl) ?_
        refine gSW_st_6 hC hK hP wq_1368 dX7_boatAt_17 ?_
        refine lv_iload_n hx hb dX7_boatAt_20 rfl (lv_at hl 2 rfl) ?_
        refine w_iald (q0 := 5) hC hK hP rfl hm.1 dX7_boatAt_21 ?_
        have hm := hm.2
        refine lv_iconst (v := 1) hx hb dX7_boatAt_22 (by decide) ?_
        refine lv_icmp_ne (tgt := 38) hx hb dX7_boatAt_23 (by decide) (fun c_23 => ?_) (fun c_23 => ?_)
        · have hm := hm.1 c_23
          obtain ⟨v2_38, ev2_38⟩ : ∃ y : Int32, y = v2 + 1 := ⟨_, rfl⟩
          have hm := hm v2_38 ev2_38
          refine lv_iinc (v := v2_38) (lv' := [(2, .int v2_38), (0, .ref (a 200)), (1, .int v1)]) hx hb dX7_boatAt_38 hl (k := 2) rfl (by rw [ev2_38]; rfl) (by decide) rfl (fun ls hl => ?_)
          refine lv_goto (tgt := 2) hx hb dX7_boatAt_41 (by decide) ?_
          exact ih2 _ _ _ hm (lv_sub hl [1, 2, 0] rfl)
        · have hm := hm.2 c_23
          refine lv_aload_n hx hb dX7_boatAt_26 rfl (lv_at hl 0 rfl) ?_
          refine gSW_st_9 hC hK hP wq_1374 dX7_boatAt_27 ?_
          refine lv_iload_n hx hb dX7_boatAt_30 rfl (lv_at hl 2 rfl) ?_
          refine w_iald (q0 := 8) hC hK hP rfl hm.1 dX7_boatAt_31 ?_
          have hm := hm.2
          refine lv_iload_n hx hb dX7_boatAt_32 rfl (lv_at hl 1 rfl) ?_
          refine lv_icmp_ne (tgt := 38) hx hb dX7_boatAt_33 (by decide) (fun c_33 => ?_) (fun c_33 => ?_)
          · have hm := hm.1 c_33
            obtain ⟨v2_38, ev2_38⟩ : ∃ y : Int32, y = v2 + 1 := ⟨_, rfl⟩
            have hm := hm v2_38 ev2_38
            refine lv_iinc (v := v2_38) (lv' := [(2, .int v2_38), (0, .ref (a 200)), (1, .int v1)]) hx hb dX7_boatAt_38 hl (k := 2) rfl (by rw [ev2_38]; rfl) (by decide) rfl (fun ls hl => ?_)
            refine lv_goto (tgt := 2) hx hb dX7_boatAt_41 (by decide) ?_
            exact ih2 _ _ _ hm (lv_sub hl [1, 2, 0] rfl)
          · have hm := hm.2 c_33
            refine lv_iload_n hx hb dX7_boatAt_36 rfl (lv_at hl 2 rfl) ?_
            exact hret 37 _ _ hm rfl dX7_boatAt_37
  refine lv_iconst (v := 0) hx hb dX7_boatAt_0 (by decide) ?_
  refine lv_istore_n (lv' := [(2, .int 0), (0, .ref (a 200)), (1, .int x1)]) hx hb dX7_boatAt_1 rfl hl (by decide) rfl (fun ls hl => ?_)
  exact L2 _ _ _ _ hm (lv_sub hl [1, 2, 0] rfl)
section KX7_boatAt
variable {p : Program} {l : Launch} {e : Env} {s : State} {m : MethodId} {args : Array Value} {below : List Frame} {meth : Method} {c : Code} {H H0 : Heap} {locs : List Loc} {cells slots : Nat} {Q : State → Prop} {R : Room} {rn mcR msR : Nat}
variable {pc : Nat} {ls : Array Slot} {rest : List Value} {A : Nat → Prop} {D : va_G}
variable {cc : ByteArray} {nL index : Nat} {own host : String}
theorem k_X7_boatAt {Z : Nat → ClassId} {a q g : Nat → Nat} {rg sa aa : Nat} {N P : M2} {S : M2} {x1 : Int32} {K : Int32 → Prop} (hC : CallFix p m c cc nL s args lw_g own) (hN : NW s) (hK : va_K D vwCl (tysG Z) s) (hP : va_P D vwCl (SW Z a q g rg sa aa N P S) H) (hD : va_D (fun _ => True) (SW Z a q g rg sa aa N P S)) (hm : wp_X7_boatAt N P S x1 K) (hl : Cond.methodLink own index yX7_boatAt ∈ lw_g) (hlt : 1 < rn) (hsize : ls.size = nL) (hW : (rest.map fun v => v.category).sum ≤ 8) (hf : cells + 0 ≤ mcR ∧ slots + 0 ≤ msR) (hdg : decode cc pc = .ok (.invokevirtual index, 3)) (kk : ∀ r : Int32, K r → W p l e (rk rn mcR msR) s m args below meth c H locs cells slots Q (F0 m (pc + 3) ls (.int r :: rest))) : W p l e (rk rn mcR msR) s m args below meth c H locs cells slots Q (F0 m pc ls (.int x1 :: .ref (a 200) :: rest)) :=
  ro_go (runV (As := [.int x1]) hC hN (c_X7_boatAt l D Z a q g rg sa aa N P S H.size x1 K hm) mi_X7_boatAt hl wq_1754 wq_1755 hlt hP hD hK (q0 := 0) rfl rfl rfl hsize rfl hW hdg hf) kk
end KX7_boatAt
def wl_X7_those_4 (N : M2) (P : M2) (S : M2) (K : Int32 → Prop) : Nat → Int32 → Int32 → Int32 → Prop
  | 0, _, _, _ => False
  | n + 1, v1, v2, v3 => (((P 252 0) ≤ v3 → K v2) ∧ (¬ (P 252 0) ≤ v3 → (inb v3 8 ∧ ((¬ (S 206 v3.toInt.toNat) = v1 → (∀ v2_35, v2_35 = v2 + 0 → (∀ v3_36 : Int32, v3_36 = v3 + 1 → wl_X7_those_4 N P S K n v1 v2_35 v3_36))) ∧ ((S 206 v3.toInt.toNat) = v1 → (∀ v2_35, v2_35 = v2 + 1 → (∀ v3_36 : Int32, v3_36 = v3 + 1 → wl_X7_those_4 N P S K n v1 v2_35 v3_36)))))))
def wp_X7_those (N : M2) (P : M2) (S : M2) (x1 : Int32) (K : Int32 → Prop) : Prop := wl_X7_those_4 N P S K fK x1 0 0
set_option maxRecDepth 100000 in
set_option maxHeartbeats 4000000 in
theorem c_X7_those (l : Launch) (D : va_G) (Z : Nat → ClassId) (a q g : Nat → Nat) (rg sa aa : Nat) (N P : M2) (S : M2) (sz : Nat) (x1 : Int32) (K : Int32 → Prop) (hm : wp_X7_those N P S x1 K) : Met l yX7_those (wy yX7_those cX7_those 4 (some .int)) (rk 1 0 0) (pre vwCl D Z (SW Z a q g rg sa aa N P S) sz [.ref (a 200), .int x1]) (vp_Si K) 0 0 (fun _ => False) := by
  refine ro_of (ty := .int) (by decide +kernel) (Nat.le_of_ble_eq_true rfl) rfl ?_
  intro p e s m args below meth c Q hC hN hsz hP hD hK hret ls hl
  have hx := hC.1
  have hb := hC.2.1
  have hl : lv_has ls 4 [(0, .ref (a 200)), (1, .int x1)] := hl
  have L4 : ∀ (n4 : Nat), ∀ (v1 : Int32) (v2 : Int32) (v3 : Int32) (ls : Array Slot), wl_X7_those_4 N P S K n4 v1 v2 v3 → lv_has ls 4 [(0, .ref (a 200)), (1, .int v1), (2, .int v2), (3, .int v3)] → W p l e (rk 1 0 0) s m args below meth c s.heap [] 0 0 Q (F0 m 4 ls []) := by
    intro n4
    induction n4 with
    | zero =>
      intro v1 v2 v3 ls hm hl
      exact False.elim hm
    | succ n4 ih4 =>
      intro v1 v2 v3 ls hm hl
      refine lv_iload_n hx hb dX7_those_4 rfl (lv_at hl 3 rfl) ?_
      refine lv_aload_n hx hb dX7_those_5 rfl (lv_at hl 0 rfl) ?_
      refine gSW_st_14 hC hK hP wq_1383 dX7_those_6 ?_
      refine gNSW_mod_11 hC hN hK hP wn_1431 dX7_those_9 ?_
      refine gNSW_plan_12 hC hN hK hP wn_1259 dX7_those_12 ?_
      refine lv_icmp_ge (tgt := 42) hx hb dX7_those_15 (by decide) (fun c_15 => ?_) (fun c_15 => ?_)
      · have hm := hm.1 c_15
        refine lv_iload_n hx hb dX7_those_42 rfl (lv_at hl 2 rfl) ?_
        exact hret 43 _ _ hm rfl dX7_those_43
      · have hm := hm.2 c_15
        refine lv_iload_n hx hb dX7_those_18 rfl (lv_at hl 2 rfl) ?_
        refine lv_aload_n hx hb dX7_those_19 rfl (lv_at hl 0 rfl) ?_
        refine gSW_st_6 hC hK hP wq_1368 dX7_those_20 ?_
        refine lv_iload_n hx hb dX7_those_23 rfl (lv_at hl 3 rfl) ?_
        refine w_iald (q0 := 5) hC hK hP rfl hm.1 dX7_those_24 ?_
        have hm := hm.2
        refine lv_iload_n hx hb dX7_those_25 rfl (lv_at hl 1 rfl) ?_
        refine lv_icmp_ne (tgt := 33) hx hb dX7_those_26 (by decide) (fun c_26 => ?_) (fun c_26 => ?_)
        · have hm := hm.1 c_26
          refine lv_iconst (v := 0) hx hb dX7_those_33 (by decide) ?_
          refine lv_iadd hx hb dX7_those_34 ?_
          refine lv_topi (fun v2_35 ev2_35 => ?_)
          have hm := hm v2_35 ev2_35
          refine lv_istore_n (lv' := [(2, .int v2_35), (0, .ref (a 200)), (1, .int v1), (3, .int v3)]) hx hb dX7_those_35 rfl hl (by decide) rfl (fun ls hl => ?_)
          obtain ⟨v3_36, ev3_36⟩ : ∃ y : Int32, y = v3 + 1 := ⟨_, rfl⟩
          have hm := hm v3_36 ev3_36
          refine lv_iinc (v := v3_36) (lv' := [(3, .int v3_36), (2, .int v2_35), (0, .ref (a 200)), (1, .int v1)]) hx hb dX7_those_36 hl (k := 3) rfl (by rw [ev3_36]; rfl) (by decide) rfl (fun ls hl => ?_)
          refine lv_goto (tgt := 4) hx hb dX7_those_39 (by decide) ?_
          exact ih4 _ _ _ _ hm (lv_sub hl [2, 3, 1, 0] rfl)
        · have hm := hm.2 c_26
          refine lv_iconst (v := 1) hx hb dX7_those_29 (by decide) ?_
          refine lv_goto (tgt := 34) hx hb dX7_those_30 (by decide) ?_
          refine lv_iadd hx hb dX7_those_34 ?_
          refine lv_topi (fun v2_35 ev2_35 => ?_)
          have hm := hm v2_35 ev2_35
          refine lv_istore_n (lv' := [(2, .int v2_35), (0, .ref (a 200)), (1, .int v1), (3, .int v3)]) hx hb dX7_those_35 rfl hl (by decide) rfl (fun ls hl => ?_)
          obtain ⟨v3_36, ev3_36⟩ : ∃ y : Int32, y = v3 + 1 := ⟨_, rfl⟩
          have hm := hm v3_36 ev3_36
          refine lv_iinc (v := v3_36) (lv' := [(3, .int v3_36), (2, .int v2_35), (0, .ref (a 200)), (1, .int v1)]) hx hb dX7_those_36 hl (k := 3) rfl (by rw [ev3_36]; rfl) (by decide) rfl (fun ls hl => ?_)
          refine lv_goto (tgt := 4) hx hb dX7_those_39 (by decide) ?_
          exact ih4 _ _ _ _ hm (lv_sub hl [2, 3, 1, 0] rfl)
  refine lv_iconst (v := 0) hx hb dX7_those_0 (by decide) ?_
  refine lv_istore_n (lv' := [(2, .int 0), (0, .ref (a 200)), (1, .int x1)]) hx hb dX7_those_1 rfl hl (by decide) rfl (fun ls hl => ?_)
  refine lv_iconst (v := 0) hx hb dX7_those_2 (by decide) ?_
  refine lv_istore_n (lv' := [(3, .int 0), (2, .int 0), (0, .ref (a 200)), (1, .int x1)]) hx hb dX7_those_3 rfl hl (by decide) rfl (fun ls hl => ?_)
  exact L4 _ _ _ _ _ hm (lv_sub hl [2, 3, 1, 0] rfl)
section KX7_those
variable {p : Program} {l : Launch} {e : Env} {s : State} {m : MethodId} {args : Array Value} {below : List Frame} {meth : Method} {c : Code} {H H0 : Heap} {locs : List Loc} {cells slots : Nat} {Q : State → Prop} {R : Room} {rn mcR msR : Nat}
variable {pc : Nat} {ls : Array Slot} {rest : List Value} {A : Nat → Prop} {D : va_G}
variable {cc : ByteArray} {nL index : Nat} {own host : String}
theorem k_X7_those {Z : Nat → ClassId} {a q g : Nat → Nat} {rg sa aa : Nat} {N P : M2} {S : M2} {x1 : Int32} {K : Int32 → Prop} (hC : CallFix p m c cc nL s args lw_g own) (hN : NW s) (hK : va_K D vwCl (tysG Z) s) (hP : va_P D vwCl (SW Z a q g rg sa aa N P S) H) (hD : va_D (fun _ => True) (SW Z a q g rg sa aa N P S)) (hm : wp_X7_those N P S x1 K) (hl : Cond.methodLink own index yX7_those ∈ lw_g) (hlt : 1 < rn) (hsize : ls.size = nL) (hW : (rest.map fun v => v.category).sum ≤ 8) (hf : cells + 0 ≤ mcR ∧ slots + 0 ≤ msR) (hdg : decode cc pc = .ok (.invokevirtual index, 3)) (kk : ∀ r : Int32, K r → W p l e (rk rn mcR msR) s m args below meth c H locs cells slots Q (F0 m (pc + 3) ls (.int r :: rest))) : W p l e (rk rn mcR msR) s m args below meth c H locs cells slots Q (F0 m pc ls (.int x1 :: .ref (a 200) :: rest)) :=
  ro_go (runV (As := [.int x1]) hC hN (c_X7_those l D Z a q g rg sa aa N P S H.size x1 K hm) mi_X7_those hl wq_1729 wq_1730 hlt hP hD hK (q0 := 0) rfl rfl rfl hsize rfl hW hdg hf) kk
end KX7_those
def wl_X7_waiting_4 (N : M2) (P : M2) (S : M2) (K : Int32 → Prop) : Nat → Int32 → Int32 → Int32 → Prop
  | 0, _, _, _ => False
  | n + 1, v1, v2, v3 => (((P 252 0) ≤ v3 → K v2) ∧ (¬ (P 252 0) ≤ v3 → (inb v3 8 ∧ ((¬ (S 206 v3.toInt.toNat) = 0 → (∀ v2_57, v2_57 = v2 + 0 → (∀ v3_58 : Int32, v3_58 = v3 + 1 → wl_X7_waiting_4 N P S K n v1 v2_57 v3_58))) ∧ ((S 206 v3.toInt.toNat) = 0 → (inb v3 8 ∧ ((¬ (S 207 v3.toInt.toNat) = v1 → (∀ v2_57, v2_57 = v2 + 0 → (∀ v3_58 : Int32, v3_58 = v3 + 1 → wl_X7_waiting_4 N P S K n v1 v2_57 v3_58))) ∧ ((S 207 v3.toInt.toNat) = v1 → (inb v3 8 ∧ (((S 200 0) < (S 208 v3.toInt.toNat) → (∀ v2_57, v2_57 = v2 + 0 → (∀ v3_58 : Int32, v3_58 = v3 + 1 → wl_X7_waiting_4 N P S K n v1 v2_57 v3_58))) ∧ (¬ (S 200 0) < (S 208 v3.toInt.toNat) → (∀ v2_57, v2_57 = v2 + 1 → (∀ v3_58 : Int32, v3_58 = v3 + 1 → wl_X7_waiting_4 N P S K n v1 v2_57 v3_58)))))))))))))
def wp_X7_waiting (N : M2) (P : M2) (S : M2) (x1 : Int32) (K : Int32 → Prop) : Prop := wl_X7_waiting_4 N P S K fK x1 0 0
set_option maxRecDepth 100000 in
set_option maxHeartbeats 4000000 in
theorem c_X7_waiting (l : Launch) (D : va_G) (Z : Nat → ClassId) (a q g : Nat → Nat) (rg sa aa : Nat) (N P : M2) (S : M2) (sz : Nat) (x1 : Int32) (K : Int32 → Prop) (hm : wp_X7_waiting N P S x1 K) : Met l yX7_waiting (wy yX7_waiting cX7_waiting 4 (some .int)) (rk 1 0 0) (pre vwCl D Z (SW Z a q g rg sa aa N P S) sz [.ref (a 200), .int x1]) (vp_Si K) 0 0 (fun _ => False) := by
  refine ro_of (ty := .int) (by decide +kernel) (Nat.le_of_ble_eq_true rfl) rfl ?_
  intro p e s m args below meth c Q hC hN hsz hP hD hK hret ls hl
  have hx := hC.1
  have hb := hC.2.1
  have hl : lv_has ls 4 [(0, .ref (a 200)), (1, .int x1)] := hl
  have L4 : ∀ (n4 : Nat), ∀ (v1 : Int32) (v2 : Int32) (v3 : Int32) (ls : Array Slot), wl_X7_waiting_4 N P S K n4 v1 v2 v3 → lv_has ls 4 [(0, .ref (a 200)), (1, .int v1), (2, .int v2), (3, .int v3)] → W p l e (rk 1 0 0) s m args below meth c s.heap [] 0 0 Q (F0 m 4 ls []) := by
    intro n4
    induction n4 with
    | zero =>
      intro v1 v2 v3 ls hm hl
      exact False.elim hm
    | succ n4 ih4 =>
      intro v1 v2 v3 ls hm hl
      refine lv_iload_n hx hb dX7_waiting_4 rfl (lv_at hl 3 rfl) ?_
      refine lv_aload_n hx hb dX7_waiting_5 rfl (lv_at hl 0 rfl) ?_
      refine gSW_st_14 hC hK hP wq_1383 dX7_waiting_6 ?_
      refine gNSW_mod_11 hC hN hK hP wn_1431 dX7_waiting_9 ?_
      refine gNSW_plan_12 hC hN hK hP wn_1259 dX7_waiting_12 ?_
      refine lv_icmp_ge (tgt := 64) hx hb dX7_waiting_15 (by decide) (fun c_15 => ?_) (fun c_15 => ?_)
      · have hm := hm.1 c_15
        refine lv_iload_n hx hb dX7_waiting_64 rfl (lv_at hl 2 rfl) ?_
        exact hret 65 _ _ hm rfl dX7_waiting_65
      · have hm := hm.2 c_15
        refine lv_iload_n hx hb dX7_waiting_18 rfl (lv_at hl 2 rfl) ?_
        refine lv_aload_n hx hb dX7_waiting_19 rfl (lv_at hl 0 rfl) ?_
        refine gSW_st_6 hC hK hP wq_1368 dX7_waiting_20 ?_
        refine lv_iload_n hx hb dX7_waiting_23 rfl (lv_at hl 3 rfl) ?_
        refine w_iald (q0 := 5) hC hK hP rfl hm.1 dX7_waiting_24 ?_
        have hm := hm.2
        refine lv_if_ne (tgt := 55) hx hb dX7_waiting_25 (by decide) (fun c_25 => ?_) (fun c_25 => ?_)
        · have hm := hm.1 c_25
          refine lv_iconst (v := 0) hx hb dX7_waiting_55 (by decide) ?_
          refine lv_iadd hx hb dX7_waiting_56 ?_
          refine lv_topi (fun v2_57 ev2_57 => ?_)
          have hm := hm v2_57 ev2_57
          refine lv_istore_n (lv' := [(2, .int v2_57), (0, .ref (a 200)), (1, .int v1), (3, .int v3)]) hx hb dX7_waiting_57 rfl hl (by decide) rfl (fun ls hl => ?_)
          obtain ⟨v3_58, ev3_58⟩ : ∃ y : Int32, y = v3 + 1 := ⟨_, rfl⟩
          have hm := hm v3_58 ev3_58
          refine lv_iinc (v := v3_58) (lv' := [(3, .int v3_58), (2, .int v2_57), (0, .ref (a 200)), (1, .int v1)]) hx hb dX7_waiting_58 hl (k := 3) rfl (by rw [ev3_58]; rfl) (by decide) rfl (fun ls hl => ?_)
          refine lv_goto (tgt := 4) hx hb dX7_waiting_61 (by decide) ?_
          exact ih4 _ _ _ _ hm (lv_sub hl [2, 3, 1, 0] rfl)
        · have hm := hm.2 c_25
          refine lv_aload_n hx hb dX7_waiting_28 rfl (lv_at hl 0 rfl) ?_
          refine gSW_st_7 hC hK hP wq_1370 dX7_waiting_29 ?_
          refine lv_iload_n hx hb dX7_waiting_32 rfl (lv_at hl 3 rfl) ?_
          refine w_iald (q0 := 6) hC hK hP rfl hm.1 dX7_waiting_33 ?_
          have hm := hm.2
          refine lv_iload_n hx hb dX7_waiting_34 rfl (lv_at hl 1 rfl) ?_
          refine lv_icmp_ne (tgt := 55) hx hb dX7_waiting_35 (by decide) (fun c_35 => ?_) (fun c_35 => ?_)
          · have hm := hm.1 c_35
            refine lv_iconst (v := 0) hx hb dX7_waiting_55 (by decide) ?_
            refine lv_iadd hx hb dX7_waiting_56 ?_
            refine lv_topi (fun v2_57 ev2_57 => ?_)
            have hm := hm v2_57 ev2_57
            refine lv_istore_n (lv' := [(2, .int v2_57), (0, .ref (a 200)), (1, .int v1), (3, .int v3)]) hx hb dX7_waiting_57 rfl hl (by decide) rfl (fun ls hl => ?_)
            obtain ⟨v3_58, ev3_58⟩ : ∃ y : Int32, y = v3 + 1 := ⟨_, rfl⟩
            have hm := hm v3_58 ev3_58
            refine lv_iinc (v := v3_58) (lv' := [(3, .int v3_58), (2, .int v2_57), (0, .ref (a 200)), (1, .int v1)]) hx hb dX7_waiting_58 hl (k := 3) rfl (by rw [ev3_58]; rfl) (by decide) rfl (fun ls hl => ?_)
            refine lv_goto (tgt := 4) hx hb dX7_waiting_61 (by decide) ?_
            exact ih4 _ _ _ _ hm (lv_sub hl [2, 3, 1, 0] rfl)
          · have hm := hm.2 c_35
            refine lv_aload_n hx hb dX7_waiting_38 rfl (lv_at hl 0 rfl) ?_
            refine gSW_st_8 hC hK hP wq_1372 dX7_waiting_39 ?_
            refine lv_iload_n hx hb dX7_waiting_42 rfl (lv_at hl 3 rfl) ?_
            refine w_iald (q0 := 7) hC hK hP rfl hm.1 dX7_waiting_43 ?_
            have hm := hm.2
            refine lv_aload_n hx hb dX7_waiting_44 rfl (lv_at hl 0 rfl) ?_
            refine gSW_st_0 hC hK hP wq_1356 dX7_waiting_45 ?_
            refine lv_icmp_gt (tgt := 55) hx hb dX7_waiting_48 (by decide) (fun c_48 => ?_) (fun c_48 => ?_)
            · have hm := hm.1 c_48
              refine lv_iconst (v := 0) hx hb dX7_waiting_55 (by decide) ?_
              refine lv_iadd hx hb dX7_waiting_56 ?_
              refine lv_topi (fun v2_57 ev2_57 => ?_)
              have hm := hm v2_57 ev2_57
              refine lv_istore_n (lv' := [(2, .int v2_57), (0, .ref (a 200)), (1, .int v1), (3, .int v3)]) hx hb dX7_waiting_57 rfl hl (by decide) rfl (fun ls hl => ?_)
              obtain ⟨v3_58, ev3_58⟩ : ∃ y : Int32, y = v3 + 1 := ⟨_, rfl⟩
              have hm := hm v3_58 ev3_58
              refine lv_iinc (v := v3_58) (lv' := [(3, .int v3_58), (2, .int v2_57), (0, .ref (a 200)), (1, .int v1)]) hx hb dX7_waiting_58 hl (k := 3) rfl (by rw [ev3_58]; rfl) (by decide) rfl (fun ls hl => ?_)
              refine lv_goto (tgt := 4) hx hb dX7_waiting_61 (by decide) ?_
              exact ih4 _ _ _ _ hm (lv_sub hl [2, 3, 1, 0] rfl)
            · have hm := hm.2 c_48
              refine lv_iconst (v := 1) hx hb dX7_waiting_51 (by decide) ?_
              refine lv_goto (tgt := 56) hx hb dX7_waiting_52 (by decide) ?_
              refine lv_iadd hx hb dX7_waiting_56 ?_
              refine lv_topi (fun v2_57 ev2_57 => ?_)
              have hm := hm v2_57 ev2_57
              refine lv_istore_n (lv' := [(2, .int v2_57), (0, .ref (a 200)), (1, .int v1), (3, .int v3)]) hx hb dX7_waiting_57 rfl hl (by decide) rfl (fun ls hl => ?_)
              obtain ⟨v3_58, ev3_58⟩ : ∃ y : Int32, y = v3 + 1 := ⟨_, rfl⟩
              have hm := hm v3_58 ev3_58
              refine lv_iinc (v := v3_58) (lv' := [(3, .int v3_58), (2, .int v2_57), (0, .ref (a 200)), (1, .int v1)]) hx hb dX7_waiting_58 hl (k := 3) rfl (by rw [ev3_58]; rfl) (by decide) rfl (fun ls hl => ?_)
              refine lv_goto (tgt := 4) hx hb dX7_waiting_61 (by decide) ?_
              exact ih4 _ _ _ _ hm (lv_sub hl [2, 3, 1, 0] rfl)
  refine lv_iconst (v := 0) hx hb dX7_waiting_0 (by decide) ?_
  refine lv_istore_n (lv' := [(2, .int 0), (0, .ref (a 200)), (1, .int x1)]) hx hb dX7_waiting_1 rfl hl (by decide) rfl (fun ls hl => ?_)
  refine lv_iconst (v := 0) hx hb dX7_waiting_2 (by decide) ?_
  refine lv_istore_n (lv' := [(3, .int 0), (2, .int 0), (0, .ref (a 200)), (1, .int x1)]) hx hb dX7_waiting_3 rfl hl (by decide) rfl (fun ls hl => ?_)
  exact L4 _ _ _ _ _ hm (lv_sub hl [2, 3, 1, 0] rfl)
section KX7_waiting
variable {p : Program} {l : Launch} {e : Env} {s : State} {m : MethodId} {args : Array Value} {below : List Frame} {meth : Method} {c : Code} {H H0 : Heap} {locs : List Loc} {cells slots : Nat} {Q : State → Prop} {R : Room} {rn mcR msR : Nat}
variable {pc : Nat} {ls : Array Slot} {rest : List Value} {A : Nat → Prop} {D : va_G}
variable {cc : ByteArray} {nL index : Nat} {own host : String}
theorem k_X7_waiting {Z : Nat → ClassId} {a q g : Nat → Nat} {rg sa aa : Nat} {N P : M2} {S : M2} {x1 : Int32} {K : Int32 → Prop} (hC : CallFix p m c cc nL s args lw_g own) (hN : NW s) (hK : va_K D vwCl (tysG Z) s) (hP : va_P D vwCl (SW Z a q g rg sa aa N P S) H) (hD : va_D (fun _ => True) (SW Z a q g rg sa aa N P S)) (hm : wp_X7_waiting N P S x1 K) (hl : Cond.methodLink own index yX7_waiting ∈ lw_g) (hlt : 1 < rn) (hsize : ls.size = nL) (hW : (rest.map fun v => v.category).sum ≤ 8) (hf : cells + 0 ≤ mcR ∧ slots + 0 ≤ msR) (hdg : decode cc pc = .ok (.invokevirtual index, 3)) (kk : ∀ r : Int32, K r → W p l e (rk rn mcR msR) s m args below meth c H locs cells slots Q (F0 m (pc + 3) ls (.int r :: rest))) : W p l e (rk rn mcR msR) s m args below meth c H locs cells slots Q (F0 m pc ls (.int x1 :: .ref (a 200) :: rest)) :=
  ro_go (runV (As := [.int x1]) hC hN (c_X7_waiting l D Z a q g rg sa aa N P S H.size x1 K hm) mi_X7_waiting hl wq_1838 wq_1839 hlt hP hD hK (q0 := 0) rfl rfl rfl hsize rfl hW hdg hf) kk
end KX7_waiting
def wp_X7_airOf (N : M2) (P : M2) (S : M2) (x1 : Int32) (K : Int32 → Prop) : Prop := wp_X8_isIn x1 0 ((P 241 0) - 1) (fun r_14 => ((r_14 = 0 → K 0) ∧ (¬ r_14 = 0 → (inb x1 60 ∧ K (S 202 x1.toInt.toNat)))))
set_option maxRecDepth 100000 in
set_option maxHeartbeats 4000000 in
theorem c_X7_airOf (l : Launch) (D : va_G) (Z : Nat → ClassId) (a q g : Nat → Nat) (rg sa aa : Nat) (N P : M2) (S : M2) (sz : Nat) (x1 : Int32) (K : Int32 → Prop) (hm : wp_X7_airOf N P S x1 K) : Met l yX7_airOf (wy yX7_airOf cX7_airOf 2 (some .int)) (rk 2 0 0) (pre vwCl D Z (SW Z a q g rg sa aa N P S) sz [.ref (a 200), .int x1]) (vp_Si K) 0 0 (fun _ => False) := by
  refine ro_of (ty := .int) (by decide +kernel) (Nat.le_of_ble_eq_true rfl) rfl ?_
  intro p e s m args below meth c Q hC hN hsz hP hD hK hret ls hl
  have hx := hC.1
  have hb := hC.2.1
  have hl : lv_has ls 2 [(0, .ref (a 200)), (1, .int x1)] := hl
  refine lv_iload_n hx hb dX7_airOf_0 rfl (lv_at hl 1 rfl) ?_
  refine lv_iconst (v := 0) hx hb dX7_airOf_1 (by decide) ?_
  refine lv_aload_n hx hb dX7_airOf_2 rfl (lv_at hl 0 rfl) ?_
  refine gSW_st_14 hC hK hP wq_1383 dX7_airOf_3 ?_
  refine gNSW_mod_11 hC hN hK hP wn_1431 dX7_airOf_6 ?_
  refine gNSW_plan_1 hC hN hK hP wn_1231 dX7_airOf_9 ?_
  refine lv_iconst (v := 1) hx hb dX7_airOf_12 (by decide) ?_
  refine lv_isub hx hb dX7_airOf_13 ?_
  refine kxN_X8_isIn hC hN hK hP hD (sx_EWSW Z a q g rg sa aa N P S) rfl hm wn_1845 (by decide) hl.1 (Nat.le_of_ble_eq_true rfl) ⟨Nat.le_refl _, Nat.le_refl _⟩ dX7_airOf_14 (fun r_14 hm => ?_)
  refine lv_if_eq (tgt := 29) hx hb dX7_airOf_17 (by decide) (fun c_17 => ?_) (fun c_17 => ?_)
  · have hm := hm.1 c_17
    refine lv_iconst (v := 0) hx hb dX7_airOf_29 (by decide) ?_
    exact hret 30 _ _ hm rfl dX7_airOf_30
  · have hm := hm.2 c_17
    refine lv_aload_n hx hb dX7_airOf_20 rfl (lv_at hl 0 rfl) ?_
    refine gSW_st_2 hC hK hP wq_1360 dX7_airOf_21 ?_
    refine lv_iload_n hx hb dX7_airOf_24 rfl (lv_at hl 1 rfl) ?_
    refine w_iald (q0 := 1) hC hK hP rfl hm.1 dX7_airOf_25 ?_
    have hm := hm.2
    refine lv_goto (tgt := 30) hx hb dX7_airOf_26 (by decide) ?_
    exact hret 30 _ _ hm rfl dX7_airOf_30
section KX7_airOf
variable {p : Program} {l : Launch} {e : Env} {s : State} {m : MethodId} {args : Array Value} {below : List Frame} {meth : Method} {c : Code} {H H0 : Heap} {locs : List Loc} {cells slots : Nat} {Q : State → Prop} {R : Room} {rn mcR msR : Nat}
variable {pc : Nat} {ls : Array Slot} {rest : List Value} {A : Nat → Prop} {D : va_G}
variable {cc : ByteArray} {nL index : Nat} {own host : String}
theorem k_X7_airOf {Z : Nat → ClassId} {a q g : Nat → Nat} {rg sa aa : Nat} {N P : M2} {S : M2} {x1 : Int32} {K : Int32 → Prop} (hC : CallFix p m c cc nL s args lw_g own) (hN : NW s) (hK : va_K D vwCl (tysG Z) s) (hP : va_P D vwCl (SW Z a q g rg sa aa N P S) H) (hD : va_D (fun _ => True) (SW Z a q g rg sa aa N P S)) (hm : wp_X7_airOf N P S x1 K) (hl : Cond.methodLink own index yX7_airOf ∈ lw_g) (hlt : 2 < rn) (hsize : ls.size = nL) (hW : (rest.map fun v => v.category).sum ≤ 8) (hf : cells + 0 ≤ mcR ∧ slots + 0 ≤ msR) (hdg : decode cc pc = .ok (.invokevirtual index, 3)) (kk : ∀ r : Int32, K r → W p l e (rk rn mcR msR) s m args below meth c H locs cells slots Q (F0 m (pc + 3) ls (.int r :: rest))) : W p l e (rk rn mcR msR) s m args below meth c H locs cells slots Q (F0 m pc ls (.int x1 :: .ref (a 200) :: rest)) :=
  ro_go (runV (As := [.int x1]) hC hN (c_X7_airOf l D Z a q g rg sa aa N P S H.size x1 K hm) mi_X7_airOf hl wq_1842 wq_1843 hlt hP hD hK (q0 := 0) rfl rfl rfl hsize rfl hW hdg hf) kk
end KX7_airOf
def wl_X7_allAir_4 (N : M2) (P : M2) (S : M2) (K : Int32 → Prop) : Nat → Int32 → Int32 → Prop
  | 0, _, _ => False
  | n + 1, v1, v2 => (((P 241 0) ≤ v2 → K v1) ∧ (¬ (P 241 0) ≤ v2 → (inb v2 60 ∧ (∀ v1_26, v1_26 = v1 + (S 202 v2.toInt.toNat) → (∀ v2_27 : Int32, v2_27 = v2 + 1 → wl_X7_allAir_4 N P S K n v1_26 v2_27)))))
def wp_X7_allAir (N : M2) (P : M2) (S : M2) (K : Int32 → Prop) : Prop := wl_X7_allAir_4 N P S K fK 0 0
set_option maxRecDepth 100000 in
set_option maxHeartbeats 4000000 in
theorem c_X7_allAir (l : Launch) (D : va_G) (Z : Nat → ClassId) (a q g : Nat → Nat) (rg sa aa : Nat) (N P : M2) (S : M2) (sz : Nat) (K : Int32 → Prop) (hm : wp_X7_allAir N P S K) : Met l yX7_allAir (wy yX7_allAir cX7_allAir 3 (some .int)) (rk 1 0 0) (pre vwCl D Z (SW Z a q g rg sa aa N P S) sz [.ref (a 200)]) (vp_Si K) 0 0 (fun _ => False) := by
  refine ro_of (ty := .int) (by decide +kernel) (Nat.le_of_ble_eq_true rfl) rfl ?_
  intro p e s m args below meth c Q hC hN hsz hP hD hK hret ls hl
  have hx := hC.1
  have hb := hC.2.1
  have hl : lv_has ls 3 [(0, .ref (a 200))] := hl
  have L4 : ∀ (n4 : Nat), ∀ (v1 : Int32) (v2 : Int32) (ls : Array Slot), wl_X7_allAir_4 N P S K n4 v1 v2 → lv_has ls 3 [(0, .ref (a 200)), (1, .int v1), (2, .int v2)] → W p l e (rk 1 0 0) s m args below meth c s.heap [] 0 0 Q (F0 m 4 ls []) := by
    intro n4
    induction n4 with
    | zero =>
      intro v1 v2 ls hm hl
      exact False.elim hm
    | succ n4 ih4 =>
      intro v1 v2 ls hm hl
      refine lv_iload_n hx hb dX7_allAir_4 rfl (lv_at hl 2 rfl) ?_
      refine lv_aload_n hx hb dX7_allAir_5 rfl (lv_at hl 0 rfl) ?_
      refine gSW_st_14 hC hK hP wq_1383 dX7_allAir_6 ?_
      refine gNSW_mod_11 hC hN hK hP wn_1431 dX7_allAir_9 ?_
      refine gNSW_plan_1 hC hN hK hP wn_1231 dX7_allAir_12 ?_
      refine lv_icmp_ge (tgt := 33) hx hb dX7_allAir_15 (by decide) (fun c_15 => ?_) (fun c_15 => ?_)
      · have hm := hm.1 c_15
        refine lv_iload_n hx hb dX7_allAir_33 rfl (lv_at hl 1 rfl) ?_
        exact hret 34 _ _ hm rfl dX7_allAir_34
      · have hm := hm.2 c_15
        refine lv_iload_n hx hb dX7_allAir_18 rfl (lv_at hl 1 rfl) ?_
        refine lv_aload_n hx hb dX7_allAir_19 rfl (lv_at hl 0 rfl) ?_
        refine gSW_st_2 hC hK hP wq_1360 dX7_allAir_20 ?_
        refine lv_iload_n hx hb dX7_allAir_23 rfl (lv_at hl 2 rfl) ?_
        refine w_iald (q0 := 1) hC hK hP rfl hm.1 dX7_allAir_24 ?_
        have hm := hm.2
        refine lv_iadd hx hb dX7_allAir_25 ?_
        refine lv_topi (fun v1_26 ev1_26 => ?_)
        have hm := hm v1_26 ev1_26
        refine lv_istore_n (lv' := [(1, .int v1_26), (0, .ref (a 200)), (2, .int v2)]) hx hb dX7_allAir_26 rfl hl (by decide) rfl (fun ls hl => ?_)
        obtain ⟨v2_27, ev2_27⟩ : ∃ y : Int32, y = v2 + 1 := ⟨_, rfl⟩
        have hm := hm v2_27 ev2_27
        refine lv_iinc (v := v2_27) (lv' := [(2, .int v2_27), (1, .int v1_26), (0, .ref (a 200))]) hx hb dX7_allAir_27 hl (k := 2) rfl (by rw [ev2_27]; rfl) (by decide) rfl (fun ls hl => ?_)
        refine lv_goto (tgt := 4) hx hb dX7_allAir_30 (by decide) ?_
        exact ih4 _ _ _ hm (lv_sub hl [2, 1, 0] rfl)
  refine lv_iconst (v := 0) hx hb dX7_allAir_0 (by decide) ?_
  refine lv_istore_n (lv' := [(1, .int 0), (0, .ref (a 200))]) hx hb dX7_allAir_1 rfl hl (by decide) rfl (fun ls hl => ?_)
  refine lv_iconst (v := 0) hx hb dX7_allAir_2 (by decide) ?_
  refine lv_istore_n (lv' := [(2, .int 0), (1, .int 0), (0, .ref (a 200))]) hx hb dX7_allAir_3 rfl hl (by decide) rfl (fun ls hl => ?_)
  exact L4 _ _ _ _ hm (lv_sub hl [2, 1, 0] rfl)
section KX7_allAir
variable {p : Program} {l : Launch} {e : Env} {s : State} {m : MethodId} {args : Array Value} {below : List Frame} {meth : Method} {c : Code} {H H0 : Heap} {locs : List Loc} {cells slots : Nat} {Q : State → Prop} {R : Room} {rn mcR msR : Nat}
variable {pc : Nat} {ls : Array Slot} {rest : List Value} {A : Nat → Prop} {D : va_G}
variable {cc : ByteArray} {nL index : Nat} {own host : String}
theorem k_X7_allAir {Z : Nat → ClassId} {a q g : Nat → Nat} {rg sa aa : Nat} {N P : M2} {S : M2} {K : Int32 → Prop} (hC : CallFix p m c cc nL s args lw_g own) (hN : NW s) (hK : va_K D vwCl (tysG Z) s) (hP : va_P D vwCl (SW Z a q g rg sa aa N P S) H) (hD : va_D (fun _ => True) (SW Z a q g rg sa aa N P S)) (hm : wp_X7_allAir N P S K) (hl : Cond.methodLink own index yX7_allAir ∈ lw_g) (hlt : 1 < rn) (hsize : ls.size = nL) (hW : (rest.map fun v => v.category).sum ≤ 8) (hf : cells + 0 ≤ mcR ∧ slots + 0 ≤ msR) (hdg : decode cc pc = .ok (.invokevirtual index, 3)) (kk : ∀ r : Int32, K r → W p l e (rk rn mcR msR) s m args below meth c H locs cells slots Q (F0 m (pc + 3) ls (.int r :: rest))) : W p l e (rk rn mcR msR) s m args below meth c H locs cells slots Q (F0 m pc ls (.ref (a 200) :: rest)) :=
  ro_go (runV (As := []) hC hN (c_X7_allAir l D Z a q g rg sa aa N P S H.size K hm) mi_X7_allAir hl wq_1733 wq_1734 hlt hP hD hK (q0 := 0) rfl rfl rfl hsize rfl hW hdg hf) kk
end KX7_allAir
def wl_X7_capsAt_4 (N : M2) (P : M2) (S : M2) (K : Int32 → Prop) : Nat → Int32 → Int32 → Int32 → Prop
  | 0, _, _, _ => False
  | n + 1, v1, v2, v3 => (((P 249 0) ≤ v3 → K v2) ∧ (¬ (P 249 0) ≤ v3 → (inb v3 6 ∧ ((¬ (S 204 v3.toInt.toNat) = v1 → (∀ v2_35, v2_35 = v2 + 0 → (∀ v3_36 : Int32, v3_36 = v3 + 1 → wl_X7_capsAt_4 N P S K n v1 v2_35 v3_36))) ∧ ((S 204 v3.toInt.toNat) = v1 → (∀ v2_35, v2_35 = v2 + 1 → (∀ v3_36 : Int32, v3_36 = v3 + 1 → wl_X7_capsAt_4 N P S K n v1 v2_35 v3_36)))))))
def wp_X7_capsAt (N : M2) (P : M2) (S : M2) (x1 : Int32) (K : Int32 → Prop) : Prop := wl_X7_capsAt_4 N P S K fK x1 0 0
set_option maxRecDepth 100000 in
set_option maxHeartbeats 4000000 in
theorem c_X7_capsAt (l : Launch) (D : va_G) (Z : Nat → ClassId) (a q g : Nat → Nat) (rg sa aa : Nat) (N P : M2) (S : M2) (sz : Nat) (x1 : Int32) (K : Int32 → Prop) (hm : wp_X7_capsAt N P S x1 K) : Met l yX7_capsAt (wy yX7_capsAt cX7_capsAt 4 (some .int)) (rk 1 0 0) (pre vwCl D Z (SW Z a q g rg sa aa N P S) sz [.ref (a 200), .int x1]) (vp_Si K) 0 0 (fun _ => False) := by
  refine ro_of (ty := .int) (by decide +kernel) (Nat.le_of_ble_eq_true rfl) rfl ?_
  intro p e s m args below meth c Q hC hN hsz hP hD hK hret ls hl
  have hx := hC.1
  have hb := hC.2.1
  have hl : lv_has ls 4 [(0, .ref (a 200)), (1, .int x1)] := hl
  have L4 : ∀ (n4 : Nat), ∀ (v1 : Int32) (v2 : Int32) (v3 : Int32) (ls : Array Slot), wl_X7_capsAt_4 N P S K n4 v1 v2 v3 → lv_has ls 4 [(0, .ref (a 200)), (1, .int v1), (2, .int v2), (3, .int v3)] → W p l e (rk 1 0 0) s m args below meth c s.heap [] 0 0 Q (F0 m 4 ls []) := by
    intro n4
    induction n4 with
    | zero =>
      intro v1 v2 v3 ls hm hl
      exact False.elim hm
    | succ n4 ih4 =>
      intro v1 v2 v3 ls hm hl
      refine lv_iload_n hx hb dX7_capsAt_4 rfl (lv_at hl 3 rfl) ?_
      refine lv_aload_n hx hb dX7_capsAt_5 rfl (lv_at hl 0 rfl) ?_
      refine gSW_st_14 hC hK hP wq_1383 dX7_capsAt_6 ?_
      refine gNSW_mod_11 hC hN hK hP wn_1431 dX7_capsAt_9 ?_
      refine gNSW_plan_9 hC hN hK hP wn_1252 dX7_capsAt_12 ?_
      refine lv_icmp_ge (tgt := 42) hx hb dX7_capsAt_15 (by decide) (fun c_15 => ?_) (fun c_15 => ?_)
      · have hm := hm.1 c_15
        refine lv_iload_n hx hb dX7_capsAt_42 rfl (lv_at hl 2 rfl) ?_
        exact hret 43 _ _ hm rfl dX7_capsAt_43
      · have hm := hm.2 c_15
        refine lv_iload_n hx hb dX7_capsAt_18 rfl (lv_at hl 2 rfl) ?_
        refine lv_aload_n hx hb dX7_capsAt_19 rfl (lv_at hl 0 rfl) ?_
        refine gSW_st_4 hC hK hP wq_1364 dX7_capsAt_20 ?_
        refine lv_iload_n hx hb dX7_capsAt_23 rfl (lv_at hl 3 rfl) ?_
        refine w_iald (q0 := 3) hC hK hP rfl hm.1 dX7_capsAt_24 ?_
        have hm := hm.2
        refine lv_iload_n hx hb dX7_capsAt_25 rfl (lv_at hl 1 rfl) ?_
        refine lv_icmp_ne (tgt := 33) hx hb dX7_capsAt_26 (by decide) (fun c_26 => ?_) (fun c_26 => ?_)
        · have hm := hm.1 c_26
          refine lv_iconst (v := 0) hx hb dX7_capsAt_33 (by decide) ?_
          refine lv_iadd hx hb dX7_capsAt_34 ?_
          refine lv_topi (fun v2_35 ev2_35 => ?_)
          have hm := hm v2_35 ev2_35
          refine lv_istore_n (lv' := [(2, .int v2_35), (0, .ref (a 200)), (1, .int v1), (3, .int v3)]) hx hb dX7_capsAt_35 rfl hl (by decide) rfl (fun ls hl => ?_)
          obtain ⟨v3_36, ev3_36⟩ : ∃ y : Int32, y = v3 + 1 := ⟨_, rfl⟩
          have hm := hm v3_36 ev3_36
          refine lv_iinc (v := v3_36) (lv' := [(3, .int v3_36), (2, .int v2_35), (0, .ref (a 200)), (1, .int v1)]) hx hb dX7_capsAt_36 hl (k := 3) rfl (by rw [ev3_36]; rfl) (by decide) rfl (fun ls hl => ?_)
          refine lv_goto (tgt := 4) hx hb dX7_capsAt_39 (by decide) ?_
          exact ih4 _ _ _ _ hm (lv_sub hl [2, 3, 1, 0] rfl)
        · have hm := hm.2 c_26
          refine lv_iconst (v := 1) hx hb dX7_capsAt_29 (by decide) ?_
          refine lv_goto (tgt := 34) hx hb dX7_capsAt_30 (by decide) ?_
          refine lv_iadd hx hb dX7_capsAt_34 ?_
          refine lv_topi (fun v2_35 ev2_35 => ?_)
          have hm := hm v2_35 ev2_35
          refine lv_istore_n (lv' := [(2, .int v2_35), (0, .ref (a 200)), (1, .int v1), (3, .int v3)]) hx hb dX7_capsAt_35 rfl hl (by decide) rfl (fun ls hl => ?_)
          obtain ⟨v3_36, ev3_36⟩ : ∃ y : Int32, y = v3 + 1 := ⟨_, rfl⟩
          have hm := hm v3_36 ev3_36
          refine lv_iinc (v := v3_36) (lv' := [(3, .int v3_36), (2, .int v2_35), (0, .ref (a 200)), (1, .int v1)]) hx hb dX7_capsAt_36 hl (k := 3) rfl (by rw [ev3_36]; rfl) (by decide) rfl (fun ls hl => ?_)
          refine lv_goto (tgt := 4) hx hb dX7_capsAt_39 (by decide) ?_
          exact ih4 _ _ _ _ hm (lv_sub hl [2, 3, 1, 0] rfl)
  refine lv_iconst (v := 0) hx hb dX7_capsAt_0 (by decide) ?_
  refine lv_istore_n (lv' := [(2, .int 0), (0, .ref (a 200)), (1, .int x1)]) hx hb dX7_capsAt_1 rfl hl (by decide) rfl (fun ls hl => ?_)
  refine lv_iconst (v := 0) hx hb dX7_capsAt_2 (by decide) ?_
  refine lv_istore_n (lv' := [(3, .int 0), (2, .int 0), (0, .ref (a 200)), (1, .int x1)]) hx hb dX7_capsAt_3 rfl hl (by decide) rfl (fun ls hl => ?_)
  exact L4 _ _ _ _ _ hm (lv_sub hl [2, 3, 1, 0] rfl)
section KX7_capsAt
variable {p : Program} {l : Launch} {e : Env} {s : State} {m : MethodId} {args : Array Value} {below : List Frame} {meth : Method} {c : Code} {H H0 : Heap} {locs : List Loc} {cells slots : Nat} {Q : State → Prop} {R : Room} {rn mcR msR : Nat}
variable {pc : Nat} {ls : Array Slot} {rest : List Value} {A : Nat → Prop} {D : va_G}
variable {cc : ByteArray} {nL index : Nat} {own host : String}
theorem k_X7_capsAt {Z : Nat → ClassId} {a q g : Nat → Nat} {rg sa aa : Nat} {N P : M2} {S : M2} {x1 : Int32} {K : Int32 → Prop} (hC : CallFix p m c cc nL s args lw_g own) (hN : NW s) (hK : va_K D vwCl (tysG Z) s) (hP : va_P D vwCl (SW Z a q g rg sa aa N P S) H) (hD : va_D (fun _ => True) (SW Z a q g rg sa aa N P S)) (hm : wp_X7_capsAt N P S x1 K) (hl : Cond.methodLink own index yX7_capsAt ∈ lw_g) (hlt : 1 < rn) (hsize : ls.size = nL) (hW : (rest.map fun v => v.category).sum ≤ 8) (hf : cells + 0 ≤ mcR ∧ slots + 0 ≤ msR) (hdg : decode cc pc = .ok (.invokevirtual index, 3)) (kk : ∀ r : Int32, K r → W p l e (rk rn mcR msR) s m args below meth c H locs cells slots Q (F0 m (pc + 3) ls (.int r :: rest))) : W p l e (rk rn mcR msR) s m args below meth c H locs cells slots Q (F0 m pc ls (.int x1 :: .ref (a 200) :: rest)) :=
  ro_go (runV (As := [.int x1]) hC hN (c_X7_capsAt l D Z a q g rg sa aa N P S H.size x1 K hm) mi_X7_capsAt hl wq_1737 wq_1738 hlt hP hD hK (q0 := 0) rfl rfl rfl hsize rfl hW hdg hf) kk
end KX7_capsAt
def wp_X7_pushed (N : M2) (P : M2) (S : M2) (x1 : Int32) (x2 : Int32) (K : Int32 → Prop) : Prop := ((x1 = 20 → K (S 200 0)) ∧ (x1 = 21 → K (S 201 0)) ∧ (x1 = 23 → (inb x2 6 ∧ K (S 203 x2.toInt.toNat))) ∧ (x1 = 24 → (inb x2 8 ∧ K (S 209 x2.toInt.toNat))) ∧ (x1 = 25 → wp_X7_waiting N P S x2 (fun r_82 => K r_82)) ∧ (x1 = 26 → (inb x2 8 ∧ ((¬ (S 206 x2.toInt.toNat) = 1 → K 0) ∧ ((S 206 x2.toInt.toNat) = 1 → K 1)))) ∧ (x1 = 32 → K x2) ∧ (¬ x1 = 20 → ¬ x1 = 21 → ¬ x1 = 23 → ¬ x1 = 24 → ¬ x1 = 25 → ¬ x1 = 26 → ¬ x1 = 32 → (inb x2 6 ∧ ((¬ (S 204 x2.toInt.toNat) = ((-1)) → K 0) ∧ ((S 204 x2.toInt.toNat) = ((-1)) → K 1)))))
set_option maxRecDepth 100000 in
set_option maxHeartbeats 4000000 in
theorem c_X7_pushed (l : Launch) (D : va_G) (Z : Nat → ClassId) (a q g : Nat → Nat) (rg sa aa : Nat) (N P : M2) (S : M2) (sz : Nat) (x1 : Int32) (x2 : Int32) (K : Int32 → Prop) (hm : wp_X7_pushed N P S x1 x2 K) : Met l yX7_pushed (wy yX7_pushed cX7_pushed 3 (some .int)) (rk 2 0 0) (pre vwCl D Z (SW Z a q g rg sa aa N P S) sz [.ref (a 200), .int x1, .int x2]) (vp_Si K) 0 0 (fun _ => False) := by
  refine ro_of (ty := .int) (by decide +kernel) (Nat.le_of_ble_eq_true rfl) rfl ?_
  intro p e s m args below meth c Q hC hN hsz hP hD hK hret ls hl
  have hx := hC.1
  have hb := hC.2.1
  have hl : lv_has ls 3 [(0, .ref (a 200)), (1, .int x1), (2, .int x2)] := hl
  refine lv_iload_n hx hb dX7_pushed_0 rfl (lv_at hl 1 rfl) ?_
  by_cases s1_0 : x1 = 20
  · have hm := hm.1 s1_0
    refine w_swi (off := 69) (tgt := 70) 20 hx hb dX7_pushed_1 s1_0 (by decide) (by decide) (by decide) (by decide) ?_
    refine lv_aload_n hx hb dX7_pushed_70 rfl (lv_at hl 0 rfl) ?_
    refine gSW_st_0 hC hK hP wq_1356 dX7_pushed_71 ?_
    exact hret 74 _ _ hm rfl dX7_pushed_74
  have hm := hm.2
  by_cases s1_1 : x1 = 21
  · have hm := hm.1 s1_1
    refine w_swi (off := 74) (tgt := 75) 21 hx hb dX7_pushed_1 s1_1 (by decide) (by decide) (by decide) (by decide) ?_
    refine lv_aload_n hx hb dX7_pushed_75 rfl (lv_at hl 0 rfl) ?_
    refine gSW_st_1 hC hK hP wq_1358 dX7_pushed_76 ?_
    exact hret 79 _ _ hm rfl dX7_pushed_79
  have hm := hm.2
  by_cases s1_2 : x1 = 23
  · have hm := hm.1 s1_2
    refine w_swi (off := 85) (tgt := 86) 23 hx hb dX7_pushed_1 s1_2 (by decide) (by decide) (by decide) (by decide) ?_
    refine lv_aload_n hx hb dX7_pushed_86 rfl (lv_at hl 0 rfl) ?_
    refine gSW_st_3 hC hK hP wq_1362 dX7_pushed_87 ?_
    refine lv_iload_n hx hb dX7_pushed_90 rfl (lv_at hl 2 rfl) ?_
    refine w_iald (q0 := 2) hC hK hP rfl hm.1 dX7_pushed_91 ?_
    have hm := hm.2
    exact hret 92 _ _ hm rfl dX7_pushed_92
  have hm := hm.2
  by_cases s1_3 : x1 = 24
  · have hm := hm.1 s1_3
    refine w_swi (off := 92) (tgt := 93) 24 hx hb dX7_pushed_1 s1_3 (by decide) (by decide) (by decide) (by decide) ?_
    refine lv_aload_n hx hb dX7_pushed_93 rfl (lv_at hl 0 rfl) ?_
    refine gSW_st_9 hC hK hP wq_1374 dX7_pushed_94 ?_
    refine lv_iload_n hx hb dX7_pushed_97 rfl (lv_at hl 2 rfl) ?_
    refine w_iald (q0 := 8) hC hK hP rfl hm.1 dX7_pushed_98 ?_
    have hm := hm.2
    exact hret 99 _ _ hm rfl dX7_pushed_99
  have hm := hm.2
  by_cases s1_4 : x1 = 25
  · have hm := hm.1 s1_4
    refine w_swi (off := 79) (tgt := 80) 25 hx hb dX7_pushed_1 s1_4 (by decide) (by decide) (by decide) (by decide) ?_
    refine lv_aload_n hx hb dX7_pushed_80 rfl (lv_at hl 0 rfl) ?_
    refine lv_iload_n hx hb dX7_pushed_81 rfl (lv_at hl 2 rfl) ?_
    refine k_X7_waiting hC hN hK hP hD hm wq_1837 (by decide) hl.1 (Nat.le_of_ble_eq_true rfl) ⟨Nat.le_refl _, Nat.le_refl _⟩ dX7_pushed_82 (fun r_82 hm => ?_)
    exact hret 85 _ _ hm rfl dX7_pushed_85
  have hm := hm.2
  by_cases s1_5 : x1 = 26
  · have hm := hm.1 s1_5
    refine w_swi (off := 99) (tgt := 100) 26 hx hb dX7_pushed_1 s1_5 (by decide) (by decide) (by decide) (by decide) ?_
    refine lv_aload_n hx hb dX7_pushed_100 rfl (lv_at hl 0 rfl) ?_
    refine gSW_st_6 hC hK hP wq_1368 dX7_pushed_101 ?_
    refine lv_iload_n hx hb dX7_pushed_104 rfl (lv_at hl 2 rfl) ?_
    refine w_iald (q0 := 5) hC hK hP rfl hm.1 dX7_pushed_105 ?_
    have hm := hm.2
    refine lv_iconst (v := 1) hx hb dX7_pushed_106 (by decide) ?_
    refine lv_icmp_ne (tgt := 114) hx hb dX7_pushed_107 (by decide) (fun c_107 => ?_) (fun c_107 => ?_)
    · have hm := hm.1 c_107
      refine lv_iconst (v := 0) hx hb dX7_pushed_114 (by decide) ?_
      exact hret 115 _ _ hm rfl dX7_pushed_115
    · have hm := hm.2 c_107
      refine lv_iconst (v := 1) hx hb dX7_pushed_110 (by decide) ?_
      refine lv_goto (tgt := 115) hx hb dX7_pushed_111 (by decide) ?_
      exact hret 115 _ _ hm rfl dX7_pushed_115
  have hm := hm.2
  by_cases s1_6 : x1 = 32
  · have hm := hm.1 s1_6
    refine w_swi (off := 67) (tgt := 68) 32 hx hb dX7_pushed_1 s1_6 (by decide) (by decide) (by decide) (by decide) ?_
    refine lv_iload_n hx hb dX7_pushed_68 rfl (lv_at hl 2 rfl) ?_
    exact hret 69 _ _ hm rfl dX7_pushed_69
  have hm := hm.2
  have hm := hm s1_0 s1_1 s1_2 s1_3 s1_4 s1_5 s1_6
  refine w_swd (tgt := 116) [20, 21, 23, 24, 25, 26, 32] hx hb dX7_pushed_1 (by decide) (by decide) (fun k hk => ?_) (by decide) ?_
  · simp only [List.mem_cons, List.not_mem_nil, or_false] at hk
    rcases hk with rfl | rfl | rfl | rfl | rfl | rfl | rfl
    · exact eq_toInt s1_0
    · exact eq_toInt s1_1
    · exact eq_toInt s1_2
    · exact eq_toInt s1_3
    · exact eq_toInt s1_4
    · exact eq_toInt s1_5
    · exact eq_toInt s1_6
  · refine lv_aload_n hx hb dX7_pushed_116 rfl (lv_at hl 0 rfl) ?_
    refine gSW_st_4 hC hK hP wq_1364 dX7_pushed_117 ?_
    refine lv_iload_n hx hb dX7_pushed_120 rfl (lv_at hl 2 rfl) ?_
    refine w_iald (q0 := 3) hC hK hP rfl hm.1 dX7_pushed_121 ?_
    have hm := hm.2
    refine lv_iconst (v := (-1)) hx hb dX7_pushed_122 (by decide) ?_
    refine lv_icmp_ne (tgt := 130) hx hb dX7_pushed_123 (by decide) (fun c_123 => ?_) (fun c_123 => ?_)
    · have hm := hm.1 c_123
      refine lv_iconst (v := 0) hx hb dX7_pushed_130 (by decide) ?_
      exact hret 131 _ _ hm rfl dX7_pushed_131
    · have hm := hm.2 c_123
      refine lv_iconst (v := 1) hx hb dX7_pushed_126 (by decide) ?_
      refine lv_goto (tgt := 131) hx hb dX7_pushed_127 (by decide) ?_
      exact hret 131 _ _ hm rfl dX7_pushed_131
section KX7_pushed
variable {p : Program} {l : Launch} {e : Env} {s : State} {m : MethodId} {args : Array Value} {below : List Frame} {meth : Method} {c : Code} {H H0 : Heap} {locs : List Loc} {cells slots : Nat} {Q : State → Prop} {R : Room} {rn mcR msR : Nat}
variable {pc : Nat} {ls : Array Slot} {rest : List Value} {A : Nat → Prop} {D : va_G}
variable {cc : ByteArray} {nL index : Nat} {own host : String}
theorem k_X7_pushed {Z : Nat → ClassId} {a q g : Nat → Nat} {rg sa aa : Nat} {N P : M2} {S : M2} {x1 : Int32} {x2 : Int32} {K : Int32 → Prop} (hC : CallFix p m c cc nL s args lw_g own) (hN : NW s) (hK : va_K D vwCl (tysG Z) s) (hP : va_P D vwCl (SW Z a q g rg sa aa N P S) H) (hD : va_D (fun _ => True) (SW Z a q g rg sa aa N P S)) (hm : wp_X7_pushed N P S x1 x2 K) (hl : Cond.methodLink own index yX7_pushed ∈ lw_g) (hlt : 2 < rn) (hsize : ls.size = nL) (hW : (rest.map fun v => v.category).sum ≤ 8) (hf : cells + 0 ≤ mcR ∧ slots + 0 ≤ msR) (hdg : decode cc pc = .ok (.invokevirtual index, 3)) (kk : ∀ r : Int32, K r → W p l e (rk rn mcR msR) s m args below meth c H locs cells slots Q (F0 m (pc + 3) ls (.int r :: rest))) : W p l e (rk rn mcR msR) s m args below meth c H locs cells slots Q (F0 m pc ls (.int x2 :: .int x1 :: .ref (a 200) :: rest)) :=
  ro_go (runV (As := [.int x1, .int x2]) hC hN (c_X7_pushed l D Z a q g rg sa aa N P S H.size x1 x2 K hm) mi_X7_pushed hl wq_1835 wq_115 hlt hP hD hK (q0 := 0) rfl rfl rfl hsize rfl hW hdg hf) kk
end KX7_pushed
def wj_X7_carryOut_135 (N : M2) (P : M2) (C5 : M2 → Int32 → Int32 → Int32 → Prop) (K : Int32 → M2 → Prop) (S : M2) (v2 : Int32) (v3 : Int32) (v4 : Int32) (v5 : Int32) : Prop := ((¬ v5 = 33 → ((¬ v5 = 28 → (inb v3 400 ∧ wp_X7_airOf N P S (S 213 v3.toInt.toNat) (fun r_182 => (inb v3 400 ∧ ∀ S_185 : M2, S_185 = up2 S 213 (upd (S 213) v3.toInt.toNat r_182) → C5 S_185 v2 v3 v4)))) ∧ (v5 = 28 → (inb v3 400 ∧ (inb v3 400 ∧ ∀ S_185 : M2, S_185 = up2 S 213 (upd (S 213) v3.toInt.toNat (1 - (S 213 v3.toInt.toNat))) → C5 S_185 v2 v3 v4))))) ∧ (v5 = 33 → (inb v3 400 ∧ (inb v3 400 ∧ ∀ S_185 : M2, S_185 = up2 S 213 (upd (S 213) v3.toInt.toNat (-(S 213 v3.toInt.toNat))) → C5 S_185 v2 v3 v4))))
def wj_X7_carryOut_92 (N : M2) (P : M2) (C5 : M2 → Int32 → Int32 → Int32 → Prop) (K : Int32 → M2 → Prop) (S : M2) (v2 : Int32) (v3 : Int32) (v4 : Int32) (v6 : Int32) (q0 : Int32) (q1 : Int32) (q3 : Int32) : Prop := wp_X7_pushed N P S q1 q0 (fun r_92 => (inb q3 400 ∧ ∀ S_95 : M2, S_95 = up2 S 213 (upd (S 213) q3.toInt.toNat r_92) → ((v6 = 0 → (∀ v4_109, v4_109 = v4 + 0 → C5 S_95 v2 v3 v4_109)) ∧ (¬ v6 = 0 → (∀ v4_109, v4_109 = v4 + 1 → C5 S_95 v2 v3 v4_109)))))
def wj_X7_carryOut_60 (N : M2) (P : M2) (C5 : M2 → Int32 → Int32 → Int32 → Prop) (K : Int32 → M2 → Prop) (S : M2) (v2 : Int32) (v3 : Int32) (v4 : Int32) (v5 : Int32) (q0 : Int32) : Prop := ((q0 = 0 → wj_X7_carryOut_92 N P C5 K S v2 v3 v4 q0 ((-1)) v5 v3) ∧ (¬ q0 = 0 → (inb v4 800 ∧ wj_X7_carryOut_92 N P C5 K S v2 v3 v4 q0 (P 263 v4.toInt.toNat) v5 v3)))
def wl_X7_carryOut_5 (N : M2) (P : M2) (K : Int32 → M2 → Prop) : Nat → M2 → Int32 → Int32 → Int32 → Prop
  | 0, _, _, _, _ => False
  | n + 1, S, v2, v3, v4 => ((v2 ≤ v4 → (inb 0 400 ∧ K (S 213 (0 : Int32).toInt.toNat) S)) ∧ (¬ v2 ≤ v4 → (inb v4 800 ∧ (∀ v5_24, v5_24 = P 263 v4.toInt.toNat → (∀ v4_26 : Int32, v4_26 = v4 + 1 → wp_X8_isPushed v5_24 (fun r_31 => ((r_31 = 0 → ((v5_24 = 33 → wj_X7_carryOut_135 N P (wl_X7_carryOut_5 N P K n) K S v2 v3 v4_26 v5_24) ∧ (¬ v5_24 = 33 → ((v5_24 = 28 → wj_X7_carryOut_135 N P (wl_X7_carryOut_5 N P K n) K S v2 v3 v4_26 v5_24) ∧ (¬ v5_24 = 28 → ((¬ v5_24 = 22 → (∀ v3_189 : Int32, v3_189 = v3 + (-1) → (inb v3_189 400 ∧ (inb (v3_189 + 1) 400 ∧ wp_X8_both v5_24 (S 213 v3_189.toInt.toNat) (S 213 (v3_189 + 1).toInt.toNat) (fun r_213 => (inb v3_189 400 ∧ ∀ S_216 : M2, S_216 = up2 S 213 (upd (S 213) v3_189.toInt.toNat r_213) → wl_X7_carryOut_5 N P K n S_216 v2 v3_189 v4_26)))))) ∧ (v5_24 = 22 → wj_X7_carryOut_135 N P (wl_X7_carryOut_5 N P K n) K S v2 v3 v4_26 v5_24))))))) ∧ (¬ r_31 = 0 → (∀ v3_37 : Int32, v3_37 = v3 + 1 → ((v5_24 = 32 → wj_X7_carryOut_60 N P (wl_X7_carryOut_5 N P K n) K S v2 v3_37 v4_26 v5_24 1) ∧ (¬ v5_24 = 32 → wp_X8_isOf v5_24 (fun r_49 => ((r_49 = 0 → wj_X7_carryOut_60 N P (wl_X7_carryOut_5 N P K n) K S v2 v3_37 v4_26 v5_24 0) ∧ (¬ r_49 = 0 → wj_X7_carryOut_60 N P (wl_X7_carryOut_5 N P K n) K S v2 v3_37 v4_26 v5_24 1))))))))))))))
def wp_X7_carryOut (N : M2) (P : M2) (S : M2) (x1 : Int32) (x2 : Int32) (K : Int32 → M2 → Prop) : Prop := wl_X7_carryOut_5 N P K fK S x2 ((-1)) x1
set_option maxRecDepth 100000 in
set_option maxHeartbeats 4000000 in
theorem c_X7_carryOut (l : Launch) (D : va_G) (Z : Nat → ClassId) (a q g : Nat → Nat) (rg sa aa : Nat) (N P : M2) (S : M2) (sz : Nat) (x1 : Int32) (x2 : Int32) (K : Int32 → M2 → Prop) (hm : wp_X7_carryOut N P S x1 x2 K) : Met l yX7_carryOut (wy yX7_carryOut cX7_carryOut 7 (some .int)) (rk 4 0 0) (pre vwCl D Z (SW Z a q g rg sa aa N P S) sz [.ref (a 200), .int x1, .int x2]) (poI vwCl D Z (SW Z a q g rg sa aa N P) S sz K) 0 0 (va_A (SW Z a q g rg sa aa N P S) sz) := by
  refine rw_of (ty := .int) (wsF := (SW Z a q g rg sa aa N P)) (u0 := S) (by decide +kernel) (Nat.le_of_ble_eq_true rfl) rfl ?_
  intro p e s m args below meth c Q A hC hN hsz hT hK hret ls hl
  have hx := hC.1
  have hb := hC.2.1
  have hl : lv_has ls 7 [(0, .ref (a 200)), (1, .int x1), (2, .int x2)] := hl
  have hT : TS vwCl D (SW Z a q g rg sa aa N P S) A s.heap s.heap [] := hT
  have L5 : ∀ (n5 : Nat), ∀ (S : M2) (v2 : Int32) (v3 : Int32) (v4 : Int32) (H : Heap) (locs : List Loc) (ls : Array Slot), wl_X7_carryOut_5 N P K n5 S v2 v3 v4 → TS vwCl D (SW Z a q g rg sa aa N P S) A s.heap H locs → lv_has ls 7 [(0, .ref (a 200)), (2, .int v2), (3, .int v3), (4, .int v4)] → W p l e (rk 4 0 0) s m args below meth c H locs 0 0 Q (F0 m 5 ls []) := by
    intro n5
    induction n5 with
    | zero =>
      intro S v2 v3 v4 H locs ls hm hT hl
      exact False.elim hm
    | succ n5 ih5 =>
      have L135 : ∀ (S : M2) (v2 : Int32) (v3 : Int32) (v4 : Int32) (v5 : Int32) (H : Heap) (locs : List Loc) (ls : Array Slot), wj_X7_carryOut_135 N P (wl_X7_carryOut_5 N P K n5) K S v2 v3 v4 v5 → TS vwCl D (SW Z a q g rg sa aa N P S) A s.heap H locs → lv_has ls 7 [(0, .ref (a 200)), (2, .int v2), (3, .int v3), (4, .int v4), (5, .int v5)] → W p l e (rk 4 0 0) s m args below meth c H locs 0 0 Q (F0 m 135 ls []) := by
        intro S v2 v3 v4 v5 H locs ls hm hT hl
        refine lv_aload_n hx hb dX7_carryOut_135 rfl (lv_at hl 0 rfl) ?_
        refine gSW_st_13 hC hK hT.1 wq_1382 dX7_carryOut_136 ?_
        refine lv_iload_n hx hb dX7_carryOut_139 rfl (lv_at hl 2 rfl) ?_
        refine lv_iload hx hb dX7_carryOut_140 (lv_at hl 4 rfl) ?_
        refine lv_bipush (v := 33) hx hb dX7_carryOut_142 (by decide) ?_
        refine lv_icmp_ne (tgt := 157) hx hb dX7_carryOut_144 (by decide) (fun c_144 => ?_) (fun c_144 => ?_)
        · have hm := hm.1 c_144
          refine lv_iload hx hb dX7_carryOut_157 (lv_at hl 4 rfl) ?_
          refine lv_bipush (v := 28) hx hb dX7_carryOut_159 (by decide) ?_
          refine lv_icmp_ne (tgt := 175) hx hb dX7_carryOut_161 (by decide) (fun c_161 => ?_) (fun c_161 => ?_)
          · have hm := hm.1 c_161
            refine lv_aload_n hx hb dX7_carryOut_175 rfl (lv_at hl 0 rfl) ?_
            refine lv_aload_n hx hb dX7_carryOut_176 rfl (lv_at hl 0 rfl) ?_
            refine gSW_st_13 hC hK hT.1 wq_1382 dX7_carryOut_177 ?_
            refine lv_iload_n hx hb dX7_carryOut_180 rfl (lv_at hl 2 rfl) ?_
            refine w_iald (q0 := 11) hC hK hT.1 rfl hm.1 dX7_carryOut_181 ?_
            have hm := hm.2
            refine k_X7_airOf hC hN hK hT.1 hT.D' hm wq_1841 (by decide) hl.1 (Nat.le_of_ble_eq_true rfl) ⟨Nat.le_refl _, Nat.le_refl _⟩ dX7_carryOut_182 (fun r_182 hm => ?_)
            refine sSW_stack hC hK hT hm.1 dX7_carryOut_185 (fun S_185 eS_185 H locs hT => ?_)
            have hm := hm.2 S_185 eS_185
            refine lv_goto (tgt := 5) hx hb dX7_carryOut_186 (by decide) ?_
            exact ih5 _ _ _ _ _ _ _ hm hT (lv_sub hl [0, 1, 2, 3] rfl)
          · have hm := hm.2 c_161
            refine lv_iconst (v := 1) hx hb dX7_carryOut_164 (by decide) ?_
            refine lv_aload_n hx hb dX7_carryOut_165 rfl (lv_at hl 0 rfl) ?_
            refine gSW_st_13 hC hK hT.1 wq_1382 dX7_carryOut_166 ?_
            refine lv_iload_n hx hb dX7_carryOut_169 rfl (lv_at hl 2 rfl) ?_
            refine w_iald (q0 := 11) hC hK hT.1 rfl hm.1 dX7_carryOut_170 ?_
            have hm := hm.2
            refine lv_isub hx hb dX7_carryOut_171 ?_
            refine lv_goto (tgt := 185) hx hb dX7_carryOut_172 (by decide) ?_
            refine sSW_stack hC hK hT hm.1 dX7_carryOut_185 (fun S_185 eS_185 H locs hT => ?_)
            have hm := hm.2 S_185 eS_185
            refine lv_goto (tgt := 5) hx hb dX7_carryOut_186 (by decide) ?_
            exact ih5 _ _ _ _ _ _ _ hm hT (lv_sub hl [0, 1, 2, 3] rfl)
        · have hm := hm.2 c_144
          refine lv_aload_n hx hb dX7_carryOut_147 rfl (lv_at hl 0 rfl) ?_
          refine gSW_st_13 hC hK hT.1 wq_1382 dX7_carryOut_148 ?_
          refine lv_iload_n hx hb dX7_carryOut_151 rfl (lv_at hl 2 rfl) ?_
          refine w_iald (q0 := 11) hC hK hT.1 rfl hm.1 dX7_carryOut_152 ?_
          have hm := hm.2
          refine lv_ineg hx hb dX7_carryOut_153 ?_
          refine lv_goto (tgt := 185) hx hb dX7_carryOut_154 (by decide) ?_
          refine sSW_stack hC hK hT hm.1 dX7_carryOut_185 (fun S_185 eS_185 H locs hT => ?_)
          have hm := hm.2 S_185 eS_185
          refine lv_goto (tgt := 5) hx hb dX7_carryOut_186 (by decide) ?_
          exact ih5 _ _ _ _ _ _ _ hm hT (lv_sub hl [0, 1, 2, 3] rfl)
      have L92 : ∀ (S : M2) (v2 : Int32) (v3 : Int32) (v4 : Int32) (v6 : Int32) (q0 : Int32) (q1 : Int32) (q3 : Int32) (H : Heap) (locs : List Loc) (ls : Array Slot), wj_X7_carryOut_92 N P (wl_X7_carryOut_5 N P K n5) K S v2 v3 v4 v6 q0 q1 q3 → TS vwCl D (SW Z a q g rg sa aa N P S) A s.heap H locs → lv_has ls 7 [(0, .ref (a 200)), (2, .int v2), (3, .int v3), (4, .int v4), (6, .int v6)] → W p l e (rk 4 0 0) s m args below meth c H locs 0 0 Q (F0 m 92 ls [.int q0, .int q1, .ref (a 200), .int q3, .ref (a 213)]) := by
        intro S v2 v3 v4 v6 q0 q1 q3 H locs ls hm hT hl
        refine k_X7_pushed hC hN hK hT.1 hT.D' hm wq_1833 (by decide) hl.1 (Nat.le_of_ble_eq_true rfl) ⟨Nat.le_refl _, Nat.le_refl _⟩ dX7_carryOut_92 (fun r_92 hm => ?_)
        refine sSW_stack hC hK hT hm.1 dX7_carryOut_95 (fun S_95 eS_95 H locs hT => ?_)
        have hm := hm.2 S_95 eS_95
        refine lv_iload hx hb dX7_carryOut_96 (lv_at hl 3 rfl) ?_
        refine lv_iload hx hb dX7_carryOut_98 (lv_at hl 4 rfl) ?_
        refine lv_if_eq (tgt := 107) hx hb dX7_carryOut_100 (by decide) (fun c_100 => ?_) (fun c_100 => ?_)
        · have hm := hm.1 c_100
          refine lv_iconst (v := 0) hx hb dX7_carryOut_107 (by decide) ?_
          refine lv_iadd hx hb dX7_carryOut_108 ?_
          refine lv_topi (fun v4_109 ev4_109 => ?_)
          have hm := hm v4_109 ev4_109
          refine lv_istore (lv' := [(4, .int v4_109), (0, .ref (a 200)), (2, .int v2), (3, .int v3), (6, .int v6)]) hx hb dX7_carryOut_109 hl (by decide) rfl (fun ls hl => ?_)
          refine lv_goto (tgt := 5) hx hb dX7_carryOut_111 (by decide) ?_
          exact ih5 _ _ _ _ _ _ _ hm hT (lv_sub hl [1, 2, 3, 0] rfl)
        · have hm := hm.2 c_100
          refine lv_iconst (v := 1) hx hb dX7_carryOut_103 (by decide) ?_
          refine lv_goto (tgt := 108) hx hb dX7_carryOut_104 (by decide) ?_
          refine lv_iadd hx hb dX7_carryOut_108 ?_
          refine lv_topi (fun v4_109 ev4_109 => ?_)
          have hm := hm v4_109 ev4_109
          refine lv_istore (lv' := [(4, .int v4_109), (0, .ref (a 200)), (2, .int v2), (3, .int v3), (6, .int v6)]) hx hb dX7_carryOut_109 hl (by decide) rfl (fun ls hl => ?_)
          refine lv_goto (tgt := 5) hx hb dX7_carryOut_111 (by decide) ?_
          exact ih5 _ _ _ _ _ _ _ hm hT (lv_sub hl [1, 2, 3, 0] rfl)
      have L60 : ∀ (S : M2) (v2 : Int32) (v3 : Int32) (v4 : Int32) (v5 : Int32) (q0 : Int32) (H : Heap) (locs : List Loc) (ls : Array Slot), wj_X7_carryOut_60 N P (wl_X7_carryOut_5 N P K n5) K S v2 v3 v4 v5 q0 → TS vwCl D (SW Z a q g rg sa aa N P S) A s.heap H locs → lv_has ls 7 [(0, .ref (a 200)), (2, .int v2), (3, .int v3), (4, .int v4), (5, .int v5)] → W p l e (rk 4 0 0) s m args below meth c H locs 0 0 Q (F0 m 60 ls [.int q0]) := by
        intro S v2 v3 v4 v5 q0 H locs ls hm hT hl
        refine lv_istore (lv' := [(6, .int q0), (0, .ref (a 200)), (2, .int v2), (3, .int v3), (4, .int v4), (5, .int v5)]) hx hb dX7_carryOut_60 hl (by decide) rfl (fun ls hl => ?_)
        refine lv_aload_n hx hb dX7_carryOut_62 rfl (lv_at hl 1 rfl) ?_
        refine gSW_st_13 hC hK hT.1 wq_1382 dX7_carryOut_63 ?_
        refine lv_iload_n hx hb dX7_carryOut_66 rfl (lv_at hl 3 rfl) ?_
        refine lv_aload_n hx hb dX7_carryOut_67 rfl (lv_at hl 1 rfl) ?_
        refine lv_iload hx hb dX7_carryOut_68 (lv_at hl 5 rfl) ?_
        refine lv_iload hx hb dX7_carryOut_70 (lv_at hl 0 rfl) ?_
        refine lv_if_eq (tgt := 91) hx hb dX7_carryOut_72 (by decide) (fun c_72 => ?_) (fun c_72 => ?_)
        · have hm := hm.1 c_72
          refine lv_iconst (v := (-1)) hx hb dX7_carryOut_91 (by decide) ?_
          exact L92 _ _ _ _ _ _ _ _ _ _ _ hm hT (lv_sub hl [1, 2, 3, 4, 0] rfl)
        · have hm := hm.2 c_72
          refine lv_aload_n hx hb dX7_carryOut_75 rfl (lv_at hl 1 rfl) ?_
          refine gSW_st_14 hC hK hT.1 wq_1383 dX7_carryOut_76 ?_
          refine gNSW_mod_11 hC hN hK hT.1 wn_1431 dX7_carryOut_79 ?_
          refine gNSW_plan_23 hC hN hK hT.1 wn_1290 dX7_carryOut_82 ?_
          refine lv_iload hx hb dX7_carryOut_85 (lv_at hl 4 rfl) ?_
          refine w_iald (q0 := 30) hC hK hT.1 rfl hm.1 dX7_carryOut_87 ?_
          have hm := hm.2
          refine lv_goto (tgt := 92) hx hb dX7_carryOut_88 (by decide) ?_
          exact L92 _ _ _ _ _ _ _ _ _ _ _ hm hT (lv_sub hl [1, 2, 3, 4, 0] rfl)
      intro S v2 v3 v4 H locs ls hm hT hl
      refine lv_iload hx hb dX7_carryOut_5 (lv_at hl 3 rfl) ?_
      refine lv_iload_n hx hb dX7_carryOut_7 rfl (lv_at hl 1 rfl) ?_
      refine lv_icmp_ge (tgt := 220) hx hb dX7_carryOut_8 (by decide) (fun c_8 => ?_) (fun c_8 => ?_)
      · have hm := hm.1 c_8
        refine lv_aload_n hx hb dX7_carryOut_220 rfl (lv_at hl 0 rfl) ?_
        refine gSW_st_13 hC hK hT.1 wq_1382 dX7_carryOut_221 ?_
        refine lv_iconst (v := 0) hx hb dX7_carryOut_224 (by decide) ?_
        refine w_iald (q0 := 11) hC hK hT.1 rfl hm.1 dX7_carryOut_225 ?_
        have hm := hm.2
        exact hret 226 _ _ _ _ _ hm hT rfl dX7_carryOut_226
      · have hm := hm.2 c_8
        refine lv_aload_n hx hb dX7_carryOut_11 rfl (lv_at hl 0 rfl) ?_
        refine gSW_st_14 hC hK hT.1 wq_1383 dX7_carryOut_12 ?_
        refine gNSW_mod_11 hC hN hK hT.1 wn_1431 dX7_carryOut_15 ?_
        refine gNSW_plan_23 hC hN hK hT.1 wn_1290 dX7_carryOut_18 ?_
        refine lv_iload hx hb dX7_carryOut_21 (lv_at hl 3 rfl) ?_
        refine w_iald (q0 := 30) hC hK hT.1 rfl hm.1 dX7_carryOut_23 ?_
        have hm := hm.2
        refine lv_topi (fun v5_24 ev5_24 => ?_)
        have hm := hm v5_24 ev5_24
        refine lv_istore (lv' := [(5, .int v5_24), (0, .ref (a 200)), (2, .int v2), (3, .int v3), (4, .int v4)]) hx hb dX7_carryOut_24 hl (by decide) rfl (fun ls hl => ?_)
        obtain ⟨v4_26, ev4_26⟩ : ∃ y : Int32, y = v4 + 1 := ⟨_, rfl⟩
        have hm := hm v4_26 ev4_26
        refine lv_iinc (v := v4_26) (lv' := [(4, .int v4_26), (5, .int v5_24), (0, .ref (a 200)), (2, .int v2), (3, .int v3)]) hx hb dX7_carryOut_26 hl (k := 4) rfl (by rw [ev4_26]; rfl) (by decide) rfl (fun ls hl => ?_)
        refine lv_iload hx hb dX7_carryOut_29 (lv_at hl 1 rfl) ?_
        refine kxN_X8_isPushed hC hN hK hT.1 hT.D' (sx_EWSW Z a q g rg sa aa N P S) rfl hm wn_1826 (by decide) hl.1 (Nat.le_of_ble_eq_true rfl) ⟨Nat.le_refl _, Nat.le_refl _⟩ dX7_carryOut_31 (fun r_31 hm => ?_)
        refine lv_if_eq (tgt := 114) hx hb dX7_carryOut_34 (by decide) (fun c_34 => ?_) (fun c_34 => ?_)
        · have hm := hm.1 c_34
          refine lv_iload hx hb dX7_carryOut_114 (lv_at hl 1 rfl) ?_
          refine lv_bipush (v := 33) hx hb dX7_carryOut_116 (by decide) ?_
          refine lv_icmp_eq (tgt := 135) hx hb dX7_carryOut_118 (by decide) (fun c_118 => ?_) (fun c_118 => ?_)
          · have hm := hm.1 c_118
            exact L135 _ _ _ _ _ _ _ _ hm hT (lv_sub hl [2, 3, 4, 0, 1] rfl)
          · have hm := hm.2 c_118
            refine lv_iload hx hb dX7_carryOut_121 (lv_at hl 1 rfl) ?_
            refine lv_bipush (v := 28) hx hb dX7_carryOut_123 (by decide) ?_
            refine lv_icmp_eq (tgt := 135) hx hb dX7_carryOut_125 (by decide) (fun c_125 => ?_) (fun c_125 => ?_)
            · have hm := hm.1 c_125
              exact L135 _ _ _ _ _ _ _ _ hm hT (lv_sub hl [2, 3, 4, 0, 1] rfl)
            · have hm := hm.2 c_125
              refine lv_iload hx hb dX7_carryOut_128 (lv_at hl 1 rfl) ?_
              refine lv_bipush (v := 22) hx hb dX7_carryOut_130 (by decide) ?_
              refine lv_icmp_ne (tgt := 189) hx hb dX7_carryOut_132 (by decide) (fun c_132 => ?_) (fun c_132 => ?_)
              · have hm := hm.1 c_132
                obtain ⟨v3_189, ev3_189⟩ : ∃ y : Int32, y = v3 + (-1) := ⟨_, rfl⟩
                have hm := hm v3_189 ev3_189
                refine lv_iinc (v := v3_189) (lv' := [(3, .int v3_189), (4, .int v4_26), (5, .int v5_24), (0, .ref (a 200)), (2, .int v2)]) hx hb dX7_carryOut_189 hl (k := 4) rfl (by rw [ev3_189]; rfl) (by decide) rfl (fun ls hl => ?_)
                refine lv_aload_n hx hb dX7_carryOut_192 rfl (lv_at hl 3 rfl) ?_
                refine gSW_st_13 hC hK hT.1 wq_1382 dX7_carryOut_193 ?_
                refine lv_iload_n hx hb dX7_carryOut_196 rfl (lv_at hl 0 rfl) ?_
                refine lv_iload hx hb dX7_carryOut_197 (lv_at hl 2 rfl) ?_
                refine lv_aload_n hx hb dX7_carryOut_199 rfl (lv_at hl 3 rfl) ?_
                refine gSW_st_13 hC hK hT.1 wq_1382 dX7_carryOut_200 ?_
                refine lv_iload_n hx hb dX7_carryOut_203 rfl (lv_at hl 0 rfl) ?_
                refine w_iald (q0 := 11) hC hK hT.1 rfl hm.1 dX7_carryOut_204 ?_
                have hm := hm.2
                refine lv_aload_n hx hb dX7_carryOut_205 rfl (lv_at hl 3 rfl) ?_
                refine gSW_st_13 hC hK hT.1 wq_1382 dX7_carryOut_206 ?_
                refine lv_iload_n hx hb dX7_carryOut_209 rfl (lv_at hl 0 rfl) ?_
                refine lv_iconst (v := 1) hx hb dX7_carryOut_210 (by decide) ?_
                refine lv_iadd hx hb dX7_carryOut_211 ?_
                refine w_iald (q0 := 11) hC hK hT.1 rfl hm.1 dX7_carryOut_212 ?_
                have hm := hm.2
                refine kxN_X8_both hC hN hK hT.1 hT.D' (sx_EWSW Z a q g rg sa aa N P S) rfl hm wn_1846 (by decide) hl.1 (Nat.le_of_ble_eq_true rfl) ⟨Nat.le_refl _, Nat.le_refl _⟩ dX7_carryOut_213 (fun r_213 hm => ?_)
                refine sSW_stack hC hK hT hm.1 dX7_carryOut_216 (fun S_216 eS_216 H locs hT => ?_)
                have hm := hm.2 S_216 eS_216
                refine lv_goto (tgt := 5) hx hb dX7_carryOut_217 (by decide) ?_
                exact ih5 _ _ _ _ _ _ _ hm hT (lv_sub hl [3, 4, 0, 1] rfl)
              · have hm := hm.2 c_132
                exact L135 _ _ _ _ _ _ _ _ hm hT (lv_sub hl [2, 3, 4, 0, 1] rfl)
        · have hm := hm.2 c_34
          obtain ⟨v3_37, ev3_37⟩ : ∃ y : Int32, y = v3 + 1 := ⟨_, rfl⟩
          have hm := hm v3_37 ev3_37
          refine lv_iinc (v := v3_37) (lv' := [(3, .int v3_37), (4, .int v4_26), (5, .int v5_24), (0, .ref (a 200)), (2, .int v2)]) hx hb dX7_carryOut_37 hl (k := 4) rfl (by rw [ev3_37]; rfl) (by decide) rfl (fun ls hl => ?_)
          refine lv_iload hx hb dX7_carryOut_40 (lv_at hl 2 rfl) ?_
          refine lv_bipush (v := 32) hx hb dX7_carryOut_42 (by decide) ?_
          refine lv_icmp_eq (tgt := 55) hx hb dX7_carryOut_44 (by decide) (fun c_44 => ?_) (fun c_44 => ?_)
          · have hm := hm.1 c_44
            refine lv_iconst (v := 1) hx hb dX7_carryOut_55 (by decide) ?_
            refine lv_goto (tgt := 60) hx hb dX7_carryOut_56 (by decide) ?_
            exact L60 _ _ _ _ _ _ _ _ _ hm hT (lv_sub hl [3, 4, 0, 1, 2] rfl)
          · have hm := hm.2 c_44
            refine lv_iload hx hb dX7_carryOut_47 (lv_at hl 2 rfl) ?_
            refine kxN_X8_isOf hC hN hK hT.1 hT.D' (sx_EWSW Z a q g rg sa aa N P S) rfl hm wn_1832 (by decide) hl.1 (Nat.le_of_ble_eq_true rfl) ⟨Nat.le_refl _, Nat.le_refl _⟩ dX7_carryOut_49 (fun r_49 hm => ?_)
            refine lv_if_eq (tgt := 59) hx hb dX7_carryOut_52 (by decide) (fun c_52 => ?_) (fun c_52 => ?_)
            · have hm := hm.1 c_52
              refine lv_iconst (v := 0) hx hb dX7_carryOut_59 (by decide) ?_
              exact L60 _ _ _ _ _ _ _ _ _ hm hT (lv_sub hl [3, 4, 0, 1, 2] rfl)
            · have hm := hm.2 c_52
              refine lv_iconst (v := 1) hx hb dX7_carryOut_55 (by decide) ?_
              refine lv_goto (tgt := 60) hx hb dX7_carryOut_56 (by decide) ?_
              exact L60 _ _ _ _ _ _ _ _ _ hm hT (lv_sub hl [3, 4, 0, 1, 2] rfl)
  refine lv_iconst (v := (-1)) hx hb dX7_carryOut_0 (by decide) ?_
  refine lv_istore_n (lv' := [(3, .int ((-1))), (0, .ref (a 200)), (1, .int x1), (2, .int x2)]) hx hb dX7_carryOut_1 rfl hl (by decide) rfl (fun ls hl => ?_)
  refine lv_iload_n hx hb dX7_carryOut_2 rfl (lv_at hl 2 rfl) ?_
  refine lv_istore (lv' := [(4, .int x1), (3, .int ((-1))), (0, .ref (a 200)), (1, .int x1), (2, .int x2)]) hx hb dX7_carryOut_3 hl (by decide) rfl (fun ls hl => ?_)
  exact L5 _ _ _ _ _ _ _ _ hm hT (lv_sub hl [2, 4, 1, 0] rfl)
section KX7_carryOut
variable {p : Program} {l : Launch} {e : Env} {s : State} {m : MethodId} {args : Array Value} {below : List Frame} {meth : Method} {c : Code} {H H0 : Heap} {locs : List Loc} {cells slots : Nat} {Q : State → Prop} {R : Room} {rn mcR msR : Nat}
variable {pc : Nat} {ls : Array Slot} {rest : List Value} {A : Nat → Prop} {D : va_G}
variable {cc : ByteArray} {nL index : Nat} {own host : String}
theorem k_X7_carryOut {Z : Nat → ClassId} {a q g : Nat → Nat} {rg sa aa : Nat} {N P : M2} {S : M2} {x1 : Int32} {x2 : Int32} {K : Int32 → M2 → Prop} (hC : CallFix p m c cc nL s args lw_g own) (hN : NW s) (hK : va_K D vwCl (tysG Z) s) (hT : TS vwCl D (SW Z a q g rg sa aa N P S) A H0 H locs) (hm : wp_X7_carryOut N P S x1 x2 K) (hl : Cond.methodLink own index yX7_carryOut ∈ lw_g) (hlt : 4 < rn) (hsize : ls.size = nL) (hW : (rest.map fun v => v.category).sum ≤ 8) (hf : cells + 0 ≤ mcR ∧ slots + 0 ≤ msR) (hdg : decode cc pc = .ok (.invokevirtual index, 3)) (kk : ∀ (r : Int32) (S1 : M2) (H1 : Heap) (locs1 : List Loc), K r S1 → TS vwCl D (SW Z a q g rg sa aa N P S1) A H0 H1 locs1 → W p l e (rk rn mcR msR) s m args below meth c H1 locs1 cells slots Q (F0 m (pc + 3) ls (.int r :: rest))) : W p l e (rk rn mcR msR) s m args below meth c H locs cells slots Q (F0 m pc ls (.int x2 :: .int x1 :: .ref (a 200) :: rest)) :=
  rw_go (wsF := (SW Z a q g rg sa aa N P)) (u0 := S) (wr := []) (isC := cutSW) (isR := []) (pm := cutSW) (ws' := (SW Z a q g rg sa aa N P)) (runV (As := [.int x1, .int x2]) hC hN (c_X7_carryOut l D Z a q g rg sa aa N P S H.size x1 x2 K hm) mi_X7_carryOut hl wq_1824 wq_114 hlt hT.1 hT.D' hK (q0 := 0) rfl rfl rfl hsize rfl hW hdg hf) (cutOkSW Z a q g rg sa aa N P S) hT (fun r u H1 locs1 hk hT1 => kk r u H1 locs1 hk hT1)
end KX7_carryOut
def wp_X7_holds (N : M2) (P : M2) (S : M2) (x1 : Int32) (K : Int32 → M2 → Prop) : Prop := (inb x1 17 ∧ (inb x1 17 ∧ wp_X7_carryOut N P S (P 261 x1.toInt.toNat) (P 262 x1.toInt.toNat) (fun r_25 S_25 => ((¬ r_25 = 1 → K 0 S_25) ∧ (r_25 = 1 → K 1 S_25)))))
set_option maxRecDepth 100000 in
set_option maxHeartbeats 4000000 in
theorem c_X7_holds (l : Launch) (D : va_G) (Z : Nat → ClassId) (a q g : Nat → Nat) (rg sa aa : Nat) (N P : M2) (S : M2) (sz : Nat) (x1 : Int32) (K : Int32 → M2 → Prop) (hm : wp_X7_holds N P S x1 K) : Met l yX7_holds (wy yX7_holds cX7_holds 2 (some .boolean)) (rk 5 0 0) (pre vwCl D Z (SW Z a q g rg sa aa N P S) sz [.ref (a 200), .int x1]) (poI vwCl D Z (SW Z a q g rg sa aa N P) S sz K) 0 0 (va_A (SW Z a q g rg sa aa N P S) sz) := by
  refine rw_of (ty := .boolean) (wsF := (SW Z a q g rg sa aa N P)) (u0 := S) (by decide +kernel) (Nat.le_of_ble_eq_true rfl) rfl ?_
  intro p e s m args below meth c Q A hC hN hsz hT hK hret ls hl
  have hx := hC.1
  have hb := hC.2.1
  have hl : lv_has ls 2 [(0, .ref (a 200)), (1, .int x1)] := hl
  have hT : TS vwCl D (SW Z a q g rg sa aa N P S) A s.heap s.heap [] := hT
  refine lv_aload_n hx hb dX7_holds_0 rfl (lv_at hl 0 rfl) ?_
  refine lv_aload_n hx hb dX7_holds_1 rfl (lv_at hl 0 rfl) ?_
  refine gSW_st_14 hC hK hT.1 wq_1383 dX7_holds_2 ?_
  refine gNSW_mod_11 hC hN hK hT.1 wn_1431 dX7_holds_5 ?_
  refine gNSW_plan_21 hC hN hK hT.1 wn_1283 dX7_holds_8 ?_
  refine lv_iload_n hx hb dX7_holds_11 rfl (lv_at hl 1 rfl) ?_
  refine w_iald (q0 := 28) hC hK hT.1 rfl hm.1 dX7_holds_12 ?_
  have hm := hm.2
  refine lv_aload_n hx hb dX7_holds_13 rfl (lv_at hl 0 rfl) ?_
  refine gSW_st_14 hC hK hT.1 wq_1383 dX7_holds_14 ?_
  refine gNSW_mod_11 hC hN hK hT.1 wn_1431 dX7_holds_17 ?_
  refine gNSW_plan_22 hC hN hK hT.1 wn_1286 dX7_holds_20 ?_
  refine lv_iload_n hx hb dX7_holds_23 rfl (lv_at hl 1 rfl) ?_
  refine w_iald (q0 := 29) hC hK hT.1 rfl hm.1 dX7_holds_24 ?_
  have hm := hm.2
  refine k_X7_carryOut hC hN hK hT hm wq_1822 (by decide) hl.1 (Nat.le_of_ble_eq_true rfl) ⟨Nat.le_refl _, Nat.le_refl _⟩ dX7_holds_25 (fun r_25 S_25 H locs hm hT => ?_)
  refine lv_iconst (v := 1) hx hb dX7_holds_28 (by decide) ?_
  refine lv_icmp_ne (tgt := 36) hx hb dX7_holds_29 (by decide) (fun c_29 => ?_) (fun c_29 => ?_)
  · have hm := hm.1 c_29
    refine lv_iconst (v := 0) hx hb dX7_holds_36 (by decide) ?_
    exact hret 37 _ _ _ _ _ hm hT rfl dX7_holds_37
  · have hm := hm.2 c_29
    refine lv_iconst (v := 1) hx hb dX7_holds_32 (by decide) ?_
    refine lv_goto (tgt := 37) hx hb dX7_holds_33 (by decide) ?_
    exact hret 37 _ _ _ _ _ hm hT rfl dX7_holds_37
section KX7_holds
variable {p : Program} {l : Launch} {e : Env} {s : State} {m : MethodId} {args : Array Value} {below : List Frame} {meth : Method} {c : Code} {H H0 : Heap} {locs : List Loc} {cells slots : Nat} {Q : State → Prop} {R : Room} {rn mcR msR : Nat}
variable {pc : Nat} {ls : Array Slot} {rest : List Value} {A : Nat → Prop} {D : va_G}
variable {cc : ByteArray} {nL index : Nat} {own host : String}
theorem k_X7_holds {Z : Nat → ClassId} {a q g : Nat → Nat} {rg sa aa : Nat} {N P : M2} {S : M2} {x1 : Int32} {K : Int32 → M2 → Prop} (hC : CallFix p m c cc nL s args lw_g own) (hN : NW s) (hK : va_K D vwCl (tysG Z) s) (hT : TS vwCl D (SW Z a q g rg sa aa N P S) A H0 H locs) (hm : wp_X7_holds N P S x1 K) (hl : Cond.methodLink own index yX7_holds ∈ lw_g) (hlt : 5 < rn) (hsize : ls.size = nL) (hW : (rest.map fun v => v.category).sum ≤ 8) (hf : cells + 0 ≤ mcR ∧ slots + 0 ≤ msR) (hdg : decode cc pc = .ok (.invokevirtual index, 3)) (kk : ∀ (r : Int32) (S1 : M2) (H1 : Heap) (locs1 : List Loc), K r S1 → TS vwCl D (SW Z a q g rg sa aa N P S1) A H0 H1 locs1 → W p l e (rk rn mcR msR) s m args below meth c H1 locs1 cells slots Q (F0 m (pc + 3) ls (.int r :: rest))) : W p l e (rk rn mcR msR) s m args below meth c H locs cells slots Q (F0 m pc ls (.int x1 :: .ref (a 200) :: rest)) :=
  rw_go (wsF := (SW Z a q g rg sa aa N P)) (u0 := S) (wr := []) (isC := cutSW) (isR := []) (pm := cutSW) (ws' := (SW Z a q g rg sa aa N P)) (runV (As := [.int x1]) hC hN (c_X7_holds l D Z a q g rg sa aa N P S H.size x1 K hm) mi_X7_holds hl wq_1820 wq_113 hlt hT.1 hT.D' hK (q0 := 0) rfl rfl rfl hsize rfl hW hdg hf) (cutOkSW Z a q g rg sa aa N P S) hT (fun r u H1 locs1 hk hT1 => kk r u H1 locs1 hk hT1)
end KX7_holds
def wl_X7_blow_2 (N : M2) (P : M2) (K : M2 → Prop) : Nat → M2 → Int32 → Prop
  | 0, _, _ => False
  | n + 1, S, v1 => (((P 257 0) ≤ v1 → K S) ∧ (¬ (P 257 0) ≤ v1 → (inb v1 16 ∧ ((¬ (P 259 v1.toInt.toNat) = 17 → (∀ v1_61 : Int32, v1_61 = v1 + 1 → wl_X7_blow_2 N P K n S v1_61)) ∧ ((P 259 v1.toInt.toNat) = 17 → wp_X7_holds N P S v1 (fun r_35 S_35 => ((¬ r_35 = 0 → (inb v1 16 ∧ (∀ S_57 : M2, S_57 = up2 S_35 201 (fun _ => P 260 v1.toInt.toNat) → K S_57))) ∧ (r_35 = 0 → (∀ v1_61 : Int32, v1_61 = v1 + 1 → wl_X7_blow_2 N P K n S_35 v1_61)))))))))
def wp_X7_blow (N : M2) (P : M2) (S : M2) (K : M2 → Prop) : Prop := wl_X7_blow_2 N P K fK S 0
set_option maxRecDepth 100000 in
set_option maxHeartbeats 4000000 in
theorem c_X7_blow (l : Launch) (D : va_G) (Z : Nat → ClassId) (a q g : Nat → Nat) (rg sa aa : Nat) (N P : M2) (S : M2) (sz : Nat) (K : M2 → Prop) (hm : wp_X7_blow N P S K) : Met l yX7_blow (wy yX7_blow cX7_blow 2 none) (rk 6 0 0) (pre vwCl D Z (SW Z a q g rg sa aa N P S) sz [.ref (a 200)]) (poV vwCl D Z (SW Z a q g rg sa aa N P) S sz K) 0 0 (va_A (SW Z a q g rg sa aa N P S) sz) := by
  refine rwv_of (wsF := (SW Z a q g rg sa aa N P)) (u0 := S) (by decide +kernel) (Nat.le_of_ble_eq_true rfl) rfl ?_
  intro p e s m args below meth c Q A hC hN hsz hnm hT hK hret ls hl
  have hx := hC.1
  have hb := hC.2.1
  have hl : lv_has ls 2 [(0, .ref (a 200))] := hl
  have hT : TS vwCl D (SW Z a q g rg sa aa N P S) A s.heap s.heap [] := hT
  have L2 : ∀ (n2 : Nat), ∀ (S : M2) (v1 : Int32) (H : Heap) (locs : List Loc) (ls : Array Slot), wl_X7_blow_2 N P K n2 S v1 → TS vwCl D (SW Z a q g rg sa aa N P S) A s.heap H locs → lv_has ls 2 [(0, .ref (a 200)), (1, .int v1)] → W p l e (rk 6 0 0) s m args below meth c H locs 0 0 Q (F0 m 2 ls []) := by
    intro n2
    induction n2 with
    | zero =>
      intro S v1 H locs ls hm hT hl
      exact False.elim hm
    | succ n2 ih2 =>
      intro S v1 H locs ls hm hT hl
      refine lv_iload_n hx hb dX7_blow_2 rfl (lv_at hl 1 rfl) ?_
      refine lv_aload_n hx hb dX7_blow_3 rfl (lv_at hl 0 rfl) ?_
      refine gSW_st_14 hC hK hT.1 wq_1383 dX7_blow_4 ?_
      refine gNSW_mod_11 hC hN hK hT.1 wn_1431 dX7_blow_7 ?_
      refine gNSW_plan_17 hC hN hK hT.1 wn_1273 dX7_blow_10 ?_
      refine lv_icmp_ge (tgt := 67) hx hb dX7_blow_13 (by decide) (fun c_13 => ?_) (fun c_13 => ?_)
      · have hm := hm.1 c_13
        exact hret 67 _ _ _ _ hm hT dX7_blow_67
      · have hm := hm.2 c_13
        refine lv_aload_n hx hb dX7_blow_16 rfl (lv_at hl 0 rfl) ?_
        refine gSW_st_14 hC hK hT.1 wq_1383 dX7_blow_17 ?_
        refine gNSW_mod_11 hC hN hK hT.1 wn_1431 dX7_blow_20 ?_
        refine gNSW_plan_19 hC hN hK hT.1 wn_1277 dX7_blow_23 ?_
        refine lv_iload_n hx hb dX7_blow_26 rfl (lv_at hl 1 rfl) ?_
        refine w_iald (q0 := 26) hC hK hT.1 rfl hm.1 dX7_blow_27 ?_
        have hm := hm.2
        refine lv_bipush (v := 17) hx hb dX7_blow_28 (by decide) ?_
        refine lv_icmp_ne (tgt := 61) hx hb dX7_blow_30 (by decide) (fun c_30 => ?_) (fun c_30 => ?_)
        · have hm := hm.1 c_30
          obtain ⟨v1_61, ev1_61⟩ : ∃ y : Int32, y = v1 + 1 := ⟨_, rfl⟩
          have hm := hm v1_61 ev1_61
          refine lv_iinc (v := v1_61) (lv' := [(1, .int v1_61), (0, .ref (a 200))]) hx hb dX7_blow_61 hl (k := 1) rfl (by rw [ev1_61]; rfl) (by decide) rfl (fun ls hl => ?_)
          refine lv_goto (tgt := 2) hx hb dX7_blow_64 (by decide) ?_
          exact ih2 _ _ _ _ _ hm hT (lv_sub hl [1, 0] rfl)
        · have hm := hm.2 c_30
          refine lv_aload_n hx hb dX7_blow_33 rfl (lv_at hl 0 rfl) ?_
          refine lv_iload_n hx hb dX7_blow_34 rfl (lv_at hl 1 rfl) ?_
          refine k_X7_holds hC hN hK hT hm wq_1818 (by decide) hl.1 (Nat.le_of_ble_eq_true rfl) ⟨Nat.le_refl _, Nat.le_refl _⟩ dX7_blow_35 (fun r_35 S_35 H locs hm hT => ?_)
          refine lv_if_ne (tgt := 44) hx hb dX7_blow_38 (by decide) (fun c_38 => ?_) (fun c_38 => ?_)
          · have hm := hm.1 c_38
            refine lv_aload_n hx hb dX7_blow_44 rfl (lv_at hl 0 rfl) ?_
            refine lv_aload_n hx hb dX7_blow_45 rfl (lv_at hl 0 rfl) ?_
            refine gSW_st_14 hC hK hT.1 wq_1383 dX7_blow_46 ?_
            refine gNSW_mod_11 hC hN hK hT.1 wn_1431 dX7_blow_49 ?_
            refine gNSW_plan_20 hC hN hK hT.1 wn_1280 dX7_blow_52 ?_
            refine lv_iload_n hx hb dX7_blow_55 rfl (lv_at hl 1 rfl) ?_
            refine w_iald (q0 := 27) hC hK hT.1 rfl hm.1 dX7_blow_56 ?_
            have hm := hm.2
            refine pSW_st_1 hC hK hT wq_1358 dX7_blow_57 (fun S_57 eS_57 H locs hT => ?_)
            have hm := hm S_57 eS_57
            exact hret 60 _ _ _ _ hm hT dX7_blow_60
          · have hm := hm.2 c_38
            refine lv_goto (tgt := 61) hx hb dX7_blow_41 (by decide) ?_
            obtain ⟨v1_61, ev1_61⟩ : ∃ y : Int32, y = v1 + 1 := ⟨_, rfl⟩
            have hm := hm v1_61 ev1_61
            refine lv_iinc (v := v1_61) (lv' := [(1, .int v1_61), (0, .ref (a 200))]) hx hb dX7_blow_61 hl (k := 1) rfl (by rw [ev1_61]; rfl) (by decide) rfl (fun ls hl => ?_)
            refine lv_goto (tgt := 2) hx hb dX7_blow_64 (by decide) ?_
            exact ih2 _ _ _ _ _ hm hT (lv_sub hl [1, 0] rfl)
  refine lv_iconst (v := 0) hx hb dX7_blow_0 (by decide) ?_
  refine lv_istore_n (lv' := [(1, .int 0), (0, .ref (a 200))]) hx hb dX7_blow_1 rfl hl (by decide) rfl (fun ls hl => ?_)
  exact L2 _ _ _ _ _ _ hm hT (lv_sub hl [1, 0] rfl)
section KX7_blow
variable {p : Program} {l : Launch} {e : Env} {s : State} {m : MethodId} {args : Array Value} {below : List Frame} {meth : Method} {c : Code} {H H0 : Heap} {locs : List Loc} {cells slots : Nat} {Q : State → Prop} {R : Room} {rn mcR msR : Nat}
variable {pc : Nat} {ls : Array Slot} {rest : List Value} {A : Nat → Prop} {D : va_G}
variable {cc : ByteArray} {nL index : Nat} {own host : String}
theorem k_X7_blow {Z : Nat → ClassId} {a q g : Nat → Nat} {rg sa aa : Nat} {N P : M2} {S : M2} {K : M2 → Prop} (hC : CallFix p m c cc nL s args lw_g own) (hN : NW s) (hK : va_K D vwCl (tysG Z) s) (hT : TS vwCl D (SW Z a q g rg sa aa N P S) A H0 H locs) (hm : wp_X7_blow N P S K) (hl : Cond.methodLink own index yX7_blow ∈ lw_g) (hlt : 6 < rn) (hsize : ls.size = nL) (hW : (rest.map fun v => v.category).sum ≤ 8) (hf : cells + 0 ≤ mcR ∧ slots + 0 ≤ msR) (hdg : decode cc pc = .ok (.invokevirtual index, 3)) (kk : ∀ (S1 : M2) (H1 : Heap) (locs1 : List Loc), K S1 → TS vwCl D (SW Z a q g rg sa aa N P S1) A H0 H1 locs1 → W p l e (rk rn mcR msR) s m args below meth c H1 locs1 cells slots Q (F0 m (pc + 3) ls (rest))) : W p l e (rk rn mcR msR) s m args below meth c H locs cells slots Q (F0 m pc ls (.ref (a 200) :: rest)) :=
  rwv_go (wsF := (SW Z a q g rg sa aa N P)) (u0 := S) (wr := []) (isC := cutSW) (isR := []) (pm := cutSW) (ws' := (SW Z a q g rg sa aa N P)) (runV (As := []) hC hN (c_X7_blow l D Z a q g rg sa aa N P S H.size K hm) mi_X7_blow hl wq_1886 wq_116 hlt hT.1 hT.D' hK (q0 := 0) rfl rfl rfl hsize rfl hW hdg hf) (cutOkSW Z a q g rg sa aa N P S) hT (fun u H1 locs1 hk hT1 => kk u H1 locs1 hk hT1)
end KX7_blow
def wl_X7_isReady_33 (N : M2) (P : M2) (K : Int32 → M2 → Prop) : Nat → M2 → Int32 → Int32 → Prop
  | 0, _, _, _ => False
  | n + 1, S, v1, v2 => (((P 257 0) ≤ v2 → K 1 S) ∧ (¬ (P 257 0) ≤ v2 → (inb v2 16 ∧ ((¬ (P 259 v2.toInt.toNat) = 18 → (∀ v2_90 : Int32, v2_90 = v2 + 1 → wl_X7_isReady_33 N P K n S v1 v2_90)) ∧ ((P 259 v2.toInt.toNat) = 18 → (inb v2 16 ∧ ((¬ (P 260 v2.toInt.toNat) = v1 → (∀ v2_90 : Int32, v2_90 = v2 + 1 → wl_X7_isReady_33 N P K n S v1 v2_90)) ∧ ((P 260 v2.toInt.toNat) = v1 → wp_X7_holds N P S v2 (fun r_82 S_82 => ((r_82 = 0 → (∀ v2_90 : Int32, v2_90 = v2 + 1 → wl_X7_isReady_33 N P K n S_82 v1 v2_90)) ∧ (¬ r_82 = 0 → K 0 S_82)))))))))))
def wp_X7_isReady (N : M2) (P : M2) (S : M2) (x1 : Int32) (K : Int32 → M2 → Prop) : Prop := (inb x1 6 ∧ ((0 < (S 205 x1.toInt.toNat) → K 0 S) ∧ (¬ 0 < (S 205 x1.toInt.toNat) → wp_X7_boatOf N P S x1 (fun r_11 => ((¬ r_11 = ((-1)) → K 0 S) ∧ (r_11 = ((-1)) → (inb x1 6 ∧ ((20 ≤ (S 203 x1.toInt.toNat) → wl_X7_isReady_33 N P K fK S x1 0) ∧ (¬ 20 ≤ (S 203 x1.toInt.toNat) → K 0 S)))))))))
set_option maxRecDepth 100000 in
set_option maxHeartbeats 4000000 in
theorem c_X7_isReady (l : Launch) (D : va_G) (Z : Nat → ClassId) (a q g : Nat → Nat) (rg sa aa : Nat) (N P : M2) (S : M2) (sz : Nat) (x1 : Int32) (K : Int32 → M2 → Prop) (hm : wp_X7_isReady N P S x1 K) : Met l yX7_isReady (wy yX7_isReady cX7_isReady 3 (some .boolean)) (rk 6 0 0) (pre vwCl D Z (SW Z a q g rg sa aa N P S) sz [.ref (a 200), .int x1]) (poI vwCl D Z (SW Z a q g rg sa aa N P) S sz K) 0 0 (va_A (SW Z a q g rg sa aa N P S) sz) := by
  refine rw_of (ty := .boolean) (wsF := (SW Z a q g rg sa aa N P)) (u0 := S) (by decide +kernel) (Nat.le_of_ble_eq_true rfl) rfl ?_
  intro p e s m args below meth c Q A hC hN hsz hT hK hret ls hl
  have hx := hC.1
  have hb := hC.2.1
  have hl : lv_has ls 3 [(0, .ref (a 200)), (1, .int x1)] := hl
  have hT : TS vwCl D (SW Z a q g rg sa aa N P S) A s.heap s.heap [] := hT
  have L33 : ∀ (n33 : Nat), ∀ (S : M2) (v1 : Int32) (v2 : Int32) (H : Heap) (locs : List Loc) (ls : Array Slot), wl_X7_isReady_33 N P K n33 S v1 v2 → TS vwCl D (SW Z a q g rg sa aa N P S) A s.heap H locs → lv_has ls 3 [(0, .ref (a 200)), (1, .int v1), (2, .int v2)] → W p l e (rk 6 0 0) s m args below meth c H locs 0 0 Q (F0 m 33 ls []) := by
    intro n33
    induction n33 with
    | zero =>
      intro S v1 v2 H locs ls hm hT hl
      exact False.elim hm
    | succ n33 ih33 =>
      intro S v1 v2 H locs ls hm hT hl
      refine lv_iload_n hx hb dX7_isReady_33 rfl (lv_at hl 2 rfl) ?_
      refine lv_aload_n hx hb dX7_isReady_34 rfl (lv_at hl 0 rfl) ?_
      refine gSW_st_14 hC hK hT.1 wq_1383 dX7_isReady_35 ?_
      refine gNSW_mod_11 hC hN hK hT.1 wn_1431 dX7_isReady_38 ?_
      refine gNSW_plan_17 hC hN hK hT.1 wn_1273 dX7_isReady_41 ?_
      refine lv_icmp_ge (tgt := 96) hx hb dX7_isReady_44 (by decide) (fun c_44 => ?_) (fun c_44 => ?_)
      · have hm := hm.1 c_44
        refine lv_iconst (v := 1) hx hb dX7_isReady_96 (by decide) ?_
        exact hret 97 _ _ _ _ _ hm hT rfl dX7_isReady_97
      · have hm := hm.2 c_44
        refine lv_aload_n hx hb dX7_isReady_47 rfl (lv_at hl 0 rfl) ?_
        refine gSW_st_14 hC hK hT.1 wq_1383 dX7_isReady_48 ?_
        refine gNSW_mod_11 hC hN hK hT.1 wn_1431 dX7_isReady_51 ?_
        refine gNSW_plan_19 hC hN hK hT.1 wn_1277 dX7_isReady_54 ?_
        refine lv_iload_n hx hb dX7_isReady_57 rfl (lv_at hl 2 rfl) ?_
        refine w_iald (q0 := 26) hC hK hT.1 rfl hm.1 dX7_isReady_58 ?_
        have hm := hm.2
        refine lv_bipush (v := 18) hx hb dX7_isReady_59 (by decide) ?_
        refine lv_icmp_ne (tgt := 90) hx hb dX7_isReady_61 (by decide) (fun c_61 => ?_) (fun c_61 => ?_)
        · have hm := hm.1 c_61
          obtain ⟨v2_90, ev2_90⟩ : ∃ y : Int32, y = v2 + 1 := ⟨_, rfl⟩
          have hm := hm v2_90 ev2_90
          refine lv_iinc (v := v2_90) (lv' := [(2, .int v2_90), (0, .ref (a 200)), (1, .int v1)]) hx hb dX7_isReady_90 hl (k := 2) rfl (by rw [ev2_90]; rfl) (by decide) rfl (fun ls hl => ?_)
          refine lv_goto (tgt := 33) hx hb dX7_isReady_93 (by decide) ?_
          exact ih33 _ _ _ _ _ _ hm hT (lv_sub hl [1, 2, 0] rfl)
        · have hm := hm.2 c_61
          refine lv_aload_n hx hb dX7_isReady_64 rfl (lv_at hl 0 rfl) ?_
          refine gSW_st_14 hC hK hT.1 wq_1383 dX7_isReady_65 ?_
          refine gNSW_mod_11 hC hN hK hT.1 wn_1431 dX7_isReady_68 ?_
          refine gNSW_plan_20 hC hN hK hT.1 wn_1280 dX7_isReady_71 ?_
          refine lv_iload_n hx hb dX7_isReady_74 rfl (lv_at hl 2 rfl) ?_
          refine w_iald (q0 := 27) hC hK hT.1 rfl hm.1 dX7_isReady_75 ?_
          have hm := hm.2
          refine lv_iload_n hx hb dX7_isReady_76 rfl (lv_at hl 1 rfl) ?_
          refine lv_icmp_ne (tgt := 90) hx hb dX7_isReady_77 (by decide) (fun c_77 => ?_) (fun c_77 => ?_)
          · have hm := hm.1 c_77
            obtain ⟨v2_90, ev2_90⟩ : ∃ y : Int32, y = v2 + 1 := ⟨_, rfl⟩
            have hm := hm v2_90 ev2_90
            refine lv_iinc (v := v2_90) (lv' := [(2, .int v2_90), (0, .ref (a 200)), (1, .int v1)]) hx hb dX7_isReady_90 hl (k := 2) rfl (by rw [ev2_90]; rfl) (by decide) rfl (fun ls hl => ?_)
            refine lv_goto (tgt := 33) hx hb dX7_isReady_93 (by decide) ?_
            exact ih33 _ _ _ _ _ _ hm hT (lv_sub hl [1, 2, 0] rfl)
          · have hm := hm.2 c_77
            refine lv_aload_n hx hb dX7_isReady_80 rfl (lv_at hl 0 rfl) ?_
            refine lv_iload_n hx hb dX7_isReady_81 rfl (lv_at hl 2 rfl) ?_
            refine k_X7_holds hC hN hK hT hm wq_1818 (by decide) hl.1 (Nat.le_of_ble_eq_true rfl) ⟨Nat.le_refl _, Nat.le_refl _⟩ dX7_isReady_82 (fun r_82 S_82 H locs hm hT => ?_)
            refine lv_if_eq (tgt := 90) hx hb dX7_isReady_85 (by decide) (fun c_85 => ?_) (fun c_85 => ?_)
            · have hm := hm.1 c_85
              obtain ⟨v2_90, ev2_90⟩ : ∃ y : Int32, y = v2 + 1 := ⟨_, rfl⟩
              have hm := hm v2_90 ev2_90
              refine lv_iinc (v := v2_90) (lv' := [(2, .int v2_90), (0, .ref (a 200)), (1, .int v1)]) hx hb dX7_isReady_90 hl (k := 2) rfl (by rw [ev2_90]; rfl) (by decide) rfl (fun ls hl => ?_)
              refine lv_goto (tgt := 33) hx hb dX7_isReady_93 (by decide) ?_
              exact ih33 _ _ _ _ _ _ hm hT (lv_sub hl [1, 2, 0] rfl)
            · have hm := hm.2 c_85
              refine lv_iconst (v := 0) hx hb dX7_isReady_88 (by decide) ?_
              exact hret 89 _ _ _ _ _ hm hT rfl dX7_isReady_89
  refine lv_aload_n hx hb dX7_isReady_0 rfl (lv_at hl 0 rfl) ?_
  refine gSW_st_5 hC hK hT.1 wq_1366 dX7_isReady_1 ?_
  refine lv_iload_n hx hb dX7_isReady_4 rfl (lv_at hl 1 rfl) ?_
  refine w_iald (q0 := 4) hC hK hT.1 rfl hm.1 dX7_isReady_5 ?_
  have hm := hm.2
  refine lv_if_gt (tgt := 29) hx hb dX7_isReady_6 (by decide) (fun c_6 => ?_) (fun c_6 => ?_)
  · have hm := hm.1 c_6
    refine lv_iconst (v := 0) hx hb dX7_isReady_29 (by decide) ?_
    exact hret 30 _ _ _ _ _ hm hT rfl dX7_isReady_30
  · have hm := hm.2 c_6
    refine lv_aload_n hx hb dX7_isReady_9 rfl (lv_at hl 0 rfl) ?_
    refine lv_iload_n hx hb dX7_isReady_10 rfl (lv_at hl 1 rfl) ?_
    refine k_X7_boatOf hC hN hK hT.1 hT.D' hm wq_1817 (by decide) hl.1 (Nat.le_of_ble_eq_true rfl) ⟨Nat.le_refl _, Nat.le_refl _⟩ dX7_isReady_11 (fun r_11 hm => ?_)
    refine lv_iconst (v := (-1)) hx hb dX7_isReady_14 (by decide) ?_
    refine lv_icmp_ne (tgt := 29) hx hb dX7_isReady_15 (by decide) (fun c_15 => ?_) (fun c_15 => ?_)
    · have hm := hm.1 c_15
      refine lv_iconst (v := 0) hx hb dX7_isReady_29 (by decide) ?_
      exact hret 30 _ _ _ _ _ hm hT rfl dX7_isReady_30
    · have hm := hm.2 c_15
      refine lv_aload_n hx hb dX7_isReady_18 rfl (lv_at hl 0 rfl) ?_
      refine gSW_st_3 hC hK hT.1 wq_1362 dX7_isReady_19 ?_
      refine lv_iload_n hx hb dX7_isReady_22 rfl (lv_at hl 1 rfl) ?_
      refine w_iald (q0 := 2) hC hK hT.1 rfl hm.1 dX7_isReady_23 ?_
      have hm := hm.2
      refine lv_bipush (v := 20) hx hb dX7_isReady_24 (by decide) ?_
      refine lv_icmp_ge (tgt := 31) hx hb dX7_isReady_26 (by decide) (fun c_26 => ?_) (fun c_26 => ?_)
      · have hm := hm.1 c_26
        refine lv_iconst (v := 0) hx hb dX7_isReady_31 (by decide) ?_
        refine lv_istore_n (lv' := [(2, .int 0), (0, .ref (a 200)), (1, .int x1)]) hx hb dX7_isReady_32 rfl hl (by decide) rfl (fun ls hl => ?_)
        exact L33 _ _ _ _ _ _ _ hm hT (lv_sub hl [1, 2, 0] rfl)
      · have hm := hm.2 c_26
        refine lv_iconst (v := 0) hx hb dX7_isReady_29 (by decide) ?_
        exact hret 30 _ _ _ _ _ hm hT rfl dX7_isReady_30
section KX7_isReady
variable {p : Program} {l : Launch} {e : Env} {s : State} {m : MethodId} {args : Array Value} {below : List Frame} {meth : Method} {c : Code} {H H0 : Heap} {locs : List Loc} {cells slots : Nat} {Q : State → Prop} {R : Room} {rn mcR msR : Nat}
variable {pc : Nat} {ls : Array Slot} {rest : List Value} {A : Nat → Prop} {D : va_G}
variable {cc : ByteArray} {nL index : Nat} {own host : String}
theorem k_X7_isReady {Z : Nat → ClassId} {a q g : Nat → Nat} {rg sa aa : Nat} {N P : M2} {S : M2} {x1 : Int32} {K : Int32 → M2 → Prop} (hC : CallFix p m c cc nL s args lw_g own) (hN : NW s) (hK : va_K D vwCl (tysG Z) s) (hT : TS vwCl D (SW Z a q g rg sa aa N P S) A H0 H locs) (hm : wp_X7_isReady N P S x1 K) (hl : Cond.methodLink own index yX7_isReady ∈ lw_g) (hlt : 6 < rn) (hsize : ls.size = nL) (hW : (rest.map fun v => v.category).sum ≤ 8) (hf : cells + 0 ≤ mcR ∧ slots + 0 ≤ msR) (hdg : decode cc pc = .ok (.invokevirtual index, 3)) (kk : ∀ (r : Int32) (S1 : M2) (H1 : Heap) (locs1 : List Loc), K r S1 → TS vwCl D (SW Z a q g rg sa aa N P S1) A H0 H1 locs1 → W p l e (rk rn mcR msR) s m args below meth c H1 locs1 cells slots Q (F0 m (pc + 3) ls (.int r :: rest))) : W p l e (rk rn mcR msR) s m args below meth c H locs cells slots Q (F0 m pc ls (.int x1 :: .ref (a 200) :: rest)) :=
  rw_go (wsF := (SW Z a q g rg sa aa N P)) (u0 := S) (wr := []) (isC := cutSW) (isR := []) (pm := cutSW) (ws' := (SW Z a q g rg sa aa N P)) (runV (As := [.int x1]) hC hN (c_X7_isReady l D Z a q g rg sa aa N P S H.size x1 K hm) mi_X7_isReady hl wq_1815 wq_112 hlt hT.1 hT.D' hK (q0 := 0) rfl rfl rfl hsize rfl hW hdg hf) (cutOkSW Z a q g rg sa aa N P S) hT (fun r u H1 locs1 hk hT1 => kk r u H1 locs1 hk hT1)
end KX7_isReady
def wj_X7_isOpen_61 (N : M2) (P : M2) (S : M2) (C2 : Int32 → Int32 → Prop) (K : Int32 → Prop) (v1 : Int32) (v2 : Int32) (q0 : Int32) : Prop := (inb v2 8 ∧ ((¬ (S 207 v2.toInt.toNat) = v1 → K 0) ∧ ((S 207 v2.toInt.toNat) = v1 → ((4 ≤ q0 → (∀ v2_79 : Int32, v2_79 = v2 + 1 → C2 v1 v2_79)) ∧ (¬ 4 ≤ q0 → K 0)))))
def wl_X7_isOpen_2 (N : M2) (P : M2) (S : M2) (K : Int32 → Prop) : Nat → Int32 → Int32 → Prop
  | 0, _, _ => False
  | n + 1, v1, v2 => (((P 252 0) ≤ v2 → (((P 241 0) ≤ 0 → K 0) ∧ (¬ (P 241 0) ≤ 0 → K 1))) ∧ (¬ (P 252 0) ≤ v2 → (inb v2 8 ∧ (((S 206 v2.toInt.toNat) = 1 → ((¬ v1 = 0 → (inb v2 8 ∧ wj_X7_isOpen_61 N P S (wl_X7_isOpen_2 N P S K n) K v1 v2 (((P 241 0) - 1) - (S 209 v2.toInt.toNat)))) ∧ (v1 = 0 → (inb v2 8 ∧ wj_X7_isOpen_61 N P S (wl_X7_isOpen_2 N P S K n) K v1 v2 (S 209 v2.toInt.toNat))))) ∧ (¬ (S 206 v2.toInt.toNat) = 1 → (∀ v2_79 : Int32, v2_79 = v2 + 1 → wl_X7_isOpen_2 N P S K n v1 v2_79))))))
def wp_X7_isOpen (N : M2) (P : M2) (S : M2) (x1 : Int32) (K : Int32 → Prop) : Prop := wl_X7_isOpen_2 N P S K fK x1 0
set_option maxRecDepth 100000 in
set_option maxHeartbeats 4000000 in
theorem c_X7_isOpen (l : Launch) (D : va_G) (Z : Nat → ClassId) (a q g : Nat → Nat) (rg sa aa : Nat) (N P : M2) (S : M2) (sz : Nat) (x1 : Int32) (K : Int32 → Prop) (hm : wp_X7_isOpen N P S x1 K) : Met l yX7_isOpen (wy yX7_isOpen cX7_isOpen 4 (some .boolean)) (rk 1 0 0) (pre vwCl D Z (SW Z a q g rg sa aa N P S) sz [.ref (a 200), .int x1]) (vp_Si K) 0 0 (fun _ => False) := by
  refine ro_of (ty := .boolean) (by decide +kernel) (Nat.le_of_ble_eq_true rfl) rfl ?_
  intro p e s m args below meth c Q hC hN hsz hP hD hK hret ls hl
  have hx := hC.1
  have hb := hC.2.1
  have hl : lv_has ls 4 [(0, .ref (a 200)), (1, .int x1)] := hl
  have L2 : ∀ (n2 : Nat), ∀ (v1 : Int32) (v2 : Int32) (ls : Array Slot), wl_X7_isOpen_2 N P S K n2 v1 v2 → lv_has ls 4 [(0, .ref (a 200)), (1, .int v1), (2, .int v2)] → W p l e (rk 1 0 0) s m args below meth c s.heap [] 0 0 Q (F0 m 2 ls []) := by
    intro n2
    induction n2 with
    | zero =>
      intro v1 v2 ls hm hl
      exact False.elim hm
    | succ n2 ih2 =>
      have L61 : ∀ (v1 : Int32) (v2 : Int32) (q0 : Int32) (ls : Array Slot), wj_X7_isOpen_61 N P S (wl_X7_isOpen_2 N P S K n2) K v1 v2 q0 → lv_has ls 4 [(0, .ref (a 200)), (1, .int v1), (2, .int v2)] → W p l e (rk 1 0 0) s m args below meth c s.heap [] 0 0 Q (F0 m 61 ls [.int q0]) := by
        intro v1 v2 q0 ls hm hl
        refine lv_istore_n (lv' := [(3, .int q0), (0, .ref (a 200)), (1, .int v1), (2, .int v2)]) hx hb dX7_isOpen_61 rfl hl (by decide) rfl (fun ls hl => ?_)
        refine lv_aload_n hx hb dX7_isOpen_62 rfl (lv_at hl 1 rfl) ?_
        refine gSW_st_7 hC hK hP wq_1370 dX7_isOpen_63 ?_
        refine lv_iload_n hx hb dX7_isOpen_66 rfl (lv_at hl 3 rfl) ?_
        refine w_iald (q0 := 6) hC hK hP rfl hm.1 dX7_isOpen_67 ?_
        have hm := hm.2
        refine lv_iload_n hx hb dX7_isOpen_68 rfl (lv_at hl 2 rfl) ?_
        refine lv_icmp_ne (tgt := 77) hx hb dX7_isOpen_69 (by decide) (fun c_69 => ?_) (fun c_69 => ?_)
        · have hm := hm.1 c_69
          refine lv_iconst (v := 0) hx hb dX7_isOpen_77 (by decide) ?_
          exact hret 78 _ _ hm rfl dX7_isOpen_78
        · have hm := hm.2 c_69
          refine lv_iload_n hx hb dX7_isOpen_72 rfl (lv_at hl 0 rfl) ?_
          refine lv_iconst (v := 4) hx hb dX7_isOpen_73 (by decide) ?_
          refine lv_icmp_ge (tgt := 79) hx hb dX7_isOpen_74 (by decide) (fun c_74 => ?_) (fun c_74 => ?_)
          · have hm := hm.1 c_74
            obtain ⟨v2_79, ev2_79⟩ : ∃ y : Int32, y = v2 + 1 := ⟨_, rfl⟩
            have hm := hm v2_79 ev2_79
            refine lv_iinc (v := v2_79) (lv' := [(2, .int v2_79), (3, .int q0), (0, .ref (a 200)), (1, .int v1)]) hx hb dX7_isOpen_79 hl (k := 3) rfl (by rw [ev2_79]; rfl) (by decide) rfl (fun ls hl => ?_)
            refine lv_goto (tgt := 2) hx hb dX7_isOpen_82 (by decide) ?_
            exact ih2 _ _ _ hm (lv_sub hl [2, 3, 0] rfl)
          · have hm := hm.2 c_74
            refine lv_iconst (v := 0) hx hb dX7_isOpen_77 (by decide) ?_
            exact hret 78 _ _ hm rfl dX7_isOpen_78
      intro v1 v2 ls hm hl
      refine lv_iload_n hx hb dX7_isOpen_2 rfl (lv_at hl 2 rfl) ?_
      refine lv_aload_n hx hb dX7_isOpen_3 rfl (lv_at hl 0 rfl) ?_
      refine gSW_st_14 hC hK hP wq_1383 dX7_isOpen_4 ?_
      refine gNSW_mod_11 hC hN hK hP wn_1431 dX7_isOpen_7 ?_
      refine gNSW_plan_12 hC hN hK hP wn_1259 dX7_isOpen_10 ?_
      refine lv_icmp_ge (tgt := 85) hx hb dX7_isOpen_13 (by decide) (fun c_13 => ?_) (fun c_13 => ?_)
      · have hm := hm.1 c_13
        refine lv_aload_n hx hb dX7_isOpen_85 rfl (lv_at hl 0 rfl) ?_
        refine gSW_st_14 hC hK hP wq_1383 dX7_isOpen_86 ?_
        refine gNSW_mod_11 hC hN hK hP wn_1431 dX7_isOpen_89 ?_
        refine gNSW_plan_1 hC hN hK hP wn_1231 dX7_isOpen_92 ?_
        refine lv_if_le (tgt := 102) hx hb dX7_isOpen_95 (by decide) (fun c_95 => ?_) (fun c_95 => ?_)
        · have hm := hm.1 c_95
          refine lv_iconst (v := 0) hx hb dX7_isOpen_102 (by decide) ?_
          exact hret 103 _ _ hm rfl dX7_isOpen_103
        · have hm := hm.2 c_95
          refine lv_iconst (v := 1) hx hb dX7_isOpen_98 (by decide) ?_
          refine lv_goto (tgt := 103) hx hb dX7_isOpen_99 (by decide) ?_
          exact hret 103 _ _ hm rfl dX7_isOpen_103
      · have hm := hm.2 c_13
        refine lv_aload_n hx hb dX7_isOpen_16 rfl (lv_at hl 0 rfl) ?_
        refine gSW_st_6 hC hK hP wq_1368 dX7_isOpen_17 ?_
        refine lv_iload_n hx hb dX7_isOpen_20 rfl (lv_at hl 2 rfl) ?_
        refine w_iald (q0 := 5) hC hK hP rfl hm.1 dX7_isOpen_21 ?_
        have hm := hm.2
        refine lv_iconst (v := 1) hx hb dX7_isOpen_22 (by decide) ?_
        refine lv_icmp_eq (tgt := 29) hx hb dX7_isOpen_23 (by decide) (fun c_23 => ?_) (fun c_23 => ?_)
        · have hm := hm.1 c_23
          refine lv_iload_n hx hb dX7_isOpen_29 rfl (lv_at hl 1 rfl) ?_
          refine lv_if_ne (tgt := 42) hx hb dX7_isOpen_30 (by decide) (fun c_30 => ?_) (fun c_30 => ?_)
          · have hm := hm.1 c_30
            refine lv_aload_n hx hb dX7_isOpen_42 rfl (lv_at hl 0 rfl) ?_
            refine gSW_st_14 hC hK hP wq_1383 dX7_isOpen_43 ?_
            refine gNSW_mod_11 hC hN hK hP wn_1431 dX7_isOpen_46 ?_
            refine gNSW_plan_1 hC hN hK hP wn_1231 dX7_isOpen_49 ?_
            refine lv_iconst (v := 1) hx hb dX7_isOpen_52 (by decide) ?_
            refine lv_isub hx hb dX7_isOpen_53 ?_
            refine lv_aload_n hx hb dX7_isOpen_54 rfl (lv_at hl 0 rfl) ?_
            refine gSW_st_9 hC hK hP wq_1374 dX7_isOpen_55 ?_
            refine lv_iload_n hx hb dX7_isOpen_58 rfl (lv_at hl 2 rfl) ?_
            refine w_iald (q0 := 8) hC hK hP rfl hm.1 dX7_isOpen_59 ?_
            have hm := hm.2
            refine lv_isub hx hb dX7_isOpen_60 ?_
            exact L61 _ _ _ _ hm (lv_sub hl [0, 1, 2] rfl)
          · have hm := hm.2 c_30
            refine lv_aload_n hx hb dX7_isOpen_33 rfl (lv_at hl 0 rfl) ?_
            refine gSW_st_9 hC hK hP wq_1374 dX7_isOpen_34 ?_
            refine lv_iload_n hx hb dX7_isOpen_37 rfl (lv_at hl 2 rfl) ?_
            refine w_iald (q0 := 8) hC hK hP rfl hm.1 dX7_isOpen_38 ?_
            have hm := hm.2
            refine lv_goto (tgt := 61) hx hb dX7_isOpen_39 (by decide) ?_
            exact L61 _ _ _ _ hm (lv_sub hl [0, 1, 2] rfl)
        · have hm := hm.2 c_23
          refine lv_goto (tgt := 79) hx hb dX7_isOpen_26 (by decide) ?_
          obtain ⟨v2_79, ev2_79⟩ : ∃ y : Int32, y = v2 + 1 := ⟨_, rfl⟩
          have hm := hm v2_79 ev2_79
          refine lv_iinc (v := v2_79) (lv' := [(2, .int v2_79), (0, .ref (a 200)), (1, .int v1)]) hx hb dX7_isOpen_79 hl (k := 2) rfl (by rw [ev2_79]; rfl) (by decide) rfl (fun ls hl => ?_)
          refine lv_goto (tgt := 2) hx hb dX7_isOpen_82 (by decide) ?_
          exact ih2 _ _ _ hm (lv_sub hl [1, 2, 0] rfl)
  refine lv_iconst (v := 0) hx hb dX7_isOpen_0 (by decide) ?_
  refine lv_istore_n (lv' := [(2, .int 0), (0, .ref (a 200)), (1, .int x1)]) hx hb dX7_isOpen_1 rfl hl (by decide) rfl (fun ls hl => ?_)
  exact L2 _ _ _ _ hm (lv_sub hl [1, 2, 0] rfl)
section KX7_isOpen
variable {p : Program} {l : Launch} {e : Env} {s : State} {m : MethodId} {args : Array Value} {below : List Frame} {meth : Method} {c : Code} {H H0 : Heap} {locs : List Loc} {cells slots : Nat} {Q : State → Prop} {R : Room} {rn mcR msR : Nat}
variable {pc : Nat} {ls : Array Slot} {rest : List Value} {A : Nat → Prop} {D : va_G}
variable {cc : ByteArray} {nL index : Nat} {own host : String}
theorem k_X7_isOpen {Z : Nat → ClassId} {a q g : Nat → Nat} {rg sa aa : Nat} {N P : M2} {S : M2} {x1 : Int32} {K : Int32 → Prop} (hC : CallFix p m c cc nL s args lw_g own) (hN : NW s) (hK : va_K D vwCl (tysG Z) s) (hP : va_P D vwCl (SW Z a q g rg sa aa N P S) H) (hD : va_D (fun _ => True) (SW Z a q g rg sa aa N P S)) (hm : wp_X7_isOpen N P S x1 K) (hl : Cond.methodLink own index yX7_isOpen ∈ lw_g) (hlt : 1 < rn) (hsize : ls.size = nL) (hW : (rest.map fun v => v.category).sum ≤ 8) (hf : cells + 0 ≤ mcR ∧ slots + 0 ≤ msR) (hdg : decode cc pc = .ok (.invokevirtual index, 3)) (kk : ∀ r : Int32, K r → W p l e (rk rn mcR msR) s m args below meth c H locs cells slots Q (F0 m (pc + 3) ls (.int r :: rest))) : W p l e (rk rn mcR msR) s m args below meth c H locs cells slots Q (F0 m pc ls (.int x1 :: .ref (a 200) :: rest)) :=
  ro_go (runV (As := [.int x1]) hC hN (c_X7_isOpen l D Z a q g rg sa aa N P S H.size x1 K hm) mi_X7_isOpen hl wq_1811 wq_111 hlt hP hD hK (q0 := 0) rfl rfl rfl hsize rfl hW hdg hf) kk
end KX7_isOpen
def wp_X7_canEnter (N : M2) (P : M2) (S : M2) (x1 : Int32) (K : Int32 → M2 → Prop) : Prop := (inb x1 8 ∧ ((¬ (S 206 x1.toInt.toNat) = 0 → K 0 S) ∧ ((S 206 x1.toInt.toNat) = 0 → (inb x1 8 ∧ (((S 200 0) < (S 208 x1.toInt.toNat) → K 0 S) ∧ (¬ (S 200 0) < (S 208 x1.toInt.toNat) → (inb x1 8 ∧ ((¬ (S 207 x1.toInt.toNat) = (S 201 0) → K 0 S) ∧ ((S 207 x1.toInt.toNat) = (S 201 0) → (inb x1 8 ∧ wp_X7_isOpen N P S (S 207 x1.toInt.toNat) (fun r_42 => ((r_42 = 0 → K 0 S) ∧ (¬ r_42 = 0 → (inb x1 8 ∧ (inb x1 8 ∧ inb 0 2 ∧ wp_X7_isReady N P S (P (310 + x1.toInt.toNat) (0 : Int32).toInt.toNat) (fun r_63 S_63 => ((r_63 = 0 → K 0 S_63) ∧ (¬ r_63 = 0 → (inb x1 8 ∧ (inb x1 8 ∧ inb 1 2 ∧ wp_X7_isReady N P S_63 (P (310 + x1.toInt.toNat) (1 : Int32).toInt.toNat) (fun r_84 S_84 => ((r_84 = 0 → K 0 S_84) ∧ (¬ r_84 = 0 → K 1 S_84)))))))))))))))))))))))
set_option maxRecDepth 100000 in
set_option maxHeartbeats 4000000 in
theorem c_X7_canEnter (l : Launch) (D : va_G) (Z : Nat → ClassId) (a q g : Nat → Nat) (rg sa aa : Nat) (N P : M2) (S : M2) (sz : Nat) (x1 : Int32) (K : Int32 → M2 → Prop) (hm : wp_X7_canEnter N P S x1 K) : Met l yX7_canEnter (wy yX7_canEnter cX7_canEnter 2 (some .boolean)) (rk 7 0 0) (pre vwCl D Z (SW Z a q g rg sa aa N P S) sz [.ref (a 200), .int x1]) (poI vwCl D Z (SW Z a q g rg sa aa N P) S sz K) 0 0 (va_A (SW Z a q g rg sa aa N P S) sz) := by
  refine rw_of (ty := .boolean) (wsF := (SW Z a q g rg sa aa N P)) (u0 := S) (by decide +kernel) (Nat.le_of_ble_eq_true rfl) rfl ?_
  intro p e s m args below meth c Q A hC hN hsz hT hK hret ls hl
  have hx := hC.1
  have hb := hC.2.1
  have hl : lv_has ls 2 [(0, .ref (a 200)), (1, .int x1)] := hl
  have hT : TS vwCl D (SW Z a q g rg sa aa N P S) A s.heap s.heap [] := hT
  refine lv_aload_n hx hb dX7_canEnter_0 rfl (lv_at hl 0 rfl) ?_
  refine gSW_st_6 hC hK hT.1 wq_1368 dX7_canEnter_1 ?_
  refine lv_iload_n hx hb dX7_canEnter_4 rfl (lv_at hl 1 rfl) ?_
  refine w_iald (q0 := 5) hC hK hT.1 rfl hm.1 dX7_canEnter_5 ?_
  have hm := hm.2
  refine lv_if_ne (tgt := 94) hx hb dX7_canEnter_6 (by decide) (fun c_6 => ?_) (fun c_6 => ?_)
  · have hm := hm.1 c_6
    refine lv_iconst (v := 0) hx hb dX7_canEnter_94 (by decide) ?_
    exact hret 95 _ _ _ _ _ hm hT rfl dX7_canEnter_95
  · have hm := hm.2 c_6
    refine lv_aload_n hx hb dX7_canEnter_9 rfl (lv_at hl 0 rfl) ?_
    refine gSW_st_8 hC hK hT.1 wq_1372 dX7_canEnter_10 ?_
    refine lv_iload_n hx hb dX7_canEnter_13 rfl (lv_at hl 1 rfl) ?_
    refine w_iald (q0 := 7) hC hK hT.1 rfl hm.1 dX7_canEnter_14 ?_
    have hm := hm.2
    refine lv_aload_n hx hb dX7_canEnter_15 rfl (lv_at hl 0 rfl) ?_
    refine gSW_st_0 hC hK hT.1 wq_1356 dX7_canEnter_16 ?_
    refine lv_icmp_gt (tgt := 94) hx hb dX7_canEnter_19 (by decide) (fun c_19 => ?_) (fun c_19 => ?_)
    · have hm := hm.1 c_19
      refine lv_iconst (v := 0) hx hb dX7_canEnter_94 (by decide) ?_
      exact hret 95 _ _ _ _ _ hm hT rfl dX7_canEnter_95
    · have hm := hm.2 c_19
      refine lv_aload_n hx hb dX7_canEnter_22 rfl (lv_at hl 0 rfl) ?_
      refine gSW_st_7 hC hK hT.1 wq_1370 dX7_canEnter_23 ?_
      refine lv_iload_n hx hb dX7_canEnter_26 rfl (lv_at hl 1 rfl) ?_
      refine w_iald (q0 := 6) hC hK hT.1 rfl hm.1 dX7_canEnter_27 ?_
      have hm := hm.2
      refine lv_aload_n hx hb dX7_canEnter_28 rfl (lv_at hl 0 rfl) ?_
      refine gSW_st_1 hC hK hT.1 wq_1358 dX7_canEnter_29 ?_
      refine lv_icmp_ne (tgt := 94) hx hb dX7_canEnter_32 (by decide) (fun c_32 => ?_) (fun c_32 => ?_)
      · have hm := hm.1 c_32
        refine lv_iconst (v := 0) hx hb dX7_canEnter_94 (by decide) ?_
        exact hret 95 _ _ _ _ _ hm hT rfl dX7_canEnter_95
      · have hm := hm.2 c_32
        refine lv_aload_n hx hb dX7_canEnter_35 rfl (lv_at hl 0 rfl) ?_
        refine lv_aload_n hx hb dX7_canEnter_36 rfl (lv_at hl 0 rfl) ?_
        refine gSW_st_7 hC hK hT.1 wq_1370 dX7_canEnter_37 ?_
        refine lv_iload_n hx hb dX7_canEnter_40 rfl (lv_at hl 1 rfl) ?_
        refine w_iald (q0 := 6) hC hK hT.1 rfl hm.1 dX7_canEnter_41 ?_
        have hm := hm.2
        refine k_X7_isOpen hC hN hK hT.1 hT.D' hm wq_1809 (by decide) hl.1 (Nat.le_of_ble_eq_true rfl) ⟨Nat.le_refl _, Nat.le_refl _⟩ dX7_canEnter_42 (fun r_42 hm => ?_)
        refine lv_if_eq (tgt := 94) hx hb dX7_canEnter_45 (by decide) (fun c_45 => ?_) (fun c_45 => ?_)
        · have hm := hm.1 c_45
          refine lv_iconst (v := 0) hx hb dX7_canEnter_94 (by decide) ?_
          exact hret 95 _ _ _ _ _ hm hT rfl dX7_canEnter_95
        · have hm := hm.2 c_45
          refine lv_aload_n hx hb dX7_canEnter_48 rfl (lv_at hl 0 rfl) ?_
          refine lv_aload_n hx hb dX7_canEnter_49 rfl (lv_at hl 0 rfl) ?_
          refine gSW_st_14 hC hK hT.1 wq_1383 dX7_canEnter_50 ?_
          refine gNSW_mod_11 hC hN hK hT.1 wn_1431 dX7_canEnter_53 ?_
          refine gNSW_plan_16 hC hN hK hT.1 wn_1271 dX7_canEnter_56 ?_
          refine lv_iload_n hx hb dX7_canEnter_59 rfl (lv_at hl 1 rfl) ?_
          refine w_aaldR (q0 := 25) hC hK hT.1 rfl hm.1 dX7_canEnter_60 ?_
          have hm := hm.2
          refine lv_iconst (v := 0) hx hb dX7_canEnter_61 (by decide) ?_
          refine wrl_SW hC hK hT.1 hm.1 hm.2.1 dX7_canEnter_62 ?_
          have hm := hm.2.2
          refine k_X7_isReady hC hN hK hT hm wq_1813 (by decide) hl.1 (Nat.le_of_ble_eq_true rfl) ⟨Nat.le_refl _, Nat.le_refl _⟩ dX7_canEnter_63 (fun r_63 S_63 H locs hm hT => ?_)
          refine lv_if_eq (tgt := 94) hx hb dX7_canEnter_66 (by decide) (fun c_66 => ?_) (fun c_66 => ?_)
          · have hm := hm.1 c_66
            refine lv_iconst (v := 0) hx hb dX7_canEnter_94 (by decide) ?_
            exact hret 95 _ _ _ _ _ hm hT rfl dX7_canEnter_95
          · have hm := hm.2 c_66
            refine lv_aload_n hx hb dX7_canEnter_69 rfl (lv_at hl 0 rfl) ?_
            refine lv_aload_n hx hb dX7_canEnter_70 rfl (lv_at hl 0 rfl) ?_
            refine gSW_st_14 hC hK hT.1 wq_1383 dX7_canEnter_71 ?_
            refine gNSW_mod_11 hC hN hK hT.1 wn_1431 dX7_canEnter_74 ?_
            refine gNSW_plan_16 hC hN hK hT.1 wn_1271 dX7_canEnter_77 ?_
            refine lv_iload_n hx hb dX7_canEnter_80 rfl (lv_at hl 1 rfl) ?_
            refine w_aaldR (q0 := 25) hC hK hT.1 rfl hm.1 dX7_canEnter_81 ?_
            have hm := hm.2
            refine lv_iconst (v := 1) hx hb dX7_canEnter_82 (by decide) ?_
            refine wrl_SW hC hK hT.1 hm.1 hm.2.1 dX7_canEnter_83 ?_
            have hm := hm.2.2
            refine k_X7_isReady hC hN hK hT hm wq_1813 (by decide) hl.1 (Nat.le_of_ble_eq_true rfl) ⟨Nat.le_refl _, Nat.le_refl _⟩ dX7_canEnter_84 (fun r_84 S_84 H locs hm hT => ?_)
            refine lv_if_eq (tgt := 94) hx hb dX7_canEnter_87 (by decide) (fun c_87 => ?_) (fun c_87 => ?_)
            · have hm := hm.1 c_87
              refine lv_iconst (v := 0) hx hb dX7_canEnter_94 (by decide) ?_
              exact hret 95 _ _ _ _ _ hm hT rfl dX7_canEnter_95
            · have hm := hm.2 c_87
              refine lv_iconst (v := 1) hx hb dX7_canEnter_90 (by decide) ?_
              refine lv_goto (tgt := 95) hx hb dX7_canEnter_91 (by decide) ?_
              exact hret 95 _ _ _ _ _ hm hT rfl dX7_canEnter_95
section KX7_canEnter
variable {p : Program} {l : Launch} {e : Env} {s : State} {m : MethodId} {args : Array Value} {below : List Frame} {meth : Method} {c : Code} {H H0 : Heap} {locs : List Loc} {cells slots : Nat} {Q : State → Prop} {R : Room} {rn mcR msR : Nat}
variable {pc : Nat} {ls : Array Slot} {rest : List Value} {A : Nat → Prop} {D : va_G}
variable {cc : ByteArray} {nL index : Nat} {own host : String}
theorem k_X7_canEnter {Z : Nat → ClassId} {a q g : Nat → Nat} {rg sa aa : Nat} {N P : M2} {S : M2} {x1 : Int32} {K : Int32 → M2 → Prop} (hC : CallFix p m c cc nL s args lw_g own) (hN : NW s) (hK : va_K D vwCl (tysG Z) s) (hT : TS vwCl D (SW Z a q g rg sa aa N P S) A H0 H locs) (hm : wp_X7_canEnter N P S x1 K) (hl : Cond.methodLink own index yX7_canEnter ∈ lw_g) (hlt : 7 < rn) (hsize : ls.size = nL) (hW : (rest.map fun v => v.category).sum ≤ 8) (hf : cells + 0 ≤ mcR ∧ slots + 0 ≤ msR) (hdg : decode cc pc = .ok (.invokevirtual index, 3)) (kk : ∀ (r : Int32) (S1 : M2) (H1 : Heap) (locs1 : List Loc), K r S1 → TS vwCl D (SW Z a q g rg sa aa N P S1) A H0 H1 locs1 → W p l e (rk rn mcR msR) s m args below meth c H1 locs1 cells slots Q (F0 m (pc + 3) ls (.int r :: rest))) : W p l e (rk rn mcR msR) s m args below meth c H locs cells slots Q (F0 m pc ls (.int x1 :: .ref (a 200) :: rest)) :=
  rw_go (wsF := (SW Z a q g rg sa aa N P)) (u0 := S) (wr := []) (isC := cutSW) (isR := []) (pm := cutSW) (ws' := (SW Z a q g rg sa aa N P)) (runV (As := [.int x1]) hC hN (c_X7_canEnter l D Z a q g rg sa aa N P S H.size x1 K hm) mi_X7_canEnter hl wq_1806 wq_1807 hlt hT.1 hT.D' hK (q0 := 0) rfl rfl rfl hsize rfl hW hdg hf) (cutOkSW Z a q g rg sa aa N P S) hT (fun r u H1 locs1 hk hT1 => kk r u H1 locs1 hk hT1)
end KX7_canEnter
def wj_X7_comeTo_59 (N : M2) (P : M2) (C27 : M2 → Int32 → Int32 → Int32 → Int32 → Prop) (K : M2 → Prop) (S : M2) (v2 : Int32) (v3 : Int32) (v4 : Int32) (v5 : Int32) (v6 : Int32) : Prop := (inb v6 6 ∧ ((¬ (S 204 v6.toInt.toNat) = ((-1)) → (∀ v5_120 : Int32, v5_120 = v5 + 1 → C27 S v2 v3 v4 v5_120)) ∧ ((S 204 v6.toInt.toNat) = ((-1)) → (inb v2 60 ∧ (inb (P 245 v2.toInt.toNat) 5 ∧ (inb v6 6 ∧ (((P 243 (P 245 v2.toInt.toNat).toInt.toNat) ≤ (12 - (P 250 v6.toInt.toNat)) → (∀ v5_120 : Int32, v5_120 = v5 + 1 → C27 S v2 v3 v4 v5_120)) ∧ (¬ (P 243 (P 245 v2.toInt.toNat).toInt.toNat) ≤ (12 - (P 250 v6.toInt.toNat)) → (inb v6 6 ∧ ∀ S_119 : M2, S_119 = up2 S 204 (upd (S 204) v6.toInt.toNat v2) → (∀ v5_120 : Int32, v5_120 = v5 + 1 → C27 S_119 v2 v3 v4 v5_120))))))))))
def wl_X7_comeTo_27 (N : M2) (P : M2) (K : M2 → Prop) : Nat → M2 → Int32 → Int32 → Int32 → Int32 → Prop
  | 0, _, _, _, _, _ => False
  | n + 1, S, v2, v3, v4, v5 => ((v4 ≤ v5 → K S) ∧ (¬ v4 ≤ v5 → (inb v3 8 ∧ inb v5 2 ∧ (∀ v6_38, v6_38 = P (310 + v3.toInt.toNat) v5.toInt.toNat → (inb v6_38 6 ∧ ((¬ (S 204 v6_38.toInt.toNat) = v2 → wj_X7_comeTo_59 N P (wl_X7_comeTo_27 N P K n) K S v2 v3 v4 v5 v6_38) ∧ ((S 204 v6_38.toInt.toNat) = v2 → (inb v6_38 6 ∧ ∀ S_58 : M2, S_58 = up2 S 204 (upd (S 204) v6_38.toInt.toNat ((-1))) → wj_X7_comeTo_59 N P (wl_X7_comeTo_27 N P K n) K S_58 v2 v3 v4 v5 v6_38))))))))
def wp_X7_comeTo (N : M2) (P : M2) (S : M2) (x1 : Int32) (x2 : Int32) (K : M2 → Prop) : Prop := (inb x1 8 ∧ ∀ S_6 : M2, S_6 = up2 S 209 (upd (S 209) x1.toInt.toNat x2) → (inb x1 8 ∧ (inb x1 8 ∧ (∀ v4_22, v4_22 = Int32.ofNat 2 → wl_X7_comeTo_27 N P K fK S_6 x2 x1 v4_22 0))))
set_option maxRecDepth 100000 in
set_option maxHeartbeats 4000000 in
theorem c_X7_comeTo (l : Launch) (D : va_G) (Z : Nat → ClassId) (a q g : Nat → Nat) (rg sa aa : Nat) (N P : M2) (S : M2) (sz : Nat) (x1 : Int32) (x2 : Int32) (K : M2 → Prop) (hm : wp_X7_comeTo N P S x1 x2 K) : Met l yX7_comeTo (wy yX7_comeTo cX7_comeTo 7 none) (rk 1 0 0) (pre vwCl D Z (SW Z a q g rg sa aa N P S) sz [.ref (a 200), .int x1, .int x2]) (poV vwCl D Z (SW Z a q g rg sa aa N P) S sz K) 0 0 (va_A (SW Z a q g rg sa aa N P S) sz) := by
  refine rwv_of (wsF := (SW Z a q g rg sa aa N P)) (u0 := S) (by decide +kernel) (Nat.le_of_ble_eq_true rfl) rfl ?_
  intro p e s m args below meth c Q A hC hN hsz hnm hT hK hret ls hl
  have hx := hC.1
  have hb := hC.2.1
  have hl : lv_has ls 7 [(0, .ref (a 200)), (1, .int x1), (2, .int x2)] := hl
  have hT : TS vwCl D (SW Z a q g rg sa aa N P S) A s.heap s.heap [] := hT
  have L27 : ∀ (n27 : Nat), ∀ (S : M2) (v2 : Int32) (v3 : Int32) (v4 : Int32) (v5 : Int32) (H : Heap) (locs : List Loc) (ls : Array Slot), wl_X7_comeTo_27 N P K n27 S v2 v3 v4 v5 → TS vwCl D (SW Z a q g rg sa aa N P S) A s.heap H locs → lv_has ls 7 [(0, .ref (a 200)), (2, .int v2), (3, .ref (q (310 + v3.toInt.toNat))), (4, .int v4), (5, .int v5)] → W p l e (rk 1 0 0) s m args below meth c H locs 0 0 Q (F0 m 27 ls []) := by
    intro n27
    induction n27 with
    | zero =>
      intro S v2 v3 v4 v5 H locs ls hm hT hl
      exact False.elim hm
    | succ n27 ih27 =>
      have L59 : ∀ (S : M2) (v2 : Int32) (v3 : Int32) (v4 : Int32) (v5 : Int32) (v6 : Int32) (H : Heap) (locs : List Loc) (ls : Array Slot), wj_X7_comeTo_59 N P (wl_X7_comeTo_27 N P K n27) K S v2 v3 v4 v5 v6 → TS vwCl D (SW Z a q g rg sa aa N P S) A s.heap H locs → lv_has ls 7 [(0, .ref (a 200)), (2, .int v2), (3, .ref (q (310 + v3.toInt.toNat))), (4, .int v4), (5, .int v5), (6, .int v6)] → W p l e (rk 1 0 0) s m args below meth c H locs 0 0 Q (F0 m 59 ls []) := by
        intro S v2 v3 v4 v5 v6 H locs ls hm hT hl
        refine lv_aload_n hx hb dX7_comeTo_59 rfl (lv_at hl 0 rfl) ?_
        refine gSW_st_4 hC hK hT.1 wq_1364 dX7_comeTo_60 ?_
        refine lv_iload hx hb dX7_comeTo_63 (lv_at hl 5 rfl) ?_
        refine w_iald (q0 := 3) hC hK hT.1 rfl hm.1 dX7_comeTo_65 ?_
        have hm := hm.2
        refine lv_iconst (v := (-1)) hx hb dX7_comeTo_66 (by decide) ?_
        refine lv_icmp_ne (tgt := 120) hx hb dX7_comeTo_67 (by decide) (fun c_67 => ?_) (fun c_67 => ?_)
        · have hm := hm.1 c_67
          obtain ⟨v5_120, ev5_120⟩ : ∃ y : Int32, y = v5 + 1 := ⟨_, rfl⟩
          have hm := hm v5_120 ev5_120
          refine lv_iinc (v := v5_120) (lv' := [(5, .int v5_120), (0, .ref (a 200)), (2, .int v2), (3, .ref (q (310 + v3.toInt.toNat))), (4, .int v4), (6, .int v6)]) hx hb dX7_comeTo_120 hl (k := 4) rfl (by rw [ev5_120]; rfl) (by decide) rfl (fun ls hl => ?_)
          refine lv_goto (tgt := 27) hx hb dX7_comeTo_123 (by decide) ?_
          exact ih27 _ _ _ _ _ _ _ _ hm hT (lv_sub hl [1, 2, 3, 4, 0] rfl)
        · have hm := hm.2 c_67
          refine lv_aload_n hx hb dX7_comeTo_70 rfl (lv_at hl 0 rfl) ?_
          refine gSW_st_14 hC hK hT.1 wq_1383 dX7_comeTo_71 ?_
          refine gNSW_mod_11 hC hN hK hT.1 wn_1431 dX7_comeTo_74 ?_
          refine gNSW_plan_3 hC hN hK hT.1 wn_1236 dX7_comeTo_77 ?_
          refine lv_aload_n hx hb dX7_comeTo_80 rfl (lv_at hl 0 rfl) ?_
          refine gSW_st_14 hC hK hT.1 wq_1383 dX7_comeTo_81 ?_
          refine gNSW_mod_11 hC hN hK hT.1 wn_1431 dX7_comeTo_84 ?_
          refine gNSW_plan_5 hC hN hK hT.1 wn_1241 dX7_comeTo_87 ?_
          refine lv_iload_n hx hb dX7_comeTo_90 rfl (lv_at hl 1 rfl) ?_
          refine w_iald (q0 := 17) hC hK hT.1 rfl hm.1 dX7_comeTo_91 ?_
          have hm := hm.2
          refine w_iald (q0 := 15) hC hK hT.1 rfl hm.1 dX7_comeTo_92 ?_
          have hm := hm.2
          refine lv_bipush (v := 12) hx hb dX7_comeTo_93 (by decide) ?_
          refine lv_aload_n hx hb dX7_comeTo_95 rfl (lv_at hl 0 rfl) ?_
          refine gSW_st_14 hC hK hT.1 wq_1383 dX7_comeTo_96 ?_
          refine gNSW_mod_11 hC hN hK hT.1 wn_1431 dX7_comeTo_99 ?_
          refine gNSW_plan_10 hC hN hK hT.1 wn_1254 dX7_comeTo_102 ?_
          refine lv_iload hx hb dX7_comeTo_105 (lv_at hl 5 rfl) ?_
          refine w_iald (q0 := 20) hC hK hT.1 rfl hm.1 dX7_comeTo_107 ?_
          have hm := hm.2
          refine lv_isub hx hb dX7_comeTo_108 ?_
          refine lv_icmp_le (tgt := 120) hx hb dX7_comeTo_109 (by decide) (fun c_109 => ?_) (fun c_109 => ?_)
          · have hm := hm.1 c_109
            obtain ⟨v5_120, ev5_120⟩ : ∃ y : Int32, y = v5 + 1 := ⟨_, rfl⟩
            have hm := hm v5_120 ev5_120
            refine lv_iinc (v := v5_120) (lv' := [(5, .int v5_120), (0, .ref (a 200)), (2, .int v2), (3, .ref (q (310 + v3.toInt.toNat))), (4, .int v4), (6, .int v6)]) hx hb dX7_comeTo_120 hl (k := 4) rfl (by rw [ev5_120]; rfl) (by decide) rfl (fun ls hl => ?_)
            refine lv_goto (tgt := 27) hx hb dX7_comeTo_123 (by decide) ?_
            exact ih27 _ _ _ _ _ _ _ _ hm hT (lv_sub hl [1, 2, 3, 4, 0] rfl)
          · have hm := hm.2 c_109
            refine lv_aload_n hx hb dX7_comeTo_112 rfl (lv_at hl 0 rfl) ?_
            refine gSW_st_4 hC hK hT.1 wq_1364 dX7_comeTo_113 ?_
            refine lv_iload hx hb dX7_comeTo_116 (lv_at hl 5 rfl) ?_
            refine lv_iload_n hx hb dX7_comeTo_118 rfl (lv_at hl 1 rfl) ?_
            refine sSW_capAt hC hK hT hm.1 dX7_comeTo_119 (fun S_119 eS_119 H locs hT => ?_)
            have hm := hm.2 S_119 eS_119
            obtain ⟨v5_120, ev5_120⟩ : ∃ y : Int32, y = v5 + 1 := ⟨_, rfl⟩
            have hm := hm v5_120 ev5_120
            refine lv_iinc (v := v5_120) (lv' := [(5, .int v5_120), (0, .ref (a 200)), (2, .int v2), (3, .ref (q (310 + v3.toInt.toNat))), (4, .int v4), (6, .int v6)]) hx hb dX7_comeTo_120 hl (k := 4) rfl (by rw [ev5_120]; rfl) (by decide) rfl (fun ls hl => ?_)
            refine lv_goto (tgt := 27) hx hb dX7_comeTo_123 (by decide) ?_
            exact ih27 _ _ _ _ _ _ _ _ hm hT (lv_sub hl [1, 2, 3, 4, 0] rfl)
      intro S v2 v3 v4 v5 H locs ls hm hT hl
      refine lv_iload hx hb dX7_comeTo_27 (lv_at hl 4 rfl) ?_
      refine lv_iload hx hb dX7_comeTo_29 (lv_at hl 3 rfl) ?_
      refine lv_icmp_ge (tgt := 126) hx hb dX7_comeTo_31 (by decide) (fun c_31 => ?_) (fun c_31 => ?_)
      · have hm := hm.1 c_31
        exact hret 126 _ _ _ _ hm hT dX7_comeTo_126
      · have hm := hm.2 c_31
        refine lv_aload_n hx hb dX7_comeTo_34 rfl (lv_at hl 2 rfl) ?_
        refine lv_iload hx hb dX7_comeTo_35 (lv_at hl 4 rfl) ?_
        refine wrl_SW hC hK hT.1 hm.1 hm.2.1 dX7_comeTo_37 ?_
        have hm := hm.2.2
        refine lv_topi (fun v6_38 ev6_38 => ?_)
        have hm := hm v6_38 ev6_38
        refine lv_istore (lv' := [(6, .int v6_38), (0, .ref (a 200)), (2, .int v2), (3, .ref (q (310 + v3.toInt.toNat))), (4, .int v4), (5, .int v5)]) hx hb dX7_comeTo_38 hl (by decide) rfl (fun ls hl => ?_)
        refine lv_aload_n hx hb dX7_comeTo_40 rfl (lv_at hl 1 rfl) ?_
        refine gSW_st_4 hC hK hT.1 wq_1364 dX7_comeTo_41 ?_
        refine lv_iload hx hb dX7_comeTo_44 (lv_at hl 0 rfl) ?_
        refine w_iald (q0 := 3) hC hK hT.1 rfl hm.1 dX7_comeTo_46 ?_
        have hm := hm.2
        refine lv_iload_n hx hb dX7_comeTo_47 rfl (lv_at hl 2 rfl) ?_
        refine lv_icmp_ne (tgt := 59) hx hb dX7_comeTo_48 (by decide) (fun c_48 => ?_) (fun c_48 => ?_)
        · have hm := hm.1 c_48
          exact L59 _ _ _ _ _ _ _ _ _ hm hT (lv_sub hl [1, 2, 3, 4, 5, 0] rfl)
        · have hm := hm.2 c_48
          refine lv_aload_n hx hb dX7_comeTo_51 rfl (lv_at hl 1 rfl) ?_
          refine gSW_st_4 hC hK hT.1 wq_1364 dX7_comeTo_52 ?_
          refine lv_iload hx hb dX7_comeTo_55 (lv_at hl 0 rfl) ?_
          refine lv_iconst (v := (-1)) hx hb dX7_comeTo_57 (by decide) ?_
          refine sSW_capAt hC hK hT hm.1 dX7_comeTo_58 (fun S_58 eS_58 H locs hT => ?_)
          have hm := hm.2 S_58 eS_58
          exact L59 _ _ _ _ _ _ _ _ _ hm hT (lv_sub hl [1, 2, 3, 4, 5, 0] rfl)
  refine lv_aload_n hx hb dX7_comeTo_0 rfl (lv_at hl 0 rfl) ?_
  refine gSW_st_9 hC hK hT.1 wq_1374 dX7_comeTo_1 ?_
  refine lv_iload_n hx hb dX7_comeTo_4 rfl (lv_at hl 1 rfl) ?_
  refine lv_iload_n hx hb dX7_comeTo_5 rfl (lv_at hl 2 rfl) ?_
  refine sSW_at hC hK hT hm.1 dX7_comeTo_6 (fun S_6 eS_6 H locs hT => ?_)
  have hm := hm.2 S_6 eS_6
  refine lv_aload_n hx hb dX7_comeTo_7 rfl (lv_at hl 0 rfl) ?_
  refine gSW_st_14 hC hK hT.1 wq_1383 dX7_comeTo_8 ?_
  refine gNSW_mod_11 hC hN hK hT.1 wn_1431 dX7_comeTo_11 ?_
  refine gNSW_plan_16 hC hN hK hT.1 wn_1271 dX7_comeTo_14 ?_
  refine lv_iload_n hx hb dX7_comeTo_17 rfl (lv_at hl 1 rfl) ?_
  refine w_aaldR (q0 := 25) hC hK hT.1 rfl hm.1 dX7_comeTo_18 ?_
  have hm := hm.2
  refine lv_astore_n (lv' := [(3, .ref (q (310 + x1.toInt.toNat))), (0, .ref (a 200)), (1, .int x1), (2, .int x2)]) hx hb dX7_comeTo_19 rfl hl (by decide) rfl (fun ls hl => ?_)
  refine lv_aload_n hx hb dX7_comeTo_20 rfl (lv_at hl 0 rfl) ?_
  refine wrn_SW hC hK hT.1 hm.1 dX7_comeTo_21 ?_
  have hm := hm.2
  refine lv_topi (fun v4_22 ev4_22 => ?_)
  have hm := hm v4_22 ev4_22
  refine lv_istore (lv' := [(4, .int v4_22), (3, .ref (q (310 + x1.toInt.toNat))), (0, .ref (a 200)), (1, .int x1), (2, .int x2)]) hx hb dX7_comeTo_22 hl (by decide) rfl (fun ls hl => ?_)
  refine lv_iconst (v := 0) hx hb dX7_comeTo_24 (by decide) ?_
  refine lv_istore (lv' := [(5, .int 0), (4, .int v4_22), (3, .ref (q (310 + x1.toInt.toNat))), (0, .ref (a 200)), (1, .int x1), (2, .int x2)]) hx hb dX7_comeTo_25 hl (by decide) rfl (fun ls hl => ?_)
  exact L27 _ _ _ _ _ _ _ _ _ hm hT (lv_sub hl [3, 5, 2, 1, 0] rfl)
section KX7_comeTo
variable {p : Program} {l : Launch} {e : Env} {s : State} {m : MethodId} {args : Array Value} {below : List Frame} {meth : Method} {c : Code} {H H0 : Heap} {locs : List Loc} {cells slots : Nat} {Q : State → Prop} {R : Room} {rn mcR msR : Nat}
variable {pc : Nat} {ls : Array Slot} {rest : List Value} {A : Nat → Prop} {D : va_G}
variable {cc : ByteArray} {nL index : Nat} {own host : String}
theorem k_X7_comeTo {Z : Nat → ClassId} {a q g : Nat → Nat} {rg sa aa : Nat} {N P : M2} {S : M2} {x1 : Int32} {x2 : Int32} {K : M2 → Prop} (hC : CallFix p m c cc nL s args lw_g own) (hN : NW s) (hK : va_K D vwCl (tysG Z) s) (hT : TS vwCl D (SW Z a q g rg sa aa N P S) A H0 H locs) (hm : wp_X7_comeTo N P S x1 x2 K) (hl : Cond.methodLink own index yX7_comeTo ∈ lw_g) (hlt : 1 < rn) (hsize : ls.size = nL) (hW : (rest.map fun v => v.category).sum ≤ 8) (hf : cells + 0 ≤ mcR ∧ slots + 0 ≤ msR) (hdg : decode cc pc = .ok (.invokevirtual index, 3)) (kk : ∀ (S1 : M2) (H1 : Heap) (locs1 : List Loc), K S1 → TS vwCl D (SW Z a q g rg sa aa N P S1) A H0 H1 locs1 → W p l e (rk rn mcR msR) s m args below meth c H1 locs1 cells slots Q (F0 m (pc + 3) ls (rest))) : W p l e (rk rn mcR msR) s m args below meth c H locs cells slots Q (F0 m pc ls (.int x2 :: .int x1 :: .ref (a 200) :: rest)) :=
  rwv_go (wsF := (SW Z a q g rg sa aa N P)) (u0 := S) (wr := []) (isC := cutSW) (isR := []) (pm := cutSW) (ws' := (SW Z a q g rg sa aa N P)) (runV (As := [.int x1, .int x2]) hC hN (c_X7_comeTo l D Z a q g rg sa aa N P S H.size x1 x2 K hm) mi_X7_comeTo hl wq_1895 wq_118 hlt hT.1 hT.D' hK (q0 := 0) rfl rfl rfl hsize rfl hW hdg hf) (cutOkSW Z a q g rg sa aa N P S) hT (fun u H1 locs1 hk hT1 => kk u H1 locs1 hk hT1)
end KX7_comeTo
def wp_X7_enter (N : M2) (P : M2) (S : M2) (x1 : Int32) (K : M2 → Prop) : Prop := wp_X7_canEnter N P S x1 (fun r_2 S_2 => ((¬ r_2 = 0 → (inb x1 8 ∧ ∀ S_15 : M2, S_15 = up2 S_2 206 (upd (S_2 206) x1.toInt.toNat 1) → (inb x1 8 ∧ ∀ S_22 : M2, S_22 = up2 S_15 210 (upd (S_15 210) x1.toInt.toNat 0) → (inb x1 8 ∧ ((¬ (S_22 207 x1.toInt.toNat) = 0 → wp_X7_comeTo N P S_22 x1 ((P 241 0) - 1) (fun S_50 => K S_50)) ∧ ((S_22 207 x1.toInt.toNat) = 0 → wp_X7_comeTo N P S_22 x1 0 (fun S_50 => K S_50))))))) ∧ (r_2 = 0 → K S_2)))
set_option maxRecDepth 100000 in
set_option maxHeartbeats 4000000 in
theorem c_X7_enter (l : Launch) (D : va_G) (Z : Nat → ClassId) (a q g : Nat → Nat) (rg sa aa : Nat) (N P : M2) (S : M2) (sz : Nat) (x1 : Int32) (K : M2 → Prop) (hm : wp_X7_enter N P S x1 K) : Met l yX7_enter (wy yX7_enter cX7_enter 2 none) (rk 8 0 0) (pre vwCl D Z (SW Z a q g rg sa aa N P S) sz [.ref (a 200), .int x1]) (poV vwCl D Z (SW Z a q g rg sa aa N P) S sz K) 0 0 (va_A (SW Z a q g rg sa aa N P S) sz) := by
  refine rwv_of (wsF := (SW Z a q g rg sa aa N P)) (u0 := S) (by decide +kernel) (Nat.le_of_ble_eq_true rfl) rfl ?_
  intro p e s m args below meth c Q A hC hN hsz hnm hT hK hret ls hl
  have hx := hC.1
  have hb := hC.2.1
  have hl : lv_has ls 2 [(0, .ref (a 200)), (1, .int x1)] := hl
  have hT : TS vwCl D (SW Z a q g rg sa aa N P S) A s.heap s.heap [] := hT
  refine lv_aload_n hx hb dX7_enter_0 rfl (lv_at hl 0 rfl) ?_
  refine lv_iload_n hx hb dX7_enter_1 rfl (lv_at hl 1 rfl) ?_
  refine k_X7_canEnter hC hN hK hT hm wq_1892 (by decide) hl.1 (Nat.le_of_ble_eq_true rfl) ⟨Nat.le_refl _, Nat.le_refl _⟩ dX7_enter_2 (fun r_2 S_2 H locs hm hT => ?_)
  refine lv_if_ne (tgt := 9) hx hb dX7_enter_5 (by decide) (fun c_5 => ?_) (fun c_5 => ?_)
  · have hm := hm.1 c_5
    refine lv_aload_n hx hb dX7_enter_9 rfl (lv_at hl 0 rfl) ?_
    refine gSW_st_6 hC hK hT.1 wq_1368 dX7_enter_10 ?_
    refine lv_iload_n hx hb dX7_enter_13 rfl (lv_at hl 1 rfl) ?_
    refine lv_iconst (v := 1) hx hb dX7_enter_14 (by decide) ?_
    refine sSW_is hC hK hT hm.1 dX7_enter_15 (fun S_15 eS_15 H locs hT => ?_)
    have hm := hm.2 S_15 eS_15
    refine lv_aload_n hx hb dX7_enter_16 rfl (lv_at hl 0 rfl) ?_
    refine gSW_st_10 hC hK hT.1 wq_1376 dX7_enter_17 ?_
    refine lv_iload_n hx hb dX7_enter_20 rfl (lv_at hl 1 rfl) ?_
    refine lv_iconst (v := 0) hx hb dX7_enter_21 (by decide) ?_
    refine sSW_spushed hC hK hT hm.1 dX7_enter_22 (fun S_22 eS_22 H locs hT => ?_)
    have hm := hm.2 S_22 eS_22
    refine lv_aload_n hx hb dX7_enter_23 rfl (lv_at hl 0 rfl) ?_
    refine lv_iload_n hx hb dX7_enter_24 rfl (lv_at hl 1 rfl) ?_
    refine lv_aload_n hx hb dX7_enter_25 rfl (lv_at hl 0 rfl) ?_
    refine gSW_st_7 hC hK hT.1 wq_1370 dX7_enter_26 ?_
    refine lv_iload_n hx hb dX7_enter_29 rfl (lv_at hl 1 rfl) ?_
    refine w_iald (q0 := 6) hC hK hT.1 rfl hm.1 dX7_enter_30 ?_
    have hm := hm.2
    refine lv_if_ne (tgt := 38) hx hb dX7_enter_31 (by decide) (fun c_31 => ?_) (fun c_31 => ?_)
    · have hm := hm.1 c_31
      refine lv_aload_n hx hb dX7_enter_38 rfl (lv_at hl 0 rfl) ?_
      refine gSW_st_14 hC hK hT.1 wq_1383 dX7_enter_39 ?_
      refine gNSW_mod_11 hC hN hK hT.1 wn_1431 dX7_enter_42 ?_
      refine gNSW_plan_1 hC hN hK hT.1 wn_1231 dX7_enter_45 ?_
      refine lv_iconst (v := 1) hx hb dX7_enter_48 (by decide) ?_
      refine lv_isub hx hb dX7_enter_49 ?_
      refine k_X7_comeTo hC hN hK hT hm wq_1893 (by decide) hl.1 (Nat.le_of_ble_eq_true rfl) ⟨Nat.le_refl _, Nat.le_refl _⟩ dX7_enter_50 (fun S_50 H locs hm hT => ?_)
      exact hret 53 _ _ _ _ hm hT dX7_enter_53
    · have hm := hm.2 c_31
      refine lv_iconst (v := 0) hx hb dX7_enter_34 (by decide) ?_
      refine lv_goto (tgt := 50) hx hb dX7_enter_35 (by decide) ?_
      refine k_X7_comeTo hC hN hK hT hm wq_1893 (by decide) hl.1 (Nat.le_of_ble_eq_true rfl) ⟨Nat.le_refl _, Nat.le_refl _⟩ dX7_enter_50 (fun S_50 H locs hm hT => ?_)
      exact hret 53 _ _ _ _ hm hT dX7_enter_53
  · have hm := hm.2 c_5
    exact hret 8 _ _ _ _ hm hT dX7_enter_8
section KX7_enter
variable {p : Program} {l : Launch} {e : Env} {s : State} {m : MethodId} {args : Array Value} {below : List Frame} {meth : Method} {c : Code} {H H0 : Heap} {locs : List Loc} {cells slots : Nat} {Q : State → Prop} {R : Room} {rn mcR msR : Nat}
variable {pc : Nat} {ls : Array Slot} {rest : List Value} {A : Nat → Prop} {D : va_G}
variable {cc : ByteArray} {nL index : Nat} {own host : String}
theorem k_X7_enter {Z : Nat → ClassId} {a q g : Nat → Nat} {rg sa aa : Nat} {N P : M2} {S : M2} {x1 : Int32} {K : M2 → Prop} (hC : CallFix p m c cc nL s args lw_g own) (hN : NW s) (hK : va_K D vwCl (tysG Z) s) (hT : TS vwCl D (SW Z a q g rg sa aa N P S) A H0 H locs) (hm : wp_X7_enter N P S x1 K) (hl : Cond.methodLink own index yX7_enter ∈ lw_g) (hlt : 8 < rn) (hsize : ls.size = nL) (hW : (rest.map fun v => v.category).sum ≤ 8) (hf : cells + 0 ≤ mcR ∧ slots + 0 ≤ msR) (hdg : decode cc pc = .ok (.invokevirtual index, 3)) (kk : ∀ (S1 : M2) (H1 : Heap) (locs1 : List Loc), K S1 → TS vwCl D (SW Z a q g rg sa aa N P S1) A H0 H1 locs1 → W p l e (rk rn mcR msR) s m args below meth c H1 locs1 cells slots Q (F0 m (pc + 3) ls (rest))) : W p l e (rk rn mcR msR) s m args below meth c H locs cells slots Q (F0 m pc ls (.int x1 :: .ref (a 200) :: rest)) :=
  rwv_go (wsF := (SW Z a q g rg sa aa N P)) (u0 := S) (wr := []) (isC := cutSW) (isR := []) (pm := cutSW) (ws' := (SW Z a q g rg sa aa N P)) (runV (As := [.int x1]) hC hN (c_X7_enter l D Z a q g rg sa aa N P S H.size x1 K hm) mi_X7_enter hl wq_1890 wq_117 hlt hT.1 hT.D' hK (q0 := 0) rfl rfl rfl hsize rfl hW hdg hf) (cutOkSW Z a q g rg sa aa N P S) hT (fun u H1 locs1 hk hT1 => kk u H1 locs1 hk hT1)
end KX7_enter
