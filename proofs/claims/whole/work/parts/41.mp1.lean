theorem dX8_byteOf_0 : decode cX8_byteOf 0 = .ok (.iload_n 1, 1) := by decide +kernel
theorem dX8_byteOf_1 : decode cX8_byteOf 1 = .ok (.aload_n 0, 1) := by decide +kernel
theorem dX8_byteOf_2 : decode cX8_byteOf 2 = .ok (.getfield 89, 3) := by decide +kernel
theorem dX8_byteOf_5 : decode cX8_byteOf 5 = .ok (.if_icmp .ge 12, 3) := by decide +kernel
theorem dX8_byteOf_8 : decode cX8_byteOf 8 = .ok (.aload_n 0, 1) := by decide +kernel
theorem dX8_byteOf_9 : decode cX8_byteOf 9 = .ok (.getfield 9, 3) := by decide +kernel
theorem dX8_byteOf_12 : decode cX8_byteOf 12 = .ok (.iload_n 1, 1) := by decide +kernel
theorem dX8_byteOf_13 : decode cX8_byteOf 13 = .ok (.iaload, 1) := by decide +kernel
theorem dX8_byteOf_14 : decode cX8_byteOf 14 = .ok (.goto 4, 3) := by decide +kernel
theorem dX8_byteOf_17 : decode cX8_byteOf 17 = .ok (.iconst (-1), 1) := by decide +kernel
theorem dX8_byteOf_18 : decode cX8_byteOf 18 = .ok (.ireturn, 1) := by decide +kernel
theorem dX8_is_0 : decode cX8_is 0 = .ok (.aload_n 0, 1) := by decide +kernel
theorem dX8_is_1 : decode cX8_is 1 = .ok (.getfield 17, 3) := by decide +kernel
theorem dX8_is_4 : decode cX8_is 4 = .ok (.aload_n 0, 1) := by decide +kernel
theorem dX8_is_5 : decode cX8_is 5 = .ok (.getfield 127, 3) := by decide +kernel
theorem dX8_is_8 : decode cX8_is 8 = .ok (.iaload, 1) := by decide +kernel
theorem dX8_is_9 : decode cX8_is 9 = .ok (.iload_n 1, 1) := by decide +kernel
theorem dX8_is_10 : decode cX8_is 10 = .ok (.if_icmp .ne 7, 3) := by decide +kernel
theorem dX8_is_13 : decode cX8_is 13 = .ok (.iconst 1, 1) := by decide +kernel
theorem dX8_is_14 : decode cX8_is 14 = .ok (.goto 4, 3) := by decide +kernel
theorem dX8_is_17 : decode cX8_is 17 = .ok (.iconst 0, 1) := by decide +kernel
theorem dX8_is_18 : decode cX8_is 18 = .ok (.ireturn, 1) := by decide +kernel
theorem dX8_isSign_0 : decode cX8_isSign 0 = .ok (.aload_n 0, 1) := by decide +kernel
theorem dX8_isSign_1 : decode cX8_isSign 1 = .ok (.getfield 17, 3) := by decide +kernel
theorem dX8_isSign_4 : decode cX8_isSign 4 = .ok (.aload_n 0, 1) := by decide +kernel
theorem dX8_isSign_5 : decode cX8_isSign 5 = .ok (.getfield 127, 3) := by decide +kernel
theorem dX8_isSign_8 : decode cX8_isSign 8 = .ok (.iaload, 1) := by decide +kernel
theorem dX8_isSign_9 : decode cX8_isSign 9 = .ok (.bipush 50, 2) := by decide +kernel
theorem dX8_isSign_11 : decode cX8_isSign 11 = .ok (.iload_n 1, 1) := by decide +kernel
theorem dX8_isSign_12 : decode cX8_isSign 12 = .ok (.iadd, 1) := by decide +kernel
theorem dX8_isSign_13 : decode cX8_isSign 13 = .ok (.if_icmp .ne 7, 3) := by decide +kernel
theorem dX8_isSign_16 : decode cX8_isSign 16 = .ok (.iconst 1, 1) := by decide +kernel
theorem dX8_isSign_17 : decode cX8_isSign 17 = .ok (.goto 4, 3) := by decide +kernel
theorem dX8_isSign_20 : decode cX8_isSign 20 = .ok (.iconst 0, 1) := by decide +kernel
theorem dX8_isSign_21 : decode cX8_isSign 21 = .ok (.ireturn, 1) := by decide +kernel
theorem dX8_numberAt_0 : decode cX8_numberAt 0 = .ok (.iconst 0, 1) := by decide +kernel
theorem dX8_numberAt_1 : decode cX8_numberAt 1 = .ok (.istore_n 2, 1) := by decide +kernel
theorem dX8_numberAt_2 : decode cX8_numberAt 2 = .ok (.iconst 0, 1) := by decide +kernel
theorem dX8_numberAt_3 : decode cX8_numberAt 3 = .ok (.istore_n 3, 1) := by decide +kernel
theorem dX8_numberAt_4 : decode cX8_numberAt 4 = .ok (.iload_n 3, 1) := by decide +kernel
theorem dX8_numberAt_5 : decode cX8_numberAt 5 = .ok (.aload_n 0, 1) := by decide +kernel
theorem dX8_numberAt_6 : decode cX8_numberAt 6 = .ok (.getfield 23, 3) := by decide +kernel
theorem dX8_numberAt_9 : decode cX8_numberAt 9 = .ok (.iload_n 1, 1) := by decide +kernel
theorem dX8_numberAt_10 : decode cX8_numberAt 10 = .ok (.iaload, 1) := by decide +kernel
theorem dX8_numberAt_11 : decode cX8_numberAt 11 = .ok (.if_icmp .ge 31, 3) := by decide +kernel
theorem dX8_numberAt_14 : decode cX8_numberAt 14 = .ok (.bipush 10, 2) := by decide +kernel
theorem dX8_numberAt_16 : decode cX8_numberAt 16 = .ok (.iload_n 2, 1) := by decide +kernel
theorem dX8_numberAt_17 : decode cX8_numberAt 17 = .ok (.imul, 1) := by decide +kernel
theorem dX8_numberAt_18 : decode cX8_numberAt 18 = .ok (.aload_n 0, 1) := by decide +kernel
theorem dX8_numberAt_19 : decode cX8_numberAt 19 = .ok (.getfield 9, 3) := by decide +kernel
theorem dX8_numberAt_22 : decode cX8_numberAt 22 = .ok (.aload_n 0, 1) := by decide +kernel
theorem dX8_numberAt_23 : decode cX8_numberAt 23 = .ok (.getfield 20, 3) := by decide +kernel
theorem dX8_numberAt_26 : decode cX8_numberAt 26 = .ok (.iload_n 1, 1) := by decide +kernel
theorem dX8_numberAt_27 : decode cX8_numberAt 27 = .ok (.iaload, 1) := by decide +kernel
theorem dX8_numberAt_28 : decode cX8_numberAt 28 = .ok (.iload_n 3, 1) := by decide +kernel
theorem dX8_numberAt_29 : decode cX8_numberAt 29 = .ok (.iadd, 1) := by decide +kernel
theorem dX8_numberAt_30 : decode cX8_numberAt 30 = .ok (.iaload, 1) := by decide +kernel
theorem dX8_numberAt_31 : decode cX8_numberAt 31 = .ok (.iadd, 1) := by decide +kernel
theorem dX8_numberAt_32 : decode cX8_numberAt 32 = .ok (.bipush 48, 2) := by decide +kernel
theorem dX8_numberAt_34 : decode cX8_numberAt 34 = .ok (.isub, 1) := by decide +kernel
theorem dX8_numberAt_35 : decode cX8_numberAt 35 = .ok (.istore_n 2, 1) := by decide +kernel
theorem dX8_numberAt_36 : decode cX8_numberAt 36 = .ok (.iinc 3 1, 3) := by decide +kernel
theorem dX8_numberAt_39 : decode cX8_numberAt 39 = .ok (.goto (-35), 3) := by decide +kernel
theorem dX8_numberAt_42 : decode cX8_numberAt 42 = .ok (.iload_n 2, 1) := by decide +kernel
theorem dX8_numberAt_43 : decode cX8_numberAt 43 = .ok (.ireturn, 1) := by decide +kernel
theorem dX8_isSame_0 : decode cX8_isSame 0 = .ok (.aload_n 0, 1) := by decide +kernel
theorem dX8_isSame_1 : decode cX8_isSame 1 = .ok (.getfield 23, 3) := by decide +kernel
theorem dX8_isSame_4 : decode cX8_isSame 4 = .ok (.iload_n 1, 1) := by decide +kernel
theorem dX8_isSame_5 : decode cX8_isSame 5 = .ok (.iaload, 1) := by decide +kernel
theorem dX8_isSame_6 : decode cX8_isSame 6 = .ok (.aload_n 0, 1) := by decide +kernel
theorem dX8_isSame_7 : decode cX8_isSame 7 = .ok (.getfield 23, 3) := by decide +kernel
theorem dX8_isSame_10 : decode cX8_isSame 10 = .ok (.iload_n 2, 1) := by decide +kernel
theorem dX8_isSame_11 : decode cX8_isSame 11 = .ok (.iaload, 1) := by decide +kernel
theorem dX8_isSame_12 : decode cX8_isSame 12 = .ok (.if_icmp .eq 5, 3) := by decide +kernel
theorem dX8_isSame_15 : decode cX8_isSame 15 = .ok (.iconst 0, 1) := by decide +kernel
theorem dX8_isSame_16 : decode cX8_isSame 16 = .ok (.ireturn, 1) := by decide +kernel
theorem dX8_isSame_17 : decode cX8_isSame 17 = .ok (.iconst 0, 1) := by decide +kernel
theorem dX8_isSame_18 : decode cX8_isSame 18 = .ok (.istore_n 3, 1) := by decide +kernel
theorem dX8_isSame_19 : decode cX8_isSame 19 = .ok (.iload_n 3, 1) := by decide +kernel
theorem dX8_isSame_20 : decode cX8_isSame 20 = .ok (.aload_n 0, 1) := by decide +kernel
theorem dX8_isSame_21 : decode cX8_isSame 21 = .ok (.getfield 23, 3) := by decide +kernel
theorem dX8_isSame_24 : decode cX8_isSame 24 = .ok (.iload_n 1, 1) := by decide +kernel
theorem dX8_isSame_25 : decode cX8_isSame 25 = .ok (.iaload, 1) := by decide +kernel
theorem dX8_isSame_26 : decode cX8_isSame 26 = .ok (.if_icmp .ge 40, 3) := by decide +kernel
theorem dX8_isSame_29 : decode cX8_isSame 29 = .ok (.aload_n 0, 1) := by decide +kernel
theorem dX8_isSame_30 : decode cX8_isSame 30 = .ok (.getfield 9, 3) := by decide +kernel
theorem dX8_isSame_33 : decode cX8_isSame 33 = .ok (.aload_n 0, 1) := by decide +kernel
theorem dX8_isSame_34 : decode cX8_isSame 34 = .ok (.getfield 20, 3) := by decide +kernel
theorem dX8_isSame_37 : decode cX8_isSame 37 = .ok (.iload_n 1, 1) := by decide +kernel
theorem dX8_isSame_38 : decode cX8_isSame 38 = .ok (.iaload, 1) := by decide +kernel
theorem dX8_isSame_39 : decode cX8_isSame 39 = .ok (.iload_n 3, 1) := by decide +kernel
theorem dX8_isSame_40 : decode cX8_isSame 40 = .ok (.iadd, 1) := by decide +kernel
theorem dX8_isSame_41 : decode cX8_isSame 41 = .ok (.iaload, 1) := by decide +kernel
theorem dX8_isSame_42 : decode cX8_isSame 42 = .ok (.aload_n 0, 1) := by decide +kernel
theorem dX8_isSame_43 : decode cX8_isSame 43 = .ok (.getfield 9, 3) := by decide +kernel
theorem dX8_isSame_46 : decode cX8_isSame 46 = .ok (.aload_n 0, 1) := by decide +kernel
theorem dX8_isSame_47 : decode cX8_isSame 47 = .ok (.getfield 20, 3) := by decide +kernel
theorem dX8_isSame_50 : decode cX8_isSame 50 = .ok (.iload_n 2, 1) := by decide +kernel
theorem dX8_isSame_51 : decode cX8_isSame 51 = .ok (.iaload, 1) := by decide +kernel
theorem dX8_isSame_52 : decode cX8_isSame 52 = .ok (.iload_n 3, 1) := by decide +kernel
theorem dX8_isSame_53 : decode cX8_isSame 53 = .ok (.iadd, 1) := by decide +kernel
theorem dX8_isSame_54 : decode cX8_isSame 54 = .ok (.iaload, 1) := by decide +kernel
theorem dX8_isSame_55 : decode cX8_isSame 55 = .ok (.if_icmp .eq 5, 3) := by decide +kernel
theorem dX8_isSame_58 : decode cX8_isSame 58 = .ok (.iconst 0, 1) := by decide +kernel
theorem dX8_isSame_59 : decode cX8_isSame 59 = .ok (.ireturn, 1) := by decide +kernel
theorem dX8_isSame_60 : decode cX8_isSame 60 = .ok (.iinc 3 1, 3) := by decide +kernel
theorem dX8_isSame_63 : decode cX8_isSame 63 = .ok (.goto (-44), 3) := by decide +kernel
theorem dX8_isSame_66 : decode cX8_isSame 66 = .ok (.iconst 1, 1) := by decide +kernel
theorem dX8_isSame_67 : decode cX8_isSame 67 = .ok (.ireturn, 1) := by decide +kernel
theorem dX8_told_0 : decode cX8_told 0 = .ok (.iconst 0, 1) := by decide +kernel
theorem dX8_told_1 : decode cX8_told 1 = .ok (.istore_n 3, 1) := by decide +kernel
theorem dX8_told_2 : decode cX8_told 2 = .ok (.iconst 0, 1) := by decide +kernel
theorem dX8_told_3 : decode cX8_told 3 = .ok (.istore 4, 2) := by decide +kernel
theorem dX8_told_5 : decode cX8_told 5 = .ok (.iload 4, 2) := by decide +kernel
theorem dX8_told_7 : decode cX8_told 7 = .ok (.iload_n 1, 1) := by decide +kernel
theorem dX8_told_8 : decode cX8_told 8 = .ok (.if_icmp .ge 38, 3) := by decide +kernel
theorem dX8_told_11 : decode cX8_told 11 = .ok (.aload_n 0, 1) := by decide +kernel
theorem dX8_told_12 : decode cX8_told 12 = .ok (.getfield 26, 3) := by decide +kernel
theorem dX8_told_15 : decode cX8_told 15 = .ok (.iload 4, 2) := by decide +kernel
theorem dX8_told_17 : decode cX8_told 17 = .ok (.iaload, 1) := by decide +kernel
theorem dX8_told_18 : decode cX8_told 18 = .ok (.iload_n 2, 1) := by decide +kernel
theorem dX8_told_19 : decode cX8_told 19 = .ok (.if_icmp .eq 6, 3) := by decide +kernel
theorem dX8_told_22 : decode cX8_told 22 = .ok (.goto 18, 3) := by decide +kernel
theorem dX8_told_25 : decode cX8_told 25 = .ok (.aload_n 0, 1) := by decide +kernel
theorem dX8_told_26 : decode cX8_told 26 = .ok (.iload 4, 2) := by decide +kernel
theorem dX8_told_28 : decode cX8_told 28 = .ok (.iload_n 1, 1) := by decide +kernel
theorem dX8_told_29 : decode cX8_told 29 = .ok (.invokevirtual 223, 3) := by decide +kernel
theorem dX8_told_32 : decode cX8_told 32 = .ok (.ifCond .eq 5, 3) := by decide +kernel
theorem dX8_told_35 : decode cX8_told 35 = .ok (.iload_n 3, 1) := by decide +kernel
theorem dX8_told_36 : decode cX8_told 36 = .ok (.ireturn, 1) := by decide +kernel
theorem dX8_told_37 : decode cX8_told 37 = .ok (.iinc 3 1, 3) := by decide +kernel
theorem dX8_told_40 : decode cX8_told 40 = .ok (.iinc 4 1, 3) := by decide +kernel
theorem dX8_told_43 : decode cX8_told 43 = .ok (.goto (-38), 3) := by decide +kernel
theorem dX8_told_46 : decode cX8_told 46 = .ok (.iconst (-1), 1) := by decide +kernel
theorem dX8_told_47 : decode cX8_told 47 = .ok (.ireturn, 1) := by decide +kernel
theorem dX8_endOf_0 : decode cX8_endOf 0 = .ok (.aload_n 0, 1) := by decide +kernel
theorem dX8_endOf_1 : decode cX8_endOf 1 = .ok (.getfield 17, 3) := by decide +kernel
theorem dX8_endOf_4 : decode cX8_endOf 4 = .ok (.iload_n 1, 1) := by decide +kernel
theorem dX8_endOf_5 : decode cX8_endOf 5 = .ok (.iaload, 1) := by decide +kernel
theorem dX8_endOf_6 : decode cX8_endOf 6 = .ok (.bipush 12, 2) := by decide +kernel
theorem dX8_endOf_8 : decode cX8_endOf 8 = .ok (.if_icmp .ne 7, 3) := by decide +kernel
theorem dX8_endOf_11 : decode cX8_endOf 11 = .ok (.iconst 0, 1) := by decide +kernel
theorem dX8_endOf_12 : decode cX8_endOf 12 = .ok (.goto 4, 3) := by decide +kernel
theorem dX8_endOf_15 : decode cX8_endOf 15 = .ok (.iconst 1, 1) := by decide +kernel
theorem dX8_endOf_16 : decode cX8_endOf 16 = .ok (.ireturn, 1) := by decide +kernel
theorem dX8_inRange_0 : decode cX8_inRange 0 = .ok (.aload_n 0, 1) := by decide +kernel
theorem dX8_inRange_1 : decode cX8_inRange 1 = .ok (.iload_n 1, 1) := by decide +kernel
theorem dX8_inRange_2 : decode cX8_inRange 2 = .ok (.invokevirtual 216, 3) := by decide +kernel
theorem dX8_inRange_5 : decode cX8_inRange 5 = .ok (.iload_n 2, 1) := by decide +kernel
theorem dX8_inRange_6 : decode cX8_inRange 6 = .ok (.iload_n 3, 1) := by decide +kernel
theorem dX8_inRange_7 : decode cX8_inRange 7 = .ok (.invokestatic 63, 3) := by decide +kernel
theorem dX8_inRange_10 : decode cX8_inRange 10 = .ok (.ifCond .eq 7, 3) := by decide +kernel
theorem dX8_inRange_13 : decode cX8_inRange 13 = .ok (.iconst 0, 1) := by decide +kernel
theorem dX8_inRange_14 : decode cX8_inRange 14 = .ok (.goto 4, 3) := by decide +kernel
theorem dX8_inRange_17 : decode cX8_inRange 17 = .ok (.iconst 5, 1) := by decide +kernel
theorem dX8_inRange_18 : decode cX8_inRange 18 = .ok (.ireturn, 1) := by decide +kernel
theorem dX8_isNew_0 : decode cX8_isNew 0 = .ok (.aload_n 0, 1) := by decide +kernel
theorem dX8_isNew_1 : decode cX8_isNew 1 = .ok (.iload_n 1, 1) := by decide +kernel
theorem dX8_isNew_2 : decode cX8_isNew 2 = .ok (.aload_n 0, 1) := by decide +kernel
theorem dX8_isNew_3 : decode cX8_isNew 3 = .ok (.getfield 26, 3) := by decide +kernel
theorem dX8_isNew_6 : decode cX8_isNew 6 = .ok (.iload_n 1, 1) := by decide +kernel
theorem dX8_isNew_7 : decode cX8_isNew 7 = .ok (.iaload, 1) := by decide +kernel
theorem dX8_isNew_8 : decode cX8_isNew 8 = .ok (.invokevirtual 226, 3) := by decide +kernel
theorem dX8_isNew_11 : decode cX8_isNew 11 = .ok (.iconst (-1), 1) := by decide +kernel
theorem dX8_isNew_12 : decode cX8_isNew 12 = .ok (.if_icmp .eq 7, 3) := by decide +kernel
theorem dX8_isNew_15 : decode cX8_isNew 15 = .ok (.iconst 2, 1) := by decide +kernel
theorem dX8_isNew_16 : decode cX8_isNew 16 = .ok (.goto 13, 3) := by decide +kernel
theorem dX8_isNew_19 : decode cX8_isNew 19 = .ok (.iload_n 2, 1) := by decide +kernel
theorem dX8_isNew_20 : decode cX8_isNew 20 = .ok (.iload_n 3, 1) := by decide +kernel
theorem dX8_isNew_21 : decode cX8_isNew 21 = .ok (.if_icmp .ne 7, 3) := by decide +kernel
theorem dX8_isNew_24 : decode cX8_isNew 24 = .ok (.iconst 4, 1) := by decide +kernel
theorem dX8_isNew_25 : decode cX8_isNew 25 = .ok (.goto 4, 3) := by decide +kernel
theorem dX8_isNew_28 : decode cX8_isNew 28 = .ok (.iconst 0, 1) := by decide +kernel
theorem dX8_isNew_29 : decode cX8_isNew 29 = .ok (.ireturn, 1) := by decide +kernel
theorem dX8_eat_0 : decode cX8_eat 0 = .ok (.aload_n 0, 1) := by decide +kernel
theorem dX8_eat_1 : decode cX8_eat 1 = .ok (.iload_n 1, 1) := by decide +kernel
theorem dX8_eat_2 : decode cX8_eat 2 = .ok (.invokevirtual 130, 3) := by decide +kernel
theorem dX8_eat_5 : decode cX8_eat 5 = .ok (.ifCond .ne 5, 3) := by decide +kernel
theorem dX8_eat_8 : decode cX8_eat 8 = .ok (.iconst 0, 1) := by decide +kernel
theorem dX8_eat_9 : decode cX8_eat 9 = .ok (.ireturn, 1) := by decide +kernel
theorem dX8_eat_10 : decode cX8_eat 10 = .ok (.aload_n 0, 1) := by decide +kernel
theorem dX8_eat_11 : decode cX8_eat 11 = .ok (.dup, 1) := by decide +kernel
theorem dX8_eat_12 : decode cX8_eat 12 = .ok (.getfield 127, 3) := by decide +kernel
theorem dX8_eat_15 : decode cX8_eat 15 = .ok (.iconst 1, 1) := by decide +kernel
theorem dX8_eat_16 : decode cX8_eat 16 = .ok (.iadd, 1) := by decide +kernel
theorem dX8_eat_17 : decode cX8_eat 17 = .ok (.putfield 127, 3) := by decide +kernel
theorem dX8_eat_20 : decode cX8_eat 20 = .ok (.iconst 1, 1) := by decide +kernel
theorem dX8_eat_21 : decode cX8_eat 21 = .ok (.ireturn, 1) := by decide +kernel
theorem dX8_eatSign_0 : decode cX8_eatSign 0 = .ok (.aload_n 0, 1) := by decide +kernel
theorem dX8_eatSign_1 : decode cX8_eatSign 1 = .ok (.bipush 50, 2) := by decide +kernel
theorem dX8_eatSign_3 : decode cX8_eatSign 3 = .ok (.iload_n 1, 1) := by decide +kernel
theorem dX8_eatSign_4 : decode cX8_eatSign 4 = .ok (.iadd, 1) := by decide +kernel
theorem dX8_eatSign_5 : decode cX8_eatSign 5 = .ok (.invokevirtual 133, 3) := by decide +kernel
theorem dX8_eatSign_8 : decode cX8_eatSign 8 = .ok (.ireturn, 1) := by decide +kernel
theorem dX8_eatAs_0 : decode cX8_eatAs 0 = .ok (.aload_n 0, 1) := by decide +kernel
theorem dX8_eatAs_1 : decode cX8_eatAs 1 = .ok (.getfield 26, 3) := by decide +kernel
theorem dX8_eatAs_4 : decode cX8_eatAs 4 = .ok (.aload_n 0, 1) := by decide +kernel
theorem dX8_eatAs_5 : decode cX8_eatAs 5 = .ok (.getfield 127, 3) := by decide +kernel
theorem dX8_eatAs_8 : decode cX8_eatAs 8 = .ok (.iload_n 2, 1) := by decide +kernel
theorem dX8_eatAs_9 : decode cX8_eatAs 9 = .ok (.iastore, 1) := by decide +kernel
theorem dX8_eatAs_10 : decode cX8_eatAs 10 = .ok (.aload_n 0, 1) := by decide +kernel
theorem dX8_eatAs_11 : decode cX8_eatAs 11 = .ok (.iload_n 1, 1) := by decide +kernel
theorem dX8_eatAs_12 : decode cX8_eatAs 12 = .ok (.invokevirtual 133, 3) := by decide +kernel
theorem dX8_eatAs_15 : decode cX8_eatAs 15 = .ok (.ireturn, 1) := by decide +kernel
theorem dX8_put_0 : decode cX8_put 0 = .ok (.aload_n 0, 1) := by decide +kernel
theorem dX8_put_1 : decode cX8_put 1 = .ok (.getfield 39, 3) := by decide +kernel
theorem dX8_put_4 : decode cX8_put 4 = .ok (.getfield 136, 3) := by decide +kernel
theorem dX8_put_7 : decode cX8_put 7 = .ok (.aload_n 0, 1) := by decide +kernel
theorem dX8_put_8 : decode cX8_put 8 = .ok (.getfield 39, 3) := by decide +kernel
theorem dX8_put_11 : decode cX8_put 11 = .ok (.getfield 139, 3) := by decide +kernel
theorem dX8_put_14 : decode cX8_put 14 = .ok (.iload_n 1, 1) := by decide +kernel
theorem dX8_put_15 : decode cX8_put 15 = .ok (.iastore, 1) := by decide +kernel
theorem dX8_put_16 : decode cX8_put 16 = .ok (.aload_n 0, 1) := by decide +kernel
theorem dX8_put_17 : decode cX8_put 17 = .ok (.getfield 39, 3) := by decide +kernel
theorem dX8_put_20 : decode cX8_put 20 = .ok (.dup, 1) := by decide +kernel
theorem dX8_put_21 : decode cX8_put 21 = .ok (.getfield 139, 3) := by decide +kernel
theorem dX8_put_24 : decode cX8_put 24 = .ok (.iconst 1, 1) := by decide +kernel
theorem dX8_put_25 : decode cX8_put 25 = .ok (.iadd, 1) := by decide +kernel
theorem dX8_put_26 : decode cX8_put 26 = .ok (.putfield 139, 3) := by decide +kernel
theorem dX8_put_29 : decode cX8_put 29 = .ok (.return_, 1) := by decide +kernel
theorem dX8_isEnd_0 : decode cX8_isEnd 0 = .ok (.aload_n 0, 1) := by decide +kernel
theorem dX8_isEnd_1 : decode cX8_isEnd 1 = .ok (.getfield 26, 3) := by decide +kernel
theorem dX8_isEnd_4 : decode cX8_isEnd 4 = .ok (.aload_n 0, 1) := by decide +kernel
theorem dX8_isEnd_5 : decode cX8_isEnd 5 = .ok (.getfield 127, 3) := by decide +kernel
theorem dX8_isEnd_8 : decode cX8_isEnd 8 = .ok (.iload_n 1, 1) := by decide +kernel
theorem dX8_isEnd_9 : decode cX8_isEnd 9 = .ok (.iastore, 1) := by decide +kernel
theorem dX8_isEnd_10 : decode cX8_isEnd 10 = .ok (.aload_n 0, 1) := by decide +kernel
theorem dX8_isEnd_11 : decode cX8_isEnd 11 = .ok (.bipush 12, 2) := by decide +kernel
theorem dX8_isEnd_13 : decode cX8_isEnd 13 = .ok (.invokevirtual 133, 3) := by decide +kernel
theorem dX8_isEnd_16 : decode cX8_isEnd 16 = .ok (.ifCond .ne 12, 3) := by decide +kernel
theorem dX8_isEnd_19 : decode cX8_isEnd 19 = .ok (.aload_n 0, 1) := by decide +kernel
theorem dX8_isEnd_20 : decode cX8_isEnd 20 = .ok (.bipush 13, 2) := by decide +kernel
theorem dX8_isEnd_22 : decode cX8_isEnd 22 = .ok (.invokevirtual 133, 3) := by decide +kernel
theorem dX8_isEnd_25 : decode cX8_isEnd 25 = .ok (.ifCond .eq 7, 3) := by decide +kernel
theorem dX8_isEnd_28 : decode cX8_isEnd 28 = .ok (.iconst 1, 1) := by decide +kernel
theorem dX8_isEnd_29 : decode cX8_isEnd 29 = .ok (.goto 4, 3) := by decide +kernel
theorem dX8_isEnd_32 : decode cX8_isEnd 32 = .ok (.iconst 0, 1) := by decide +kernel
theorem dX8_isEnd_33 : decode cX8_isEnd 33 = .ok (.ireturn, 1) := by decide +kernel
theorem dX8_isDeeper_0 : decode cX8_isDeeper 0 = .ok (.aload_n 0, 1) := by decide +kernel
theorem dX8_isDeeper_1 : decode cX8_isDeeper 1 = .ok (.getfield 189, 3) := by decide +kernel
theorem dX8_isDeeper_4 : decode cX8_isDeeper 4 = .ok (.bipush 8, 2) := by decide +kernel
theorem dX8_isDeeper_6 : decode cX8_isDeeper 6 = .ok (.if_icmp .ne 5, 3) := by decide +kernel
theorem dX8_isDeeper_9 : decode cX8_isDeeper 9 = .ok (.iconst 0, 1) := by decide +kernel
theorem dX8_isDeeper_10 : decode cX8_isDeeper 10 = .ok (.ireturn, 1) := by decide +kernel
theorem dX8_isDeeper_11 : decode cX8_isDeeper 11 = .ok (.aload_n 0, 1) := by decide +kernel
theorem dX8_isDeeper_12 : decode cX8_isDeeper 12 = .ok (.dup, 1) := by decide +kernel
theorem dX8_isDeeper_13 : decode cX8_isDeeper 13 = .ok (.getfield 189, 3) := by decide +kernel
theorem dX8_isDeeper_16 : decode cX8_isDeeper 16 = .ok (.iconst 1, 1) := by decide +kernel
theorem dX8_isDeeper_17 : decode cX8_isDeeper 17 = .ok (.iadd, 1) := by decide +kernel
theorem dX8_isDeeper_18 : decode cX8_isDeeper 18 = .ok (.putfield 189, 3) := by decide +kernel
theorem dX8_isDeeper_21 : decode cX8_isDeeper 21 = .ok (.aload_n 0, 1) := by decide +kernel
theorem dX8_isDeeper_22 : decode cX8_isDeeper 22 = .ok (.dup, 1) := by decide +kernel
theorem dX8_isDeeper_23 : decode cX8_isDeeper 23 = .ok (.getfield 127, 3) := by decide +kernel
theorem dX8_isDeeper_26 : decode cX8_isDeeper 26 = .ok (.iconst 1, 1) := by decide +kernel
theorem dX8_isDeeper_27 : decode cX8_isDeeper 27 = .ok (.iadd, 1) := by decide +kernel
theorem dX8_isDeeper_28 : decode cX8_isDeeper 28 = .ok (.putfield 127, 3) := by decide +kernel
theorem dX8_isDeeper_31 : decode cX8_isDeeper 31 = .ok (.iconst 1, 1) := by decide +kernel
theorem dX8_isDeeper_32 : decode cX8_isDeeper 32 = .ok (.ireturn, 1) := by decide +kernel
theorem dX8_isNamed_0 : decode cX8_isNamed 0 = .ok (.aload_n 0, 1) := by decide +kernel
theorem dX8_isNamed_1 : decode cX8_isNamed 1 = .ok (.aload_n 0, 1) := by decide +kernel
theorem dX8_isNamed_2 : decode cX8_isNamed 2 = .ok (.getfield 17, 3) := by decide +kernel
theorem dX8_isNamed_5 : decode cX8_isNamed 5 = .ok (.aload_n 0, 1) := by decide +kernel
theorem dX8_isNamed_6 : decode cX8_isNamed 6 = .ok (.getfield 127, 3) := by decide +kernel
theorem dX8_isNamed_9 : decode cX8_isNamed 9 = .ok (.iaload, 1) := by decide +kernel
theorem dX8_isNamed_10 : decode cX8_isNamed 10 = .ok (.invokevirtual 182, 3) := by decide +kernel
theorem dX8_isNamed_13 : decode cX8_isNamed 13 = .ok (.aload_n 0, 1) := by decide +kernel
theorem dX8_isNamed_14 : decode cX8_isNamed 14 = .ok (.dup, 1) := by decide +kernel
theorem dX8_isNamed_15 : decode cX8_isNamed 15 = .ok (.getfield 127, 3) := by decide +kernel
theorem dX8_isNamed_18 : decode cX8_isNamed 18 = .ok (.iconst 1, 1) := by decide +kernel
theorem dX8_isNamed_19 : decode cX8_isNamed 19 = .ok (.iadd, 1) := by decide +kernel
theorem dX8_isNamed_20 : decode cX8_isNamed 20 = .ok (.putfield 127, 3) := by decide +kernel
theorem dX8_isNamed_23 : decode cX8_isNamed 23 = .ok (.aload_n 0, 1) := by decide +kernel
theorem dX8_isNamed_24 : decode cX8_isNamed 24 = .ok (.getfield 39, 3) := by decide +kernel
theorem dX8_isNamed_27 : decode cX8_isNamed 27 = .ok (.getfield 192, 3) := by decide +kernel
theorem dX8_isNamed_30 : decode cX8_isNamed 30 = .ok (.aload_n 0, 1) := by decide +kernel
theorem dX8_isNamed_31 : decode cX8_isNamed 31 = .ok (.getfield 39, 3) := by decide +kernel
theorem dX8_isNamed_34 : decode cX8_isNamed 34 = .ok (.getfield 195, 3) := by decide +kernel
theorem dX8_isNamed_37 : decode cX8_isNamed 37 = .ok (.aload_n 0, 1) := by decide +kernel
theorem dX8_isNamed_38 : decode cX8_isNamed 38 = .ok (.getfield 39, 3) := by decide +kernel
theorem dX8_isNamed_41 : decode cX8_isNamed 41 = .ok (.getfield 139, 3) := by decide +kernel
theorem dX8_isNamed_44 : decode cX8_isNamed 44 = .ok (.iastore, 1) := by decide +kernel
theorem dX8_isNamed_45 : decode cX8_isNamed 45 = .ok (.aload_n 0, 1) := by decide +kernel
theorem dX8_isNamed_46 : decode cX8_isNamed 46 = .ok (.getfield 39, 3) := by decide +kernel
theorem dX8_isNamed_49 : decode cX8_isNamed 49 = .ok (.dup, 1) := by decide +kernel
theorem dX8_isNamed_50 : decode cX8_isNamed 50 = .ok (.getfield 195, 3) := by decide +kernel
theorem dX8_isNamed_53 : decode cX8_isNamed 53 = .ok (.iconst 1, 1) := by decide +kernel
theorem dX8_isNamed_54 : decode cX8_isNamed 54 = .ok (.iadd, 1) := by decide +kernel
theorem dX8_isNamed_55 : decode cX8_isNamed 55 = .ok (.putfield 195, 3) := by decide +kernel
theorem dX8_isNamed_58 : decode cX8_isNamed 58 = .ok (.aload_n 0, 1) := by decide +kernel
theorem dX8_isNamed_59 : decode cX8_isNamed 59 = .ok (.aload_n 0, 1) := by decide +kernel
theorem dX8_isNamed_60 : decode cX8_isNamed 60 = .ok (.getfield 127, 3) := by decide +kernel
theorem dX8_isNamed_63 : decode cX8_isNamed 63 = .ok (.invokevirtual 182, 3) := by decide +kernel
theorem dX8_isNamed_66 : decode cX8_isNamed 66 = .ok (.aload_n 0, 1) := by decide +kernel
theorem dX8_isNamed_67 : decode cX8_isNamed 67 = .ok (.bipush 40, 2) := by decide +kernel
theorem dX8_isNamed_69 : decode cX8_isNamed 69 = .ok (.iload_n 1, 1) := by decide +kernel
theorem dX8_isNamed_70 : decode cX8_isNamed 70 = .ok (.invokevirtual 160, 3) := by decide +kernel
theorem dX8_isNamed_73 : decode cX8_isNamed 73 = .ok (.ireturn, 1) := by decide +kernel
theorem dX8_look_0 : decode cX8_look 0 = .ok (.aload_n 0, 1) := by decide +kernel
theorem dX8_look_1 : decode cX8_look 1 = .ok (.getfield 29, 3) := by decide +kernel
theorem dX8_look_4 : decode cX8_look 4 = .ok (.iload_n 1, 1) := by decide +kernel
theorem dX8_look_5 : decode cX8_look 5 = .ok (.aload_n 0, 1) := by decide +kernel
theorem dX8_look_6 : decode cX8_look 6 = .ok (.iload_n 1, 1) := by decide +kernel
theorem dX8_look_7 : decode cX8_look 7 = .ok (.iload_n 2, 1) := by decide +kernel
theorem dX8_look_8 : decode cX8_look 8 = .ok (.invokevirtual 226, 3) := by decide +kernel
theorem dX8_look_11 : decode cX8_look 11 = .ok (.iastore, 1) := by decide +kernel
theorem dX8_look_12 : decode cX8_look 12 = .ok (.aload_n 0, 1) := by decide +kernel
theorem dX8_look_13 : decode cX8_look 13 = .ok (.getfield 29, 3) := by decide +kernel
theorem dX8_look_16 : decode cX8_look 16 = .ok (.iload_n 1, 1) := by decide +kernel
theorem dX8_look_17 : decode cX8_look 17 = .ok (.iaload, 1) := by decide +kernel
theorem dX8_look_18 : decode cX8_look 18 = .ok (.iconst (-1), 1) := by decide +kernel
theorem dX8_look_19 : decode cX8_look 19 = .ok (.if_icmp .ne 7, 3) := by decide +kernel
theorem dX8_look_22 : decode cX8_look 22 = .ok (.iconst 3, 1) := by decide +kernel
theorem dX8_look_23 : decode cX8_look 23 = .ok (.goto 4, 3) := by decide +kernel
theorem dX8_look_26 : decode cX8_look 26 = .ok (.iconst 0, 1) := by decide +kernel
theorem dX8_look_27 : decode cX8_look 27 = .ok (.ireturn, 1) := by decide +kernel
theorem dX8_order_0 : decode cX8_order 0 = .ok (.aload_n 0, 1) := by decide +kernel
theorem dX8_order_1 : decode cX8_order 1 = .ok (.getfield 39, 3) := by decide +kernel
theorem dX8_order_4 : decode cX8_order 4 = .ok (.astore_n 2, 1) := by decide +kernel
theorem dX8_order_5 : decode cX8_order 5 = .ok (.aload_n 2, 1) := by decide +kernel
theorem dX8_order_6 : decode cX8_order 6 = .ok (.getfield 229, 3) := by decide +kernel
theorem dX8_order_9 : decode cX8_order 9 = .ok (.bipush 16, 2) := by decide +kernel
theorem dX8_order_11 : decode cX8_order 11 = .ok (.if_icmp .ne 5, 3) := by decide +kernel
theorem dX8_order_14 : decode cX8_order 14 = .ok (.iconst 4, 1) := by decide +kernel
theorem dX8_order_15 : decode cX8_order 15 = .ok (.ireturn, 1) := by decide +kernel
theorem dX8_order_16 : decode cX8_order 16 = .ok (.aload_n 2, 1) := by decide +kernel
theorem dX8_order_17 : decode cX8_order 17 = .ok (.getfield 232, 3) := by decide +kernel
theorem dX8_order_20 : decode cX8_order 20 = .ok (.aload_n 2, 1) := by decide +kernel
theorem dX8_order_21 : decode cX8_order 21 = .ok (.getfield 229, 3) := by decide +kernel
theorem dX8_order_24 : decode cX8_order 24 = .ok (.iload_n 1, 1) := by decide +kernel
theorem dX8_order_25 : decode cX8_order 25 = .ok (.iastore, 1) := by decide +kernel
theorem dX8_order_26 : decode cX8_order 26 = .ok (.aload_n 2, 1) := by decide +kernel
theorem dX8_order_27 : decode cX8_order 27 = .ok (.dup, 1) := by decide +kernel
theorem dX8_order_28 : decode cX8_order 28 = .ok (.getfield 229, 3) := by decide +kernel
theorem dX8_order_31 : decode cX8_order 31 = .ok (.iconst 1, 1) := by decide +kernel
theorem dX8_order_32 : decode cX8_order 32 = .ok (.iadd, 1) := by decide +kernel
theorem dX8_order_33 : decode cX8_order 33 = .ok (.putfield 229, 3) := by decide +kernel
theorem dX8_order_36 : decode cX8_order 36 = .ok (.iconst 0, 1) := by decide +kernel
theorem dX8_order_37 : decode cX8_order 37 = .ok (.ireturn, 1) := by decide +kernel
theorem dX8_crewed_0 : decode cX8_crewed 0 = .ok (.aload_n 0, 1) := by decide +kernel
theorem dX8_crewed_1 : decode cX8_crewed 1 = .ok (.iload_n 1, 1) := by decide +kernel
theorem dX8_crewed_2 : decode cX8_crewed 2 = .ok (.iconst 3, 1) := by decide +kernel
theorem dX8_crewed_3 : decode cX8_crewed 3 = .ok (.invokevirtual 235, 3) := by decide +kernel
theorem dX8_crewed_6 : decode cX8_crewed 6 = .ok (.istore_n 3, 1) := by decide +kernel
theorem dX8_crewed_7 : decode cX8_crewed 7 = .ok (.aload_n 0, 1) := by decide +kernel
theorem dX8_crewed_8 : decode cX8_crewed 8 = .ok (.getfield 39, 3) := by decide +kernel
theorem dX8_crewed_11 : decode cX8_crewed 11 = .ok (.getfield 238, 3) := by decide +kernel
theorem dX8_crewed_14 : decode cX8_crewed 14 = .ok (.aload_n 0, 1) := by decide +kernel
theorem dX8_crewed_15 : decode cX8_crewed 15 = .ok (.getfield 39, 3) := by decide +kernel
theorem dX8_crewed_18 : decode cX8_crewed 18 = .ok (.getfield 73, 3) := by decide +kernel
theorem dX8_crewed_21 : decode cX8_crewed 21 = .ok (.iconst 1, 1) := by decide +kernel
theorem dX8_crewed_22 : decode cX8_crewed 22 = .ok (.isub, 1) := by decide +kernel
theorem dX8_crewed_23 : decode cX8_crewed 23 = .ok (.aaload, 1) := by decide +kernel
theorem dX8_crewed_24 : decode cX8_crewed 24 = .ok (.astore 4, 2) := by decide +kernel
theorem dX8_crewed_26 : decode cX8_crewed 26 = .ok (.aload 4, 2) := by decide +kernel
theorem dX8_crewed_28 : decode cX8_crewed 28 = .ok (.iload_n 2, 1) := by decide +kernel
theorem dX8_crewed_29 : decode cX8_crewed 29 = .ok (.aload_n 0, 1) := by decide +kernel
theorem dX8_crewed_30 : decode cX8_crewed 30 = .ok (.getfield 29, 3) := by decide +kernel
theorem dX8_crewed_33 : decode cX8_crewed 33 = .ok (.iload_n 1, 1) := by decide +kernel
theorem dX8_crewed_34 : decode cX8_crewed 34 = .ok (.iaload, 1) := by decide +kernel
theorem dX8_crewed_35 : decode cX8_crewed 35 = .ok (.iastore, 1) := by decide +kernel
theorem dX8_crewed_36 : decode cX8_crewed 36 = .ok (.iload_n 3, 1) := by decide +kernel
theorem dX8_crewed_37 : decode cX8_crewed 37 = .ok (.ifCond .ne 23, 3) := by decide +kernel
theorem dX8_crewed_40 : decode cX8_crewed 40 = .ok (.iload_n 2, 1) := by decide +kernel
theorem dX8_crewed_41 : decode cX8_crewed 41 = .ok (.iconst 1, 1) := by decide +kernel
theorem dX8_crewed_42 : decode cX8_crewed 42 = .ok (.if_icmp .ne 18, 3) := by decide +kernel
theorem dX8_crewed_45 : decode cX8_crewed 45 = .ok (.aload 4, 2) := by decide +kernel
theorem dX8_crewed_47 : decode cX8_crewed 47 = .ok (.iconst 0, 1) := by decide +kernel
theorem dX8_crewed_48 : decode cX8_crewed 48 = .ok (.iaload, 1) := by decide +kernel
theorem dX8_crewed_49 : decode cX8_crewed 49 = .ok (.aload 4, 2) := by decide +kernel
theorem dX8_crewed_51 : decode cX8_crewed 51 = .ok (.iconst 1, 1) := by decide +kernel
theorem dX8_crewed_52 : decode cX8_crewed 52 = .ok (.iaload, 1) := by decide +kernel
theorem dX8_crewed_53 : decode cX8_crewed 53 = .ok (.if_icmp .ne 7, 3) := by decide +kernel
theorem dX8_crewed_56 : decode cX8_crewed 56 = .ok (.iconst 5, 1) := by decide +kernel
theorem dX8_crewed_57 : decode cX8_crewed 57 = .ok (.goto 4, 3) := by decide +kernel
theorem dX8_crewed_60 : decode cX8_crewed 60 = .ok (.iload_n 3, 1) := by decide +kernel
theorem dX8_crewed_61 : decode cX8_crewed 61 = .ok (.ireturn, 1) := by decide +kernel
theorem dX8_dug_0 : decode cX8_dug 0 = .ok (.aload_n 0, 1) := by decide +kernel
theorem dX8_dug_1 : decode cX8_dug 1 = .ok (.getfield 39, 3) := by decide +kernel
theorem dX8_dug_4 : decode cX8_dug 4 = .ok (.astore_n 2, 1) := by decide +kernel
theorem dX8_dug_5 : decode cX8_dug 5 = .ok (.aload_n 2, 1) := by decide +kernel
theorem dX8_dug_6 : decode cX8_dug 6 = .ok (.getfield 67, 3) := by decide +kernel
theorem dX8_dug_9 : decode cX8_dug 9 = .ok (.iconst 1, 1) := by decide +kernel
theorem dX8_dug_10 : decode cX8_dug 10 = .ok (.isub, 1) := by decide +kernel
theorem dX8_dug_11 : decode cX8_dug 11 = .ok (.istore_n 3, 1) := by decide +kernel
theorem dX8_dug_12 : decode cX8_dug 12 = .ok (.aload_n 0, 1) := by decide +kernel
theorem dX8_dug_13 : decode cX8_dug 13 = .ok (.iload_n 1, 1) := by decide +kernel
theorem dX8_dug_14 : decode cX8_dug 14 = .ok (.iconst 1, 1) := by decide +kernel
theorem dX8_dug_15 : decode cX8_dug 15 = .ok (.bipush 12, 2) := by decide +kernel
theorem dX8_dug_17 : decode cX8_dug 17 = .ok (.invokevirtual 267, 3) := by decide +kernel
theorem dX8_dug_20 : decode cX8_dug 20 = .ok (.istore 4, 2) := by decide +kernel
theorem dX8_dug_22 : decode cX8_dug 22 = .ok (.iload 4, 2) := by decide +kernel
theorem dX8_dug_24 : decode cX8_dug 24 = .ok (.ifCond .le 6, 3) := by decide +kernel
theorem dX8_dug_27 : decode cX8_dug 27 = .ok (.iload 4, 2) := by decide +kernel
theorem dX8_dug_29 : decode cX8_dug 29 = .ok (.ireturn, 1) := by decide +kernel
theorem dX8_dug_30 : decode cX8_dug 30 = .ok (.aload_n 2, 1) := by decide +kernel
theorem dX8_dug_31 : decode cX8_dug 31 = .ok (.getfield 270, 3) := by decide +kernel
theorem dX8_dug_34 : decode cX8_dug 34 = .ok (.iload_n 3, 1) := by decide +kernel
theorem dX8_dug_35 : decode cX8_dug 35 = .ok (.aload_n 0, 1) := by decide +kernel
theorem dX8_dug_36 : decode cX8_dug 36 = .ok (.iload_n 1, 1) := by decide +kernel
theorem dX8_dug_37 : decode cX8_dug 37 = .ok (.invokevirtual 216, 3) := by decide +kernel
theorem dX8_dug_40 : decode cX8_dug 40 = .ok (.iastore, 1) := by decide +kernel
theorem dX8_dug_41 : decode cX8_dug 41 = .ok (.aload_n 2, 1) := by decide +kernel
theorem dX8_dug_42 : decode cX8_dug 42 = .ok (.getfield 273, 3) := by decide +kernel
theorem dX8_dug_45 : decode cX8_dug 45 = .ok (.iload_n 3, 1) := by decide +kernel
theorem dX8_dug_46 : decode cX8_dug 46 = .ok (.aload_n 2, 1) := by decide +kernel
theorem dX8_dug_47 : decode cX8_dug 47 = .ok (.getfield 60, 3) := by decide +kernel
theorem dX8_dug_50 : decode cX8_dug 50 = .ok (.iastore, 1) := by decide +kernel
theorem dX8_dug_51 : decode cX8_dug 51 = .ok (.iconst 0, 1) := by decide +kernel
theorem dX8_dug_52 : decode cX8_dug 52 = .ok (.istore 5, 2) := by decide +kernel
theorem dX8_dug_54 : decode cX8_dug 54 = .ok (.iload 5, 2) := by decide +kernel
theorem dX8_dug_56 : decode cX8_dug 56 = .ok (.aload_n 2, 1) := by decide +kernel
theorem dX8_dug_57 : decode cX8_dug 57 = .ok (.getfield 270, 3) := by decide +kernel
theorem dX8_dug_60 : decode cX8_dug 60 = .ok (.iload_n 3, 1) := by decide +kernel
theorem dX8_dug_61 : decode cX8_dug 61 = .ok (.iaload, 1) := by decide +kernel
theorem dX8_dug_62 : decode cX8_dug 62 = .ok (.if_icmp .ge 29, 3) := by decide +kernel
theorem dX8_dug_65 : decode cX8_dug 65 = .ok (.aload_n 2, 1) := by decide +kernel
theorem dX8_dug_66 : decode cX8_dug 66 = .ok (.getfield 276, 3) := by decide +kernel
theorem dX8_dug_69 : decode cX8_dug 69 = .ok (.aload_n 2, 1) := by decide +kernel
theorem dX8_dug_70 : decode cX8_dug 70 = .ok (.getfield 60, 3) := by decide +kernel
theorem dX8_dug_73 : decode cX8_dug 73 = .ok (.iload_n 3, 1) := by decide +kernel
theorem dX8_dug_74 : decode cX8_dug 74 = .ok (.iastore, 1) := by decide +kernel
theorem dX8_dug_75 : decode cX8_dug 75 = .ok (.aload_n 2, 1) := by decide +kernel
theorem dX8_dug_76 : decode cX8_dug 76 = .ok (.dup, 1) := by decide +kernel
theorem dX8_dug_77 : decode cX8_dug 77 = .ok (.getfield 60, 3) := by decide +kernel
theorem dX8_dug_80 : decode cX8_dug 80 = .ok (.iconst 1, 1) := by decide +kernel
theorem dX8_dug_81 : decode cX8_dug 81 = .ok (.iadd, 1) := by decide +kernel
theorem dX8_dug_82 : decode cX8_dug 82 = .ok (.putfield 60, 3) := by decide +kernel
theorem dX8_dug_85 : decode cX8_dug 85 = .ok (.iinc 5 1, 3) := by decide +kernel
theorem dX8_dug_88 : decode cX8_dug 88 = .ok (.goto (-34), 3) := by decide +kernel
theorem dX8_dug_91 : decode cX8_dug 91 = .ok (.iconst 0, 1) := by decide +kernel
theorem dX8_dug_92 : decode cX8_dug 92 = .ok (.ireturn, 1) := by decide +kernel
theorem dX8_numberOf_0 : decode cX8_numberOf 0 = .ok (.aload_n 0, 1) := by decide +kernel
theorem dX8_numberOf_1 : decode cX8_numberOf 1 = .ok (.getfield 39, 3) := by decide +kernel
theorem dX8_numberOf_4 : decode cX8_numberOf 4 = .ok (.astore_n 2, 1) := by decide +kernel
theorem dX8_numberOf_5 : decode cX8_numberOf 5 = .ok (.aload_n 0, 1) := by decide +kernel
theorem dX8_numberOf_6 : decode cX8_numberOf 6 = .ok (.getfield 26, 3) := by decide +kernel
theorem dX8_numberOf_9 : decode cX8_numberOf 9 = .ok (.iload_n 1, 1) := by decide +kernel
theorem dX8_numberOf_10 : decode cX8_numberOf 10 = .ok (.iaload, 1) := by decide +kernel
theorem dX8_numberOf_11 : decode cX8_numberOf 11 = .ok (.tableswitch 235 7 15 #[49, 55, 80, 109, 134, 159, 184, 235, 209], 49) := by decide +kernel
theorem dX8_numberOf_60 : decode cX8_numberOf 60 = .ok (.aload_n 0, 1) := by decide +kernel
theorem dX8_numberOf_61 : decode cX8_numberOf 61 = .ok (.iload_n 1, 1) := by decide +kernel
theorem dX8_numberOf_62 : decode cX8_numberOf 62 = .ok (.invokevirtual 279, 3) := by decide +kernel
theorem dX8_numberOf_65 : decode cX8_numberOf 65 = .ok (.ireturn, 1) := by decide +kernel
theorem dX8_numberOf_66 : decode cX8_numberOf 66 = .ok (.aload_n 2, 1) := by decide +kernel
theorem dX8_numberOf_67 : decode cX8_numberOf 67 = .ok (.getfield 282, 3) := by decide +kernel
theorem dX8_numberOf_70 : decode cX8_numberOf 70 = .ok (.aload_n 2, 1) := by decide +kernel
theorem dX8_numberOf_71 : decode cX8_numberOf 71 = .ok (.getfield 67, 3) := by decide +kernel
theorem dX8_numberOf_74 : decode cX8_numberOf 74 = .ok (.iconst 1, 1) := by decide +kernel
theorem dX8_numberOf_75 : decode cX8_numberOf 75 = .ok (.isub, 1) := by decide +kernel
theorem dX8_numberOf_76 : decode cX8_numberOf 76 = .ok (.aload_n 0, 1) := by decide +kernel
theorem dX8_numberOf_77 : decode cX8_numberOf 77 = .ok (.iload_n 1, 1) := by decide +kernel
theorem dX8_numberOf_78 : decode cX8_numberOf 78 = .ok (.invokevirtual 216, 3) := by decide +kernel
theorem dX8_numberOf_81 : decode cX8_numberOf 81 = .ok (.iastore, 1) := by decide +kernel
theorem dX8_numberOf_82 : decode cX8_numberOf 82 = .ok (.aload_n 0, 1) := by decide +kernel
theorem dX8_numberOf_83 : decode cX8_numberOf 83 = .ok (.iload_n 1, 1) := by decide +kernel
theorem dX8_numberOf_84 : decode cX8_numberOf 84 = .ok (.iconst 0, 1) := by decide +kernel
theorem dX8_numberOf_85 : decode cX8_numberOf 85 = .ok (.bipush 9, 2) := by decide +kernel
theorem dX8_numberOf_87 : decode cX8_numberOf 87 = .ok (.invokevirtual 267, 3) := by decide +kernel
theorem dX8_numberOf_90 : decode cX8_numberOf 90 = .ok (.ireturn, 1) := by decide +kernel
theorem dX8_numberOf_91 : decode cX8_numberOf 91 = .ok (.aload_n 2, 1) := by decide +kernel
theorem dX8_numberOf_92 : decode cX8_numberOf 92 = .ok (.getfield 285, 3) := by decide +kernel
theorem dX8_numberOf_95 : decode cX8_numberOf 95 = .ok (.aload_n 2, 1) := by decide +kernel
theorem dX8_numberOf_96 : decode cX8_numberOf 96 = .ok (.getfield 246, 3) := by decide +kernel
theorem dX8_numberOf_99 : decode cX8_numberOf 99 = .ok (.iconst 1, 1) := by decide +kernel
theorem dX8_numberOf_100 : decode cX8_numberOf 100 = .ok (.isub, 1) := by decide +kernel
theorem dX8_numberOf_101 : decode cX8_numberOf 101 = .ok (.aload_n 0, 1) := by decide +kernel
theorem dX8_numberOf_102 : decode cX8_numberOf 102 = .ok (.iload_n 1, 1) := by decide +kernel
theorem dX8_numberOf_103 : decode cX8_numberOf 103 = .ok (.invokevirtual 216, 3) := by decide +kernel
theorem dX8_numberOf_106 : decode cX8_numberOf 106 = .ok (.iastore, 1) := by decide +kernel
theorem dX8_numberOf_107 : decode cX8_numberOf 107 = .ok (.aload_n 0, 1) := by decide +kernel
theorem dX8_numberOf_108 : decode cX8_numberOf 108 = .ok (.iload_n 1, 1) := by decide +kernel
theorem dX8_numberOf_109 : decode cX8_numberOf 109 = .ok (.iconst 0, 1) := by decide +kernel
theorem dX8_numberOf_110 : decode cX8_numberOf 110 = .ok (.aload_n 2, 1) := by decide +kernel
theorem dX8_numberOf_111 : decode cX8_numberOf 111 = .ok (.getfield 60, 3) := by decide +kernel
theorem dX8_numberOf_114 : decode cX8_numberOf 114 = .ok (.iconst 1, 1) := by decide +kernel
theorem dX8_numberOf_115 : decode cX8_numberOf 115 = .ok (.isub, 1) := by decide +kernel
theorem dX8_numberOf_116 : decode cX8_numberOf 116 = .ok (.invokevirtual 267, 3) := by decide +kernel
theorem dX8_numberOf_119 : decode cX8_numberOf 119 = .ok (.ireturn, 1) := by decide +kernel
theorem dX8_numberOf_120 : decode cX8_numberOf 120 = .ok (.aload_n 2, 1) := by decide +kernel
theorem dX8_numberOf_121 : decode cX8_numberOf 121 = .ok (.getfield 288, 3) := by decide +kernel
theorem dX8_numberOf_124 : decode cX8_numberOf 124 = .ok (.aload_n 2, 1) := by decide +kernel
theorem dX8_numberOf_125 : decode cX8_numberOf 125 = .ok (.getfield 246, 3) := by decide +kernel
theorem dX8_numberOf_128 : decode cX8_numberOf 128 = .ok (.iconst 1, 1) := by decide +kernel
theorem dX8_numberOf_129 : decode cX8_numberOf 129 = .ok (.isub, 1) := by decide +kernel
theorem dX8_numberOf_130 : decode cX8_numberOf 130 = .ok (.aload_n 0, 1) := by decide +kernel
theorem dX8_numberOf_131 : decode cX8_numberOf 131 = .ok (.iload_n 1, 1) := by decide +kernel
theorem dX8_numberOf_132 : decode cX8_numberOf 132 = .ok (.invokevirtual 216, 3) := by decide +kernel
theorem dX8_numberOf_135 : decode cX8_numberOf 135 = .ok (.iastore, 1) := by decide +kernel
theorem dX8_numberOf_136 : decode cX8_numberOf 136 = .ok (.aload_n 0, 1) := by decide +kernel
theorem dX8_numberOf_137 : decode cX8_numberOf 137 = .ok (.iload_n 1, 1) := by decide +kernel
theorem dX8_numberOf_138 : decode cX8_numberOf 138 = .ok (.iconst 1, 1) := by decide +kernel
theorem dX8_numberOf_139 : decode cX8_numberOf 139 = .ok (.bipush 30, 2) := by decide +kernel
theorem dX8_numberOf_141 : decode cX8_numberOf 141 = .ok (.invokevirtual 267, 3) := by decide +kernel
theorem dX8_numberOf_144 : decode cX8_numberOf 144 = .ok (.ireturn, 1) := by decide +kernel
theorem dX8_numberOf_145 : decode cX8_numberOf 145 = .ok (.aload_n 2, 1) := by decide +kernel
theorem dX8_numberOf_146 : decode cX8_numberOf 146 = .ok (.getfield 291, 3) := by decide +kernel
theorem dX8_numberOf_149 : decode cX8_numberOf 149 = .ok (.aload_n 2, 1) := by decide +kernel
theorem dX8_numberOf_150 : decode cX8_numberOf 150 = .ok (.getfield 70, 3) := by decide +kernel
theorem dX8_numberOf_153 : decode cX8_numberOf 153 = .ok (.iconst 1, 1) := by decide +kernel
theorem dX8_numberOf_154 : decode cX8_numberOf 154 = .ok (.isub, 1) := by decide +kernel
theorem dX8_numberOf_155 : decode cX8_numberOf 155 = .ok (.aload_n 0, 1) := by decide +kernel
theorem dX8_numberOf_156 : decode cX8_numberOf 156 = .ok (.iload_n 1, 1) := by decide +kernel
theorem dX8_numberOf_157 : decode cX8_numberOf 157 = .ok (.invokevirtual 216, 3) := by decide +kernel
theorem dX8_numberOf_160 : decode cX8_numberOf 160 = .ok (.iastore, 1) := by decide +kernel
theorem dX8_numberOf_161 : decode cX8_numberOf 161 = .ok (.aload_n 0, 1) := by decide +kernel
theorem dX8_numberOf_162 : decode cX8_numberOf 162 = .ok (.iload_n 1, 1) := by decide +kernel
theorem dX8_numberOf_163 : decode cX8_numberOf 163 = .ok (.iconst 1, 1) := by decide +kernel
theorem dX8_numberOf_164 : decode cX8_numberOf 164 = .ok (.bipush 9, 2) := by decide +kernel
theorem dX8_numberOf_166 : decode cX8_numberOf 166 = .ok (.invokevirtual 267, 3) := by decide +kernel
theorem dX8_numberOf_169 : decode cX8_numberOf 169 = .ok (.ireturn, 1) := by decide +kernel
theorem dX8_numberOf_170 : decode cX8_numberOf 170 = .ok (.aload_n 2, 1) := by decide +kernel
theorem dX8_numberOf_171 : decode cX8_numberOf 171 = .ok (.getfield 294, 3) := by decide +kernel
theorem dX8_numberOf_174 : decode cX8_numberOf 174 = .ok (.aload_n 2, 1) := by decide +kernel
theorem dX8_numberOf_175 : decode cX8_numberOf 175 = .ok (.getfield 70, 3) := by decide +kernel
theorem dX8_numberOf_178 : decode cX8_numberOf 178 = .ok (.iconst 1, 1) := by decide +kernel
theorem dX8_numberOf_179 : decode cX8_numberOf 179 = .ok (.isub, 1) := by decide +kernel
theorem dX8_numberOf_180 : decode cX8_numberOf 180 = .ok (.aload_n 0, 1) := by decide +kernel
theorem dX8_numberOf_181 : decode cX8_numberOf 181 = .ok (.iload_n 1, 1) := by decide +kernel
theorem dX8_numberOf_182 : decode cX8_numberOf 182 = .ok (.invokevirtual 216, 3) := by decide +kernel
theorem dX8_numberOf_185 : decode cX8_numberOf 185 = .ok (.iastore, 1) := by decide +kernel
theorem dX8_numberOf_186 : decode cX8_numberOf 186 = .ok (.aload_n 0, 1) := by decide +kernel
theorem dX8_numberOf_187 : decode cX8_numberOf 187 = .ok (.iload_n 1, 1) := by decide +kernel
theorem dX8_numberOf_188 : decode cX8_numberOf 188 = .ok (.iconst 1, 1) := by decide +kernel
theorem dX8_numberOf_189 : decode cX8_numberOf 189 = .ok (.bipush 9, 2) := by decide +kernel
theorem dX8_numberOf_191 : decode cX8_numberOf 191 = .ok (.invokevirtual 267, 3) := by decide +kernel
theorem dX8_numberOf_194 : decode cX8_numberOf 194 = .ok (.ireturn, 1) := by decide +kernel
theorem dX8_numberOf_195 : decode cX8_numberOf 195 = .ok (.aload_n 2, 1) := by decide +kernel
theorem dX8_numberOf_196 : decode cX8_numberOf 196 = .ok (.getfield 297, 3) := by decide +kernel
theorem dX8_numberOf_199 : decode cX8_numberOf 199 = .ok (.aload_n 2, 1) := by decide +kernel
theorem dX8_numberOf_200 : decode cX8_numberOf 200 = .ok (.getfield 73, 3) := by decide +kernel
theorem dX8_numberOf_203 : decode cX8_numberOf 203 = .ok (.iconst 1, 1) := by decide +kernel
theorem dX8_numberOf_204 : decode cX8_numberOf 204 = .ok (.isub, 1) := by decide +kernel
theorem dX8_numberOf_205 : decode cX8_numberOf 205 = .ok (.aload_n 0, 1) := by decide +kernel
theorem dX8_numberOf_206 : decode cX8_numberOf 206 = .ok (.iload_n 1, 1) := by decide +kernel
theorem dX8_numberOf_207 : decode cX8_numberOf 207 = .ok (.invokevirtual 216, 3) := by decide +kernel
theorem dX8_numberOf_210 : decode cX8_numberOf 210 = .ok (.iastore, 1) := by decide +kernel
theorem dX8_numberOf_211 : decode cX8_numberOf 211 = .ok (.aload_n 0, 1) := by decide +kernel
theorem dX8_numberOf_212 : decode cX8_numberOf 212 = .ok (.iload_n 1, 1) := by decide +kernel
theorem dX8_numberOf_213 : decode cX8_numberOf 213 = .ok (.iconst 1, 1) := by decide +kernel
theorem dX8_numberOf_214 : decode cX8_numberOf 214 = .ok (.bipush 60, 2) := by decide +kernel
theorem dX8_numberOf_216 : decode cX8_numberOf 216 = .ok (.invokevirtual 267, 3) := by decide +kernel
theorem dX8_numberOf_219 : decode cX8_numberOf 219 = .ok (.ireturn, 1) := by decide +kernel
theorem dX8_numberOf_220 : decode cX8_numberOf 220 = .ok (.aload_n 2, 1) := by decide +kernel
theorem dX8_numberOf_221 : decode cX8_numberOf 221 = .ok (.getfield 300, 3) := by decide +kernel
theorem dX8_numberOf_224 : decode cX8_numberOf 224 = .ok (.aload_n 2, 1) := by decide +kernel
theorem dX8_numberOf_225 : decode cX8_numberOf 225 = .ok (.getfield 73, 3) := by decide +kernel
theorem dX8_numberOf_228 : decode cX8_numberOf 228 = .ok (.iconst 1, 1) := by decide +kernel
theorem dX8_numberOf_229 : decode cX8_numberOf 229 = .ok (.isub, 1) := by decide +kernel
theorem dX8_numberOf_230 : decode cX8_numberOf 230 = .ok (.aload_n 0, 1) := by decide +kernel
theorem dX8_numberOf_231 : decode cX8_numberOf 231 = .ok (.iload_n 1, 1) := by decide +kernel
theorem dX8_numberOf_232 : decode cX8_numberOf 232 = .ok (.invokevirtual 216, 3) := by decide +kernel
theorem dX8_numberOf_235 : decode cX8_numberOf 235 = .ok (.iastore, 1) := by decide +kernel
theorem dX8_numberOf_236 : decode cX8_numberOf 236 = .ok (.aload_n 0, 1) := by decide +kernel
theorem dX8_numberOf_237 : decode cX8_numberOf 237 = .ok (.iload_n 1, 1) := by decide +kernel
theorem dX8_numberOf_238 : decode cX8_numberOf 238 = .ok (.iconst 0, 1) := by decide +kernel
theorem dX8_numberOf_239 : decode cX8_numberOf 239 = .ok (.sipush 999, 3) := by decide +kernel
theorem dX8_numberOf_242 : decode cX8_numberOf 242 = .ok (.invokevirtual 267, 3) := by decide +kernel
theorem dX8_numberOf_245 : decode cX8_numberOf 245 = .ok (.ireturn, 1) := by decide +kernel
theorem dX8_numberOf_246 : decode cX8_numberOf 246 = .ok (.iconst 0, 1) := by decide +kernel
theorem dX8_numberOf_247 : decode cX8_numberOf 247 = .ok (.ireturn, 1) := by decide +kernel
theorem dX8_errorOf_0 : decode cX8_errorOf 0 = .ok (.aload_n 0, 1) := by decide +kernel
theorem dX8_errorOf_1 : decode cX8_errorOf 1 = .ok (.getfield 39, 3) := by decide +kernel
theorem dX8_errorOf_4 : decode cX8_errorOf 4 = .ok (.astore_n 2, 1) := by decide +kernel
theorem dX8_errorOf_5 : decode cX8_errorOf 5 = .ok (.iconst 0, 1) := by decide +kernel
theorem dX8_errorOf_6 : decode cX8_errorOf 6 = .ok (.istore_n 3, 1) := by decide +kernel
theorem dX8_errorOf_7 : decode cX8_errorOf 7 = .ok (.aload_n 0, 1) := by decide +kernel
theorem dX8_errorOf_8 : decode cX8_errorOf 8 = .ok (.getfield 26, 3) := by decide +kernel
theorem dX8_errorOf_11 : decode cX8_errorOf 11 = .ok (.iload_n 1, 1) := by decide +kernel
theorem dX8_errorOf_12 : decode cX8_errorOf 12 = .ok (.iaload, 1) := by decide +kernel
theorem dX8_errorOf_13 : decode cX8_errorOf 13 = .ok (.tableswitch 330 1 21 #[99, 130, 161, 193, 225, 232, 330, 330, 330, 330, 330, 330, 330, 254, 330, 239, 239, 272, 290, 316, 323], 99) := by decide +kernel
theorem dX8_errorOf_112 : decode cX8_errorOf 112 = .ok (.aload_n 0, 1) := by decide +kernel
theorem dX8_errorOf_113 : decode cX8_errorOf 113 = .ok (.iload_n 1, 1) := by decide +kernel
theorem dX8_errorOf_114 : decode cX8_errorOf 114 = .ok (.aload_n 2, 1) := by decide +kernel
theorem dX8_errorOf_115 : decode cX8_errorOf 115 = .ok (.getfield 67, 3) := by decide +kernel
theorem dX8_errorOf_118 : decode cX8_errorOf 118 = .ok (.iconst 5, 1) := by decide +kernel
theorem dX8_errorOf_119 : decode cX8_errorOf 119 = .ok (.invokevirtual 242, 3) := by decide +kernel
theorem dX8_errorOf_122 : decode cX8_errorOf 122 = .ok (.istore_n 3, 1) := by decide +kernel
theorem dX8_errorOf_123 : decode cX8_errorOf 123 = .ok (.aload_n 2, 1) := by decide +kernel
theorem dX8_errorOf_124 : decode cX8_errorOf 124 = .ok (.dup, 1) := by decide +kernel
theorem dX8_errorOf_125 : decode cX8_errorOf 125 = .ok (.getfield 67, 3) := by decide +kernel
theorem dX8_errorOf_128 : decode cX8_errorOf 128 = .ok (.iload_n 3, 1) := by decide +kernel
theorem dX8_errorOf_129 : decode cX8_errorOf 129 = .ok (.ifCond .ne 7, 3) := by decide +kernel
theorem dX8_errorOf_132 : decode cX8_errorOf 132 = .ok (.iconst 1, 1) := by decide +kernel
theorem dX8_errorOf_133 : decode cX8_errorOf 133 = .ok (.goto 4, 3) := by decide +kernel
theorem dX8_errorOf_136 : decode cX8_errorOf 136 = .ok (.iconst 0, 1) := by decide +kernel
theorem dX8_errorOf_137 : decode cX8_errorOf 137 = .ok (.iadd, 1) := by decide +kernel
theorem dX8_errorOf_138 : decode cX8_errorOf 138 = .ok (.putfield 67, 3) := by decide +kernel
theorem dX8_errorOf_141 : decode cX8_errorOf 141 = .ok (.iload_n 3, 1) := by decide +kernel
theorem dX8_errorOf_142 : decode cX8_errorOf 142 = .ok (.ireturn, 1) := by decide +kernel
theorem dX8_errorOf_143 : decode cX8_errorOf 143 = .ok (.aload_n 0, 1) := by decide +kernel
theorem dX8_errorOf_144 : decode cX8_errorOf 144 = .ok (.iload_n 1, 1) := by decide +kernel
theorem dX8_errorOf_145 : decode cX8_errorOf 145 = .ok (.aload_n 2, 1) := by decide +kernel
theorem dX8_errorOf_146 : decode cX8_errorOf 146 = .ok (.getfield 246, 3) := by decide +kernel
theorem dX8_errorOf_149 : decode cX8_errorOf 149 = .ok (.iconst 4, 1) := by decide +kernel
theorem dX8_errorOf_150 : decode cX8_errorOf 150 = .ok (.invokevirtual 242, 3) := by decide +kernel
theorem dX8_errorOf_153 : decode cX8_errorOf 153 = .ok (.istore_n 3, 1) := by decide +kernel
theorem dX8_errorOf_154 : decode cX8_errorOf 154 = .ok (.aload_n 2, 1) := by decide +kernel
theorem dX8_errorOf_155 : decode cX8_errorOf 155 = .ok (.dup, 1) := by decide +kernel
theorem dX8_errorOf_156 : decode cX8_errorOf 156 = .ok (.getfield 246, 3) := by decide +kernel
theorem dX8_errorOf_159 : decode cX8_errorOf 159 = .ok (.iload_n 3, 1) := by decide +kernel
theorem dX8_errorOf_160 : decode cX8_errorOf 160 = .ok (.ifCond .ne 7, 3) := by decide +kernel
theorem dX8_errorOf_163 : decode cX8_errorOf 163 = .ok (.iconst 1, 1) := by decide +kernel
theorem dX8_errorOf_164 : decode cX8_errorOf 164 = .ok (.goto 4, 3) := by decide +kernel
theorem dX8_errorOf_167 : decode cX8_errorOf 167 = .ok (.iconst 0, 1) := by decide +kernel
theorem dX8_errorOf_168 : decode cX8_errorOf 168 = .ok (.iadd, 1) := by decide +kernel
theorem dX8_errorOf_169 : decode cX8_errorOf 169 = .ok (.putfield 246, 3) := by decide +kernel
theorem dX8_errorOf_172 : decode cX8_errorOf 172 = .ok (.iload_n 3, 1) := by decide +kernel
theorem dX8_errorOf_173 : decode cX8_errorOf 173 = .ok (.ireturn, 1) := by decide +kernel
theorem dX8_errorOf_174 : decode cX8_errorOf 174 = .ok (.aload_n 0, 1) := by decide +kernel
theorem dX8_errorOf_175 : decode cX8_errorOf 175 = .ok (.iload_n 1, 1) := by decide +kernel
theorem dX8_errorOf_176 : decode cX8_errorOf 176 = .ok (.aload_n 2, 1) := by decide +kernel
theorem dX8_errorOf_177 : decode cX8_errorOf 177 = .ok (.getfield 70, 3) := by decide +kernel
theorem dX8_errorOf_180 : decode cX8_errorOf 180 = .ok (.bipush 6, 2) := by decide +kernel
theorem dX8_errorOf_182 : decode cX8_errorOf 182 = .ok (.invokevirtual 242, 3) := by decide +kernel
theorem dX8_errorOf_185 : decode cX8_errorOf 185 = .ok (.istore_n 3, 1) := by decide +kernel
theorem dX8_errorOf_186 : decode cX8_errorOf 186 = .ok (.aload_n 2, 1) := by decide +kernel
theorem dX8_errorOf_187 : decode cX8_errorOf 187 = .ok (.dup, 1) := by decide +kernel
theorem dX8_errorOf_188 : decode cX8_errorOf 188 = .ok (.getfield 70, 3) := by decide +kernel
theorem dX8_errorOf_191 : decode cX8_errorOf 191 = .ok (.iload_n 3, 1) := by decide +kernel
theorem dX8_errorOf_192 : decode cX8_errorOf 192 = .ok (.ifCond .ne 7, 3) := by decide +kernel
theorem dX8_errorOf_195 : decode cX8_errorOf 195 = .ok (.iconst 1, 1) := by decide +kernel
theorem dX8_errorOf_196 : decode cX8_errorOf 196 = .ok (.goto 4, 3) := by decide +kernel
theorem dX8_errorOf_199 : decode cX8_errorOf 199 = .ok (.iconst 0, 1) := by decide +kernel
theorem dX8_errorOf_200 : decode cX8_errorOf 200 = .ok (.iadd, 1) := by decide +kernel
theorem dX8_errorOf_201 : decode cX8_errorOf 201 = .ok (.putfield 70, 3) := by decide +kernel
theorem dX8_errorOf_204 : decode cX8_errorOf 204 = .ok (.iload_n 3, 1) := by decide +kernel
theorem dX8_errorOf_205 : decode cX8_errorOf 205 = .ok (.ireturn, 1) := by decide +kernel
theorem dX8_errorOf_206 : decode cX8_errorOf 206 = .ok (.aload_n 0, 1) := by decide +kernel
theorem dX8_errorOf_207 : decode cX8_errorOf 207 = .ok (.iload_n 1, 1) := by decide +kernel
theorem dX8_errorOf_208 : decode cX8_errorOf 208 = .ok (.aload_n 2, 1) := by decide +kernel
theorem dX8_errorOf_209 : decode cX8_errorOf 209 = .ok (.getfield 73, 3) := by decide +kernel
theorem dX8_errorOf_212 : decode cX8_errorOf 212 = .ok (.bipush 8, 2) := by decide +kernel
theorem dX8_errorOf_214 : decode cX8_errorOf 214 = .ok (.invokevirtual 242, 3) := by decide +kernel
theorem dX8_errorOf_217 : decode cX8_errorOf 217 = .ok (.istore_n 3, 1) := by decide +kernel
theorem dX8_errorOf_218 : decode cX8_errorOf 218 = .ok (.aload_n 2, 1) := by decide +kernel
theorem dX8_errorOf_219 : decode cX8_errorOf 219 = .ok (.dup, 1) := by decide +kernel
theorem dX8_errorOf_220 : decode cX8_errorOf 220 = .ok (.getfield 73, 3) := by decide +kernel
theorem dX8_errorOf_223 : decode cX8_errorOf 223 = .ok (.iload_n 3, 1) := by decide +kernel
theorem dX8_errorOf_224 : decode cX8_errorOf 224 = .ok (.ifCond .ne 7, 3) := by decide +kernel
theorem dX8_errorOf_227 : decode cX8_errorOf 227 = .ok (.iconst 1, 1) := by decide +kernel
theorem dX8_errorOf_228 : decode cX8_errorOf 228 = .ok (.goto 4, 3) := by decide +kernel
theorem dX8_errorOf_231 : decode cX8_errorOf 231 = .ok (.iconst 0, 1) := by decide +kernel
theorem dX8_errorOf_232 : decode cX8_errorOf 232 = .ok (.iadd, 1) := by decide +kernel
theorem dX8_errorOf_233 : decode cX8_errorOf 233 = .ok (.putfield 73, 3) := by decide +kernel
theorem dX8_errorOf_236 : decode cX8_errorOf 236 = .ok (.iload_n 3, 1) := by decide +kernel
theorem dX8_errorOf_237 : decode cX8_errorOf 237 = .ok (.ireturn, 1) := by decide +kernel
theorem dX8_errorOf_238 : decode cX8_errorOf 238 = .ok (.aload_n 0, 1) := by decide +kernel
theorem dX8_errorOf_239 : decode cX8_errorOf 239 = .ok (.bipush 17, 2) := by decide +kernel
theorem dX8_errorOf_241 : decode cX8_errorOf 241 = .ok (.invokevirtual 249, 3) := by decide +kernel
theorem dX8_errorOf_244 : decode cX8_errorOf 244 = .ok (.ireturn, 1) := by decide +kernel
theorem dX8_errorOf_245 : decode cX8_errorOf 245 = .ok (.aload_n 0, 1) := by decide +kernel
theorem dX8_errorOf_246 : decode cX8_errorOf 246 = .ok (.bipush 18, 2) := by decide +kernel
theorem dX8_errorOf_248 : decode cX8_errorOf 248 = .ok (.invokevirtual 249, 3) := by decide +kernel
theorem dX8_errorOf_251 : decode cX8_errorOf 251 = .ok (.ireturn, 1) := by decide +kernel
theorem dX8_errorOf_252 : decode cX8_errorOf 252 = .ok (.aload_n 0, 1) := by decide +kernel
theorem dX8_errorOf_253 : decode cX8_errorOf 253 = .ok (.iload_n 1, 1) := by decide +kernel
theorem dX8_errorOf_254 : decode cX8_errorOf 254 = .ok (.aload_n 0, 1) := by decide +kernel
theorem dX8_errorOf_255 : decode cX8_errorOf 255 = .ok (.getfield 26, 3) := by decide +kernel
theorem dX8_errorOf_258 : decode cX8_errorOf 258 = .ok (.iload_n 1, 1) := by decide +kernel
theorem dX8_errorOf_259 : decode cX8_errorOf 259 = .ok (.iaload, 1) := by decide +kernel
theorem dX8_errorOf_260 : decode cX8_errorOf 260 = .ok (.bipush 16, 2) := by decide +kernel
theorem dX8_errorOf_262 : decode cX8_errorOf 262 = .ok (.isub, 1) := by decide +kernel
theorem dX8_errorOf_263 : decode cX8_errorOf 263 = .ok (.invokevirtual 252, 3) := by decide +kernel
theorem dX8_errorOf_266 : decode cX8_errorOf 266 = .ok (.ireturn, 1) := by decide +kernel
theorem dX8_errorOf_267 : decode cX8_errorOf 267 = .ok (.aload_n 2, 1) := by decide +kernel
theorem dX8_errorOf_268 : decode cX8_errorOf 268 = .ok (.getfield 255, 3) := by decide +kernel
theorem dX8_errorOf_271 : decode cX8_errorOf 271 = .ok (.aload_n 2, 1) := by decide +kernel
theorem dX8_errorOf_272 : decode cX8_errorOf 272 = .ok (.getfield 73, 3) := by decide +kernel
theorem dX8_errorOf_275 : decode cX8_errorOf 275 = .ok (.iconst 1, 1) := by decide +kernel
theorem dX8_errorOf_276 : decode cX8_errorOf 276 = .ok (.isub, 1) := by decide +kernel
theorem dX8_errorOf_277 : decode cX8_errorOf 277 = .ok (.aload_n 0, 1) := by decide +kernel
theorem dX8_errorOf_278 : decode cX8_errorOf 278 = .ok (.iload_n 1, 1) := by decide +kernel
theorem dX8_errorOf_279 : decode cX8_errorOf 279 = .ok (.invokevirtual 258, 3) := by decide +kernel
theorem dX8_errorOf_282 : decode cX8_errorOf 282 = .ok (.iastore, 1) := by decide +kernel
theorem dX8_errorOf_283 : decode cX8_errorOf 283 = .ok (.iconst 0, 1) := by decide +kernel
theorem dX8_errorOf_284 : decode cX8_errorOf 284 = .ok (.ireturn, 1) := by decide +kernel
theorem dX8_errorOf_285 : decode cX8_errorOf 285 = .ok (.aload_n 2, 1) := by decide +kernel
theorem dX8_errorOf_286 : decode cX8_errorOf 286 = .ok (.getfield 261, 3) := by decide +kernel
theorem dX8_errorOf_289 : decode cX8_errorOf 289 = .ok (.aload_n 2, 1) := by decide +kernel
theorem dX8_errorOf_290 : decode cX8_errorOf 290 = .ok (.getfield 229, 3) := by decide +kernel
theorem dX8_errorOf_293 : decode cX8_errorOf 293 = .ok (.iconst 1, 1) := by decide +kernel
theorem dX8_errorOf_294 : decode cX8_errorOf 294 = .ok (.isub, 1) := by decide +kernel
theorem dX8_errorOf_295 : decode cX8_errorOf 295 = .ok (.aload_n 0, 1) := by decide +kernel
theorem dX8_errorOf_296 : decode cX8_errorOf 296 = .ok (.iload_n 1, 1) := by decide +kernel
theorem dX8_errorOf_297 : decode cX8_errorOf 297 = .ok (.invokevirtual 258, 3) := by decide +kernel
theorem dX8_errorOf_300 : decode cX8_errorOf 300 = .ok (.iastore, 1) := by decide +kernel
theorem dX8_errorOf_301 : decode cX8_errorOf 301 = .ok (.iconst 0, 1) := by decide +kernel
theorem dX8_errorOf_302 : decode cX8_errorOf 302 = .ok (.ireturn, 1) := by decide +kernel
theorem dX8_errorOf_303 : decode cX8_errorOf 303 = .ok (.aload_n 0, 1) := by decide +kernel
theorem dX8_errorOf_304 : decode cX8_errorOf 304 = .ok (.iload_n 1, 1) := by decide +kernel
theorem dX8_errorOf_305 : decode cX8_errorOf 305 = .ok (.iconst 3, 1) := by decide +kernel
theorem dX8_errorOf_306 : decode cX8_errorOf 306 = .ok (.invokevirtual 235, 3) := by decide +kernel
theorem dX8_errorOf_309 : decode cX8_errorOf 309 = .ok (.istore_n 3, 1) := by decide +kernel
theorem dX8_errorOf_310 : decode cX8_errorOf 310 = .ok (.aload_n 2, 1) := by decide +kernel
theorem dX8_errorOf_311 : decode cX8_errorOf 311 = .ok (.getfield 261, 3) := by decide +kernel
theorem dX8_errorOf_314 : decode cX8_errorOf 314 = .ok (.aload_n 2, 1) := by decide +kernel
theorem dX8_errorOf_315 : decode cX8_errorOf 315 = .ok (.getfield 229, 3) := by decide +kernel
theorem dX8_errorOf_318 : decode cX8_errorOf 318 = .ok (.iconst 1, 1) := by decide +kernel
theorem dX8_errorOf_319 : decode cX8_errorOf 319 = .ok (.isub, 1) := by decide +kernel
theorem dX8_errorOf_320 : decode cX8_errorOf 320 = .ok (.aload_n 0, 1) := by decide +kernel
theorem dX8_errorOf_321 : decode cX8_errorOf 321 = .ok (.getfield 29, 3) := by decide +kernel
theorem dX8_errorOf_324 : decode cX8_errorOf 324 = .ok (.iload_n 1, 1) := by decide +kernel
theorem dX8_errorOf_325 : decode cX8_errorOf 325 = .ok (.iaload, 1) := by decide +kernel
theorem dX8_errorOf_326 : decode cX8_errorOf 326 = .ok (.iastore, 1) := by decide +kernel
theorem dX8_errorOf_327 : decode cX8_errorOf 327 = .ok (.iload_n 3, 1) := by decide +kernel
theorem dX8_errorOf_328 : decode cX8_errorOf 328 = .ok (.ireturn, 1) := by decide +kernel
theorem dX8_errorOf_329 : decode cX8_errorOf 329 = .ok (.aload_n 0, 1) := by decide +kernel
theorem dX8_errorOf_330 : decode cX8_errorOf 330 = .ok (.iload_n 1, 1) := by decide +kernel
theorem dX8_errorOf_331 : decode cX8_errorOf 331 = .ok (.iconst 3, 1) := by decide +kernel
theorem dX8_errorOf_332 : decode cX8_errorOf 332 = .ok (.invokevirtual 235, 3) := by decide +kernel
theorem dX8_errorOf_335 : decode cX8_errorOf 335 = .ok (.ireturn, 1) := by decide +kernel
theorem dX8_errorOf_336 : decode cX8_errorOf 336 = .ok (.aload_n 0, 1) := by decide +kernel
theorem dX8_errorOf_337 : decode cX8_errorOf 337 = .ok (.iload_n 1, 1) := by decide +kernel
theorem dX8_errorOf_338 : decode cX8_errorOf 338 = .ok (.iconst 4, 1) := by decide +kernel
theorem dX8_errorOf_339 : decode cX8_errorOf 339 = .ok (.invokevirtual 235, 3) := by decide +kernel
theorem dX8_errorOf_342 : decode cX8_errorOf 342 = .ok (.ireturn, 1) := by decide +kernel
theorem dX8_errorOf_343 : decode cX8_errorOf 343 = .ok (.aload_n 0, 1) := by decide +kernel
theorem dX8_errorOf_344 : decode cX8_errorOf 344 = .ok (.iload_n 1, 1) := by decide +kernel
theorem dX8_errorOf_345 : decode cX8_errorOf 345 = .ok (.invokevirtual 264, 3) := by decide +kernel
theorem dX8_errorOf_348 : decode cX8_errorOf 348 = .ok (.ireturn, 1) := by decide +kernel
theorem dX8_isBoreLine_0 : decode cX8_isBoreLine 0 = .ok (.aload_n 0, 1) := by decide +kernel
theorem dX8_isBoreLine_1 : decode cX8_isBoreLine 1 = .ok (.dup, 1) := by decide +kernel
theorem dX8_isBoreLine_2 : decode cX8_isBoreLine 2 = .ok (.getfield 127, 3) := by decide +kernel
theorem dX8_isBoreLine_5 : decode cX8_isBoreLine 5 = .ok (.iconst 1, 1) := by decide +kernel
theorem dX8_isBoreLine_6 : decode cX8_isBoreLine 6 = .ok (.iadd, 1) := by decide +kernel
theorem dX8_isBoreLine_7 : decode cX8_isBoreLine 7 = .ok (.putfield 127, 3) := by decide +kernel
theorem dX8_isBoreLine_10 : decode cX8_isBoreLine 10 = .ok (.aload_n 0, 1) := by decide +kernel
theorem dX8_isBoreLine_11 : decode cX8_isBoreLine 11 = .ok (.bipush 40, 2) := by decide +kernel
theorem dX8_isBoreLine_13 : decode cX8_isBoreLine 13 = .ok (.iconst 1, 1) := by decide +kernel
theorem dX8_isBoreLine_14 : decode cX8_isBoreLine 14 = .ok (.invokevirtual 160, 3) := by decide +kernel
theorem dX8_isBoreLine_17 : decode cX8_isBoreLine 17 = .ok (.ifCond .eq 45, 3) := by decide +kernel
theorem dX8_isBoreLine_20 : decode cX8_isBoreLine 20 = .ok (.aload_n 0, 1) := by decide +kernel
theorem dX8_isBoreLine_21 : decode cX8_isBoreLine 21 = .ok (.iconst 1, 1) := by decide +kernel
theorem dX8_isBoreLine_22 : decode cX8_isBoreLine 22 = .ok (.invokevirtual 133, 3) := by decide +kernel
theorem dX8_isBoreLine_25 : decode cX8_isBoreLine 25 = .ok (.ifCond .eq 37, 3) := by decide +kernel
theorem dX8_isBoreLine_28 : decode cX8_isBoreLine 28 = .ok (.aload_n 0, 1) := by decide +kernel
theorem dX8_isBoreLine_29 : decode cX8_isBoreLine 29 = .ok (.bipush 41, 2) := by decide +kernel
theorem dX8_isBoreLine_31 : decode cX8_isBoreLine 31 = .ok (.bipush 7, 2) := by decide +kernel
theorem dX8_isBoreLine_33 : decode cX8_isBoreLine 33 = .ok (.invokevirtual 160, 3) := by decide +kernel
theorem dX8_isBoreLine_36 : decode cX8_isBoreLine 36 = .ok (.ifCond .eq 26, 3) := by decide +kernel
theorem dX8_isBoreLine_39 : decode cX8_isBoreLine 39 = .ok (.aload_n 0, 1) := by decide +kernel
theorem dX8_isBoreLine_40 : decode cX8_isBoreLine 40 = .ok (.iconst 2, 1) := by decide +kernel
theorem dX8_isBoreLine_41 : decode cX8_isBoreLine 41 = .ok (.invokevirtual 133, 3) := by decide +kernel
theorem dX8_isBoreLine_44 : decode cX8_isBoreLine 44 = .ok (.ifCond .eq 18, 3) := by decide +kernel
theorem dX8_isBoreLine_47 : decode cX8_isBoreLine 47 = .ok (.aload_n 0, 1) := by decide +kernel
theorem dX8_isBoreLine_48 : decode cX8_isBoreLine 48 = .ok (.bipush 41, 2) := by decide +kernel
theorem dX8_isBoreLine_50 : decode cX8_isBoreLine 50 = .ok (.bipush 8, 2) := by decide +kernel
theorem dX8_isBoreLine_52 : decode cX8_isBoreLine 52 = .ok (.invokevirtual 160, 3) := by decide +kernel
theorem dX8_isBoreLine_55 : decode cX8_isBoreLine 55 = .ok (.ifCond .eq 7, 3) := by decide +kernel
theorem dX8_isBoreLine_58 : decode cX8_isBoreLine 58 = .ok (.iconst 1, 1) := by decide +kernel
theorem dX8_isBoreLine_59 : decode cX8_isBoreLine 59 = .ok (.goto 4, 3) := by decide +kernel
theorem dX8_isBoreLine_62 : decode cX8_isBoreLine 62 = .ok (.iconst 0, 1) := by decide +kernel
theorem dX8_isBoreLine_63 : decode cX8_isBoreLine 63 = .ok (.ireturn, 1) := by decide +kernel
theorem dX8_isShaftLine_0 : decode cX8_isShaftLine 0 = .ok (.aload_n 0, 1) := by decide +kernel
theorem dX8_isShaftLine_1 : decode cX8_isShaftLine 1 = .ok (.dup, 1) := by decide +kernel
theorem dX8_isShaftLine_2 : decode cX8_isShaftLine 2 = .ok (.getfield 127, 3) := by decide +kernel
theorem dX8_isShaftLine_5 : decode cX8_isShaftLine 5 = .ok (.iconst 1, 1) := by decide +kernel
theorem dX8_isShaftLine_6 : decode cX8_isShaftLine 6 = .ok (.iadd, 1) := by decide +kernel
theorem dX8_isShaftLine_7 : decode cX8_isShaftLine 7 = .ok (.putfield 127, 3) := by decide +kernel
theorem dX8_isShaftLine_10 : decode cX8_isShaftLine 10 = .ok (.aload_n 0, 1) := by decide +kernel
theorem dX8_isShaftLine_11 : decode cX8_isShaftLine 11 = .ok (.bipush 40, 2) := by decide +kernel
theorem dX8_isShaftLine_13 : decode cX8_isShaftLine 13 = .ok (.iconst 2, 1) := by decide +kernel
theorem dX8_isShaftLine_14 : decode cX8_isShaftLine 14 = .ok (.invokevirtual 160, 3) := by decide +kernel
theorem dX8_isShaftLine_17 : decode cX8_isShaftLine 17 = .ok (.ifCond .eq 45, 3) := by decide +kernel
theorem dX8_isShaftLine_20 : decode cX8_isShaftLine 20 = .ok (.aload_n 0, 1) := by decide +kernel
theorem dX8_isShaftLine_21 : decode cX8_isShaftLine 21 = .ok (.iconst 4, 1) := by decide +kernel
theorem dX8_isShaftLine_22 : decode cX8_isShaftLine 22 = .ok (.invokevirtual 133, 3) := by decide +kernel
theorem dX8_isShaftLine_25 : decode cX8_isShaftLine 25 = .ok (.ifCond .eq 37, 3) := by decide +kernel
theorem dX8_isShaftLine_28 : decode cX8_isShaftLine 28 = .ok (.aload_n 0, 1) := by decide +kernel
theorem dX8_isShaftLine_29 : decode cX8_isShaftLine 29 = .ok (.bipush 41, 2) := by decide +kernel
theorem dX8_isShaftLine_31 : decode cX8_isShaftLine 31 = .ok (.bipush 9, 2) := by decide +kernel
theorem dX8_isShaftLine_33 : decode cX8_isShaftLine 33 = .ok (.invokevirtual 160, 3) := by decide +kernel
theorem dX8_isShaftLine_36 : decode cX8_isShaftLine 36 = .ok (.ifCond .eq 26, 3) := by decide +kernel
theorem dX8_isShaftLine_39 : decode cX8_isShaftLine 39 = .ok (.aload_n 0, 1) := by decide +kernel
theorem dX8_isShaftLine_40 : decode cX8_isShaftLine 40 = .ok (.iconst 5, 1) := by decide +kernel
theorem dX8_isShaftLine_41 : decode cX8_isShaftLine 41 = .ok (.invokevirtual 133, 3) := by decide +kernel
theorem dX8_isShaftLine_44 : decode cX8_isShaftLine 44 = .ok (.ifCond .eq 18, 3) := by decide +kernel
theorem dX8_isShaftLine_47 : decode cX8_isShaftLine 47 = .ok (.aload_n 0, 1) := by decide +kernel
theorem dX8_isShaftLine_48 : decode cX8_isShaftLine 48 = .ok (.bipush 41, 2) := by decide +kernel
theorem dX8_isShaftLine_50 : decode cX8_isShaftLine 50 = .ok (.bipush 10, 2) := by decide +kernel
theorem dX8_isShaftLine_52 : decode cX8_isShaftLine 52 = .ok (.invokevirtual 160, 3) := by decide +kernel
theorem dX8_isShaftLine_55 : decode cX8_isShaftLine 55 = .ok (.ifCond .eq 7, 3) := by decide +kernel
theorem dX8_isShaftLine_58 : decode cX8_isShaftLine 58 = .ok (.iconst 1, 1) := by decide +kernel
theorem dX8_isShaftLine_59 : decode cX8_isShaftLine 59 = .ok (.goto 4, 3) := by decide +kernel
theorem dX8_isShaftLine_62 : decode cX8_isShaftLine 62 = .ok (.iconst 0, 1) := by decide +kernel
theorem dX8_isShaftLine_63 : decode cX8_isShaftLine 63 = .ok (.ireturn, 1) := by decide +kernel
theorem dX8_isLeggerLine_0 : decode cX8_isLeggerLine 0 = .ok (.aload_n 0, 1) := by decide +kernel
theorem dX8_isLeggerLine_1 : decode cX8_isLeggerLine 1 = .ok (.dup, 1) := by decide +kernel
theorem dX8_isLeggerLine_2 : decode cX8_isLeggerLine 2 = .ok (.getfield 127, 3) := by decide +kernel
theorem dX8_isLeggerLine_5 : decode cX8_isLeggerLine 5 = .ok (.iconst 1, 1) := by decide +kernel
theorem dX8_isLeggerLine_6 : decode cX8_isLeggerLine 6 = .ok (.iadd, 1) := by decide +kernel
theorem dX8_isLeggerLine_7 : decode cX8_isLeggerLine 7 = .ok (.putfield 127, 3) := by decide +kernel
theorem dX8_isLeggerLine_10 : decode cX8_isLeggerLine 10 = .ok (.aload_n 0, 1) := by decide +kernel
theorem dX8_isLeggerLine_11 : decode cX8_isLeggerLine 11 = .ok (.bipush 40, 2) := by decide +kernel
theorem dX8_isLeggerLine_13 : decode cX8_isLeggerLine 13 = .ok (.iconst 3, 1) := by decide +kernel
theorem dX8_isLeggerLine_14 : decode cX8_isLeggerLine 14 = .ok (.invokevirtual 160, 3) := by decide +kernel
theorem dX8_isLeggerLine_17 : decode cX8_isLeggerLine 17 = .ok (.ifCond .eq 47, 3) := by decide +kernel
theorem dX8_isLeggerLine_20 : decode cX8_isLeggerLine 20 = .ok (.aload_n 0, 1) := by decide +kernel
theorem dX8_isLeggerLine_21 : decode cX8_isLeggerLine 21 = .ok (.bipush 7, 2) := by decide +kernel
theorem dX8_isLeggerLine_23 : decode cX8_isLeggerLine 23 = .ok (.invokevirtual 133, 3) := by decide +kernel
theorem dX8_isLeggerLine_26 : decode cX8_isLeggerLine 26 = .ok (.ifCond .eq 38, 3) := by decide +kernel
theorem dX8_isLeggerLine_29 : decode cX8_isLeggerLine 29 = .ok (.aload_n 0, 1) := by decide +kernel
theorem dX8_isLeggerLine_30 : decode cX8_isLeggerLine 30 = .ok (.bipush 41, 2) := by decide +kernel
theorem dX8_isLeggerLine_32 : decode cX8_isLeggerLine 32 = .ok (.bipush 11, 2) := by decide +kernel
theorem dX8_isLeggerLine_34 : decode cX8_isLeggerLine 34 = .ok (.invokevirtual 160, 3) := by decide +kernel
theorem dX8_isLeggerLine_37 : decode cX8_isLeggerLine 37 = .ok (.ifCond .eq 27, 3) := by decide +kernel
theorem dX8_isLeggerLine_40 : decode cX8_isLeggerLine 40 = .ok (.aload_n 0, 1) := by decide +kernel
theorem dX8_isLeggerLine_41 : decode cX8_isLeggerLine 41 = .ok (.bipush 8, 2) := by decide +kernel
theorem dX8_isLeggerLine_43 : decode cX8_isLeggerLine 43 = .ok (.invokevirtual 133, 3) := by decide +kernel
theorem dX8_isLeggerLine_46 : decode cX8_isLeggerLine 46 = .ok (.ifCond .eq 18, 3) := by decide +kernel
theorem dX8_isLeggerLine_49 : decode cX8_isLeggerLine 49 = .ok (.aload_n 0, 1) := by decide +kernel
theorem dX8_isLeggerLine_50 : decode cX8_isLeggerLine 50 = .ok (.bipush 41, 2) := by decide +kernel
theorem dX8_isLeggerLine_52 : decode cX8_isLeggerLine 52 = .ok (.bipush 12, 2) := by decide +kernel
theorem dX8_isLeggerLine_54 : decode cX8_isLeggerLine 54 = .ok (.invokevirtual 160, 3) := by decide +kernel
theorem dX8_isLeggerLine_57 : decode cX8_isLeggerLine 57 = .ok (.ifCond .eq 7, 3) := by decide +kernel
theorem dX8_isLeggerLine_60 : decode cX8_isLeggerLine 60 = .ok (.iconst 1, 1) := by decide +kernel
theorem dX8_isLeggerLine_61 : decode cX8_isLeggerLine 61 = .ok (.goto 4, 3) := by decide +kernel
theorem dX8_isLeggerLine_64 : decode cX8_isLeggerLine 64 = .ok (.iconst 0, 1) := by decide +kernel
theorem dX8_isLeggerLine_65 : decode cX8_isLeggerLine 65 = .ok (.ireturn, 1) := by decide +kernel
theorem dX8_isBoatLine_0 : decode cX8_isBoatLine 0 = .ok (.aload_n 0, 1) := by decide +kernel
theorem dX8_isBoatLine_1 : decode cX8_isBoatLine 1 = .ok (.dup, 1) := by decide +kernel
theorem dX8_isBoatLine_2 : decode cX8_isBoatLine 2 = .ok (.getfield 127, 3) := by decide +kernel
theorem dX8_isBoatLine_5 : decode cX8_isBoatLine 5 = .ok (.iconst 1, 1) := by decide +kernel
theorem dX8_isBoatLine_6 : decode cX8_isBoatLine 6 = .ok (.iadd, 1) := by decide +kernel
theorem dX8_isBoatLine_7 : decode cX8_isBoatLine 7 = .ok (.putfield 127, 3) := by decide +kernel
theorem dX8_isBoatLine_10 : decode cX8_isBoatLine 10 = .ok (.aload_n 0, 1) := by decide +kernel
theorem dX8_isBoatLine_11 : decode cX8_isBoatLine 11 = .ok (.bipush 40, 2) := by decide +kernel
theorem dX8_isBoatLine_13 : decode cX8_isBoatLine 13 = .ok (.iconst 4, 1) := by decide +kernel
theorem dX8_isBoatLine_14 : decode cX8_isBoatLine 14 = .ok (.invokevirtual 160, 3) := by decide +kernel
theorem dX8_isBoatLine_17 : decode cX8_isBoatLine 17 = .ok (.ifCond .eq 105, 3) := by decide +kernel
theorem dX8_isBoatLine_20 : decode cX8_isBoatLine 20 = .ok (.aload_n 0, 1) := by decide +kernel
theorem dX8_isBoatLine_21 : decode cX8_isBoatLine 21 = .ok (.bipush 10, 2) := by decide +kernel
theorem dX8_isBoatLine_23 : decode cX8_isBoatLine 23 = .ok (.invokevirtual 133, 3) := by decide +kernel
theorem dX8_isBoatLine_26 : decode cX8_isBoatLine 26 = .ok (.ifCond .eq 96, 3) := by decide +kernel
theorem dX8_isBoatLine_29 : decode cX8_isBoatLine 29 = .ok (.aload_n 0, 1) := by decide +kernel
theorem dX8_isBoatLine_30 : decode cX8_isBoatLine 30 = .ok (.bipush 41, 2) := by decide +kernel
theorem dX8_isBoatLine_32 : decode cX8_isBoatLine 32 = .ok (.bipush 13, 2) := by decide +kernel
theorem dX8_isBoatLine_34 : decode cX8_isBoatLine 34 = .ok (.invokevirtual 160, 3) := by decide +kernel
theorem dX8_isBoatLine_37 : decode cX8_isBoatLine 37 = .ok (.ifCond .eq 85, 3) := by decide +kernel
theorem dX8_isBoatLine_40 : decode cX8_isBoatLine 40 = .ok (.aload_n 0, 1) := by decide +kernel
theorem dX8_isBoatLine_41 : decode cX8_isBoatLine 41 = .ok (.bipush 11, 2) := by decide +kernel
theorem dX8_isBoatLine_43 : decode cX8_isBoatLine 43 = .ok (.invokevirtual 133, 3) := by decide +kernel
theorem dX8_isBoatLine_46 : decode cX8_isBoatLine 46 = .ok (.ifCond .eq 76, 3) := by decide +kernel
theorem dX8_isBoatLine_49 : decode cX8_isBoatLine 49 = .ok (.aload_n 0, 1) := by decide +kernel
theorem dX8_isBoatLine_50 : decode cX8_isBoatLine 50 = .ok (.bipush 14, 2) := by decide +kernel
theorem dX8_isBoatLine_52 : decode cX8_isBoatLine 52 = .ok (.invokevirtual 164, 3) := by decide +kernel
theorem dX8_isBoatLine_55 : decode cX8_isBoatLine 55 = .ok (.ifCond .eq 67, 3) := by decide +kernel
theorem dX8_isBoatLine_58 : decode cX8_isBoatLine 58 = .ok (.aload_n 0, 1) := by decide +kernel
theorem dX8_isBoatLine_59 : decode cX8_isBoatLine 59 = .ok (.bipush 14, 2) := by decide +kernel
theorem dX8_isBoatLine_61 : decode cX8_isBoatLine 61 = .ok (.invokevirtual 133, 3) := by decide +kernel
theorem dX8_isBoatLine_64 : decode cX8_isBoatLine 64 = .ok (.ifCond .eq 58, 3) := by decide +kernel
theorem dX8_isBoatLine_67 : decode cX8_isBoatLine 67 = .ok (.aload_n 0, 1) := by decide +kernel
theorem dX8_isBoatLine_68 : decode cX8_isBoatLine 68 = .ok (.bipush 41, 2) := by decide +kernel
theorem dX8_isBoatLine_70 : decode cX8_isBoatLine 70 = .ok (.bipush 15, 2) := by decide +kernel
theorem dX8_isBoatLine_72 : decode cX8_isBoatLine 72 = .ok (.invokevirtual 160, 3) := by decide +kernel
theorem dX8_isBoatLine_75 : decode cX8_isBoatLine 75 = .ok (.ifCond .eq 47, 3) := by decide +kernel
theorem dX8_isBoatLine_78 : decode cX8_isBoatLine 78 = .ok (.aload_n 0, 1) := by decide +kernel
theorem dX8_isBoatLine_79 : decode cX8_isBoatLine 79 = .ok (.bipush 15, 2) := by decide +kernel
theorem dX8_isBoatLine_81 : decode cX8_isBoatLine 81 = .ok (.invokevirtual 133, 3) := by decide +kernel
theorem dX8_isBoatLine_84 : decode cX8_isBoatLine 84 = .ok (.ifCond .eq 38, 3) := by decide +kernel
theorem dX8_isBoatLine_87 : decode cX8_isBoatLine 87 = .ok (.aload_n 0, 1) := by decide +kernel
theorem dX8_isBoatLine_88 : decode cX8_isBoatLine 88 = .ok (.bipush 40, 2) := by decide +kernel
theorem dX8_isBoatLine_90 : decode cX8_isBoatLine 90 = .ok (.bipush 16, 2) := by decide +kernel
theorem dX8_isBoatLine_92 : decode cX8_isBoatLine 92 = .ok (.invokevirtual 160, 3) := by decide +kernel
theorem dX8_isBoatLine_95 : decode cX8_isBoatLine 95 = .ok (.ifCond .eq 27, 3) := by decide +kernel
theorem dX8_isBoatLine_98 : decode cX8_isBoatLine 98 = .ok (.aload_n 0, 1) := by decide +kernel
theorem dX8_isBoatLine_99 : decode cX8_isBoatLine 99 = .ok (.bipush 16, 2) := by decide +kernel
theorem dX8_isBoatLine_101 : decode cX8_isBoatLine 101 = .ok (.invokevirtual 133, 3) := by decide +kernel
theorem dX8_isBoatLine_104 : decode cX8_isBoatLine 104 = .ok (.ifCond .eq 18, 3) := by decide +kernel
theorem dX8_isBoatLine_107 : decode cX8_isBoatLine 107 = .ok (.aload_n 0, 1) := by decide +kernel
theorem dX8_isBoatLine_108 : decode cX8_isBoatLine 108 = .ok (.bipush 40, 2) := by decide +kernel
theorem dX8_isBoatLine_110 : decode cX8_isBoatLine 110 = .ok (.bipush 17, 2) := by decide +kernel
theorem dX8_isBoatLine_112 : decode cX8_isBoatLine 112 = .ok (.invokevirtual 160, 3) := by decide +kernel
theorem dX8_isBoatLine_115 : decode cX8_isBoatLine 115 = .ok (.ifCond .eq 7, 3) := by decide +kernel
theorem dX8_isBoatLine_118 : decode cX8_isBoatLine 118 = .ok (.iconst 1, 1) := by decide +kernel
theorem dX8_isBoatLine_119 : decode cX8_isBoatLine 119 = .ok (.goto 4, 3) := by decide +kernel
theorem dX8_isBoatLine_122 : decode cX8_isBoatLine 122 = .ok (.iconst 0, 1) := by decide +kernel
theorem dX8_isBoatLine_123 : decode cX8_isBoatLine 123 = .ok (.ireturn, 1) := by decide +kernel
theorem mi_X8_byteOf : MInfo yX8_byteOf cX8_byteOf 2 (some .int) 1 := ⟨wq_1500, wq_135, by decide, ⟨by decide +kernel, by decide +kernel, by decide +kernel⟩, by decide +kernel⟩
theorem mi_X8_is : MInfo yX8_is cX8_is 2 (some .boolean) 1 := ⟨wq_1582, wq_135, by decide, ⟨by decide +kernel, by decide +kernel, by decide +kernel⟩, by decide +kernel⟩
theorem mi_X8_isSign : MInfo yX8_isSign cX8_isSign 2 (some .boolean) 1 := ⟨wq_1639, wq_135, by decide, ⟨by decide +kernel, by decide +kernel, by decide +kernel⟩, by decide +kernel⟩
theorem mi_X8_numberAt : MInfo yX8_numberAt cX8_numberAt 4 (some .int) 1 := ⟨wq_1663, wq_135, by decide, ⟨by decide +kernel, by decide +kernel, by decide +kernel⟩, by decide +kernel⟩
theorem mi_X8_isSame : MInfo yX8_isSame cX8_isSame 4 (some .boolean) 2 := ⟨wq_1683, wq_135, by decide, ⟨by decide +kernel, by decide +kernel, by decide +kernel⟩, by decide +kernel⟩
theorem mi_X8_told : MInfo yX8_told cX8_told 5 (some .int) 2 := ⟨wq_1679, wq_135, by decide, ⟨by decide +kernel, by decide +kernel, by decide +kernel⟩, by decide +kernel⟩
theorem mi_X8_endOf : MInfo yX8_endOf cX8_endOf 2 (some .int) 1 := ⟨wq_1699, wq_135, by decide, ⟨by decide +kernel, by decide +kernel, by decide +kernel⟩, by decide +kernel⟩
theorem mi_X8_inRange : MInfo yX8_inRange cX8_inRange 4 (some .int) 3 := ⟨wq_1711, wq_135, by decide, ⟨by decide +kernel, by decide +kernel, by decide +kernel⟩, by decide +kernel⟩
theorem mi_X8_isNew : MInfo yX8_isNew cX8_isNew 4 (some .int) 3 := ⟨wq_1675, wq_135, by decide, ⟨by decide +kernel, by decide +kernel, by decide +kernel⟩, by decide +kernel⟩
theorem mi_X8_eat : MInfo yX8_eat cX8_eat 2 (some .boolean) 1 := ⟨wq_1594, wq_135, by decide, ⟨by decide +kernel, by decide +kernel, by decide +kernel⟩, by decide +kernel⟩
theorem mi_X8_eatSign : MInfo yX8_eatSign cX8_eatSign 2 (some .boolean) 1 := ⟨wq_1643, wq_135, by decide, ⟨by decide +kernel, by decide +kernel, by decide +kernel⟩, by decide +kernel⟩
theorem mi_X8_eatAs : MInfo yX8_eatAs cX8_eatAs 3 (some .boolean) 2 := ⟨wq_1590, wq_135, by decide, ⟨by decide +kernel, by decide +kernel, by decide +kernel⟩, by decide +kernel⟩
theorem mi_X8_put : MInfo yX8_put cX8_put 2 none 1 := ⟨wq_1635, wq_135, by decide, ⟨by decide +kernel, by decide +kernel, by decide +kernel⟩, by decide +kernel⟩
theorem mi_X8_isEnd : MInfo yX8_isEnd cX8_isEnd 2 (some .boolean) 1 := ⟨wq_1610, wq_135, by decide, ⟨by decide +kernel, by decide +kernel, by decide +kernel⟩, by decide +kernel⟩
theorem mi_X8_isDeeper : MInfo yX8_isDeeper cX8_isDeeper 1 (some .boolean) 0 := ⟨wq_1631, wq_135, by decide, ⟨by decide +kernel, by decide +kernel, by decide +kernel⟩, by decide +kernel⟩
theorem mi_X8_isNamed : MInfo yX8_isNamed cX8_isNamed 2 (some .boolean) 1 := ⟨wq_1647, wq_135, by decide, ⟨by decide +kernel, by decide +kernel, by decide +kernel⟩, by decide +kernel⟩
theorem mi_X8_look : MInfo yX8_look cX8_look 3 (some .int) 2 := ⟨wq_1695, wq_135, by decide, ⟨by decide +kernel, by decide +kernel, by decide +kernel⟩, by decide +kernel⟩
theorem mi_X8_order : MInfo yX8_order cX8_order 3 (some .int) 1 := ⟨wq_1687, wq_135, by decide, ⟨by decide +kernel, by decide +kernel, by decide +kernel⟩, by decide +kernel⟩
theorem mi_X8_crewed : MInfo yX8_crewed cX8_crewed 5 (some .int) 2 := ⟨wq_1691, wq_135, by decide, ⟨by decide +kernel, by decide +kernel, by decide +kernel⟩, by decide +kernel⟩
theorem mi_X8_dug : MInfo yX8_dug cX8_dug 6 (some .int) 1 := ⟨wq_1707, wq_135, by decide, ⟨by decide +kernel, by decide +kernel, by decide +kernel⟩, by decide +kernel⟩
theorem mi_X8_numberOf : MInfo yX8_numberOf cX8_numberOf 3 (some .int) 1 := ⟨wq_1703, wq_135, by decide, ⟨by decide +kernel, by decide +kernel, by decide +kernel⟩, by decide +kernel⟩
theorem mi_X8_errorOf : MInfo yX8_errorOf cX8_errorOf 4 (some .int) 1 := ⟨wq_1671, wq_135, by decide, ⟨by decide +kernel, by decide +kernel, by decide +kernel⟩, by decide +kernel⟩
theorem mi_X8_isBoreLine : MInfo yX8_isBoreLine cX8_isBoreLine 1 (some .boolean) 0 := ⟨wq_1586, wq_135, by decide, ⟨by decide +kernel, by decide +kernel, by decide +kernel⟩, by decide +kernel⟩
theorem mi_X8_isShaftLine : MInfo yX8_isShaftLine cX8_isShaftLine 1 (some .boolean) 0 := ⟨wq_1598, wq_135, by decide, ⟨by decide +kernel, by decide +kernel, by decide +kernel⟩, by decide +kernel⟩
theorem mi_X8_isLeggerLine : MInfo yX8_isLeggerLine cX8_isLeggerLine 1 (some .boolean) 0 := ⟨wq_1602, wq_135, by decide, ⟨by decide +kernel, by decide +kernel, by decide +kernel⟩, by decide +kernel⟩
theorem mi_X8_isBoatLine : MInfo yX8_isBoatLine cX8_isBoatLine 1 (some .boolean) 0 := ⟨wq_1606, wq_135, by decide, ⟨by decide +kernel, by decide +kernel, by decide +kernel⟩, by decide +kernel⟩
def wp_X8_byteOf (N : M2) (P : M2) (x1 : Int32) (K : Int32 → Prop) : Prop := (((N 222 0) ≤ x1 → K ((-1))) ∧ (¬ (N 222 0) ≤ x1 → (inb x1 2000 ∧ K (N 221 x1.toInt.toNat))))
set_option maxRecDepth 100000 in
set_option maxHeartbeats 4000000 in
theorem c_X8_byteOf (l : Launch) (D : va_G) (Z : Nat → ClassId) (q g : Nat → Nat) (pl sa aa : Nat) (N : M2) (P : M2) (sz : Nat) (x1 : Int32) (K : Int32 → Prop) (hm : wp_X8_byteOf N P x1 K) : Met l yX8_byteOf (wy yX8_byteOf cX8_byteOf 2 (some .int)) (rk 1 0 0) (pre vwCl D Z (MP Z q g pl sa aa N P) sz [.ref (g 220), .int x1]) (vp_Si K) 0 0 (fun _ => False) := by
  refine ro_of (ty := .int) (by decide +kernel) (Nat.le_of_ble_eq_true rfl) rfl ?_
  intro p e s m args below meth c Q hC hN hsz hP hD hK hret ls hl
  have hx := hC.1
  have hb := hC.2.1
  have hl : lv_has ls 2 [(0, .ref (g 220)), (1, .int x1)] := hl
  refine lv_iload_n hx hb dX8_byteOf_0 rfl (lv_at hl 1 rfl) ?_
  refine lv_aload_n hx hb dX8_byteOf_1 rfl (lv_at hl 0 rfl) ?_
  refine gMP_mod_2 hC hK hP wq_1421 dX8_byteOf_2 ?_
  refine lv_icmp_ge (tgt := 17) hx hb dX8_byteOf_5 (by decide) (fun c_5 => ?_) (fun c_5 => ?_)
  · have hm := hm.1 c_5
    refine lv_iconst (v := (-1)) hx hb dX8_byteOf_17 (by decide) ?_
    exact hret 18 _ _ hm rfl dX8_byteOf_18
  · have hm := hm.2 c_5
    refine lv_aload_n hx hb dX8_byteOf_8 rfl (lv_at hl 0 rfl) ?_
    refine gMP_mod_1 hC hK hP wq_1420 dX8_byteOf_9 ?_
    refine lv_iload_n hx hb dX8_byteOf_12 rfl (lv_at hl 1 rfl) ?_
    refine w_iald (q0 := 1) hC hK hP rfl hm.1 dX8_byteOf_13 ?_
    have hm := hm.2
    refine lv_goto (tgt := 18) hx hb dX8_byteOf_14 (by decide) ?_
    exact hret 18 _ _ hm rfl dX8_byteOf_18
section KX8_byteOf
variable {p : Program} {l : Launch} {e : Env} {s : State} {m : MethodId} {args : Array Value} {below : List Frame} {meth : Method} {c : Code} {H H0 : Heap} {locs : List Loc} {cells slots : Nat} {Q : State → Prop} {R : Room} {rn mcR msR : Nat}
variable {pc : Nat} {ls : Array Slot} {rest : List Value} {A : Nat → Prop} {D : va_G}
variable {cc : ByteArray} {nL index : Nat} {own host : String}
end KX8_byteOf
def wp_X8_is (N : M2) (P : M2) (x1 : Int32) (K : Int32 → Prop) : Prop := (inb (N 229 0) 401 ∧ ((¬ (N 224 (N 229 0).toInt.toNat) = x1 → K 0) ∧ ((N 224 (N 229 0).toInt.toNat) = x1 → K 1)))
set_option maxRecDepth 100000 in
set_option maxHeartbeats 4000000 in
theorem c_X8_is (l : Launch) (D : va_G) (Z : Nat → ClassId) (q g : Nat → Nat) (pl sa aa : Nat) (N : M2) (P : M2) (sz : Nat) (x1 : Int32) (K : Int32 → Prop) (hm : wp_X8_is N P x1 K) : Met l yX8_is (wy yX8_is cX8_is 2 (some .boolean)) (rk 1 0 0) (pre vwCl D Z (MP Z q g pl sa aa N P) sz [.ref (g 220), .int x1]) (vp_Si K) 0 0 (fun _ => False) := by
  refine ro_of (ty := .boolean) (by decide +kernel) (Nat.le_of_ble_eq_true rfl) rfl ?_
  intro p e s m args below meth c Q hC hN hsz hP hD hK hret ls hl
  have hx := hC.1
  have hb := hC.2.1
  have hl : lv_has ls 2 [(0, .ref (g 220)), (1, .int x1)] := hl
  refine lv_aload_n hx hb dX8_is_0 rfl (lv_at hl 0 rfl) ?_
  refine gMP_mod_4 hC hK hP wq_1423 dX8_is_1 ?_
  refine lv_aload_n hx hb dX8_is_4 rfl (lv_at hl 0 rfl) ?_
  refine gMP_mod_9 hC hK hP wq_1428 dX8_is_5 ?_
  refine w_iald (q0 := 2) hC hK hP rfl hm.1 dX8_is_8 ?_
  have hm := hm.2
  refine lv_iload_n hx hb dX8_is_9 rfl (lv_at hl 1 rfl) ?_
  refine lv_icmp_ne (tgt := 17) hx hb dX8_is_10 (by decide) (fun c_10 => ?_) (fun c_10 => ?_)
  · have hm := hm.1 c_10
    refine lv_iconst (v := 0) hx hb dX8_is_17 (by decide) ?_
    exact hret 18 _ _ hm rfl dX8_is_18
  · have hm := hm.2 c_10
    refine lv_iconst (v := 1) hx hb dX8_is_13 (by decide) ?_
    refine lv_goto (tgt := 18) hx hb dX8_is_14 (by decide) ?_
    exact hret 18 _ _ hm rfl dX8_is_18
section KX8_is
variable {p : Program} {l : Launch} {e : Env} {s : State} {m : MethodId} {args : Array Value} {below : List Frame} {meth : Method} {c : Code} {H H0 : Heap} {locs : List Loc} {cells slots : Nat} {Q : State → Prop} {R : Room} {rn mcR msR : Nat}
variable {pc : Nat} {ls : Array Slot} {rest : List Value} {A : Nat → Prop} {D : va_G}
variable {cc : ByteArray} {nL index : Nat} {own host : String}
theorem k_X8_is {Z : Nat → ClassId} {q g : Nat → Nat} {pl sa aa : Nat} {N : M2} {P : M2} {x1 : Int32} {K : Int32 → Prop} (hC : CallFix p m c cc nL s args lw_g own) (hN : NW s) (hK : va_K D vwCl (tysG Z) s) (hP : va_P D vwCl (MP Z q g pl sa aa N P) H) (hD : va_D (fun _ => True) (MP Z q g pl sa aa N P)) (hm : wp_X8_is N P x1 K) (hl : Cond.methodLink own index yX8_is ∈ lw_g) (hlt : 1 < rn) (hsize : ls.size = nL) (hW : (rest.map fun v => v.category).sum ≤ 8) (hf : cells + 0 ≤ mcR ∧ slots + 0 ≤ msR) (hdg : decode cc pc = .ok (.invokevirtual index, 3)) (kk : ∀ r : Int32, K r → W p l e (rk rn mcR msR) s m args below meth c H locs cells slots Q (F0 m (pc + 3) ls (.int r :: rest))) : W p l e (rk rn mcR msR) s m args below meth c H locs cells slots Q (F0 m pc ls (.int x1 :: .ref (g 220) :: rest)) :=
  ro_go (runV (As := [.int x1]) hC hN (c_X8_is l D Z q g pl sa aa N P H.size x1 K hm) mi_X8_is hl wq_1581 wq_69 hlt hP hD hK (q0 := 0) rfl rfl rfl hsize rfl hW hdg hf) kk
end KX8_is
def wp_X8_isSign (N : M2) (P : M2) (x1 : Int32) (K : Int32 → Prop) : Prop := (inb (N 229 0) 401 ∧ ((¬ (N 224 (N 229 0).toInt.toNat) = (50 + x1) → K 0) ∧ ((N 224 (N 229 0).toInt.toNat) = (50 + x1) → K 1)))
set_option maxRecDepth 100000 in
set_option maxHeartbeats 4000000 in
theorem c_X8_isSign (l : Launch) (D : va_G) (Z : Nat → ClassId) (q g : Nat → Nat) (pl sa aa : Nat) (N : M2) (P : M2) (sz : Nat) (x1 : Int32) (K : Int32 → Prop) (hm : wp_X8_isSign N P x1 K) : Met l yX8_isSign (wy yX8_isSign cX8_isSign 2 (some .boolean)) (rk 1 0 0) (pre vwCl D Z (MP Z q g pl sa aa N P) sz [.ref (g 220), .int x1]) (vp_Si K) 0 0 (fun _ => False) := by
  refine ro_of (ty := .boolean) (by decide +kernel) (Nat.le_of_ble_eq_true rfl) rfl ?_
  intro p e s m args below meth c Q hC hN hsz hP hD hK hret ls hl
  have hx := hC.1
  have hb := hC.2.1
  have hl : lv_has ls 2 [(0, .ref (g 220)), (1, .int x1)] := hl
  refine lv_aload_n hx hb dX8_isSign_0 rfl (lv_at hl 0 rfl) ?_
  refine gMP_mod_4 hC hK hP wq_1423 dX8_isSign_1 ?_
  refine lv_aload_n hx hb dX8_isSign_4 rfl (lv_at hl 0 rfl) ?_
  refine gMP_mod_9 hC hK hP wq_1428 dX8_isSign_5 ?_
  refine w_iald (q0 := 2) hC hK hP rfl hm.1 dX8_isSign_8 ?_
  have hm := hm.2
  refine lv_bipush (v := 50) hx hb dX8_isSign_9 (by decide) ?_
  refine lv_iload_n hx hb dX8_isSign_11 rfl (lv_at hl 1 rfl) ?_
  refine lv_iadd hx hb dX8_isSign_12 ?_
  refine lv_icmp_ne (tgt := 20) hx hb dX8_isSign_13 (by decide) (fun c_13 => ?_) (fun c_13 => ?_)
  · have hm := hm.1 c_13
    refine lv_iconst (v := 0) hx hb dX8_isSign_20 (by decide) ?_
    exact hret 21 _ _ hm rfl dX8_isSign_21
  · have hm := hm.2 c_13
    refine lv_iconst (v := 1) hx hb dX8_isSign_16 (by decide) ?_
    refine lv_goto (tgt := 21) hx hb dX8_isSign_17 (by decide) ?_
    exact hret 21 _ _ hm rfl dX8_isSign_21
section KX8_isSign
variable {p : Program} {l : Launch} {e : Env} {s : State} {m : MethodId} {args : Array Value} {below : List Frame} {meth : Method} {c : Code} {H H0 : Heap} {locs : List Loc} {cells slots : Nat} {Q : State → Prop} {R : Room} {rn mcR msR : Nat}
variable {pc : Nat} {ls : Array Slot} {rest : List Value} {A : Nat → Prop} {D : va_G}
variable {cc : ByteArray} {nL index : Nat} {own host : String}
theorem k_X8_isSign {Z : Nat → ClassId} {q g : Nat → Nat} {pl sa aa : Nat} {N : M2} {P : M2} {x1 : Int32} {K : Int32 → Prop} (hC : CallFix p m c cc nL s args lw_g own) (hN : NW s) (hK : va_K D vwCl (tysG Z) s) (hP : va_P D vwCl (MP Z q g pl sa aa N P) H) (hD : va_D (fun _ => True) (MP Z q g pl sa aa N P)) (hm : wp_X8_isSign N P x1 K) (hl : Cond.methodLink own index yX8_isSign ∈ lw_g) (hlt : 1 < rn) (hsize : ls.size = nL) (hW : (rest.map fun v => v.category).sum ≤ 8) (hf : cells + 0 ≤ mcR ∧ slots + 0 ≤ msR) (hdg : decode cc pc = .ok (.invokevirtual index, 3)) (kk : ∀ r : Int32, K r → W p l e (rk rn mcR msR) s m args below meth c H locs cells slots Q (F0 m (pc + 3) ls (.int r :: rest))) : W p l e (rk rn mcR msR) s m args below meth c H locs cells slots Q (F0 m pc ls (.int x1 :: .ref (g 220) :: rest)) :=
  ro_go (runV (As := [.int x1]) hC hN (c_X8_isSign l D Z q g pl sa aa N P H.size x1 K hm) mi_X8_isSign hl wq_1638 wq_83 hlt hP hD hK (q0 := 0) rfl rfl rfl hsize rfl hW hdg hf) kk
end KX8_isSign
def wl_X8_numberAt_4 (N : M2) (P : M2) (K : Int32 → Prop) : Nat → Int32 → Int32 → Int32 → Prop
  | 0, _, _, _ => False
  | n + 1, v1, v2, v3 => (inb v1 401 ∧ (((N 226 v1.toInt.toNat) ≤ v3 → K v2) ∧ (¬ (N 226 v1.toInt.toNat) ≤ v3 → (inb v1 401 ∧ (inb ((N 225 v1.toInt.toNat) + v3) 2000 ∧ (∀ v2_35, v2_35 = ((10 * v2) + (N 221 ((N 225 v1.toInt.toNat) + v3).toInt.toNat)) - 48 → (∀ v3_36 : Int32, v3_36 = v3 + 1 → wl_X8_numberAt_4 N P K n v1 v2_35 v3_36)))))))
def wp_X8_numberAt (N : M2) (P : M2) (x1 : Int32) (K : Int32 → Prop) : Prop := wl_X8_numberAt_4 N P K fK x1 0 0
set_option maxRecDepth 100000 in
set_option maxHeartbeats 4000000 in
theorem c_X8_numberAt (l : Launch) (D : va_G) (Z : Nat → ClassId) (q g : Nat → Nat) (pl sa aa : Nat) (N : M2) (P : M2) (sz : Nat) (x1 : Int32) (K : Int32 → Prop) (hm : wp_X8_numberAt N P x1 K) : Met l yX8_numberAt (wy yX8_numberAt cX8_numberAt 4 (some .int)) (rk 1 0 0) (pre vwCl D Z (MP Z q g pl sa aa N P) sz [.ref (g 220), .int x1]) (vp_Si K) 0 0 (fun _ => False) := by
  refine ro_of (ty := .int) (by decide +kernel) (Nat.le_of_ble_eq_true rfl) rfl ?_
  intro p e s m args below meth c Q hC hN hsz hP hD hK hret ls hl
  have hx := hC.1
  have hb := hC.2.1
  have hl : lv_has ls 4 [(0, .ref (g 220)), (1, .int x1)] := hl
  have L4 : ∀ (n4 : Nat), ∀ (v1 : Int32) (v2 : Int32) (v3 : Int32) (ls : Array Slot), wl_X8_numberAt_4 N P K n4 v1 v2 v3 → lv_has ls 4 [(0, .ref (g 220)), (1, .int v1), (2, .int v2), (3, .int v3)] → W p l e (rk 1 0 0) s m args below meth c s.heap [] 0 0 Q (F0 m 4 ls []) := by
    intro n4
    induction n4 with
    | zero =>
      intro v1 v2 v3 ls hm hl
      exact False.elim hm
    | succ n4 ih4 =>
      intro v1 v2 v3 ls hm hl
      refine lv_iload_n hx hb dX8_numberAt_4 rfl (lv_at hl 3 rfl) ?_
      refine lv_aload_n hx hb dX8_numberAt_5 rfl (lv_at hl 0 rfl) ?_
      refine gMP_mod_6 hC hK hP wq_1425 dX8_numberAt_6 ?_
      refine lv_iload_n hx hb dX8_numberAt_9 rfl (lv_at hl 1 rfl) ?_
      refine w_iald (q0 := 4) hC hK hP rfl hm.1 dX8_numberAt_10 ?_
      have hm := hm.2
      refine lv_icmp_ge (tgt := 42) hx hb dX8_numberAt_11 (by decide) (fun c_11 => ?_) (fun c_11 => ?_)
      · have hm := hm.1 c_11
        refine lv_iload_n hx hb dX8_numberAt_42 rfl (lv_at hl 2 rfl) ?_
        exact hret 43 _ _ hm rfl dX8_numberAt_43
      · have hm := hm.2 c_11
        refine lv_bipush (v := 10) hx hb dX8_numberAt_14 (by decide) ?_
        refine lv_iload_n hx hb dX8_numberAt_16 rfl (lv_at hl 2 rfl) ?_
        refine lv_imul hx hb dX8_numberAt_17 ?_
        refine lv_aload_n hx hb dX8_numberAt_18 rfl (lv_at hl 0 rfl) ?_
        refine gMP_mod_1 hC hK hP wq_1420 dX8_numberAt_19 ?_
        refine lv_aload_n hx hb dX8_numberAt_22 rfl (lv_at hl 0 rfl) ?_
        refine gMP_mod_5 hC hK hP wq_1424 dX8_numberAt_23 ?_
        refine lv_iload_n hx hb dX8_numberAt_26 rfl (lv_at hl 1 rfl) ?_
        refine w_iald (q0 := 3) hC hK hP rfl hm.1 dX8_numberAt_27 ?_
        have hm := hm.2
        refine lv_iload_n hx hb dX8_numberAt_28 rfl (lv_at hl 3 rfl) ?_
        refine lv_iadd hx hb dX8_numberAt_29 ?_
        refine w_iald (q0 := 1) hC hK hP rfl hm.1 dX8_numberAt_30 ?_
        have hm := hm.2
        refine lv_iadd hx hb dX8_numberAt_31 ?_
        refine lv_bipush (v := 48) hx hb dX8_numberAt_32 (by decide) ?_
        refine lv_isub hx hb dX8_numberAt_34 ?_
        refine lv_topi (fun v2_35 ev2_35 => ?_)
        have hm := hm v2_35 ev2_35
        refine lv_istore_n (lv' := [(2, .int v2_35), (0, .ref (g 220)), (1, .int v1), (3, .int v3)]) hx hb dX8_numberAt_35 rfl hl (by decide) rfl (fun ls hl => ?_)
        obtain ⟨v3_36, ev3_36⟩ : ∃ y : Int32, y = v3 + 1 := ⟨_, rfl⟩
        have hm := hm v3_36 ev3_36
        refine lv_iinc (v := v3_36) (lv' := [(3, .int v3_36), (2, .int v2_35), (0, .ref (g 220)), (1, .int v1)]) hx hb dX8_numberAt_36 hl (k := 3) rfl (by rw [ev3_36]; rfl) (by decide) rfl (fun ls hl => ?_)
        refine lv_goto (tgt := 4) hx hb dX8_numberAt_39 (by decide) ?_
        exact ih4 _ _ _ _ hm (lv_sub hl [2, 3, 1, 0] rfl)
  refine lv_iconst (v := 0) hx hb dX8_numberAt_0 (by decide) ?_
  refine lv_istore_n (lv' := [(2, .int 0), (0, .ref (g 220)), (1, .int x1)]) hx hb dX8_numberAt_1 rfl hl (by decide) rfl (fun ls hl => ?_)
  refine lv_iconst (v := 0) hx hb dX8_numberAt_2 (by decide) ?_
  refine lv_istore_n (lv' := [(3, .int 0), (2, .int 0), (0, .ref (g 220)), (1, .int x1)]) hx hb dX8_numberAt_3 rfl hl (by decide) rfl (fun ls hl => ?_)
  exact L4 _ _ _ _ _ hm (lv_sub hl [2, 3, 1, 0] rfl)
section KX8_numberAt
variable {p : Program} {l : Launch} {e : Env} {s : State} {m : MethodId} {args : Array Value} {below : List Frame} {meth : Method} {c : Code} {H H0 : Heap} {locs : List Loc} {cells slots : Nat} {Q : State → Prop} {R : Room} {rn mcR msR : Nat}
variable {pc : Nat} {ls : Array Slot} {rest : List Value} {A : Nat → Prop} {D : va_G}
variable {cc : ByteArray} {nL index : Nat} {own host : String}
theorem k_X8_numberAt {Z : Nat → ClassId} {q g : Nat → Nat} {pl sa aa : Nat} {N : M2} {P : M2} {x1 : Int32} {K : Int32 → Prop} (hC : CallFix p m c cc nL s args lw_g own) (hN : NW s) (hK : va_K D vwCl (tysG Z) s) (hP : va_P D vwCl (MP Z q g pl sa aa N P) H) (hD : va_D (fun _ => True) (MP Z q g pl sa aa N P)) (hm : wp_X8_numberAt N P x1 K) (hl : Cond.methodLink own index yX8_numberAt ∈ lw_g) (hlt : 1 < rn) (hsize : ls.size = nL) (hW : (rest.map fun v => v.category).sum ≤ 8) (hf : cells + 0 ≤ mcR ∧ slots + 0 ≤ msR) (hdg : decode cc pc = .ok (.invokevirtual index, 3)) (kk : ∀ r : Int32, K r → W p l e (rk rn mcR msR) s m args below meth c H locs cells slots Q (F0 m (pc + 3) ls (.int r :: rest))) : W p l e (rk rn mcR msR) s m args below meth c H locs cells slots Q (F0 m pc ls (.int x1 :: .ref (g 220) :: rest)) :=
  ro_go (runV (As := [.int x1]) hC hN (c_X8_numberAt l D Z q g pl sa aa N P H.size x1 K hm) mi_X8_numberAt hl wq_1662 wq_89 hlt hP hD hK (q0 := 0) rfl rfl rfl hsize rfl hW hdg hf) kk
end KX8_numberAt
def wl_X8_isSame_19 (N : M2) (P : M2) (K : Int32 → Prop) : Nat → Int32 → Int32 → Int32 → Prop
  | 0, _, _, _ => False
  | n + 1, v1, v2, v3 => (inb v1 401 ∧ (((N 226 v1.toInt.toNat) ≤ v3 → K 1) ∧ (¬ (N 226 v1.toInt.toNat) ≤ v3 → (inb v1 401 ∧ (inb ((N 225 v1.toInt.toNat) + v3) 2000 ∧ (inb v2 401 ∧ (inb ((N 225 v2.toInt.toNat) + v3) 2000 ∧ (((N 221 ((N 225 v1.toInt.toNat) + v3).toInt.toNat) = (N 221 ((N 225 v2.toInt.toNat) + v3).toInt.toNat) → (∀ v3_60 : Int32, v3_60 = v3 + 1 → wl_X8_isSame_19 N P K n v1 v2 v3_60)) ∧ (¬ (N 221 ((N 225 v1.toInt.toNat) + v3).toInt.toNat) = (N 221 ((N 225 v2.toInt.toNat) + v3).toInt.toNat) → K 0)))))))))
def wp_X8_isSame (N : M2) (P : M2) (x1 : Int32) (x2 : Int32) (K : Int32 → Prop) : Prop := (inb x1 401 ∧ (inb x2 401 ∧ (((N 226 x1.toInt.toNat) = (N 226 x2.toInt.toNat) → wl_X8_isSame_19 N P K fK x1 x2 0) ∧ (¬ (N 226 x1.toInt.toNat) = (N 226 x2.toInt.toNat) → K 0))))
set_option maxRecDepth 100000 in
set_option maxHeartbeats 4000000 in
theorem c_X8_isSame (l : Launch) (D : va_G) (Z : Nat → ClassId) (q g : Nat → Nat) (pl sa aa : Nat) (N : M2) (P : M2) (sz : Nat) (x1 : Int32) (x2 : Int32) (K : Int32 → Prop) (hm : wp_X8_isSame N P x1 x2 K) : Met l yX8_isSame (wy yX8_isSame cX8_isSame 4 (some .boolean)) (rk 1 0 0) (pre vwCl D Z (MP Z q g pl sa aa N P) sz [.ref (g 220), .int x1, .int x2]) (vp_Si K) 0 0 (fun _ => False) := by
  refine ro_of (ty := .boolean) (by decide +kernel) (Nat.le_of_ble_eq_true rfl) rfl ?_
  intro p e s m args below meth c Q hC hN hsz hP hD hK hret ls hl
  have hx := hC.1
  have hb := hC.2.1
  have hl : lv_has ls 4 [(0, .ref (g 220)), (1, .int x1), (2, .int x2)] := hl
  have L19 : ∀ (n19 : Nat), ∀ (v1 : Int32) (v2 : Int32) (v3 : Int32) (ls : Array Slot), wl_X8_isSame_19 N P K n19 v1 v2 v3 → lv_has ls 4 [(0, .ref (g 220)), (1, .int v1), (2, .int v2), (3, .int v3)] → W p l e (rk 1 0 0) s m args below meth c s.heap [] 0 0 Q (F0 m 19 ls []) := by
    intro n19
    induction n19 with
    | zero =>
      intro v1 v2 v3 ls hm hl
      exact False.elim hm
    | succ n19 ih19 =>
      intro v1 v2 v3 ls hm hl
      refine lv_iload_n hx hb dX8_isSame_19 rfl (lv_at hl 3 rfl) ?_
      refine lv_aload_n hx hb dX8_isSame_20 rfl (lv_at hl 0 rfl) ?_
      refine gMP_mod_6 hC hK hP wq_1425 dX8_isSame_21 ?_
      refine lv_iload_n hx hb dX8_isSame_24 rfl (lv_at hl 1 rfl) ?_
      refine w_iald (q0 := 4) hC hK hP rfl hm.1 dX8_isSame_25 ?_
      have hm := hm.2
      refine lv_icmp_ge (tgt := 66) hx hb dX8_isSame_26 (by decide) (fun c_26 => ?_) (fun c_26 => ?_)
      · have hm := hm.1 c_26
        refine lv_iconst (v := 1) hx hb dX8_isSame_66 (by decide) ?_
        exact hret 67 _ _ hm rfl dX8_isSame_67
      · have hm := hm.2 c_26
        refine lv_aload_n hx hb dX8_isSame_29 rfl (lv_at hl 0 rfl) ?_
        refine gMP_mod_1 hC hK hP wq_1420 dX8_isSame_30 ?_
        refine lv_aload_n hx hb dX8_isSame_33 rfl (lv_at hl 0 rfl) ?_
        refine gMP_mod_5 hC hK hP wq_1424 dX8_isSame_34 ?_
        refine lv_iload_n hx hb dX8_isSame_37 rfl (lv_at hl 1 rfl) ?_
        refine w_iald (q0 := 3) hC hK hP rfl hm.1 dX8_isSame_38 ?_
        have hm := hm.2
        refine lv_iload_n hx hb dX8_isSame_39 rfl (lv_at hl 3 rfl) ?_
        refine lv_iadd hx hb dX8_isSame_40 ?_
        refine w_iald (q0 := 1) hC hK hP rfl hm.1 dX8_isSame_41 ?_
        have hm := hm.2
        refine lv_aload_n hx hb dX8_isSame_42 rfl (lv_at hl 0 rfl) ?_
        refine gMP_mod_1 hC hK hP wq_1420 dX8_isSame_43 ?_
        refine lv_aload_n hx hb dX8_isSame_46 rfl (lv_at hl 0 rfl) ?_
        refine gMP_mod_5 hC hK hP wq_1424 dX8_isSame_47 ?_
        refine lv_iload_n hx hb dX8_isSame_50 rfl (lv_at hl 2 rfl) ?_
        refine w_iald (q0 := 3) hC hK hP rfl hm.1 dX8_isSame_51 ?_
        have hm := hm.2
        refine lv_iload_n hx hb dX8_isSame_52 rfl (lv_at hl 3 rfl) ?_
        refine lv_iadd hx hb dX8_isSame_53 ?_
        refine w_iald (q0 := 1) hC hK hP rfl hm.1 dX8_isSame_54 ?_
        have hm := hm.2
        refine lv_icmp_eq (tgt := 60) hx hb dX8_isSame_55 (by decide) (fun c_55 => ?_) (fun c_55 => ?_)
        · have hm := hm.1 c_55
          obtain ⟨v3_60, ev3_60⟩ : ∃ y : Int32, y = v3 + 1 := ⟨_, rfl⟩
          have hm := hm v3_60 ev3_60
          refine lv_iinc (v := v3_60) (lv' := [(3, .int v3_60), (0, .ref (g 220)), (1, .int v1), (2, .int v2)]) hx hb dX8_isSame_60 hl (k := 3) rfl (by rw [ev3_60]; rfl) (by decide) rfl (fun ls hl => ?_)
          refine lv_goto (tgt := 19) hx hb dX8_isSame_63 (by decide) ?_
          exact ih19 _ _ _ _ hm (lv_sub hl [1, 2, 3, 0] rfl)
        · have hm := hm.2 c_55
          refine lv_iconst (v := 0) hx hb dX8_isSame_58 (by decide) ?_
          exact hret 59 _ _ hm rfl dX8_isSame_59
  refine lv_aload_n hx hb dX8_isSame_0 rfl (lv_at hl 0 rfl) ?_
  refine gMP_mod_6 hC hK hP wq_1425 dX8_isSame_1 ?_
  refine lv_iload_n hx hb dX8_isSame_4 rfl (lv_at hl 1 rfl) ?_
  refine w_iald (q0 := 4) hC hK hP rfl hm.1 dX8_isSame_5 ?_
  have hm := hm.2
  refine lv_aload_n hx hb dX8_isSame_6 rfl (lv_at hl 0 rfl) ?_
  refine gMP_mod_6 hC hK hP wq_1425 dX8_isSame_7 ?_
  refine lv_iload_n hx hb dX8_isSame_10 rfl (lv_at hl 2 rfl) ?_
  refine w_iald (q0 := 4) hC hK hP rfl hm.1 dX8_isSame_11 ?_
  have hm := hm.2
  refine lv_icmp_eq (tgt := 17) hx hb dX8_isSame_12 (by decide) (fun c_12 => ?_) (fun c_12 => ?_)
  · have hm := hm.1 c_12
    refine lv_iconst (v := 0) hx hb dX8_isSame_17 (by decide) ?_
    refine lv_istore_n (lv' := [(3, .int 0), (0, .ref (g 220)), (1, .int x1), (2, .int x2)]) hx hb dX8_isSame_18 rfl hl (by decide) rfl (fun ls hl => ?_)
    exact L19 _ _ _ _ _ hm (lv_sub hl [1, 2, 3, 0] rfl)
  · have hm := hm.2 c_12
    refine lv_iconst (v := 0) hx hb dX8_isSame_15 (by decide) ?_
    exact hret 16 _ _ hm rfl dX8_isSame_16
section KX8_isSame
variable {p : Program} {l : Launch} {e : Env} {s : State} {m : MethodId} {args : Array Value} {below : List Frame} {meth : Method} {c : Code} {H H0 : Heap} {locs : List Loc} {cells slots : Nat} {Q : State → Prop} {R : Room} {rn mcR msR : Nat}
variable {pc : Nat} {ls : Array Slot} {rest : List Value} {A : Nat → Prop} {D : va_G}
variable {cc : ByteArray} {nL index : Nat} {own host : String}
theorem k_X8_isSame {Z : Nat → ClassId} {q g : Nat → Nat} {pl sa aa : Nat} {N : M2} {P : M2} {x1 : Int32} {x2 : Int32} {K : Int32 → Prop} (hC : CallFix p m c cc nL s args lw_g own) (hN : NW s) (hK : va_K D vwCl (tysG Z) s) (hP : va_P D vwCl (MP Z q g pl sa aa N P) H) (hD : va_D (fun _ => True) (MP Z q g pl sa aa N P)) (hm : wp_X8_isSame N P x1 x2 K) (hl : Cond.methodLink own index yX8_isSame ∈ lw_g) (hlt : 1 < rn) (hsize : ls.size = nL) (hW : (rest.map fun v => v.category).sum ≤ 8) (hf : cells + 0 ≤ mcR ∧ slots + 0 ≤ msR) (hdg : decode cc pc = .ok (.invokevirtual index, 3)) (kk : ∀ r : Int32, K r → W p l e (rk rn mcR msR) s m args below meth c H locs cells slots Q (F0 m (pc + 3) ls (.int r :: rest))) : W p l e (rk rn mcR msR) s m args below meth c H locs cells slots Q (F0 m pc ls (.int x2 :: .int x1 :: .ref (g 220) :: rest)) :=
  ro_go (runV (As := [.int x1, .int x2]) hC hN (c_X8_isSame l D Z q g pl sa aa N P H.size x1 x2 K hm) mi_X8_isSame hl wq_1682 wq_94 hlt hP hD hK (q0 := 0) rfl rfl rfl hsize rfl hW hdg hf) kk
end KX8_isSame
def wl_X8_told_5 (N : M2) (P : M2) (K : Int32 → Prop) : Nat → Int32 → Int32 → Int32 → Int32 → Prop
  | 0, _, _, _, _ => False
  | n + 1, v1, v2, v3, v4 => ((v1 ≤ v4 → K ((-1))) ∧ (¬ v1 ≤ v4 → (inb v4 401 ∧ (((N 227 v4.toInt.toNat) = v2 → wp_X8_isSame N P v4 v1 (fun r_29 => ((r_29 = 0 → (∀ v3_37 : Int32, v3_37 = v3 + 1 → (∀ v4_40 : Int32, v4_40 = v4 + 1 → wl_X8_told_5 N P K n v1 v2 v3_37 v4_40))) ∧ (¬ r_29 = 0 → K v3)))) ∧ (¬ (N 227 v4.toInt.toNat) = v2 → (∀ v4_40 : Int32, v4_40 = v4 + 1 → wl_X8_told_5 N P K n v1 v2 v3 v4_40))))))
def wp_X8_told (N : M2) (P : M2) (x1 : Int32) (x2 : Int32) (K : Int32 → Prop) : Prop := wl_X8_told_5 N P K fK x1 x2 0 0
set_option maxRecDepth 100000 in
set_option maxHeartbeats 4000000 in
theorem c_X8_told (l : Launch) (D : va_G) (Z : Nat → ClassId) (q g : Nat → Nat) (pl sa aa : Nat) (N : M2) (P : M2) (sz : Nat) (x1 : Int32) (x2 : Int32) (K : Int32 → Prop) (hm : wp_X8_told N P x1 x2 K) : Met l yX8_told (wy yX8_told cX8_told 5 (some .int)) (rk 2 0 0) (pre vwCl D Z (MP Z q g pl sa aa N P) sz [.ref (g 220), .int x1, .int x2]) (vp_Si K) 0 0 (fun _ => False) := by
  refine ro_of (ty := .int) (by decide +kernel) (Nat.le_of_ble_eq_true rfl) rfl ?_
  intro p e s m args below meth c Q hC hN hsz hP hD hK hret ls hl
  have hx := hC.1
  have hb := hC.2.1
  have hl : lv_has ls 5 [(0, .ref (g 220)), (1, .int x1), (2, .int x2)] := hl
  have L5 : ∀ (n5 : Nat), ∀ (v1 : Int32) (v2 : Int32) (v3 : Int32) (v4 : Int32) (ls : Array Slot), wl_X8_told_5 N P K n5 v1 v2 v3 v4 → lv_has ls 5 [(0, .ref (g 220)), (1, .int v1), (2, .int v2), (3, .int v3), (4, .int v4)] → W p l e (rk 2 0 0) s m args below meth c s.heap [] 0 0 Q (F0 m 5 ls []) := by
    intro n5
    induction n5 with
    | zero =>
      intro v1 v2 v3 v4 ls hm hl
      exact False.elim hm
    | succ n5 ih5 =>
      intro v1 v2 v3 v4 ls hm hl
      refine lv_iload hx hb dX8_told_5 (lv_at hl 4 rfl) ?_
      refine lv_iload_n hx hb dX8_told_7 rfl (lv_at hl 1 rfl) ?_
      refine lv_icmp_ge (tgt := 46) hx hb dX8_told_8 (by decide) (fun c_8 => ?_) (fun c_8 => ?_)
      · have hm := hm.1 c_8
        refine lv_iconst (v := (-1)) hx hb dX8_told_46 (by decide) ?_
        exact hret 47 _ _ hm rfl dX8_told_47
      · have hm := hm.2 c_8
        refine lv_aload_n hx hb dX8_told_11 rfl (lv_at hl 0 rfl) ?_
        refine gMP_mod_7 hC hK hP wq_1426 dX8_told_12 ?_
        refine lv_iload hx hb dX8_told_15 (lv_at hl 4 rfl) ?_
        refine w_iald (q0 := 5) hC hK hP rfl hm.1 dX8_told_17 ?_
        have hm := hm.2
        refine lv_iload_n hx hb dX8_told_18 rfl (lv_at hl 2 rfl) ?_
        refine lv_icmp_eq (tgt := 25) hx hb dX8_told_19 (by decide) (fun c_19 => ?_) (fun c_19 => ?_)
        · have hm := hm.1 c_19
          refine lv_aload_n hx hb dX8_told_25 rfl (lv_at hl 0 rfl) ?_
          refine lv_iload hx hb dX8_told_26 (lv_at hl 4 rfl) ?_
          refine lv_iload_n hx hb dX8_told_28 rfl (lv_at hl 1 rfl) ?_
          refine k_X8_isSame hC hN hK hP hD hm wq_1680 (by decide) hl.1 (Nat.le_of_ble_eq_true rfl) ⟨Nat.le_refl _, Nat.le_refl _⟩ dX8_told_29 (fun r_29 hm => ?_)
          refine lv_if_eq (tgt := 37) hx hb dX8_told_32 (by decide) (fun c_32 => ?_) (fun c_32 => ?_)
          · have hm := hm.1 c_32
            obtain ⟨v3_37, ev3_37⟩ : ∃ y : Int32, y = v3 + 1 := ⟨_, rfl⟩
            have hm := hm v3_37 ev3_37
            refine lv_iinc (v := v3_37) (lv' := [(3, .int v3_37), (0, .ref (g 220)), (1, .int v1), (2, .int v2), (4, .int v4)]) hx hb dX8_told_37 hl (k := 3) rfl (by rw [ev3_37]; rfl) (by decide) rfl (fun ls hl => ?_)
            obtain ⟨v4_40, ev4_40⟩ : ∃ y : Int32, y = v4 + 1 := ⟨_, rfl⟩
            have hm := hm v4_40 ev4_40
            refine lv_iinc (v := v4_40) (lv' := [(4, .int v4_40), (3, .int v3_37), (0, .ref (g 220)), (1, .int v1), (2, .int v2)]) hx hb dX8_told_40 hl (k := 4) rfl (by rw [ev4_40]; rfl) (by decide) rfl (fun ls hl => ?_)
            refine lv_goto (tgt := 5) hx hb dX8_told_43 (by decide) ?_
            exact ih5 _ _ _ _ _ hm (lv_sub hl [2, 3, 4, 1, 0] rfl)
          · have hm := hm.2 c_32
            refine lv_iload_n hx hb dX8_told_35 rfl (lv_at hl 3 rfl) ?_
            exact hret 36 _ _ hm rfl dX8_told_36
        · have hm := hm.2 c_19
          refine lv_goto (tgt := 40) hx hb dX8_told_22 (by decide) ?_
          obtain ⟨v4_40, ev4_40⟩ : ∃ y : Int32, y = v4 + 1 := ⟨_, rfl⟩
          have hm := hm v4_40 ev4_40
          refine lv_iinc (v := v4_40) (lv' := [(4, .int v4_40), (0, .ref (g 220)), (1, .int v1), (2, .int v2), (3, .int v3)]) hx hb dX8_told_40 hl (k := 4) rfl (by rw [ev4_40]; rfl) (by decide) rfl (fun ls hl => ?_)
          refine lv_goto (tgt := 5) hx hb dX8_told_43 (by decide) ?_
          exact ih5 _ _ _ _ _ hm (lv_sub hl [1, 2, 3, 4, 0] rfl)
  refine lv_iconst (v := 0) hx hb dX8_told_0 (by decide) ?_
  refine lv_istore_n (lv' := [(3, .int 0), (0, .ref (g 220)), (1, .int x1), (2, .int x2)]) hx hb dX8_told_1 rfl hl (by decide) rfl (fun ls hl => ?_)
  refine lv_iconst (v := 0) hx hb dX8_told_2 (by decide) ?_
  refine lv_istore (lv' := [(4, .int 0), (3, .int 0), (0, .ref (g 220)), (1, .int x1), (2, .int x2)]) hx hb dX8_told_3 hl (by decide) rfl (fun ls hl => ?_)
  exact L5 _ _ _ _ _ _ hm (lv_sub hl [2, 3, 4, 1, 0] rfl)
section KX8_told
variable {p : Program} {l : Launch} {e : Env} {s : State} {m : MethodId} {args : Array Value} {below : List Frame} {meth : Method} {c : Code} {H H0 : Heap} {locs : List Loc} {cells slots : Nat} {Q : State → Prop} {R : Room} {rn mcR msR : Nat}
variable {pc : Nat} {ls : Array Slot} {rest : List Value} {A : Nat → Prop} {D : va_G}
variable {cc : ByteArray} {nL index : Nat} {own host : String}
theorem k_X8_told {Z : Nat → ClassId} {q g : Nat → Nat} {pl sa aa : Nat} {N : M2} {P : M2} {x1 : Int32} {x2 : Int32} {K : Int32 → Prop} (hC : CallFix p m c cc nL s args lw_g own) (hN : NW s) (hK : va_K D vwCl (tysG Z) s) (hP : va_P D vwCl (MP Z q g pl sa aa N P) H) (hD : va_D (fun _ => True) (MP Z q g pl sa aa N P)) (hm : wp_X8_told N P x1 x2 K) (hl : Cond.methodLink own index yX8_told ∈ lw_g) (hlt : 2 < rn) (hsize : ls.size = nL) (hW : (rest.map fun v => v.category).sum ≤ 8) (hf : cells + 0 ≤ mcR ∧ slots + 0 ≤ msR) (hdg : decode cc pc = .ok (.invokevirtual index, 3)) (kk : ∀ r : Int32, K r → W p l e (rk rn mcR msR) s m args below meth c H locs cells slots Q (F0 m (pc + 3) ls (.int r :: rest))) : W p l e (rk rn mcR msR) s m args below meth c H locs cells slots Q (F0 m pc ls (.int x2 :: .int x1 :: .ref (g 220) :: rest)) :=
  ro_go (runV (As := [.int x1, .int x2]) hC hN (c_X8_told l D Z q g pl sa aa N P H.size x1 x2 K hm) mi_X8_told hl wq_1678 wq_93 hlt hP hD hK (q0 := 0) rfl rfl rfl hsize rfl hW hdg hf) kk
end KX8_told
def wp_X8_endOf (N : M2) (P : M2) (x1 : Int32) (K : Int32 → Prop) : Prop := (inb x1 401 ∧ ((¬ (N 224 x1.toInt.toNat) = 12 → K 1) ∧ ((N 224 x1.toInt.toNat) = 12 → K 0)))
set_option maxRecDepth 100000 in
set_option maxHeartbeats 4000000 in
theorem c_X8_endOf (l : Launch) (D : va_G) (Z : Nat → ClassId) (q g : Nat → Nat) (pl sa aa : Nat) (N : M2) (P : M2) (sz : Nat) (x1 : Int32) (K : Int32 → Prop) (hm : wp_X8_endOf N P x1 K) : Met l yX8_endOf (wy yX8_endOf cX8_endOf 2 (some .int)) (rk 1 0 0) (pre vwCl D Z (MP Z q g pl sa aa N P) sz [.ref (g 220), .int x1]) (vp_Si K) 0 0 (fun _ => False) := by
  refine ro_of (ty := .int) (by decide +kernel) (Nat.le_of_ble_eq_true rfl) rfl ?_
  intro p e s m args below meth c Q hC hN hsz hP hD hK hret ls hl
  have hx := hC.1
  have hb := hC.2.1
  have hl : lv_has ls 2 [(0, .ref (g 220)), (1, .int x1)] := hl
  refine lv_aload_n hx hb dX8_endOf_0 rfl (lv_at hl 0 rfl) ?_
  refine gMP_mod_4 hC hK hP wq_1423 dX8_endOf_1 ?_
  refine lv_iload_n hx hb dX8_endOf_4 rfl (lv_at hl 1 rfl) ?_
  refine w_iald (q0 := 2) hC hK hP rfl hm.1 dX8_endOf_5 ?_
  have hm := hm.2
  refine lv_bipush (v := 12) hx hb dX8_endOf_6 (by decide) ?_
  refine lv_icmp_ne (tgt := 15) hx hb dX8_endOf_8 (by decide) (fun c_8 => ?_) (fun c_8 => ?_)
  · have hm := hm.1 c_8
    refine lv_iconst (v := 1) hx hb dX8_endOf_15 (by decide) ?_
    exact hret 16 _ _ hm rfl dX8_endOf_16
  · have hm := hm.2 c_8
    refine lv_iconst (v := 0) hx hb dX8_endOf_11 (by decide) ?_
    refine lv_goto (tgt := 16) hx hb dX8_endOf_12 (by decide) ?_
    exact hret 16 _ _ hm rfl dX8_endOf_16
section KX8_endOf
variable {p : Program} {l : Launch} {e : Env} {s : State} {m : MethodId} {args : Array Value} {below : List Frame} {meth : Method} {c : Code} {H H0 : Heap} {locs : List Loc} {cells slots : Nat} {Q : State → Prop} {R : Room} {rn mcR msR : Nat}
variable {pc : Nat} {ls : Array Slot} {rest : List Value} {A : Nat → Prop} {D : va_G}
variable {cc : ByteArray} {nL index : Nat} {own host : String}
theorem k_X8_endOf {Z : Nat → ClassId} {q g : Nat → Nat} {pl sa aa : Nat} {N : M2} {P : M2} {x1 : Int32} {K : Int32 → Prop} (hC : CallFix p m c cc nL s args lw_g own) (hN : NW s) (hK : va_K D vwCl (tysG Z) s) (hP : va_P D vwCl (MP Z q g pl sa aa N P) H) (hD : va_D (fun _ => True) (MP Z q g pl sa aa N P)) (hm : wp_X8_endOf N P x1 K) (hl : Cond.methodLink own index yX8_endOf ∈ lw_g) (hlt : 1 < rn) (hsize : ls.size = nL) (hW : (rest.map fun v => v.category).sum ≤ 8) (hf : cells + 0 ≤ mcR ∧ slots + 0 ≤ msR) (hdg : decode cc pc = .ok (.invokevirtual index, 3)) (kk : ∀ r : Int32, K r → W p l e (rk rn mcR msR) s m args below meth c H locs cells slots Q (F0 m (pc + 3) ls (.int r :: rest))) : W p l e (rk rn mcR msR) s m args below meth c H locs cells slots Q (F0 m pc ls (.int x1 :: .ref (g 220) :: rest)) :=
  ro_go (runV (As := [.int x1]) hC hN (c_X8_endOf l D Z q g pl sa aa N P H.size x1 K hm) mi_X8_endOf hl wq_1698 wq_98 hlt hP hD hK (q0 := 0) rfl rfl rfl hsize rfl hW hdg hf) kk
end KX8_endOf
def wp_X8_inRange (N : M2) (P : M2) (x1 : Int32) (x2 : Int32) (x3 : Int32) (K : Int32 → Prop) : Prop := wp_X8_numberAt N P x1 (fun r_2 => wp_X8_isIn r_2 x2 x3 (fun r_7 => ((r_7 = 0 → K 5) ∧ (¬ r_7 = 0 → K 0))))
set_option maxRecDepth 100000 in
set_option maxHeartbeats 4000000 in
theorem c_X8_inRange (l : Launch) (D : va_G) (Z : Nat → ClassId) (q g : Nat → Nat) (pl sa aa : Nat) (N : M2) (P : M2) (sz : Nat) (x1 : Int32) (x2 : Int32) (x3 : Int32) (K : Int32 → Prop) (hm : wp_X8_inRange N P x1 x2 x3 K) : Met l yX8_inRange (wy yX8_inRange cX8_inRange 4 (some .int)) (rk 2 0 0) (pre vwCl D Z (MP Z q g pl sa aa N P) sz [.ref (g 220), .int x1, .int x2, .int x3]) (vp_Si K) 0 0 (fun _ => False) := by
  refine ro_of (ty := .int) (by decide +kernel) (Nat.le_of_ble_eq_true rfl) rfl ?_
  intro p e s m args below meth c Q hC hN hsz hP hD hK hret ls hl
  have hx := hC.1
  have hb := hC.2.1
  have hl : lv_has ls 4 [(0, .ref (g 220)), (1, .int x1), (2, .int x2), (3, .int x3)] := hl
  refine lv_aload_n hx hb dX8_inRange_0 rfl (lv_at hl 0 rfl) ?_
  refine lv_iload_n hx hb dX8_inRange_1 rfl (lv_at hl 1 rfl) ?_
  refine k_X8_numberAt hC hN hK hP hD hm wq_1660 (by decide) hl.1 (Nat.le_of_ble_eq_true rfl) ⟨Nat.le_refl _, Nat.le_refl _⟩ dX8_inRange_2 (fun r_2 hm => ?_)
  refine lv_iload_n hx hb dX8_inRange_5 rfl (lv_at hl 2 rfl) ?_
  refine lv_iload_n hx hb dX8_inRange_6 rfl (lv_at hl 3 rfl) ?_
  refine kx_X8_isIn hC hN hK hP hD (sx_EWMP Z q g pl sa aa N P) rfl hm wq_1482 (by decide) hl.1 (Nat.le_of_ble_eq_true rfl) ⟨Nat.le_refl _, Nat.le_refl _⟩ dX8_inRange_7 (fun r_7 hm => ?_)
  refine lv_if_eq (tgt := 17) hx hb dX8_inRange_10 (by decide) (fun c_10 => ?_) (fun c_10 => ?_)
  · have hm := hm.1 c_10
    refine lv_iconst (v := 5) hx hb dX8_inRange_17 (by decide) ?_
    exact hret 18 _ _ hm rfl dX8_inRange_18
  · have hm := hm.2 c_10
    refine lv_iconst (v := 0) hx hb dX8_inRange_13 (by decide) ?_
    refine lv_goto (tgt := 18) hx hb dX8_inRange_14 (by decide) ?_
    exact hret 18 _ _ hm rfl dX8_inRange_18
section KX8_inRange
variable {p : Program} {l : Launch} {e : Env} {s : State} {m : MethodId} {args : Array Value} {below : List Frame} {meth : Method} {c : Code} {H H0 : Heap} {locs : List Loc} {cells slots : Nat} {Q : State → Prop} {R : Room} {rn mcR msR : Nat}
variable {pc : Nat} {ls : Array Slot} {rest : List Value} {A : Nat → Prop} {D : va_G}
variable {cc : ByteArray} {nL index : Nat} {own host : String}
theorem k_X8_inRange {Z : Nat → ClassId} {q g : Nat → Nat} {pl sa aa : Nat} {N : M2} {P : M2} {x1 : Int32} {x2 : Int32} {x3 : Int32} {K : Int32 → Prop} (hC : CallFix p m c cc nL s args lw_g own) (hN : NW s) (hK : va_K D vwCl (tysG Z) s) (hP : va_P D vwCl (MP Z q g pl sa aa N P) H) (hD : va_D (fun _ => True) (MP Z q g pl sa aa N P)) (hm : wp_X8_inRange N P x1 x2 x3 K) (hl : Cond.methodLink own index yX8_inRange ∈ lw_g) (hlt : 2 < rn) (hsize : ls.size = nL) (hW : (rest.map fun v => v.category).sum ≤ 8) (hf : cells + 0 ≤ mcR ∧ slots + 0 ≤ msR) (hdg : decode cc pc = .ok (.invokevirtual index, 3)) (kk : ∀ r : Int32, K r → W p l e (rk rn mcR msR) s m args below meth c H locs cells slots Q (F0 m (pc + 3) ls (.int r :: rest))) : W p l e (rk rn mcR msR) s m args below meth c H locs cells slots Q (F0 m pc ls (.int x3 :: .int x2 :: .int x1 :: .ref (g 220) :: rest)) :=
  ro_go (runV (As := [.int x1, .int x2, .int x3]) hC hN (c_X8_inRange l D Z q g pl sa aa N P H.size x1 x2 x3 K hm) mi_X8_inRange hl wq_1710 wq_101 hlt hP hD hK (q0 := 0) rfl rfl rfl hsize rfl hW hdg hf) kk
end KX8_inRange
def wp_X8_isNew (N : M2) (P : M2) (x1 : Int32) (x2 : Int32) (x3 : Int32) (K : Int32 → Prop) : Prop := (inb x1 401 ∧ wp_X8_told N P x1 (N 227 x1.toInt.toNat) (fun r_8 => ((r_8 = ((-1)) → ((¬ x2 = x3 → K 0) ∧ (x2 = x3 → K 4))) ∧ (¬ r_8 = ((-1)) → K 2))))
set_option maxRecDepth 100000 in
set_option maxHeartbeats 4000000 in
theorem c_X8_isNew (l : Launch) (D : va_G) (Z : Nat → ClassId) (q g : Nat → Nat) (pl sa aa : Nat) (N : M2) (P : M2) (sz : Nat) (x1 : Int32) (x2 : Int32) (x3 : Int32) (K : Int32 → Prop) (hm : wp_X8_isNew N P x1 x2 x3 K) : Met l yX8_isNew (wy yX8_isNew cX8_isNew 4 (some .int)) (rk 3 0 0) (pre vwCl D Z (MP Z q g pl sa aa N P) sz [.ref (g 220), .int x1, .int x2, .int x3]) (vp_Si K) 0 0 (fun _ => False) := by
  refine ro_of (ty := .int) (by decide +kernel) (Nat.le_of_ble_eq_true rfl) rfl ?_
  intro p e s m args below meth c Q hC hN hsz hP hD hK hret ls hl
  have hx := hC.1
  have hb := hC.2.1
  have hl : lv_has ls 4 [(0, .ref (g 220)), (1, .int x1), (2, .int x2), (3, .int x3)] := hl
  refine lv_aload_n hx hb dX8_isNew_0 rfl (lv_at hl 0 rfl) ?_
  refine lv_iload_n hx hb dX8_isNew_1 rfl (lv_at hl 1 rfl) ?_
  refine lv_aload_n hx hb dX8_isNew_2 rfl (lv_at hl 0 rfl) ?_
  refine gMP_mod_7 hC hK hP wq_1426 dX8_isNew_3 ?_
  refine lv_iload_n hx hb dX8_isNew_6 rfl (lv_at hl 1 rfl) ?_
  refine w_iald (q0 := 5) hC hK hP rfl hm.1 dX8_isNew_7 ?_
  have hm := hm.2
  refine k_X8_told hC hN hK hP hD hm wq_1676 (by decide) hl.1 (Nat.le_of_ble_eq_true rfl) ⟨Nat.le_refl _, Nat.le_refl _⟩ dX8_isNew_8 (fun r_8 hm => ?_)
  refine lv_iconst (v := (-1)) hx hb dX8_isNew_11 (by decide) ?_
  refine lv_icmp_eq (tgt := 19) hx hb dX8_isNew_12 (by decide) (fun c_12 => ?_) (fun c_12 => ?_)
  · have hm := hm.1 c_12
    refine lv_iload_n hx hb dX8_isNew_19 rfl (lv_at hl 2 rfl) ?_
    refine lv_iload_n hx hb dX8_isNew_20 rfl (lv_at hl 3 rfl) ?_
    refine lv_icmp_ne (tgt := 28) hx hb dX8_isNew_21 (by decide) (fun c_21 => ?_) (fun c_21 => ?_)
    · have hm := hm.1 c_21
      refine lv_iconst (v := 0) hx hb dX8_isNew_28 (by decide) ?_
      exact hret 29 _ _ hm rfl dX8_isNew_29
    · have hm := hm.2 c_21
      refine lv_iconst (v := 4) hx hb dX8_isNew_24 (by decide) ?_
      refine lv_goto (tgt := 29) hx hb dX8_isNew_25 (by decide) ?_
      exact hret 29 _ _ hm rfl dX8_isNew_29
  · have hm := hm.2 c_12
    refine lv_iconst (v := 2) hx hb dX8_isNew_15 (by decide) ?_
    refine lv_goto (tgt := 29) hx hb dX8_isNew_16 (by decide) ?_
    exact hret 29 _ _ hm rfl dX8_isNew_29
section KX8_isNew
variable {p : Program} {l : Launch} {e : Env} {s : State} {m : MethodId} {args : Array Value} {below : List Frame} {meth : Method} {c : Code} {H H0 : Heap} {locs : List Loc} {cells slots : Nat} {Q : State → Prop} {R : Room} {rn mcR msR : Nat}
variable {pc : Nat} {ls : Array Slot} {rest : List Value} {A : Nat → Prop} {D : va_G}
variable {cc : ByteArray} {nL index : Nat} {own host : String}
theorem k_X8_isNew {Z : Nat → ClassId} {q g : Nat → Nat} {pl sa aa : Nat} {N : M2} {P : M2} {x1 : Int32} {x2 : Int32} {x3 : Int32} {K : Int32 → Prop} (hC : CallFix p m c cc nL s args lw_g own) (hN : NW s) (hK : va_K D vwCl (tysG Z) s) (hP : va_P D vwCl (MP Z q g pl sa aa N P) H) (hD : va_D (fun _ => True) (MP Z q g pl sa aa N P)) (hm : wp_X8_isNew N P x1 x2 x3 K) (hl : Cond.methodLink own index yX8_isNew ∈ lw_g) (hlt : 3 < rn) (hsize : ls.size = nL) (hW : (rest.map fun v => v.category).sum ≤ 8) (hf : cells + 0 ≤ mcR ∧ slots + 0 ≤ msR) (hdg : decode cc pc = .ok (.invokevirtual index, 3)) (kk : ∀ r : Int32, K r → W p l e (rk rn mcR msR) s m args below meth c H locs cells slots Q (F0 m (pc + 3) ls (.int r :: rest))) : W p l e (rk rn mcR msR) s m args below meth c H locs cells slots Q (F0 m pc ls (.int x3 :: .int x2 :: .int x1 :: .ref (g 220) :: rest)) :=
  ro_go (runV (As := [.int x1, .int x2, .int x3]) hC hN (c_X8_isNew l D Z q g pl sa aa N P H.size x1 x2 x3 K hm) mi_X8_isNew hl wq_1674 wq_92 hlt hP hD hK (q0 := 0) rfl rfl rfl hsize rfl hW hdg hf) kk
end KX8_isNew
def wp_X8_eat (N : M2) (P : M2) (x1 : Int32) (K : Int32 → M2 → M2 → Prop) : Prop := wp_X8_is N P x1 (fun r_2 => ((¬ r_2 = 0 → (∀ N_17 : M2, N_17 = up2 N 229 (fun _ => (N 229 0) + 1) → K 1 N_17 P)) ∧ (r_2 = 0 → K 0 N P)))
set_option maxRecDepth 100000 in
set_option maxHeartbeats 4000000 in
theorem c_X8_eat (l : Launch) (D : va_G) (Z : Nat → ClassId) (q g : Nat → Nat) (pl sa aa : Nat) (N : M2) (P : M2) (sz : Nat) (x1 : Int32) (K : Int32 → M2 → M2 → Prop) (hm : wp_X8_eat N P x1 K) : Met l yX8_eat (wy yX8_eat cX8_eat 2 (some .boolean)) (rk 2 0 0) (pre vwCl D Z (MP Z q g pl sa aa N P) sz [.ref (g 220), .int x1]) (poI vwCl D Z (fun u : M2 × M2 => MP Z q g pl sa aa u.1 u.2) (N, P) sz (fun (r : Int32) (u : M2 × M2) => K r u.1 u.2)) 0 0 (va_A (MP Z q g pl sa aa N P) sz) := by
  refine rw_of (ty := .boolean) (wsF := (fun u : M2 × M2 => MP Z q g pl sa aa u.1 u.2)) (u0 := (N, P)) (by decide +kernel) (Nat.le_of_ble_eq_true rfl) rfl ?_
  intro p e s m args below meth c Q A hC hN hsz hT hK hret ls hl
  have hx := hC.1
  have hb := hC.2.1
  have hl : lv_has ls 2 [(0, .ref (g 220)), (1, .int x1)] := hl
  have hT : TS vwCl D (MP Z q g pl sa aa N P) A s.heap s.heap [] := hT
  refine lv_aload_n hx hb dX8_eat_0 rfl (lv_at hl 0 rfl) ?_
  refine lv_iload_n hx hb dX8_eat_1 rfl (lv_at hl 1 rfl) ?_
  refine k_X8_is hC hN hK hT.1 hT.D' hm wq_1579 (by decide) hl.1 (Nat.le_of_ble_eq_true rfl) ⟨Nat.le_refl _, Nat.le_refl _⟩ dX8_eat_2 (fun r_2 hm => ?_)
  refine lv_if_ne (tgt := 10) hx hb dX8_eat_5 (by decide) (fun c_5 => ?_) (fun c_5 => ?_)
  · have hm := hm.1 c_5
    refine lv_aload_n hx hb dX8_eat_10 rfl (lv_at hl 0 rfl) ?_
    refine lv_dup hx hb dX8_eat_11 rfl ?_
    refine gMP_mod_9 hC hK hT.1 wq_1428 dX8_eat_12 ?_
    refine lv_iconst (v := 1) hx hb dX8_eat_15 (by decide) ?_
    refine lv_iadd hx hb dX8_eat_16 ?_
    refine pMP_mod_9 hC hK hT wq_1428 dX8_eat_17 (fun N_17 eN_17 H locs hT => ?_)
    have hm := hm N_17 eN_17
    refine lv_iconst (v := 1) hx hb dX8_eat_20 (by decide) ?_
    exact hret 21 _ _ _ _ (N_17, P) hm hT rfl dX8_eat_21
  · have hm := hm.2 c_5
    refine lv_iconst (v := 0) hx hb dX8_eat_8 (by decide) ?_
    exact hret 9 _ _ _ _ (N, P) hm hT rfl dX8_eat_9
section KX8_eat
variable {p : Program} {l : Launch} {e : Env} {s : State} {m : MethodId} {args : Array Value} {below : List Frame} {meth : Method} {c : Code} {H H0 : Heap} {locs : List Loc} {cells slots : Nat} {Q : State → Prop} {R : Room} {rn mcR msR : Nat}
variable {pc : Nat} {ls : Array Slot} {rest : List Value} {A : Nat → Prop} {D : va_G}
variable {cc : ByteArray} {nL index : Nat} {own host : String}
theorem k_X8_eat {Z : Nat → ClassId} {q g : Nat → Nat} {pl sa aa : Nat} {N : M2} {P : M2} {x1 : Int32} {K : Int32 → M2 → M2 → Prop} (hC : CallFix p m c cc nL s args lw_g own) (hN : NW s) (hK : va_K D vwCl (tysG Z) s) (hT : TS vwCl D (MP Z q g pl sa aa N P) A H0 H locs) (hm : wp_X8_eat N P x1 K) (hl : Cond.methodLink own index yX8_eat ∈ lw_g) (hlt : 2 < rn) (hsize : ls.size = nL) (hW : (rest.map fun v => v.category).sum ≤ 8) (hf : cells + 0 ≤ mcR ∧ slots + 0 ≤ msR) (hdg : decode cc pc = .ok (.invokevirtual index, 3)) (kk : ∀ (r : Int32) (N1 : M2) (P1 : M2) (H1 : Heap) (locs1 : List Loc), K r N1 P1 → TS vwCl D (MP Z q g pl sa aa N1 P1) A H0 H1 locs1 → W p l e (rk rn mcR msR) s m args below meth c H1 locs1 cells slots Q (F0 m (pc + 3) ls (.int r :: rest))) : W p l e (rk rn mcR msR) s m args below meth c H locs cells slots Q (F0 m pc ls (.int x1 :: .ref (g 220) :: rest)) :=
  rw_go (wsF := (fun u : M2 × M2 => MP Z q g pl sa aa u.1 u.2)) (u0 := (N, P)) (wr := []) (isC := cutMP) (isR := []) (pm := cutMP) (ws' := (fun u : M2 × M2 => MP Z q g pl sa aa u.1 u.2)) (runV (As := [.int x1]) hC hN (c_X8_eat l D Z q g pl sa aa N P H.size x1 K hm) mi_X8_eat hl wq_1593 wq_72 hlt hT.1 hT.D' hK (q0 := 0) rfl rfl rfl hsize rfl hW hdg hf) (cutOkMP Z q g pl sa aa N P) hT (fun r u H1 locs1 hk hT1 => kk r u.1 u.2 H1 locs1 hk hT1)
end KX8_eat
def wp_X8_eatSign (N : M2) (P : M2) (x1 : Int32) (K : Int32 → M2 → M2 → Prop) : Prop := wp_X8_eat N P (50 + x1) (fun r_5 N_5 P_5 => (zb r_5 ∧ K r_5 N_5 P_5))
set_option maxRecDepth 100000 in
set_option maxHeartbeats 4000000 in
theorem c_X8_eatSign (l : Launch) (D : va_G) (Z : Nat → ClassId) (q g : Nat → Nat) (pl sa aa : Nat) (N : M2) (P : M2) (sz : Nat) (x1 : Int32) (K : Int32 → M2 → M2 → Prop) (hm : wp_X8_eatSign N P x1 K) : Met l yX8_eatSign (wy yX8_eatSign cX8_eatSign 2 (some .boolean)) (rk 3 0 0) (pre vwCl D Z (MP Z q g pl sa aa N P) sz [.ref (g 220), .int x1]) (poI vwCl D Z (fun u : M2 × M2 => MP Z q g pl sa aa u.1 u.2) (N, P) sz (fun (r : Int32) (u : M2 × M2) => K r u.1 u.2)) 0 0 (va_A (MP Z q g pl sa aa N P) sz) := by
  refine rw_of (ty := .boolean) (wsF := (fun u : M2 × M2 => MP Z q g pl sa aa u.1 u.2)) (u0 := (N, P)) (by decide +kernel) (Nat.le_of_ble_eq_true rfl) rfl ?_
  intro p e s m args below meth c Q A hC hN hsz hT hK hret ls hl
  have hx := hC.1
  have hb := hC.2.1
  have hl : lv_has ls 2 [(0, .ref (g 220)), (1, .int x1)] := hl
  have hT : TS vwCl D (MP Z q g pl sa aa N P) A s.heap s.heap [] := hT
  refine lv_aload_n hx hb dX8_eatSign_0 rfl (lv_at hl 0 rfl) ?_
  refine lv_bipush (v := 50) hx hb dX8_eatSign_1 (by decide) ?_
  refine lv_iload_n hx hb dX8_eatSign_3 rfl (lv_at hl 1 rfl) ?_
  refine lv_iadd hx hb dX8_eatSign_4 ?_
  refine k_X8_eat hC hN hK hT hm wq_1591 (by decide) hl.1 (Nat.le_of_ble_eq_true rfl) ⟨Nat.le_refl _, Nat.le_refl _⟩ dX8_eatSign_5 (fun r_5 N_5 P_5 H locs hm hT => ?_)
  exact hret 8 _ _ _ _ (N_5, P_5) hm.2 hT hm.1 dX8_eatSign_8
section KX8_eatSign
variable {p : Program} {l : Launch} {e : Env} {s : State} {m : MethodId} {args : Array Value} {below : List Frame} {meth : Method} {c : Code} {H H0 : Heap} {locs : List Loc} {cells slots : Nat} {Q : State → Prop} {R : Room} {rn mcR msR : Nat}
variable {pc : Nat} {ls : Array Slot} {rest : List Value} {A : Nat → Prop} {D : va_G}
variable {cc : ByteArray} {nL index : Nat} {own host : String}
theorem k_X8_eatSign {Z : Nat → ClassId} {q g : Nat → Nat} {pl sa aa : Nat} {N : M2} {P : M2} {x1 : Int32} {K : Int32 → M2 → M2 → Prop} (hC : CallFix p m c cc nL s args lw_g own) (hN : NW s) (hK : va_K D vwCl (tysG Z) s) (hT : TS vwCl D (MP Z q g pl sa aa N P) A H0 H locs) (hm : wp_X8_eatSign N P x1 K) (hl : Cond.methodLink own index yX8_eatSign ∈ lw_g) (hlt : 3 < rn) (hsize : ls.size = nL) (hW : (rest.map fun v => v.category).sum ≤ 8) (hf : cells + 0 ≤ mcR ∧ slots + 0 ≤ msR) (hdg : decode cc pc = .ok (.invokevirtual index, 3)) (kk : ∀ (r : Int32) (N1 : M2) (P1 : M2) (H1 : Heap) (locs1 : List Loc), K r N1 P1 → TS vwCl D (MP Z q g pl sa aa N1 P1) A H0 H1 locs1 → W p l e (rk rn mcR msR) s m args below meth c H1 locs1 cells slots Q (F0 m (pc + 3) ls (.int r :: rest))) : W p l e (rk rn mcR msR) s m args below meth c H locs cells slots Q (F0 m pc ls (.int x1 :: .ref (g 220) :: rest)) :=
  rw_go (wsF := (fun u : M2 × M2 => MP Z q g pl sa aa u.1 u.2)) (u0 := (N, P)) (wr := []) (isC := cutMP) (isR := []) (pm := cutMP) (ws' := (fun u : M2 × M2 => MP Z q g pl sa aa u.1 u.2)) (runV (As := [.int x1]) hC hN (c_X8_eatSign l D Z q g pl sa aa N P H.size x1 K hm) mi_X8_eatSign hl wq_1642 wq_84 hlt hT.1 hT.D' hK (q0 := 0) rfl rfl rfl hsize rfl hW hdg hf) (cutOkMP Z q g pl sa aa N P) hT (fun r u H1 locs1 hk hT1 => kk r u.1 u.2 H1 locs1 hk hT1)
end KX8_eatSign
def wp_X8_eatAs (N : M2) (P : M2) (x1 : Int32) (x2 : Int32) (K : Int32 → M2 → M2 → Prop) : Prop := (inb (N 229 0) 401 ∧ ∀ N_9 : M2, N_9 = up2 N 227 (upd (N 227) (N 229 0).toInt.toNat x2) → wp_X8_eat N_9 P x1 (fun r_12 N_12 P_12 => (zb r_12 ∧ K r_12 N_12 P_12)))
set_option maxRecDepth 100000 in
set_option maxHeartbeats 4000000 in
theorem c_X8_eatAs (l : Launch) (D : va_G) (Z : Nat → ClassId) (q g : Nat → Nat) (pl sa aa : Nat) (N : M2) (P : M2) (sz : Nat) (x1 : Int32) (x2 : Int32) (K : Int32 → M2 → M2 → Prop) (hm : wp_X8_eatAs N P x1 x2 K) : Met l yX8_eatAs (wy yX8_eatAs cX8_eatAs 3 (some .boolean)) (rk 3 0 0) (pre vwCl D Z (MP Z q g pl sa aa N P) sz [.ref (g 220), .int x1, .int x2]) (poI vwCl D Z (fun u : M2 × M2 => MP Z q g pl sa aa u.1 u.2) (N, P) sz (fun (r : Int32) (u : M2 × M2) => K r u.1 u.2)) 0 0 (va_A (MP Z q g pl sa aa N P) sz) := by
  refine rw_of (ty := .boolean) (wsF := (fun u : M2 × M2 => MP Z q g pl sa aa u.1 u.2)) (u0 := (N, P)) (by decide +kernel) (Nat.le_of_ble_eq_true rfl) rfl ?_
  intro p e s m args below meth c Q A hC hN hsz hT hK hret ls hl
  have hx := hC.1
  have hb := hC.2.1
  have hl : lv_has ls 3 [(0, .ref (g 220)), (1, .int x1), (2, .int x2)] := hl
  have hT : TS vwCl D (MP Z q g pl sa aa N P) A s.heap s.heap [] := hT
  refine lv_aload_n hx hb dX8_eatAs_0 rfl (lv_at hl 0 rfl) ?_
  refine gMP_mod_7 hC hK hT.1 wq_1426 dX8_eatAs_1 ?_
  refine lv_aload_n hx hb dX8_eatAs_4 rfl (lv_at hl 0 rfl) ?_
  refine gMP_mod_9 hC hK hT.1 wq_1428 dX8_eatAs_5 ?_
  refine lv_iload_n hx hb dX8_eatAs_8 rfl (lv_at hl 2 rfl) ?_
  refine sMP_role hC hK hT hm.1 dX8_eatAs_9 (fun N_9 eN_9 H locs hT => ?_)
  have hm := hm.2 N_9 eN_9
  refine lv_aload_n hx hb dX8_eatAs_10 rfl (lv_at hl 0 rfl) ?_
  refine lv_iload_n hx hb dX8_eatAs_11 rfl (lv_at hl 1 rfl) ?_
  refine k_X8_eat hC hN hK hT hm wq_1591 (by decide) hl.1 (Nat.le_of_ble_eq_true rfl) ⟨Nat.le_refl _, Nat.le_refl _⟩ dX8_eatAs_12 (fun r_12 N_12 P_12 H locs hm hT => ?_)
  exact hret 15 _ _ _ _ (N_12, P_12) hm.2 hT hm.1 dX8_eatAs_15
section KX8_eatAs
variable {p : Program} {l : Launch} {e : Env} {s : State} {m : MethodId} {args : Array Value} {below : List Frame} {meth : Method} {c : Code} {H H0 : Heap} {locs : List Loc} {cells slots : Nat} {Q : State → Prop} {R : Room} {rn mcR msR : Nat}
variable {pc : Nat} {ls : Array Slot} {rest : List Value} {A : Nat → Prop} {D : va_G}
variable {cc : ByteArray} {nL index : Nat} {own host : String}
theorem k_X8_eatAs {Z : Nat → ClassId} {q g : Nat → Nat} {pl sa aa : Nat} {N : M2} {P : M2} {x1 : Int32} {x2 : Int32} {K : Int32 → M2 → M2 → Prop} (hC : CallFix p m c cc nL s args lw_g own) (hN : NW s) (hK : va_K D vwCl (tysG Z) s) (hT : TS vwCl D (MP Z q g pl sa aa N P) A H0 H locs) (hm : wp_X8_eatAs N P x1 x2 K) (hl : Cond.methodLink own index yX8_eatAs ∈ lw_g) (hlt : 3 < rn) (hsize : ls.size = nL) (hW : (rest.map fun v => v.category).sum ≤ 8) (hf : cells + 0 ≤ mcR ∧ slots + 0 ≤ msR) (hdg : decode cc pc = .ok (.invokevirtual index, 3)) (kk : ∀ (r : Int32) (N1 : M2) (P1 : M2) (H1 : Heap) (locs1 : List Loc), K r N1 P1 → TS vwCl D (MP Z q g pl sa aa N1 P1) A H0 H1 locs1 → W p l e (rk rn mcR msR) s m args below meth c H1 locs1 cells slots Q (F0 m (pc + 3) ls (.int r :: rest))) : W p l e (rk rn mcR msR) s m args below meth c H locs cells slots Q (F0 m pc ls (.int x2 :: .int x1 :: .ref (g 220) :: rest)) :=
  rw_go (wsF := (fun u : M2 × M2 => MP Z q g pl sa aa u.1 u.2)) (u0 := (N, P)) (wr := []) (isC := cutMP) (isR := []) (pm := cutMP) (ws' := (fun u : M2 × M2 => MP Z q g pl sa aa u.1 u.2)) (runV (As := [.int x1, .int x2]) hC hN (c_X8_eatAs l D Z q g pl sa aa N P H.size x1 x2 K hm) mi_X8_eatAs hl wq_1589 wq_71 hlt hT.1 hT.D' hK (q0 := 0) rfl rfl rfl hsize rfl hW hdg hf) (cutOkMP Z q g pl sa aa N P) hT (fun r u H1 locs1 hk hT1 => kk r u.1 u.2 H1 locs1 hk hT1)
end KX8_eatAs
def wp_X8_put (N : M2) (P : M2) (x1 : Int32) (K : M2 → M2 → Prop) : Prop := (inb (P 264 0) 800 ∧ ∀ P_15 : M2, P_15 = up2 P 263 (upd (P 263) (P 264 0).toInt.toNat x1) → (∀ P_26 : M2, P_26 = up2 P_15 264 (fun _ => (P_15 264 0) + 1) → K N P_26))
set_option maxRecDepth 100000 in
set_option maxHeartbeats 4000000 in
theorem c_X8_put (l : Launch) (D : va_G) (Z : Nat → ClassId) (q g : Nat → Nat) (pl sa aa : Nat) (N : M2) (P : M2) (sz : Nat) (x1 : Int32) (K : M2 → M2 → Prop) (hm : wp_X8_put N P x1 K) : Met l yX8_put (wy yX8_put cX8_put 2 none) (rk 1 0 0) (pre vwCl D Z (MP Z q g pl sa aa N P) sz [.ref (g 220), .int x1]) (poV vwCl D Z (fun u : M2 × M2 => MP Z q g pl sa aa u.1 u.2) (N, P) sz (fun (u : M2 × M2) => K u.1 u.2)) 0 0 (va_A (MP Z q g pl sa aa N P) sz) := by
  refine rwv_of (wsF := (fun u : M2 × M2 => MP Z q g pl sa aa u.1 u.2)) (u0 := (N, P)) (by decide +kernel) (Nat.le_of_ble_eq_true rfl) rfl ?_
  intro p e s m args below meth c Q A hC hN hsz hnm hT hK hret ls hl
  have hx := hC.1
  have hb := hC.2.1
  have hl : lv_has ls 2 [(0, .ref (g 220)), (1, .int x1)] := hl
  have hT : TS vwCl D (MP Z q g pl sa aa N P) A s.heap s.heap [] := hT
  refine lv_aload_n hx hb dX8_put_0 rfl (lv_at hl 0 rfl) ?_
  refine gMP_mod_12 hC hK hT.1 wq_1432 dX8_put_1 ?_
  refine gNMP_plan_23 hC hN hK hT.1 wn_1289 dX8_put_4 ?_
  refine lv_aload_n hx hb dX8_put_7 rfl (lv_at hl 0 rfl) ?_
  refine gMP_mod_12 hC hK hT.1 wq_1432 dX8_put_8 ?_
  refine gNMP_plan_24 hC hN hK hT.1 wn_1291 dX8_put_11 ?_
  refine lv_iload_n hx hb dX8_put_14 rfl (lv_at hl 1 rfl) ?_
  refine sMP_code hC hK hT hm.1 dX8_put_15 (fun P_15 eP_15 H locs hT => ?_)
  have hm := hm.2 P_15 eP_15
  refine lv_aload_n hx hb dX8_put_16 rfl (lv_at hl 0 rfl) ?_
  refine gMP_mod_12 hC hK hT.1 wq_1432 dX8_put_17 ?_
  refine lv_dup hx hb dX8_put_20 rfl ?_
  refine gNMP_plan_24 hC hN hK hT.1 wn_1291 dX8_put_21 ?_
  refine lv_iconst (v := 1) hx hb dX8_put_24 (by decide) ?_
  refine lv_iadd hx hb dX8_put_25 ?_
  refine pNMP_plan_24 hC hN hK hT wn_1291 dX8_put_26 (fun P_26 eP_26 H locs hT => ?_)
  have hm := hm P_26 eP_26
  exact hret 29 _ _ _ (N, P_26) hm hT dX8_put_29
section KX8_put
variable {p : Program} {l : Launch} {e : Env} {s : State} {m : MethodId} {args : Array Value} {below : List Frame} {meth : Method} {c : Code} {H H0 : Heap} {locs : List Loc} {cells slots : Nat} {Q : State → Prop} {R : Room} {rn mcR msR : Nat}
variable {pc : Nat} {ls : Array Slot} {rest : List Value} {A : Nat → Prop} {D : va_G}
variable {cc : ByteArray} {nL index : Nat} {own host : String}
theorem k_X8_put {Z : Nat → ClassId} {q g : Nat → Nat} {pl sa aa : Nat} {N : M2} {P : M2} {x1 : Int32} {K : M2 → M2 → Prop} (hC : CallFix p m c cc nL s args lw_g own) (hN : NW s) (hK : va_K D vwCl (tysG Z) s) (hT : TS vwCl D (MP Z q g pl sa aa N P) A H0 H locs) (hm : wp_X8_put N P x1 K) (hl : Cond.methodLink own index yX8_put ∈ lw_g) (hlt : 1 < rn) (hsize : ls.size = nL) (hW : (rest.map fun v => v.category).sum ≤ 8) (hf : cells + 0 ≤ mcR ∧ slots + 0 ≤ msR) (hdg : decode cc pc = .ok (.invokevirtual index, 3)) (kk : ∀ (N1 : M2) (P1 : M2) (H1 : Heap) (locs1 : List Loc), K N1 P1 → TS vwCl D (MP Z q g pl sa aa N1 P1) A H0 H1 locs1 → W p l e (rk rn mcR msR) s m args below meth c H1 locs1 cells slots Q (F0 m (pc + 3) ls (rest))) : W p l e (rk rn mcR msR) s m args below meth c H locs cells slots Q (F0 m pc ls (.int x1 :: .ref (g 220) :: rest)) :=
  rwv_go (wsF := (fun u : M2 × M2 => MP Z q g pl sa aa u.1 u.2)) (u0 := (N, P)) (wr := []) (isC := cutMP) (isR := []) (pm := cutMP) (ws' := (fun u : M2 × M2 => MP Z q g pl sa aa u.1 u.2)) (runV (As := [.int x1]) hC hN (c_X8_put l D Z q g pl sa aa N P H.size x1 K hm) mi_X8_put hl wq_1634 wq_82 hlt hT.1 hT.D' hK (q0 := 0) rfl rfl rfl hsize rfl hW hdg hf) (cutOkMP Z q g pl sa aa N P) hT (fun u H1 locs1 hk hT1 => kk u.1 u.2 H1 locs1 hk hT1)
end KX8_put
def wp_X8_isEnd (N : M2) (P : M2) (x1 : Int32) (K : Int32 → M2 → M2 → Prop) : Prop := (inb (N 229 0) 401 ∧ ∀ N_9 : M2, N_9 = up2 N 227 (upd (N 227) (N 229 0).toInt.toNat x1) → wp_X8_eat N_9 P 12 (fun r_13 N_13 P_13 => ((¬ r_13 = 0 → K 1 N_13 P_13) ∧ (r_13 = 0 → wp_X8_eat N_13 P_13 13 (fun r_22 N_22 P_22 => ((r_22 = 0 → K 0 N_22 P_22) ∧ (¬ r_22 = 0 → K 1 N_22 P_22)))))))
set_option maxRecDepth 100000 in
set_option maxHeartbeats 4000000 in
theorem c_X8_isEnd (l : Launch) (D : va_G) (Z : Nat → ClassId) (q g : Nat → Nat) (pl sa aa : Nat) (N : M2) (P : M2) (sz : Nat) (x1 : Int32) (K : Int32 → M2 → M2 → Prop) (hm : wp_X8_isEnd N P x1 K) : Met l yX8_isEnd (wy yX8_isEnd cX8_isEnd 2 (some .boolean)) (rk 3 0 0) (pre vwCl D Z (MP Z q g pl sa aa N P) sz [.ref (g 220), .int x1]) (poI vwCl D Z (fun u : M2 × M2 => MP Z q g pl sa aa u.1 u.2) (N, P) sz (fun (r : Int32) (u : M2 × M2) => K r u.1 u.2)) 0 0 (va_A (MP Z q g pl sa aa N P) sz) := by
  refine rw_of (ty := .boolean) (wsF := (fun u : M2 × M2 => MP Z q g pl sa aa u.1 u.2)) (u0 := (N, P)) (by decide +kernel) (Nat.le_of_ble_eq_true rfl) rfl ?_
  intro p e s m args below meth c Q A hC hN hsz hT hK hret ls hl
  have hx := hC.1
  have hb := hC.2.1
  have hl : lv_has ls 2 [(0, .ref (g 220)), (1, .int x1)] := hl
  have hT : TS vwCl D (MP Z q g pl sa aa N P) A s.heap s.heap [] := hT
  refine lv_aload_n hx hb dX8_isEnd_0 rfl (lv_at hl 0 rfl) ?_
  refine gMP_mod_7 hC hK hT.1 wq_1426 dX8_isEnd_1 ?_
  refine lv_aload_n hx hb dX8_isEnd_4 rfl (lv_at hl 0 rfl) ?_
  refine gMP_mod_9 hC hK hT.1 wq_1428 dX8_isEnd_5 ?_
  refine lv_iload_n hx hb dX8_isEnd_8 rfl (lv_at hl 1 rfl) ?_
  refine sMP_role hC hK hT hm.1 dX8_isEnd_9 (fun N_9 eN_9 H locs hT => ?_)
  have hm := hm.2 N_9 eN_9
  refine lv_aload_n hx hb dX8_isEnd_10 rfl (lv_at hl 0 rfl) ?_
  refine lv_bipush (v := 12) hx hb dX8_isEnd_11 (by decide) ?_
  refine k_X8_eat hC hN hK hT hm wq_1591 (by decide) hl.1 (Nat.le_of_ble_eq_true rfl) ⟨Nat.le_refl _, Nat.le_refl _⟩ dX8_isEnd_13 (fun r_13 N_13 P_13 H locs hm hT => ?_)
  refine lv_if_ne (tgt := 28) hx hb dX8_isEnd_16 (by decide) (fun c_16 => ?_) (fun c_16 => ?_)
  · have hm := hm.1 c_16
    refine lv_iconst (v := 1) hx hb dX8_isEnd_28 (by decide) ?_
    refine lv_goto (tgt := 33) hx hb dX8_isEnd_29 (by decide) ?_
    exact hret 33 _ _ _ _ (N_13, P_13) hm hT rfl dX8_isEnd_33
  · have hm := hm.2 c_16
    refine lv_aload_n hx hb dX8_isEnd_19 rfl (lv_at hl 0 rfl) ?_
    refine lv_bipush (v := 13) hx hb dX8_isEnd_20 (by decide) ?_
    refine k_X8_eat hC hN hK hT hm wq_1591 (by decide) hl.1 (Nat.le_of_ble_eq_true rfl) ⟨Nat.le_refl _, Nat.le_refl _⟩ dX8_isEnd_22 (fun r_22 N_22 P_22 H locs hm hT => ?_)
    refine lv_if_eq (tgt := 32) hx hb dX8_isEnd_25 (by decide) (fun c_25 => ?_) (fun c_25 => ?_)
    · have hm := hm.1 c_25
      refine lv_iconst (v := 0) hx hb dX8_isEnd_32 (by decide) ?_
      exact hret 33 _ _ _ _ (N_22, P_22) hm hT rfl dX8_isEnd_33
    · have hm := hm.2 c_25
      refine lv_iconst (v := 1) hx hb dX8_isEnd_28 (by decide) ?_
      refine lv_goto (tgt := 33) hx hb dX8_isEnd_29 (by decide) ?_
      exact hret 33 _ _ _ _ (N_22, P_22) hm hT rfl dX8_isEnd_33
section KX8_isEnd
variable {p : Program} {l : Launch} {e : Env} {s : State} {m : MethodId} {args : Array Value} {below : List Frame} {meth : Method} {c : Code} {H H0 : Heap} {locs : List Loc} {cells slots : Nat} {Q : State → Prop} {R : Room} {rn mcR msR : Nat}
variable {pc : Nat} {ls : Array Slot} {rest : List Value} {A : Nat → Prop} {D : va_G}
variable {cc : ByteArray} {nL index : Nat} {own host : String}
theorem k_X8_isEnd {Z : Nat → ClassId} {q g : Nat → Nat} {pl sa aa : Nat} {N : M2} {P : M2} {x1 : Int32} {K : Int32 → M2 → M2 → Prop} (hC : CallFix p m c cc nL s args lw_g own) (hN : NW s) (hK : va_K D vwCl (tysG Z) s) (hT : TS vwCl D (MP Z q g pl sa aa N P) A H0 H locs) (hm : wp_X8_isEnd N P x1 K) (hl : Cond.methodLink own index yX8_isEnd ∈ lw_g) (hlt : 3 < rn) (hsize : ls.size = nL) (hW : (rest.map fun v => v.category).sum ≤ 8) (hf : cells + 0 ≤ mcR ∧ slots + 0 ≤ msR) (hdg : decode cc pc = .ok (.invokevirtual index, 3)) (kk : ∀ (r : Int32) (N1 : M2) (P1 : M2) (H1 : Heap) (locs1 : List Loc), K r N1 P1 → TS vwCl D (MP Z q g pl sa aa N1 P1) A H0 H1 locs1 → W p l e (rk rn mcR msR) s m args below meth c H1 locs1 cells slots Q (F0 m (pc + 3) ls (.int r :: rest))) : W p l e (rk rn mcR msR) s m args below meth c H locs cells slots Q (F0 m pc ls (.int x1 :: .ref (g 220) :: rest)) :=
  rw_go (wsF := (fun u : M2 × M2 => MP Z q g pl sa aa u.1 u.2)) (u0 := (N, P)) (wr := []) (isC := cutMP) (isR := []) (pm := cutMP) (ws' := (fun u : M2 × M2 => MP Z q g pl sa aa u.1 u.2)) (runV (As := [.int x1]) hC hN (c_X8_isEnd l D Z q g pl sa aa N P H.size x1 K hm) mi_X8_isEnd hl wq_1609 wq_76 hlt hT.1 hT.D' hK (q0 := 0) rfl rfl rfl hsize rfl hW hdg hf) (cutOkMP Z q g pl sa aa N P) hT (fun r u H1 locs1 hk hT1 => kk r u.1 u.2 H1 locs1 hk hT1)
end KX8_isEnd
def wp_X8_isDeeper (N : M2) (P : M2) (K : Int32 → M2 → M2 → Prop) : Prop := ((¬ (N 230 0) = 8 → (∀ N_18 : M2, N_18 = up2 N 230 (fun _ => (N 230 0) + 1) → (∀ N_28 : M2, N_28 = up2 N_18 229 (fun _ => (N_18 229 0) + 1) → K 1 N_28 P))) ∧ ((N 230 0) = 8 → K 0 N P))
set_option maxRecDepth 100000 in
set_option maxHeartbeats 4000000 in
theorem c_X8_isDeeper (l : Launch) (D : va_G) (Z : Nat → ClassId) (q g : Nat → Nat) (pl sa aa : Nat) (N : M2) (P : M2) (sz : Nat) (K : Int32 → M2 → M2 → Prop) (hm : wp_X8_isDeeper N P K) : Met l yX8_isDeeper (wy yX8_isDeeper cX8_isDeeper 1 (some .boolean)) (rk 1 0 0) (pre vwCl D Z (MP Z q g pl sa aa N P) sz [.ref (g 220)]) (poI vwCl D Z (fun u : M2 × M2 => MP Z q g pl sa aa u.1 u.2) (N, P) sz (fun (r : Int32) (u : M2 × M2) => K r u.1 u.2)) 0 0 (va_A (MP Z q g pl sa aa N P) sz) := by
  refine rw_of (ty := .boolean) (wsF := (fun u : M2 × M2 => MP Z q g pl sa aa u.1 u.2)) (u0 := (N, P)) (by decide +kernel) (Nat.le_of_ble_eq_true rfl) rfl ?_
  intro p e s m args below meth c Q A hC hN hsz hT hK hret ls hl
  have hx := hC.1
  have hb := hC.2.1
  have hl : lv_has ls 1 [(0, .ref (g 220))] := hl
  have hT : TS vwCl D (MP Z q g pl sa aa N P) A s.heap s.heap [] := hT
  refine lv_aload_n hx hb dX8_isDeeper_0 rfl (lv_at hl 0 rfl) ?_
  refine gMP_mod_10 hC hK hT.1 wq_1429 dX8_isDeeper_1 ?_
  refine lv_bipush (v := 8) hx hb dX8_isDeeper_4 (by decide) ?_
  refine lv_icmp_ne (tgt := 11) hx hb dX8_isDeeper_6 (by decide) (fun c_6 => ?_) (fun c_6 => ?_)
  · have hm := hm.1 c_6
    refine lv_aload_n hx hb dX8_isDeeper_11 rfl (lv_at hl 0 rfl) ?_
    refine lv_dup hx hb dX8_isDeeper_12 rfl ?_
    refine gMP_mod_10 hC hK hT.1 wq_1429 dX8_isDeeper_13 ?_
    refine lv_iconst (v := 1) hx hb dX8_isDeeper_16 (by decide) ?_
    refine lv_iadd hx hb dX8_isDeeper_17 ?_
    refine pMP_mod_10 hC hK hT wq_1429 dX8_isDeeper_18 (fun N_18 eN_18 H locs hT => ?_)
    have hm := hm N_18 eN_18
    refine lv_aload_n hx hb dX8_isDeeper_21 rfl (lv_at hl 0 rfl) ?_
    refine lv_dup hx hb dX8_isDeeper_22 rfl ?_
    refine gMP_mod_9 hC hK hT.1 wq_1428 dX8_isDeeper_23 ?_
    refine lv_iconst (v := 1) hx hb dX8_isDeeper_26 (by decide) ?_
    refine lv_iadd hx hb dX8_isDeeper_27 ?_
    refine pMP_mod_9 hC hK hT wq_1428 dX8_isDeeper_28 (fun N_28 eN_28 H locs hT => ?_)
    have hm := hm N_28 eN_28
    refine lv_iconst (v := 1) hx hb dX8_isDeeper_31 (by decide) ?_
    exact hret 32 _ _ _ _ (N_28, P) hm hT rfl dX8_isDeeper_32
  · have hm := hm.2 c_6
    refine lv_iconst (v := 0) hx hb dX8_isDeeper_9 (by decide) ?_
    exact hret 10 _ _ _ _ (N, P) hm hT rfl dX8_isDeeper_10
section KX8_isDeeper
variable {p : Program} {l : Launch} {e : Env} {s : State} {m : MethodId} {args : Array Value} {below : List Frame} {meth : Method} {c : Code} {H H0 : Heap} {locs : List Loc} {cells slots : Nat} {Q : State → Prop} {R : Room} {rn mcR msR : Nat}
variable {pc : Nat} {ls : Array Slot} {rest : List Value} {A : Nat → Prop} {D : va_G}
variable {cc : ByteArray} {nL index : Nat} {own host : String}
theorem k_X8_isDeeper {Z : Nat → ClassId} {q g : Nat → Nat} {pl sa aa : Nat} {N : M2} {P : M2} {K : Int32 → M2 → M2 → Prop} (hC : CallFix p m c cc nL s args lw_g own) (hN : NW s) (hK : va_K D vwCl (tysG Z) s) (hT : TS vwCl D (MP Z q g pl sa aa N P) A H0 H locs) (hm : wp_X8_isDeeper N P K) (hl : Cond.methodLink own index yX8_isDeeper ∈ lw_g) (hlt : 1 < rn) (hsize : ls.size = nL) (hW : (rest.map fun v => v.category).sum ≤ 8) (hf : cells + 0 ≤ mcR ∧ slots + 0 ≤ msR) (hdg : decode cc pc = .ok (.invokevirtual index, 3)) (kk : ∀ (r : Int32) (N1 : M2) (P1 : M2) (H1 : Heap) (locs1 : List Loc), K r N1 P1 → TS vwCl D (MP Z q g pl sa aa N1 P1) A H0 H1 locs1 → W p l e (rk rn mcR msR) s m args below meth c H1 locs1 cells slots Q (F0 m (pc + 3) ls (.int r :: rest))) : W p l e (rk rn mcR msR) s m args below meth c H locs cells slots Q (F0 m pc ls (.ref (g 220) :: rest)) :=
  rw_go (wsF := (fun u : M2 × M2 => MP Z q g pl sa aa u.1 u.2)) (u0 := (N, P)) (wr := []) (isC := cutMP) (isR := []) (pm := cutMP) (ws' := (fun u : M2 × M2 => MP Z q g pl sa aa u.1 u.2)) (runV (As := []) hC hN (c_X8_isDeeper l D Z q g pl sa aa N P H.size K hm) mi_X8_isDeeper hl wq_1630 wq_81 hlt hT.1 hT.D' hK (q0 := 0) rfl rfl rfl hsize rfl hW hdg hf) (cutOkMP Z q g pl sa aa N P) hT (fun r u H1 locs1 hk hT1 => kk r u.1 u.2 H1 locs1 hk hT1)
end KX8_isDeeper
def wp_X8_isNamed (N : M2) (P : M2) (x1 : Int32) (K : Int32 → M2 → M2 → Prop) : Prop := (inb (N 229 0) 401 ∧ wp_X8_put N P (N 224 (N 229 0).toInt.toNat) (fun N_10 P_10 => (∀ N_20 : M2, N_20 = up2 N_10 229 (fun _ => (N_10 229 0) + 1) → (inb (P_10 266 0) 400 ∧ ∀ P_44 : M2, P_44 = up2 P_10 265 (upd (P_10 265) (P_10 266 0).toInt.toNat (P_10 264 0)) → (∀ P_55 : M2, P_55 = up2 P_44 266 (fun _ => (P_44 266 0) + 1) → wp_X8_put N_20 P_55 (N_20 229 0) (fun N_63 P_63 => wp_X8_eatAs N_63 P_63 40 x1 (fun r_70 N_70 P_70 => (zb r_70 ∧ K r_70 N_70 P_70))))))))
set_option maxRecDepth 100000 in
set_option maxHeartbeats 4000000 in
theorem c_X8_isNamed (l : Launch) (D : va_G) (Z : Nat → ClassId) (q g : Nat → Nat) (pl sa aa : Nat) (N : M2) (P : M2) (sz : Nat) (x1 : Int32) (K : Int32 → M2 → M2 → Prop) (hm : wp_X8_isNamed N P x1 K) : Met l yX8_isNamed (wy yX8_isNamed cX8_isNamed 2 (some .boolean)) (rk 4 0 0) (pre vwCl D Z (MP Z q g pl sa aa N P) sz [.ref (g 220), .int x1]) (poI vwCl D Z (fun u : M2 × M2 => MP Z q g pl sa aa u.1 u.2) (N, P) sz (fun (r : Int32) (u : M2 × M2) => K r u.1 u.2)) 0 0 (va_A (MP Z q g pl sa aa N P) sz) := by
  refine rw_of (ty := .boolean) (wsF := (fun u : M2 × M2 => MP Z q g pl sa aa u.1 u.2)) (u0 := (N, P)) (by decide +kernel) (Nat.le_of_ble_eq_true rfl) rfl ?_
  intro p e s m args below meth c Q A hC hN hsz hT hK hret ls hl
  have hx := hC.1
  have hb := hC.2.1
  have hl : lv_has ls 2 [(0, .ref (g 220)), (1, .int x1)] := hl
  have hT : TS vwCl D (MP Z q g pl sa aa N P) A s.heap s.heap [] := hT
  refine lv_aload_n hx hb dX8_isNamed_0 rfl (lv_at hl 0 rfl) ?_
  refine lv_aload_n hx hb dX8_isNamed_1 rfl (lv_at hl 0 rfl) ?_
  refine gMP_mod_4 hC hK hT.1 wq_1423 dX8_isNamed_2 ?_
  refine lv_aload_n hx hb dX8_isNamed_5 rfl (lv_at hl 0 rfl) ?_
  refine gMP_mod_9 hC hK hT.1 wq_1428 dX8_isNamed_6 ?_
  refine w_iald (q0 := 2) hC hK hT.1 rfl hm.1 dX8_isNamed_9 ?_
  have hm := hm.2
  refine k_X8_put hC hN hK hT hm wq_1632 (by decide) hl.1 (Nat.le_of_ble_eq_true rfl) ⟨Nat.le_refl _, Nat.le_refl _⟩ dX8_isNamed_10 (fun N_10 P_10 H locs hm hT => ?_)
  refine lv_aload_n hx hb dX8_isNamed_13 rfl (lv_at hl 0 rfl) ?_
  refine lv_dup hx hb dX8_isNamed_14 rfl ?_
  refine gMP_mod_9 hC hK hT.1 wq_1428 dX8_isNamed_15 ?_
  refine lv_iconst (v := 1) hx hb dX8_isNamed_18 (by decide) ?_
  refine lv_iadd hx hb dX8_isNamed_19 ?_
  refine pMP_mod_9 hC hK hT wq_1428 dX8_isNamed_20 (fun N_20 eN_20 H locs hT => ?_)
  have hm := hm N_20 eN_20
  refine lv_aload_n hx hb dX8_isNamed_23 rfl (lv_at hl 0 rfl) ?_
  refine gMP_mod_12 hC hK hT.1 wq_1432 dX8_isNamed_24 ?_
  refine gNMP_plan_25 hC hN hK hT.1 wn_1293 dX8_isNamed_27 ?_
  refine lv_aload_n hx hb dX8_isNamed_30 rfl (lv_at hl 0 rfl) ?_
  refine gMP_mod_12 hC hK hT.1 wq_1432 dX8_isNamed_31 ?_
  refine gNMP_plan_26 hC hN hK hT.1 wn_1294 dX8_isNamed_34 ?_
  refine lv_aload_n hx hb dX8_isNamed_37 rfl (lv_at hl 0 rfl) ?_
  refine gMP_mod_12 hC hK hT.1 wq_1432 dX8_isNamed_38 ?_
  refine gNMP_plan_24 hC hN hK hT.1 wn_1291 dX8_isNamed_41 ?_
  refine sMP_open hC hK hT hm.1 dX8_isNamed_44 (fun P_44 eP_44 H locs hT => ?_)
  have hm := hm.2 P_44 eP_44
  refine lv_aload_n hx hb dX8_isNamed_45 rfl (lv_at hl 0 rfl) ?_
  refine gMP_mod_12 hC hK hT.1 wq_1432 dX8_isNamed_46 ?_
  refine lv_dup hx hb dX8_isNamed_49 rfl ?_
  refine gNMP_plan_26 hC hN hK hT.1 wn_1294 dX8_isNamed_50 ?_
  refine lv_iconst (v := 1) hx hb dX8_isNamed_53 (by decide) ?_
  refine lv_iadd hx hb dX8_isNamed_54 ?_
  refine pNMP_plan_26 hC hN hK hT wn_1294 dX8_isNamed_55 (fun P_55 eP_55 H locs hT => ?_)
  have hm := hm P_55 eP_55
  refine lv_aload_n hx hb dX8_isNamed_58 rfl (lv_at hl 0 rfl) ?_
  refine lv_aload_n hx hb dX8_isNamed_59 rfl (lv_at hl 0 rfl) ?_
  refine gMP_mod_9 hC hK hT.1 wq_1428 dX8_isNamed_60 ?_
  refine k_X8_put hC hN hK hT hm wq_1632 (by decide) hl.1 (Nat.le_of_ble_eq_true rfl) ⟨Nat.le_refl _, Nat.le_refl _⟩ dX8_isNamed_63 (fun N_63 P_63 H locs hm hT => ?_)
  refine lv_aload_n hx hb dX8_isNamed_66 rfl (lv_at hl 0 rfl) ?_
  refine lv_bipush (v := 40) hx hb dX8_isNamed_67 (by decide) ?_
  refine lv_iload_n hx hb dX8_isNamed_69 rfl (lv_at hl 1 rfl) ?_
  refine k_X8_eatAs hC hN hK hT hm wq_1587 (by decide) hl.1 (Nat.le_of_ble_eq_true rfl) ⟨Nat.le_refl _, Nat.le_refl _⟩ dX8_isNamed_70 (fun r_70 N_70 P_70 H locs hm hT => ?_)
  exact hret 73 _ _ _ _ (N_70, P_70) hm.2 hT hm.1 dX8_isNamed_73
section KX8_isNamed
variable {p : Program} {l : Launch} {e : Env} {s : State} {m : MethodId} {args : Array Value} {below : List Frame} {meth : Method} {c : Code} {H H0 : Heap} {locs : List Loc} {cells slots : Nat} {Q : State → Prop} {R : Room} {rn mcR msR : Nat}
variable {pc : Nat} {ls : Array Slot} {rest : List Value} {A : Nat → Prop} {D : va_G}
variable {cc : ByteArray} {nL index : Nat} {own host : String}
theorem k_X8_isNamed {Z : Nat → ClassId} {q g : Nat → Nat} {pl sa aa : Nat} {N : M2} {P : M2} {x1 : Int32} {K : Int32 → M2 → M2 → Prop} (hC : CallFix p m c cc nL s args lw_g own) (hN : NW s) (hK : va_K D vwCl (tysG Z) s) (hT : TS vwCl D (MP Z q g pl sa aa N P) A H0 H locs) (hm : wp_X8_isNamed N P x1 K) (hl : Cond.methodLink own index yX8_isNamed ∈ lw_g) (hlt : 4 < rn) (hsize : ls.size = nL) (hW : (rest.map fun v => v.category).sum ≤ 8) (hf : cells + 0 ≤ mcR ∧ slots + 0 ≤ msR) (hdg : decode cc pc = .ok (.invokevirtual index, 3)) (kk : ∀ (r : Int32) (N1 : M2) (P1 : M2) (H1 : Heap) (locs1 : List Loc), K r N1 P1 → TS vwCl D (MP Z q g pl sa aa N1 P1) A H0 H1 locs1 → W p l e (rk rn mcR msR) s m args below meth c H1 locs1 cells slots Q (F0 m (pc + 3) ls (.int r :: rest))) : W p l e (rk rn mcR msR) s m args below meth c H locs cells slots Q (F0 m pc ls (.int x1 :: .ref (g 220) :: rest)) :=
  rw_go (wsF := (fun u : M2 × M2 => MP Z q g pl sa aa u.1 u.2)) (u0 := (N, P)) (wr := []) (isC := cutMP) (isR := []) (pm := cutMP) (ws' := (fun u : M2 × M2 => MP Z q g pl sa aa u.1 u.2)) (runV (As := [.int x1]) hC hN (c_X8_isNamed l D Z q g pl sa aa N P H.size x1 K hm) mi_X8_isNamed hl wq_1646 wq_85 hlt hT.1 hT.D' hK (q0 := 0) rfl rfl rfl hsize rfl hW hdg hf) (cutOkMP Z q g pl sa aa N P) hT (fun r u H1 locs1 hk hT1 => kk r u.1 u.2 H1 locs1 hk hT1)
end KX8_isNamed
def wp_X8_look (N : M2) (P : M2) (x1 : Int32) (x2 : Int32) (K : Int32 → M2 → M2 → Prop) : Prop := wp_X8_told N P x1 x2 (fun r_8 => (inb x1 401 ∧ ∀ N_11 : M2, N_11 = up2 N 228 (upd (N 228) x1.toInt.toNat r_8) → (inb x1 401 ∧ ((¬ (N_11 228 x1.toInt.toNat) = ((-1)) → K 0 N_11 P) ∧ ((N_11 228 x1.toInt.toNat) = ((-1)) → K 3 N_11 P)))))
set_option maxRecDepth 100000 in
set_option maxHeartbeats 4000000 in
theorem c_X8_look (l : Launch) (D : va_G) (Z : Nat → ClassId) (q g : Nat → Nat) (pl sa aa : Nat) (N : M2) (P : M2) (sz : Nat) (x1 : Int32) (x2 : Int32) (K : Int32 → M2 → M2 → Prop) (hm : wp_X8_look N P x1 x2 K) : Met l yX8_look (wy yX8_look cX8_look 3 (some .int)) (rk 3 0 0) (pre vwCl D Z (MP Z q g pl sa aa N P) sz [.ref (g 220), .int x1, .int x2]) (poI vwCl D Z (fun u : M2 × M2 => MP Z q g pl sa aa u.1 u.2) (N, P) sz (fun (r : Int32) (u : M2 × M2) => K r u.1 u.2)) 0 0 (va_A (MP Z q g pl sa aa N P) sz) := by
  refine rw_of (ty := .int) (wsF := (fun u : M2 × M2 => MP Z q g pl sa aa u.1 u.2)) (u0 := (N, P)) (by decide +kernel) (Nat.le_of_ble_eq_true rfl) rfl ?_
  intro p e s m args below meth c Q A hC hN hsz hT hK hret ls hl
  have hx := hC.1
  have hb := hC.2.1
  have hl : lv_has ls 3 [(0, .ref (g 220)), (1, .int x1), (2, .int x2)] := hl
  have hT : TS vwCl D (MP Z q g pl sa aa N P) A s.heap s.heap [] := hT
  refine lv_aload_n hx hb dX8_look_0 rfl (lv_at hl 0 rfl) ?_
  refine gMP_mod_8 hC hK hT.1 wq_1427 dX8_look_1 ?_
  refine lv_iload_n hx hb dX8_look_4 rfl (lv_at hl 1 rfl) ?_
  refine lv_aload_n hx hb dX8_look_5 rfl (lv_at hl 0 rfl) ?_
  refine lv_iload_n hx hb dX8_look_6 rfl (lv_at hl 1 rfl) ?_
  refine lv_iload_n hx hb dX8_look_7 rfl (lv_at hl 2 rfl) ?_
  refine k_X8_told hC hN hK hT.1 hT.D' hm wq_1676 (by decide) hl.1 (Nat.le_of_ble_eq_true rfl) ⟨Nat.le_refl _, Nat.le_refl _⟩ dX8_look_8 (fun r_8 hm => ?_)
  refine sMP_meant hC hK hT hm.1 dX8_look_11 (fun N_11 eN_11 H locs hT => ?_)
  have hm := hm.2 N_11 eN_11
  refine lv_aload_n hx hb dX8_look_12 rfl (lv_at hl 0 rfl) ?_
  refine gMP_mod_8 hC hK hT.1 wq_1427 dX8_look_13 ?_
  refine lv_iload_n hx hb dX8_look_16 rfl (lv_at hl 1 rfl) ?_
  refine w_iald (q0 := 6) hC hK hT.1 rfl hm.1 dX8_look_17 ?_
  have hm := hm.2
  refine lv_iconst (v := (-1)) hx hb dX8_look_18 (by decide) ?_
  refine lv_icmp_ne (tgt := 26) hx hb dX8_look_19 (by decide) (fun c_19 => ?_) (fun c_19 => ?_)
  · have hm := hm.1 c_19
    refine lv_iconst (v := 0) hx hb dX8_look_26 (by decide) ?_
    exact hret 27 _ _ _ _ (N_11, P) hm hT rfl dX8_look_27
  · have hm := hm.2 c_19
    refine lv_iconst (v := 3) hx hb dX8_look_22 (by decide) ?_
    refine lv_goto (tgt := 27) hx hb dX8_look_23 (by decide) ?_
    exact hret 27 _ _ _ _ (N_11, P) hm hT rfl dX8_look_27
section KX8_look
variable {p : Program} {l : Launch} {e : Env} {s : State} {m : MethodId} {args : Array Value} {below : List Frame} {meth : Method} {c : Code} {H H0 : Heap} {locs : List Loc} {cells slots : Nat} {Q : State → Prop} {R : Room} {rn mcR msR : Nat}
variable {pc : Nat} {ls : Array Slot} {rest : List Value} {A : Nat → Prop} {D : va_G}
variable {cc : ByteArray} {nL index : Nat} {own host : String}
theorem k_X8_look {Z : Nat → ClassId} {q g : Nat → Nat} {pl sa aa : Nat} {N : M2} {P : M2} {x1 : Int32} {x2 : Int32} {K : Int32 → M2 → M2 → Prop} (hC : CallFix p m c cc nL s args lw_g own) (hN : NW s) (hK : va_K D vwCl (tysG Z) s) (hT : TS vwCl D (MP Z q g pl sa aa N P) A H0 H locs) (hm : wp_X8_look N P x1 x2 K) (hl : Cond.methodLink own index yX8_look ∈ lw_g) (hlt : 3 < rn) (hsize : ls.size = nL) (hW : (rest.map fun v => v.category).sum ≤ 8) (hf : cells + 0 ≤ mcR ∧ slots + 0 ≤ msR) (hdg : decode cc pc = .ok (.invokevirtual index, 3)) (kk : ∀ (r : Int32) (N1 : M2) (P1 : M2) (H1 : Heap) (locs1 : List Loc), K r N1 P1 → TS vwCl D (MP Z q g pl sa aa N1 P1) A H0 H1 locs1 → W p l e (rk rn mcR msR) s m args below meth c H1 locs1 cells slots Q (F0 m (pc + 3) ls (.int r :: rest))) : W p l e (rk rn mcR msR) s m args below meth c H locs cells slots Q (F0 m pc ls (.int x2 :: .int x1 :: .ref (g 220) :: rest)) :=
  rw_go (wsF := (fun u : M2 × M2 => MP Z q g pl sa aa u.1 u.2)) (u0 := (N, P)) (wr := []) (isC := cutMP) (isR := []) (pm := cutMP) (ws' := (fun u : M2 × M2 => MP Z q g pl sa aa u.1 u.2)) (runV (As := [.int x1, .int x2]) hC hN (c_X8_look l D Z q g pl sa aa N P H.size x1 x2 K hm) mi_X8_look hl wq_1694 wq_97 hlt hT.1 hT.D' hK (q0 := 0) rfl rfl rfl hsize rfl hW hdg hf) (cutOkMP Z q g pl sa aa N P) hT (fun r u H1 locs1 hk hT1 => kk r u.1 u.2 H1 locs1 hk hT1)
end KX8_look
def wp_X8_order (N : M2) (P : M2) (x1 : Int32) (K : Int32 → M2 → M2 → Prop) : Prop := ((¬ (P 257 0) = 16 → (inb (P 257 0) 16 ∧ ∀ P_25 : M2, P_25 = up2 P 259 (upd (P 259) (P 257 0).toInt.toNat x1) → (∀ P_33 : M2, P_33 = up2 P_25 257 (fun _ => (P_25 257 0) + 1) → K 0 N P_33))) ∧ ((P 257 0) = 16 → K 4 N P))
set_option maxRecDepth 100000 in
set_option maxHeartbeats 4000000 in
theorem c_X8_order (l : Launch) (D : va_G) (Z : Nat → ClassId) (q g : Nat → Nat) (pl sa aa : Nat) (N : M2) (P : M2) (sz : Nat) (x1 : Int32) (K : Int32 → M2 → M2 → Prop) (hm : wp_X8_order N P x1 K) : Met l yX8_order (wy yX8_order cX8_order 3 (some .int)) (rk 1 0 0) (pre vwCl D Z (MP Z q g pl sa aa N P) sz [.ref (g 220), .int x1]) (poI vwCl D Z (fun u : M2 × M2 => MP Z q g pl sa aa u.1 u.2) (N, P) sz (fun (r : Int32) (u : M2 × M2) => K r u.1 u.2)) 0 0 (va_A (MP Z q g pl sa aa N P) sz) := by
  refine rw_of (ty := .int) (wsF := (fun u : M2 × M2 => MP Z q g pl sa aa u.1 u.2)) (u0 := (N, P)) (by decide +kernel) (Nat.le_of_ble_eq_true rfl) rfl ?_
  intro p e s m args below meth c Q A hC hN hsz hT hK hret ls hl
  have hx := hC.1
  have hb := hC.2.1
  have hl : lv_has ls 3 [(0, .ref (g 220)), (1, .int x1)] := hl
  have hT : TS vwCl D (MP Z q g pl sa aa N P) A s.heap s.heap [] := hT
  refine lv_aload_n hx hb dX8_order_0 rfl (lv_at hl 0 rfl) ?_
  refine gMP_mod_12 hC hK hT.1 wq_1432 dX8_order_1 ?_
  refine lv_astore_n (lv' := [(2, .ref (q 240)), (0, .ref (g 220)), (1, .int x1)]) hx hb dX8_order_4 rfl hl (by decide) rfl (fun ls hl => ?_)
  refine lv_aload_n hx hb dX8_order_5 rfl (lv_at hl 0 rfl) ?_
  refine gNMP_plan_17 hC hN hK hT.1 wn_1274 dX8_order_6 ?_
  refine lv_bipush (v := 16) hx hb dX8_order_9 (by decide) ?_
  refine lv_icmp_ne (tgt := 16) hx hb dX8_order_11 (by decide) (fun c_11 => ?_) (fun c_11 => ?_)
  · have hm := hm.1 c_11
    refine lv_aload_n hx hb dX8_order_16 rfl (lv_at hl 0 rfl) ?_
    refine gNMP_plan_19 hC hN hK hT.1 wn_1278 dX8_order_17 ?_
    refine lv_aload_n hx hb dX8_order_20 rfl (lv_at hl 0 rfl) ?_
    refine gNMP_plan_17 hC hN hK hT.1 wn_1274 dX8_order_21 ?_
    refine lv_iload_n hx hb dX8_order_24 rfl (lv_at hl 2 rfl) ?_
    refine sMP_sort hC hK hT hm.1 dX8_order_25 (fun P_25 eP_25 H locs hT => ?_)
    have hm := hm.2 P_25 eP_25
    refine lv_aload_n hx hb dX8_order_26 rfl (lv_at hl 0 rfl) ?_
    refine lv_dup hx hb dX8_order_27 rfl ?_
    refine gNMP_plan_17 hC hN hK hT.1 wn_1274 dX8_order_28 ?_
    refine lv_iconst (v := 1) hx hb dX8_order_31 (by decide) ?_
    refine lv_iadd hx hb dX8_order_32 ?_
    refine pNMP_plan_17 hC hN hK hT wn_1274 dX8_order_33 (fun P_33 eP_33 H locs hT => ?_)
    have hm := hm P_33 eP_33
    refine lv_iconst (v := 0) hx hb dX8_order_36 (by decide) ?_
    exact hret 37 _ _ _ _ (N, P_33) hm hT rfl dX8_order_37
  · have hm := hm.2 c_11
    refine lv_iconst (v := 4) hx hb dX8_order_14 (by decide) ?_
    exact hret 15 _ _ _ _ (N, P) hm hT rfl dX8_order_15
section KX8_order
variable {p : Program} {l : Launch} {e : Env} {s : State} {m : MethodId} {args : Array Value} {below : List Frame} {meth : Method} {c : Code} {H H0 : Heap} {locs : List Loc} {cells slots : Nat} {Q : State → Prop} {R : Room} {rn mcR msR : Nat}
variable {pc : Nat} {ls : Array Slot} {rest : List Value} {A : Nat → Prop} {D : va_G}
variable {cc : ByteArray} {nL index : Nat} {own host : String}
theorem k_X8_order {Z : Nat → ClassId} {q g : Nat → Nat} {pl sa aa : Nat} {N : M2} {P : M2} {x1 : Int32} {K : Int32 → M2 → M2 → Prop} (hC : CallFix p m c cc nL s args lw_g own) (hN : NW s) (hK : va_K D vwCl (tysG Z) s) (hT : TS vwCl D (MP Z q g pl sa aa N P) A H0 H locs) (hm : wp_X8_order N P x1 K) (hl : Cond.methodLink own index yX8_order ∈ lw_g) (hlt : 1 < rn) (hsize : ls.size = nL) (hW : (rest.map fun v => v.category).sum ≤ 8) (hf : cells + 0 ≤ mcR ∧ slots + 0 ≤ msR) (hdg : decode cc pc = .ok (.invokevirtual index, 3)) (kk : ∀ (r : Int32) (N1 : M2) (P1 : M2) (H1 : Heap) (locs1 : List Loc), K r N1 P1 → TS vwCl D (MP Z q g pl sa aa N1 P1) A H0 H1 locs1 → W p l e (rk rn mcR msR) s m args below meth c H1 locs1 cells slots Q (F0 m (pc + 3) ls (.int r :: rest))) : W p l e (rk rn mcR msR) s m args below meth c H locs cells slots Q (F0 m pc ls (.int x1 :: .ref (g 220) :: rest)) :=
  rw_go (wsF := (fun u : M2 × M2 => MP Z q g pl sa aa u.1 u.2)) (u0 := (N, P)) (wr := []) (isC := cutMP) (isR := []) (pm := cutMP) (ws' := (fun u : M2 × M2 => MP Z q g pl sa aa u.1 u.2)) (runV (As := [.int x1]) hC hN (c_X8_order l D Z q g pl sa aa N P H.size x1 K hm) mi_X8_order hl wq_1686 wq_95 hlt hT.1 hT.D' hK (q0 := 0) rfl rfl rfl hsize rfl hW hdg hf) (cutOkMP Z q g pl sa aa N P) hT (fun r u H1 locs1 hk hT1 => kk r u.1 u.2 H1 locs1 hk hT1)
end KX8_order
def wp_X8_crewed (N : M2) (P : M2) (x1 : Int32) (x2 : Int32) (K : Int32 → M2 → M2 → Prop) : Prop := wp_X8_look N P x1 3 (fun r_3 N_3 P_3 => (inb ((P_3 252 0) - 1) 8 ∧ (∀ v4_24 : Int32, v4_24 = (P_3 252 0) - 1 → (inb x1 401 ∧ (inb v4_24 8 ∧ inb x2 2 ∧ ∀ P_35 : M2, P_35 = up2 P_3 (310 + v4_24.toInt.toNat) (upd (P_3 (310 + v4_24.toInt.toNat)) x2.toInt.toNat (N_3 228 x1.toInt.toNat)) → ((¬ r_3 = 0 → K r_3 N_3 P_35) ∧ (r_3 = 0 → ((¬ x2 = 1 → K r_3 N_3 P_35) ∧ (x2 = 1 → (inb v4_24 8 ∧ inb 0 2 ∧ (inb v4_24 8 ∧ inb 1 2 ∧ ((¬ (P_35 (310 + v4_24.toInt.toNat) (0 : Int32).toInt.toNat) = (P_35 (310 + v4_24.toInt.toNat) (1 : Int32).toInt.toNat) → K r_3 N_3 P_35) ∧ ((P_35 (310 + v4_24.toInt.toNat) (0 : Int32).toInt.toNat) = (P_35 (310 + v4_24.toInt.toNat) (1 : Int32).toInt.toNat) → K 5 N_3 P_35)))))))))))))
set_option maxRecDepth 100000 in
set_option maxHeartbeats 4000000 in
theorem c_X8_crewed (l : Launch) (D : va_G) (Z : Nat → ClassId) (q g : Nat → Nat) (pl sa aa : Nat) (N : M2) (P : M2) (sz : Nat) (x1 : Int32) (x2 : Int32) (K : Int32 → M2 → M2 → Prop) (hm : wp_X8_crewed N P x1 x2 K) : Met l yX8_crewed (wy yX8_crewed cX8_crewed 5 (some .int)) (rk 4 0 0) (pre vwCl D Z (MP Z q g pl sa aa N P) sz [.ref (g 220), .int x1, .int x2]) (poI vwCl D Z (fun u : M2 × M2 => MP Z q g pl sa aa u.1 u.2) (N, P) sz (fun (r : Int32) (u : M2 × M2) => K r u.1 u.2)) 0 0 (va_A (MP Z q g pl sa aa N P) sz) := by
  refine rw_of (ty := .int) (wsF := (fun u : M2 × M2 => MP Z q g pl sa aa u.1 u.2)) (u0 := (N, P)) (by decide +kernel) (Nat.le_of_ble_eq_true rfl) rfl ?_
  intro p e s m args below meth c Q A hC hN hsz hT hK hret ls hl
  have hx := hC.1
  have hb := hC.2.1
  have hl : lv_has ls 5 [(0, .ref (g 220)), (1, .int x1), (2, .int x2)] := hl
  have hT : TS vwCl D (MP Z q g pl sa aa N P) A s.heap s.heap [] := hT
  refine lv_aload_n hx hb dX8_crewed_0 rfl (lv_at hl 0 rfl) ?_
  refine lv_iload_n hx hb dX8_crewed_1 rfl (lv_at hl 1 rfl) ?_
  refine lv_iconst (v := 3) hx hb dX8_crewed_2 (by decide) ?_
  refine k_X8_look hC hN hK hT hm wq_1692 (by decide) hl.1 (Nat.le_of_ble_eq_true rfl) ⟨Nat.le_refl _, Nat.le_refl _⟩ dX8_crewed_3 (fun r_3 N_3 P_3 H locs hm hT => ?_)
  refine lv_istore_n (lv' := [(3, .int r_3), (0, .ref (g 220)), (1, .int x1), (2, .int x2)]) hx hb dX8_crewed_6 rfl hl (by decide) rfl (fun ls hl => ?_)
  refine lv_aload_n hx hb dX8_crewed_7 rfl (lv_at hl 1 rfl) ?_
  refine gMP_mod_12 hC hK hT.1 wq_1432 dX8_crewed_8 ?_
  refine gNMP_plan_16 hC hN hK hT.1 wn_1272 dX8_crewed_11 ?_
  refine lv_aload_n hx hb dX8_crewed_14 rfl (lv_at hl 1 rfl) ?_
  refine gMP_mod_12 hC hK hT.1 wq_1432 dX8_crewed_15 ?_
  refine gNMP_plan_12 hC hN hK hT.1 wn_1260 dX8_crewed_18 ?_
  refine lv_iconst (v := 1) hx hb dX8_crewed_21 (by decide) ?_
  refine lv_isub hx hb dX8_crewed_22 ?_
  refine w_aaldR (q0 := 19) hC hK hT.1 rfl hm.1 dX8_crewed_23 ?_
  have hm := hm.2
  obtain ⟨v4_24, ev4_24⟩ : ∃ y : Int32, y = (P_3 252 0) - 1 := ⟨_, rfl⟩
  rw [← ev4_24]
  have hm := hm v4_24 ev4_24
  refine lv_astore (lv' := [(4, .ref (q (310 + v4_24.toInt.toNat))), (3, .int r_3), (0, .ref (g 220)), (1, .int x1), (2, .int x2)]) hx hb dX8_crewed_24 hl (by decide) rfl (fun ls hl => ?_)
  refine lv_aload hx hb dX8_crewed_26 (lv_at hl 0 rfl) ?_
  refine lv_iload_n hx hb dX8_crewed_28 rfl (lv_at hl 4 rfl) ?_
  refine lv_aload_n hx hb dX8_crewed_29 rfl (lv_at hl 2 rfl) ?_
  refine gMP_mod_8 hC hK hT.1 wq_1427 dX8_crewed_30 ?_
  refine lv_iload_n hx hb dX8_crewed_33 rfl (lv_at hl 3 rfl) ?_
  refine w_iald (q0 := 6) hC hK hT.1 rfl hm.1 dX8_crewed_34 ?_
  have hm := hm.2
  refine wrs_MP hC hK hT hm.1 hm.2.1 dX8_crewed_35 (fun P_35 eP_35 H locs hT => ?_)
  have hm := hm.2.2 P_35 eP_35
  refine lv_iload_n hx hb dX8_crewed_36 rfl (lv_at hl 1 rfl) ?_
  refine lv_if_ne (tgt := 60) hx hb dX8_crewed_37 (by decide) (fun c_37 => ?_) (fun c_37 => ?_)
  · have hm := hm.1 c_37
    refine lv_iload_n hx hb dX8_crewed_60 rfl (lv_at hl 1 rfl) ?_
    exact hret 61 _ _ _ _ (N_3, P_35) hm hT rfl dX8_crewed_61
  · have hm := hm.2 c_37
    refine lv_iload_n hx hb dX8_crewed_40 rfl (lv_at hl 4 rfl) ?_
    refine lv_iconst (v := 1) hx hb dX8_crewed_41 (by decide) ?_
    refine lv_icmp_ne (tgt := 60) hx hb dX8_crewed_42 (by decide) (fun c_42 => ?_) (fun c_42 => ?_)
    · have hm := hm.1 c_42
      refine lv_iload_n hx hb dX8_crewed_60 rfl (lv_at hl 1 rfl) ?_
      exact hret 61 _ _ _ _ (N_3, P_35) hm hT rfl dX8_crewed_61
    · have hm := hm.2 c_42
      refine lv_aload hx hb dX8_crewed_45 (lv_at hl 0 rfl) ?_
      refine lv_iconst (v := 0) hx hb dX8_crewed_47 (by decide) ?_
      refine wrl_MP hC hK hT.1 hm.1 hm.2.1 dX8_crewed_48 ?_
      have hm := hm.2.2
      refine lv_aload hx hb dX8_crewed_49 (lv_at hl 0 rfl) ?_
      refine lv_iconst (v := 1) hx hb dX8_crewed_51 (by decide) ?_
      refine wrl_MP hC hK hT.1 hm.1 hm.2.1 dX8_crewed_52 ?_
      have hm := hm.2.2
      refine lv_icmp_ne (tgt := 60) hx hb dX8_crewed_53 (by decide) (fun c_53 => ?_) (fun c_53 => ?_)
      · have hm := hm.1 c_53
        refine lv_iload_n hx hb dX8_crewed_60 rfl (lv_at hl 1 rfl) ?_
        exact hret 61 _ _ _ _ (N_3, P_35) hm hT rfl dX8_crewed_61
      · have hm := hm.2 c_53
        refine lv_iconst (v := 5) hx hb dX8_crewed_56 (by decide) ?_
        refine lv_goto (tgt := 61) hx hb dX8_crewed_57 (by decide) ?_
        exact hret 61 _ _ _ _ (N_3, P_35) hm hT rfl dX8_crewed_61
section KX8_crewed
variable {p : Program} {l : Launch} {e : Env} {s : State} {m : MethodId} {args : Array Value} {below : List Frame} {meth : Method} {c : Code} {H H0 : Heap} {locs : List Loc} {cells slots : Nat} {Q : State → Prop} {R : Room} {rn mcR msR : Nat}
variable {pc : Nat} {ls : Array Slot} {rest : List Value} {A : Nat → Prop} {D : va_G}
variable {cc : ByteArray} {nL index : Nat} {own host : String}
theorem k_X8_crewed {Z : Nat → ClassId} {q g : Nat → Nat} {pl sa aa : Nat} {N : M2} {P : M2} {x1 : Int32} {x2 : Int32} {K : Int32 → M2 → M2 → Prop} (hC : CallFix p m c cc nL s args lw_g own) (hN : NW s) (hK : va_K D vwCl (tysG Z) s) (hT : TS vwCl D (MP Z q g pl sa aa N P) A H0 H locs) (hm : wp_X8_crewed N P x1 x2 K) (hl : Cond.methodLink own index yX8_crewed ∈ lw_g) (hlt : 4 < rn) (hsize : ls.size = nL) (hW : (rest.map fun v => v.category).sum ≤ 8) (hf : cells + 0 ≤ mcR ∧ slots + 0 ≤ msR) (hdg : decode cc pc = .ok (.invokevirtual index, 3)) (kk : ∀ (r : Int32) (N1 : M2) (P1 : M2) (H1 : Heap) (locs1 : List Loc), K r N1 P1 → TS vwCl D (MP Z q g pl sa aa N1 P1) A H0 H1 locs1 → W p l e (rk rn mcR msR) s m args below meth c H1 locs1 cells slots Q (F0 m (pc + 3) ls (.int r :: rest))) : W p l e (rk rn mcR msR) s m args below meth c H locs cells slots Q (F0 m pc ls (.int x2 :: .int x1 :: .ref (g 220) :: rest)) :=
  rw_go (wsF := (fun u : M2 × M2 => MP Z q g pl sa aa u.1 u.2)) (u0 := (N, P)) (wr := []) (isC := cutMP) (isR := []) (pm := cutMP) (ws' := (fun u : M2 × M2 => MP Z q g pl sa aa u.1 u.2)) (runV (As := [.int x1, .int x2]) hC hN (c_X8_crewed l D Z q g pl sa aa N P H.size x1 x2 K hm) mi_X8_crewed hl wq_1690 wq_96 hlt hT.1 hT.D' hK (q0 := 0) rfl rfl rfl hsize rfl hW hdg hf) (cutOkMP Z q g pl sa aa N P) hT (fun r u H1 locs1 hk hT1 => kk r u.1 u.2 H1 locs1 hk hT1)
end KX8_crewed
def wl_X8_dug_54 (K : Int32 → M2 → M2 → Prop) : Nat → M2 → M2 → Int32 → Int32 → Prop
  | 0, _, _, _, _ => False
  | n + 1, N, P, v3, v5 => (inb v3 5 ∧ (((P 242 v3.toInt.toNat) ≤ v5 → K 0 N P) ∧ (¬ (P 242 v3.toInt.toNat) ≤ v5 → (inb (P 241 0) 60 ∧ ∀ P_74 : M2, P_74 = up2 P 245 (upd (P 245) (P 241 0).toInt.toNat v3) → (∀ P_82 : M2, P_82 = up2 P_74 241 (fun _ => (P_74 241 0) + 1) → (∀ v5_85 : Int32, v5_85 = v5 + 1 → wl_X8_dug_54 K n N P_82 v3 v5_85))))))
def wp_X8_dug (N : M2) (P : M2) (x1 : Int32) (K : Int32 → M2 → M2 → Prop) : Prop := (∀ v3_11, v3_11 = (P 240 0) - 1 → wp_X8_inRange N P x1 1 12 (fun r_17 => ((r_17 ≤ 0 → wp_X8_numberAt N P x1 (fun r_37 => (inb v3_11 5 ∧ ∀ P_40 : M2, P_40 = up2 P 242 (upd (P 242) v3_11.toInt.toNat r_37) → (inb v3_11 5 ∧ ∀ P_50 : M2, P_50 = up2 P_40 244 (upd (P_40 244) v3_11.toInt.toNat (P_40 241 0)) → wl_X8_dug_54 K fK N P_50 v3_11 0)))) ∧ (¬ r_17 ≤ 0 → K r_17 N P))))
set_option maxRecDepth 100000 in
set_option maxHeartbeats 4000000 in
theorem c_X8_dug (l : Launch) (D : va_G) (Z : Nat → ClassId) (q g : Nat → Nat) (pl sa aa : Nat) (N : M2) (P : M2) (sz : Nat) (x1 : Int32) (K : Int32 → M2 → M2 → Prop) (hm : wp_X8_dug N P x1 K) : Met l yX8_dug (wy yX8_dug cX8_dug 6 (some .int)) (rk 3 0 0) (pre vwCl D Z (MP Z q g pl sa aa N P) sz [.ref (g 220), .int x1]) (poI vwCl D Z (fun u : M2 × M2 => MP Z q g pl sa aa u.1 u.2) (N, P) sz (fun (r : Int32) (u : M2 × M2) => K r u.1 u.2)) 0 0 (va_A (MP Z q g pl sa aa N P) sz) := by
  refine rw_of (ty := .int) (wsF := (fun u : M2 × M2 => MP Z q g pl sa aa u.1 u.2)) (u0 := (N, P)) (by decide +kernel) (Nat.le_of_ble_eq_true rfl) rfl ?_
  intro p e s m args below meth c Q A hC hN hsz hT hK hret ls hl
  have hx := hC.1
  have hb := hC.2.1
  have hl : lv_has ls 6 [(0, .ref (g 220)), (1, .int x1)] := hl
  have hT : TS vwCl D (MP Z q g pl sa aa N P) A s.heap s.heap [] := hT
  have L54 : ∀ (n54 : Nat), ∀ (N : M2) (P : M2) (v3 : Int32) (v5 : Int32) (H : Heap) (locs : List Loc) (ls : Array Slot), wl_X8_dug_54 K n54 N P v3 v5 → TS vwCl D (MP Z q g pl sa aa N P) A s.heap H locs → lv_has ls 6 [(2, .ref (q 240)), (3, .int v3), (5, .int v5)] → W p l e (rk 3 0 0) s m args below meth c H locs 0 0 Q (F0 m 54 ls []) := by
    intro n54
    induction n54 with
    | zero =>
      intro N P v3 v5 H locs ls hm hT hl
      exact False.elim hm
    | succ n54 ih54 =>
      intro N P v3 v5 H locs ls hm hT hl
      refine lv_iload hx hb dX8_dug_54 (lv_at hl 2 rfl) ?_
      refine lv_aload_n hx hb dX8_dug_56 rfl (lv_at hl 0 rfl) ?_
      refine gNMP_plan_2 hC hN hK hT.1 wn_1234 dX8_dug_57 ?_
      refine lv_iload_n hx hb dX8_dug_60 rfl (lv_at hl 1 rfl) ?_
      refine w_iald (q0 := 8) hC hK hT.1 rfl hm.1 dX8_dug_61 ?_
      have hm := hm.2
      refine lv_icmp_ge (tgt := 91) hx hb dX8_dug_62 (by decide) (fun c_62 => ?_) (fun c_62 => ?_)
      · have hm := hm.1 c_62
        refine lv_iconst (v := 0) hx hb dX8_dug_91 (by decide) ?_
        exact hret 92 _ _ _ _ (N, P) hm hT rfl dX8_dug_92
      · have hm := hm.2 c_62
        refine lv_aload_n hx hb dX8_dug_65 rfl (lv_at hl 0 rfl) ?_
        refine gNMP_plan_5 hC hN hK hT.1 wn_1242 dX8_dug_66 ?_
        refine lv_aload_n hx hb dX8_dug_69 rfl (lv_at hl 0 rfl) ?_
        refine gNMP_plan_1 hC hN hK hT.1 wn_1232 dX8_dug_70 ?_
        refine lv_iload_n hx hb dX8_dug_73 rfl (lv_at hl 1 rfl) ?_
        refine sMP_boreOf hC hK hT hm.1 dX8_dug_74 (fun P_74 eP_74 H locs hT => ?_)
        have hm := hm.2 P_74 eP_74
        refine lv_aload_n hx hb dX8_dug_75 rfl (lv_at hl 0 rfl) ?_
        refine lv_dup hx hb dX8_dug_76 rfl ?_
        refine gNMP_plan_1 hC hN hK hT.1 wn_1232 dX8_dug_77 ?_
        refine lv_iconst (v := 1) hx hb dX8_dug_80 (by decide) ?_
        refine lv_iadd hx hb dX8_dug_81 ?_
        refine pNMP_plan_1 hC hN hK hT wn_1232 dX8_dug_82 (fun P_82 eP_82 H locs hT => ?_)
        have hm := hm P_82 eP_82
        obtain ⟨v5_85, ev5_85⟩ : ∃ y : Int32, y = v5 + 1 := ⟨_, rfl⟩
        have hm := hm v5_85 ev5_85
        refine lv_iinc (v := v5_85) (lv' := [(5, .int v5_85), (2, .ref (q 240)), (3, .int v3)]) hx hb dX8_dug_85 hl (k := 2) rfl (by rw [ev5_85]; rfl) (by decide) rfl (fun ls hl => ?_)
        refine lv_goto (tgt := 54) hx hb dX8_dug_88 (by decide) ?_
        exact ih54 _ _ _ _ _ _ _ hm hT (lv_sub hl [1, 2, 0] rfl)
  refine lv_aload_n hx hb dX8_dug_0 rfl (lv_at hl 0 rfl) ?_
  refine gMP_mod_12 hC hK hT.1 wq_1432 dX8_dug_1 ?_
  refine lv_astore_n (lv' := [(2, .ref (q 240)), (0, .ref (g 220)), (1, .int x1)]) hx hb dX8_dug_4 rfl hl (by decide) rfl (fun ls hl => ?_)
  refine lv_aload_n hx hb dX8_dug_5 rfl (lv_at hl 0 rfl) ?_
  refine gNMP_plan_0 hC hN hK hT.1 wn_1230 dX8_dug_6 ?_
  refine lv_iconst (v := 1) hx hb dX8_dug_9 (by decide) ?_
  refine lv_isub hx hb dX8_dug_10 ?_
  refine lv_topi (fun v3_11 ev3_11 => ?_)
  have hm := hm v3_11 ev3_11
  refine lv_istore_n (lv' := [(3, .int v3_11), (2, .ref (q 240)), (0, .ref (g 220)), (1, .int x1)]) hx hb dX8_dug_11 rfl hl (by decide) rfl (fun ls hl => ?_)
  refine lv_aload_n hx hb dX8_dug_12 rfl (lv_at hl 2 rfl) ?_
  refine lv_iload_n hx hb dX8_dug_13 rfl (lv_at hl 3 rfl) ?_
  refine lv_iconst (v := 1) hx hb dX8_dug_14 (by decide) ?_
  refine lv_bipush (v := 12) hx hb dX8_dug_15 (by decide) ?_
  refine k_X8_inRange hC hN hK hT.1 hT.D' hm wq_1708 (by decide) hl.1 (Nat.le_of_ble_eq_true rfl) ⟨Nat.le_refl _, Nat.le_refl _⟩ dX8_dug_17 (fun r_17 hm => ?_)
  refine lv_istore (lv' := [(4, .int r_17), (3, .int v3_11), (2, .ref (q 240)), (0, .ref (g 220)), (1, .int x1)]) hx hb dX8_dug_20 hl (by decide) rfl (fun ls hl => ?_)
  refine lv_iload hx hb dX8_dug_22 (lv_at hl 0 rfl) ?_
  refine lv_if_le (tgt := 30) hx hb dX8_dug_24 (by decide) (fun c_24 => ?_) (fun c_24 => ?_)
  · have hm := hm.1 c_24
    refine lv_aload_n hx hb dX8_dug_30 rfl (lv_at hl 2 rfl) ?_
    refine gNMP_plan_2 hC hN hK hT.1 wn_1234 dX8_dug_31 ?_
    refine lv_iload_n hx hb dX8_dug_34 rfl (lv_at hl 1 rfl) ?_
    refine lv_aload_n hx hb dX8_dug_35 rfl (lv_at hl 3 rfl) ?_
    refine lv_iload_n hx hb dX8_dug_36 rfl (lv_at hl 4 rfl) ?_
    refine k_X8_numberAt hC hN hK hT.1 hT.D' hm wq_1660 (by decide) hl.1 (Nat.le_of_ble_eq_true rfl) ⟨Nat.le_refl _, Nat.le_refl _⟩ dX8_dug_37 (fun r_37 hm => ?_)
    refine sMP_longs hC hK hT hm.1 dX8_dug_40 (fun P_40 eP_40 H locs hT => ?_)
    have hm := hm.2 P_40 eP_40
    refine lv_aload_n hx hb dX8_dug_41 rfl (lv_at hl 2 rfl) ?_
    refine gNMP_plan_4 hC hN hK hT.1 wn_1239 dX8_dug_42 ?_
    refine lv_iload_n hx hb dX8_dug_45 rfl (lv_at hl 1 rfl) ?_
    refine lv_aload_n hx hb dX8_dug_46 rfl (lv_at hl 2 rfl) ?_
    refine gNMP_plan_1 hC hN hK hT.1 wn_1232 dX8_dug_47 ?_
    refine sMP_first hC hK hT hm.1 dX8_dug_50 (fun P_50 eP_50 H locs hT => ?_)
    have hm := hm.2 P_50 eP_50
    refine lv_iconst (v := 0) hx hb dX8_dug_51 (by decide) ?_
    refine lv_istore (lv' := [(5, .int 0), (4, .int r_17), (3, .int v3_11), (2, .ref (q 240)), (0, .ref (g 220)), (1, .int x1)]) hx hb dX8_dug_52 hl (by decide) rfl (fun ls hl => ?_)
    exact L54 _ _ _ _ _ _ _ _ hm hT (lv_sub hl [3, 2, 0] rfl)
  · have hm := hm.2 c_24
    refine lv_iload hx hb dX8_dug_27 (lv_at hl 0 rfl) ?_
    exact hret 29 _ _ _ _ (N, P) hm hT rfl dX8_dug_29
section KX8_dug
variable {p : Program} {l : Launch} {e : Env} {s : State} {m : MethodId} {args : Array Value} {below : List Frame} {meth : Method} {c : Code} {H H0 : Heap} {locs : List Loc} {cells slots : Nat} {Q : State → Prop} {R : Room} {rn mcR msR : Nat}
variable {pc : Nat} {ls : Array Slot} {rest : List Value} {A : Nat → Prop} {D : va_G}
variable {cc : ByteArray} {nL index : Nat} {own host : String}
theorem k_X8_dug {Z : Nat → ClassId} {q g : Nat → Nat} {pl sa aa : Nat} {N : M2} {P : M2} {x1 : Int32} {K : Int32 → M2 → M2 → Prop} (hC : CallFix p m c cc nL s args lw_g own) (hN : NW s) (hK : va_K D vwCl (tysG Z) s) (hT : TS vwCl D (MP Z q g pl sa aa N P) A H0 H locs) (hm : wp_X8_dug N P x1 K) (hl : Cond.methodLink own index yX8_dug ∈ lw_g) (hlt : 3 < rn) (hsize : ls.size = nL) (hW : (rest.map fun v => v.category).sum ≤ 8) (hf : cells + 0 ≤ mcR ∧ slots + 0 ≤ msR) (hdg : decode cc pc = .ok (.invokevirtual index, 3)) (kk : ∀ (r : Int32) (N1 : M2) (P1 : M2) (H1 : Heap) (locs1 : List Loc), K r N1 P1 → TS vwCl D (MP Z q g pl sa aa N1 P1) A H0 H1 locs1 → W p l e (rk rn mcR msR) s m args below meth c H1 locs1 cells slots Q (F0 m (pc + 3) ls (.int r :: rest))) : W p l e (rk rn mcR msR) s m args below meth c H locs cells slots Q (F0 m pc ls (.int x1 :: .ref (g 220) :: rest)) :=
  rw_go (wsF := (fun u : M2 × M2 => MP Z q g pl sa aa u.1 u.2)) (u0 := (N, P)) (wr := []) (isC := cutMP) (isR := []) (pm := cutMP) (ws' := (fun u : M2 × M2 => MP Z q g pl sa aa u.1 u.2)) (runV (As := [.int x1]) hC hN (c_X8_dug l D Z q g pl sa aa N P H.size x1 K hm) mi_X8_dug hl wq_1706 wq_100 hlt hT.1 hT.D' hK (q0 := 0) rfl rfl rfl hsize rfl hW hdg hf) (cutOkMP Z q g pl sa aa N P) hT (fun r u H1 locs1 hk hT1 => kk r u.1 u.2 H1 locs1 hk hT1)
end KX8_dug
def wp_X8_numberOf (N : M2) (P : M2) (x1 : Int32) (K : Int32 → M2 → M2 → Prop) : Prop := (inb x1 401 ∧ (((N 227 x1.toInt.toNat) = 7 → wp_X8_dug N P x1 (fun r_62 N_62 P_62 => K r_62 N_62 P_62)) ∧ ((N 227 x1.toInt.toNat) = 8 → wp_X8_numberAt N P x1 (fun r_78 => (inb ((P 240 0) - 1) 5 ∧ ∀ P_81 : M2, P_81 = up2 P 243 (upd (P 243) ((P 240 0) - 1).toInt.toNat r_78) → wp_X8_inRange N P_81 x1 0 9 (fun r_87 => K r_87 N P_81)))) ∧ ((N 227 x1.toInt.toNat) = 9 → wp_X8_numberAt N P x1 (fun r_103 => (inb ((P 246 0) - 1) 4 ∧ ∀ P_106 : M2, P_106 = up2 P 247 (upd (P 247) ((P 246 0) - 1).toInt.toNat r_103) → wp_X8_inRange N P_106 x1 0 ((P_106 241 0) - 1) (fun r_116 => K r_116 N P_106)))) ∧ ((N 227 x1.toInt.toNat) = 10 → wp_X8_numberAt N P x1 (fun r_132 => (inb ((P 246 0) - 1) 4 ∧ ∀ P_135 : M2, P_135 = up2 P 248 (upd (P 248) ((P 246 0) - 1).toInt.toNat r_132) → wp_X8_inRange N P_135 x1 1 30 (fun r_141 => K r_141 N P_135)))) ∧ ((N 227 x1.toInt.toNat) = 11 → wp_X8_numberAt N P x1 (fun r_157 => (inb ((P 249 0) - 1) 6 ∧ ∀ P_160 : M2, P_160 = up2 P 250 (upd (P 250) ((P 249 0) - 1).toInt.toNat r_157) → wp_X8_inRange N P_160 x1 1 9 (fun r_166 => K r_166 N P_160)))) ∧ ((N 227 x1.toInt.toNat) = 12 → wp_X8_numberAt N P x1 (fun r_182 => (inb ((P 249 0) - 1) 6 ∧ ∀ P_185 : M2, P_185 = up2 P 251 (upd (P 251) ((P 249 0) - 1).toInt.toNat r_182) → wp_X8_inRange N P_185 x1 1 9 (fun r_191 => K r_191 N P_185)))) ∧ ((N 227 x1.toInt.toNat) = 13 → wp_X8_numberAt N P x1 (fun r_207 => (inb ((P 252 0) - 1) 8 ∧ ∀ P_210 : M2, P_210 = up2 P 253 (upd (P 253) ((P 252 0) - 1).toInt.toNat r_207) → wp_X8_inRange N P_210 x1 1 60 (fun r_216 => K r_216 N P_210)))) ∧ ((N 227 x1.toInt.toNat) = 15 → wp_X8_numberAt N P x1 (fun r_232 => (inb ((P 252 0) - 1) 8 ∧ ∀ P_235 : M2, P_235 = up2 P 255 (upd (P 255) ((P 252 0) - 1).toInt.toNat r_232) → wp_X8_inRange N P_235 x1 0 999 (fun r_242 => K r_242 N P_235)))) ∧ (¬ (N 227 x1.toInt.toNat) = 7 → ¬ (N 227 x1.toInt.toNat) = 8 → ¬ (N 227 x1.toInt.toNat) = 9 → ¬ (N 227 x1.toInt.toNat) = 10 → ¬ (N 227 x1.toInt.toNat) = 11 → ¬ (N 227 x1.toInt.toNat) = 12 → ¬ (N 227 x1.toInt.toNat) = 13 → ¬ (N 227 x1.toInt.toNat) = 15 → K 0 N P)))
set_option maxRecDepth 100000 in
set_option maxHeartbeats 4000000 in
theorem c_X8_numberOf (l : Launch) (D : va_G) (Z : Nat → ClassId) (q g : Nat → Nat) (pl sa aa : Nat) (N : M2) (P : M2) (sz : Nat) (x1 : Int32) (K : Int32 → M2 → M2 → Prop) (hm : wp_X8_numberOf N P x1 K) : Met l yX8_numberOf (wy yX8_numberOf cX8_numberOf 3 (some .int)) (rk 4 0 0) (pre vwCl D Z (MP Z q g pl sa aa N P) sz [.ref (g 220), .int x1]) (poI vwCl D Z (fun u : M2 × M2 => MP Z q g pl sa aa u.1 u.2) (N, P) sz (fun (r : Int32) (u : M2 × M2) => K r u.1 u.2)) 0 0 (va_A (MP Z q g pl sa aa N P) sz) := by
  refine rw_of (ty := .int) (wsF := (fun u : M2 × M2 => MP Z q g pl sa aa u.1 u.2)) (u0 := (N, P)) (by decide +kernel) (Nat.le_of_ble_eq_true rfl) rfl ?_
  intro p e s m args below meth c Q A hC hN hsz hT hK hret ls hl
  have hx := hC.1
  have hb := hC.2.1
  have hl : lv_has ls 3 [(0, .ref (g 220)), (1, .int x1)] := hl
  have hT : TS vwCl D (MP Z q g pl sa aa N P) A s.heap s.heap [] := hT
  refine lv_aload_n hx hb dX8_numberOf_0 rfl (lv_at hl 0 rfl) ?_
  refine gMP_mod_12 hC hK hT.1 wq_1432 dX8_numberOf_1 ?_
  refine lv_astore_n (lv' := [(2, .ref (q 240)), (0, .ref (g 220)), (1, .int x1)]) hx hb dX8_numberOf_4 rfl hl (by decide) rfl (fun ls hl => ?_)
  refine lv_aload_n hx hb dX8_numberOf_5 rfl (lv_at hl 1 rfl) ?_
  refine gMP_mod_7 hC hK hT.1 wq_1426 dX8_numberOf_6 ?_
  refine lv_iload_n hx hb dX8_numberOf_9 rfl (lv_at hl 2 rfl) ?_
  refine w_iald (q0 := 5) hC hK hT.1 rfl hm.1 dX8_numberOf_10 ?_
  have hm := hm.2
  by_cases s11_0 : (N 227 x1.toInt.toNat) = 7
  · have hm := hm.1 s11_0
    refine w_swi (off := 49) (tgt := 60) 7 hx hb dX8_numberOf_11 s11_0 (by decide) (by decide) (by decide) (by decide) ?_
    refine lv_aload_n hx hb dX8_numberOf_60 rfl (lv_at hl 1 rfl) ?_
    refine lv_iload_n hx hb dX8_numberOf_61 rfl (lv_at hl 2 rfl) ?_
    refine k_X8_dug hC hN hK hT hm wq_1704 (by decide) hl.1 (Nat.le_of_ble_eq_true rfl) ⟨Nat.le_refl _, Nat.le_refl _⟩ dX8_numberOf_62 (fun r_62 N_62 P_62 H locs hm hT => ?_)
    exact hret 65 _ _ _ _ (N_62, P_62) hm hT rfl dX8_numberOf_65
  have hm := hm.2
  by_cases s11_1 : (N 227 x1.toInt.toNat) = 8
  · have hm := hm.1 s11_1
    refine w_swi (off := 55) (tgt := 66) 8 hx hb dX8_numberOf_11 s11_1 (by decide) (by decide) (by decide) (by decide) ?_
    refine lv_aload_n hx hb dX8_numberOf_66 rfl (lv_at hl 0 rfl) ?_
    refine gNMP_plan_3 hC hN hK hT.1 wn_1237 dX8_numberOf_67 ?_
    refine lv_aload_n hx hb dX8_numberOf_70 rfl (lv_at hl 0 rfl) ?_
    refine gNMP_plan_0 hC hN hK hT.1 wn_1230 dX8_numberOf_71 ?_
    refine lv_iconst (v := 1) hx hb dX8_numberOf_74 (by decide) ?_
    refine lv_isub hx hb dX8_numberOf_75 ?_
    refine lv_aload_n hx hb dX8_numberOf_76 rfl (lv_at hl 1 rfl) ?_
    refine lv_iload_n hx hb dX8_numberOf_77 rfl (lv_at hl 2 rfl) ?_
    refine k_X8_numberAt hC hN hK hT.1 hT.D' hm wq_1660 (by decide) hl.1 (Nat.le_of_ble_eq_true rfl) ⟨Nat.le_refl _, Nat.le_refl _⟩ dX8_numberOf_78 (fun r_78 hm => ?_)
    refine sMP_low hC hK hT hm.1 dX8_numberOf_81 (fun P_81 eP_81 H locs hT => ?_)
    have hm := hm.2 P_81 eP_81
    refine lv_aload_n hx hb dX8_numberOf_82 rfl (lv_at hl 1 rfl) ?_
    refine lv_iload_n hx hb dX8_numberOf_83 rfl (lv_at hl 2 rfl) ?_
    refine lv_iconst (v := 0) hx hb dX8_numberOf_84 (by decide) ?_
    refine lv_bipush (v := 9) hx hb dX8_numberOf_85 (by decide) ?_
    refine k_X8_inRange hC hN hK hT.1 hT.D' hm wq_1708 (by decide) hl.1 (Nat.le_of_ble_eq_true rfl) ⟨Nat.le_refl _, Nat.le_refl _⟩ dX8_numberOf_87 (fun r_87 hm => ?_)
    exact hret 90 _ _ _ _ (N, P_81) hm hT rfl dX8_numberOf_90
  have hm := hm.2
  by_cases s11_2 : (N 227 x1.toInt.toNat) = 9
  · have hm := hm.1 s11_2
    refine w_swi (off := 80) (tgt := 91) 9 hx hb dX8_numberOf_11 s11_2 (by decide) (by decide) (by decide) (by decide) ?_
    refine lv_aload_n hx hb dX8_numberOf_91 rfl (lv_at hl 0 rfl) ?_
    refine gNMP_plan_7 hC hN hK hT.1 wn_1247 dX8_numberOf_92 ?_
    refine lv_aload_n hx hb dX8_numberOf_95 rfl (lv_at hl 0 rfl) ?_
    refine gNMP_plan_6 hC hN hK hT.1 wn_1244 dX8_numberOf_96 ?_
    refine lv_iconst (v := 1) hx hb dX8_numberOf_99 (by decide) ?_
    refine lv_isub hx hb dX8_numberOf_100 ?_
    refine lv_aload_n hx hb dX8_numberOf_101 rfl (lv_at hl 1 rfl) ?_
    refine lv_iload_n hx hb dX8_numberOf_102 rfl (lv_at hl 2 rfl) ?_
    refine k_X8_numberAt hC hN hK hT.1 hT.D' hm wq_1660 (by decide) hl.1 (Nat.le_of_ble_eq_true rfl) ⟨Nat.le_refl _, Nat.le_refl _⟩ dX8_numberOf_103 (fun r_103 hm => ?_)
    refine sMP_shaftAt hC hK hT hm.1 dX8_numberOf_106 (fun P_106 eP_106 H locs hT => ?_)
    have hm := hm.2 P_106 eP_106
    refine lv_aload_n hx hb dX8_numberOf_107 rfl (lv_at hl 1 rfl) ?_
    refine lv_iload_n hx hb dX8_numberOf_108 rfl (lv_at hl 2 rfl) ?_
    refine lv_iconst (v := 0) hx hb dX8_numberOf_109 (by decide) ?_
    refine lv_aload_n hx hb dX8_numberOf_110 rfl (lv_at hl 0 rfl) ?_
    refine gNMP_plan_1 hC hN hK hT.1 wn_1232 dX8_numberOf_111 ?_
    refine lv_iconst (v := 1) hx hb dX8_numberOf_114 (by decide) ?_
    refine lv_isub hx hb dX8_numberOf_115 ?_
    refine k_X8_inRange hC hN hK hT.1 hT.D' hm wq_1708 (by decide) hl.1 (Nat.le_of_ble_eq_true rfl) ⟨Nat.le_refl _, Nat.le_refl _⟩ dX8_numberOf_116 (fun r_116 hm => ?_)
    exact hret 119 _ _ _ _ (N, P_106) hm hT rfl dX8_numberOf_119
  have hm := hm.2
  by_cases s11_3 : (N 227 x1.toInt.toNat) = 10
  · have hm := hm.1 s11_3
    refine w_swi (off := 109) (tgt := 120) 10 hx hb dX8_numberOf_11 s11_3 (by decide) (by decide) (by decide) (by decide) ?_
    refine lv_aload_n hx hb dX8_numberOf_120 rfl (lv_at hl 0 rfl) ?_
    refine gNMP_plan_8 hC hN hK hT.1 wn_1250 dX8_numberOf_121 ?_
    refine lv_aload_n hx hb dX8_numberOf_124 rfl (lv_at hl 0 rfl) ?_
    refine gNMP_plan_6 hC hN hK hT.1 wn_1244 dX8_numberOf_125 ?_
    refine lv_iconst (v := 1) hx hb dX8_numberOf_128 (by decide) ?_
    refine lv_isub hx hb dX8_numberOf_129 ?_
    refine lv_aload_n hx hb dX8_numberOf_130 rfl (lv_at hl 1 rfl) ?_
    refine lv_iload_n hx hb dX8_numberOf_131 rfl (lv_at hl 2 rfl) ?_
    refine k_X8_numberAt hC hN hK hT.1 hT.D' hm wq_1660 (by decide) hl.1 (Nat.le_of_ble_eq_true rfl) ⟨Nat.le_refl _, Nat.le_refl _⟩ dX8_numberOf_132 (fun r_132 hm => ?_)
    refine sMP_draught hC hK hT hm.1 dX8_numberOf_135 (fun P_135 eP_135 H locs hT => ?_)
    have hm := hm.2 P_135 eP_135
    refine lv_aload_n hx hb dX8_numberOf_136 rfl (lv_at hl 1 rfl) ?_
    refine lv_iload_n hx hb dX8_numberOf_137 rfl (lv_at hl 2 rfl) ?_
    refine lv_iconst (v := 1) hx hb dX8_numberOf_138 (by decide) ?_
    refine lv_bipush (v := 30) hx hb dX8_numberOf_139 (by decide) ?_
    refine k_X8_inRange hC hN hK hT.1 hT.D' hm wq_1708 (by decide) hl.1 (Nat.le_of_ble_eq_true rfl) ⟨Nat.le_refl _, Nat.le_refl _⟩ dX8_numberOf_141 (fun r_141 hm => ?_)
    exact hret 144 _ _ _ _ (N, P_135) hm hT rfl dX8_numberOf_144
  have hm := hm.2
  by_cases s11_4 : (N 227 x1.toInt.toNat) = 11
  · have hm := hm.1 s11_4
    refine w_swi (off := 134) (tgt := 145) 11 hx hb dX8_numberOf_11 s11_4 (by decide) (by decide) (by decide) (by decide) ?_
    refine lv_aload_n hx hb dX8_numberOf_145 rfl (lv_at hl 0 rfl) ?_
    refine gNMP_plan_10 hC hN hK hT.1 wn_1255 dX8_numberOf_146 ?_
    refine lv_aload_n hx hb dX8_numberOf_149 rfl (lv_at hl 0 rfl) ?_
    refine gNMP_plan_9 hC hN hK hT.1 wn_1251 dX8_numberOf_150 ?_
    refine lv_iconst (v := 1) hx hb dX8_numberOf_153 (by decide) ?_
    refine lv_isub hx hb dX8_numberOf_154 ?_
    refine lv_aload_n hx hb dX8_numberOf_155 rfl (lv_at hl 1 rfl) ?_
    refine lv_iload_n hx hb dX8_numberOf_156 rfl (lv_at hl 2 rfl) ?_
    refine k_X8_numberAt hC hN hK hT.1 hT.D' hm wq_1660 (by decide) hl.1 (Nat.le_of_ble_eq_true rfl) ⟨Nat.le_refl _, Nat.le_refl _⟩ dX8_numberOf_157 (fun r_157 hm => ?_)
    refine sMP_strength hC hK hT hm.1 dX8_numberOf_160 (fun P_160 eP_160 H locs hT => ?_)
    have hm := hm.2 P_160 eP_160
    refine lv_aload_n hx hb dX8_numberOf_161 rfl (lv_at hl 1 rfl) ?_
    refine lv_iload_n hx hb dX8_numberOf_162 rfl (lv_at hl 2 rfl) ?_
    refine lv_iconst (v := 1) hx hb dX8_numberOf_163 (by decide) ?_
    refine lv_bipush (v := 9) hx hb dX8_numberOf_164 (by decide) ?_
    refine k_X8_inRange hC hN hK hT.1 hT.D' hm wq_1708 (by decide) hl.1 (Nat.le_of_ble_eq_true rfl) ⟨Nat.le_refl _, Nat.le_refl _⟩ dX8_numberOf_166 (fun r_166 hm => ?_)
    exact hret 169 _ _ _ _ (N, P_160) hm hT rfl dX8_numberOf_169
  have hm := hm.2
  by_cases s11_5 : (N 227 x1.toInt.toNat) = 12
  · have hm := hm.1 s11_5
    refine w_swi (off := 159) (tgt := 170) 12 hx hb dX8_numberOf_11 s11_5 (by decide) (by decide) (by decide) (by decide) ?_
    refine lv_aload_n hx hb dX8_numberOf_170 rfl (lv_at hl 0 rfl) ?_
    refine gNMP_plan_11 hC hN hK hT.1 wn_1258 dX8_numberOf_171 ?_
    refine lv_aload_n hx hb dX8_numberOf_174 rfl (lv_at hl 0 rfl) ?_
    refine gNMP_plan_9 hC hN hK hT.1 wn_1251 dX8_numberOf_175 ?_
    refine lv_iconst (v := 1) hx hb dX8_numberOf_178 (by decide) ?_
    refine lv_isub hx hb dX8_numberOf_179 ?_
    refine lv_aload_n hx hb dX8_numberOf_180 rfl (lv_at hl 1 rfl) ?_
    refine lv_iload_n hx hb dX8_numberOf_181 rfl (lv_at hl 2 rfl) ?_
    refine k_X8_numberAt hC hN hK hT.1 hT.D' hm wq_1660 (by decide) hl.1 (Nat.le_of_ble_eq_true rfl) ⟨Nat.le_refl _, Nat.le_refl _⟩ dX8_numberOf_182 (fun r_182 hm => ?_)
    refine sMP_lungs hC hK hT hm.1 dX8_numberOf_185 (fun P_185 eP_185 H locs hT => ?_)
    have hm := hm.2 P_185 eP_185
    refine lv_aload_n hx hb dX8_numberOf_186 rfl (lv_at hl 1 rfl) ?_
    refine lv_iload_n hx hb dX8_numberOf_187 rfl (lv_at hl 2 rfl) ?_
    refine lv_iconst (v := 1) hx hb dX8_numberOf_188 (by decide) ?_
    refine lv_bipush (v := 9) hx hb dX8_numberOf_189 (by decide) ?_
    refine k_X8_inRange hC hN hK hT.1 hT.D' hm wq_1708 (by decide) hl.1 (Nat.le_of_ble_eq_true rfl) ⟨Nat.le_refl _, Nat.le_refl _⟩ dX8_numberOf_191 (fun r_191 hm => ?_)
    exact hret 194 _ _ _ _ (N, P_185) hm hT rfl dX8_numberOf_194
  have hm := hm.2
  by_cases s11_6 : (N 227 x1.toInt.toNat) = 13
  · have hm := hm.1 s11_6
    refine w_swi (off := 184) (tgt := 195) 13 hx hb dX8_numberOf_11 s11_6 (by decide) (by decide) (by decide) (by decide) ?_
    refine lv_aload_n hx hb dX8_numberOf_195 rfl (lv_at hl 0 rfl) ?_
    refine gNMP_plan_13 hC hN hK hT.1 wn_1263 dX8_numberOf_196 ?_
    refine lv_aload_n hx hb dX8_numberOf_199 rfl (lv_at hl 0 rfl) ?_
    refine gNMP_plan_12 hC hN hK hT.1 wn_1260 dX8_numberOf_200 ?_
    refine lv_iconst (v := 1) hx hb dX8_numberOf_203 (by decide) ?_
    refine lv_isub hx hb dX8_numberOf_204 ?_
    refine lv_aload_n hx hb dX8_numberOf_205 rfl (lv_at hl 1 rfl) ?_
    refine lv_iload_n hx hb dX8_numberOf_206 rfl (lv_at hl 2 rfl) ?_
    refine k_X8_numberAt hC hN hK hT.1 hT.D' hm wq_1660 (by decide) hl.1 (Nat.le_of_ble_eq_true rfl) ⟨Nat.le_refl _, Nat.le_refl _⟩ dX8_numberOf_207 (fun r_207 hm => ?_)
    refine sMP_weight hC hK hT hm.1 dX8_numberOf_210 (fun P_210 eP_210 H locs hT => ?_)
    have hm := hm.2 P_210 eP_210
    refine lv_aload_n hx hb dX8_numberOf_211 rfl (lv_at hl 1 rfl) ?_
    refine lv_iload_n hx hb dX8_numberOf_212 rfl (lv_at hl 2 rfl) ?_
    refine lv_iconst (v := 1) hx hb dX8_numberOf_213 (by decide) ?_
    refine lv_bipush (v := 60) hx hb dX8_numberOf_214 (by decide) ?_
    refine k_X8_inRange hC hN hK hT.1 hT.D' hm wq_1708 (by decide) hl.1 (Nat.le_of_ble_eq_true rfl) ⟨Nat.le_refl _, Nat.le_refl _⟩ dX8_numberOf_216 (fun r_216 hm => ?_)
    exact hret 219 _ _ _ _ (N, P_210) hm hT rfl dX8_numberOf_219
  have hm := hm.2
  by_cases s11_7 : (N 227 x1.toInt.toNat) = 15
  · have hm := hm.1 s11_7
    refine w_swi (off := 209) (tgt := 220) 15 hx hb dX8_numberOf_11 s11_7 (by decide) (by decide) (by decide) (by decide) ?_
    refine lv_aload_n hx hb dX8_numberOf_220 rfl (lv_at hl 0 rfl) ?_
    refine gNMP_plan_15 hC hN hK hT.1 wn_1269 dX8_numberOf_221 ?_
    refine lv_aload_n hx hb dX8_numberOf_224 rfl (lv_at hl 0 rfl) ?_
    refine gNMP_plan_12 hC hN hK hT.1 wn_1260 dX8_numberOf_225 ?_
    refine lv_iconst (v := 1) hx hb dX8_numberOf_228 (by decide) ?_
    refine lv_isub hx hb dX8_numberOf_229 ?_
    refine lv_aload_n hx hb dX8_numberOf_230 rfl (lv_at hl 1 rfl) ?_
    refine lv_iload_n hx hb dX8_numberOf_231 rfl (lv_at hl 2 rfl) ?_
    refine k_X8_numberAt hC hN hK hT.1 hT.D' hm wq_1660 (by decide) hl.1 (Nat.le_of_ble_eq_true rfl) ⟨Nat.le_refl _, Nat.le_refl _⟩ dX8_numberOf_232 (fun r_232 hm => ?_)
    refine sMP_pdue hC hK hT hm.1 dX8_numberOf_235 (fun P_235 eP_235 H locs hT => ?_)
    have hm := hm.2 P_235 eP_235
    refine lv_aload_n hx hb dX8_numberOf_236 rfl (lv_at hl 1 rfl) ?_
    refine lv_iload_n hx hb dX8_numberOf_237 rfl (lv_at hl 2 rfl) ?_
    refine lv_iconst (v := 0) hx hb dX8_numberOf_238 (by decide) ?_
    refine lv_sipush (v := 999) hx hb dX8_numberOf_239 (by decide) ?_
    refine k_X8_inRange hC hN hK hT.1 hT.D' hm wq_1708 (by decide) hl.1 (Nat.le_of_ble_eq_true rfl) ⟨Nat.le_refl _, Nat.le_refl _⟩ dX8_numberOf_242 (fun r_242 hm => ?_)
    exact hret 245 _ _ _ _ (N, P_235) hm hT rfl dX8_numberOf_245
  have hm := hm.2
  have hm := hm s11_0 s11_1 s11_2 s11_3 s11_4 s11_5 s11_6 s11_7
  refine w_swd (tgt := 246) [7, 8, 9, 10, 11, 12, 13, 15] hx hb dX8_numberOf_11 (by decide) (by decide) (fun k hk => ?_) (by decide) ?_
  · simp only [List.mem_cons, List.not_mem_nil, or_false] at hk
    rcases hk with rfl | rfl | rfl | rfl | rfl | rfl | rfl | rfl
    · exact eq_toInt s11_0
    · exact eq_toInt s11_1
    · exact eq_toInt s11_2
    · exact eq_toInt s11_3
    · exact eq_toInt s11_4
    · exact eq_toInt s11_5
    · exact eq_toInt s11_6
    · exact eq_toInt s11_7
  · refine lv_iconst (v := 0) hx hb dX8_numberOf_246 (by decide) ?_
    exact hret 247 _ _ _ _ (N, P) hm hT rfl dX8_numberOf_247
section KX8_numberOf
variable {p : Program} {l : Launch} {e : Env} {s : State} {m : MethodId} {args : Array Value} {below : List Frame} {meth : Method} {c : Code} {H H0 : Heap} {locs : List Loc} {cells slots : Nat} {Q : State → Prop} {R : Room} {rn mcR msR : Nat}
variable {pc : Nat} {ls : Array Slot} {rest : List Value} {A : Nat → Prop} {D : va_G}
variable {cc : ByteArray} {nL index : Nat} {own host : String}
theorem k_X8_numberOf {Z : Nat → ClassId} {q g : Nat → Nat} {pl sa aa : Nat} {N : M2} {P : M2} {x1 : Int32} {K : Int32 → M2 → M2 → Prop} (hC : CallFix p m c cc nL s args lw_g own) (hN : NW s) (hK : va_K D vwCl (tysG Z) s) (hT : TS vwCl D (MP Z q g pl sa aa N P) A H0 H locs) (hm : wp_X8_numberOf N P x1 K) (hl : Cond.methodLink own index yX8_numberOf ∈ lw_g) (hlt : 4 < rn) (hsize : ls.size = nL) (hW : (rest.map fun v => v.category).sum ≤ 8) (hf : cells + 0 ≤ mcR ∧ slots + 0 ≤ msR) (hdg : decode cc pc = .ok (.invokevirtual index, 3)) (kk : ∀ (r : Int32) (N1 : M2) (P1 : M2) (H1 : Heap) (locs1 : List Loc), K r N1 P1 → TS vwCl D (MP Z q g pl sa aa N1 P1) A H0 H1 locs1 → W p l e (rk rn mcR msR) s m args below meth c H1 locs1 cells slots Q (F0 m (pc + 3) ls (.int r :: rest))) : W p l e (rk rn mcR msR) s m args below meth c H locs cells slots Q (F0 m pc ls (.int x1 :: .ref (g 220) :: rest)) :=
  rw_go (wsF := (fun u : M2 × M2 => MP Z q g pl sa aa u.1 u.2)) (u0 := (N, P)) (wr := []) (isC := cutMP) (isR := []) (pm := cutMP) (ws' := (fun u : M2 × M2 => MP Z q g pl sa aa u.1 u.2)) (runV (As := [.int x1]) hC hN (c_X8_numberOf l D Z q g pl sa aa N P H.size x1 K hm) mi_X8_numberOf hl wq_1702 wq_99 hlt hT.1 hT.D' hK (q0 := 0) rfl rfl rfl hsize rfl hW hdg hf) (cutOkMP Z q g pl sa aa N P) hT (fun r u H1 locs1 hk hT1 => kk r u.1 u.2 H1 locs1 hk hT1)
end KX8_numberOf
def wp_X8_errorOf (N : M2) (P : M2) (x1 : Int32) (K : Int32 → M2 → M2 → Prop) : Prop := (inb x1 401 ∧ (((N 227 x1.toInt.toNat) = 1 → wp_X8_isNew N P x1 (P 240 0) 5 (fun r_119 => ((¬ r_119 = 0 → (∀ P_138 : M2, P_138 = up2 P 240 (fun _ => (P 240 0) + 0) → K r_119 N P_138)) ∧ (r_119 = 0 → (∀ P_138 : M2, P_138 = up2 P 240 (fun _ => (P 240 0) + 1) → K r_119 N P_138))))) ∧ ((N 227 x1.toInt.toNat) = 2 → wp_X8_isNew N P x1 (P 246 0) 4 (fun r_150 => ((¬ r_150 = 0 → (∀ P_169 : M2, P_169 = up2 P 246 (fun _ => (P 246 0) + 0) → K r_150 N P_169)) ∧ (r_150 = 0 → (∀ P_169 : M2, P_169 = up2 P 246 (fun _ => (P 246 0) + 1) → K r_150 N P_169))))) ∧ ((N 227 x1.toInt.toNat) = 3 → wp_X8_isNew N P x1 (P 249 0) 6 (fun r_182 => ((¬ r_182 = 0 → (∀ P_201 : M2, P_201 = up2 P 249 (fun _ => (P 249 0) + 0) → K r_182 N P_201)) ∧ (r_182 = 0 → (∀ P_201 : M2, P_201 = up2 P 249 (fun _ => (P 249 0) + 1) → K r_182 N P_201))))) ∧ ((N 227 x1.toInt.toNat) = 4 → wp_X8_isNew N P x1 (P 252 0) 8 (fun r_214 => ((¬ r_214 = 0 → (∀ P_233 : M2, P_233 = up2 P 252 (fun _ => (P 252 0) + 0) → K r_214 N P_233)) ∧ (r_214 = 0 → (∀ P_233 : M2, P_233 = up2 P 252 (fun _ => (P 252 0) + 1) → K r_214 N P_233))))) ∧ ((N 227 x1.toInt.toNat) = 5 → wp_X8_order N P 17 (fun r_241 N_241 P_241 => K r_241 N_241 P_241)) ∧ ((N 227 x1.toInt.toNat) = 6 → wp_X8_order N P 18 (fun r_248 N_248 P_248 => K r_248 N_248 P_248)) ∧ ((N 227 x1.toInt.toNat) = 14 → wp_X8_endOf N P x1 (fun r_279 => (inb ((P 252 0) - 1) 8 ∧ ∀ P_282 : M2, P_282 = up2 P 254 (upd (P 254) ((P 252 0) - 1).toInt.toNat r_279) → K 0 N P_282))) ∧ ((N 227 x1.toInt.toNat) = 16 → (inb x1 401 ∧ wp_X8_crewed N P x1 ((N 227 x1.toInt.toNat) - 16) (fun r_263 N_263 P_263 => K r_263 N_263 P_263))) ∧ ((N 227 x1.toInt.toNat) = 17 → (inb x1 401 ∧ wp_X8_crewed N P x1 ((N 227 x1.toInt.toNat) - 16) (fun r_263 N_263 P_263 => K r_263 N_263 P_263))) ∧ ((N 227 x1.toInt.toNat) = 18 → wp_X8_endOf N P x1 (fun r_297 => (inb ((P 257 0) - 1) 16 ∧ ∀ P_300 : M2, P_300 = up2 P 260 (upd (P 260) ((P 257 0) - 1).toInt.toNat r_297) → K 0 N P_300))) ∧ ((N 227 x1.toInt.toNat) = 19 → wp_X8_look N P x1 3 (fun r_306 N_306 P_306 => (inb x1 401 ∧ (inb ((P_306 257 0) - 1) 16 ∧ ∀ P_326 : M2, P_326 = up2 P_306 260 (upd (P_306 260) ((P_306 257 0) - 1).toInt.toNat (N_306 228 x1.toInt.toNat)) → K r_306 N_306 P_326)))) ∧ ((N 227 x1.toInt.toNat) = 20 → wp_X8_look N P x1 3 (fun r_332 N_332 P_332 => K r_332 N_332 P_332)) ∧ ((N 227 x1.toInt.toNat) = 21 → wp_X8_look N P x1 4 (fun r_339 N_339 P_339 => K r_339 N_339 P_339)) ∧ (¬ (N 227 x1.toInt.toNat) = 1 → ¬ (N 227 x1.toInt.toNat) = 2 → ¬ (N 227 x1.toInt.toNat) = 3 → ¬ (N 227 x1.toInt.toNat) = 4 → ¬ (N 227 x1.toInt.toNat) = 5 → ¬ (N 227 x1.toInt.toNat) = 6 → ¬ (N 227 x1.toInt.toNat) = 14 → ¬ (N 227 x1.toInt.toNat) = 16 → ¬ (N 227 x1.toInt.toNat) = 17 → ¬ (N 227 x1.toInt.toNat) = 18 → ¬ (N 227 x1.toInt.toNat) = 19 → ¬ (N 227 x1.toInt.toNat) = 20 → ¬ (N 227 x1.toInt.toNat) = 21 → wp_X8_numberOf N P x1 (fun r_345 N_345 P_345 => K r_345 N_345 P_345))))
set_option maxRecDepth 100000 in
set_option maxHeartbeats 4000000 in
theorem c_X8_errorOf (l : Launch) (D : va_G) (Z : Nat → ClassId) (q g : Nat → Nat) (pl sa aa : Nat) (N : M2) (P : M2) (sz : Nat) (x1 : Int32) (K : Int32 → M2 → M2 → Prop) (hm : wp_X8_errorOf N P x1 K) : Met l yX8_errorOf (wy yX8_errorOf cX8_errorOf 4 (some .int)) (rk 5 0 0) (pre vwCl D Z (MP Z q g pl sa aa N P) sz [.ref (g 220), .int x1]) (poI vwCl D Z (fun u : M2 × M2 => MP Z q g pl sa aa u.1 u.2) (N, P) sz (fun (r : Int32) (u : M2 × M2) => K r u.1 u.2)) 0 0 (va_A (MP Z q g pl sa aa N P) sz) := by
  refine rw_of (ty := .int) (wsF := (fun u : M2 × M2 => MP Z q g pl sa aa u.1 u.2)) (u0 := (N, P)) (by decide +kernel) (Nat.le_of_ble_eq_true rfl) rfl ?_
  intro p e s m args below meth c Q A hC hN hsz hT hK hret ls hl
  have hx := hC.1
  have hb := hC.2.1
  have hl : lv_has ls 4 [(0, .ref (g 220)), (1, .int x1)] := hl
  have hT : TS vwCl D (MP Z q g pl sa aa N P) A s.heap s.heap [] := hT
  refine lv_aload_n hx hb dX8_errorOf_0 rfl (lv_at hl 0 rfl) ?_
  refine gMP_mod_12 hC hK hT.1 wq_1432 dX8_errorOf_1 ?_
  refine lv_astore_n (lv' := [(2, .ref (q 240)), (0, .ref (g 220)), (1, .int x1)]) hx hb dX8_errorOf_4 rfl hl (by decide) rfl (fun ls hl => ?_)
  refine lv_iconst (v := 0) hx hb dX8_errorOf_5 (by decide) ?_
  refine lv_istore_n (lv' := [(3, .int 0), (2, .ref (q 240)), (0, .ref (g 220)), (1, .int x1)]) hx hb dX8_errorOf_6 rfl hl (by decide) rfl (fun ls hl => ?_)
  refine lv_aload_n hx hb dX8_errorOf_7 rfl (lv_at hl 2 rfl) ?_
  refine gMP_mod_7 hC hK hT.1 wq_1426 dX8_errorOf_8 ?_
  refine lv_iload_n hx hb dX8_errorOf_11 rfl (lv_at hl 3 rfl) ?_
  refine w_iald (q0 := 5) hC hK hT.1 rfl hm.1 dX8_errorOf_12 ?_
  have hm := hm.2
  by_cases s13_0 : (N 227 x1.toInt.toNat) = 1
  · have hm := hm.1 s13_0
    refine w_swi (off := 99) (tgt := 112) 1 hx hb dX8_errorOf_13 s13_0 (by decide) (by decide) (by decide) (by decide) ?_
    refine lv_aload_n hx hb dX8_errorOf_112 rfl (lv_at hl 2 rfl) ?_
    refine lv_iload_n hx hb dX8_errorOf_113 rfl (lv_at hl 3 rfl) ?_
    refine lv_aload_n hx hb dX8_errorOf_114 rfl (lv_at hl 1 rfl) ?_
    refine gNMP_plan_0 hC hN hK hT.1 wn_1230 dX8_errorOf_115 ?_
    refine lv_iconst (v := 5) hx hb dX8_errorOf_118 (by decide) ?_
    refine k_X8_isNew hC hN hK hT.1 hT.D' hm wq_1672 (by decide) hl.1 (Nat.le_of_ble_eq_true rfl) ⟨Nat.le_refl _, Nat.le_refl _⟩ dX8_errorOf_119 (fun r_119 hm => ?_)
    refine lv_istore_n (lv' := [(3, .int r_119), (2, .ref (q 240)), (0, .ref (g 220)), (1, .int x1)]) hx hb dX8_errorOf_122 rfl hl (by decide) rfl (fun ls hl => ?_)
    refine lv_aload_n hx hb dX8_errorOf_123 rfl (lv_at hl 1 rfl) ?_
    refine lv_dup hx hb dX8_errorOf_124 rfl ?_
    refine gNMP_plan_0 hC hN hK hT.1 wn_1230 dX8_errorOf_125 ?_
    refine lv_iload_n hx hb dX8_errorOf_128 rfl (lv_at hl 0 rfl) ?_
    refine lv_if_ne (tgt := 136) hx hb dX8_errorOf_129 (by decide) (fun c_129 => ?_) (fun c_129 => ?_)
    · have hm := hm.1 c_129
      refine lv_iconst (v := 0) hx hb dX8_errorOf_136 (by decide) ?_
      refine lv_iadd hx hb dX8_errorOf_137 ?_
      refine pNMP_plan_0 hC hN hK hT wn_1230 dX8_errorOf_138 (fun P_138 eP_138 H locs hT => ?_)
      have hm := hm P_138 eP_138
      refine lv_iload_n hx hb dX8_errorOf_141 rfl (lv_at hl 0 rfl) ?_
      exact hret 142 _ _ _ _ (N, P_138) hm hT rfl dX8_errorOf_142
    · have hm := hm.2 c_129
      refine lv_iconst (v := 1) hx hb dX8_errorOf_132 (by decide) ?_
      refine lv_goto (tgt := 137) hx hb dX8_errorOf_133 (by decide) ?_
      refine lv_iadd hx hb dX8_errorOf_137 ?_
      refine pNMP_plan_0 hC hN hK hT wn_1230 dX8_errorOf_138 (fun P_138 eP_138 H locs hT => ?_)
      have hm := hm P_138 eP_138
      refine lv_iload_n hx hb dX8_errorOf_141 rfl (lv_at hl 0 rfl) ?_
      exact hret 142 _ _ _ _ (N, P_138) hm hT rfl dX8_errorOf_142
  have hm := hm.2
  by_cases s13_1 : (N 227 x1.toInt.toNat) = 2
  · have hm := hm.1 s13_1
    refine w_swi (off := 130) (tgt := 143) 2 hx hb dX8_errorOf_13 s13_1 (by decide) (by decide) (by decide) (by decide) ?_
    refine lv_aload_n hx hb dX8_errorOf_143 rfl (lv_at hl 2 rfl) ?_
    refine lv_iload_n hx hb dX8_errorOf_144 rfl (lv_at hl 3 rfl) ?_
    refine lv_aload_n hx hb dX8_errorOf_145 rfl (lv_at hl 1 rfl) ?_
    refine gNMP_plan_6 hC hN hK hT.1 wn_1244 dX8_errorOf_146 ?_
    refine lv_iconst (v := 4) hx hb dX8_errorOf_149 (by decide) ?_
    refine k_X8_isNew hC hN hK hT.1 hT.D' hm wq_1672 (by decide) hl.1 (Nat.le_of_ble_eq_true rfl) ⟨Nat.le_refl _, Nat.le_refl _⟩ dX8_errorOf_150 (fun r_150 hm => ?_)
    refine lv_istore_n (lv' := [(3, .int r_150), (2, .ref (q 240)), (0, .ref (g 220)), (1, .int x1)]) hx hb dX8_errorOf_153 rfl hl (by decide) rfl (fun ls hl => ?_)
    refine lv_aload_n hx hb dX8_errorOf_154 rfl (lv_at hl 1 rfl) ?_
    refine lv_dup hx hb dX8_errorOf_155 rfl ?_
    refine gNMP_plan_6 hC hN hK hT.1 wn_1244 dX8_errorOf_156 ?_
    refine lv_iload_n hx hb dX8_errorOf_159 rfl (lv_at hl 0 rfl) ?_
    refine lv_if_ne (tgt := 167) hx hb dX8_errorOf_160 (by decide) (fun c_160 => ?_) (fun c_160 => ?_)
    · have hm := hm.1 c_160
      refine lv_iconst (v := 0) hx hb dX8_errorOf_167 (by decide) ?_
      refine lv_iadd hx hb dX8_errorOf_168 ?_
      refine pNMP_plan_6 hC hN hK hT wn_1244 dX8_errorOf_169 (fun P_169 eP_169 H locs hT => ?_)
      have hm := hm P_169 eP_169
      refine lv_iload_n hx hb dX8_errorOf_172 rfl (lv_at hl 0 rfl) ?_
      exact hret 173 _ _ _ _ (N, P_169) hm hT rfl dX8_errorOf_173
    · have hm := hm.2 c_160
      refine lv_iconst (v := 1) hx hb dX8_errorOf_163 (by decide) ?_
      refine lv_goto (tgt := 168) hx hb dX8_errorOf_164 (by decide) ?_
      refine lv_iadd hx hb dX8_errorOf_168 ?_
      refine pNMP_plan_6 hC hN hK hT wn_1244 dX8_errorOf_169 (fun P_169 eP_169 H locs hT => ?_)
      have hm := hm P_169 eP_169
      refine lv_iload_n hx hb dX8_errorOf_172 rfl (lv_at hl 0 rfl) ?_
      exact hret 173 _ _ _ _ (N, P_169) hm hT rfl dX8_errorOf_173
  have hm := hm.2
  by_cases s13_2 : (N 227 x1.toInt.toNat) = 3
  · have hm := hm.1 s13_2
    refine w_swi (off := 161) (tgt := 174) 3 hx hb dX8_errorOf_13 s13_2 (by decide) (by decide) (by decide) (by decide) ?_
    refine lv_aload_n hx hb dX8_errorOf_174 rfl (lv_at hl 2 rfl) ?_
    refine lv_iload_n hx hb dX8_errorOf_175 rfl (lv_at hl 3 rfl) ?_
    refine lv_aload_n hx hb dX8_errorOf_176 rfl (lv_at hl 1 rfl) ?_
    refine gNMP_plan_9 hC hN hK hT.1 wn_1251 dX8_errorOf_177 ?_
    refine lv_bipush (v := 6) hx hb dX8_errorOf_180 (by decide) ?_
    refine k_X8_isNew hC hN hK hT.1 hT.D' hm wq_1672 (by decide) hl.1 (Nat.le_of_ble_eq_true rfl) ⟨Nat.le_refl _, Nat.le_refl _⟩ dX8_errorOf_182 (fun r_182 hm => ?_)
    refine lv_istore_n (lv' := [(3, .int r_182), (2, .ref (q 240)), (0, .ref (g 220)), (1, .int x1)]) hx hb dX8_errorOf_185 rfl hl (by decide) rfl (fun ls hl => ?_)
    refine lv_aload_n hx hb dX8_errorOf_186 rfl (lv_at hl 1 rfl) ?_
    refine lv_dup hx hb dX8_errorOf_187 rfl ?_
    refine gNMP_plan_9 hC hN hK hT.1 wn_1251 dX8_errorOf_188 ?_
    refine lv_iload_n hx hb dX8_errorOf_191 rfl (lv_at hl 0 rfl) ?_
    refine lv_if_ne (tgt := 199) hx hb dX8_errorOf_192 (by decide) (fun c_192 => ?_) (fun c_192 => ?_)
    · have hm := hm.1 c_192
      refine lv_iconst (v := 0) hx hb dX8_errorOf_199 (by decide) ?_
      refine lv_iadd hx hb dX8_errorOf_200 ?_
      refine pNMP_plan_9 hC hN hK hT wn_1251 dX8_errorOf_201 (fun P_201 eP_201 H locs hT => ?_)
      have hm := hm P_201 eP_201
      refine lv_iload_n hx hb dX8_errorOf_204 rfl (lv_at hl 0 rfl) ?_
      exact hret 205 _ _ _ _ (N, P_201) hm hT rfl dX8_errorOf_205
    · have hm := hm.2 c_192
      refine lv_iconst (v := 1) hx hb dX8_errorOf_195 (by decide) ?_
      refine lv_goto (tgt := 200) hx hb dX8_errorOf_196 (by decide) ?_
      refine lv_iadd hx hb dX8_errorOf_200 ?_
      refine pNMP_plan_9 hC hN hK hT wn_1251 dX8_errorOf_201 (fun P_201 eP_201 H locs hT => ?_)
      have hm := hm P_201 eP_201
      refine lv_iload_n hx hb dX8_errorOf_204 rfl (lv_at hl 0 rfl) ?_
      exact hret 205 _ _ _ _ (N, P_201) hm hT rfl dX8_errorOf_205
  have hm := hm.2
  by_cases s13_3 : (N 227 x1.toInt.toNat) = 4
  · have hm := hm.1 s13_3
    refine w_swi (off := 193) (tgt := 206) 4 hx hb dX8_errorOf_13 s13_3 (by decide) (by decide) (by decide) (by decide) ?_
    refine lv_aload_n hx hb dX8_errorOf_206 rfl (lv_at hl 2 rfl) ?_
    refine lv_iload_n hx hb dX8_errorOf_207 rfl (lv_at hl 3 rfl) ?_
    refine lv_aload_n hx hb dX8_errorOf_208 rfl (lv_at hl 1 rfl) ?_
    refine gNMP_plan_12 hC hN hK hT.1 wn_1260 dX8_errorOf_209 ?_
    refine lv_bipush (v := 8) hx hb dX8_errorOf_212 (by decide) ?_
    refine k_X8_isNew hC hN hK hT.1 hT.D' hm wq_1672 (by decide) hl.1 (Nat.le_of_ble_eq_true rfl) ⟨Nat.le_refl _, Nat.le_refl _⟩ dX8_errorOf_214 (fun r_214 hm => ?_)
    refine lv_istore_n (lv' := [(3, .int r_214), (2, .ref (q 240)), (0, .ref (g 220)), (1, .int x1)]) hx hb dX8_errorOf_217 rfl hl (by decide) rfl (fun ls hl => ?_)
    refine lv_aload_n hx hb dX8_errorOf_218 rfl (lv_at hl 1 rfl) ?_
    refine lv_dup hx hb dX8_errorOf_219 rfl ?_
    refine gNMP_plan_12 hC hN hK hT.1 wn_1260 dX8_errorOf_220 ?_
    refine lv_iload_n hx hb dX8_errorOf_223 rfl (lv_at hl 0 rfl) ?_
    refine lv_if_ne (tgt := 231) hx hb dX8_errorOf_224 (by decide) (fun c_224 => ?_) (fun c_224 => ?_)
    · have hm := hm.1 c_224
      refine lv_iconst (v := 0) hx hb dX8_errorOf_231 (by decide) ?_
      refine lv_iadd hx hb dX8_errorOf_232 ?_
      refine pNMP_plan_12 hC hN hK hT wn_1260 dX8_errorOf_233 (fun P_233 eP_233 H locs hT => ?_)
      have hm := hm P_233 eP_233
      refine lv_iload_n hx hb dX8_errorOf_236 rfl (lv_at hl 0 rfl) ?_
      exact hret 237 _ _ _ _ (N, P_233) hm hT rfl dX8_errorOf_237
    · have hm := hm.2 c_224
      refine lv_iconst (v := 1) hx hb dX8_errorOf_227 (by decide) ?_
      refine lv_goto (tgt := 232) hx hb dX8_errorOf_228 (by decide) ?_
      refine lv_iadd hx hb dX8_errorOf_232 ?_
      refine pNMP_plan_12 hC hN hK hT wn_1260 dX8_errorOf_233 (fun P_233 eP_233 H locs hT => ?_)
      have hm := hm P_233 eP_233
      refine lv_iload_n hx hb dX8_errorOf_236 rfl (lv_at hl 0 rfl) ?_
      exact hret 237 _ _ _ _ (N, P_233) hm hT rfl dX8_errorOf_237
  have hm := hm.2
  by_cases s13_4 : (N 227 x1.toInt.toNat) = 5
  · have hm := hm.1 s13_4
    refine w_swi (off := 225) (tgt := 238) 5 hx hb dX8_errorOf_13 s13_4 (by decide) (by decide) (by decide) (by decide) ?_
    refine lv_aload_n hx hb dX8_errorOf_238 rfl (lv_at hl 2 rfl) ?_
    refine lv_bipush (v := 17) hx hb dX8_errorOf_239 (by decide) ?_
    refine k_X8_order hC hN hK hT hm wq_1684 (by decide) hl.1 (Nat.le_of_ble_eq_true rfl) ⟨Nat.le_refl _, Nat.le_refl _⟩ dX8_errorOf_241 (fun r_241 N_241 P_241 H locs hm hT => ?_)
    exact hret 244 _ _ _ _ (N_241, P_241) hm hT rfl dX8_errorOf_244
  have hm := hm.2
  by_cases s13_5 : (N 227 x1.toInt.toNat) = 6
  · have hm := hm.1 s13_5
    refine w_swi (off := 232) (tgt := 245) 6 hx hb dX8_errorOf_13 s13_5 (by decide) (by decide) (by decide) (by decide) ?_
    refine lv_aload_n hx hb dX8_errorOf_245 rfl (lv_at hl 2 rfl) ?_
    refine lv_bipush (v := 18) hx hb dX8_errorOf_246 (by decide) ?_
    refine k_X8_order hC hN hK hT hm wq_1684 (by decide) hl.1 (Nat.le_of_ble_eq_true rfl) ⟨Nat.le_refl _, Nat.le_refl _⟩ dX8_errorOf_248 (fun r_248 N_248 P_248 H locs hm hT => ?_)
    exact hret 251 _ _ _ _ (N_248, P_248) hm hT rfl dX8_errorOf_251
  have hm := hm.2
  by_cases s13_6 : (N 227 x1.toInt.toNat) = 14
  · have hm := hm.1 s13_6
    refine w_swi (off := 254) (tgt := 267) 14 hx hb dX8_errorOf_13 s13_6 (by decide) (by decide) (by decide) (by decide) ?_
    refine lv_aload_n hx hb dX8_errorOf_267 rfl (lv_at hl 1 rfl) ?_
    refine gNMP_plan_14 hC hN hK hT.1 wn_1266 dX8_errorOf_268 ?_
    refine lv_aload_n hx hb dX8_errorOf_271 rfl (lv_at hl 1 rfl) ?_
    refine gNMP_plan_12 hC hN hK hT.1 wn_1260 dX8_errorOf_272 ?_
    refine lv_iconst (v := 1) hx hb dX8_errorOf_275 (by decide) ?_
    refine lv_isub hx hb dX8_errorOf_276 ?_
    refine lv_aload_n hx hb dX8_errorOf_277 rfl (lv_at hl 2 rfl) ?_
    refine lv_iload_n hx hb dX8_errorOf_278 rfl (lv_at hl 3 rfl) ?_
    refine k_X8_endOf hC hN hK hT.1 hT.D' hm wq_1696 (by decide) hl.1 (Nat.le_of_ble_eq_true rfl) ⟨Nat.le_refl _, Nat.le_refl _⟩ dX8_errorOf_279 (fun r_279 hm => ?_)
    refine sMP_pend hC hK hT hm.1 dX8_errorOf_282 (fun P_282 eP_282 H locs hT => ?_)
    have hm := hm.2 P_282 eP_282
    refine lv_iconst (v := 0) hx hb dX8_errorOf_283 (by decide) ?_
    exact hret 284 _ _ _ _ (N, P_282) hm hT rfl dX8_errorOf_284
  have hm := hm.2
  by_cases s13_7 : (N 227 x1.toInt.toNat) = 16
  · have hm := hm.1 s13_7
    refine w_swi (off := 239) (tgt := 252) 16 hx hb dX8_errorOf_13 s13_7 (by decide) (by decide) (by decide) (by decide) ?_
    refine lv_aload_n hx hb dX8_errorOf_252 rfl (lv_at hl 2 rfl) ?_
    refine lv_iload_n hx hb dX8_errorOf_253 rfl (lv_at hl 3 rfl) ?_
    refine lv_aload_n hx hb dX8_errorOf_254 rfl (lv_at hl 2 rfl) ?_
    refine gMP_mod_7 hC hK hT.1 wq_1426 dX8_errorOf_255 ?_
    refine lv_iload_n hx hb dX8_errorOf_258 rfl (lv_at hl 3 rfl) ?_
    refine w_iald (q0 := 5) hC hK hT.1 rfl hm.1 dX8_errorOf_259 ?_
    have hm := hm.2
    refine lv_bipush (v := 16) hx hb dX8_errorOf_260 (by decide) ?_
    refine lv_isub hx hb dX8_errorOf_262 ?_
    refine k_X8_crewed hC hN hK hT hm wq_1688 (by decide) hl.1 (Nat.le_of_ble_eq_true rfl) ⟨Nat.le_refl _, Nat.le_refl _⟩ dX8_errorOf_263 (fun r_263 N_263 P_263 H locs hm hT => ?_)
    exact hret 266 _ _ _ _ (N_263, P_263) hm hT rfl dX8_errorOf_266
  have hm := hm.2
  by_cases s13_8 : (N 227 x1.toInt.toNat) = 17
  · have hm := hm.1 s13_8
    refine w_swi (off := 239) (tgt := 252) 17 hx hb dX8_errorOf_13 s13_8 (by decide) (by decide) (by decide) (by decide) ?_
    refine lv_aload_n hx hb dX8_errorOf_252 rfl (lv_at hl 2 rfl) ?_
    refine lv_iload_n hx hb dX8_errorOf_253 rfl (lv_at hl 3 rfl) ?_
    refine lv_aload_n hx hb dX8_errorOf_254 rfl (lv_at hl 2 rfl) ?_
    refine gMP_mod_7 hC hK hT.1 wq_1426 dX8_errorOf_255 ?_
    refine lv_iload_n hx hb dX8_errorOf_258 rfl (lv_at hl 3 rfl) ?_
    refine w_iald (q0 := 5) hC hK hT.1 rfl hm.1 dX8_errorOf_259 ?_
    have hm := hm.2
    refine lv_bipush (v := 16) hx hb dX8_errorOf_260 (by decide) ?_
    refine lv_isub hx hb dX8_errorOf_262 ?_
    refine k_X8_crewed hC hN hK hT hm wq_1688 (by decide) hl.1 (Nat.le_of_ble_eq_true rfl) ⟨Nat.le_refl _, Nat.le_refl _⟩ dX8_errorOf_263 (fun r_263 N_263 P_263 H locs hm hT => ?_)
    exact hret 266 _ _ _ _ (N_263, P_263) hm hT rfl dX8_errorOf_266
  have hm := hm.2
  by_cases s13_9 : (N 227 x1.toInt.toNat) = 18
  · have hm := hm.1 s13_9
    refine w_swi (off := 272) (tgt := 285) 18 hx hb dX8_errorOf_13 s13_9 (by decide) (by decide) (by decide) (by decide) ?_
    refine lv_aload_n hx hb dX8_errorOf_285 rfl (lv_at hl 1 rfl) ?_
    refine gNMP_plan_20 hC hN hK hT.1 wn_1281 dX8_errorOf_286 ?_
    refine lv_aload_n hx hb dX8_errorOf_289 rfl (lv_at hl 1 rfl) ?_
    refine gNMP_plan_17 hC hN hK hT.1 wn_1274 dX8_errorOf_290 ?_
    refine lv_iconst (v := 1) hx hb dX8_errorOf_293 (by decide) ?_
    refine lv_isub hx hb dX8_errorOf_294 ?_
    refine lv_aload_n hx hb dX8_errorOf_295 rfl (lv_at hl 2 rfl) ?_
    refine lv_iload_n hx hb dX8_errorOf_296 rfl (lv_at hl 3 rfl) ?_
    refine k_X8_endOf hC hN hK hT.1 hT.D' hm wq_1696 (by decide) hl.1 (Nat.le_of_ble_eq_true rfl) ⟨Nat.le_refl _, Nat.le_refl _⟩ dX8_errorOf_297 (fun r_297 hm => ?_)
    refine sMP_whose hC hK hT hm.1 dX8_errorOf_300 (fun P_300 eP_300 H locs hT => ?_)
    have hm := hm.2 P_300 eP_300
    refine lv_iconst (v := 0) hx hb dX8_errorOf_301 (by decide) ?_
    exact hret 302 _ _ _ _ (N, P_300) hm hT rfl dX8_errorOf_302
  have hm := hm.2
  by_cases s13_10 : (N 227 x1.toInt.toNat) = 19
  · have hm := hm.1 s13_10
    refine w_swi (off := 290) (tgt := 303) 19 hx hb dX8_errorOf_13 s13_10 (by decide) (by decide) (by decide) (by decide) ?_
    refine lv_aload_n hx hb dX8_errorOf_303 rfl (lv_at hl 2 rfl) ?_
    refine lv_iload_n hx hb dX8_errorOf_304 rfl (lv_at hl 3 rfl) ?_
    refine lv_iconst (v := 3) hx hb dX8_errorOf_305 (by decide) ?_
    refine k_X8_look hC hN hK hT hm wq_1692 (by decide) hl.1 (Nat.le_of_ble_eq_true rfl) ⟨Nat.le_refl _, Nat.le_refl _⟩ dX8_errorOf_306 (fun r_306 N_306 P_306 H locs hm hT => ?_)
    refine lv_istore_n (lv' := [(3, .int r_306), (2, .ref (q 240)), (0, .ref (g 220)), (1, .int x1)]) hx hb dX8_errorOf_309 rfl hl (by decide) rfl (fun ls hl => ?_)
    refine lv_aload_n hx hb dX8_errorOf_310 rfl (lv_at hl 1 rfl) ?_
    refine gNMP_plan_20 hC hN hK hT.1 wn_1281 dX8_errorOf_311 ?_
    refine lv_aload_n hx hb dX8_errorOf_314 rfl (lv_at hl 1 rfl) ?_
    refine gNMP_plan_17 hC hN hK hT.1 wn_1274 dX8_errorOf_315 ?_
    refine lv_iconst (v := 1) hx hb dX8_errorOf_318 (by decide) ?_
    refine lv_isub hx hb dX8_errorOf_319 ?_
    refine lv_aload_n hx hb dX8_errorOf_320 rfl (lv_at hl 2 rfl) ?_
    refine gMP_mod_8 hC hK hT.1 wq_1427 dX8_errorOf_321 ?_
    refine lv_iload_n hx hb dX8_errorOf_324 rfl (lv_at hl 3 rfl) ?_
    refine w_iald (q0 := 6) hC hK hT.1 rfl hm.1 dX8_errorOf_325 ?_
    have hm := hm.2
    refine sMP_whose hC hK hT hm.1 dX8_errorOf_326 (fun P_326 eP_326 H locs hT => ?_)
    have hm := hm.2 P_326 eP_326
    refine lv_iload_n hx hb dX8_errorOf_327 rfl (lv_at hl 0 rfl) ?_
    exact hret 328 _ _ _ _ (N_306, P_326) hm hT rfl dX8_errorOf_328
  have hm := hm.2
  by_cases s13_11 : (N 227 x1.toInt.toNat) = 20
  · have hm := hm.1 s13_11
    refine w_swi (off := 316) (tgt := 329) 20 hx hb dX8_errorOf_13 s13_11 (by decide) (by decide) (by decide) (by decide) ?_
    refine lv_aload_n hx hb dX8_errorOf_329 rfl (lv_at hl 2 rfl) ?_
    refine lv_iload_n hx hb dX8_errorOf_330 rfl (lv_at hl 3 rfl) ?_
    refine lv_iconst (v := 3) hx hb dX8_errorOf_331 (by decide) ?_
    refine k_X8_look hC hN hK hT hm wq_1692 (by decide) hl.1 (Nat.le_of_ble_eq_true rfl) ⟨Nat.le_refl _, Nat.le_refl _⟩ dX8_errorOf_332 (fun r_332 N_332 P_332 H locs hm hT => ?_)
    exact hret 335 _ _ _ _ (N_332, P_332) hm hT rfl dX8_errorOf_335
  have hm := hm.2
  by_cases s13_12 : (N 227 x1.toInt.toNat) = 21
  · have hm := hm.1 s13_12
    refine w_swi (off := 323) (tgt := 336) 21 hx hb dX8_errorOf_13 s13_12 (by decide) (by decide) (by decide) (by decide) ?_
    refine lv_aload_n hx hb dX8_errorOf_336 rfl (lv_at hl 2 rfl) ?_
    refine lv_iload_n hx hb dX8_errorOf_337 rfl (lv_at hl 3 rfl) ?_
    refine lv_iconst (v := 4) hx hb dX8_errorOf_338 (by decide) ?_
    refine k_X8_look hC hN hK hT hm wq_1692 (by decide) hl.1 (Nat.le_of_ble_eq_true rfl) ⟨Nat.le_refl _, Nat.le_refl _⟩ dX8_errorOf_339 (fun r_339 N_339 P_339 H locs hm hT => ?_)
    exact hret 342 _ _ _ _ (N_339, P_339) hm hT rfl dX8_errorOf_342
  have hm := hm.2
  have hm := hm s13_0 s13_1 s13_2 s13_3 s13_4 s13_5 s13_6 s13_7 s13_8 s13_9 s13_10 s13_11 s13_12
  refine w_swd (tgt := 343) [1, 2, 3, 4, 5, 6, 14, 16, 17, 18, 19, 20, 21] hx hb dX8_errorOf_13 (by decide) (by decide) (fun k hk => ?_) (by decide) ?_
  · simp only [List.mem_cons, List.not_mem_nil, or_false] at hk
    rcases hk with rfl | rfl | rfl | rfl | rfl | rfl | rfl | rfl | rfl | rfl | rfl | rfl | rfl
    · exact eq_toInt s13_0
    · exact eq_toInt s13_1
    · exact eq_toInt s13_2
    · exact eq_toInt s13_3
    · exact eq_toInt s13_4
    · exact eq_toInt s13_5
    · exact eq_toInt s13_6
    · exact eq_toInt s13_7
    · exact eq_toInt s13_8
    · exact eq_toInt s13_9
    · exact eq_toInt s13_10
    · exact eq_toInt s13_11
    · exact eq_toInt s13_12
  · refine lv_aload_n hx hb dX8_errorOf_343 rfl (lv_at hl 2 rfl) ?_
    refine lv_iload_n hx hb dX8_errorOf_344 rfl (lv_at hl 3 rfl) ?_
    refine k_X8_numberOf hC hN hK hT hm wq_1700 (by decide) hl.1 (Nat.le_of_ble_eq_true rfl) ⟨Nat.le_refl _, Nat.le_refl _⟩ dX8_errorOf_345 (fun r_345 N_345 P_345 H locs hm hT => ?_)
    exact hret 348 _ _ _ _ (N_345, P_345) hm hT rfl dX8_errorOf_348
section KX8_errorOf
variable {p : Program} {l : Launch} {e : Env} {s : State} {m : MethodId} {args : Array Value} {below : List Frame} {meth : Method} {c : Code} {H H0 : Heap} {locs : List Loc} {cells slots : Nat} {Q : State → Prop} {R : Room} {rn mcR msR : Nat}
variable {pc : Nat} {ls : Array Slot} {rest : List Value} {A : Nat → Prop} {D : va_G}
variable {cc : ByteArray} {nL index : Nat} {own host : String}
end KX8_errorOf
def wp_X8_isBoreLine (N : M2) (P : M2) (K : Int32 → M2 → M2 → Prop) : Prop := (∀ N_7 : M2, N_7 = up2 N 229 (fun _ => (N 229 0) + 1) → wp_X8_eatAs N_7 P 40 1 (fun r_14 N_14 P_14 => ((r_14 = 0 → K 0 N_14 P_14) ∧ (¬ r_14 = 0 → wp_X8_eat N_14 P_14 1 (fun r_22 N_22 P_22 => ((r_22 = 0 → K 0 N_22 P_22) ∧ (¬ r_22 = 0 → wp_X8_eatAs N_22 P_22 41 7 (fun r_33 N_33 P_33 => ((r_33 = 0 → K 0 N_33 P_33) ∧ (¬ r_33 = 0 → wp_X8_eat N_33 P_33 2 (fun r_41 N_41 P_41 => ((r_41 = 0 → K 0 N_41 P_41) ∧ (¬ r_41 = 0 → wp_X8_eatAs N_41 P_41 41 8 (fun r_52 N_52 P_52 => ((r_52 = 0 → K 0 N_52 P_52) ∧ (¬ r_52 = 0 → K 1 N_52 P_52))))))))))))))))
set_option maxRecDepth 100000 in
set_option maxHeartbeats 4000000 in
theorem c_X8_isBoreLine (l : Launch) (D : va_G) (Z : Nat → ClassId) (q g : Nat → Nat) (pl sa aa : Nat) (N : M2) (P : M2) (sz : Nat) (K : Int32 → M2 → M2 → Prop) (hm : wp_X8_isBoreLine N P K) : Met l yX8_isBoreLine (wy yX8_isBoreLine cX8_isBoreLine 1 (some .boolean)) (rk 4 0 0) (pre vwCl D Z (MP Z q g pl sa aa N P) sz [.ref (g 220)]) (poI vwCl D Z (fun u : M2 × M2 => MP Z q g pl sa aa u.1 u.2) (N, P) sz (fun (r : Int32) (u : M2 × M2) => K r u.1 u.2)) 0 0 (va_A (MP Z q g pl sa aa N P) sz) := by
  refine rw_of (ty := .boolean) (wsF := (fun u : M2 × M2 => MP Z q g pl sa aa u.1 u.2)) (u0 := (N, P)) (by decide +kernel) (Nat.le_of_ble_eq_true rfl) rfl ?_
  intro p e s m args below meth c Q A hC hN hsz hT hK hret ls hl
  have hx := hC.1
  have hb := hC.2.1
  have hl : lv_has ls 1 [(0, .ref (g 220))] := hl
  have hT : TS vwCl D (MP Z q g pl sa aa N P) A s.heap s.heap [] := hT
  refine lv_aload_n hx hb dX8_isBoreLine_0 rfl (lv_at hl 0 rfl) ?_
  refine lv_dup hx hb dX8_isBoreLine_1 rfl ?_
  refine gMP_mod_9 hC hK hT.1 wq_1428 dX8_isBoreLine_2 ?_
  refine lv_iconst (v := 1) hx hb dX8_isBoreLine_5 (by decide) ?_
  refine lv_iadd hx hb dX8_isBoreLine_6 ?_
  refine pMP_mod_9 hC hK hT wq_1428 dX8_isBoreLine_7 (fun N_7 eN_7 H locs hT => ?_)
  have hm := hm N_7 eN_7
  refine lv_aload_n hx hb dX8_isBoreLine_10 rfl (lv_at hl 0 rfl) ?_
  refine lv_bipush (v := 40) hx hb dX8_isBoreLine_11 (by decide) ?_
  refine lv_iconst (v := 1) hx hb dX8_isBoreLine_13 (by decide) ?_
  refine k_X8_eatAs hC hN hK hT hm wq_1587 (by decide) hl.1 (Nat.le_of_ble_eq_true rfl) ⟨Nat.le_refl _, Nat.le_refl _⟩ dX8_isBoreLine_14 (fun r_14 N_14 P_14 H locs hm hT => ?_)
  refine lv_if_eq (tgt := 62) hx hb dX8_isBoreLine_17 (by decide) (fun c_17 => ?_) (fun c_17 => ?_)
  · have hm := hm.1 c_17
    refine lv_iconst (v := 0) hx hb dX8_isBoreLine_62 (by decide) ?_
    exact hret 63 _ _ _ _ (N_14, P_14) hm hT rfl dX8_isBoreLine_63
  · have hm := hm.2 c_17
    refine lv_aload_n hx hb dX8_isBoreLine_20 rfl (lv_at hl 0 rfl) ?_
    refine lv_iconst (v := 1) hx hb dX8_isBoreLine_21 (by decide) ?_
    refine k_X8_eat hC hN hK hT hm wq_1591 (by decide) hl.1 (Nat.le_of_ble_eq_true rfl) ⟨Nat.le_refl _, Nat.le_refl _⟩ dX8_isBoreLine_22 (fun r_22 N_22 P_22 H locs hm hT => ?_)
    refine lv_if_eq (tgt := 62) hx hb dX8_isBoreLine_25 (by decide) (fun c_25 => ?_) (fun c_25 => ?_)
    · have hm := hm.1 c_25
      refine lv_iconst (v := 0) hx hb dX8_isBoreLine_62 (by decide) ?_
      exact hret 63 _ _ _ _ (N_22, P_22) hm hT rfl dX8_isBoreLine_63
    · have hm := hm.2 c_25
      refine lv_aload_n hx hb dX8_isBoreLine_28 rfl (lv_at hl 0 rfl) ?_
      refine lv_bipush (v := 41) hx hb dX8_isBoreLine_29 (by decide) ?_
      refine lv_bipush (v := 7) hx hb dX8_isBoreLine_31 (by decide) ?_
      refine k_X8_eatAs hC hN hK hT hm wq_1587 (by decide) hl.1 (Nat.le_of_ble_eq_true rfl) ⟨Nat.le_refl _, Nat.le_refl _⟩ dX8_isBoreLine_33 (fun r_33 N_33 P_33 H locs hm hT => ?_)
      refine lv_if_eq (tgt := 62) hx hb dX8_isBoreLine_36 (by decide) (fun c_36 => ?_) (fun c_36 => ?_)
      · have hm := hm.1 c_36
        refine lv_iconst (v := 0) hx hb dX8_isBoreLine_62 (by decide) ?_
        exact hret 63 _ _ _ _ (N_33, P_33) hm hT rfl dX8_isBoreLine_63
      · have hm := hm.2 c_36
        refine lv_aload_n hx hb dX8_isBoreLine_39 rfl (lv_at hl 0 rfl) ?_
        refine lv_iconst (v := 2) hx hb dX8_isBoreLine_40 (by decide) ?_
        refine k_X8_eat hC hN hK hT hm wq_1591 (by decide) hl.1 (Nat.le_of_ble_eq_true rfl) ⟨Nat.le_refl _, Nat.le_refl _⟩ dX8_isBoreLine_41 (fun r_41 N_41 P_41 H locs hm hT => ?_)
        refine lv_if_eq (tgt := 62) hx hb dX8_isBoreLine_44 (by decide) (fun c_44 => ?_) (fun c_44 => ?_)
        · have hm := hm.1 c_44
          refine lv_iconst (v := 0) hx hb dX8_isBoreLine_62 (by decide) ?_
          exact hret 63 _ _ _ _ (N_41, P_41) hm hT rfl dX8_isBoreLine_63
        · have hm := hm.2 c_44
          refine lv_aload_n hx hb dX8_isBoreLine_47 rfl (lv_at hl 0 rfl) ?_
          refine lv_bipush (v := 41) hx hb dX8_isBoreLine_48 (by decide) ?_
          refine lv_bipush (v := 8) hx hb dX8_isBoreLine_50 (by decide) ?_
          refine k_X8_eatAs hC hN hK hT hm wq_1587 (by decide) hl.1 (Nat.le_of_ble_eq_true rfl) ⟨Nat.le_refl _, Nat.le_refl _⟩ dX8_isBoreLine_52 (fun r_52 N_52 P_52 H locs hm hT => ?_)
          refine lv_if_eq (tgt := 62) hx hb dX8_isBoreLine_55 (by decide) (fun c_55 => ?_) (fun c_55 => ?_)
          · have hm := hm.1 c_55
            refine lv_iconst (v := 0) hx hb dX8_isBoreLine_62 (by decide) ?_
            exact hret 63 _ _ _ _ (N_52, P_52) hm hT rfl dX8_isBoreLine_63
          · have hm := hm.2 c_55
            refine lv_iconst (v := 1) hx hb dX8_isBoreLine_58 (by decide) ?_
            refine lv_goto (tgt := 63) hx hb dX8_isBoreLine_59 (by decide) ?_
            exact hret 63 _ _ _ _ (N_52, P_52) hm hT rfl dX8_isBoreLine_63
section KX8_isBoreLine
variable {p : Program} {l : Launch} {e : Env} {s : State} {m : MethodId} {args : Array Value} {below : List Frame} {meth : Method} {c : Code} {H H0 : Heap} {locs : List Loc} {cells slots : Nat} {Q : State → Prop} {R : Room} {rn mcR msR : Nat}
variable {pc : Nat} {ls : Array Slot} {rest : List Value} {A : Nat → Prop} {D : va_G}
variable {cc : ByteArray} {nL index : Nat} {own host : String}
theorem k_X8_isBoreLine {Z : Nat → ClassId} {q g : Nat → Nat} {pl sa aa : Nat} {N : M2} {P : M2} {K : Int32 → M2 → M2 → Prop} (hC : CallFix p m c cc nL s args lw_g own) (hN : NW s) (hK : va_K D vwCl (tysG Z) s) (hT : TS vwCl D (MP Z q g pl sa aa N P) A H0 H locs) (hm : wp_X8_isBoreLine N P K) (hl : Cond.methodLink own index yX8_isBoreLine ∈ lw_g) (hlt : 4 < rn) (hsize : ls.size = nL) (hW : (rest.map fun v => v.category).sum ≤ 8) (hf : cells + 0 ≤ mcR ∧ slots + 0 ≤ msR) (hdg : decode cc pc = .ok (.invokevirtual index, 3)) (kk : ∀ (r : Int32) (N1 : M2) (P1 : M2) (H1 : Heap) (locs1 : List Loc), K r N1 P1 → TS vwCl D (MP Z q g pl sa aa N1 P1) A H0 H1 locs1 → W p l e (rk rn mcR msR) s m args below meth c H1 locs1 cells slots Q (F0 m (pc + 3) ls (.int r :: rest))) : W p l e (rk rn mcR msR) s m args below meth c H locs cells slots Q (F0 m pc ls (.ref (g 220) :: rest)) :=
  rw_go (wsF := (fun u : M2 × M2 => MP Z q g pl sa aa u.1 u.2)) (u0 := (N, P)) (wr := []) (isC := cutMP) (isR := []) (pm := cutMP) (ws' := (fun u : M2 × M2 => MP Z q g pl sa aa u.1 u.2)) (runV (As := []) hC hN (c_X8_isBoreLine l D Z q g pl sa aa N P H.size K hm) mi_X8_isBoreLine hl wq_1585 wq_70 hlt hT.1 hT.D' hK (q0 := 0) rfl rfl rfl hsize rfl hW hdg hf) (cutOkMP Z q g pl sa aa N P) hT (fun r u H1 locs1 hk hT1 => kk r u.1 u.2 H1 locs1 hk hT1)
end KX8_isBoreLine
def wp_X8_isShaftLine (N : M2) (P : M2) (K : Int32 → M2 → M2 → Prop) : Prop := (∀ N_7 : M2, N_7 = up2 N 229 (fun _ => (N 229 0) + 1) → wp_X8_eatAs N_7 P 40 2 (fun r_14 N_14 P_14 => ((r_14 = 0 → K 0 N_14 P_14) ∧ (¬ r_14 = 0 → wp_X8_eat N_14 P_14 4 (fun r_22 N_22 P_22 => ((r_22 = 0 → K 0 N_22 P_22) ∧ (¬ r_22 = 0 → wp_X8_eatAs N_22 P_22 41 9 (fun r_33 N_33 P_33 => ((r_33 = 0 → K 0 N_33 P_33) ∧ (¬ r_33 = 0 → wp_X8_eat N_33 P_33 5 (fun r_41 N_41 P_41 => ((r_41 = 0 → K 0 N_41 P_41) ∧ (¬ r_41 = 0 → wp_X8_eatAs N_41 P_41 41 10 (fun r_52 N_52 P_52 => ((r_52 = 0 → K 0 N_52 P_52) ∧ (¬ r_52 = 0 → K 1 N_52 P_52))))))))))))))))
set_option maxRecDepth 100000 in
set_option maxHeartbeats 4000000 in
theorem c_X8_isShaftLine (l : Launch) (D : va_G) (Z : Nat → ClassId) (q g : Nat → Nat) (pl sa aa : Nat) (N : M2) (P : M2) (sz : Nat) (K : Int32 → M2 → M2 → Prop) (hm : wp_X8_isShaftLine N P K) : Met l yX8_isShaftLine (wy yX8_isShaftLine cX8_isShaftLine 1 (some .boolean)) (rk 4 0 0) (pre vwCl D Z (MP Z q g pl sa aa N P) sz [.ref (g 220)]) (poI vwCl D Z (fun u : M2 × M2 => MP Z q g pl sa aa u.1 u.2) (N, P) sz (fun (r : Int32) (u : M2 × M2) => K r u.1 u.2)) 0 0 (va_A (MP Z q g pl sa aa N P) sz) := by
  refine rw_of (ty := .boolean) (wsF := (fun u : M2 × M2 => MP Z q g pl sa aa u.1 u.2)) (u0 := (N, P)) (by decide +kernel) (Nat.le_of_ble_eq_true rfl) rfl ?_
  intro p e s m args below meth c Q A hC hN hsz hT hK hret ls hl
  have hx := hC.1
  have hb := hC.2.1
  have hl : lv_has ls 1 [(0, .ref (g 220))] := hl
  have hT : TS vwCl D (MP Z q g pl sa aa N P) A s.heap s.heap [] := hT
  refine lv_aload_n hx hb dX8_isShaftLine_0 rfl (lv_at hl 0 rfl) ?_
  refine lv_dup hx hb dX8_isShaftLine_1 rfl ?_
  refine gMP_mod_9 hC hK hT.1 wq_1428 dX8_isShaftLine_2 ?_
  refine lv_iconst (v := 1) hx hb dX8_isShaftLine_5 (by decide) ?_
  refine lv_iadd hx hb dX8_isShaftLine_6 ?_
  refine pMP_mod_9 hC hK hT wq_1428 dX8_isShaftLine_7 (fun N_7 eN_7 H locs hT => ?_)
  have hm := hm N_7 eN_7
  refine lv_aload_n hx hb dX8_isShaftLine_10 rfl (lv_at hl 0 rfl) ?_
  refine lv_bipush (v := 40) hx hb dX8_isShaftLine_11 (by decide) ?_
  refine lv_iconst (v := 2) hx hb dX8_isShaftLine_13 (by decide) ?_
  refine k_X8_eatAs hC hN hK hT hm wq_1587 (by decide) hl.1 (Nat.le_of_ble_eq_true rfl) ⟨Nat.le_refl _, Nat.le_refl _⟩ dX8_isShaftLine_14 (fun r_14 N_14 P_14 H locs hm hT => ?_)
  refine lv_if_eq (tgt := 62) hx hb dX8_isShaftLine_17 (by decide) (fun c_17 => ?_) (fun c_17 => ?_)
  · have hm := hm.1 c_17
    refine lv_iconst (v := 0) hx hb dX8_isShaftLine_62 (by decide) ?_
    exact hret 63 _ _ _ _ (N_14, P_14) hm hT rfl dX8_isShaftLine_63
  · have hm := hm.2 c_17
    refine lv_aload_n hx hb dX8_isShaftLine_20 rfl (lv_at hl 0 rfl) ?_
    refine lv_iconst (v := 4) hx hb dX8_isShaftLine_21 (by decide) ?_
    refine k_X8_eat hC hN hK hT hm wq_1591 (by decide) hl.1 (Nat.le_of_ble_eq_true rfl) ⟨Nat.le_refl _, Nat.le_refl _⟩ dX8_isShaftLine_22 (fun r_22 N_22 P_22 H locs hm hT => ?_)
    refine lv_if_eq (tgt := 62) hx hb dX8_isShaftLine_25 (by decide) (fun c_25 => ?_) (fun c_25 => ?_)
    · have hm := hm.1 c_25
      refine lv_iconst (v := 0) hx hb dX8_isShaftLine_62 (by decide) ?_
      exact hret 63 _ _ _ _ (N_22, P_22) hm hT rfl dX8_isShaftLine_63
    · have hm := hm.2 c_25
      refine lv_aload_n hx hb dX8_isShaftLine_28 rfl (lv_at hl 0 rfl) ?_
      refine lv_bipush (v := 41) hx hb dX8_isShaftLine_29 (by decide) ?_
      refine lv_bipush (v := 9) hx hb dX8_isShaftLine_31 (by decide) ?_
      refine k_X8_eatAs hC hN hK hT hm wq_1587 (by decide) hl.1 (Nat.le_of_ble_eq_true rfl) ⟨Nat.le_refl _, Nat.le_refl _⟩ dX8_isShaftLine_33 (fun r_33 N_33 P_33 H locs hm hT => ?_)
      refine lv_if_eq (tgt := 62) hx hb dX8_isShaftLine_36 (by decide) (fun c_36 => ?_) (fun c_36 => ?_)
      · have hm := hm.1 c_36
        refine lv_iconst (v := 0) hx hb dX8_isShaftLine_62 (by decide) ?_
        exact hret 63 _ _ _ _ (N_33, P_33) hm hT rfl dX8_isShaftLine_63
      · have hm := hm.2 c_36
        refine lv_aload_n hx hb dX8_isShaftLine_39 rfl (lv_at hl 0 rfl) ?_
        refine lv_iconst (v := 5) hx hb dX8_isShaftLine_40 (by decide) ?_
        refine k_X8_eat hC hN hK hT hm wq_1591 (by decide) hl.1 (Nat.le_of_ble_eq_true rfl) ⟨Nat.le_refl _, Nat.le_refl _⟩ dX8_isShaftLine_41 (fun r_41 N_41 P_41 H locs hm hT => ?_)
        refine lv_if_eq (tgt := 62) hx hb dX8_isShaftLine_44 (by decide) (fun c_44 => ?_) (fun c_44 => ?_)
        · have hm := hm.1 c_44
          refine lv_iconst (v := 0) hx hb dX8_isShaftLine_62 (by decide) ?_
          exact hret 63 _ _ _ _ (N_41, P_41) hm hT rfl dX8_isShaftLine_63
        · have hm := hm.2 c_44
          refine lv_aload_n hx hb dX8_isShaftLine_47 rfl (lv_at hl 0 rfl) ?_
          refine lv_bipush (v := 41) hx hb dX8_isShaftLine_48 (by decide) ?_
          refine lv_bipush (v := 10) hx hb dX8_isShaftLine_50 (by decide) ?_
          refine k_X8_eatAs hC hN hK hT hm wq_1587 (by decide) hl.1 (Nat.le_of_ble_eq_true rfl) ⟨Nat.le_refl _, Nat.le_refl _⟩ dX8_isShaftLine_52 (fun r_52 N_52 P_52 H locs hm hT => ?_)
          refine lv_if_eq (tgt := 62) hx hb dX8_isShaftLine_55 (by decide) (fun c_55 => ?_) (fun c_55 => ?_)
          · have hm := hm.1 c_55
            refine lv_iconst (v := 0) hx hb dX8_isShaftLine_62 (by decide) ?_
            exact hret 63 _ _ _ _ (N_52, P_52) hm hT rfl dX8_isShaftLine_63
          · have hm := hm.2 c_55
            refine lv_iconst (v := 1) hx hb dX8_isShaftLine_58 (by decide) ?_
            refine lv_goto (tgt := 63) hx hb dX8_isShaftLine_59 (by decide) ?_
            exact hret 63 _ _ _ _ (N_52, P_52) hm hT rfl dX8_isShaftLine_63
section KX8_isShaftLine
variable {p : Program} {l : Launch} {e : Env} {s : State} {m : MethodId} {args : Array Value} {below : List Frame} {meth : Method} {c : Code} {H H0 : Heap} {locs : List Loc} {cells slots : Nat} {Q : State → Prop} {R : Room} {rn mcR msR : Nat}
variable {pc : Nat} {ls : Array Slot} {rest : List Value} {A : Nat → Prop} {D : va_G}
variable {cc : ByteArray} {nL index : Nat} {own host : String}
theorem k_X8_isShaftLine {Z : Nat → ClassId} {q g : Nat → Nat} {pl sa aa : Nat} {N : M2} {P : M2} {K : Int32 → M2 → M2 → Prop} (hC : CallFix p m c cc nL s args lw_g own) (hN : NW s) (hK : va_K D vwCl (tysG Z) s) (hT : TS vwCl D (MP Z q g pl sa aa N P) A H0 H locs) (hm : wp_X8_isShaftLine N P K) (hl : Cond.methodLink own index yX8_isShaftLine ∈ lw_g) (hlt : 4 < rn) (hsize : ls.size = nL) (hW : (rest.map fun v => v.category).sum ≤ 8) (hf : cells + 0 ≤ mcR ∧ slots + 0 ≤ msR) (hdg : decode cc pc = .ok (.invokevirtual index, 3)) (kk : ∀ (r : Int32) (N1 : M2) (P1 : M2) (H1 : Heap) (locs1 : List Loc), K r N1 P1 → TS vwCl D (MP Z q g pl sa aa N1 P1) A H0 H1 locs1 → W p l e (rk rn mcR msR) s m args below meth c H1 locs1 cells slots Q (F0 m (pc + 3) ls (.int r :: rest))) : W p l e (rk rn mcR msR) s m args below meth c H locs cells slots Q (F0 m pc ls (.ref (g 220) :: rest)) :=
  rw_go (wsF := (fun u : M2 × M2 => MP Z q g pl sa aa u.1 u.2)) (u0 := (N, P)) (wr := []) (isC := cutMP) (isR := []) (pm := cutMP) (ws' := (fun u : M2 × M2 => MP Z q g pl sa aa u.1 u.2)) (runV (As := []) hC hN (c_X8_isShaftLine l D Z q g pl sa aa N P H.size K hm) mi_X8_isShaftLine hl wq_1597 wq_73 hlt hT.1 hT.D' hK (q0 := 0) rfl rfl rfl hsize rfl hW hdg hf) (cutOkMP Z q g pl sa aa N P) hT (fun r u H1 locs1 hk hT1 => kk r u.1 u.2 H1 locs1 hk hT1)
end KX8_isShaftLine
def wp_X8_isLeggerLine (N : M2) (P : M2) (K : Int32 → M2 → M2 → Prop) : Prop := (∀ N_7 : M2, N_7 = up2 N 229 (fun _ => (N 229 0) + 1) → wp_X8_eatAs N_7 P 40 3 (fun r_14 N_14 P_14 => ((r_14 = 0 → K 0 N_14 P_14) ∧ (¬ r_14 = 0 → wp_X8_eat N_14 P_14 7 (fun r_23 N_23 P_23 => ((r_23 = 0 → K 0 N_23 P_23) ∧ (¬ r_23 = 0 → wp_X8_eatAs N_23 P_23 41 11 (fun r_34 N_34 P_34 => ((r_34 = 0 → K 0 N_34 P_34) ∧ (¬ r_34 = 0 → wp_X8_eat N_34 P_34 8 (fun r_43 N_43 P_43 => ((r_43 = 0 → K 0 N_43 P_43) ∧ (¬ r_43 = 0 → wp_X8_eatAs N_43 P_43 41 12 (fun r_54 N_54 P_54 => ((r_54 = 0 → K 0 N_54 P_54) ∧ (¬ r_54 = 0 → K 1 N_54 P_54))))))))))))))))
set_option maxRecDepth 100000 in
set_option maxHeartbeats 4000000 in
theorem c_X8_isLeggerLine (l : Launch) (D : va_G) (Z : Nat → ClassId) (q g : Nat → Nat) (pl sa aa : Nat) (N : M2) (P : M2) (sz : Nat) (K : Int32 → M2 → M2 → Prop) (hm : wp_X8_isLeggerLine N P K) : Met l yX8_isLeggerLine (wy yX8_isLeggerLine cX8_isLeggerLine 1 (some .boolean)) (rk 4 0 0) (pre vwCl D Z (MP Z q g pl sa aa N P) sz [.ref (g 220)]) (poI vwCl D Z (fun u : M2 × M2 => MP Z q g pl sa aa u.1 u.2) (N, P) sz (fun (r : Int32) (u : M2 × M2) => K r u.1 u.2)) 0 0 (va_A (MP Z q g pl sa aa N P) sz) := by
  refine rw_of (ty := .boolean) (wsF := (fun u : M2 × M2 => MP Z q g pl sa aa u.1 u.2)) (u0 := (N, P)) (by decide +kernel) (Nat.le_of_ble_eq_true rfl) rfl ?_
  intro p e s m args below meth c Q A hC hN hsz hT hK hret ls hl
  have hx := hC.1
  have hb := hC.2.1
  have hl : lv_has ls 1 [(0, .ref (g 220))] := hl
  have hT : TS vwCl D (MP Z q g pl sa aa N P) A s.heap s.heap [] := hT
  refine lv_aload_n hx hb dX8_isLeggerLine_0 rfl (lv_at hl 0 rfl) ?_
  refine lv_dup hx hb dX8_isLeggerLine_1 rfl ?_
  refine gMP_mod_9 hC hK hT.1 wq_1428 dX8_isLeggerLine_2 ?_
  refine lv_iconst (v := 1) hx hb dX8_isLeggerLine_5 (by decide) ?_
  refine lv_iadd hx hb dX8_isLeggerLine_6 ?_
  refine pMP_mod_9 hC hK hT wq_1428 dX8_isLeggerLine_7 (fun N_7 eN_7 H locs hT => ?_)
  have hm := hm N_7 eN_7
  refine lv_aload_n hx hb dX8_isLeggerLine_10 rfl (lv_at hl 0 rfl) ?_
  refine lv_bipush (v := 40) hx hb dX8_isLeggerLine_11 (by decide) ?_
  refine lv_iconst (v := 3) hx hb dX8_isLeggerLine_13 (by decide) ?_
  refine k_X8_eatAs hC hN hK hT hm wq_1587 (by decide) hl.1 (Nat.le_of_ble_eq_true rfl) ⟨Nat.le_refl _, Nat.le_refl _⟩ dX8_isLeggerLine_14 (fun r_14 N_14 P_14 H locs hm hT => ?_)
  refine lv_if_eq (tgt := 64) hx hb dX8_isLeggerLine_17 (by decide) (fun c_17 => ?_) (fun c_17 => ?_)
  · have hm := hm.1 c_17
    refine lv_iconst (v := 0) hx hb dX8_isLeggerLine_64 (by decide) ?_
    exact hret 65 _ _ _ _ (N_14, P_14) hm hT rfl dX8_isLeggerLine_65
  · have hm := hm.2 c_17
    refine lv_aload_n hx hb dX8_isLeggerLine_20 rfl (lv_at hl 0 rfl) ?_
    refine lv_bipush (v := 7) hx hb dX8_isLeggerLine_21 (by decide) ?_
    refine k_X8_eat hC hN hK hT hm wq_1591 (by decide) hl.1 (Nat.le_of_ble_eq_true rfl) ⟨Nat.le_refl _, Nat.le_refl _⟩ dX8_isLeggerLine_23 (fun r_23 N_23 P_23 H locs hm hT => ?_)
    refine lv_if_eq (tgt := 64) hx hb dX8_isLeggerLine_26 (by decide) (fun c_26 => ?_) (fun c_26 => ?_)
    · have hm := hm.1 c_26
      refine lv_iconst (v := 0) hx hb dX8_isLeggerLine_64 (by decide) ?_
      exact hret 65 _ _ _ _ (N_23, P_23) hm hT rfl dX8_isLeggerLine_65
    · have hm := hm.2 c_26
      refine lv_aload_n hx hb dX8_isLeggerLine_29 rfl (lv_at hl 0 rfl) ?_
      refine lv_bipush (v := 41) hx hb dX8_isLeggerLine_30 (by decide) ?_
      refine lv_bipush (v := 11) hx hb dX8_isLeggerLine_32 (by decide) ?_
      refine k_X8_eatAs hC hN hK hT hm wq_1587 (by decide) hl.1 (Nat.le_of_ble_eq_true rfl) ⟨Nat.le_refl _, Nat.le_refl _⟩ dX8_isLeggerLine_34 (fun r_34 N_34 P_34 H locs hm hT => ?_)
      refine lv_if_eq (tgt := 64) hx hb dX8_isLeggerLine_37 (by decide) (fun c_37 => ?_) (fun c_37 => ?_)
      · have hm := hm.1 c_37
        refine lv_iconst (v := 0) hx hb dX8_isLeggerLine_64 (by decide) ?_
        exact hret 65 _ _ _ _ (N_34, P_34) hm hT rfl dX8_isLeggerLine_65
      · have hm := hm.2 c_37
        refine lv_aload_n hx hb dX8_isLeggerLine_40 rfl (lv_at hl 0 rfl) ?_
        refine lv_bipush (v := 8) hx hb dX8_isLeggerLine_41 (by decide) ?_
        refine k_X8_eat hC hN hK hT hm wq_1591 (by decide) hl.1 (Nat.le_of_ble_eq_true rfl) ⟨Nat.le_refl _, Nat.le_refl _⟩ dX8_isLeggerLine_43 (fun r_43 N_43 P_43 H locs hm hT => ?_)
        refine lv_if_eq (tgt := 64) hx hb dX8_isLeggerLine_46 (by decide) (fun c_46 => ?_) (fun c_46 => ?_)
        · have hm := hm.1 c_46
          refine lv_iconst (v := 0) hx hb dX8_isLeggerLine_64 (by decide) ?_
          exact hret 65 _ _ _ _ (N_43, P_43) hm hT rfl dX8_isLeggerLine_65
        · have hm := hm.2 c_46
          refine lv_aload_n hx hb dX8_isLeggerLine_49 rfl (lv_at hl 0 rfl) ?_
          refine lv_bipush (v := 41) hx hb dX8_isLeggerLine_50 (by decide) ?_
          refine lv_bipush (v := 12) hx hb dX8_isLeggerLine_52 (by decide) ?_
          refine k_X8_eatAs hC hN hK hT hm wq_1587 (by decide) hl.1 (Nat.le_of_ble_eq_true rfl) ⟨Nat.le_refl _, Nat.le_refl _⟩ dX8_isLeggerLine_54 (fun r_54 N_54 P_54 H locs hm hT => ?_)
          refine lv_if_eq (tgt := 64) hx hb dX8_isLeggerLine_57 (by decide) (fun c_57 => ?_) (fun c_57 => ?_)
          · have hm := hm.1 c_57
            refine lv_iconst (v := 0) hx hb dX8_isLeggerLine_64 (by decide) ?_
            exact hret 65 _ _ _ _ (N_54, P_54) hm hT rfl dX8_isLeggerLine_65
          · have hm := hm.2 c_57
            refine lv_iconst (v := 1) hx hb dX8_isLeggerLine_60 (by decide) ?_
            refine lv_goto (tgt := 65) hx hb dX8_isLeggerLine_61 (by decide) ?_
            exact hret 65 _ _ _ _ (N_54, P_54) hm hT rfl dX8_isLeggerLine_65
section KX8_isLeggerLine
variable {p : Program} {l : Launch} {e : Env} {s : State} {m : MethodId} {args : Array Value} {below : List Frame} {meth : Method} {c : Code} {H H0 : Heap} {locs : List Loc} {cells slots : Nat} {Q : State → Prop} {R : Room} {rn mcR msR : Nat}
variable {pc : Nat} {ls : Array Slot} {rest : List Value} {A : Nat → Prop} {D : va_G}
variable {cc : ByteArray} {nL index : Nat} {own host : String}
theorem k_X8_isLeggerLine {Z : Nat → ClassId} {q g : Nat → Nat} {pl sa aa : Nat} {N : M2} {P : M2} {K : Int32 → M2 → M2 → Prop} (hC : CallFix p m c cc nL s args lw_g own) (hN : NW s) (hK : va_K D vwCl (tysG Z) s) (hT : TS vwCl D (MP Z q g pl sa aa N P) A H0 H locs) (hm : wp_X8_isLeggerLine N P K) (hl : Cond.methodLink own index yX8_isLeggerLine ∈ lw_g) (hlt : 4 < rn) (hsize : ls.size = nL) (hW : (rest.map fun v => v.category).sum ≤ 8) (hf : cells + 0 ≤ mcR ∧ slots + 0 ≤ msR) (hdg : decode cc pc = .ok (.invokevirtual index, 3)) (kk : ∀ (r : Int32) (N1 : M2) (P1 : M2) (H1 : Heap) (locs1 : List Loc), K r N1 P1 → TS vwCl D (MP Z q g pl sa aa N1 P1) A H0 H1 locs1 → W p l e (rk rn mcR msR) s m args below meth c H1 locs1 cells slots Q (F0 m (pc + 3) ls (.int r :: rest))) : W p l e (rk rn mcR msR) s m args below meth c H locs cells slots Q (F0 m pc ls (.ref (g 220) :: rest)) :=
  rw_go (wsF := (fun u : M2 × M2 => MP Z q g pl sa aa u.1 u.2)) (u0 := (N, P)) (wr := []) (isC := cutMP) (isR := []) (pm := cutMP) (ws' := (fun u : M2 × M2 => MP Z q g pl sa aa u.1 u.2)) (runV (As := []) hC hN (c_X8_isLeggerLine l D Z q g pl sa aa N P H.size K hm) mi_X8_isLeggerLine hl wq_1601 wq_74 hlt hT.1 hT.D' hK (q0 := 0) rfl rfl rfl hsize rfl hW hdg hf) (cutOkMP Z q g pl sa aa N P) hT (fun r u H1 locs1 hk hT1 => kk r u.1 u.2 H1 locs1 hk hT1)
end KX8_isLeggerLine
def wp_X8_isBoatLine (N : M2) (P : M2) (K : Int32 → M2 → M2 → Prop) : Prop := (∀ N_7 : M2, N_7 = up2 N 229 (fun _ => (N 229 0) + 1) → wp_X8_eatAs N_7 P 40 4 (fun r_14 N_14 P_14 => ((r_14 = 0 → K 0 N_14 P_14) ∧ (¬ r_14 = 0 → wp_X8_eat N_14 P_14 10 (fun r_23 N_23 P_23 => ((r_23 = 0 → K 0 N_23 P_23) ∧ (¬ r_23 = 0 → wp_X8_eatAs N_23 P_23 41 13 (fun r_34 N_34 P_34 => ((r_34 = 0 → K 0 N_34 P_34) ∧ (¬ r_34 = 0 → wp_X8_eat N_34 P_34 11 (fun r_43 N_43 P_43 => ((r_43 = 0 → K 0 N_43 P_43) ∧ (¬ r_43 = 0 → wp_X8_isEnd N_43 P_43 14 (fun r_52 N_52 P_52 => ((r_52 = 0 → K 0 N_52 P_52) ∧ (¬ r_52 = 0 → wp_X8_eat N_52 P_52 14 (fun r_61 N_61 P_61 => ((r_61 = 0 → K 0 N_61 P_61) ∧ (¬ r_61 = 0 → wp_X8_eatAs N_61 P_61 41 15 (fun r_72 N_72 P_72 => ((r_72 = 0 → K 0 N_72 P_72) ∧ (¬ r_72 = 0 → wp_X8_eat N_72 P_72 15 (fun r_81 N_81 P_81 => ((r_81 = 0 → K 0 N_81 P_81) ∧ (¬ r_81 = 0 → wp_X8_eatAs N_81 P_81 40 16 (fun r_92 N_92 P_92 => ((r_92 = 0 → K 0 N_92 P_92) ∧ (¬ r_92 = 0 → wp_X8_eat N_92 P_92 16 (fun r_101 N_101 P_101 => ((r_101 = 0 → K 0 N_101 P_101) ∧ (¬ r_101 = 0 → wp_X8_eatAs N_101 P_101 40 17 (fun r_112 N_112 P_112 => ((r_112 = 0 → K 0 N_112 P_112) ∧ (¬ r_112 = 0 → K 1 N_112 P_112))))))))))))))))))))))))))))))))))
set_option maxRecDepth 100000 in
set_option maxHeartbeats 4000000 in
theorem c_X8_isBoatLine (l : Launch) (D : va_G) (Z : Nat → ClassId) (q g : Nat → Nat) (pl sa aa : Nat) (N : M2) (P : M2) (sz : Nat) (K : Int32 → M2 → M2 → Prop) (hm : wp_X8_isBoatLine N P K) : Met l yX8_isBoatLine (wy yX8_isBoatLine cX8_isBoatLine 1 (some .boolean)) (rk 4 0 0) (pre vwCl D Z (MP Z q g pl sa aa N P) sz [.ref (g 220)]) (poI vwCl D Z (fun u : M2 × M2 => MP Z q g pl sa aa u.1 u.2) (N, P) sz (fun (r : Int32) (u : M2 × M2) => K r u.1 u.2)) 0 0 (va_A (MP Z q g pl sa aa N P) sz) := by
  refine rw_of (ty := .boolean) (wsF := (fun u : M2 × M2 => MP Z q g pl sa aa u.1 u.2)) (u0 := (N, P)) (by decide +kernel) (Nat.le_of_ble_eq_true rfl) rfl ?_
  intro p e s m args below meth c Q A hC hN hsz hT hK hret ls hl
  have hx := hC.1
  have hb := hC.2.1
  have hl : lv_has ls 1 [(0, .ref (g 220))] := hl
  have hT : TS vwCl D (MP Z q g pl sa aa N P) A s.heap s.heap [] := hT
  refine lv_aload_n hx hb dX8_isBoatLine_0 rfl (lv_at hl 0 rfl) ?_
  refine lv_dup hx hb dX8_isBoatLine_1 rfl ?_
  refine gMP_mod_9 hC hK hT.1 wq_1428 dX8_isBoatLine_2 ?_
  refine lv_iconst (v := 1) hx hb dX8_isBoatLine_5 (by decide) ?_
  refine lv_iadd hx hb dX8_isBoatLine_6 ?_
  refine pMP_mod_9 hC hK hT wq_1428 dX8_isBoatLine_7 (fun N_7 eN_7 H locs hT => ?_)
  have hm := hm N_7 eN_7
  refine lv_aload_n hx hb dX8_isBoatLine_10 rfl (lv_at hl 0 rfl) ?_
  refine lv_bipush (v := 40) hx hb dX8_isBoatLine_11 (by decide) ?_
  refine lv_iconst (v := 4) hx hb dX8_isBoatLine_13 (by decide) ?_
  refine k_X8_eatAs hC hN hK hT hm wq_1587 (by decide) hl.1 (Nat.le_of_ble_eq_true rfl) ⟨Nat.le_refl _, Nat.le_refl _⟩ dX8_isBoatLine_14 (fun r_14 N_14 P_14 H locs hm hT => ?_)
  refine lv_if_eq (tgt := 122) hx hb dX8_isBoatLine_17 (by decide) (fun c_17 => ?_) (fun c_17 => ?_)
  · have hm := hm.1 c_17
    refine lv_iconst (v := 0) hx hb dX8_isBoatLine_122 (by decide) ?_
    exact hret 123 _ _ _ _ (N_14, P_14) hm hT rfl dX8_isBoatLine_123
  · have hm := hm.2 c_17
    refine lv_aload_n hx hb dX8_isBoatLine_20 rfl (lv_at hl 0 rfl) ?_
    refine lv_bipush (v := 10) hx hb dX8_isBoatLine_21 (by decide) ?_
    refine k_X8_eat hC hN hK hT hm wq_1591 (by decide) hl.1 (Nat.le_of_ble_eq_true rfl) ⟨Nat.le_refl _, Nat.le_refl _⟩ dX8_isBoatLine_23 (fun r_23 N_23 P_23 H locs hm hT => ?_)
    refine lv_if_eq (tgt := 122) hx hb dX8_isBoatLine_26 (by decide) (fun c_26 => ?_) (fun c_26 => ?_)
    · have hm := hm.1 c_26
      refine lv_iconst (v := 0) hx hb dX8_isBoatLine_122 (by decide) ?_
      exact hret 123 _ _ _ _ (N_23, P_23) hm hT rfl dX8_isBoatLine_123
    · have hm := hm.2 c_26
      refine lv_aload_n hx hb dX8_isBoatLine_29 rfl (lv_at hl 0 rfl) ?_
      refine lv_bipush (v := 41) hx hb dX8_isBoatLine_30 (by decide) ?_
      refine lv_bipush (v := 13) hx hb dX8_isBoatLine_32 (by decide) ?_
      refine k_X8_eatAs hC hN hK hT hm wq_1587 (by decide) hl.1 (Nat.le_of_ble_eq_true rfl) ⟨Nat.le_refl _, Nat.le_refl _⟩ dX8_isBoatLine_34 (fun r_34 N_34 P_34 H locs hm hT => ?_)
      refine lv_if_eq (tgt := 122) hx hb dX8_isBoatLine_37 (by decide) (fun c_37 => ?_) (fun c_37 => ?_)
      · have hm := hm.1 c_37
        refine lv_iconst (v := 0) hx hb dX8_isBoatLine_122 (by decide) ?_
        exact hret 123 _ _ _ _ (N_34, P_34) hm hT rfl dX8_isBoatLine_123
      · have hm := hm.2 c_37
        refine lv_aload_n hx hb dX8_isBoatLine_40 rfl (lv_at hl 0 rfl) ?_
        refine lv_bipush (v := 11) hx hb dX8_isBoatLine_41 (by decide) ?_
        refine k_X8_eat hC hN hK hT hm wq_1591 (by decide) hl.1 (Nat.le_of_ble_eq_true rfl) ⟨Nat.le_refl _, Nat.le_refl _⟩ dX8_isBoatLine_43 (fun r_43 N_43 P_43 H locs hm hT => ?_)
        refine lv_if_eq (tgt := 122) hx hb dX8_isBoatLine_46 (by decide) (fun c_46 => ?_) (fun c_46 => ?_)
        · have hm := hm.1 c_46
          refine lv_iconst (v := 0) hx hb dX8_isBoatLine_122 (by decide) ?_
          exact hret 123 _ _ _ _ (N_43, P_43) hm hT rfl dX8_isBoatLine_123
        · have hm := hm.2 c_46
          refine lv_aload_n hx hb dX8_isBoatLine_49 rfl (lv_at hl 0 rfl) ?_
          refine lv_bipush (v := 14) hx hb dX8_isBoatLine_50 (by decide) ?_
          refine k_X8_isEnd hC hN hK hT hm wq_1607 (by decide) hl.1 (Nat.le_of_ble_eq_true rfl) ⟨Nat.le_refl _, Nat.le_refl _⟩ dX8_isBoatLine_52 (fun r_52 N_52 P_52 H locs hm hT => ?_)
          refine lv_if_eq (tgt := 122) hx hb dX8_isBoatLine_55 (by decide) (fun c_55 => ?_) (fun c_55 => ?_)
          · have hm := hm.1 c_55
            refine lv_iconst (v := 0) hx hb dX8_isBoatLine_122 (by decide) ?_
            exact hret 123 _ _ _ _ (N_52, P_52) hm hT rfl dX8_isBoatLine_123
          · have hm := hm.2 c_55
            refine lv_aload_n hx hb dX8_isBoatLine_58 rfl (lv_at hl 0 rfl) ?_
            refine lv_bipush (v := 14) hx hb dX8_isBoatLine_59 (by decide) ?_
            refine k_X8_eat hC hN hK hT hm wq_1591 (by decide) hl.1 (Nat.le_of_ble_eq_true rfl) ⟨Nat.le_refl _, Nat.le_refl _⟩ dX8_isBoatLine_61 (fun r_61 N_61 P_61 H locs hm hT => ?_)
            refine lv_if_eq (tgt := 122) hx hb dX8_isBoatLine_64 (by decide) (fun c_64 => ?_) (fun c_64 => ?_)
            · have hm := hm.1 c_64
              refine lv_iconst (v := 0) hx hb dX8_isBoatLine_122 (by decide) ?_
              exact hret 123 _ _ _ _ (N_61, P_61) hm hT rfl dX8_isBoatLine_123
            · have hm := hm.2 c_64
              refine lv_aload_n hx hb dX8_isBoatLine_67 rfl (lv_at hl 0 rfl) ?_
              refine lv_bipush (v := 41) hx hb dX8_isBoatLine_68 (by decide) ?_
              refine lv_bipush (v := 15) hx hb dX8_isBoatLine_70 (by decide) ?_
              refine k_X8_eatAs hC hN hK hT hm wq_1587 (by decide) hl.1 (Nat.le_of_ble_eq_true rfl) ⟨Nat.le_refl _, Nat.le_refl _⟩ dX8_isBoatLine_72 (fun r_72 N_72 P_72 H locs hm hT => ?_)
              refine lv_if_eq (tgt := 122) hx hb dX8_isBoatLine_75 (by decide) (fun c_75 => ?_) (fun c_75 => ?_)
              · have hm := hm.1 c_75
                refine lv_iconst (v := 0) hx hb dX8_isBoatLine_122 (by decide) ?_
                exact hret 123 _ _ _ _ (N_72, P_72) hm hT rfl dX8_isBoatLine_123
              · have hm := hm.2 c_75
                refine lv_aload_n hx hb dX8_isBoatLine_78 rfl (lv_at hl 0 rfl) ?_
                refine lv_bipush (v := 15) hx hb dX8_isBoatLine_79 (by decide) ?_
                refine k_X8_eat hC hN hK hT hm wq_1591 (by decide) hl.1 (Nat.le_of_ble_eq_true rfl) ⟨Nat.le_refl _, Nat.le_refl _⟩ dX8_isBoatLine_81 (fun r_81 N_81 P_81 H locs hm hT => ?_)
                refine lv_if_eq (tgt := 122) hx hb dX8_isBoatLine_84 (by decide) (fun c_84 => ?_) (fun c_84 => ?_)
                · have hm := hm.1 c_84
                  refine lv_iconst (v := 0) hx hb dX8_isBoatLine_122 (by decide) ?_
                  exact hret 123 _ _ _ _ (N_81, P_81) hm hT rfl dX8_isBoatLine_123
                · have hm := hm.2 c_84
                  refine lv_aload_n hx hb dX8_isBoatLine_87 rfl (lv_at hl 0 rfl) ?_
                  refine lv_bipush (v := 40) hx hb dX8_isBoatLine_88 (by decide) ?_
                  refine lv_bipush (v := 16) hx hb dX8_isBoatLine_90 (by decide) ?_
                  refine k_X8_eatAs hC hN hK hT hm wq_1587 (by decide) hl.1 (Nat.le_of_ble_eq_true rfl) ⟨Nat.le_refl _, Nat.le_refl _⟩ dX8_isBoatLine_92 (fun r_92 N_92 P_92 H locs hm hT => ?_)
                  refine lv_if_eq (tgt := 122) hx hb dX8_isBoatLine_95 (by decide) (fun c_95 => ?_) (fun c_95 => ?_)
                  · have hm := hm.1 c_95
                    refine lv_iconst (v := 0) hx hb dX8_isBoatLine_122 (by decide) ?_
                    exact hret 123 _ _ _ _ (N_92, P_92) hm hT rfl dX8_isBoatLine_123
                  · have hm := hm.2 c_95
                    refine lv_aload_n hx hb dX8_isBoatLine_98 rfl (lv_at hl 0 rfl) ?_
                    refine lv_bipush (v := 16) hx hb dX8_isBoatLine_99 (by decide) ?_
                    refine k_X8_eat hC hN hK hT hm wq_1591 (by decide) hl.1 (Nat.le_of_ble_eq_true rfl) ⟨Nat.le_refl _, Nat.le_refl _⟩ dX8_isBoatLine_101 (fun r_101 N_101 P_101 H locs hm hT => ?_)
                    refine lv_if_eq (tgt := 122) hx hb dX8_isBoatLine_104 (by decide) (fun c_104 => ?_) (fun c_104 => ?_)
                    · have hm := hm.1 c_104
                      refine lv_iconst (v := 0) hx hb dX8_isBoatLine_122 (by decide) ?_
                      exact hret 123 _ _ _ _ (N_101, P_101) hm hT rfl dX8_isBoatLine_123
                    · have hm := hm.2 c_104
                      refine lv_aload_n hx hb dX8_isBoatLine_107 rfl (lv_at hl 0 rfl) ?_
                      refine lv_bipush (v := 40) hx hb dX8_isBoatLine_108 (by decide) ?_
                      refine lv_bipush (v := 17) hx hb dX8_isBoatLine_110 (by decide) ?_
                      refine k_X8_eatAs hC hN hK hT hm wq_1587 (by decide) hl.1 (Nat.le_of_ble_eq_true rfl) ⟨Nat.le_refl _, Nat.le_refl _⟩ dX8_isBoatLine_112 (fun r_112 N_112 P_112 H locs hm hT => ?_)
                      refine lv_if_eq (tgt := 122) hx hb dX8_isBoatLine_115 (by decide) (fun c_115 => ?_) (fun c_115 => ?_)
                      · have hm := hm.1 c_115
                        refine lv_iconst (v := 0) hx hb dX8_isBoatLine_122 (by decide) ?_
                        exact hret 123 _ _ _ _ (N_112, P_112) hm hT rfl dX8_isBoatLine_123
                      · have hm := hm.2 c_115
                        refine lv_iconst (v := 1) hx hb dX8_isBoatLine_118 (by decide) ?_
                        refine lv_goto (tgt := 123) hx hb dX8_isBoatLine_119 (by decide) ?_
                        exact hret 123 _ _ _ _ (N_112, P_112) hm hT rfl dX8_isBoatLine_123
section KX8_isBoatLine
variable {p : Program} {l : Launch} {e : Env} {s : State} {m : MethodId} {args : Array Value} {below : List Frame} {meth : Method} {c : Code} {H H0 : Heap} {locs : List Loc} {cells slots : Nat} {Q : State → Prop} {R : Room} {rn mcR msR : Nat}
variable {pc : Nat} {ls : Array Slot} {rest : List Value} {A : Nat → Prop} {D : va_G}
variable {cc : ByteArray} {nL index : Nat} {own host : String}
theorem k_X8_isBoatLine {Z : Nat → ClassId} {q g : Nat → Nat} {pl sa aa : Nat} {N : M2} {P : M2} {K : Int32 → M2 → M2 → Prop} (hC : CallFix p m c cc nL s args lw_g own) (hN : NW s) (hK : va_K D vwCl (tysG Z) s) (hT : TS vwCl D (MP Z q g pl sa aa N P) A H0 H locs) (hm : wp_X8_isBoatLine N P K) (hl : Cond.methodLink own index yX8_isBoatLine ∈ lw_g) (hlt : 4 < rn) (hsize : ls.size = nL) (hW : (rest.map fun v => v.category).sum ≤ 8) (hf : cells + 0 ≤ mcR ∧ slots + 0 ≤ msR) (hdg : decode cc pc = .ok (.invokevirtual index, 3)) (kk : ∀ (r : Int32) (N1 : M2) (P1 : M2) (H1 : Heap) (locs1 : List Loc), K r N1 P1 → TS vwCl D (MP Z q g pl sa aa N1 P1) A H0 H1 locs1 → W p l e (rk rn mcR msR) s m args below meth c H1 locs1 cells slots Q (F0 m (pc + 3) ls (.int r :: rest))) : W p l e (rk rn mcR msR) s m args below meth c H locs cells slots Q (F0 m pc ls (.ref (g 220) :: rest)) :=
  rw_go (wsF := (fun u : M2 × M2 => MP Z q g pl sa aa u.1 u.2)) (u0 := (N, P)) (wr := []) (isC := cutMP) (isR := []) (pm := cutMP) (ws' := (fun u : M2 × M2 => MP Z q g pl sa aa u.1 u.2)) (runV (As := []) hC hN (c_X8_isBoatLine l D Z q g pl sa aa N P H.size K hm) mi_X8_isBoatLine hl wq_1605 wq_75 hlt hT.1 hT.D' hK (q0 := 0) rfl rfl rfl hsize rfl hW hdg hf) (cutOkMP Z q g pl sa aa N P) hT (fun r u H1 locs1 hk hT1 => kk r u.1 u.2 H1 locs1 hk hT1)
end KX8_isBoatLine
