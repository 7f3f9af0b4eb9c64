theorem dX1_isCrew_0 : decode cX1_isCrew 0 = .ok (.aload_n 0, 1) := by decide +kernel
theorem dX1_isCrew_1 : decode cX1_isCrew 1 = .ok (.getfield 61, 3) := by decide +kernel
theorem dX1_isCrew_4 : decode cX1_isCrew 4 = .ok (.iload_n 2, 1) := by decide +kernel
theorem dX1_isCrew_5 : decode cX1_isCrew 5 = .ok (.invokestatic 81, 3) := by decide +kernel
theorem dX1_isCrew_8 : decode cX1_isCrew 8 = .ok (.iload_n 1, 1) := by decide +kernel
theorem dX1_isCrew_9 : decode cX1_isCrew 9 = .ok (.if_icmp .eq 15, 3) := by decide +kernel
theorem dX1_isCrew_12 : decode cX1_isCrew 12 = .ok (.aload_n 0, 1) := by decide +kernel
theorem dX1_isCrew_13 : decode cX1_isCrew 13 = .ok (.getfield 64, 3) := by decide +kernel
theorem dX1_isCrew_16 : decode cX1_isCrew 16 = .ok (.iload_n 2, 1) := by decide +kernel
theorem dX1_isCrew_17 : decode cX1_isCrew 17 = .ok (.invokestatic 81, 3) := by decide +kernel
theorem dX1_isCrew_20 : decode cX1_isCrew 20 = .ok (.iload_n 1, 1) := by decide +kernel
theorem dX1_isCrew_21 : decode cX1_isCrew 21 = .ok (.if_icmp .ne 7, 3) := by decide +kernel
theorem dX1_isCrew_24 : decode cX1_isCrew 24 = .ok (.iconst 1, 1) := by decide +kernel
theorem dX1_isCrew_25 : decode cX1_isCrew 25 = .ok (.goto 4, 3) := by decide +kernel
theorem dX1_isCrew_28 : decode cX1_isCrew 28 = .ok (.iconst 0, 1) := by decide +kernel
theorem dX1_isCrew_29 : decode cX1_isCrew 29 = .ok (.ireturn, 1) := by decide +kernel
theorem dX4_mostBreath_0 : decode cX4_mostBreath 0 = .ok (.bipush 10, 2) := by decide +kernel
theorem dX4_mostBreath_2 : decode cX4_mostBreath 2 = .ok (.aload_n 0, 1) := by decide +kernel
theorem dX4_mostBreath_3 : decode cX4_mostBreath 3 = .ok (.getfield 55, 3) := by decide +kernel
theorem dX4_mostBreath_6 : decode cX4_mostBreath 6 = .ok (.getfield 92, 3) := by decide +kernel
theorem dX4_mostBreath_9 : decode cX4_mostBreath 9 = .ok (.iload_n 1, 1) := by decide +kernel
theorem dX4_mostBreath_10 : decode cX4_mostBreath 10 = .ok (.invokestatic 79, 3) := by decide +kernel
theorem dX4_mostBreath_13 : decode cX4_mostBreath 13 = .ok (.imul, 1) := by decide +kernel
theorem dX4_mostBreath_14 : decode cX4_mostBreath 14 = .ok (.ireturn, 1) := by decide +kernel
theorem dX4_boatsThatAre_0 : decode cX4_boatsThatAre 0 = .ok (.iconst 0, 1) := by decide +kernel
theorem dX4_boatsThatAre_1 : decode cX4_boatsThatAre 1 = .ok (.istore_n 2, 1) := by decide +kernel
theorem dX4_boatsThatAre_2 : decode cX4_boatsThatAre 2 = .ok (.iconst 0, 1) := by decide +kernel
theorem dX4_boatsThatAre_3 : decode cX4_boatsThatAre 3 = .ok (.istore_n 3, 1) := by decide +kernel
theorem dX4_boatsThatAre_4 : decode cX4_boatsThatAre 4 = .ok (.iload_n 3, 1) := by decide +kernel
theorem dX4_boatsThatAre_5 : decode cX4_boatsThatAre 5 = .ok (.aload_n 0, 1) := by decide +kernel
theorem dX4_boatsThatAre_6 : decode cX4_boatsThatAre 6 = .ok (.getfield 55, 3) := by decide +kernel
theorem dX4_boatsThatAre_9 : decode cX4_boatsThatAre 9 = .ok (.getfield 75, 3) := by decide +kernel
theorem dX4_boatsThatAre_12 : decode cX4_boatsThatAre 12 = .ok (.if_icmp .ge 29, 3) := by decide +kernel
theorem dX4_boatsThatAre_15 : decode cX4_boatsThatAre 15 = .ok (.iload_n 2, 1) := by decide +kernel
theorem dX4_boatsThatAre_16 : decode cX4_boatsThatAre 16 = .ok (.aload_n 0, 1) := by decide +kernel
theorem dX4_boatsThatAre_17 : decode cX4_boatsThatAre 17 = .ok (.getfield 40, 3) := by decide +kernel
theorem dX4_boatsThatAre_20 : decode cX4_boatsThatAre 20 = .ok (.iload_n 3, 1) := by decide +kernel
theorem dX4_boatsThatAre_21 : decode cX4_boatsThatAre 21 = .ok (.invokestatic 79, 3) := by decide +kernel
theorem dX4_boatsThatAre_24 : decode cX4_boatsThatAre 24 = .ok (.iload_n 1, 1) := by decide +kernel
theorem dX4_boatsThatAre_25 : decode cX4_boatsThatAre 25 = .ok (.if_icmp .ne 7, 3) := by decide +kernel
theorem dX4_boatsThatAre_28 : decode cX4_boatsThatAre 28 = .ok (.iconst 1, 1) := by decide +kernel
theorem dX4_boatsThatAre_29 : decode cX4_boatsThatAre 29 = .ok (.goto 4, 3) := by decide +kernel
theorem dX4_boatsThatAre_32 : decode cX4_boatsThatAre 32 = .ok (.iconst 0, 1) := by decide +kernel
theorem dX4_boatsThatAre_33 : decode cX4_boatsThatAre 33 = .ok (.iadd, 1) := by decide +kernel
theorem dX4_boatsThatAre_34 : decode cX4_boatsThatAre 34 = .ok (.istore_n 2, 1) := by decide +kernel
theorem dX4_boatsThatAre_35 : decode cX4_boatsThatAre 35 = .ok (.iinc 3 1, 3) := by decide +kernel
theorem dX4_boatsThatAre_38 : decode cX4_boatsThatAre 38 = .ok (.goto (-34), 3) := by decide +kernel
theorem dX4_boatsThatAre_41 : decode cX4_boatsThatAre 41 = .ok (.iload_n 2, 1) := by decide +kernel
theorem dX4_boatsThatAre_42 : decode cX4_boatsThatAre 42 = .ok (.ireturn, 1) := by decide +kernel
theorem dX4_capsThatLie_0 : decode cX4_capsThatLie 0 = .ok (.iconst 0, 1) := by decide +kernel
theorem dX4_capsThatLie_1 : decode cX4_capsThatLie 1 = .ok (.istore_n 1, 1) := by decide +kernel
theorem dX4_capsThatLie_2 : decode cX4_capsThatLie 2 = .ok (.iconst 0, 1) := by decide +kernel
theorem dX4_capsThatLie_3 : decode cX4_capsThatLie 3 = .ok (.istore_n 2, 1) := by decide +kernel
theorem dX4_capsThatLie_4 : decode cX4_capsThatLie 4 = .ok (.iload_n 2, 1) := by decide +kernel
theorem dX4_capsThatLie_5 : decode cX4_capsThatLie 5 = .ok (.aload_n 0, 1) := by decide +kernel
theorem dX4_capsThatLie_6 : decode cX4_capsThatLie 6 = .ok (.getfield 55, 3) := by decide +kernel
theorem dX4_capsThatLie_9 : decode cX4_capsThatLie 9 = .ok (.getfield 68, 3) := by decide +kernel
theorem dX4_capsThatLie_12 : decode cX4_capsThatLie 12 = .ok (.if_icmp .ge 29, 3) := by decide +kernel
theorem dX4_capsThatLie_15 : decode cX4_capsThatLie 15 = .ok (.iload_n 1, 1) := by decide +kernel
theorem dX4_capsThatLie_16 : decode cX4_capsThatLie 16 = .ok (.aload_n 0, 1) := by decide +kernel
theorem dX4_capsThatLie_17 : decode cX4_capsThatLie 17 = .ok (.getfield 31, 3) := by decide +kernel
theorem dX4_capsThatLie_20 : decode cX4_capsThatLie 20 = .ok (.iload_n 2, 1) := by decide +kernel
theorem dX4_capsThatLie_21 : decode cX4_capsThatLie 21 = .ok (.invokestatic 79, 3) := by decide +kernel
theorem dX4_capsThatLie_24 : decode cX4_capsThatLie 24 = .ok (.iconst (-1), 1) := by decide +kernel
theorem dX4_capsThatLie_25 : decode cX4_capsThatLie 25 = .ok (.if_icmp .eq 7, 3) := by decide +kernel
theorem dX4_capsThatLie_28 : decode cX4_capsThatLie 28 = .ok (.iconst 1, 1) := by decide +kernel
theorem dX4_capsThatLie_29 : decode cX4_capsThatLie 29 = .ok (.goto 4, 3) := by decide +kernel
theorem dX4_capsThatLie_32 : decode cX4_capsThatLie 32 = .ok (.iconst 0, 1) := by decide +kernel
theorem dX4_capsThatLie_33 : decode cX4_capsThatLie 33 = .ok (.iadd, 1) := by decide +kernel
theorem dX4_capsThatLie_34 : decode cX4_capsThatLie 34 = .ok (.istore_n 1, 1) := by decide +kernel
theorem dX4_capsThatLie_35 : decode cX4_capsThatLie 35 = .ok (.iinc 2 1, 3) := by decide +kernel
theorem dX4_capsThatLie_38 : decode cX4_capsThatLie 38 = .ok (.goto (-34), 3) := by decide +kernel
theorem dX4_capsThatLie_41 : decode cX4_capsThatLie 41 = .ok (.iload_n 1, 1) := by decide +kernel
theorem dX4_capsThatLie_42 : decode cX4_capsThatLie 42 = .ok (.ireturn, 1) := by decide +kernel
theorem dX4_airOf_0 : decode cX4_airOf 0 = .ok (.iconst 0, 1) := by decide +kernel
theorem dX4_airOf_1 : decode cX4_airOf 1 = .ok (.istore_n 3, 1) := by decide +kernel
theorem dX4_airOf_2 : decode cX4_airOf 2 = .ok (.iload_n 1, 1) := by decide +kernel
theorem dX4_airOf_3 : decode cX4_airOf 3 = .ok (.istore 4, 2) := by decide +kernel
theorem dX4_airOf_5 : decode cX4_airOf 5 = .ok (.iload 4, 2) := by decide +kernel
theorem dX4_airOf_7 : decode cX4_airOf 7 = .ok (.iload_n 2, 1) := by decide +kernel
theorem dX4_airOf_8 : decode cX4_airOf 8 = .ok (.if_icmp .ge 21, 3) := by decide +kernel
theorem dX4_airOf_11 : decode cX4_airOf 11 = .ok (.iload_n 3, 1) := by decide +kernel
theorem dX4_airOf_12 : decode cX4_airOf 12 = .ok (.aload_n 0, 1) := by decide +kernel
theorem dX4_airOf_13 : decode cX4_airOf 13 = .ok (.getfield 21, 3) := by decide +kernel
theorem dX4_airOf_16 : decode cX4_airOf 16 = .ok (.iload 4, 2) := by decide +kernel
theorem dX4_airOf_18 : decode cX4_airOf 18 = .ok (.invokestatic 79, 3) := by decide +kernel
theorem dX4_airOf_21 : decode cX4_airOf 21 = .ok (.iadd, 1) := by decide +kernel
theorem dX4_airOf_22 : decode cX4_airOf 22 = .ok (.istore_n 3, 1) := by decide +kernel
theorem dX4_airOf_23 : decode cX4_airOf 23 = .ok (.iinc 4 1, 3) := by decide +kernel
theorem dX4_airOf_26 : decode cX4_airOf 26 = .ok (.goto (-21), 3) := by decide +kernel
theorem dX4_airOf_29 : decode cX4_airOf 29 = .ok (.iload_n 3, 1) := by decide +kernel
theorem dX4_airOf_30 : decode cX4_airOf 30 = .ok (.ireturn, 1) := by decide +kernel
theorem dX4_airOfBore_0 : decode cX4_airOfBore 0 = .ok (.aload_n 0, 1) := by decide +kernel
theorem dX4_airOfBore_1 : decode cX4_airOfBore 1 = .ok (.getfield 55, 3) := by decide +kernel
theorem dX4_airOfBore_4 : decode cX4_airOfBore 4 = .ok (.getfield 106, 3) := by decide +kernel
theorem dX4_airOfBore_7 : decode cX4_airOfBore 7 = .ok (.iload_n 1, 1) := by decide +kernel
theorem dX4_airOfBore_8 : decode cX4_airOfBore 8 = .ok (.invokestatic 79, 3) := by decide +kernel
theorem dX4_airOfBore_11 : decode cX4_airOfBore 11 = .ok (.istore_n 2, 1) := by decide +kernel
theorem dX4_airOfBore_12 : decode cX4_airOfBore 12 = .ok (.aload_n 0, 1) := by decide +kernel
theorem dX4_airOfBore_13 : decode cX4_airOfBore 13 = .ok (.iload_n 2, 1) := by decide +kernel
theorem dX4_airOfBore_14 : decode cX4_airOfBore 14 = .ok (.iload_n 2, 1) := by decide +kernel
theorem dX4_airOfBore_15 : decode cX4_airOfBore 15 = .ok (.aload_n 0, 1) := by decide +kernel
theorem dX4_airOfBore_16 : decode cX4_airOfBore 16 = .ok (.getfield 55, 3) := by decide +kernel
theorem dX4_airOfBore_19 : decode cX4_airOfBore 19 = .ok (.getfield 109, 3) := by decide +kernel
theorem dX4_airOfBore_22 : decode cX4_airOfBore 22 = .ok (.iload_n 1, 1) := by decide +kernel
theorem dX4_airOfBore_23 : decode cX4_airOfBore 23 = .ok (.invokestatic 79, 3) := by decide +kernel
theorem dX4_airOfBore_26 : decode cX4_airOfBore 26 = .ok (.iadd, 1) := by decide +kernel
theorem dX4_airOfBore_27 : decode cX4_airOfBore 27 = .ok (.invokevirtual 95, 3) := by decide +kernel
theorem dX4_airOfBore_30 : decode cX4_airOfBore 30 = .ok (.ireturn, 1) := by decide +kernel
theorem dX4_capsAt_0 : decode cX4_capsAt 0 = .ok (.iconst 0, 1) := by decide +kernel
theorem dX4_capsAt_1 : decode cX4_capsAt 1 = .ok (.istore_n 2, 1) := by decide +kernel
theorem dX4_capsAt_2 : decode cX4_capsAt 2 = .ok (.iconst 0, 1) := by decide +kernel
theorem dX4_capsAt_3 : decode cX4_capsAt 3 = .ok (.istore_n 3, 1) := by decide +kernel
theorem dX4_capsAt_4 : decode cX4_capsAt 4 = .ok (.iload_n 3, 1) := by decide +kernel
theorem dX4_capsAt_5 : decode cX4_capsAt 5 = .ok (.aload_n 0, 1) := by decide +kernel
theorem dX4_capsAt_6 : decode cX4_capsAt 6 = .ok (.getfield 55, 3) := by decide +kernel
theorem dX4_capsAt_9 : decode cX4_capsAt 9 = .ok (.getfield 68, 3) := by decide +kernel
theorem dX4_capsAt_12 : decode cX4_capsAt 12 = .ok (.if_icmp .ge 29, 3) := by decide +kernel
theorem dX4_capsAt_15 : decode cX4_capsAt 15 = .ok (.iload_n 2, 1) := by decide +kernel
theorem dX4_capsAt_16 : decode cX4_capsAt 16 = .ok (.aload_n 0, 1) := by decide +kernel
theorem dX4_capsAt_17 : decode cX4_capsAt 17 = .ok (.getfield 31, 3) := by decide +kernel
theorem dX4_capsAt_20 : decode cX4_capsAt 20 = .ok (.iload_n 3, 1) := by decide +kernel
theorem dX4_capsAt_21 : decode cX4_capsAt 21 = .ok (.invokestatic 79, 3) := by decide +kernel
theorem dX4_capsAt_24 : decode cX4_capsAt 24 = .ok (.iload_n 1, 1) := by decide +kernel
theorem dX4_capsAt_25 : decode cX4_capsAt 25 = .ok (.if_icmp .ne 7, 3) := by decide +kernel
theorem dX4_capsAt_28 : decode cX4_capsAt 28 = .ok (.iconst 1, 1) := by decide +kernel
theorem dX4_capsAt_29 : decode cX4_capsAt 29 = .ok (.goto 4, 3) := by decide +kernel
theorem dX4_capsAt_32 : decode cX4_capsAt 32 = .ok (.iconst 0, 1) := by decide +kernel
theorem dX4_capsAt_33 : decode cX4_capsAt 33 = .ok (.iadd, 1) := by decide +kernel
theorem dX4_capsAt_34 : decode cX4_capsAt 34 = .ok (.istore_n 2, 1) := by decide +kernel
theorem dX4_capsAt_35 : decode cX4_capsAt 35 = .ok (.iinc 3 1, 3) := by decide +kernel
theorem dX4_capsAt_38 : decode cX4_capsAt 38 = .ok (.goto (-34), 3) := by decide +kernel
theorem dX4_capsAt_41 : decode cX4_capsAt 41 = .ok (.iload_n 2, 1) := by decide +kernel
theorem dX4_capsAt_42 : decode cX4_capsAt 42 = .ok (.ireturn, 1) := by decide +kernel
theorem dX4_boatAt_0 : decode cX4_boatAt 0 = .ok (.iconst 0, 1) := by decide +kernel
theorem dX4_boatAt_1 : decode cX4_boatAt 1 = .ok (.istore_n 2, 1) := by decide +kernel
theorem dX4_boatAt_2 : decode cX4_boatAt 2 = .ok (.iload_n 2, 1) := by decide +kernel
theorem dX4_boatAt_3 : decode cX4_boatAt 3 = .ok (.aload_n 0, 1) := by decide +kernel
theorem dX4_boatAt_4 : decode cX4_boatAt 4 = .ok (.getfield 55, 3) := by decide +kernel
theorem dX4_boatAt_7 : decode cX4_boatAt 7 = .ok (.getfield 75, 3) := by decide +kernel
theorem dX4_boatAt_10 : decode cX4_boatAt 10 = .ok (.if_icmp .ge 35, 3) := by decide +kernel
theorem dX4_boatAt_13 : decode cX4_boatAt 13 = .ok (.aload_n 0, 1) := by decide +kernel
theorem dX4_boatAt_14 : decode cX4_boatAt 14 = .ok (.getfield 40, 3) := by decide +kernel
theorem dX4_boatAt_17 : decode cX4_boatAt 17 = .ok (.iload_n 2, 1) := by decide +kernel
theorem dX4_boatAt_18 : decode cX4_boatAt 18 = .ok (.invokestatic 79, 3) := by decide +kernel
theorem dX4_boatAt_21 : decode cX4_boatAt 21 = .ok (.iconst 1, 1) := by decide +kernel
theorem dX4_boatAt_22 : decode cX4_boatAt 22 = .ok (.if_icmp .ne 17, 3) := by decide +kernel
theorem dX4_boatAt_25 : decode cX4_boatAt 25 = .ok (.aload_n 0, 1) := by decide +kernel
theorem dX4_boatAt_26 : decode cX4_boatAt 26 = .ok (.getfield 43, 3) := by decide +kernel
theorem dX4_boatAt_29 : decode cX4_boatAt 29 = .ok (.iload_n 2, 1) := by decide +kernel
theorem dX4_boatAt_30 : decode cX4_boatAt 30 = .ok (.invokestatic 79, 3) := by decide +kernel
theorem dX4_boatAt_33 : decode cX4_boatAt 33 = .ok (.iload_n 1, 1) := by decide +kernel
theorem dX4_boatAt_34 : decode cX4_boatAt 34 = .ok (.if_icmp .ne 5, 3) := by decide +kernel
theorem dX4_boatAt_37 : decode cX4_boatAt 37 = .ok (.iload_n 2, 1) := by decide +kernel
theorem dX4_boatAt_38 : decode cX4_boatAt 38 = .ok (.ireturn, 1) := by decide +kernel
theorem dX4_boatAt_39 : decode cX4_boatAt 39 = .ok (.iinc 2 1, 3) := by decide +kernel
theorem dX4_boatAt_42 : decode cX4_boatAt 42 = .ok (.goto (-40), 3) := by decide +kernel
theorem dX4_boatAt_45 : decode cX4_boatAt 45 = .ok (.iconst (-1), 1) := by decide +kernel
theorem dX4_boatAt_46 : decode cX4_boatAt 46 = .ok (.ireturn, 1) := by decide +kernel
theorem dX4_boatOf_0 : decode cX4_boatOf 0 = .ok (.iconst 0, 1) := by decide +kernel
theorem dX4_boatOf_1 : decode cX4_boatOf 1 = .ok (.istore_n 2, 1) := by decide +kernel
theorem dX4_boatOf_2 : decode cX4_boatOf 2 = .ok (.iload_n 2, 1) := by decide +kernel
theorem dX4_boatOf_3 : decode cX4_boatOf 3 = .ok (.aload_n 0, 1) := by decide +kernel
theorem dX4_boatOf_4 : decode cX4_boatOf 4 = .ok (.getfield 55, 3) := by decide +kernel
theorem dX4_boatOf_7 : decode cX4_boatOf 7 = .ok (.getfield 75, 3) := by decide +kernel
theorem dX4_boatOf_10 : decode cX4_boatOf 10 = .ok (.if_icmp .ge 35, 3) := by decide +kernel
theorem dX4_boatOf_13 : decode cX4_boatOf 13 = .ok (.aload_n 0, 1) := by decide +kernel
theorem dX4_boatOf_14 : decode cX4_boatOf 14 = .ok (.getfield 40, 3) := by decide +kernel
theorem dX4_boatOf_17 : decode cX4_boatOf 17 = .ok (.iload_n 2, 1) := by decide +kernel
theorem dX4_boatOf_18 : decode cX4_boatOf 18 = .ok (.invokestatic 79, 3) := by decide +kernel
theorem dX4_boatOf_21 : decode cX4_boatOf 21 = .ok (.iconst 1, 1) := by decide +kernel
theorem dX4_boatOf_22 : decode cX4_boatOf 22 = .ok (.if_icmp .ne 17, 3) := by decide +kernel
theorem dX4_boatOf_25 : decode cX4_boatOf 25 = .ok (.aload_n 0, 1) := by decide +kernel
theorem dX4_boatOf_26 : decode cX4_boatOf 26 = .ok (.getfield 55, 3) := by decide +kernel
theorem dX4_boatOf_29 : decode cX4_boatOf 29 = .ok (.iload_n 1, 1) := by decide +kernel
theorem dX4_boatOf_30 : decode cX4_boatOf 30 = .ok (.iload_n 2, 1) := by decide +kernel
theorem dX4_boatOf_31 : decode cX4_boatOf 31 = .ok (.invokevirtual 112, 3) := by decide +kernel
theorem dX4_boatOf_34 : decode cX4_boatOf 34 = .ok (.ifCond .eq 5, 3) := by decide +kernel
theorem dX4_boatOf_37 : decode cX4_boatOf 37 = .ok (.iload_n 2, 1) := by decide +kernel
theorem dX4_boatOf_38 : decode cX4_boatOf 38 = .ok (.ireturn, 1) := by decide +kernel
theorem dX4_boatOf_39 : decode cX4_boatOf 39 = .ok (.iinc 2 1, 3) := by decide +kernel
theorem dX4_boatOf_42 : decode cX4_boatOf 42 = .ok (.goto (-40), 3) := by decide +kernel
theorem dX4_boatOf_45 : decode cX4_boatOf 45 = .ok (.iconst (-1), 1) := by decide +kernel
theorem dX4_boatOf_46 : decode cX4_boatOf 46 = .ok (.ireturn, 1) := by decide +kernel
theorem dX4_tally_0 : decode cX4_tally 0 = .ok (.iload_n 1, 1) := by decide +kernel
theorem dX4_tally_1 : decode cX4_tally 1 = .ok (.bipush 11, 2) := by decide +kernel
theorem dX4_tally_3 : decode cX4_tally 3 = .ok (.if_icmp .ne 16, 3) := by decide +kernel
theorem dX4_tally_6 : decode cX4_tally 6 = .ok (.aload_n 0, 1) := by decide +kernel
theorem dX4_tally_7 : decode cX4_tally 7 = .ok (.iconst 0, 1) := by decide +kernel
theorem dX4_tally_8 : decode cX4_tally 8 = .ok (.aload_n 0, 1) := by decide +kernel
theorem dX4_tally_9 : decode cX4_tally 9 = .ok (.getfield 55, 3) := by decide +kernel
theorem dX4_tally_12 : decode cX4_tally 12 = .ok (.getfield 59, 3) := by decide +kernel
theorem dX4_tally_15 : decode cX4_tally 15 = .ok (.invokevirtual 95, 3) := by decide +kernel
theorem dX4_tally_18 : decode cX4_tally 18 = .ok (.ireturn, 1) := by decide +kernel
theorem dX4_tally_19 : decode cX4_tally 19 = .ok (.iload_n 1, 1) := by decide +kernel
theorem dX4_tally_20 : decode cX4_tally 20 = .ok (.bipush 12, 2) := by decide +kernel
theorem dX4_tally_22 : decode cX4_tally 22 = .ok (.if_icmp .ne 10, 3) := by decide +kernel
theorem dX4_tally_25 : decode cX4_tally 25 = .ok (.aload_n 0, 1) := by decide +kernel
theorem dX4_tally_26 : decode cX4_tally 26 = .ok (.invokevirtual 99, 3) := by decide +kernel
theorem dX4_tally_29 : decode cX4_tally 29 = .ok (.goto 11, 3) := by decide +kernel
theorem dX4_tally_32 : decode cX4_tally 32 = .ok (.aload_n 0, 1) := by decide +kernel
theorem dX4_tally_33 : decode cX4_tally 33 = .ok (.iload_n 1, 1) := by decide +kernel
theorem dX4_tally_34 : decode cX4_tally 34 = .ok (.bipush 8, 2) := by decide +kernel
theorem dX4_tally_36 : decode cX4_tally 36 = .ok (.isub, 1) := by decide +kernel
theorem dX4_tally_37 : decode cX4_tally 37 = .ok (.invokevirtual 103, 3) := by decide +kernel
theorem dX4_tally_40 : decode cX4_tally 40 = .ok (.ireturn, 1) := by decide +kernel
theorem dX4_isDue_0 : decode cX4_isDue 0 = .ok (.aload_n 0, 1) := by decide +kernel
theorem dX4_isDue_1 : decode cX4_isDue 1 = .ok (.getfield 40, 3) := by decide +kernel
theorem dX4_isDue_4 : decode cX4_isDue 4 = .ok (.iload_n 1, 1) := by decide +kernel
theorem dX4_isDue_5 : decode cX4_isDue 5 = .ok (.invokestatic 79, 3) := by decide +kernel
theorem dX4_isDue_8 : decode cX4_isDue 8 = .ok (.ifCond .ne 22, 3) := by decide +kernel
theorem dX4_isDue_11 : decode cX4_isDue 11 = .ok (.aload_n 0, 1) := by decide +kernel
theorem dX4_isDue_12 : decode cX4_isDue 12 = .ok (.getfield 37, 3) := by decide +kernel
theorem dX4_isDue_15 : decode cX4_isDue 15 = .ok (.iload_n 1, 1) := by decide +kernel
theorem dX4_isDue_16 : decode cX4_isDue 16 = .ok (.invokestatic 79, 3) := by decide +kernel
theorem dX4_isDue_19 : decode cX4_isDue 19 = .ok (.aload_n 0, 1) := by decide +kernel
theorem dX4_isDue_20 : decode cX4_isDue 20 = .ok (.getfield 9, 3) := by decide +kernel
theorem dX4_isDue_23 : decode cX4_isDue 23 = .ok (.if_icmp .gt 7, 3) := by decide +kernel
theorem dX4_isDue_26 : decode cX4_isDue 26 = .ok (.iconst 1, 1) := by decide +kernel
theorem dX4_isDue_27 : decode cX4_isDue 27 = .ok (.goto 4, 3) := by decide +kernel
theorem dX4_isDue_30 : decode cX4_isDue 30 = .ok (.iconst 0, 1) := by decide +kernel
theorem dX4_isDue_31 : decode cX4_isDue 31 = .ok (.ireturn, 1) := by decide +kernel
theorem dX4_isClear_0 : decode cX4_isClear 0 = .ok (.iconst 0, 1) := by decide +kernel
theorem dX4_isClear_1 : decode cX4_isClear 1 = .ok (.istore_n 2, 1) := by decide +kernel
theorem dX4_isClear_2 : decode cX4_isClear 2 = .ok (.iload_n 2, 1) := by decide +kernel
theorem dX4_isClear_3 : decode cX4_isClear 3 = .ok (.aload_n 0, 1) := by decide +kernel
theorem dX4_isClear_4 : decode cX4_isClear 4 = .ok (.getfield 55, 3) := by decide +kernel
theorem dX4_isClear_7 : decode cX4_isClear 7 = .ok (.getfield 75, 3) := by decide +kernel
theorem dX4_isClear_10 : decode cX4_isClear 10 = .ok (.if_icmp .ge 71, 3) := by decide +kernel
theorem dX4_isClear_13 : decode cX4_isClear 13 = .ok (.aload_n 0, 1) := by decide +kernel
theorem dX4_isClear_14 : decode cX4_isClear 14 = .ok (.getfield 40, 3) := by decide +kernel
theorem dX4_isClear_17 : decode cX4_isClear 17 = .ok (.iload_n 2, 1) := by decide +kernel
theorem dX4_isClear_18 : decode cX4_isClear 18 = .ok (.invokestatic 79, 3) := by decide +kernel
theorem dX4_isClear_21 : decode cX4_isClear 21 = .ok (.iconst 1, 1) := by decide +kernel
theorem dX4_isClear_22 : decode cX4_isClear 22 = .ok (.if_icmp .ne 53, 3) := by decide +kernel
theorem dX4_isClear_25 : decode cX4_isClear 25 = .ok (.aload_n 0, 1) := by decide +kernel
theorem dX4_isClear_26 : decode cX4_isClear 26 = .ok (.getfield 43, 3) := by decide +kernel
theorem dX4_isClear_29 : decode cX4_isClear 29 = .ok (.iload_n 2, 1) := by decide +kernel
theorem dX4_isClear_30 : decode cX4_isClear 30 = .ok (.invokestatic 79, 3) := by decide +kernel
theorem dX4_isClear_33 : decode cX4_isClear 33 = .ok (.istore_n 3, 1) := by decide +kernel
theorem dX4_isClear_34 : decode cX4_isClear 34 = .ok (.iload_n 1, 1) := by decide +kernel
theorem dX4_isClear_35 : decode cX4_isClear 35 = .ok (.ifCond .ne 7, 3) := by decide +kernel
theorem dX4_isClear_38 : decode cX4_isClear 38 = .ok (.iload_n 3, 1) := by decide +kernel
theorem dX4_isClear_39 : decode cX4_isClear 39 = .ok (.goto 14, 3) := by decide +kernel
theorem dX4_isClear_42 : decode cX4_isClear 42 = .ok (.aload_n 0, 1) := by decide +kernel
theorem dX4_isClear_43 : decode cX4_isClear 43 = .ok (.getfield 55, 3) := by decide +kernel
theorem dX4_isClear_46 : decode cX4_isClear 46 = .ok (.getfield 59, 3) := by decide +kernel
theorem dX4_isClear_49 : decode cX4_isClear 49 = .ok (.iconst 1, 1) := by decide +kernel
theorem dX4_isClear_50 : decode cX4_isClear 50 = .ok (.isub, 1) := by decide +kernel
theorem dX4_isClear_51 : decode cX4_isClear 51 = .ok (.iload_n 3, 1) := by decide +kernel
theorem dX4_isClear_52 : decode cX4_isClear 52 = .ok (.isub, 1) := by decide +kernel
theorem dX4_isClear_53 : decode cX4_isClear 53 = .ok (.istore 4, 2) := by decide +kernel
theorem dX4_isClear_55 : decode cX4_isClear 55 = .ok (.aload_n 0, 1) := by decide +kernel
theorem dX4_isClear_56 : decode cX4_isClear 56 = .ok (.getfield 34, 3) := by decide +kernel
theorem dX4_isClear_59 : decode cX4_isClear 59 = .ok (.iload_n 2, 1) := by decide +kernel
theorem dX4_isClear_60 : decode cX4_isClear 60 = .ok (.invokestatic 79, 3) := by decide +kernel
theorem dX4_isClear_63 : decode cX4_isClear 63 = .ok (.iload_n 1, 1) := by decide +kernel
theorem dX4_isClear_64 : decode cX4_isClear 64 = .ok (.if_icmp .ne 9, 3) := by decide +kernel
theorem dX4_isClear_67 : decode cX4_isClear 67 = .ok (.iload 4, 2) := by decide +kernel
theorem dX4_isClear_69 : decode cX4_isClear 69 = .ok (.iconst 4, 1) := by decide +kernel
theorem dX4_isClear_70 : decode cX4_isClear 70 = .ok (.if_icmp .ge 5, 3) := by decide +kernel
theorem dX4_isClear_73 : decode cX4_isClear 73 = .ok (.iconst 0, 1) := by decide +kernel
theorem dX4_isClear_74 : decode cX4_isClear 74 = .ok (.ireturn, 1) := by decide +kernel
theorem dX4_isClear_75 : decode cX4_isClear 75 = .ok (.iinc 2 1, 3) := by decide +kernel
theorem dX4_isClear_78 : decode cX4_isClear 78 = .ok (.goto (-76), 3) := by decide +kernel
theorem dX4_isClear_81 : decode cX4_isClear 81 = .ok (.iconst 1, 1) := by decide +kernel
theorem dX4_isClear_82 : decode cX4_isClear 82 = .ok (.ireturn, 1) := by decide +kernel
theorem dX4_isReady_0 : decode cX4_isReady 0 = .ok (.aload_n 0, 1) := by decide +kernel
theorem dX4_isReady_1 : decode cX4_isReady 1 = .ok (.iload_n 1, 1) := by decide +kernel
theorem dX4_isReady_2 : decode cX4_isReady 2 = .ok (.invokevirtual 178, 3) := by decide +kernel
theorem dX4_isReady_5 : decode cX4_isReady 5 = .ok (.iconst (-1), 1) := by decide +kernel
theorem dX4_isReady_6 : decode cX4_isReady 6 = .ok (.if_icmp .ne 31, 3) := by decide +kernel
theorem dX4_isReady_9 : decode cX4_isReady 9 = .ok (.aload_n 0, 1) := by decide +kernel
theorem dX4_isReady_10 : decode cX4_isReady 10 = .ok (.getfield 28, 3) := by decide +kernel
theorem dX4_isReady_13 : decode cX4_isReady 13 = .ok (.iload_n 1, 1) := by decide +kernel
theorem dX4_isReady_14 : decode cX4_isReady 14 = .ok (.invokestatic 79, 3) := by decide +kernel
theorem dX4_isReady_17 : decode cX4_isReady 17 = .ok (.ifCond .ne 20, 3) := by decide +kernel
theorem dX4_isReady_20 : decode cX4_isReady 20 = .ok (.aload_n 0, 1) := by decide +kernel
theorem dX4_isReady_21 : decode cX4_isReady 21 = .ok (.getfield 25, 3) := by decide +kernel
theorem dX4_isReady_24 : decode cX4_isReady 24 = .ok (.iload_n 1, 1) := by decide +kernel
theorem dX4_isReady_25 : decode cX4_isReady 25 = .ok (.invokestatic 79, 3) := by decide +kernel
theorem dX4_isReady_28 : decode cX4_isReady 28 = .ok (.bipush 20, 2) := by decide +kernel
theorem dX4_isReady_30 : decode cX4_isReady 30 = .ok (.if_icmp .lt 7, 3) := by decide +kernel
theorem dX4_isReady_33 : decode cX4_isReady 33 = .ok (.iconst 1, 1) := by decide +kernel
theorem dX4_isReady_34 : decode cX4_isReady 34 = .ok (.goto 4, 3) := by decide +kernel
theorem dX4_isReady_37 : decode cX4_isReady 37 = .ok (.iconst 0, 1) := by decide +kernel
theorem dX4_isReady_38 : decode cX4_isReady 38 = .ok (.ireturn, 1) := by decide +kernel
theorem dX4_strengthFor_0 : decode cX4_strengthFor 0 = .ok (.iload_n 1, 1) := by decide +kernel
theorem dX4_strengthFor_1 : decode cX4_strengthFor 1 = .ok (.aload_n 0, 1) := by decide +kernel
theorem dX4_strengthFor_2 : decode cX4_strengthFor 2 = .ok (.getfield 18, 3) := by decide +kernel
theorem dX4_strengthFor_5 : decode cX4_strengthFor 5 = .ok (.if_icmp .eq 15, 3) := by decide +kernel
theorem dX4_strengthFor_8 : decode cX4_strengthFor 8 = .ok (.aload_n 0, 1) := by decide +kernel
theorem dX4_strengthFor_9 : decode cX4_strengthFor 9 = .ok (.getfield 25, 3) := by decide +kernel
theorem dX4_strengthFor_12 : decode cX4_strengthFor 12 = .ok (.iload_n 1, 1) := by decide +kernel
theorem dX4_strengthFor_13 : decode cX4_strengthFor 13 = .ok (.invokestatic 79, 3) := by decide +kernel
theorem dX4_strengthFor_16 : decode cX4_strengthFor 16 = .ok (.iconst 1, 1) := by decide +kernel
theorem dX4_strengthFor_17 : decode cX4_strengthFor 17 = .ok (.if_icmp .ge 7, 3) := by decide +kernel
theorem dX4_strengthFor_20 : decode cX4_strengthFor 20 = .ok (.iconst 0, 1) := by decide +kernel
theorem dX4_strengthFor_21 : decode cX4_strengthFor 21 = .ok (.goto 14, 3) := by decide +kernel
theorem dX4_strengthFor_24 : decode cX4_strengthFor 24 = .ok (.aload_n 0, 1) := by decide +kernel
theorem dX4_strengthFor_25 : decode cX4_strengthFor 25 = .ok (.getfield 55, 3) := by decide +kernel
theorem dX4_strengthFor_28 : decode cX4_strengthFor 28 = .ok (.getfield 194, 3) := by decide +kernel
theorem dX4_strengthFor_31 : decode cX4_strengthFor 31 = .ok (.iload_n 1, 1) := by decide +kernel
theorem dX4_strengthFor_32 : decode cX4_strengthFor 32 = .ok (.invokestatic 79, 3) := by decide +kernel
theorem dX4_strengthFor_35 : decode cX4_strengthFor 35 = .ok (.ireturn, 1) := by decide +kernel
theorem dX4_breathIn_0 : decode cX4_breathIn 0 = .ok (.iload_n 0, 1) := by decide +kernel
theorem dX4_breathIn_1 : decode cX4_breathIn 1 = .ok (.bipush 40, 2) := by decide +kernel
theorem dX4_breathIn_3 : decode cX4_breathIn 3 = .ok (.if_icmp .ge 16, 3) := by decide +kernel
theorem dX4_breathIn_6 : decode cX4_breathIn 6 = .ok (.iconst 1, 1) := by decide +kernel
theorem dX4_breathIn_7 : decode cX4_breathIn 7 = .ok (.bipush 40, 2) := by decide +kernel
theorem dX4_breathIn_9 : decode cX4_breathIn 9 = .ok (.iload_n 0, 1) := by decide +kernel
theorem dX4_breathIn_10 : decode cX4_breathIn 10 = .ok (.isub, 1) := by decide +kernel
theorem dX4_breathIn_11 : decode cX4_breathIn 11 = .ok (.bipush 10, 2) := by decide +kernel
theorem dX4_breathIn_13 : decode cX4_breathIn 13 = .ok (.idiv, 1) := by decide +kernel
theorem dX4_breathIn_14 : decode cX4_breathIn 14 = .ok (.iadd, 1) := by decide +kernel
theorem dX4_breathIn_15 : decode cX4_breathIn 15 = .ok (.ineg, 1) := by decide +kernel
theorem dX4_breathIn_16 : decode cX4_breathIn 16 = .ok (.goto 4, 3) := by decide +kernel
theorem dX4_breathIn_19 : decode cX4_breathIn 19 = .ok (.iconst 1, 1) := by decide +kernel
theorem dX4_breathIn_20 : decode cX4_breathIn 20 = .ok (.ireturn, 1) := by decide +kernel
theorem dX4_waitingAt_0 : decode cX4_waitingAt 0 = .ok (.iconst 0, 1) := by decide +kernel
theorem dX4_waitingAt_1 : decode cX4_waitingAt 1 = .ok (.istore_n 2, 1) := by decide +kernel
theorem dX4_waitingAt_2 : decode cX4_waitingAt 2 = .ok (.iconst 0, 1) := by decide +kernel
theorem dX4_waitingAt_3 : decode cX4_waitingAt 3 = .ok (.istore_n 3, 1) := by decide +kernel
theorem dX4_waitingAt_4 : decode cX4_waitingAt 4 = .ok (.iload_n 3, 1) := by decide +kernel
theorem dX4_waitingAt_5 : decode cX4_waitingAt 5 = .ok (.aload_n 0, 1) := by decide +kernel
theorem dX4_waitingAt_6 : decode cX4_waitingAt 6 = .ok (.getfield 55, 3) := by decide +kernel
theorem dX4_waitingAt_9 : decode cX4_waitingAt 9 = .ok (.getfield 75, 3) := by decide +kernel
theorem dX4_waitingAt_12 : decode cX4_waitingAt 12 = .ok (.if_icmp .ge 55, 3) := by decide +kernel
theorem dX4_waitingAt_15 : decode cX4_waitingAt 15 = .ok (.iload_n 2, 1) := by decide +kernel
theorem dX4_waitingAt_16 : decode cX4_waitingAt 16 = .ok (.aload_n 0, 1) := by decide +kernel
theorem dX4_waitingAt_17 : decode cX4_waitingAt 17 = .ok (.getfield 34, 3) := by decide +kernel
theorem dX4_waitingAt_20 : decode cX4_waitingAt 20 = .ok (.iload_n 3, 1) := by decide +kernel
theorem dX4_waitingAt_21 : decode cX4_waitingAt 21 = .ok (.invokestatic 79, 3) := by decide +kernel
theorem dX4_waitingAt_24 : decode cX4_waitingAt 24 = .ok (.iload_n 1, 1) := by decide +kernel
theorem dX4_waitingAt_25 : decode cX4_waitingAt 25 = .ok (.if_icmp .ne 33, 3) := by decide +kernel
theorem dX4_waitingAt_28 : decode cX4_waitingAt 28 = .ok (.aload_n 0, 1) := by decide +kernel
theorem dX4_waitingAt_29 : decode cX4_waitingAt 29 = .ok (.getfield 40, 3) := by decide +kernel
theorem dX4_waitingAt_32 : decode cX4_waitingAt 32 = .ok (.iload_n 3, 1) := by decide +kernel
theorem dX4_waitingAt_33 : decode cX4_waitingAt 33 = .ok (.invokestatic 79, 3) := by decide +kernel
theorem dX4_waitingAt_36 : decode cX4_waitingAt 36 = .ok (.ifCond .ne 22, 3) := by decide +kernel
theorem dX4_waitingAt_39 : decode cX4_waitingAt 39 = .ok (.aload_n 0, 1) := by decide +kernel
theorem dX4_waitingAt_40 : decode cX4_waitingAt 40 = .ok (.getfield 37, 3) := by decide +kernel
theorem dX4_waitingAt_43 : decode cX4_waitingAt 43 = .ok (.iload_n 3, 1) := by decide +kernel
theorem dX4_waitingAt_44 : decode cX4_waitingAt 44 = .ok (.invokestatic 79, 3) := by decide +kernel
theorem dX4_waitingAt_47 : decode cX4_waitingAt 47 = .ok (.aload_n 0, 1) := by decide +kernel
theorem dX4_waitingAt_48 : decode cX4_waitingAt 48 = .ok (.getfield 9, 3) := by decide +kernel
theorem dX4_waitingAt_51 : decode cX4_waitingAt 51 = .ok (.if_icmp .gt 7, 3) := by decide +kernel
theorem dX4_waitingAt_54 : decode cX4_waitingAt 54 = .ok (.iconst 1, 1) := by decide +kernel
theorem dX4_waitingAt_55 : decode cX4_waitingAt 55 = .ok (.goto 4, 3) := by decide +kernel
theorem dX4_waitingAt_58 : decode cX4_waitingAt 58 = .ok (.iconst 0, 1) := by decide +kernel
theorem dX4_waitingAt_59 : decode cX4_waitingAt 59 = .ok (.iadd, 1) := by decide +kernel
theorem dX4_waitingAt_60 : decode cX4_waitingAt 60 = .ok (.istore_n 2, 1) := by decide +kernel
theorem dX4_waitingAt_61 : decode cX4_waitingAt 61 = .ok (.iinc 3 1, 3) := by decide +kernel
theorem dX4_waitingAt_64 : decode cX4_waitingAt 64 = .ok (.goto (-60), 3) := by decide +kernel
theorem dX4_waitingAt_67 : decode cX4_waitingAt 67 = .ok (.iload_n 2, 1) := by decide +kernel
theorem dX4_waitingAt_68 : decode cX4_waitingAt 68 = .ok (.ireturn, 1) := by decide +kernel
theorem dX4_leaf_0 : decode cX4_leaf 0 = .ok (.iload_n 1, 1) := by decide +kernel
theorem dX4_leaf_1 : decode cX4_leaf 1 = .ok (.tableswitch 119 4 11 #[47, 49, 54, 59, 65, 74, 83, 101], 47) := by decide +kernel
theorem dX4_leaf_48 : decode cX4_leaf 48 = .ok (.iload_n 2, 1) := by decide +kernel
theorem dX4_leaf_49 : decode cX4_leaf 49 = .ok (.ireturn, 1) := by decide +kernel
theorem dX4_leaf_50 : decode cX4_leaf 50 = .ok (.aload_n 0, 1) := by decide +kernel
theorem dX4_leaf_51 : decode cX4_leaf 51 = .ok (.getfield 9, 3) := by decide +kernel
theorem dX4_leaf_54 : decode cX4_leaf 54 = .ok (.ireturn, 1) := by decide +kernel
theorem dX4_leaf_55 : decode cX4_leaf 55 = .ok (.aload_n 0, 1) := by decide +kernel
theorem dX4_leaf_56 : decode cX4_leaf 56 = .ok (.getfield 15, 3) := by decide +kernel
theorem dX4_leaf_59 : decode cX4_leaf 59 = .ok (.ireturn, 1) := by decide +kernel
theorem dX4_leaf_60 : decode cX4_leaf 60 = .ok (.aload_n 0, 1) := by decide +kernel
theorem dX4_leaf_61 : decode cX4_leaf 61 = .ok (.iload_n 2, 1) := by decide +kernel
theorem dX4_leaf_62 : decode cX4_leaf 62 = .ok (.invokevirtual 257, 3) := by decide +kernel
theorem dX4_leaf_65 : decode cX4_leaf 65 = .ok (.ireturn, 1) := by decide +kernel
theorem dX4_leaf_66 : decode cX4_leaf 66 = .ok (.aload_n 0, 1) := by decide +kernel
theorem dX4_leaf_67 : decode cX4_leaf 67 = .ok (.getfield 25, 3) := by decide +kernel
theorem dX4_leaf_70 : decode cX4_leaf 70 = .ok (.iload_n 2, 1) := by decide +kernel
theorem dX4_leaf_71 : decode cX4_leaf 71 = .ok (.invokestatic 79, 3) := by decide +kernel
theorem dX4_leaf_74 : decode cX4_leaf 74 = .ok (.ireturn, 1) := by decide +kernel
theorem dX4_leaf_75 : decode cX4_leaf 75 = .ok (.aload_n 0, 1) := by decide +kernel
theorem dX4_leaf_76 : decode cX4_leaf 76 = .ok (.getfield 43, 3) := by decide +kernel
theorem dX4_leaf_79 : decode cX4_leaf 79 = .ok (.iload_n 2, 1) := by decide +kernel
theorem dX4_leaf_80 : decode cX4_leaf 80 = .ok (.invokestatic 79, 3) := by decide +kernel
theorem dX4_leaf_83 : decode cX4_leaf 83 = .ok (.ireturn, 1) := by decide +kernel
theorem dX4_leaf_84 : decode cX4_leaf 84 = .ok (.aload_n 0, 1) := by decide +kernel
theorem dX4_leaf_85 : decode cX4_leaf 85 = .ok (.getfield 40, 3) := by decide +kernel
theorem dX4_leaf_88 : decode cX4_leaf 88 = .ok (.iload_n 2, 1) := by decide +kernel
theorem dX4_leaf_89 : decode cX4_leaf 89 = .ok (.invokestatic 79, 3) := by decide +kernel
theorem dX4_leaf_92 : decode cX4_leaf 92 = .ok (.iconst 1, 1) := by decide +kernel
theorem dX4_leaf_93 : decode cX4_leaf 93 = .ok (.if_icmp .ne 7, 3) := by decide +kernel
theorem dX4_leaf_96 : decode cX4_leaf 96 = .ok (.iconst 1, 1) := by decide +kernel
theorem dX4_leaf_97 : decode cX4_leaf 97 = .ok (.goto 4, 3) := by decide +kernel
theorem dX4_leaf_100 : decode cX4_leaf 100 = .ok (.iconst 0, 1) := by decide +kernel
theorem dX4_leaf_101 : decode cX4_leaf 101 = .ok (.ireturn, 1) := by decide +kernel
theorem dX4_leaf_102 : decode cX4_leaf 102 = .ok (.aload_n 0, 1) := by decide +kernel
theorem dX4_leaf_103 : decode cX4_leaf 103 = .ok (.getfield 31, 3) := by decide +kernel
theorem dX4_leaf_106 : decode cX4_leaf 106 = .ok (.iload_n 2, 1) := by decide +kernel
theorem dX4_leaf_107 : decode cX4_leaf 107 = .ok (.invokestatic 79, 3) := by decide +kernel
theorem dX4_leaf_110 : decode cX4_leaf 110 = .ok (.iconst (-1), 1) := by decide +kernel
theorem dX4_leaf_111 : decode cX4_leaf 111 = .ok (.if_icmp .ne 7, 3) := by decide +kernel
theorem dX4_leaf_114 : decode cX4_leaf 114 = .ok (.iconst 1, 1) := by decide +kernel
theorem dX4_leaf_115 : decode cX4_leaf 115 = .ok (.goto 4, 3) := by decide +kernel
theorem dX4_leaf_118 : decode cX4_leaf 118 = .ok (.iconst 0, 1) := by decide +kernel
theorem dX4_leaf_119 : decode cX4_leaf 119 = .ok (.ireturn, 1) := by decide +kernel
theorem dX4_leaf_120 : decode cX4_leaf 120 = .ok (.iconst 0, 1) := by decide +kernel
theorem dX4_leaf_121 : decode cX4_leaf 121 = .ok (.ireturn, 1) := by decide +kernel
theorem dX4_ofOneSide_0 : decode cX4_ofOneSide 0 = .ok (.iload_n 1, 1) := by decide +kernel
theorem dX4_ofOneSide_1 : decode cX4_ofOneSide 1 = .ok (.bipush 12, 2) := by decide +kernel
theorem dX4_ofOneSide_3 : decode cX4_ofOneSide 3 = .ok (.if_icmp .ne 27, 3) := by decide +kernel
theorem dX4_ofOneSide_6 : decode cX4_ofOneSide 6 = .ok (.iload_n 2, 1) := by decide +kernel
theorem dX4_ofOneSide_7 : decode cX4_ofOneSide 7 = .ok (.aload_n 0, 1) := by decide +kernel
theorem dX4_ofOneSide_8 : decode cX4_ofOneSide 8 = .ok (.getfield 55, 3) := by decide +kernel
theorem dX4_ofOneSide_11 : decode cX4_ofOneSide 11 = .ok (.getfield 59, 3) := by decide +kernel
theorem dX4_ofOneSide_14 : decode cX4_ofOneSide 14 = .ok (.if_icmp .ge 14, 3) := by decide +kernel
theorem dX4_ofOneSide_17 : decode cX4_ofOneSide 17 = .ok (.aload_n 0, 1) := by decide +kernel
theorem dX4_ofOneSide_18 : decode cX4_ofOneSide 18 = .ok (.getfield 21, 3) := by decide +kernel
theorem dX4_ofOneSide_21 : decode cX4_ofOneSide 21 = .ok (.iload_n 2, 1) := by decide +kernel
theorem dX4_ofOneSide_22 : decode cX4_ofOneSide 22 = .ok (.invokestatic 79, 3) := by decide +kernel
theorem dX4_ofOneSide_25 : decode cX4_ofOneSide 25 = .ok (.goto 4, 3) := by decide +kernel
theorem dX4_ofOneSide_28 : decode cX4_ofOneSide 28 = .ok (.iconst 0, 1) := by decide +kernel
theorem dX4_ofOneSide_29 : decode cX4_ofOneSide 29 = .ok (.ireturn, 1) := by decide +kernel
theorem dX4_ofOneSide_30 : decode cX4_ofOneSide 30 = .ok (.iload_n 1, 1) := by decide +kernel
theorem dX4_ofOneSide_31 : decode cX4_ofOneSide 31 = .ok (.bipush 13, 2) := by decide +kernel
theorem dX4_ofOneSide_33 : decode cX4_ofOneSide 33 = .ok (.if_icmp .ne 13, 3) := by decide +kernel
theorem dX4_ofOneSide_36 : decode cX4_ofOneSide 36 = .ok (.iload_n 2, 1) := by decide +kernel
theorem dX4_ofOneSide_37 : decode cX4_ofOneSide 37 = .ok (.ifCond .ne 7, 3) := by decide +kernel
theorem dX4_ofOneSide_40 : decode cX4_ofOneSide 40 = .ok (.iconst 1, 1) := by decide +kernel
theorem dX4_ofOneSide_41 : decode cX4_ofOneSide 41 = .ok (.goto 4, 3) := by decide +kernel
theorem dX4_ofOneSide_44 : decode cX4_ofOneSide 44 = .ok (.iconst 0, 1) := by decide +kernel
theorem dX4_ofOneSide_45 : decode cX4_ofOneSide 45 = .ok (.ireturn, 1) := by decide +kernel
theorem dX4_ofOneSide_46 : decode cX4_ofOneSide 46 = .ok (.iload_n 2, 1) := by decide +kernel
theorem dX4_ofOneSide_47 : decode cX4_ofOneSide 47 = .ok (.ineg, 1) := by decide +kernel
theorem dX4_ofOneSide_48 : decode cX4_ofOneSide 48 = .ok (.ireturn, 1) := by decide +kernel
theorem dX4_quotient_0 : decode cX4_quotient 0 = .ok (.iload_n 1, 1) := by decide +kernel
theorem dX4_quotient_1 : decode cX4_quotient 1 = .ok (.ifCond .ne 5, 3) := by decide +kernel
theorem dX4_quotient_4 : decode cX4_quotient 4 = .ok (.iconst 0, 1) := by decide +kernel
theorem dX4_quotient_5 : decode cX4_quotient 5 = .ok (.ireturn, 1) := by decide +kernel
theorem dX4_quotient_6 : decode cX4_quotient 6 = .ok (.iload_n 1, 1) := by decide +kernel
theorem dX4_quotient_7 : decode cX4_quotient 7 = .ok (.iconst (-1), 1) := by decide +kernel
theorem dX4_quotient_8 : decode cX4_quotient 8 = .ok (.if_icmp .ne 8, 3) := by decide +kernel
theorem dX4_quotient_11 : decode cX4_quotient 11 = .ok (.iload_n 0, 1) := by decide +kernel
theorem dX4_quotient_12 : decode cX4_quotient 12 = .ok (.ineg, 1) := by decide +kernel
theorem dX4_quotient_13 : decode cX4_quotient 13 = .ok (.goto 6, 3) := by decide +kernel
theorem dX4_quotient_16 : decode cX4_quotient 16 = .ok (.iload_n 0, 1) := by decide +kernel
theorem dX4_quotient_17 : decode cX4_quotient 17 = .ok (.iload_n 1, 1) := by decide +kernel
theorem dX4_quotient_18 : decode cX4_quotient 18 = .ok (.idiv, 1) := by decide +kernel
theorem dX4_quotient_19 : decode cX4_quotient 19 = .ok (.ireturn, 1) := by decide +kernel
theorem dX4_ofTwoSides_0 : decode cX4_ofTwoSides 0 = .ok (.iload_n 0, 1) := by decide +kernel
theorem dX4_ofTwoSides_1 : decode cX4_ofTwoSides 1 = .ok (.tableswitch 160 15 27 #[67, 71, 75, 79, 85, 96, 107, 118, 129, 140, 144, 148, 154], 67) := by decide +kernel
theorem dX4_ofTwoSides_68 : decode cX4_ofTwoSides 68 = .ok (.iload_n 1, 1) := by decide +kernel
theorem dX4_ofTwoSides_69 : decode cX4_ofTwoSides 69 = .ok (.iload_n 2, 1) := by decide +kernel
theorem dX4_ofTwoSides_70 : decode cX4_ofTwoSides 70 = .ok (.iadd, 1) := by decide +kernel
theorem dX4_ofTwoSides_71 : decode cX4_ofTwoSides 71 = .ok (.ireturn, 1) := by decide +kernel
theorem dX4_ofTwoSides_72 : decode cX4_ofTwoSides 72 = .ok (.iload_n 1, 1) := by decide +kernel
theorem dX4_ofTwoSides_73 : decode cX4_ofTwoSides 73 = .ok (.iload_n 2, 1) := by decide +kernel
theorem dX4_ofTwoSides_74 : decode cX4_ofTwoSides 74 = .ok (.isub, 1) := by decide +kernel
theorem dX4_ofTwoSides_75 : decode cX4_ofTwoSides 75 = .ok (.ireturn, 1) := by decide +kernel
theorem dX4_ofTwoSides_76 : decode cX4_ofTwoSides 76 = .ok (.iload_n 1, 1) := by decide +kernel
theorem dX4_ofTwoSides_77 : decode cX4_ofTwoSides 77 = .ok (.iload_n 2, 1) := by decide +kernel
theorem dX4_ofTwoSides_78 : decode cX4_ofTwoSides 78 = .ok (.imul, 1) := by decide +kernel
theorem dX4_ofTwoSides_79 : decode cX4_ofTwoSides 79 = .ok (.ireturn, 1) := by decide +kernel
theorem dX4_ofTwoSides_80 : decode cX4_ofTwoSides 80 = .ok (.iload_n 1, 1) := by decide +kernel
theorem dX4_ofTwoSides_81 : decode cX4_ofTwoSides 81 = .ok (.iload_n 2, 1) := by decide +kernel
theorem dX4_ofTwoSides_82 : decode cX4_ofTwoSides 82 = .ok (.invokestatic 260, 3) := by decide +kernel
theorem dX4_ofTwoSides_85 : decode cX4_ofTwoSides 85 = .ok (.ireturn, 1) := by decide +kernel
theorem dX4_ofTwoSides_86 : decode cX4_ofTwoSides 86 = .ok (.iload_n 1, 1) := by decide +kernel
theorem dX4_ofTwoSides_87 : decode cX4_ofTwoSides 87 = .ok (.iload_n 2, 1) := by decide +kernel
theorem dX4_ofTwoSides_88 : decode cX4_ofTwoSides 88 = .ok (.if_icmp .ge 7, 3) := by decide +kernel
theorem dX4_ofTwoSides_91 : decode cX4_ofTwoSides 91 = .ok (.iconst 1, 1) := by decide +kernel
theorem dX4_ofTwoSides_92 : decode cX4_ofTwoSides 92 = .ok (.goto 4, 3) := by decide +kernel
theorem dX4_ofTwoSides_95 : decode cX4_ofTwoSides 95 = .ok (.iconst 0, 1) := by decide +kernel
theorem dX4_ofTwoSides_96 : decode cX4_ofTwoSides 96 = .ok (.ireturn, 1) := by decide +kernel
theorem dX4_ofTwoSides_97 : decode cX4_ofTwoSides 97 = .ok (.iload_n 1, 1) := by decide +kernel
theorem dX4_ofTwoSides_98 : decode cX4_ofTwoSides 98 = .ok (.iload_n 2, 1) := by decide +kernel
theorem dX4_ofTwoSides_99 : decode cX4_ofTwoSides 99 = .ok (.if_icmp .le 7, 3) := by decide +kernel
theorem dX4_ofTwoSides_102 : decode cX4_ofTwoSides 102 = .ok (.iconst 1, 1) := by decide +kernel
theorem dX4_ofTwoSides_103 : decode cX4_ofTwoSides 103 = .ok (.goto 4, 3) := by decide +kernel
theorem dX4_ofTwoSides_106 : decode cX4_ofTwoSides 106 = .ok (.iconst 0, 1) := by decide +kernel
theorem dX4_ofTwoSides_107 : decode cX4_ofTwoSides 107 = .ok (.ireturn, 1) := by decide +kernel
theorem dX4_ofTwoSides_108 : decode cX4_ofTwoSides 108 = .ok (.iload_n 1, 1) := by decide +kernel
theorem dX4_ofTwoSides_109 : decode cX4_ofTwoSides 109 = .ok (.iload_n 2, 1) := by decide +kernel
theorem dX4_ofTwoSides_110 : decode cX4_ofTwoSides 110 = .ok (.if_icmp .ne 7, 3) := by decide +kernel
theorem dX4_ofTwoSides_113 : decode cX4_ofTwoSides 113 = .ok (.iconst 1, 1) := by decide +kernel
theorem dX4_ofTwoSides_114 : decode cX4_ofTwoSides 114 = .ok (.goto 4, 3) := by decide +kernel
theorem dX4_ofTwoSides_117 : decode cX4_ofTwoSides 117 = .ok (.iconst 0, 1) := by decide +kernel
theorem dX4_ofTwoSides_118 : decode cX4_ofTwoSides 118 = .ok (.ireturn, 1) := by decide +kernel
theorem dX4_ofTwoSides_119 : decode cX4_ofTwoSides 119 = .ok (.iload_n 1, 1) := by decide +kernel
theorem dX4_ofTwoSides_120 : decode cX4_ofTwoSides 120 = .ok (.iload_n 2, 1) := by decide +kernel
theorem dX4_ofTwoSides_121 : decode cX4_ofTwoSides 121 = .ok (.if_icmp .gt 7, 3) := by decide +kernel
theorem dX4_ofTwoSides_124 : decode cX4_ofTwoSides 124 = .ok (.iconst 1, 1) := by decide +kernel
theorem dX4_ofTwoSides_125 : decode cX4_ofTwoSides 125 = .ok (.goto 4, 3) := by decide +kernel
theorem dX4_ofTwoSides_128 : decode cX4_ofTwoSides 128 = .ok (.iconst 0, 1) := by decide +kernel
theorem dX4_ofTwoSides_129 : decode cX4_ofTwoSides 129 = .ok (.ireturn, 1) := by decide +kernel
theorem dX4_ofTwoSides_130 : decode cX4_ofTwoSides 130 = .ok (.iload_n 1, 1) := by decide +kernel
theorem dX4_ofTwoSides_131 : decode cX4_ofTwoSides 131 = .ok (.iload_n 2, 1) := by decide +kernel
theorem dX4_ofTwoSides_132 : decode cX4_ofTwoSides 132 = .ok (.if_icmp .lt 7, 3) := by decide +kernel
theorem dX4_ofTwoSides_135 : decode cX4_ofTwoSides 135 = .ok (.iconst 1, 1) := by decide +kernel
theorem dX4_ofTwoSides_136 : decode cX4_ofTwoSides 136 = .ok (.goto 4, 3) := by decide +kernel
theorem dX4_ofTwoSides_139 : decode cX4_ofTwoSides 139 = .ok (.iconst 0, 1) := by decide +kernel
theorem dX4_ofTwoSides_140 : decode cX4_ofTwoSides 140 = .ok (.ireturn, 1) := by decide +kernel
theorem dX4_ofTwoSides_141 : decode cX4_ofTwoSides 141 = .ok (.iload_n 1, 1) := by decide +kernel
theorem dX4_ofTwoSides_142 : decode cX4_ofTwoSides 142 = .ok (.iload_n 2, 1) := by decide +kernel
theorem dX4_ofTwoSides_143 : decode cX4_ofTwoSides 143 = .ok (.iand, 1) := by decide +kernel
theorem dX4_ofTwoSides_144 : decode cX4_ofTwoSides 144 = .ok (.ireturn, 1) := by decide +kernel
theorem dX4_ofTwoSides_145 : decode cX4_ofTwoSides 145 = .ok (.iload_n 1, 1) := by decide +kernel
theorem dX4_ofTwoSides_146 : decode cX4_ofTwoSides 146 = .ok (.iload_n 2, 1) := by decide +kernel
theorem dX4_ofTwoSides_147 : decode cX4_ofTwoSides 147 = .ok (.ior, 1) := by decide +kernel
theorem dX4_ofTwoSides_148 : decode cX4_ofTwoSides 148 = .ok (.ireturn, 1) := by decide +kernel
theorem dX4_ofTwoSides_149 : decode cX4_ofTwoSides 149 = .ok (.iload_n 1, 1) := by decide +kernel
theorem dX4_ofTwoSides_150 : decode cX4_ofTwoSides 150 = .ok (.iload_n 2, 1) := by decide +kernel
theorem dX4_ofTwoSides_151 : decode cX4_ofTwoSides 151 = .ok (.invokestatic 217, 3) := by decide +kernel
theorem dX4_ofTwoSides_154 : decode cX4_ofTwoSides 154 = .ok (.ireturn, 1) := by decide +kernel
theorem dX4_ofTwoSides_155 : decode cX4_ofTwoSides 155 = .ok (.iload_n 1, 1) := by decide +kernel
theorem dX4_ofTwoSides_156 : decode cX4_ofTwoSides 156 = .ok (.iload_n 2, 1) := by decide +kernel
theorem dX4_ofTwoSides_157 : decode cX4_ofTwoSides 157 = .ok (.invokestatic 209, 3) := by decide +kernel
theorem dX4_ofTwoSides_160 : decode cX4_ofTwoSides 160 = .ok (.ireturn, 1) := by decide +kernel
theorem dX4_ofTwoSides_161 : decode cX4_ofTwoSides 161 = .ok (.iconst 0, 1) := by decide +kernel
theorem dX4_ofTwoSides_162 : decode cX4_ofTwoSides 162 = .ok (.ireturn, 1) := by decide +kernel
theorem mi_X1_isCrew : MInfo yX1_isCrew cX1_isCrew 3 (some .boolean) 2 := ⟨wq_635, wq_81, by decide, ⟨by decide +kernel, by decide +kernel, by decide +kernel⟩, by decide +kernel⟩
theorem mi_X4_mostBreath : MInfo yX4_mostBreath cX4_mostBreath 2 (some .int) 1 := ⟨wq_776, wq_83, by decide, ⟨by decide +kernel, by decide +kernel, by decide +kernel⟩, by decide +kernel⟩
theorem mi_X4_boatsThatAre : MInfo yX4_boatsThatAre cX4_boatsThatAre 4 (some .int) 1 := ⟨wq_529, wq_83, by decide, ⟨by decide +kernel, by decide +kernel, by decide +kernel⟩, by decide +kernel⟩
theorem mi_X4_capsThatLie : MInfo yX4_capsThatLie cX4_capsThatLie 3 (some .int) 0 := ⟨wq_525, wq_83, by decide, ⟨by decide +kernel, by decide +kernel, by decide +kernel⟩, by decide +kernel⟩
theorem mi_X4_airOf : MInfo yX4_airOf cX4_airOf 5 (some .int) 2 := ⟨wq_518, wq_83, by decide, ⟨by decide +kernel, by decide +kernel, by decide +kernel⟩, by decide +kernel⟩
theorem mi_X4_airOfBore : MInfo yX4_airOfBore cX4_airOfBore 3 (some .int) 1 := ⟨wq_622, wq_83, by decide, ⟨by decide +kernel, by decide +kernel, by decide +kernel⟩, by decide +kernel⟩
theorem mi_X4_capsAt : MInfo yX4_capsAt cX4_capsAt 4 (some .int) 1 := ⟨wq_609, wq_83, by decide, ⟨by decide +kernel, by decide +kernel, by decide +kernel⟩, by decide +kernel⟩
theorem mi_X4_boatAt : MInfo yX4_boatAt cX4_boatAt 3 (some .int) 1 := ⟨wq_613, wq_83, by decide, ⟨by decide +kernel, by decide +kernel, by decide +kernel⟩, by decide +kernel⟩
theorem mi_X4_boatOf : MInfo yX4_boatOf cX4_boatOf 3 (some .int) 1 := ⟨wq_631, wq_83, by decide, ⟨by decide +kernel, by decide +kernel, by decide +kernel⟩, by decide +kernel⟩
theorem mi_X4_tally : MInfo yX4_tally cX4_tally 2 (some .int) 1 := ⟨wq_514, wq_83, by decide, ⟨by decide +kernel, by decide +kernel, by decide +kernel⟩, by decide +kernel⟩
theorem mi_X4_isDue : MInfo yX4_isDue cX4_isDue 2 (some .boolean) 1 := ⟨wq_658, wq_83, by decide, ⟨by decide +kernel, by decide +kernel, by decide +kernel⟩, by decide +kernel⟩
theorem mi_X4_isClear : MInfo yX4_isClear cX4_isClear 5 (some .boolean) 1 := ⟨wq_662, wq_83, by decide, ⟨by decide +kernel, by decide +kernel, by decide +kernel⟩, by decide +kernel⟩
theorem mi_X4_isReady : MInfo yX4_isReady cX4_isReady 2 (some .boolean) 1 := ⟨wq_666, wq_83, by decide, ⟨by decide +kernel, by decide +kernel, by decide +kernel⟩, by decide +kernel⟩
theorem mi_X4_strengthFor : MInfo yX4_strengthFor cX4_strengthFor 2 (some .int) 1 := ⟨wq_756, wq_83, by decide, ⟨by decide +kernel, by decide +kernel, by decide +kernel⟩, by decide +kernel⟩
theorem mi_X4_breathIn : MInfo yX4_breathIn cX4_breathIn 1 (some .int) 1 := ⟨wq_772, wq_83, by decide, ⟨by decide +kernel, by decide +kernel, by decide +kernel⟩, by decide +kernel⟩
theorem mi_X4_waitingAt : MInfo yX4_waitingAt cX4_waitingAt 4 (some .int) 1 := ⟨wq_683, wq_83, by decide, ⟨by decide +kernel, by decide +kernel, by decide +kernel⟩, by decide +kernel⟩
theorem mi_X4_leaf : MInfo yX4_leaf cX4_leaf 3 (some .int) 2 := ⟨wq_679, wq_83, by decide, ⟨by decide +kernel, by decide +kernel, by decide +kernel⟩, by decide +kernel⟩
theorem mi_X4_ofOneSide : MInfo yX4_ofOneSide cX4_ofOneSide 3 (some .int) 2 := ⟨wq_688, wq_83, by decide, ⟨by decide +kernel, by decide +kernel, by decide +kernel⟩, by decide +kernel⟩
theorem mi_X4_quotient : MInfo yX4_quotient cX4_quotient 2 (some .int) 2 := ⟨wq_694, wq_83, by decide, ⟨by decide +kernel, by decide +kernel, by decide +kernel⟩, by decide +kernel⟩
theorem mi_X4_ofTwoSides : MInfo yX4_ofTwoSides cX4_ofTwoSides 3 (some .int) 3 := ⟨wq_691, wq_83, by decide, ⟨by decide +kernel, by decide +kernel, by decide +kernel⟩, by decide +kernel⟩
def wp_X1_isCrew (P : M2) (F : M2) (x1 : Int32) (x2 : Int32) (K : Int32 → Prop) : Prop := (((atv (P 36) 8 x2) = x1 → K 1) ∧ (¬ (atv (P 36) 8 x2) = x1 → ((¬ (atv (P 37) 8 x2) = x1 → K 0) ∧ ((atv (P 37) 8 x2) = x1 → K 1))))
set_option maxRecDepth 100000 in
set_option maxHeartbeats 4000000 in
theorem c_X1_isCrew (l : Launch) (D : va_G) (Z : Nat → ClassId) (a q : Nat → Nat) (P : M2) (F : M2) (sz : Nat) (x1 : Int32) (x2 : Int32) (K : Int32 → Prop) (hm : wp_X1_isCrew P F x1 x2 K) : Met l yX1_isCrew (wy yX1_isCrew cX1_isCrew 3 (some .boolean)) (rk 1 0 0) (pre vwCl D Z (TW Z a q P F) sz [.ref (q 20), .int x1, .int x2]) (vp_Si K) 0 0 (fun _ => False) := by
  refine ro_of (ty := .boolean) (by decide +kernel) (Nat.le_of_ble_eq_true rfl) rfl ?_
  intro p e s m args below meth c Q hC hN hsz hP hD hK hret ls hl
  have hx := hC.1
  have hb := hC.2.1
  have hl : lv_has ls 3 [(0, .ref (q 20)), (1, .int x1), (2, .int x2)] := hl
  refine lv_aload_n hx hb dX1_isCrew_0 rfl (lv_at hl 0 rfl) ?_
  refine gTW_plan_16 hC hK hP wq_336 dX1_isCrew_1 ?_
  refine lv_iload_n hx hb dX1_isCrew_4 rfl (lv_at hl 2 rfl) ?_
  refine w_at (q0 := 24) hC hN hK hP wn_636 rfl (by decide) (by decide) hl.1 (Nat.le_of_ble_eq_true rfl) ⟨Nat.le_refl _, Nat.le_refl _⟩ dX1_isCrew_5 ?_
  refine lv_iload_n hx hb dX1_isCrew_8 rfl (lv_at hl 1 rfl) ?_
  refine lv_icmp_eq (tgt := 24) hx hb dX1_isCrew_9 (by decide) (fun c_9 => ?_) (fun c_9 => ?_)
  · have hm := hm.1 c_9
    refine lv_iconst (v := 1) hx hb dX1_isCrew_24 (by decide) ?_
    refine lv_goto (tgt := 29) hx hb dX1_isCrew_25 (by decide) ?_
    exact hret 29 _ _ hm rfl dX1_isCrew_29
  · have hm := hm.2 c_9
    refine lv_aload_n hx hb dX1_isCrew_12 rfl (lv_at hl 0 rfl) ?_
    refine gTW_plan_17 hC hK hP wq_339 dX1_isCrew_13 ?_
    refine lv_iload_n hx hb dX1_isCrew_16 rfl (lv_at hl 2 rfl) ?_
    refine w_at (q0 := 25) hC hN hK hP wn_636 rfl (by decide) (by decide) hl.1 (Nat.le_of_ble_eq_true rfl) ⟨Nat.le_refl _, Nat.le_refl _⟩ dX1_isCrew_17 ?_
    refine lv_iload_n hx hb dX1_isCrew_20 rfl (lv_at hl 1 rfl) ?_
    refine lv_icmp_ne (tgt := 28) hx hb dX1_isCrew_21 (by decide) (fun c_21 => ?_) (fun c_21 => ?_)
    · have hm := hm.1 c_21
      refine lv_iconst (v := 0) hx hb dX1_isCrew_28 (by decide) ?_
      exact hret 29 _ _ hm rfl dX1_isCrew_29
    · have hm := hm.2 c_21
      refine lv_iconst (v := 1) hx hb dX1_isCrew_24 (by decide) ?_
      refine lv_goto (tgt := 29) hx hb dX1_isCrew_25 (by decide) ?_
      exact hret 29 _ _ hm rfl dX1_isCrew_29
section KX1_isCrew
variable {p : Program} {l : Launch} {e : Env} {s : State} {m : MethodId} {args : Array Value} {below : List Frame} {meth : Method} {c : Code} {H H0 : Heap} {locs : List Loc} {cells slots : Nat} {Q : State → Prop} {R : Room} {rn mcR msR : Nat}
variable {pc : Nat} {ls : Array Slot} {rest : List Value} {A : Nat → Prop} {D : va_G}
variable {cc : ByteArray} {nL index : Nat} {own host : String}
theorem k_X1_isCrew {Z : Nat → ClassId} {a q : Nat → Nat} {P : M2} {F : M2} {x1 : Int32} {x2 : Int32} {K : Int32 → Prop} (hC : CallFix p m c cc nL s args lw_g own) (hN : NW s) (hK : va_K D vwCl (tysG Z) s) (hP : va_P D vwCl (TW Z a q P F) H) (hD : va_D (fun _ => True) (TW Z a q P F)) (hm : wp_X1_isCrew P F x1 x2 K) (hl : Cond.methodLink own index yX1_isCrew ∈ lw_g) (hlt : 1 < rn) (hsize : ls.size = nL) (hW : (rest.map fun v => v.category).sum ≤ 8) (hf : cells + 0 ≤ mcR ∧ slots + 0 ≤ msR) (hdg : decode cc pc = .ok (.invokevirtual index, 3)) (kk : ∀ r : Int32, K r → W p l e (rk rn mcR msR) s m args below meth c H locs cells slots Q (F0 m (pc + 3) ls (.int r :: rest))) : W p l e (rk rn mcR msR) s m args below meth c H locs cells slots Q (F0 m pc ls (.int x2 :: .int x1 :: .ref (q 20) :: rest)) :=
  ro_go (runV (As := [.int x1, .int x2]) hC hN (c_X1_isCrew l D Z a q P F H.size x1 x2 K hm) mi_X1_isCrew hl wq_633 wq_634 hlt hP hD hK (q0 := 12) rfl rfl rfl hsize rfl hW hdg hf) kk
end KX1_isCrew
def wp_X4_mostBreath (P : M2) (F : M2) (x1 : Int32) (K : Int32 → Prop) : Prop := K (10 * (atv (P 32) 6 x1))
set_option maxRecDepth 100000 in
set_option maxHeartbeats 4000000 in
theorem c_X4_mostBreath (l : Launch) (D : va_G) (Z : Nat → ClassId) (a q : Nat → Nat) (P : M2) (F : M2) (sz : Nat) (x1 : Int32) (K : Int32 → Prop) (hm : wp_X4_mostBreath P F x1 K) : Met l yX4_mostBreath (wy yX4_mostBreath cX4_mostBreath 2 (some .int)) (rk 1 0 0) (pre vwCl D Z (TW Z a q P F) sz [.ref (a 0), .int x1]) (vp_Si K) 0 0 (fun _ => False) := by
  refine ro_of (ty := .int) (by decide +kernel) (Nat.le_of_ble_eq_true rfl) rfl ?_
  intro p e s m args below meth c Q hC hN hsz hP hD hK hret ls hl
  have hx := hC.1
  have hb := hC.2.1
  have hl : lv_has ls 2 [(0, .ref (a 0)), (1, .int x1)] := hl
  refine lv_bipush (v := 10) hx hb dX4_mostBreath_0 (by decide) ?_
  refine lv_aload_n hx hb dX4_mostBreath_2 rfl (lv_at hl 0 rfl) ?_
  refine gTW_tun_0 hC hK hP wq_425 dX4_mostBreath_3 ?_
  refine gTW_plan_12 hC hK hP wq_327 dX4_mostBreath_6 ?_
  refine lv_iload_n hx hb dX4_mostBreath_9 rfl (lv_at hl 1 rfl) ?_
  refine w_at (q0 := 20) hC hN hK hP wn_519 rfl (by decide) (by decide) hl.1 (Nat.le_of_ble_eq_true rfl) ⟨Nat.le_refl _, Nat.le_refl _⟩ dX4_mostBreath_10 ?_
  refine lv_imul hx hb dX4_mostBreath_13 ?_
  exact hret 14 _ _ hm rfl dX4_mostBreath_14
section KX4_mostBreath
variable {p : Program} {l : Launch} {e : Env} {s : State} {m : MethodId} {args : Array Value} {below : List Frame} {meth : Method} {c : Code} {H H0 : Heap} {locs : List Loc} {cells slots : Nat} {Q : State → Prop} {R : Room} {rn mcR msR : Nat}
variable {pc : Nat} {ls : Array Slot} {rest : List Value} {A : Nat → Prop} {D : va_G}
variable {cc : ByteArray} {nL index : Nat} {own host : String}
theorem k_X4_mostBreath {Z : Nat → ClassId} {a q : Nat → Nat} {P : M2} {F : M2} {x1 : Int32} {K : Int32 → Prop} (hC : CallFix p m c cc nL s args lw_g own) (hN : NW s) (hK : va_K D vwCl (tysG Z) s) (hP : va_P D vwCl (TW Z a q P F) H) (hD : va_D (fun _ => True) (TW Z a q P F)) (hm : wp_X4_mostBreath P F x1 K) (hl : Cond.methodLink own index yX4_mostBreath ∈ lw_g) (hlt : 1 < rn) (hsize : ls.size = nL) (hW : (rest.map fun v => v.category).sum ≤ 8) (hf : cells + 0 ≤ mcR ∧ slots + 0 ≤ msR) (hdg : decode cc pc = .ok (.invokevirtual index, 3)) (kk : ∀ r : Int32, K r → W p l e (rk rn mcR msR) s m args below meth c H locs cells slots Q (F0 m (pc + 3) ls (.int r :: rest))) : W p l e (rk rn mcR msR) s m args below meth c H locs cells slots Q (F0 m pc ls (.int x1 :: .ref (a 0) :: rest)) :=
  ro_go (runV (As := [.int x1]) hC hN (c_X4_mostBreath l D Z a q P F H.size x1 K hm) mi_X4_mostBreath hl wq_775 wq_22 hlt hP hD hK (q0 := 0) rfl rfl rfl hsize rfl hW hdg hf) kk
end KX4_mostBreath
def wl_X4_boatsThatAre_4 (P : M2) (F : M2) (K : Int32 → Prop) : Nat → Int32 → Int32 → Int32 → Prop
  | 0, _, _, _ => False
  | n + 1, v1, v2, v3 => (((P 24 0) ≤ v3 → K v2) ∧ (¬ (P 24 0) ≤ v3 → ((¬ (atv (F 10) 8 v3) = v1 → (∀ v2_34, v2_34 = v2 + 0 → (∀ v3_35 : Int32, v3_35 = v3 + 1 → wl_X4_boatsThatAre_4 P F K n v1 v2_34 v3_35))) ∧ ((atv (F 10) 8 v3) = v1 → (∀ v2_34, v2_34 = v2 + 1 → (∀ v3_35 : Int32, v3_35 = v3 + 1 → wl_X4_boatsThatAre_4 P F K n v1 v2_34 v3_35))))))
def wp_X4_boatsThatAre (P : M2) (F : M2) (x1 : Int32) (K : Int32 → Prop) : Prop := wl_X4_boatsThatAre_4 P F K fK x1 0 0
set_option maxRecDepth 100000 in
set_option maxHeartbeats 4000000 in
theorem c_X4_boatsThatAre (l : Launch) (D : va_G) (Z : Nat → ClassId) (a q : Nat → Nat) (P : M2) (F : M2) (sz : Nat) (x1 : Int32) (K : Int32 → Prop) (hm : wp_X4_boatsThatAre P F x1 K) : Met l yX4_boatsThatAre (wy yX4_boatsThatAre cX4_boatsThatAre 4 (some .int)) (rk 1 0 0) (pre vwCl D Z (TW Z a q P F) sz [.ref (a 0), .int x1]) (vp_Si K) 0 0 (fun _ => False) := by
  refine ro_of (ty := .int) (by decide +kernel) (Nat.le_of_ble_eq_true rfl) rfl ?_
  intro p e s m args below meth c Q hC hN hsz hP hD hK hret ls hl
  have hx := hC.1
  have hb := hC.2.1
  have hl : lv_has ls 4 [(0, .ref (a 0)), (1, .int x1)] := hl
  have L4 : ∀ (n4 : Nat), ∀ (v1 : Int32) (v2 : Int32) (v3 : Int32) (ls : Array Slot), wl_X4_boatsThatAre_4 P F K n4 v1 v2 v3 → lv_has ls 4 [(0, .ref (a 0)), (1, .int v1), (2, .int v2), (3, .int v3)] → W p l e (rk 1 0 0) s m args below meth c s.heap [] 0 0 Q (F0 m 4 ls []) := by
    intro n4
    induction n4 with
    | zero =>
      intro v1 v2 v3 ls hm hl
      exact False.elim hm
    | succ n4 ih4 =>
      intro v1 v2 v3 ls hm hl
      refine lv_iload_n hx hb dX4_boatsThatAre_4 rfl (lv_at hl 3 rfl) ?_
      refine lv_aload_n hx hb dX4_boatsThatAre_5 rfl (lv_at hl 0 rfl) ?_
      refine gTW_tun_0 hC hK hP wq_425 dX4_boatsThatAre_6 ?_
      refine gTW_plan_4 hC hK hP wq_304 dX4_boatsThatAre_9 ?_
      refine lv_icmp_ge (tgt := 41) hx hb dX4_boatsThatAre_12 (by decide) (fun c_12 => ?_) (fun c_12 => ?_)
      · have hm := hm.1 c_12
        refine lv_iload_n hx hb dX4_boatsThatAre_41 rfl (lv_at hl 2 rfl) ?_
        exact hret 42 _ _ hm rfl dX4_boatsThatAre_42
      · have hm := hm.2 c_12
        refine lv_iload_n hx hb dX4_boatsThatAre_15 rfl (lv_at hl 2 rfl) ?_
        refine lv_aload_n hx hb dX4_boatsThatAre_16 rfl (lv_at hl 0 rfl) ?_
        refine gTW_tun_10 hC hK hP wq_445 dX4_boatsThatAre_17 ?_
        refine lv_iload_n hx hb dX4_boatsThatAre_20 rfl (lv_at hl 3 rfl) ?_
        refine w_at (q0 := 7) hC hN hK hP wn_519 rfl (by decide) (by decide) hl.1 (Nat.le_of_ble_eq_true rfl) ⟨Nat.le_refl _, Nat.le_refl _⟩ dX4_boatsThatAre_21 ?_
        refine lv_iload_n hx hb dX4_boatsThatAre_24 rfl (lv_at hl 1 rfl) ?_
        refine lv_icmp_ne (tgt := 32) hx hb dX4_boatsThatAre_25 (by decide) (fun c_25 => ?_) (fun c_25 => ?_)
        · have hm := hm.1 c_25
          refine lv_iconst (v := 0) hx hb dX4_boatsThatAre_32 (by decide) ?_
          refine lv_iadd hx hb dX4_boatsThatAre_33 ?_
          refine lv_topi (fun v2_34 ev2_34 => ?_)
          have hm := hm v2_34 ev2_34
          refine lv_istore_n (lv' := [(2, .int v2_34), (0, .ref (a 0)), (1, .int v1), (3, .int v3)]) hx hb dX4_boatsThatAre_34 rfl hl (by decide) rfl (fun ls hl => ?_)
          obtain ⟨v3_35, ev3_35⟩ : ∃ y : Int32, y = v3 + 1 := ⟨_, rfl⟩
          have hm := hm v3_35 ev3_35
          refine lv_iinc (v := v3_35) (lv' := [(3, .int v3_35), (2, .int v2_34), (0, .ref (a 0)), (1, .int v1)]) hx hb dX4_boatsThatAre_35 hl (k := 3) rfl (by rw [ev3_35]; rfl) (by decide) rfl (fun ls hl => ?_)
          refine lv_goto (tgt := 4) hx hb dX4_boatsThatAre_38 (by decide) ?_
          exact ih4 _ _ _ _ hm (lv_sub hl [2, 3, 1, 0] rfl)
        · have hm := hm.2 c_25
          refine lv_iconst (v := 1) hx hb dX4_boatsThatAre_28 (by decide) ?_
          refine lv_goto (tgt := 33) hx hb dX4_boatsThatAre_29 (by decide) ?_
          refine lv_iadd hx hb dX4_boatsThatAre_33 ?_
          refine lv_topi (fun v2_34 ev2_34 => ?_)
          have hm := hm v2_34 ev2_34
          refine lv_istore_n (lv' := [(2, .int v2_34), (0, .ref (a 0)), (1, .int v1), (3, .int v3)]) hx hb dX4_boatsThatAre_34 rfl hl (by decide) rfl (fun ls hl => ?_)
          obtain ⟨v3_35, ev3_35⟩ : ∃ y : Int32, y = v3 + 1 := ⟨_, rfl⟩
          have hm := hm v3_35 ev3_35
          refine lv_iinc (v := v3_35) (lv' := [(3, .int v3_35), (2, .int v2_34), (0, .ref (a 0)), (1, .int v1)]) hx hb dX4_boatsThatAre_35 hl (k := 3) rfl (by rw [ev3_35]; rfl) (by decide) rfl (fun ls hl => ?_)
          refine lv_goto (tgt := 4) hx hb dX4_boatsThatAre_38 (by decide) ?_
          exact ih4 _ _ _ _ hm (lv_sub hl [2, 3, 1, 0] rfl)
  refine lv_iconst (v := 0) hx hb dX4_boatsThatAre_0 (by decide) ?_
  refine lv_istore_n (lv' := [(2, .int 0), (0, .ref (a 0)), (1, .int x1)]) hx hb dX4_boatsThatAre_1 rfl hl (by decide) rfl (fun ls hl => ?_)
  refine lv_iconst (v := 0) hx hb dX4_boatsThatAre_2 (by decide) ?_
  refine lv_istore_n (lv' := [(3, .int 0), (2, .int 0), (0, .ref (a 0)), (1, .int x1)]) hx hb dX4_boatsThatAre_3 rfl hl (by decide) rfl (fun ls hl => ?_)
  exact L4 _ _ _ _ _ hm (lv_sub hl [2, 3, 1, 0] rfl)
section KX4_boatsThatAre
variable {p : Program} {l : Launch} {e : Env} {s : State} {m : MethodId} {args : Array Value} {below : List Frame} {meth : Method} {c : Code} {H H0 : Heap} {locs : List Loc} {cells slots : Nat} {Q : State → Prop} {R : Room} {rn mcR msR : Nat}
variable {pc : Nat} {ls : Array Slot} {rest : List Value} {A : Nat → Prop} {D : va_G}
variable {cc : ByteArray} {nL index : Nat} {own host : String}
theorem k_X4_boatsThatAre {Z : Nat → ClassId} {a q : Nat → Nat} {P : M2} {F : M2} {x1 : Int32} {K : Int32 → Prop} (hC : CallFix p m c cc nL s args lw_g own) (hN : NW s) (hK : va_K D vwCl (tysG Z) s) (hP : va_P D vwCl (TW Z a q P F) H) (hD : va_D (fun _ => True) (TW Z a q P F)) (hm : wp_X4_boatsThatAre P F x1 K) (hl : Cond.methodLink own index yX4_boatsThatAre ∈ lw_g) (hlt : 1 < rn) (hsize : ls.size = nL) (hW : (rest.map fun v => v.category).sum ≤ 8) (hf : cells + 0 ≤ mcR ∧ slots + 0 ≤ msR) (hdg : decode cc pc = .ok (.invokevirtual index, 3)) (kk : ∀ r : Int32, K r → W p l e (rk rn mcR msR) s m args below meth c H locs cells slots Q (F0 m (pc + 3) ls (.int r :: rest))) : W p l e (rk rn mcR msR) s m args below meth c H locs cells slots Q (F0 m pc ls (.int x1 :: .ref (a 0) :: rest)) :=
  ro_go (runV (As := [.int x1]) hC hN (c_X4_boatsThatAre l D Z a q P F H.size x1 K hm) mi_X4_boatsThatAre hl wq_528 wq_3 hlt hP hD hK (q0 := 0) rfl rfl rfl hsize rfl hW hdg hf) kk
end KX4_boatsThatAre
def wl_X4_capsThatLie_4 (P : M2) (F : M2) (K : Int32 → Prop) : Nat → Int32 → Int32 → Prop
  | 0, _, _ => False
  | n + 1, v1, v2 => (((P 23 0) ≤ v2 → K v1) ∧ (¬ (P 23 0) ≤ v2 → (((atv (F 7) 6 v2) = ((-1)) → (∀ v1_34, v1_34 = v1 + 0 → (∀ v2_35 : Int32, v2_35 = v2 + 1 → wl_X4_capsThatLie_4 P F K n v1_34 v2_35))) ∧ (¬ (atv (F 7) 6 v2) = ((-1)) → (∀ v1_34, v1_34 = v1 + 1 → (∀ v2_35 : Int32, v2_35 = v2 + 1 → wl_X4_capsThatLie_4 P F K n v1_34 v2_35))))))
def wp_X4_capsThatLie (P : M2) (F : M2) (K : Int32 → Prop) : Prop := wl_X4_capsThatLie_4 P F K fK 0 0
set_option maxRecDepth 100000 in
set_option maxHeartbeats 4000000 in
theorem c_X4_capsThatLie (l : Launch) (D : va_G) (Z : Nat → ClassId) (a q : Nat → Nat) (P : M2) (F : M2) (sz : Nat) (K : Int32 → Prop) (hm : wp_X4_capsThatLie P F K) : Met l yX4_capsThatLie (wy yX4_capsThatLie cX4_capsThatLie 3 (some .int)) (rk 1 0 0) (pre vwCl D Z (TW Z a q P F) sz [.ref (a 0)]) (vp_Si K) 0 0 (fun _ => False) := by
  refine ro_of (ty := .int) (by decide +kernel) (Nat.le_of_ble_eq_true rfl) rfl ?_
  intro p e s m args below meth c Q hC hN hsz hP hD hK hret ls hl
  have hx := hC.1
  have hb := hC.2.1
  have hl : lv_has ls 3 [(0, .ref (a 0))] := hl
  have L4 : ∀ (n4 : Nat), ∀ (v1 : Int32) (v2 : Int32) (ls : Array Slot), wl_X4_capsThatLie_4 P F K n4 v1 v2 → lv_has ls 3 [(0, .ref (a 0)), (1, .int v1), (2, .int v2)] → W p l e (rk 1 0 0) s m args below meth c s.heap [] 0 0 Q (F0 m 4 ls []) := by
    intro n4
    induction n4 with
    | zero =>
      intro v1 v2 ls hm hl
      exact False.elim hm
    | succ n4 ih4 =>
      intro v1 v2 ls hm hl
      refine lv_iload_n hx hb dX4_capsThatLie_4 rfl (lv_at hl 2 rfl) ?_
      refine lv_aload_n hx hb dX4_capsThatLie_5 rfl (lv_at hl 0 rfl) ?_
      refine gTW_tun_0 hC hK hP wq_425 dX4_capsThatLie_6 ?_
      refine gTW_plan_3 hC hK hP wq_300 dX4_capsThatLie_9 ?_
      refine lv_icmp_ge (tgt := 41) hx hb dX4_capsThatLie_12 (by decide) (fun c_12 => ?_) (fun c_12 => ?_)
      · have hm := hm.1 c_12
        refine lv_iload_n hx hb dX4_capsThatLie_41 rfl (lv_at hl 1 rfl) ?_
        exact hret 42 _ _ hm rfl dX4_capsThatLie_42
      · have hm := hm.2 c_12
        refine lv_iload_n hx hb dX4_capsThatLie_15 rfl (lv_at hl 1 rfl) ?_
        refine lv_aload_n hx hb dX4_capsThatLie_16 rfl (lv_at hl 0 rfl) ?_
        refine gTW_tun_7 hC hK hP wq_439 dX4_capsThatLie_17 ?_
        refine lv_iload_n hx hb dX4_capsThatLie_20 rfl (lv_at hl 2 rfl) ?_
        refine w_at (q0 := 4) hC hN hK hP wn_519 rfl (by decide) (by decide) hl.1 (Nat.le_of_ble_eq_true rfl) ⟨Nat.le_refl _, Nat.le_refl _⟩ dX4_capsThatLie_21 ?_
        refine lv_iconst (v := (-1)) hx hb dX4_capsThatLie_24 (by decide) ?_
        refine lv_icmp_eq (tgt := 32) hx hb dX4_capsThatLie_25 (by decide) (fun c_25 => ?_) (fun c_25 => ?_)
        · have hm := hm.1 c_25
          refine lv_iconst (v := 0) hx hb dX4_capsThatLie_32 (by decide) ?_
          refine lv_iadd hx hb dX4_capsThatLie_33 ?_
          refine lv_topi (fun v1_34 ev1_34 => ?_)
          have hm := hm v1_34 ev1_34
          refine lv_istore_n (lv' := [(1, .int v1_34), (0, .ref (a 0)), (2, .int v2)]) hx hb dX4_capsThatLie_34 rfl hl (by decide) rfl (fun ls hl => ?_)
          obtain ⟨v2_35, ev2_35⟩ : ∃ y : Int32, y = v2 + 1 := ⟨_, rfl⟩
          have hm := hm v2_35 ev2_35
          refine lv_iinc (v := v2_35) (lv' := [(2, .int v2_35), (1, .int v1_34), (0, .ref (a 0))]) hx hb dX4_capsThatLie_35 hl (k := 2) rfl (by rw [ev2_35]; rfl) (by decide) rfl (fun ls hl => ?_)
          refine lv_goto (tgt := 4) hx hb dX4_capsThatLie_38 (by decide) ?_
          exact ih4 _ _ _ hm (lv_sub hl [2, 1, 0] rfl)
        · have hm := hm.2 c_25
          refine lv_iconst (v := 1) hx hb dX4_capsThatLie_28 (by decide) ?_
          refine lv_goto (tgt := 33) hx hb dX4_capsThatLie_29 (by decide) ?_
          refine lv_iadd hx hb dX4_capsThatLie_33 ?_
          refine lv_topi (fun v1_34 ev1_34 => ?_)
          have hm := hm v1_34 ev1_34
          refine lv_istore_n (lv' := [(1, .int v1_34), (0, .ref (a 0)), (2, .int v2)]) hx hb dX4_capsThatLie_34 rfl hl (by decide) rfl (fun ls hl => ?_)
          obtain ⟨v2_35, ev2_35⟩ : ∃ y : Int32, y = v2 + 1 := ⟨_, rfl⟩
          have hm := hm v2_35 ev2_35
          refine lv_iinc (v := v2_35) (lv' := [(2, .int v2_35), (1, .int v1_34), (0, .ref (a 0))]) hx hb dX4_capsThatLie_35 hl (k := 2) rfl (by rw [ev2_35]; rfl) (by decide) rfl (fun ls hl => ?_)
          refine lv_goto (tgt := 4) hx hb dX4_capsThatLie_38 (by decide) ?_
          exact ih4 _ _ _ hm (lv_sub hl [2, 1, 0] rfl)
  refine lv_iconst (v := 0) hx hb dX4_capsThatLie_0 (by decide) ?_
  refine lv_istore_n (lv' := [(1, .int 0), (0, .ref (a 0))]) hx hb dX4_capsThatLie_1 rfl hl (by decide) rfl (fun ls hl => ?_)
  refine lv_iconst (v := 0) hx hb dX4_capsThatLie_2 (by decide) ?_
  refine lv_istore_n (lv' := [(2, .int 0), (1, .int 0), (0, .ref (a 0))]) hx hb dX4_capsThatLie_3 rfl hl (by decide) rfl (fun ls hl => ?_)
  exact L4 _ _ _ _ hm (lv_sub hl [2, 1, 0] rfl)
section KX4_capsThatLie
variable {p : Program} {l : Launch} {e : Env} {s : State} {m : MethodId} {args : Array Value} {below : List Frame} {meth : Method} {c : Code} {H H0 : Heap} {locs : List Loc} {cells slots : Nat} {Q : State → Prop} {R : Room} {rn mcR msR : Nat}
variable {pc : Nat} {ls : Array Slot} {rest : List Value} {A : Nat → Prop} {D : va_G}
variable {cc : ByteArray} {nL index : Nat} {own host : String}
theorem k_X4_capsThatLie {Z : Nat → ClassId} {a q : Nat → Nat} {P : M2} {F : M2} {K : Int32 → Prop} (hC : CallFix p m c cc nL s args lw_g own) (hN : NW s) (hK : va_K D vwCl (tysG Z) s) (hP : va_P D vwCl (TW Z a q P F) H) (hD : va_D (fun _ => True) (TW Z a q P F)) (hm : wp_X4_capsThatLie P F K) (hl : Cond.methodLink own index yX4_capsThatLie ∈ lw_g) (hlt : 1 < rn) (hsize : ls.size = nL) (hW : (rest.map fun v => v.category).sum ≤ 8) (hf : cells + 0 ≤ mcR ∧ slots + 0 ≤ msR) (hdg : decode cc pc = .ok (.invokevirtual index, 3)) (kk : ∀ r : Int32, K r → W p l e (rk rn mcR msR) s m args below meth c H locs cells slots Q (F0 m (pc + 3) ls (.int r :: rest))) : W p l e (rk rn mcR msR) s m args below meth c H locs cells slots Q (F0 m pc ls (.ref (a 0) :: rest)) :=
  ro_go (runV (As := []) hC hN (c_X4_capsThatLie l D Z a q P F H.size K hm) mi_X4_capsThatLie hl wq_524 wq_2 hlt hP hD hK (q0 := 0) rfl rfl rfl hsize rfl hW hdg hf) kk
end KX4_capsThatLie
def wl_X4_airOf_5 (P : M2) (F : M2) (K : Int32 → Prop) : Nat → Int32 → Int32 → Int32 → Prop
  | 0, _, _, _ => False
  | n + 1, v2, v3, v4 => ((v2 ≤ v4 → K v3) ∧ (¬ v2 ≤ v4 → (∀ v3_22, v3_22 = v3 + (atv (F 4) 60 v4) → (∀ v4_23 : Int32, v4_23 = v4 + 1 → wl_X4_airOf_5 P F K n v2 v3_22 v4_23))))
def wp_X4_airOf (P : M2) (F : M2) (x1 : Int32) (x2 : Int32) (K : Int32 → Prop) : Prop := wl_X4_airOf_5 P F K fK x2 0 x1
set_option maxRecDepth 100000 in
set_option maxHeartbeats 4000000 in
theorem c_X4_airOf (l : Launch) (D : va_G) (Z : Nat → ClassId) (a q : Nat → Nat) (P : M2) (F : M2) (sz : Nat) (x1 : Int32) (x2 : Int32) (K : Int32 → Prop) (hm : wp_X4_airOf P F x1 x2 K) : Met l yX4_airOf (wy yX4_airOf cX4_airOf 5 (some .int)) (rk 1 0 0) (pre vwCl D Z (TW Z a q P F) sz [.ref (a 0), .int x1, .int x2]) (vp_Si K) 0 0 (fun _ => False) := by
  refine ro_of (ty := .int) (by decide +kernel) (Nat.le_of_ble_eq_true rfl) rfl ?_
  intro p e s m args below meth c Q hC hN hsz hP hD hK hret ls hl
  have hx := hC.1
  have hb := hC.2.1
  have hl : lv_has ls 5 [(0, .ref (a 0)), (1, .int x1), (2, .int x2)] := hl
  have L5 : ∀ (n5 : Nat), ∀ (v2 : Int32) (v3 : Int32) (v4 : Int32) (ls : Array Slot), wl_X4_airOf_5 P F K n5 v2 v3 v4 → lv_has ls 5 [(0, .ref (a 0)), (2, .int v2), (3, .int v3), (4, .int v4)] → W p l e (rk 1 0 0) s m args below meth c s.heap [] 0 0 Q (F0 m 5 ls []) := by
    intro n5
    induction n5 with
    | zero =>
      intro v2 v3 v4 ls hm hl
      exact False.elim hm
    | succ n5 ih5 =>
      intro v2 v3 v4 ls hm hl
      refine lv_iload hx hb dX4_airOf_5 (lv_at hl 3 rfl) ?_
      refine lv_iload_n hx hb dX4_airOf_7 rfl (lv_at hl 1 rfl) ?_
      refine lv_icmp_ge (tgt := 29) hx hb dX4_airOf_8 (by decide) (fun c_8 => ?_) (fun c_8 => ?_)
      · have hm := hm.1 c_8
        refine lv_iload_n hx hb dX4_airOf_29 rfl (lv_at hl 2 rfl) ?_
        exact hret 30 _ _ hm rfl dX4_airOf_30
      · have hm := hm.2 c_8
        refine lv_iload_n hx hb dX4_airOf_11 rfl (lv_at hl 2 rfl) ?_
        refine lv_aload_n hx hb dX4_airOf_12 rfl (lv_at hl 0 rfl) ?_
        refine gTW_tun_4 hC hK hP wq_433 dX4_airOf_13 ?_
        refine lv_iload hx hb dX4_airOf_16 (lv_at hl 3 rfl) ?_
        refine w_at (q0 := 1) hC hN hK hP wn_519 rfl (by decide) (by decide) hl.1 (Nat.le_of_ble_eq_true rfl) ⟨Nat.le_refl _, Nat.le_refl _⟩ dX4_airOf_18 ?_
        refine lv_iadd hx hb dX4_airOf_21 ?_
        refine lv_topi (fun v3_22 ev3_22 => ?_)
        have hm := hm v3_22 ev3_22
        refine lv_istore_n (lv' := [(3, .int v3_22), (0, .ref (a 0)), (2, .int v2), (4, .int v4)]) hx hb dX4_airOf_22 rfl hl (by decide) rfl (fun ls hl => ?_)
        obtain ⟨v4_23, ev4_23⟩ : ∃ y : Int32, y = v4 + 1 := ⟨_, rfl⟩
        have hm := hm v4_23 ev4_23
        refine lv_iinc (v := v4_23) (lv' := [(4, .int v4_23), (3, .int v3_22), (0, .ref (a 0)), (2, .int v2)]) hx hb dX4_airOf_23 hl (k := 3) rfl (by rw [ev4_23]; rfl) (by decide) rfl (fun ls hl => ?_)
        refine lv_goto (tgt := 5) hx hb dX4_airOf_26 (by decide) ?_
        exact ih5 _ _ _ _ hm (lv_sub hl [2, 3, 1, 0] rfl)
  refine lv_iconst (v := 0) hx hb dX4_airOf_0 (by decide) ?_
  refine lv_istore_n (lv' := [(3, .int 0), (0, .ref (a 0)), (1, .int x1), (2, .int x2)]) hx hb dX4_airOf_1 rfl hl (by decide) rfl (fun ls hl => ?_)
  refine lv_iload_n hx hb dX4_airOf_2 rfl (lv_at hl 2 rfl) ?_
  refine lv_istore (lv' := [(4, .int x1), (3, .int 0), (0, .ref (a 0)), (1, .int x1), (2, .int x2)]) hx hb dX4_airOf_3 hl (by decide) rfl (fun ls hl => ?_)
  exact L5 _ _ _ _ _ hm (lv_sub hl [2, 4, 1, 0] rfl)
section KX4_airOf
variable {p : Program} {l : Launch} {e : Env} {s : State} {m : MethodId} {args : Array Value} {below : List Frame} {meth : Method} {c : Code} {H H0 : Heap} {locs : List Loc} {cells slots : Nat} {Q : State → Prop} {R : Room} {rn mcR msR : Nat}
variable {pc : Nat} {ls : Array Slot} {rest : List Value} {A : Nat → Prop} {D : va_G}
variable {cc : ByteArray} {nL index : Nat} {own host : String}
theorem k_X4_airOf {Z : Nat → ClassId} {a q : Nat → Nat} {P : M2} {F : M2} {x1 : Int32} {x2 : Int32} {K : Int32 → Prop} (hC : CallFix p m c cc nL s args lw_g own) (hN : NW s) (hK : va_K D vwCl (tysG Z) s) (hP : va_P D vwCl (TW Z a q P F) H) (hD : va_D (fun _ => True) (TW Z a q P F)) (hm : wp_X4_airOf P F x1 x2 K) (hl : Cond.methodLink own index yX4_airOf ∈ lw_g) (hlt : 1 < rn) (hsize : ls.size = nL) (hW : (rest.map fun v => v.category).sum ≤ 8) (hf : cells + 0 ≤ mcR ∧ slots + 0 ≤ msR) (hdg : decode cc pc = .ok (.invokevirtual index, 3)) (kk : ∀ r : Int32, K r → W p l e (rk rn mcR msR) s m args below meth c H locs cells slots Q (F0 m (pc + 3) ls (.int r :: rest))) : W p l e (rk rn mcR msR) s m args below meth c H locs cells slots Q (F0 m pc ls (.int x2 :: .int x1 :: .ref (a 0) :: rest)) :=
  ro_go (runV (As := [.int x1, .int x2]) hC hN (c_X4_airOf l D Z a q P F H.size x1 x2 K hm) mi_X4_airOf hl wq_517 wq_1 hlt hP hD hK (q0 := 0) rfl rfl rfl hsize rfl hW hdg hf) kk
end KX4_airOf
def wp_X4_airOfBore (P : M2) (F : M2) (x1 : Int32) (K : Int32 → Prop) : Prop := (∀ v2_11, v2_11 = atv (P 27) 5 x1 → wp_X4_airOf P F v2_11 (v2_11 + (atv (P 25) 5 x1)) (fun r_27 => K r_27))
set_option maxRecDepth 100000 in
set_option maxHeartbeats 4000000 in
theorem c_X4_airOfBore (l : Launch) (D : va_G) (Z : Nat → ClassId) (a q : Nat → Nat) (P : M2) (F : M2) (sz : Nat) (x1 : Int32) (K : Int32 → Prop) (hm : wp_X4_airOfBore P F x1 K) : Met l yX4_airOfBore (wy yX4_airOfBore cX4_airOfBore 3 (some .int)) (rk 2 0 0) (pre vwCl D Z (TW Z a q P F) sz [.ref (a 0), .int x1]) (vp_Si K) 0 0 (fun _ => False) := by
  refine ro_of (ty := .int) (by decide +kernel) (Nat.le_of_ble_eq_true rfl) rfl ?_
  intro p e s m args below meth c Q hC hN hsz hP hD hK hret ls hl
  have hx := hC.1
  have hb := hC.2.1
  have hl : lv_has ls 3 [(0, .ref (a 0)), (1, .int x1)] := hl
  refine lv_aload_n hx hb dX4_airOfBore_0 rfl (lv_at hl 0 rfl) ?_
  refine gTW_tun_0 hC hK hP wq_425 dX4_airOfBore_1 ?_
  refine gTW_plan_7 hC hK hP wq_315 dX4_airOfBore_4 ?_
  refine lv_iload_n hx hb dX4_airOfBore_7 rfl (lv_at hl 1 rfl) ?_
  refine w_at (q0 := 15) hC hN hK hP wn_519 rfl (by decide) (by decide) hl.1 (Nat.le_of_ble_eq_true rfl) ⟨Nat.le_refl _, Nat.le_refl _⟩ dX4_airOfBore_8 ?_
  refine lv_topi (fun v2_11 ev2_11 => ?_)
  have hm := hm v2_11 ev2_11
  refine lv_istore_n (lv' := [(2, .int v2_11), (0, .ref (a 0)), (1, .int x1)]) hx hb dX4_airOfBore_11 rfl hl (by decide) rfl (fun ls hl => ?_)
  refine lv_aload_n hx hb dX4_airOfBore_12 rfl (lv_at hl 1 rfl) ?_
  refine lv_iload_n hx hb dX4_airOfBore_13 rfl (lv_at hl 0 rfl) ?_
  refine lv_iload_n hx hb dX4_airOfBore_14 rfl (lv_at hl 0 rfl) ?_
  refine lv_aload_n hx hb dX4_airOfBore_15 rfl (lv_at hl 1 rfl) ?_
  refine gTW_tun_0 hC hK hP wq_425 dX4_airOfBore_16 ?_
  refine gTW_plan_5 hC hK hP wq_309 dX4_airOfBore_19 ?_
  refine lv_iload_n hx hb dX4_airOfBore_22 rfl (lv_at hl 2 rfl) ?_
  refine w_at (q0 := 13) hC hN hK hP wn_519 rfl (by decide) (by decide) hl.1 (Nat.le_of_ble_eq_true rfl) ⟨Nat.le_refl _, Nat.le_refl _⟩ dX4_airOfBore_23 ?_
  refine lv_iadd hx hb dX4_airOfBore_26 ?_
  refine k_X4_airOf hC hN hK hP hD hm wq_515 (by decide) hl.1 (Nat.le_of_ble_eq_true rfl) ⟨Nat.le_refl _, Nat.le_refl _⟩ dX4_airOfBore_27 (fun r_27 hm => ?_)
  exact hret 30 _ _ hm rfl dX4_airOfBore_30
section KX4_airOfBore
variable {p : Program} {l : Launch} {e : Env} {s : State} {m : MethodId} {args : Array Value} {below : List Frame} {meth : Method} {c : Code} {H H0 : Heap} {locs : List Loc} {cells slots : Nat} {Q : State → Prop} {R : Room} {rn mcR msR : Nat}
variable {pc : Nat} {ls : Array Slot} {rest : List Value} {A : Nat → Prop} {D : va_G}
variable {cc : ByteArray} {nL index : Nat} {own host : String}
end KX4_airOfBore
def wl_X4_capsAt_4 (P : M2) (F : M2) (K : Int32 → Prop) : Nat → Int32 → Int32 → Int32 → Prop
  | 0, _, _, _ => False
  | n + 1, v1, v2, v3 => (((P 23 0) ≤ v3 → K v2) ∧ (¬ (P 23 0) ≤ v3 → ((¬ (atv (F 7) 6 v3) = v1 → (∀ v2_34, v2_34 = v2 + 0 → (∀ v3_35 : Int32, v3_35 = v3 + 1 → wl_X4_capsAt_4 P F K n v1 v2_34 v3_35))) ∧ ((atv (F 7) 6 v3) = v1 → (∀ v2_34, v2_34 = v2 + 1 → (∀ v3_35 : Int32, v3_35 = v3 + 1 → wl_X4_capsAt_4 P F K n v1 v2_34 v3_35))))))
def wp_X4_capsAt (P : M2) (F : M2) (x1 : Int32) (K : Int32 → Prop) : Prop := wl_X4_capsAt_4 P F K fK x1 0 0
set_option maxRecDepth 100000 in
set_option maxHeartbeats 4000000 in
theorem c_X4_capsAt (l : Launch) (D : va_G) (Z : Nat → ClassId) (a q : Nat → Nat) (P : M2) (F : M2) (sz : Nat) (x1 : Int32) (K : Int32 → Prop) (hm : wp_X4_capsAt P F x1 K) : Met l yX4_capsAt (wy yX4_capsAt cX4_capsAt 4 (some .int)) (rk 1 0 0) (pre vwCl D Z (TW Z a q P F) sz [.ref (a 0), .int x1]) (vp_Si K) 0 0 (fun _ => False) := by
  refine ro_of (ty := .int) (by decide +kernel) (Nat.le_of_ble_eq_true rfl) rfl ?_
  intro p e s m args below meth c Q hC hN hsz hP hD hK hret ls hl
  have hx := hC.1
  have hb := hC.2.1
  have hl : lv_has ls 4 [(0, .ref (a 0)), (1, .int x1)] := hl
  have L4 : ∀ (n4 : Nat), ∀ (v1 : Int32) (v2 : Int32) (v3 : Int32) (ls : Array Slot), wl_X4_capsAt_4 P F K n4 v1 v2 v3 → lv_has ls 4 [(0, .ref (a 0)), (1, .int v1), (2, .int v2), (3, .int v3)] → W p l e (rk 1 0 0) s m args below meth c s.heap [] 0 0 Q (F0 m 4 ls []) := by
    intro n4
    induction n4 with
    | zero =>
      intro v1 v2 v3 ls hm hl
      exact False.elim hm
    | succ n4 ih4 =>
      intro v1 v2 v3 ls hm hl
      refine lv_iload_n hx hb dX4_capsAt_4 rfl (lv_at hl 3 rfl) ?_
      refine lv_aload_n hx hb dX4_capsAt_5 rfl (lv_at hl 0 rfl) ?_
      refine gTW_tun_0 hC hK hP wq_425 dX4_capsAt_6 ?_
      refine gTW_plan_3 hC hK hP wq_300 dX4_capsAt_9 ?_
      refine lv_icmp_ge (tgt := 41) hx hb dX4_capsAt_12 (by decide) (fun c_12 => ?_) (fun c_12 => ?_)
      · have hm := hm.1 c_12
        refine lv_iload_n hx hb dX4_capsAt_41 rfl (lv_at hl 2 rfl) ?_
        exact hret 42 _ _ hm rfl dX4_capsAt_42
      · have hm := hm.2 c_12
        refine lv_iload_n hx hb dX4_capsAt_15 rfl (lv_at hl 2 rfl) ?_
        refine lv_aload_n hx hb dX4_capsAt_16 rfl (lv_at hl 0 rfl) ?_
        refine gTW_tun_7 hC hK hP wq_439 dX4_capsAt_17 ?_
        refine lv_iload_n hx hb dX4_capsAt_20 rfl (lv_at hl 3 rfl) ?_
        refine w_at (q0 := 4) hC hN hK hP wn_519 rfl (by decide) (by decide) hl.1 (Nat.le_of_ble_eq_true rfl) ⟨Nat.le_refl _, Nat.le_refl _⟩ dX4_capsAt_21 ?_
        refine lv_iload_n hx hb dX4_capsAt_24 rfl (lv_at hl 1 rfl) ?_
        refine lv_icmp_ne (tgt := 32) hx hb dX4_capsAt_25 (by decide) (fun c_25 => ?_) (fun c_25 => ?_)
        · have hm := hm.1 c_25
          refine lv_iconst (v := 0) hx hb dX4_capsAt_32 (by decide) ?_
          refine lv_iadd hx hb dX4_capsAt_33 ?_
          refine lv_topi (fun v2_34 ev2_34 => ?_)
          have hm := hm v2_34 ev2_34
          refine lv_istore_n (lv' := [(2, .int v2_34), (0, .ref (a 0)), (1, .int v1), (3, .int v3)]) hx hb dX4_capsAt_34 rfl hl (by decide) rfl (fun ls hl => ?_)
          obtain ⟨v3_35, ev3_35⟩ : ∃ y : Int32, y = v3 + 1 := ⟨_, rfl⟩
          have hm := hm v3_35 ev3_35
          refine lv_iinc (v := v3_35) (lv' := [(3, .int v3_35), (2, .int v2_34), (0, .ref (a 0)), (1, .int v1)]) hx hb dX4_capsAt_35 hl (k := 3) rfl (by rw [ev3_35]; rfl) (by decide) rfl (fun ls hl => ?_)
          refine lv_goto (tgt := 4) hx hb dX4_capsAt_38 (by decide) ?_
          exact ih4 _ _ _ _ hm (lv_sub hl [2, 3, 1, 0] rfl)
        · have hm := hm.2 c_25
          refine lv_iconst (v := 1) hx hb dX4_capsAt_28 (by decide) ?_
          refine lv_goto (tgt := 33) hx hb dX4_capsAt_29 (by decide) ?_
          refine lv_iadd hx hb dX4_capsAt_33 ?_
          refine lv_topi (fun v2_34 ev2_34 => ?_)
          have hm := hm v2_34 ev2_34
          refine lv_istore_n (lv' := [(2, .int v2_34), (0, .ref (a 0)), (1, .int v1), (3, .int v3)]) hx hb dX4_capsAt_34 rfl hl (by decide) rfl (fun ls hl => ?_)
          obtain ⟨v3_35, ev3_35⟩ : ∃ y : Int32, y = v3 + 1 := ⟨_, rfl⟩
          have hm := hm v3_35 ev3_35
          refine lv_iinc (v := v3_35) (lv' := [(3, .int v3_35), (2, .int v2_34), (0, .ref (a 0)), (1, .int v1)]) hx hb dX4_capsAt_35 hl (k := 3) rfl (by rw [ev3_35]; rfl) (by decide) rfl (fun ls hl => ?_)
          refine lv_goto (tgt := 4) hx hb dX4_capsAt_38 (by decide) ?_
          exact ih4 _ _ _ _ hm (lv_sub hl [2, 3, 1, 0] rfl)
  refine lv_iconst (v := 0) hx hb dX4_capsAt_0 (by decide) ?_
  refine lv_istore_n (lv' := [(2, .int 0), (0, .ref (a 0)), (1, .int x1)]) hx hb dX4_capsAt_1 rfl hl (by decide) rfl (fun ls hl => ?_)
  refine lv_iconst (v := 0) hx hb dX4_capsAt_2 (by decide) ?_
  refine lv_istore_n (lv' := [(3, .int 0), (2, .int 0), (0, .ref (a 0)), (1, .int x1)]) hx hb dX4_capsAt_3 rfl hl (by decide) rfl (fun ls hl => ?_)
  exact L4 _ _ _ _ _ hm (lv_sub hl [2, 3, 1, 0] rfl)
section KX4_capsAt
variable {p : Program} {l : Launch} {e : Env} {s : State} {m : MethodId} {args : Array Value} {below : List Frame} {meth : Method} {c : Code} {H H0 : Heap} {locs : List Loc} {cells slots : Nat} {Q : State → Prop} {R : Room} {rn mcR msR : Nat}
variable {pc : Nat} {ls : Array Slot} {rest : List Value} {A : Nat → Prop} {D : va_G}
variable {cc : ByteArray} {nL index : Nat} {own host : String}
end KX4_capsAt
def wl_X4_boatAt_2 (P : M2) (F : M2) (K : Int32 → Prop) : Nat → Int32 → Int32 → Prop
  | 0, _, _ => False
  | n + 1, v1, v2 => (((P 24 0) ≤ v2 → K ((-1))) ∧ (¬ (P 24 0) ≤ v2 → ((¬ (atv (F 10) 8 v2) = 1 → (∀ v2_39 : Int32, v2_39 = v2 + 1 → wl_X4_boatAt_2 P F K n v1 v2_39)) ∧ ((atv (F 10) 8 v2) = 1 → ((¬ (atv (F 11) 8 v2) = v1 → (∀ v2_39 : Int32, v2_39 = v2 + 1 → wl_X4_boatAt_2 P F K n v1 v2_39)) ∧ ((atv (F 11) 8 v2) = v1 → K v2))))))
def wp_X4_boatAt (P : M2) (F : M2) (x1 : Int32) (K : Int32 → Prop) : Prop := wl_X4_boatAt_2 P F K fK x1 0
set_option maxRecDepth 100000 in
set_option maxHeartbeats 4000000 in
theorem c_X4_boatAt (l : Launch) (D : va_G) (Z : Nat → ClassId) (a q : Nat → Nat) (P : M2) (F : M2) (sz : Nat) (x1 : Int32) (K : Int32 → Prop) (hm : wp_X4_boatAt P F x1 K) : Met l yX4_boatAt (wy yX4_boatAt cX4_boatAt 3 (some .int)) (rk 1 0 0) (pre vwCl D Z (TW Z a q P F) sz [.ref (a 0), .int x1]) (vp_Si K) 0 0 (fun _ => False) := by
  refine ro_of (ty := .int) (by decide +kernel) (Nat.le_of_ble_eq_true rfl) rfl ?_
  intro p e s m args below meth c Q hC hN hsz hP hD hK hret ls hl
  have hx := hC.1
  have hb := hC.2.1
  have hl : lv_has ls 3 [(0, .ref (a 0)), (1, .int x1)] := hl
  have L2 : ∀ (n2 : Nat), ∀ (v1 : Int32) (v2 : Int32) (ls : Array Slot), wl_X4_boatAt_2 P F K n2 v1 v2 → lv_has ls 3 [(0, .ref (a 0)), (1, .int v1), (2, .int v2)] → W p l e (rk 1 0 0) s m args below meth c s.heap [] 0 0 Q (F0 m 2 ls []) := by
    intro n2
    induction n2 with
    | zero =>
      intro v1 v2 ls hm hl
      exact False.elim hm
    | succ n2 ih2 =>
      intro v1 v2 ls hm hl
      refine lv_iload_n hx hb dX4_boatAt_2 rfl (lv_at hl 2 rfl) ?_
      refine lv_aload_n hx hb dX4_boatAt_3 rfl (lv_at hl 0 rfl) ?_
      refine gTW_tun_0 hC hK hP wq_425 dX4_boatAt_4 ?_
      refine gTW_plan_4 hC hK hP wq_304 dX4_boatAt_7 ?_
      refine lv_icmp_ge (tgt := 45) hx hb dX4_boatAt_10 (by decide) (fun c_10 => ?_) (fun c_10 => ?_)
      · have hm := hm.1 c_10
        refine lv_iconst (v := (-1)) hx hb dX4_boatAt_45 (by decide) ?_
        exact hret 46 _ _ hm rfl dX4_boatAt_46
      · have hm := hm.2 c_10
        refine lv_aload_n hx hb dX4_boatAt_13 rfl (lv_at hl 0 rfl) ?_
        refine gTW_tun_10 hC hK hP wq_445 dX4_boatAt_14 ?_
        refine lv_iload_n hx hb dX4_boatAt_17 rfl (lv_at hl 2 rfl) ?_
        refine w_at (q0 := 7) hC hN hK hP wn_519 rfl (by decide) (by decide) hl.1 (Nat.le_of_ble_eq_true rfl) ⟨Nat.le_refl _, Nat.le_refl _⟩ dX4_boatAt_18 ?_
        refine lv_iconst (v := 1) hx hb dX4_boatAt_21 (by decide) ?_
        refine lv_icmp_ne (tgt := 39) hx hb dX4_boatAt_22 (by decide) (fun c_22 => ?_) (fun c_22 => ?_)
        · have hm := hm.1 c_22
          obtain ⟨v2_39, ev2_39⟩ : ∃ y : Int32, y = v2 + 1 := ⟨_, rfl⟩
          have hm := hm v2_39 ev2_39
          refine lv_iinc (v := v2_39) (lv' := [(2, .int v2_39), (0, .ref (a 0)), (1, .int v1)]) hx hb dX4_boatAt_39 hl (k := 2) rfl (by rw [ev2_39]; rfl) (by decide) rfl (fun ls hl => ?_)
          refine lv_goto (tgt := 2) hx hb dX4_boatAt_42 (by decide) ?_
          exact ih2 _ _ _ hm (lv_sub hl [1, 2, 0] rfl)
        · have hm := hm.2 c_22
          refine lv_aload_n hx hb dX4_boatAt_25 rfl (lv_at hl 0 rfl) ?_
          refine gTW_tun_11 hC hK hP wq_447 dX4_boatAt_26 ?_
          refine lv_iload_n hx hb dX4_boatAt_29 rfl (lv_at hl 2 rfl) ?_
          refine w_at (q0 := 8) hC hN hK hP wn_519 rfl (by decide) (by decide) hl.1 (Nat.le_of_ble_eq_true rfl) ⟨Nat.le_refl _, Nat.le_refl _⟩ dX4_boatAt_30 ?_
          refine lv_iload_n hx hb dX4_boatAt_33 rfl (lv_at hl 1 rfl) ?_
          refine lv_icmp_ne (tgt := 39) hx hb dX4_boatAt_34 (by decide) (fun c_34 => ?_) (fun c_34 => ?_)
          · have hm := hm.1 c_34
            obtain ⟨v2_39, ev2_39⟩ : ∃ y : Int32, y = v2 + 1 := ⟨_, rfl⟩
            have hm := hm v2_39 ev2_39
            refine lv_iinc (v := v2_39) (lv' := [(2, .int v2_39), (0, .ref (a 0)), (1, .int v1)]) hx hb dX4_boatAt_39 hl (k := 2) rfl (by rw [ev2_39]; rfl) (by decide) rfl (fun ls hl => ?_)
            refine lv_goto (tgt := 2) hx hb dX4_boatAt_42 (by decide) ?_
            exact ih2 _ _ _ hm (lv_sub hl [1, 2, 0] rfl)
          · have hm := hm.2 c_34
            refine lv_iload_n hx hb dX4_boatAt_37 rfl (lv_at hl 2 rfl) ?_
            exact hret 38 _ _ hm rfl dX4_boatAt_38
  refine lv_iconst (v := 0) hx hb dX4_boatAt_0 (by decide) ?_
  refine lv_istore_n (lv' := [(2, .int 0), (0, .ref (a 0)), (1, .int x1)]) hx hb dX4_boatAt_1 rfl hl (by decide) rfl (fun ls hl => ?_)
  exact L2 _ _ _ _ hm (lv_sub hl [1, 2, 0] rfl)
section KX4_boatAt
variable {p : Program} {l : Launch} {e : Env} {s : State} {m : MethodId} {args : Array Value} {below : List Frame} {meth : Method} {c : Code} {H H0 : Heap} {locs : List Loc} {cells slots : Nat} {Q : State → Prop} {R : Room} {rn mcR msR : Nat}
variable {pc : Nat} {ls : Array Slot} {rest : List Value} {A : Nat → Prop} {D : va_G}
variable {cc : ByteArray} {nL index : Nat} {own host : String}
theorem k_X4_boatAt {Z : Nat → ClassId} {a q : Nat → Nat} {P : M2} {F : M2} {x1 : Int32} {K : Int32 → Prop} (hC : CallFix p m c cc nL s args lw_g own) (hN : NW s) (hK : va_K D vwCl (tysG Z) s) (hP : va_P D vwCl (TW Z a q P F) H) (hD : va_D (fun _ => True) (TW Z a q P F)) (hm : wp_X4_boatAt P F x1 K) (hl : Cond.methodLink own index yX4_boatAt ∈ lw_g) (hlt : 1 < rn) (hsize : ls.size = nL) (hW : (rest.map fun v => v.category).sum ≤ 8) (hf : cells + 0 ≤ mcR ∧ slots + 0 ≤ msR) (hdg : decode cc pc = .ok (.invokevirtual index, 3)) (kk : ∀ r : Int32, K r → W p l e (rk rn mcR msR) s m args below meth c H locs cells slots Q (F0 m (pc + 3) ls (.int r :: rest))) : W p l e (rk rn mcR msR) s m args below meth c H locs cells slots Q (F0 m pc ls (.int x1 :: .ref (a 0) :: rest)) :=
  ro_go (runV (As := [.int x1]) hC hN (c_X4_boatAt l D Z a q P F H.size x1 K hm) mi_X4_boatAt hl wq_611 wq_612 hlt hP hD hK (q0 := 0) rfl rfl rfl hsize rfl hW hdg hf) kk
end KX4_boatAt
def wl_X4_boatOf_2 (P : M2) (F : M2) (K : Int32 → Prop) : Nat → Int32 → Int32 → Prop
  | 0, _, _ => False
  | n + 1, v1, v2 => (((P 24 0) ≤ v2 → K ((-1))) ∧ (¬ (P 24 0) ≤ v2 → ((¬ (atv (F 10) 8 v2) = 1 → (∀ v2_39 : Int32, v2_39 = v2 + 1 → wl_X4_boatOf_2 P F K n v1 v2_39)) ∧ ((atv (F 10) 8 v2) = 1 → wp_X1_isCrew P F v1 v2 (fun r_31 => ((r_31 = 0 → (∀ v2_39 : Int32, v2_39 = v2 + 1 → wl_X4_boatOf_2 P F K n v1 v2_39)) ∧ (¬ r_31 = 0 → K v2)))))))
def wp_X4_boatOf (P : M2) (F : M2) (x1 : Int32) (K : Int32 → Prop) : Prop := wl_X4_boatOf_2 P F K fK x1 0
set_option maxRecDepth 100000 in
set_option maxHeartbeats 4000000 in
theorem c_X4_boatOf (l : Launch) (D : va_G) (Z : Nat → ClassId) (a q : Nat → Nat) (P : M2) (F : M2) (sz : Nat) (x1 : Int32) (K : Int32 → Prop) (hm : wp_X4_boatOf P F x1 K) : Met l yX4_boatOf (wy yX4_boatOf cX4_boatOf 3 (some .int)) (rk 2 0 0) (pre vwCl D Z (TW Z a q P F) sz [.ref (a 0), .int x1]) (vp_Si K) 0 0 (fun _ => False) := by
  refine ro_of (ty := .int) (by decide +kernel) (Nat.le_of_ble_eq_true rfl) rfl ?_
  intro p e s m args below meth c Q hC hN hsz hP hD hK hret ls hl
  have hx := hC.1
  have hb := hC.2.1
  have hl : lv_has ls 3 [(0, .ref (a 0)), (1, .int x1)] := hl
  have L2 : ∀ (n2 : Nat), ∀ (v1 : Int32) (v2 : Int32) (ls : Array Slot), wl_X4_boatOf_2 P F K n2 v1 v2 → lv_has ls 3 [(0, .ref (a 0)), (1, .int v1), (2, .int v2)] → W p l e (rk 2 0 0) s m args below meth c s.heap [] 0 0 Q (F0 m 2 ls []) := by
    intro n2
    induction n2 with
    | zero =>
      intro v1 v2 ls hm hl
      exact False.elim hm
    | succ n2 ih2 =>
      intro v1 v2 ls hm hl
      refine lv_iload_n hx hb dX4_boatOf_2 rfl (lv_at hl 2 rfl) ?_
      refine lv_aload_n hx hb dX4_boatOf_3 rfl (lv_at hl 0 rfl) ?_
      refine gTW_tun_0 hC hK hP wq_425 dX4_boatOf_4 ?_
      refine gTW_plan_4 hC hK hP wq_304 dX4_boatOf_7 ?_
      refine lv_icmp_ge (tgt := 45) hx hb dX4_boatOf_10 (by decide) (fun c_10 => ?_) (fun c_10 => ?_)
      · have hm := hm.1 c_10
        refine lv_iconst (v := (-1)) hx hb dX4_boatOf_45 (by decide) ?_
        exact hret 46 _ _ hm rfl dX4_boatOf_46
      · have hm := hm.2 c_10
        refine lv_aload_n hx hb dX4_boatOf_13 rfl (lv_at hl 0 rfl) ?_
        refine gTW_tun_10 hC hK hP wq_445 dX4_boatOf_14 ?_
        refine lv_iload_n hx hb dX4_boatOf_17 rfl (lv_at hl 2 rfl) ?_
        refine w_at (q0 := 7) hC hN hK hP wn_519 rfl (by decide) (by decide) hl.1 (Nat.le_of_ble_eq_true rfl) ⟨Nat.le_refl _, Nat.le_refl _⟩ dX4_boatOf_18 ?_
        refine lv_iconst (v := 1) hx hb dX4_boatOf_21 (by decide) ?_
        refine lv_icmp_ne (tgt := 39) hx hb dX4_boatOf_22 (by decide) (fun c_22 => ?_) (fun c_22 => ?_)
        · have hm := hm.1 c_22
          obtain ⟨v2_39, ev2_39⟩ : ∃ y : Int32, y = v2 + 1 := ⟨_, rfl⟩
          have hm := hm v2_39 ev2_39
          refine lv_iinc (v := v2_39) (lv' := [(2, .int v2_39), (0, .ref (a 0)), (1, .int v1)]) hx hb dX4_boatOf_39 hl (k := 2) rfl (by rw [ev2_39]; rfl) (by decide) rfl (fun ls hl => ?_)
          refine lv_goto (tgt := 2) hx hb dX4_boatOf_42 (by decide) ?_
          exact ih2 _ _ _ hm (lv_sub hl [1, 2, 0] rfl)
        · have hm := hm.2 c_22
          refine lv_aload_n hx hb dX4_boatOf_25 rfl (lv_at hl 0 rfl) ?_
          refine gTW_tun_0 hC hK hP wq_425 dX4_boatOf_26 ?_
          refine lv_iload_n hx hb dX4_boatOf_29 rfl (lv_at hl 1 rfl) ?_
          refine lv_iload_n hx hb dX4_boatOf_30 rfl (lv_at hl 2 rfl) ?_
          refine k_X1_isCrew hC hN hK hP hD hm wq_632 (by decide) hl.1 (Nat.le_of_ble_eq_true rfl) ⟨Nat.le_refl _, Nat.le_refl _⟩ dX4_boatOf_31 (fun r_31 hm => ?_)
          refine lv_if_eq (tgt := 39) hx hb dX4_boatOf_34 (by decide) (fun c_34 => ?_) (fun c_34 => ?_)
          · have hm := hm.1 c_34
            obtain ⟨v2_39, ev2_39⟩ : ∃ y : Int32, y = v2 + 1 := ⟨_, rfl⟩
            have hm := hm v2_39 ev2_39
            refine lv_iinc (v := v2_39) (lv' := [(2, .int v2_39), (0, .ref (a 0)), (1, .int v1)]) hx hb dX4_boatOf_39 hl (k := 2) rfl (by rw [ev2_39]; rfl) (by decide) rfl (fun ls hl => ?_)
            refine lv_goto (tgt := 2) hx hb dX4_boatOf_42 (by decide) ?_
            exact ih2 _ _ _ hm (lv_sub hl [1, 2, 0] rfl)
          · have hm := hm.2 c_34
            refine lv_iload_n hx hb dX4_boatOf_37 rfl (lv_at hl 2 rfl) ?_
            exact hret 38 _ _ hm rfl dX4_boatOf_38
  refine lv_iconst (v := 0) hx hb dX4_boatOf_0 (by decide) ?_
  refine lv_istore_n (lv' := [(2, .int 0), (0, .ref (a 0)), (1, .int x1)]) hx hb dX4_boatOf_1 rfl hl (by decide) rfl (fun ls hl => ?_)
  exact L2 _ _ _ _ hm (lv_sub hl [1, 2, 0] rfl)
section KX4_boatOf
variable {p : Program} {l : Launch} {e : Env} {s : State} {m : MethodId} {args : Array Value} {below : List Frame} {meth : Method} {c : Code} {H H0 : Heap} {locs : List Loc} {cells slots : Nat} {Q : State → Prop} {R : Room} {rn mcR msR : Nat}
variable {pc : Nat} {ls : Array Slot} {rest : List Value} {A : Nat → Prop} {D : va_G}
variable {cc : ByteArray} {nL index : Nat} {own host : String}
theorem k_X4_boatOf {Z : Nat → ClassId} {a q : Nat → Nat} {P : M2} {F : M2} {x1 : Int32} {K : Int32 → Prop} (hC : CallFix p m c cc nL s args lw_g own) (hN : NW s) (hK : va_K D vwCl (tysG Z) s) (hP : va_P D vwCl (TW Z a q P F) H) (hD : va_D (fun _ => True) (TW Z a q P F)) (hm : wp_X4_boatOf P F x1 K) (hl : Cond.methodLink own index yX4_boatOf ∈ lw_g) (hlt : 2 < rn) (hsize : ls.size = nL) (hW : (rest.map fun v => v.category).sum ≤ 8) (hf : cells + 0 ≤ mcR ∧ slots + 0 ≤ msR) (hdg : decode cc pc = .ok (.invokevirtual index, 3)) (kk : ∀ r : Int32, K r → W p l e (rk rn mcR msR) s m args below meth c H locs cells slots Q (F0 m (pc + 3) ls (.int r :: rest))) : W p l e (rk rn mcR msR) s m args below meth c H locs cells slots Q (F0 m pc ls (.int x1 :: .ref (a 0) :: rest)) :=
  ro_go (runV (As := [.int x1]) hC hN (c_X4_boatOf l D Z a q P F H.size x1 K hm) mi_X4_boatOf hl wq_629 wq_630 hlt hP hD hK (q0 := 0) rfl rfl rfl hsize rfl hW hdg hf) kk
end KX4_boatOf
def wp_X4_tally (P : M2) (F : M2) (x1 : Int32) (K : Int32 → Prop) : Prop := ((¬ x1 = 11 → ((¬ x1 = 12 → wp_X4_boatsThatAre P F (x1 - 8) (fun r_37 => K r_37)) ∧ (x1 = 12 → wp_X4_capsThatLie P F (fun r_26 => K r_26)))) ∧ (x1 = 11 → wp_X4_airOf P F 0 (P 21 0) (fun r_15 => K r_15)))
set_option maxRecDepth 100000 in
set_option maxHeartbeats 4000000 in
theorem c_X4_tally (l : Launch) (D : va_G) (Z : Nat → ClassId) (a q : Nat → Nat) (P : M2) (F : M2) (sz : Nat) (x1 : Int32) (K : Int32 → Prop) (hm : wp_X4_tally P F x1 K) : Met l yX4_tally (wy yX4_tally cX4_tally 2 (some .int)) (rk 2 0 0) (pre vwCl D Z (TW Z a q P F) sz [.ref (a 0), .int x1]) (vp_Si K) 0 0 (fun _ => False) := by
  refine ro_of (ty := .int) (by decide +kernel) (Nat.le_of_ble_eq_true rfl) rfl ?_
  intro p e s m args below meth c Q hC hN hsz hP hD hK hret ls hl
  have hx := hC.1
  have hb := hC.2.1
  have hl : lv_has ls 2 [(0, .ref (a 0)), (1, .int x1)] := hl
  refine lv_iload_n hx hb dX4_tally_0 rfl (lv_at hl 1 rfl) ?_
  refine lv_bipush (v := 11) hx hb dX4_tally_1 (by decide) ?_
  refine lv_icmp_ne (tgt := 19) hx hb dX4_tally_3 (by decide) (fun c_3 => ?_) (fun c_3 => ?_)
  · have hm := hm.1 c_3
    refine lv_iload_n hx hb dX4_tally_19 rfl (lv_at hl 1 rfl) ?_
    refine lv_bipush (v := 12) hx hb dX4_tally_20 (by decide) ?_
    refine lv_icmp_ne (tgt := 32) hx hb dX4_tally_22 (by decide) (fun c_22 => ?_) (fun c_22 => ?_)
    · have hm := hm.1 c_22
      refine lv_aload_n hx hb dX4_tally_32 rfl (lv_at hl 0 rfl) ?_
      refine lv_iload_n hx hb dX4_tally_33 rfl (lv_at hl 1 rfl) ?_
      refine lv_bipush (v := 8) hx hb dX4_tally_34 (by decide) ?_
      refine lv_isub hx hb dX4_tally_36 ?_
      refine k_X4_boatsThatAre hC hN hK hP hD hm wq_526 (by decide) hl.1 (Nat.le_of_ble_eq_true rfl) ⟨Nat.le_refl _, Nat.le_refl _⟩ dX4_tally_37 (fun r_37 hm => ?_)
      exact hret 40 _ _ hm rfl dX4_tally_40
    · have hm := hm.2 c_22
      refine lv_aload_n hx hb dX4_tally_25 rfl (lv_at hl 0 rfl) ?_
      refine k_X4_capsThatLie hC hN hK hP hD hm wq_522 (by decide) hl.1 (Nat.le_of_ble_eq_true rfl) ⟨Nat.le_refl _, Nat.le_refl _⟩ dX4_tally_26 (fun r_26 hm => ?_)
      refine lv_goto (tgt := 40) hx hb dX4_tally_29 (by decide) ?_
      exact hret 40 _ _ hm rfl dX4_tally_40
  · have hm := hm.2 c_3
    refine lv_aload_n hx hb dX4_tally_6 rfl (lv_at hl 0 rfl) ?_
    refine lv_iconst (v := 0) hx hb dX4_tally_7 (by decide) ?_
    refine lv_aload_n hx hb dX4_tally_8 rfl (lv_at hl 0 rfl) ?_
    refine gTW_tun_0 hC hK hP wq_425 dX4_tally_9 ?_
    refine gTW_plan_1 hC hK hP wq_292 dX4_tally_12 ?_
    refine k_X4_airOf hC hN hK hP hD hm wq_515 (by decide) hl.1 (Nat.le_of_ble_eq_true rfl) ⟨Nat.le_refl _, Nat.le_refl _⟩ dX4_tally_15 (fun r_15 hm => ?_)
    exact hret 18 _ _ hm rfl dX4_tally_18
section KX4_tally
variable {p : Program} {l : Launch} {e : Env} {s : State} {m : MethodId} {args : Array Value} {below : List Frame} {meth : Method} {c : Code} {H H0 : Heap} {locs : List Loc} {cells slots : Nat} {Q : State → Prop} {R : Room} {rn mcR msR : Nat}
variable {pc : Nat} {ls : Array Slot} {rest : List Value} {A : Nat → Prop} {D : va_G}
variable {cc : ByteArray} {nL index : Nat} {own host : String}
end KX4_tally
def wp_X4_isDue (P : M2) (F : M2) (x1 : Int32) (K : Int32 → Prop) : Prop := ((¬ (atv (F 10) 8 x1) = 0 → K 0) ∧ ((atv (F 10) 8 x1) = 0 → (((F 1 0) < (atv (F 9) 8 x1) → K 0) ∧ (¬ (F 1 0) < (atv (F 9) 8 x1) → K 1))))
set_option maxRecDepth 100000 in
set_option maxHeartbeats 4000000 in
theorem c_X4_isDue (l : Launch) (D : va_G) (Z : Nat → ClassId) (a q : Nat → Nat) (P : M2) (F : M2) (sz : Nat) (x1 : Int32) (K : Int32 → Prop) (hm : wp_X4_isDue P F x1 K) : Met l yX4_isDue (wy yX4_isDue cX4_isDue 2 (some .boolean)) (rk 1 0 0) (pre vwCl D Z (TW Z a q P F) sz [.ref (a 0), .int x1]) (vp_Si K) 0 0 (fun _ => False) := by
  refine ro_of (ty := .boolean) (by decide +kernel) (Nat.le_of_ble_eq_true rfl) rfl ?_
  intro p e s m args below meth c Q hC hN hsz hP hD hK hret ls hl
  have hx := hC.1
  have hb := hC.2.1
  have hl : lv_has ls 2 [(0, .ref (a 0)), (1, .int x1)] := hl
  refine lv_aload_n hx hb dX4_isDue_0 rfl (lv_at hl 0 rfl) ?_
  refine gTW_tun_10 hC hK hP wq_445 dX4_isDue_1 ?_
  refine lv_iload_n hx hb dX4_isDue_4 rfl (lv_at hl 1 rfl) ?_
  refine w_at (q0 := 7) hC hN hK hP wn_519 rfl (by decide) (by decide) hl.1 (Nat.le_of_ble_eq_true rfl) ⟨Nat.le_refl _, Nat.le_refl _⟩ dX4_isDue_5 ?_
  refine lv_if_ne (tgt := 30) hx hb dX4_isDue_8 (by decide) (fun c_8 => ?_) (fun c_8 => ?_)
  · have hm := hm.1 c_8
    refine lv_iconst (v := 0) hx hb dX4_isDue_30 (by decide) ?_
    exact hret 31 _ _ hm rfl dX4_isDue_31
  · have hm := hm.2 c_8
    refine lv_aload_n hx hb dX4_isDue_11 rfl (lv_at hl 0 rfl) ?_
    refine gTW_tun_9 hC hK hP wq_443 dX4_isDue_12 ?_
    refine lv_iload_n hx hb dX4_isDue_15 rfl (lv_at hl 1 rfl) ?_
    refine w_at (q0 := 6) hC hN hK hP wn_519 rfl (by decide) (by decide) hl.1 (Nat.le_of_ble_eq_true rfl) ⟨Nat.le_refl _, Nat.le_refl _⟩ dX4_isDue_16 ?_
    refine lv_aload_n hx hb dX4_isDue_19 rfl (lv_at hl 0 rfl) ?_
    refine gTW_tun_1 hC hK hP wq_427 dX4_isDue_20 ?_
    refine lv_icmp_gt (tgt := 30) hx hb dX4_isDue_23 (by decide) (fun c_23 => ?_) (fun c_23 => ?_)
    · have hm := hm.1 c_23
      refine lv_iconst (v := 0) hx hb dX4_isDue_30 (by decide) ?_
      exact hret 31 _ _ hm rfl dX4_isDue_31
    · have hm := hm.2 c_23
      refine lv_iconst (v := 1) hx hb dX4_isDue_26 (by decide) ?_
      refine lv_goto (tgt := 31) hx hb dX4_isDue_27 (by decide) ?_
      exact hret 31 _ _ hm rfl dX4_isDue_31
section KX4_isDue
variable {p : Program} {l : Launch} {e : Env} {s : State} {m : MethodId} {args : Array Value} {below : List Frame} {meth : Method} {c : Code} {H H0 : Heap} {locs : List Loc} {cells slots : Nat} {Q : State → Prop} {R : Room} {rn mcR msR : Nat}
variable {pc : Nat} {ls : Array Slot} {rest : List Value} {A : Nat → Prop} {D : va_G}
variable {cc : ByteArray} {nL index : Nat} {own host : String}
theorem k_X4_isDue {Z : Nat → ClassId} {a q : Nat → Nat} {P : M2} {F : M2} {x1 : Int32} {K : Int32 → Prop} (hC : CallFix p m c cc nL s args lw_g own) (hN : NW s) (hK : va_K D vwCl (tysG Z) s) (hP : va_P D vwCl (TW Z a q P F) H) (hD : va_D (fun _ => True) (TW Z a q P F)) (hm : wp_X4_isDue P F x1 K) (hl : Cond.methodLink own index yX4_isDue ∈ lw_g) (hlt : 1 < rn) (hsize : ls.size = nL) (hW : (rest.map fun v => v.category).sum ≤ 8) (hf : cells + 0 ≤ mcR ∧ slots + 0 ≤ msR) (hdg : decode cc pc = .ok (.invokevirtual index, 3)) (kk : ∀ r : Int32, K r → W p l e (rk rn mcR msR) s m args below meth c H locs cells slots Q (F0 m (pc + 3) ls (.int r :: rest))) : W p l e (rk rn mcR msR) s m args below meth c H locs cells slots Q (F0 m pc ls (.int x1 :: .ref (a 0) :: rest)) :=
  ro_go (runV (As := [.int x1]) hC hN (c_X4_isDue l D Z a q P F H.size x1 K hm) mi_X4_isDue hl wq_657 wq_5 hlt hP hD hK (q0 := 0) rfl rfl rfl hsize rfl hW hdg hf) kk
end KX4_isDue
def wj_X4_isClear_53 (P : M2) (F : M2) (C2 : Int32 → Int32 → Prop) (K : Int32 → Prop) (v1 : Int32) (v2 : Int32) (q0 : Int32) : Prop := ((¬ (atv (F 8) 8 v2) = v1 → K 0) ∧ ((atv (F 8) 8 v2) = v1 → ((4 ≤ q0 → (∀ v2_75 : Int32, v2_75 = v2 + 1 → C2 v1 v2_75)) ∧ (¬ 4 ≤ q0 → K 0))))
def wl_X4_isClear_2 (P : M2) (F : M2) (K : Int32 → Prop) : Nat → Int32 → Int32 → Prop
  | 0, _, _ => False
  | n + 1, v1, v2 => (((P 24 0) ≤ v2 → K 1) ∧ (¬ (P 24 0) ≤ v2 → ((¬ (atv (F 10) 8 v2) = 1 → (∀ v2_75 : Int32, v2_75 = v2 + 1 → wl_X4_isClear_2 P F K n v1 v2_75)) ∧ ((atv (F 10) 8 v2) = 1 → (∀ v3_33, v3_33 = atv (F 11) 8 v2 → ((¬ v1 = 0 → wj_X4_isClear_53 P F (wl_X4_isClear_2 P F K n) K v1 v2 (((P 21 0) - 1) - v3_33)) ∧ (v1 = 0 → wj_X4_isClear_53 P F (wl_X4_isClear_2 P F K n) K v1 v2 v3_33)))))))
def wp_X4_isClear (P : M2) (F : M2) (x1 : Int32) (K : Int32 → Prop) : Prop := wl_X4_isClear_2 P F K fK x1 0
set_option maxRecDepth 100000 in
set_option maxHeartbeats 4000000 in
theorem c_X4_isClear (l : Launch) (D : va_G) (Z : Nat → ClassId) (a q : Nat → Nat) (P : M2) (F : M2) (sz : Nat) (x1 : Int32) (K : Int32 → Prop) (hm : wp_X4_isClear P F x1 K) : Met l yX4_isClear (wy yX4_isClear cX4_isClear 5 (some .boolean)) (rk 1 0 0) (pre vwCl D Z (TW Z a q P F) sz [.ref (a 0), .int x1]) (vp_Si K) 0 0 (fun _ => False) := by
  refine ro_of (ty := .boolean) (by decide +kernel) (Nat.le_of_ble_eq_true rfl) rfl ?_
  intro p e s m args below meth c Q hC hN hsz hP hD hK hret ls hl
  have hx := hC.1
  have hb := hC.2.1
  have hl : lv_has ls 5 [(0, .ref (a 0)), (1, .int x1)] := hl
  have L2 : ∀ (n2 : Nat), ∀ (v1 : Int32) (v2 : Int32) (ls : Array Slot), wl_X4_isClear_2 P F K n2 v1 v2 → lv_has ls 5 [(0, .ref (a 0)), (1, .int v1), (2, .int v2)] → W p l e (rk 1 0 0) s m args below meth c s.heap [] 0 0 Q (F0 m 2 ls []) := by
    intro n2
    induction n2 with
    | zero =>
      intro v1 v2 ls hm hl
      exact False.elim hm
    | succ n2 ih2 =>
      have L53 : ∀ (v1 : Int32) (v2 : Int32) (q0 : Int32) (ls : Array Slot), wj_X4_isClear_53 P F (wl_X4_isClear_2 P F K n2) K v1 v2 q0 → lv_has ls 5 [(0, .ref (a 0)), (1, .int v1), (2, .int v2)] → W p l e (rk 1 0 0) s m args below meth c s.heap [] 0 0 Q (F0 m 53 ls [.int q0]) := by
        intro v1 v2 q0 ls hm hl
        refine lv_istore (lv' := [(4, .int q0), (0, .ref (a 0)), (1, .int v1), (2, .int v2)]) hx hb dX4_isClear_53 hl (by decide) rfl (fun ls hl => ?_)
        refine lv_aload_n hx hb dX4_isClear_55 rfl (lv_at hl 1 rfl) ?_
        refine gTW_tun_8 hC hK hP wq_441 dX4_isClear_56 ?_
        refine lv_iload_n hx hb dX4_isClear_59 rfl (lv_at hl 3 rfl) ?_
        refine w_at (q0 := 5) hC hN hK hP wn_519 rfl (by decide) (by decide) hl.1 (Nat.le_of_ble_eq_true rfl) ⟨Nat.le_refl _, Nat.le_refl _⟩ dX4_isClear_60 ?_
        refine lv_iload_n hx hb dX4_isClear_63 rfl (lv_at hl 2 rfl) ?_
        refine lv_icmp_ne (tgt := 73) hx hb dX4_isClear_64 (by decide) (fun c_64 => ?_) (fun c_64 => ?_)
        · have hm := hm.1 c_64
          refine lv_iconst (v := 0) hx hb dX4_isClear_73 (by decide) ?_
          exact hret 74 _ _ hm rfl dX4_isClear_74
        · have hm := hm.2 c_64
          refine lv_iload hx hb dX4_isClear_67 (lv_at hl 0 rfl) ?_
          refine lv_iconst (v := 4) hx hb dX4_isClear_69 (by decide) ?_
          refine lv_icmp_ge (tgt := 75) hx hb dX4_isClear_70 (by decide) (fun c_70 => ?_) (fun c_70 => ?_)
          · have hm := hm.1 c_70
            obtain ⟨v2_75, ev2_75⟩ : ∃ y : Int32, y = v2 + 1 := ⟨_, rfl⟩
            have hm := hm v2_75 ev2_75
            refine lv_iinc (v := v2_75) (lv' := [(2, .int v2_75), (4, .int q0), (0, .ref (a 0)), (1, .int v1)]) hx hb dX4_isClear_75 hl (k := 3) rfl (by rw [ev2_75]; rfl) (by decide) rfl (fun ls hl => ?_)
            refine lv_goto (tgt := 2) hx hb dX4_isClear_78 (by decide) ?_
            exact ih2 _ _ _ hm (lv_sub hl [2, 3, 0] rfl)
          · have hm := hm.2 c_70
            refine lv_iconst (v := 0) hx hb dX4_isClear_73 (by decide) ?_
            exact hret 74 _ _ hm rfl dX4_isClear_74
      intro v1 v2 ls hm hl
      refine lv_iload_n hx hb dX4_isClear_2 rfl (lv_at hl 2 rfl) ?_
      refine lv_aload_n hx hb dX4_isClear_3 rfl (lv_at hl 0 rfl) ?_
      refine gTW_tun_0 hC hK hP wq_425 dX4_isClear_4 ?_
      refine gTW_plan_4 hC hK hP wq_304 dX4_isClear_7 ?_
      refine lv_icmp_ge (tgt := 81) hx hb dX4_isClear_10 (by decide) (fun c_10 => ?_) (fun c_10 => ?_)
      · have hm := hm.1 c_10
        refine lv_iconst (v := 1) hx hb dX4_isClear_81 (by decide) ?_
        exact hret 82 _ _ hm rfl dX4_isClear_82
      · have hm := hm.2 c_10
        refine lv_aload_n hx hb dX4_isClear_13 rfl (lv_at hl 0 rfl) ?_
        refine gTW_tun_10 hC hK hP wq_445 dX4_isClear_14 ?_
        refine lv_iload_n hx hb dX4_isClear_17 rfl (lv_at hl 2 rfl) ?_
        refine w_at (q0 := 7) hC hN hK hP wn_519 rfl (by decide) (by decide) hl.1 (Nat.le_of_ble_eq_true rfl) ⟨Nat.le_refl _, Nat.le_refl _⟩ dX4_isClear_18 ?_
        refine lv_iconst (v := 1) hx hb dX4_isClear_21 (by decide) ?_
        refine lv_icmp_ne (tgt := 75) hx hb dX4_isClear_22 (by decide) (fun c_22 => ?_) (fun c_22 => ?_)
        · have hm := hm.1 c_22
          obtain ⟨v2_75, ev2_75⟩ : ∃ y : Int32, y = v2 + 1 := ⟨_, rfl⟩
          have hm := hm v2_75 ev2_75
          refine lv_iinc (v := v2_75) (lv' := [(2, .int v2_75), (0, .ref (a 0)), (1, .int v1)]) hx hb dX4_isClear_75 hl (k := 2) rfl (by rw [ev2_75]; rfl) (by decide) rfl (fun ls hl => ?_)
          refine lv_goto (tgt := 2) hx hb dX4_isClear_78 (by decide) ?_
          exact ih2 _ _ _ hm (lv_sub hl [1, 2, 0] rfl)
        · have hm := hm.2 c_22
          refine lv_aload_n hx hb dX4_isClear_25 rfl (lv_at hl 0 rfl) ?_
          refine gTW_tun_11 hC hK hP wq_447 dX4_isClear_26 ?_
          refine lv_iload_n hx hb dX4_isClear_29 rfl (lv_at hl 2 rfl) ?_
          refine w_at (q0 := 8) hC hN hK hP wn_519 rfl (by decide) (by decide) hl.1 (Nat.le_of_ble_eq_true rfl) ⟨Nat.le_refl _, Nat.le_refl _⟩ dX4_isClear_30 ?_
          refine lv_topi (fun v3_33 ev3_33 => ?_)
          have hm := hm v3_33 ev3_33
          refine lv_istore_n (lv' := [(3, .int v3_33), (0, .ref (a 0)), (1, .int v1), (2, .int v2)]) hx hb dX4_isClear_33 rfl hl (by decide) rfl (fun ls hl => ?_)
          refine lv_iload_n hx hb dX4_isClear_34 rfl (lv_at hl 2 rfl) ?_
          refine lv_if_ne (tgt := 42) hx hb dX4_isClear_35 (by decide) (fun c_35 => ?_) (fun c_35 => ?_)
          · have hm := hm.1 c_35
            refine lv_aload_n hx hb dX4_isClear_42 rfl (lv_at hl 1 rfl) ?_
            refine gTW_tun_0 hC hK hP wq_425 dX4_isClear_43 ?_
            refine gTW_plan_1 hC hK hP wq_292 dX4_isClear_46 ?_
            refine lv_iconst (v := 1) hx hb dX4_isClear_49 (by decide) ?_
            refine lv_isub hx hb dX4_isClear_50 ?_
            refine lv_iload_n hx hb dX4_isClear_51 rfl (lv_at hl 0 rfl) ?_
            refine lv_isub hx hb dX4_isClear_52 ?_
            exact L53 _ _ _ _ hm (lv_sub hl [1, 2, 3] rfl)
          · have hm := hm.2 c_35
            refine lv_iload_n hx hb dX4_isClear_38 rfl (lv_at hl 0 rfl) ?_
            refine lv_goto (tgt := 53) hx hb dX4_isClear_39 (by decide) ?_
            exact L53 _ _ _ _ hm (lv_sub hl [1, 2, 3] rfl)
  refine lv_iconst (v := 0) hx hb dX4_isClear_0 (by decide) ?_
  refine lv_istore_n (lv' := [(2, .int 0), (0, .ref (a 0)), (1, .int x1)]) hx hb dX4_isClear_1 rfl hl (by decide) rfl (fun ls hl => ?_)
  exact L2 _ _ _ _ hm (lv_sub hl [1, 2, 0] rfl)
section KX4_isClear
variable {p : Program} {l : Launch} {e : Env} {s : State} {m : MethodId} {args : Array Value} {below : List Frame} {meth : Method} {c : Code} {H H0 : Heap} {locs : List Loc} {cells slots : Nat} {Q : State → Prop} {R : Room} {rn mcR msR : Nat}
variable {pc : Nat} {ls : Array Slot} {rest : List Value} {A : Nat → Prop} {D : va_G}
variable {cc : ByteArray} {nL index : Nat} {own host : String}
theorem k_X4_isClear {Z : Nat → ClassId} {a q : Nat → Nat} {P : M2} {F : M2} {x1 : Int32} {K : Int32 → Prop} (hC : CallFix p m c cc nL s args lw_g own) (hN : NW s) (hK : va_K D vwCl (tysG Z) s) (hP : va_P D vwCl (TW Z a q P F) H) (hD : va_D (fun _ => True) (TW Z a q P F)) (hm : wp_X4_isClear P F x1 K) (hl : Cond.methodLink own index yX4_isClear ∈ lw_g) (hlt : 1 < rn) (hsize : ls.size = nL) (hW : (rest.map fun v => v.category).sum ≤ 8) (hf : cells + 0 ≤ mcR ∧ slots + 0 ≤ msR) (hdg : decode cc pc = .ok (.invokevirtual index, 3)) (kk : ∀ r : Int32, K r → W p l e (rk rn mcR msR) s m args below meth c H locs cells slots Q (F0 m (pc + 3) ls (.int r :: rest))) : W p l e (rk rn mcR msR) s m args below meth c H locs cells slots Q (F0 m pc ls (.int x1 :: .ref (a 0) :: rest)) :=
  ro_go (runV (As := [.int x1]) hC hN (c_X4_isClear l D Z a q P F H.size x1 K hm) mi_X4_isClear hl wq_661 wq_6 hlt hP hD hK (q0 := 0) rfl rfl rfl hsize rfl hW hdg hf) kk
end KX4_isClear
def wp_X4_isReady (P : M2) (F : M2) (x1 : Int32) (K : Int32 → Prop) : Prop := wp_X4_boatOf P F x1 (fun r_2 => ((¬ r_2 = ((-1)) → K 0) ∧ (r_2 = ((-1)) → ((¬ (atv (F 6) 6 x1) = 0 → K 0) ∧ ((atv (F 6) 6 x1) = 0 → (((atv (F 5) 6 x1) < 20 → K 0) ∧ (¬ (atv (F 5) 6 x1) < 20 → K 1)))))))
set_option maxRecDepth 100000 in
set_option maxHeartbeats 4000000 in
theorem c_X4_isReady (l : Launch) (D : va_G) (Z : Nat → ClassId) (a q : Nat → Nat) (P : M2) (F : M2) (sz : Nat) (x1 : Int32) (K : Int32 → Prop) (hm : wp_X4_isReady P F x1 K) : Met l yX4_isReady (wy yX4_isReady cX4_isReady 2 (some .boolean)) (rk 3 0 0) (pre vwCl D Z (TW Z a q P F) sz [.ref (a 0), .int x1]) (vp_Si K) 0 0 (fun _ => False) := by
  refine ro_of (ty := .boolean) (by decide +kernel) (Nat.le_of_ble_eq_true rfl) rfl ?_
  intro p e s m args below meth c Q hC hN hsz hP hD hK hret ls hl
  have hx := hC.1
  have hb := hC.2.1
  have hl : lv_has ls 2 [(0, .ref (a 0)), (1, .int x1)] := hl
  refine lv_aload_n hx hb dX4_isReady_0 rfl (lv_at hl 0 rfl) ?_
  refine lv_iload_n hx hb dX4_isReady_1 rfl (lv_at hl 1 rfl) ?_
  refine k_X4_boatOf hC hN hK hP hD hm wq_667 (by decide) hl.1 (Nat.le_of_ble_eq_true rfl) ⟨Nat.le_refl _, Nat.le_refl _⟩ dX4_isReady_2 (fun r_2 hm => ?_)
  refine lv_iconst (v := (-1)) hx hb dX4_isReady_5 (by decide) ?_
  refine lv_icmp_ne (tgt := 37) hx hb dX4_isReady_6 (by decide) (fun c_6 => ?_) (fun c_6 => ?_)
  · have hm := hm.1 c_6
    refine lv_iconst (v := 0) hx hb dX4_isReady_37 (by decide) ?_
    exact hret 38 _ _ hm rfl dX4_isReady_38
  · have hm := hm.2 c_6
    refine lv_aload_n hx hb dX4_isReady_9 rfl (lv_at hl 0 rfl) ?_
    refine gTW_tun_6 hC hK hP wq_437 dX4_isReady_10 ?_
    refine lv_iload_n hx hb dX4_isReady_13 rfl (lv_at hl 1 rfl) ?_
    refine w_at (q0 := 3) hC hN hK hP wn_519 rfl (by decide) (by decide) hl.1 (Nat.le_of_ble_eq_true rfl) ⟨Nat.le_refl _, Nat.le_refl _⟩ dX4_isReady_14 ?_
    refine lv_if_ne (tgt := 37) hx hb dX4_isReady_17 (by decide) (fun c_17 => ?_) (fun c_17 => ?_)
    · have hm := hm.1 c_17
      refine lv_iconst (v := 0) hx hb dX4_isReady_37 (by decide) ?_
      exact hret 38 _ _ hm rfl dX4_isReady_38
    · have hm := hm.2 c_17
      refine lv_aload_n hx hb dX4_isReady_20 rfl (lv_at hl 0 rfl) ?_
      refine gTW_tun_5 hC hK hP wq_435 dX4_isReady_21 ?_
      refine lv_iload_n hx hb dX4_isReady_24 rfl (lv_at hl 1 rfl) ?_
      refine w_at (q0 := 2) hC hN hK hP wn_519 rfl (by decide) (by decide) hl.1 (Nat.le_of_ble_eq_true rfl) ⟨Nat.le_refl _, Nat.le_refl _⟩ dX4_isReady_25 ?_
      refine lv_bipush (v := 20) hx hb dX4_isReady_28 (by decide) ?_
      refine lv_icmp_lt (tgt := 37) hx hb dX4_isReady_30 (by decide) (fun c_30 => ?_) (fun c_30 => ?_)
      · have hm := hm.1 c_30
        refine lv_iconst (v := 0) hx hb dX4_isReady_37 (by decide) ?_
        exact hret 38 _ _ hm rfl dX4_isReady_38
      · have hm := hm.2 c_30
        refine lv_iconst (v := 1) hx hb dX4_isReady_33 (by decide) ?_
        refine lv_goto (tgt := 38) hx hb dX4_isReady_34 (by decide) ?_
        exact hret 38 _ _ hm rfl dX4_isReady_38
section KX4_isReady
variable {p : Program} {l : Launch} {e : Env} {s : State} {m : MethodId} {args : Array Value} {below : List Frame} {meth : Method} {c : Code} {H H0 : Heap} {locs : List Loc} {cells slots : Nat} {Q : State → Prop} {R : Room} {rn mcR msR : Nat}
variable {pc : Nat} {ls : Array Slot} {rest : List Value} {A : Nat → Prop} {D : va_G}
variable {cc : ByteArray} {nL index : Nat} {own host : String}
theorem k_X4_isReady {Z : Nat → ClassId} {a q : Nat → Nat} {P : M2} {F : M2} {x1 : Int32} {K : Int32 → Prop} (hC : CallFix p m c cc nL s args lw_g own) (hN : NW s) (hK : va_K D vwCl (tysG Z) s) (hP : va_P D vwCl (TW Z a q P F) H) (hD : va_D (fun _ => True) (TW Z a q P F)) (hm : wp_X4_isReady P F x1 K) (hl : Cond.methodLink own index yX4_isReady ∈ lw_g) (hlt : 3 < rn) (hsize : ls.size = nL) (hW : (rest.map fun v => v.category).sum ≤ 8) (hf : cells + 0 ≤ mcR ∧ slots + 0 ≤ msR) (hdg : decode cc pc = .ok (.invokevirtual index, 3)) (kk : ∀ r : Int32, K r → W p l e (rk rn mcR msR) s m args below meth c H locs cells slots Q (F0 m (pc + 3) ls (.int r :: rest))) : W p l e (rk rn mcR msR) s m args below meth c H locs cells slots Q (F0 m pc ls (.int x1 :: .ref (a 0) :: rest)) :=
  ro_go (runV (As := [.int x1]) hC hN (c_X4_isReady l D Z a q P F H.size x1 K hm) mi_X4_isReady hl wq_665 wq_7 hlt hP hD hK (q0 := 0) rfl rfl rfl hsize rfl hW hdg hf) kk
end KX4_isReady
def wp_X4_strengthFor (P : M2) (F : M2) (x1 : Int32) (K : Int32 → Prop) : Prop := ((x1 = (F 3 0) → K 0) ∧ (¬ x1 = (F 3 0) → ((1 ≤ (atv (F 5) 6 x1) → K (atv (P 31) 6 x1)) ∧ (¬ 1 ≤ (atv (F 5) 6 x1) → K 0))))
set_option maxRecDepth 100000 in
set_option maxHeartbeats 4000000 in
theorem c_X4_strengthFor (l : Launch) (D : va_G) (Z : Nat → ClassId) (a q : Nat → Nat) (P : M2) (F : M2) (sz : Nat) (x1 : Int32) (K : Int32 → Prop) (hm : wp_X4_strengthFor P F x1 K) : Met l yX4_strengthFor (wy yX4_strengthFor cX4_strengthFor 2 (some .int)) (rk 1 0 0) (pre vwCl D Z (TW Z a q P F) sz [.ref (a 0), .int x1]) (vp_Si K) 0 0 (fun _ => False) := by
  refine ro_of (ty := .int) (by decide +kernel) (Nat.le_of_ble_eq_true rfl) rfl ?_
  intro p e s m args below meth c Q hC hN hsz hP hD hK hret ls hl
  have hx := hC.1
  have hb := hC.2.1
  have hl : lv_has ls 2 [(0, .ref (a 0)), (1, .int x1)] := hl
  refine lv_iload_n hx hb dX4_strengthFor_0 rfl (lv_at hl 1 rfl) ?_
  refine lv_aload_n hx hb dX4_strengthFor_1 rfl (lv_at hl 0 rfl) ?_
  refine gTW_tun_3 hC hK hP wq_431 dX4_strengthFor_2 ?_
  refine lv_icmp_eq (tgt := 20) hx hb dX4_strengthFor_5 (by decide) (fun c_5 => ?_) (fun c_5 => ?_)
  · have hm := hm.1 c_5
    refine lv_iconst (v := 0) hx hb dX4_strengthFor_20 (by decide) ?_
    refine lv_goto (tgt := 35) hx hb dX4_strengthFor_21 (by decide) ?_
    exact hret 35 _ _ hm rfl dX4_strengthFor_35
  · have hm := hm.2 c_5
    refine lv_aload_n hx hb dX4_strengthFor_8 rfl (lv_at hl 0 rfl) ?_
    refine gTW_tun_5 hC hK hP wq_435 dX4_strengthFor_9 ?_
    refine lv_iload_n hx hb dX4_strengthFor_12 rfl (lv_at hl 1 rfl) ?_
    refine w_at (q0 := 2) hC hN hK hP wn_519 rfl (by decide) (by decide) hl.1 (Nat.le_of_ble_eq_true rfl) ⟨Nat.le_refl _, Nat.le_refl _⟩ dX4_strengthFor_13 ?_
    refine lv_iconst (v := 1) hx hb dX4_strengthFor_16 (by decide) ?_
    refine lv_icmp_ge (tgt := 24) hx hb dX4_strengthFor_17 (by decide) (fun c_17 => ?_) (fun c_17 => ?_)
    · have hm := hm.1 c_17
      refine lv_aload_n hx hb dX4_strengthFor_24 rfl (lv_at hl 0 rfl) ?_
      refine gTW_tun_0 hC hK hP wq_425 dX4_strengthFor_25 ?_
      refine gTW_plan_11 hC hK hP wq_325 dX4_strengthFor_28 ?_
      refine lv_iload_n hx hb dX4_strengthFor_31 rfl (lv_at hl 1 rfl) ?_
      refine w_at (q0 := 19) hC hN hK hP wn_519 rfl (by decide) (by decide) hl.1 (Nat.le_of_ble_eq_true rfl) ⟨Nat.le_refl _, Nat.le_refl _⟩ dX4_strengthFor_32 ?_
      exact hret 35 _ _ hm rfl dX4_strengthFor_35
    · have hm := hm.2 c_17
      refine lv_iconst (v := 0) hx hb dX4_strengthFor_20 (by decide) ?_
      refine lv_goto (tgt := 35) hx hb dX4_strengthFor_21 (by decide) ?_
      exact hret 35 _ _ hm rfl dX4_strengthFor_35
section KX4_strengthFor
variable {p : Program} {l : Launch} {e : Env} {s : State} {m : MethodId} {args : Array Value} {below : List Frame} {meth : Method} {c : Code} {H H0 : Heap} {locs : List Loc} {cells slots : Nat} {Q : State → Prop} {R : Room} {rn mcR msR : Nat}
variable {pc : Nat} {ls : Array Slot} {rest : List Value} {A : Nat → Prop} {D : va_G}
variable {cc : ByteArray} {nL index : Nat} {own host : String}
theorem k_X4_strengthFor {Z : Nat → ClassId} {a q : Nat → Nat} {P : M2} {F : M2} {x1 : Int32} {K : Int32 → Prop} (hC : CallFix p m c cc nL s args lw_g own) (hN : NW s) (hK : va_K D vwCl (tysG Z) s) (hP : va_P D vwCl (TW Z a q P F) H) (hD : va_D (fun _ => True) (TW Z a q P F)) (hm : wp_X4_strengthFor P F x1 K) (hl : Cond.methodLink own index yX4_strengthFor ∈ lw_g) (hlt : 1 < rn) (hsize : ls.size = nL) (hW : (rest.map fun v => v.category).sum ≤ 8) (hf : cells + 0 ≤ mcR ∧ slots + 0 ≤ msR) (hdg : decode cc pc = .ok (.invokevirtual index, 3)) (kk : ∀ r : Int32, K r → W p l e (rk rn mcR msR) s m args below meth c H locs cells slots Q (F0 m (pc + 3) ls (.int r :: rest))) : W p l e (rk rn mcR msR) s m args below meth c H locs cells slots Q (F0 m pc ls (.int x1 :: .ref (a 0) :: rest)) :=
  ro_go (runV (As := [.int x1]) hC hN (c_X4_strengthFor l D Z a q P F H.size x1 K hm) mi_X4_strengthFor hl wq_755 wq_18 hlt hP hD hK (q0 := 0) rfl rfl rfl hsize rfl hW hdg hf) kk
end KX4_strengthFor
def wp_X4_breathIn (P : M2) (F : M2) (x0 : Int32) (K : Int32 → Prop) : Prop := ((40 ≤ x0 → K 1) ∧ (¬ 40 ≤ x0 → K (-(1 + ((40 - x0) / 10)))))
set_option maxRecDepth 100000 in
set_option maxHeartbeats 4000000 in
theorem c_X4_breathIn (l : Launch) (D : va_G) (Z : Nat → ClassId) (a q : Nat → Nat) (P : M2) (F : M2) (sz : Nat) (x0 : Int32) (K : Int32 → Prop) (hm : wp_X4_breathIn P F x0 K) : Met l yX4_breathIn (wy yX4_breathIn cX4_breathIn 1 (some .int)) (rk 1 0 0) (pre vwCl D Z (TW Z a q P F) sz [.int x0]) (vp_Si K) 0 0 (fun _ => False) := by
  refine ro_of (ty := .int) (by decide +kernel) (Nat.le_of_ble_eq_true rfl) rfl ?_
  intro p e s m args below meth c Q hC hN hsz hP hD hK hret ls hl
  have hx := hC.1
  have hb := hC.2.1
  have hl : lv_has ls 1 [(0, .int x0)] := hl
  refine lv_iload_n hx hb dX4_breathIn_0 rfl (lv_at hl 0 rfl) ?_
  refine lv_bipush (v := 40) hx hb dX4_breathIn_1 (by decide) ?_
  refine lv_icmp_ge (tgt := 19) hx hb dX4_breathIn_3 (by decide) (fun c_3 => ?_) (fun c_3 => ?_)
  · have hm := hm.1 c_3
    refine lv_iconst (v := 1) hx hb dX4_breathIn_19 (by decide) ?_
    exact hret 20 _ _ hm rfl dX4_breathIn_20
  · have hm := hm.2 c_3
    refine lv_iconst (v := 1) hx hb dX4_breathIn_6 (by decide) ?_
    refine lv_bipush (v := 40) hx hb dX4_breathIn_7 (by decide) ?_
    refine lv_iload_n hx hb dX4_breathIn_9 rfl (lv_at hl 0 rfl) ?_
    refine lv_isub hx hb dX4_breathIn_10 ?_
    refine lv_bipush (v := 10) hx hb dX4_breathIn_11 (by decide) ?_
    refine lv_idiv hx hb dX4_breathIn_13 (by decide) ?_
    refine lv_iadd hx hb dX4_breathIn_14 ?_
    refine lv_ineg hx hb dX4_breathIn_15 ?_
    refine lv_goto (tgt := 20) hx hb dX4_breathIn_16 (by decide) ?_
    exact hret 20 _ _ hm rfl dX4_breathIn_20
section KX4_breathIn
variable {p : Program} {l : Launch} {e : Env} {s : State} {m : MethodId} {args : Array Value} {below : List Frame} {meth : Method} {c : Code} {H H0 : Heap} {locs : List Loc} {cells slots : Nat} {Q : State → Prop} {R : Room} {rn mcR msR : Nat}
variable {pc : Nat} {ls : Array Slot} {rest : List Value} {A : Nat → Prop} {D : va_G}
variable {cc : ByteArray} {nL index : Nat} {own host : String}
theorem k_X4_breathIn {Z : Nat → ClassId} {a q : Nat → Nat} {P : M2} {F : M2} {x0 : Int32} {K : Int32 → Prop} (hC : CallFix p m c cc nL s args lw_g own) (hN : NW s) (hK : va_K D vwCl (tysG Z) s) (hP : va_P D vwCl (TW Z a q P F) H) (hD : va_D (fun _ => True) (TW Z a q P F)) (hm : wp_X4_breathIn P F x0 K) (hl : Cond.methodLink own index yX4_breathIn ∈ lw_g) (hlt : 1 < rn) (hsize : ls.size = nL) (hW : (rest.map fun v => v.category).sum ≤ 8) (hf : cells + 0 ≤ mcR ∧ slots + 0 ≤ msR) (hdg : decode cc pc = .ok (.invokestatic index, 3)) (kk : ∀ r : Int32, K r → W p l e (rk rn mcR msR) s m args below meth c H locs cells slots Q (F0 m (pc + 3) ls (.int r :: rest))) : W p l e (rk rn mcR msR) s m args below meth c H locs cells slots Q (F0 m pc ls (.int x0 :: rest)) :=
  ro_go (runS (As := [.int x0]) hC hN (c_X4_breathIn l D Z a q P F H.size x0 K hm) mi_X4_breathIn hl wq_771 hlt hP hD hK rfl hsize rfl hW hdg hf) kk
end KX4_breathIn
def wl_X4_waitingAt_4 (P : M2) (F : M2) (K : Int32 → Prop) : Nat → Int32 → Int32 → Int32 → Prop
  | 0, _, _, _ => False
  | n + 1, v1, v2, v3 => (((P 24 0) ≤ v3 → K v2) ∧ (¬ (P 24 0) ≤ v3 → ((¬ (atv (F 8) 8 v3) = v1 → (∀ v2_60, v2_60 = v2 + 0 → (∀ v3_61 : Int32, v3_61 = v3 + 1 → wl_X4_waitingAt_4 P F K n v1 v2_60 v3_61))) ∧ ((atv (F 8) 8 v3) = v1 → ((¬ (atv (F 10) 8 v3) = 0 → (∀ v2_60, v2_60 = v2 + 0 → (∀ v3_61 : Int32, v3_61 = v3 + 1 → wl_X4_waitingAt_4 P F K n v1 v2_60 v3_61))) ∧ ((atv (F 10) 8 v3) = 0 → (((F 1 0) < (atv (F 9) 8 v3) → (∀ v2_60, v2_60 = v2 + 0 → (∀ v3_61 : Int32, v3_61 = v3 + 1 → wl_X4_waitingAt_4 P F K n v1 v2_60 v3_61))) ∧ (¬ (F 1 0) < (atv (F 9) 8 v3) → (∀ v2_60, v2_60 = v2 + 1 → (∀ v3_61 : Int32, v3_61 = v3 + 1 → wl_X4_waitingAt_4 P F K n v1 v2_60 v3_61))))))))))
def wp_X4_waitingAt (P : M2) (F : M2) (x1 : Int32) (K : Int32 → Prop) : Prop := wl_X4_waitingAt_4 P F K fK x1 0 0
set_option maxRecDepth 100000 in
set_option maxHeartbeats 4000000 in
theorem c_X4_waitingAt (l : Launch) (D : va_G) (Z : Nat → ClassId) (a q : Nat → Nat) (P : M2) (F : M2) (sz : Nat) (x1 : Int32) (K : Int32 → Prop) (hm : wp_X4_waitingAt P F x1 K) : Met l yX4_waitingAt (wy yX4_waitingAt cX4_waitingAt 4 (some .int)) (rk 1 0 0) (pre vwCl D Z (TW Z a q P F) sz [.ref (a 0), .int x1]) (vp_Si K) 0 0 (fun _ => False) := by
  refine ro_of (ty := .int) (by decide +kernel) (Nat.le_of_ble_eq_true rfl) rfl ?_
  intro p e s m args below meth c Q hC hN hsz hP hD hK hret ls hl
  have hx := hC.1
  have hb := hC.2.1
  have hl : lv_has ls 4 [(0, .ref (a 0)), (1, .int x1)] := hl
  have L4 : ∀ (n4 : Nat), ∀ (v1 : Int32) (v2 : Int32) (v3 : Int32) (ls : Array Slot), wl_X4_waitingAt_4 P F K n4 v1 v2 v3 → lv_has ls 4 [(0, .ref (a 0)), (1, .int v1), (2, .int v2), (3, .int v3)] → W p l e (rk 1 0 0) s m args below meth c s.heap [] 0 0 Q (F0 m 4 ls []) := by
    intro n4
    induction n4 with
    | zero =>
      intro v1 v2 v3 ls hm hl
      exact False.elim hm
    | succ n4 ih4 =>
      intro v1 v2 v3 ls hm hl
      refine lv_iload_n hx hb dX4_waitingAt_4 rfl (lv_at hl 3 rfl) ?_
      refine lv_aload_n hx hb dX4_waitingAt_5 rfl (lv_at hl 0 rfl) ?_
      refine gTW_tun_0 hC hK hP wq_425 dX4_waitingAt_6 ?_
      refine gTW_plan_4 hC hK hP wq_304 dX4_waitingAt_9 ?_
      refine lv_icmp_ge (tgt := 67) hx hb dX4_waitingAt_12 (by decide) (fun c_12 => ?_) (fun c_12 => ?_)
      · have hm := hm.1 c_12
        refine lv_iload_n hx hb dX4_waitingAt_67 rfl (lv_at hl 2 rfl) ?_
        exact hret 68 _ _ hm rfl dX4_waitingAt_68
      · have hm := hm.2 c_12
        refine lv_iload_n hx hb dX4_waitingAt_15 rfl (lv_at hl 2 rfl) ?_
        refine lv_aload_n hx hb dX4_waitingAt_16 rfl (lv_at hl 0 rfl) ?_
        refine gTW_tun_8 hC hK hP wq_441 dX4_waitingAt_17 ?_
        refine lv_iload_n hx hb dX4_waitingAt_20 rfl (lv_at hl 3 rfl) ?_
        refine w_at (q0 := 5) hC hN hK hP wn_519 rfl (by decide) (by decide) hl.1 (Nat.le_of_ble_eq_true rfl) ⟨Nat.le_refl _, Nat.le_refl _⟩ dX4_waitingAt_21 ?_
        refine lv_iload_n hx hb dX4_waitingAt_24 rfl (lv_at hl 1 rfl) ?_
        refine lv_icmp_ne (tgt := 58) hx hb dX4_waitingAt_25 (by decide) (fun c_25 => ?_) (fun c_25 => ?_)
        · have hm := hm.1 c_25
          refine lv_iconst (v := 0) hx hb dX4_waitingAt_58 (by decide) ?_
          refine lv_iadd hx hb dX4_waitingAt_59 ?_
          refine lv_topi (fun v2_60 ev2_60 => ?_)
          have hm := hm v2_60 ev2_60
          refine lv_istore_n (lv' := [(2, .int v2_60), (0, .ref (a 0)), (1, .int v1), (3, .int v3)]) hx hb dX4_waitingAt_60 rfl hl (by decide) rfl (fun ls hl => ?_)
          obtain ⟨v3_61, ev3_61⟩ : ∃ y : Int32, y = v3 + 1 := ⟨_, rfl⟩
          have hm := hm v3_61 ev3_61
          refine lv_iinc (v := v3_61) (lv' := [(3, .int v3_61), (2, .int v2_60), (0, .ref (a 0)), (1, .int v1)]) hx hb dX4_waitingAt_61 hl (k := 3) rfl (by rw [ev3_61]; rfl) (by decide) rfl (fun ls hl => ?_)
          refine lv_goto (tgt := 4) hx hb dX4_waitingAt_64 (by decide) ?_
          exact ih4 _ _ _ _ hm (lv_sub hl [2, 3, 1, 0] rfl)
        · have hm := hm.2 c_25
          refine lv_aload_n hx hb dX4_waitingAt_28 rfl (lv_at hl 0 rfl) ?_
          refine gTW_tun_10 hC hK hP wq_445 dX4_waitingAt_29 ?_
          refine lv_iload_n hx hb dX4_waitingAt_32 rfl (lv_at hl 3 rfl) ?_
          refine w_at (q0 := 7) hC hN hK hP wn_519 rfl (by decide) (by decide) hl.1 (Nat.le_of_ble_eq_true rfl) ⟨Nat.le_refl _, Nat.le_refl _⟩ dX4_waitingAt_33 ?_
          refine lv_if_ne (tgt := 58) hx hb dX4_waitingAt_36 (by decide) (fun c_36 => ?_) (fun c_36 => ?_)
          · have hm := hm.1 c_36
            refine lv_iconst (v := 0) hx hb dX4_waitingAt_58 (by decide) ?_
            refine lv_iadd hx hb dX4_waitingAt_59 ?_
            refine lv_topi (fun v2_60 ev2_60 => ?_)
            have hm := hm v2_60 ev2_60
            refine lv_istore_n (lv' := [(2, .int v2_60), (0, .ref (a 0)), (1, .int v1), (3, .int v3)]) hx hb dX4_waitingAt_60 rfl hl (by decide) rfl (fun ls hl => ?_)
            obtain ⟨v3_61, ev3_61⟩ : ∃ y : Int32, y = v3 + 1 := ⟨_, rfl⟩
            have hm := hm v3_61 ev3_61
            refine lv_iinc (v := v3_61) (lv' := [(3, .int v3_61), (2, .int v2_60), (0, .ref (a 0)), (1, .int v1)]) hx hb dX4_waitingAt_61 hl (k := 3) rfl (by rw [ev3_61]; rfl) (by decide) rfl (fun ls hl => ?_)
            refine lv_goto (tgt := 4) hx hb dX4_waitingAt_64 (by decide) ?_
            exact ih4 _ _ _ _ hm (lv_sub hl [2, 3, 1, 0] rfl)
          · have hm := hm.2 c_36
            refine lv_aload_n hx hb dX4_waitingAt_39 rfl (lv_at hl 0 rfl) ?_
            refine gTW_tun_9 hC hK hP wq_443 dX4_waitingAt_40 ?_
            refine lv_iload_n hx hb dX4_waitingAt_43 rfl (lv_at hl 3 rfl) ?_
            refine w_at (q0 := 6) hC hN hK hP wn_519 rfl (by decide) (by decide) hl.1 (Nat.le_of_ble_eq_true rfl) ⟨Nat.le_refl _, Nat.le_refl _⟩ dX4_waitingAt_44 ?_
            refine lv_aload_n hx hb dX4_waitingAt_47 rfl (lv_at hl 0 rfl) ?_
            refine gTW_tun_1 hC hK hP wq_427 dX4_waitingAt_48 ?_
            refine lv_icmp_gt (tgt := 58) hx hb dX4_waitingAt_51 (by decide) (fun c_51 => ?_) (fun c_51 => ?_)
            · have hm := hm.1 c_51
              refine lv_iconst (v := 0) hx hb dX4_waitingAt_58 (by decide) ?_
              refine lv_iadd hx hb dX4_waitingAt_59 ?_
              refine lv_topi (fun v2_60 ev2_60 => ?_)
              have hm := hm v2_60 ev2_60
              refine lv_istore_n (lv' := [(2, .int v2_60), (0, .ref (a 0)), (1, .int v1), (3, .int v3)]) hx hb dX4_waitingAt_60 rfl hl (by decide) rfl (fun ls hl => ?_)
              obtain ⟨v3_61, ev3_61⟩ : ∃ y : Int32, y = v3 + 1 := ⟨_, rfl⟩
              have hm := hm v3_61 ev3_61
              refine lv_iinc (v := v3_61) (lv' := [(3, .int v3_61), (2, .int v2_60), (0, .ref (a 0)), (1, .int v1)]) hx hb dX4_waitingAt_61 hl (k := 3) rfl (by rw [ev3_61]; rfl) (by decide) rfl (fun ls hl => ?_)
              refine lv_goto (tgt := 4) hx hb dX4_waitingAt_64 (by decide) ?_
              exact ih4 _ _ _ _ hm (lv_sub hl [2, 3, 1, 0] rfl)
            · have hm := hm.2 c_51
              refine lv_iconst (v := 1) hx hb dX4_waitingAt_54 (by decide) ?_
              refine lv_goto (tgt := 59) hx hb dX4_waitingAt_55 (by decide) ?_
              refine lv_iadd hx hb dX4_waitingAt_59 ?_
              refine lv_topi (fun v2_60 ev2_60 => ?_)
              have hm := hm v2_60 ev2_60
              refine lv_istore_n (lv' := [(2, .int v2_60), (0, .ref (a 0)), (1, .int v1), (3, .int v3)]) hx hb dX4_waitingAt_60 rfl hl (by decide) rfl (fun ls hl => ?_)
              obtain ⟨v3_61, ev3_61⟩ : ∃ y : Int32, y = v3 + 1 := ⟨_, rfl⟩
              have hm := hm v3_61 ev3_61
              refine lv_iinc (v := v3_61) (lv' := [(3, .int v3_61), (2, .int v2_60), (0, .ref (a 0)), (1, .int v1)]) hx hb dX4_waitingAt_61 hl (k := 3) rfl (by rw [ev3_61]; rfl) (by decide) rfl (fun ls hl => ?_)
              refine lv_goto (tgt := 4) hx hb dX4_waitingAt_64 (by decide) ?_
              exact ih4 _ _ _ _ hm (lv_sub hl [2, 3, 1, 0] rfl)
  refine lv_iconst (v := 0) hx hb dX4_waitingAt_0 (by decide) ?_
  refine lv_istore_n (lv' := [(2, .int 0), (0, .ref (a 0)), (1, .int x1)]) hx hb dX4_waitingAt_1 rfl hl (by decide) rfl (fun ls hl => ?_)
  refine lv_iconst (v := 0) hx hb dX4_waitingAt_2 (by decide) ?_
  refine lv_istore_n (lv' := [(3, .int 0), (2, .int 0), (0, .ref (a 0)), (1, .int x1)]) hx hb dX4_waitingAt_3 rfl hl (by decide) rfl (fun ls hl => ?_)
  exact L4 _ _ _ _ _ hm (lv_sub hl [2, 3, 1, 0] rfl)
section KX4_waitingAt
variable {p : Program} {l : Launch} {e : Env} {s : State} {m : MethodId} {args : Array Value} {below : List Frame} {meth : Method} {c : Code} {H H0 : Heap} {locs : List Loc} {cells slots : Nat} {Q : State → Prop} {R : Room} {rn mcR msR : Nat}
variable {pc : Nat} {ls : Array Slot} {rest : List Value} {A : Nat → Prop} {D : va_G}
variable {cc : ByteArray} {nL index : Nat} {own host : String}
theorem k_X4_waitingAt {Z : Nat → ClassId} {a q : Nat → Nat} {P : M2} {F : M2} {x1 : Int32} {K : Int32 → Prop} (hC : CallFix p m c cc nL s args lw_g own) (hN : NW s) (hK : va_K D vwCl (tysG Z) s) (hP : va_P D vwCl (TW Z a q P F) H) (hD : va_D (fun _ => True) (TW Z a q P F)) (hm : wp_X4_waitingAt P F x1 K) (hl : Cond.methodLink own index yX4_waitingAt ∈ lw_g) (hlt : 1 < rn) (hsize : ls.size = nL) (hW : (rest.map fun v => v.category).sum ≤ 8) (hf : cells + 0 ≤ mcR ∧ slots + 0 ≤ msR) (hdg : decode cc pc = .ok (.invokevirtual index, 3)) (kk : ∀ r : Int32, K r → W p l e (rk rn mcR msR) s m args below meth c H locs cells slots Q (F0 m (pc + 3) ls (.int r :: rest))) : W p l e (rk rn mcR msR) s m args below meth c H locs cells slots Q (F0 m pc ls (.int x1 :: .ref (a 0) :: rest)) :=
  ro_go (runV (As := [.int x1]) hC hN (c_X4_waitingAt l D Z a q P F H.size x1 K hm) mi_X4_waitingAt hl wq_682 wq_11 hlt hP hD hK (q0 := 0) rfl rfl rfl hsize rfl hW hdg hf) kk
end KX4_waitingAt
def wp_X4_leaf (P : M2) (F : M2) (x1 : Int32) (x2 : Int32) (K : Int32 → Prop) : Prop := ((x1 = 4 → K x2) ∧ (x1 = 5 → K (F 1 0)) ∧ (x1 = 6 → K (F 2 0)) ∧ (x1 = 7 → wp_X4_waitingAt P F x2 (fun r_62 => K r_62)) ∧ (x1 = 8 → K (atv (F 5) 6 x2)) ∧ (x1 = 9 → K (atv (F 11) 8 x2)) ∧ (x1 = 10 → ((¬ (atv (F 10) 8 x2) = 1 → K 0) ∧ ((atv (F 10) 8 x2) = 1 → K 1))) ∧ (x1 = 11 → ((¬ (atv (F 7) 6 x2) = ((-1)) → K 0) ∧ ((atv (F 7) 6 x2) = ((-1)) → K 1))) ∧ (¬ x1 = 4 → ¬ x1 = 5 → ¬ x1 = 6 → ¬ x1 = 7 → ¬ x1 = 8 → ¬ x1 = 9 → ¬ x1 = 10 → ¬ x1 = 11 → K 0))
set_option maxRecDepth 100000 in
set_option maxHeartbeats 4000000 in
theorem c_X4_leaf (l : Launch) (D : va_G) (Z : Nat → ClassId) (a q : Nat → Nat) (P : M2) (F : M2) (sz : Nat) (x1 : Int32) (x2 : Int32) (K : Int32 → Prop) (hm : wp_X4_leaf P F x1 x2 K) : Met l yX4_leaf (wy yX4_leaf cX4_leaf 3 (some .int)) (rk 2 0 0) (pre vwCl D Z (TW Z a q P F) sz [.ref (a 0), .int x1, .int x2]) (vp_Si K) 0 0 (fun _ => False) := by
  refine ro_of (ty := .int) (by decide +kernel) (Nat.le_of_ble_eq_true rfl) rfl ?_
  intro p e s m args below meth c Q hC hN hsz hP hD hK hret ls hl
  have hx := hC.1
  have hb := hC.2.1
  have hl : lv_has ls 3 [(0, .ref (a 0)), (1, .int x1), (2, .int x2)] := hl
  refine lv_iload_n hx hb dX4_leaf_0 rfl (lv_at hl 1 rfl) ?_
  by_cases s1_0 : x1 = 4
  · have hm := hm.1 s1_0
    refine w_swi (off := 47) (tgt := 48) 4 hx hb dX4_leaf_1 s1_0 (by decide) (by decide) (by decide) (by decide) ?_
    refine lv_iload_n hx hb dX4_leaf_48 rfl (lv_at hl 2 rfl) ?_
    exact hret 49 _ _ hm rfl dX4_leaf_49
  have hm := hm.2
  by_cases s1_1 : x1 = 5
  · have hm := hm.1 s1_1
    refine w_swi (off := 49) (tgt := 50) 5 hx hb dX4_leaf_1 s1_1 (by decide) (by decide) (by decide) (by decide) ?_
    refine lv_aload_n hx hb dX4_leaf_50 rfl (lv_at hl 0 rfl) ?_
    refine gTW_tun_1 hC hK hP wq_427 dX4_leaf_51 ?_
    exact hret 54 _ _ hm rfl dX4_leaf_54
  have hm := hm.2
  by_cases s1_2 : x1 = 6
  · have hm := hm.1 s1_2
    refine w_swi (off := 54) (tgt := 55) 6 hx hb dX4_leaf_1 s1_2 (by decide) (by decide) (by decide) (by decide) ?_
    refine lv_aload_n hx hb dX4_leaf_55 rfl (lv_at hl 0 rfl) ?_
    refine gTW_tun_2 hC hK hP wq_429 dX4_leaf_56 ?_
    exact hret 59 _ _ hm rfl dX4_leaf_59
  have hm := hm.2
  by_cases s1_3 : x1 = 7
  · have hm := hm.1 s1_3
    refine w_swi (off := 59) (tgt := 60) 7 hx hb dX4_leaf_1 s1_3 (by decide) (by decide) (by decide) (by decide) ?_
    refine lv_aload_n hx hb dX4_leaf_60 rfl (lv_at hl 0 rfl) ?_
    refine lv_iload_n hx hb dX4_leaf_61 rfl (lv_at hl 2 rfl) ?_
    refine k_X4_waitingAt hC hN hK hP hD hm wq_680 (by decide) hl.1 (Nat.le_of_ble_eq_true rfl) ⟨Nat.le_refl _, Nat.le_refl _⟩ dX4_leaf_62 (fun r_62 hm => ?_)
    exact hret 65 _ _ hm rfl dX4_leaf_65
  have hm := hm.2
  by_cases s1_4 : x1 = 8
  · have hm := hm.1 s1_4
    refine w_swi (off := 65) (tgt := 66) 8 hx hb dX4_leaf_1 s1_4 (by decide) (by decide) (by decide) (by decide) ?_
    refine lv_aload_n hx hb dX4_leaf_66 rfl (lv_at hl 0 rfl) ?_
    refine gTW_tun_5 hC hK hP wq_435 dX4_leaf_67 ?_
    refine lv_iload_n hx hb dX4_leaf_70 rfl (lv_at hl 2 rfl) ?_
    refine w_at (q0 := 2) hC hN hK hP wn_519 rfl (by decide) (by decide) hl.1 (Nat.le_of_ble_eq_true rfl) ⟨Nat.le_refl _, Nat.le_refl _⟩ dX4_leaf_71 ?_
    exact hret 74 _ _ hm rfl dX4_leaf_74
  have hm := hm.2
  by_cases s1_5 : x1 = 9
  · have hm := hm.1 s1_5
    refine w_swi (off := 74) (tgt := 75) 9 hx hb dX4_leaf_1 s1_5 (by decide) (by decide) (by decide) (by decide) ?_
    refine lv_aload_n hx hb dX4_leaf_75 rfl (lv_at hl 0 rfl) ?_
    refine gTW_tun_11 hC hK hP wq_447 dX4_leaf_76 ?_
    refine lv_iload_n hx hb dX4_leaf_79 rfl (lv_at hl 2 rfl) ?_
    refine w_at (q0 := 8) hC hN hK hP wn_519 rfl (by decide) (by decide) hl.1 (Nat.le_of_ble_eq_true rfl) ⟨Nat.le_refl _, Nat.le_refl _⟩ dX4_leaf_80 ?_
    exact hret 83 _ _ hm rfl dX4_leaf_83
  have hm := hm.2
  by_cases s1_6 : x1 = 10
  · have hm := hm.1 s1_6
    refine w_swi (off := 83) (tgt := 84) 10 hx hb dX4_leaf_1 s1_6 (by decide) (by decide) (by decide) (by decide) ?_
    refine lv_aload_n hx hb dX4_leaf_84 rfl (lv_at hl 0 rfl) ?_
    refine gTW_tun_10 hC hK hP wq_445 dX4_leaf_85 ?_
    refine lv_iload_n hx hb dX4_leaf_88 rfl (lv_at hl 2 rfl) ?_
    refine w_at (q0 := 7) hC hN hK hP wn_519 rfl (by decide) (by decide) hl.1 (Nat.le_of_ble_eq_true rfl) ⟨Nat.le_refl _, Nat.le_refl _⟩ dX4_leaf_89 ?_
    refine lv_iconst (v := 1) hx hb dX4_leaf_92 (by decide) ?_
    refine lv_icmp_ne (tgt := 100) hx hb dX4_leaf_93 (by decide) (fun c_93 => ?_) (fun c_93 => ?_)
    · have hm := hm.1 c_93
      refine lv_iconst (v := 0) hx hb dX4_leaf_100 (by decide) ?_
      exact hret 101 _ _ hm rfl dX4_leaf_101
    · have hm := hm.2 c_93
      refine lv_iconst (v := 1) hx hb dX4_leaf_96 (by decide) ?_
      refine lv_goto (tgt := 101) hx hb dX4_leaf_97 (by decide) ?_
      exact hret 101 _ _ hm rfl dX4_leaf_101
  have hm := hm.2
  by_cases s1_7 : x1 = 11
  · have hm := hm.1 s1_7
    refine w_swi (off := 101) (tgt := 102) 11 hx hb dX4_leaf_1 s1_7 (by decide) (by decide) (by decide) (by decide) ?_
    refine lv_aload_n hx hb dX4_leaf_102 rfl (lv_at hl 0 rfl) ?_
    refine gTW_tun_7 hC hK hP wq_439 dX4_leaf_103 ?_
    refine lv_iload_n hx hb dX4_leaf_106 rfl (lv_at hl 2 rfl) ?_
    refine w_at (q0 := 4) hC hN hK hP wn_519 rfl (by decide) (by decide) hl.1 (Nat.le_of_ble_eq_true rfl) ⟨Nat.le_refl _, Nat.le_refl _⟩ dX4_leaf_107 ?_
    refine lv_iconst (v := (-1)) hx hb dX4_leaf_110 (by decide) ?_
    refine lv_icmp_ne (tgt := 118) hx hb dX4_leaf_111 (by decide) (fun c_111 => ?_) (fun c_111 => ?_)
    · have hm := hm.1 c_111
      refine lv_iconst (v := 0) hx hb dX4_leaf_118 (by decide) ?_
      exact hret 119 _ _ hm rfl dX4_leaf_119
    · have hm := hm.2 c_111
      refine lv_iconst (v := 1) hx hb dX4_leaf_114 (by decide) ?_
      refine lv_goto (tgt := 119) hx hb dX4_leaf_115 (by decide) ?_
      exact hret 119 _ _ hm rfl dX4_leaf_119
  have hm := hm.2
  have hm := hm s1_0 s1_1 s1_2 s1_3 s1_4 s1_5 s1_6 s1_7
  refine w_swd (tgt := 120) [4, 5, 6, 7, 8, 9, 10, 11] hx hb dX4_leaf_1 (by decide) (by decide) (fun k hk => ?_) (by decide) ?_
  · simp only [List.mem_cons, List.not_mem_nil, or_false] at hk
    rcases hk with rfl | rfl | rfl | rfl | rfl | rfl | rfl | rfl
    · exact eq_toInt s1_0
    · exact eq_toInt s1_1
    · exact eq_toInt s1_2
    · exact eq_toInt s1_3
    · exact eq_toInt s1_4
    · exact eq_toInt s1_5
    · exact eq_toInt s1_6
    · exact eq_toInt s1_7
  · refine lv_iconst (v := 0) hx hb dX4_leaf_120 (by decide) ?_
    exact hret 121 _ _ hm rfl dX4_leaf_121
section KX4_leaf
variable {p : Program} {l : Launch} {e : Env} {s : State} {m : MethodId} {args : Array Value} {below : List Frame} {meth : Method} {c : Code} {H H0 : Heap} {locs : List Loc} {cells slots : Nat} {Q : State → Prop} {R : Room} {rn mcR msR : Nat}
variable {pc : Nat} {ls : Array Slot} {rest : List Value} {A : Nat → Prop} {D : va_G}
variable {cc : ByteArray} {nL index : Nat} {own host : String}
theorem k_X4_leaf {Z : Nat → ClassId} {a q : Nat → Nat} {P : M2} {F : M2} {x1 : Int32} {x2 : Int32} {K : Int32 → Prop} (hC : CallFix p m c cc nL s args lw_g own) (hN : NW s) (hK : va_K D vwCl (tysG Z) s) (hP : va_P D vwCl (TW Z a q P F) H) (hD : va_D (fun _ => True) (TW Z a q P F)) (hm : wp_X4_leaf P F x1 x2 K) (hl : Cond.methodLink own index yX4_leaf ∈ lw_g) (hlt : 2 < rn) (hsize : ls.size = nL) (hW : (rest.map fun v => v.category).sum ≤ 8) (hf : cells + 0 ≤ mcR ∧ slots + 0 ≤ msR) (hdg : decode cc pc = .ok (.invokevirtual index, 3)) (kk : ∀ r : Int32, K r → W p l e (rk rn mcR msR) s m args below meth c H locs cells slots Q (F0 m (pc + 3) ls (.int r :: rest))) : W p l e (rk rn mcR msR) s m args below meth c H locs cells slots Q (F0 m pc ls (.int x2 :: .int x1 :: .ref (a 0) :: rest)) :=
  ro_go (runV (As := [.int x1, .int x2]) hC hN (c_X4_leaf l D Z a q P F H.size x1 x2 K hm) mi_X4_leaf hl wq_678 wq_10 hlt hP hD hK (q0 := 0) rfl rfl rfl hsize rfl hW hdg hf) kk
end KX4_leaf
def wp_X4_ofOneSide (P : M2) (F : M2) (x1 : Int32) (x2 : Int32) (K : Int32 → Prop) : Prop := ((¬ x1 = 12 → ((¬ x1 = 13 → K (-x2)) ∧ (x1 = 13 → ((¬ x2 = 0 → K 0) ∧ (x2 = 0 → K 1))))) ∧ (x1 = 12 → (((P 21 0) ≤ x2 → K 0) ∧ (¬ (P 21 0) ≤ x2 → K (atv (F 4) 60 x2)))))
set_option maxRecDepth 100000 in
set_option maxHeartbeats 4000000 in
theorem c_X4_ofOneSide (l : Launch) (D : va_G) (Z : Nat → ClassId) (a q : Nat → Nat) (P : M2) (F : M2) (sz : Nat) (x1 : Int32) (x2 : Int32) (K : Int32 → Prop) (hm : wp_X4_ofOneSide P F x1 x2 K) : Met l yX4_ofOneSide (wy yX4_ofOneSide cX4_ofOneSide 3 (some .int)) (rk 1 0 0) (pre vwCl D Z (TW Z a q P F) sz [.ref (a 0), .int x1, .int x2]) (vp_Si K) 0 0 (fun _ => False) := by
  refine ro_of (ty := .int) (by decide +kernel) (Nat.le_of_ble_eq_true rfl) rfl ?_
  intro p e s m args below meth c Q hC hN hsz hP hD hK hret ls hl
  have hx := hC.1
  have hb := hC.2.1
  have hl : lv_has ls 3 [(0, .ref (a 0)), (1, .int x1), (2, .int x2)] := hl
  refine lv_iload_n hx hb dX4_ofOneSide_0 rfl (lv_at hl 1 rfl) ?_
  refine lv_bipush (v := 12) hx hb dX4_ofOneSide_1 (by decide) ?_
  refine lv_icmp_ne (tgt := 30) hx hb dX4_ofOneSide_3 (by decide) (fun c_3 => ?_) (fun c_3 => ?_)
  · have hm := hm.1 c_3
    refine lv_iload_n hx hb dX4_ofOneSide_30 rfl (lv_at hl 1 rfl) ?_
    refine lv_bipush (v := 13) hx hb dX4_ofOneSide_31 (by decide) ?_
    refine lv_icmp_ne (tgt := 46) hx hb dX4_ofOneSide_33 (by decide) (fun c_33 => ?_) (fun c_33 => ?_)
    · have hm := hm.1 c_33
      refine lv_iload_n hx hb dX4_ofOneSide_46 rfl (lv_at hl 2 rfl) ?_
      refine lv_ineg hx hb dX4_ofOneSide_47 ?_
      exact hret 48 _ _ hm rfl dX4_ofOneSide_48
    · have hm := hm.2 c_33
      refine lv_iload_n hx hb dX4_ofOneSide_36 rfl (lv_at hl 2 rfl) ?_
      refine lv_if_ne (tgt := 44) hx hb dX4_ofOneSide_37 (by decide) (fun c_37 => ?_) (fun c_37 => ?_)
      · have hm := hm.1 c_37
        refine lv_iconst (v := 0) hx hb dX4_ofOneSide_44 (by decide) ?_
        exact hret 45 _ _ hm rfl dX4_ofOneSide_45
      · have hm := hm.2 c_37
        refine lv_iconst (v := 1) hx hb dX4_ofOneSide_40 (by decide) ?_
        refine lv_goto (tgt := 45) hx hb dX4_ofOneSide_41 (by decide) ?_
        exact hret 45 _ _ hm rfl dX4_ofOneSide_45
  · have hm := hm.2 c_3
    refine lv_iload_n hx hb dX4_ofOneSide_6 rfl (lv_at hl 2 rfl) ?_
    refine lv_aload_n hx hb dX4_ofOneSide_7 rfl (lv_at hl 0 rfl) ?_
    refine gTW_tun_0 hC hK hP wq_425 dX4_ofOneSide_8 ?_
    refine gTW_plan_1 hC hK hP wq_292 dX4_ofOneSide_11 ?_
    refine lv_icmp_ge (tgt := 28) hx hb dX4_ofOneSide_14 (by decide) (fun c_14 => ?_) (fun c_14 => ?_)
    · have hm := hm.1 c_14
      refine lv_iconst (v := 0) hx hb dX4_ofOneSide_28 (by decide) ?_
      exact hret 29 _ _ hm rfl dX4_ofOneSide_29
    · have hm := hm.2 c_14
      refine lv_aload_n hx hb dX4_ofOneSide_17 rfl (lv_at hl 0 rfl) ?_
      refine gTW_tun_4 hC hK hP wq_433 dX4_ofOneSide_18 ?_
      refine lv_iload_n hx hb dX4_ofOneSide_21 rfl (lv_at hl 2 rfl) ?_
      refine w_at (q0 := 1) hC hN hK hP wn_519 rfl (by decide) (by decide) hl.1 (Nat.le_of_ble_eq_true rfl) ⟨Nat.le_refl _, Nat.le_refl _⟩ dX4_ofOneSide_22 ?_
      refine lv_goto (tgt := 29) hx hb dX4_ofOneSide_25 (by decide) ?_
      exact hret 29 _ _ hm rfl dX4_ofOneSide_29
section KX4_ofOneSide
variable {p : Program} {l : Launch} {e : Env} {s : State} {m : MethodId} {args : Array Value} {below : List Frame} {meth : Method} {c : Code} {H H0 : Heap} {locs : List Loc} {cells slots : Nat} {Q : State → Prop} {R : Room} {rn mcR msR : Nat}
variable {pc : Nat} {ls : Array Slot} {rest : List Value} {A : Nat → Prop} {D : va_G}
variable {cc : ByteArray} {nL index : Nat} {own host : String}
theorem k_X4_ofOneSide {Z : Nat → ClassId} {a q : Nat → Nat} {P : M2} {F : M2} {x1 : Int32} {x2 : Int32} {K : Int32 → Prop} (hC : CallFix p m c cc nL s args lw_g own) (hN : NW s) (hK : va_K D vwCl (tysG Z) s) (hP : va_P D vwCl (TW Z a q P F) H) (hD : va_D (fun _ => True) (TW Z a q P F)) (hm : wp_X4_ofOneSide P F x1 x2 K) (hl : Cond.methodLink own index yX4_ofOneSide ∈ lw_g) (hlt : 1 < rn) (hsize : ls.size = nL) (hW : (rest.map fun v => v.category).sum ≤ 8) (hf : cells + 0 ≤ mcR ∧ slots + 0 ≤ msR) (hdg : decode cc pc = .ok (.invokevirtual index, 3)) (kk : ∀ r : Int32, K r → W p l e (rk rn mcR msR) s m args below meth c H locs cells slots Q (F0 m (pc + 3) ls (.int r :: rest))) : W p l e (rk rn mcR msR) s m args below meth c H locs cells slots Q (F0 m pc ls (.int x2 :: .int x1 :: .ref (a 0) :: rest)) :=
  ro_go (runV (As := [.int x1, .int x2]) hC hN (c_X4_ofOneSide l D Z a q P F H.size x1 x2 K hm) mi_X4_ofOneSide hl wq_687 wq_12 hlt hP hD hK (q0 := 0) rfl rfl rfl hsize rfl hW hdg hf) kk
end KX4_ofOneSide
def wp_X4_quotient (P : M2) (F : M2) (x0 : Int32) (x1 : Int32) (K : Int32 → Prop) : Prop := ((¬ x1 = 0 → ((¬ x1 = ((-1)) → (¬ x1 = 0 ∧ K (x0 / x1))) ∧ (x1 = ((-1)) → K (-x0)))) ∧ (x1 = 0 → K 0))
set_option maxRecDepth 100000 in
set_option maxHeartbeats 4000000 in
theorem c_X4_quotient (l : Launch) (D : va_G) (Z : Nat → ClassId) (a q : Nat → Nat) (P : M2) (F : M2) (sz : Nat) (x0 : Int32) (x1 : Int32) (K : Int32 → Prop) (hm : wp_X4_quotient P F x0 x1 K) : Met l yX4_quotient (wy yX4_quotient cX4_quotient 2 (some .int)) (rk 1 0 0) (pre vwCl D Z (TW Z a q P F) sz [.int x0, .int x1]) (vp_Si K) 0 0 (fun _ => False) := by
  refine ro_of (ty := .int) (by decide +kernel) (Nat.le_of_ble_eq_true rfl) rfl ?_
  intro p e s m args below meth c Q hC hN hsz hP hD hK hret ls hl
  have hx := hC.1
  have hb := hC.2.1
  have hl : lv_has ls 2 [(0, .int x0), (1, .int x1)] := hl
  refine lv_iload_n hx hb dX4_quotient_0 rfl (lv_at hl 1 rfl) ?_
  refine lv_if_ne (tgt := 6) hx hb dX4_quotient_1 (by decide) (fun c_1 => ?_) (fun c_1 => ?_)
  · have hm := hm.1 c_1
    refine lv_iload_n hx hb dX4_quotient_6 rfl (lv_at hl 1 rfl) ?_
    refine lv_iconst (v := (-1)) hx hb dX4_quotient_7 (by decide) ?_
    refine lv_icmp_ne (tgt := 16) hx hb dX4_quotient_8 (by decide) (fun c_8 => ?_) (fun c_8 => ?_)
    · have hm := hm.1 c_8
      refine lv_iload_n hx hb dX4_quotient_16 rfl (lv_at hl 0 rfl) ?_
      refine lv_iload_n hx hb dX4_quotient_17 rfl (lv_at hl 1 rfl) ?_
      refine lv_idiv hx hb dX4_quotient_18 hm.1 ?_
      have hm := hm.2
      exact hret 19 _ _ hm rfl dX4_quotient_19
    · have hm := hm.2 c_8
      refine lv_iload_n hx hb dX4_quotient_11 rfl (lv_at hl 0 rfl) ?_
      refine lv_ineg hx hb dX4_quotient_12 ?_
      refine lv_goto (tgt := 19) hx hb dX4_quotient_13 (by decide) ?_
      exact hret 19 _ _ hm rfl dX4_quotient_19
  · have hm := hm.2 c_1
    refine lv_iconst (v := 0) hx hb dX4_quotient_4 (by decide) ?_
    exact hret 5 _ _ hm rfl dX4_quotient_5
section KX4_quotient
variable {p : Program} {l : Launch} {e : Env} {s : State} {m : MethodId} {args : Array Value} {below : List Frame} {meth : Method} {c : Code} {H H0 : Heap} {locs : List Loc} {cells slots : Nat} {Q : State → Prop} {R : Room} {rn mcR msR : Nat}
variable {pc : Nat} {ls : Array Slot} {rest : List Value} {A : Nat → Prop} {D : va_G}
variable {cc : ByteArray} {nL index : Nat} {own host : String}
theorem k_X4_quotient {Z : Nat → ClassId} {a q : Nat → Nat} {P : M2} {F : M2} {x0 : Int32} {x1 : Int32} {K : Int32 → Prop} (hC : CallFix p m c cc nL s args lw_g own) (hN : NW s) (hK : va_K D vwCl (tysG Z) s) (hP : va_P D vwCl (TW Z a q P F) H) (hD : va_D (fun _ => True) (TW Z a q P F)) (hm : wp_X4_quotient P F x0 x1 K) (hl : Cond.methodLink own index yX4_quotient ∈ lw_g) (hlt : 1 < rn) (hsize : ls.size = nL) (hW : (rest.map fun v => v.category).sum ≤ 8) (hf : cells + 0 ≤ mcR ∧ slots + 0 ≤ msR) (hdg : decode cc pc = .ok (.invokestatic index, 3)) (kk : ∀ r : Int32, K r → W p l e (rk rn mcR msR) s m args below meth c H locs cells slots Q (F0 m (pc + 3) ls (.int r :: rest))) : W p l e (rk rn mcR msR) s m args below meth c H locs cells slots Q (F0 m pc ls (.int x1 :: .int x0 :: rest)) :=
  ro_go (runS (As := [.int x0, .int x1]) hC hN (c_X4_quotient l D Z a q P F H.size x0 x1 K hm) mi_X4_quotient hl wq_693 hlt hP hD hK rfl hsize rfl hW hdg hf) kk
end KX4_quotient
def wp_X4_ofTwoSides (P : M2) (F : M2) (x0 : Int32) (x1 : Int32) (x2 : Int32) (K : Int32 → Prop) : Prop := ((x0 = 15 → K (x1 + x2)) ∧ (x0 = 16 → K (x1 - x2)) ∧ (x0 = 17 → K (x1 * x2)) ∧ (x0 = 18 → wp_X4_quotient P F x1 x2 (fun r_82 => K r_82)) ∧ (x0 = 19 → ((x2 ≤ x1 → K 0) ∧ (¬ x2 ≤ x1 → K 1))) ∧ (x0 = 20 → ((x1 ≤ x2 → K 0) ∧ (¬ x1 ≤ x2 → K 1))) ∧ (x0 = 21 → ((¬ x1 = x2 → K 0) ∧ (x1 = x2 → K 1))) ∧ (x0 = 22 → ((x2 < x1 → K 0) ∧ (¬ x2 < x1 → K 1))) ∧ (x0 = 23 → ((x1 < x2 → K 0) ∧ (¬ x1 < x2 → K 1))) ∧ (x0 = 24 → K (x1 &&& x2)) ∧ (x0 = 25 → K (x1 ||| x2)) ∧ (x0 = 26 → K (mnv x1 x2)) ∧ (x0 = 27 → K (mxv x1 x2)) ∧ (¬ x0 = 15 → ¬ x0 = 16 → ¬ x0 = 17 → ¬ x0 = 18 → ¬ x0 = 19 → ¬ x0 = 20 → ¬ x0 = 21 → ¬ x0 = 22 → ¬ x0 = 23 → ¬ x0 = 24 → ¬ x0 = 25 → ¬ x0 = 26 → ¬ x0 = 27 → K 0))
set_option maxRecDepth 100000 in
set_option maxHeartbeats 4000000 in
theorem c_X4_ofTwoSides (l : Launch) (D : va_G) (Z : Nat → ClassId) (a q : Nat → Nat) (P : M2) (F : M2) (sz : Nat) (x0 : Int32) (x1 : Int32) (x2 : Int32) (K : Int32 → Prop) (hm : wp_X4_ofTwoSides P F x0 x1 x2 K) : Met l yX4_ofTwoSides (wy yX4_ofTwoSides cX4_ofTwoSides 3 (some .int)) (rk 2 0 0) (pre vwCl D Z (TW Z a q P F) sz [.int x0, .int x1, .int x2]) (vp_Si K) 0 0 (fun _ => False) := by
  refine ro_of (ty := .int) (by decide +kernel) (Nat.le_of_ble_eq_true rfl) rfl ?_
  intro p e s m args below meth c Q hC hN hsz hP hD hK hret ls hl
  have hx := hC.1
  have hb := hC.2.1
  have hl : lv_has ls 3 [(0, .int x0), (1, .int x1), (2, .int x2)] := hl
  refine lv_iload_n hx hb dX4_ofTwoSides_0 rfl (lv_at hl 0 rfl) ?_
  by_cases s1_0 : x0 = 15
  · have hm := hm.1 s1_0
    refine w_swi (off := 67) (tgt := 68) 15 hx hb dX4_ofTwoSides_1 s1_0 (by decide) (by decide) (by decide) (by decide) ?_
    refine lv_iload_n hx hb dX4_ofTwoSides_68 rfl (lv_at hl 1 rfl) ?_
    refine lv_iload_n hx hb dX4_ofTwoSides_69 rfl (lv_at hl 2 rfl) ?_
    refine lv_iadd hx hb dX4_ofTwoSides_70 ?_
    exact hret 71 _ _ hm rfl dX4_ofTwoSides_71
  have hm := hm.2
  by_cases s1_1 : x0 = 16
  · have hm := hm.1 s1_1
    refine w_swi (off := 71) (tgt := 72) 16 hx hb dX4_ofTwoSides_1 s1_1 (by decide) (by decide) (by decide) (by decide) ?_
    refine lv_iload_n hx hb dX4_ofTwoSides_72 rfl (lv_at hl 1 rfl) ?_
    refine lv_iload_n hx hb dX4_ofTwoSides_73 rfl (lv_at hl 2 rfl) ?_
    refine lv_isub hx hb dX4_ofTwoSides_74 ?_
    exact hret 75 _ _ hm rfl dX4_ofTwoSides_75
  have hm := hm.2
  by_cases s1_2 : x0 = 17
  · have hm := hm.1 s1_2
    refine w_swi (off := 75) (tgt := 76) 17 hx hb dX4_ofTwoSides_1 s1_2 (by decide) (by decide) (by decide) (by decide) ?_
    refine lv_iload_n hx hb dX4_ofTwoSides_76 rfl (lv_at hl 1 rfl) ?_
    refine lv_iload_n hx hb dX4_ofTwoSides_77 rfl (lv_at hl 2 rfl) ?_
    refine lv_imul hx hb dX4_ofTwoSides_78 ?_
    exact hret 79 _ _ hm rfl dX4_ofTwoSides_79
  have hm := hm.2
  by_cases s1_3 : x0 = 18
  · have hm := hm.1 s1_3
    refine w_swi (off := 79) (tgt := 80) 18 hx hb dX4_ofTwoSides_1 s1_3 (by decide) (by decide) (by decide) (by decide) ?_
    refine lv_iload_n hx hb dX4_ofTwoSides_80 rfl (lv_at hl 1 rfl) ?_
    refine lv_iload_n hx hb dX4_ofTwoSides_81 rfl (lv_at hl 2 rfl) ?_
    refine k_X4_quotient hC hN hK hP hD hm wq_692 (by decide) hl.1 (Nat.le_of_ble_eq_true rfl) ⟨Nat.le_refl _, Nat.le_refl _⟩ dX4_ofTwoSides_82 (fun r_82 hm => ?_)
    exact hret 85 _ _ hm rfl dX4_ofTwoSides_85
  have hm := hm.2
  by_cases s1_4 : x0 = 19
  · have hm := hm.1 s1_4
    refine w_swi (off := 85) (tgt := 86) 19 hx hb dX4_ofTwoSides_1 s1_4 (by decide) (by decide) (by decide) (by decide) ?_
    refine lv_iload_n hx hb dX4_ofTwoSides_86 rfl (lv_at hl 1 rfl) ?_
    refine lv_iload_n hx hb dX4_ofTwoSides_87 rfl (lv_at hl 2 rfl) ?_
    refine lv_icmp_ge (tgt := 95) hx hb dX4_ofTwoSides_88 (by decide) (fun c_88 => ?_) (fun c_88 => ?_)
    · have hm := hm.1 c_88
      refine lv_iconst (v := 0) hx hb dX4_ofTwoSides_95 (by decide) ?_
      exact hret 96 _ _ hm rfl dX4_ofTwoSides_96
    · have hm := hm.2 c_88
      refine lv_iconst (v := 1) hx hb dX4_ofTwoSides_91 (by decide) ?_
      refine lv_goto (tgt := 96) hx hb dX4_ofTwoSides_92 (by decide) ?_
      exact hret 96 _ _ hm rfl dX4_ofTwoSides_96
  have hm := hm.2
  by_cases s1_5 : x0 = 20
  · have hm := hm.1 s1_5
    refine w_swi (off := 96) (tgt := 97) 20 hx hb dX4_ofTwoSides_1 s1_5 (by decide) (by decide) (by decide) (by decide) ?_
    refine lv_iload_n hx hb dX4_ofTwoSides_97 rfl (lv_at hl 1 rfl) ?_
    refine lv_iload_n hx hb dX4_ofTwoSides_98 rfl (lv_at hl 2 rfl) ?_
    refine lv_icmp_le (tgt := 106) hx hb dX4_ofTwoSides_99 (by decide) (fun c_99 => ?_) (fun c_99 => ?_)
    · have hm := hm.1 c_99
      refine lv_iconst (v := 0) hx hb dX4_ofTwoSides_106 (by decide) ?_
      exact hret 107 _ _ hm rfl dX4_ofTwoSides_107
    · have hm := hm.2 c_99
      refine lv_iconst (v := 1) hx hb dX4_ofTwoSides_102 (by decide) ?_
      refine lv_goto (tgt := 107) hx hb dX4_ofTwoSides_103 (by decide) ?_
      exact hret 107 _ _ hm rfl dX4_ofTwoSides_107
  have hm := hm.2
  by_cases s1_6 : x0 = 21
  · have hm := hm.1 s1_6
    refine w_swi (off := 107) (tgt := 108) 21 hx hb dX4_ofTwoSides_1 s1_6 (by decide) (by decide) (by decide) (by decide) ?_
    refine lv_iload_n hx hb dX4_ofTwoSides_108 rfl (lv_at hl 1 rfl) ?_
    refine lv_iload_n hx hb dX4_ofTwoSides_109 rfl (lv_at hl 2 rfl) ?_
    refine lv_icmp_ne (tgt := 117) hx hb dX4_ofTwoSides_110 (by decide) (fun c_110 => ?_) (fun c_110 => ?_)
    · have hm := hm.1 c_110
      refine lv_iconst (v := 0) hx hb dX4_ofTwoSides_117 (by decide) ?_
      exact hret 118 _ _ hm rfl dX4_ofTwoSides_118
    · have hm := hm.2 c_110
      refine lv_iconst (v := 1) hx hb dX4_ofTwoSides_113 (by decide) ?_
      refine lv_goto (tgt := 118) hx hb dX4_ofTwoSides_114 (by decide) ?_
      exact hret 118 _ _ hm rfl dX4_ofTwoSides_118
  have hm := hm.2
  by_cases s1_7 : x0 = 22
  · have hm := hm.1 s1_7
    refine w_swi (off := 118) (tgt := 119) 22 hx hb dX4_ofTwoSides_1 s1_7 (by decide) (by decide) (by decide) (by decide) ?_
    refine lv_iload_n hx hb dX4_ofTwoSides_119 rfl (lv_at hl 1 rfl) ?_
    refine lv_iload_n hx hb dX4_ofTwoSides_120 rfl (lv_at hl 2 rfl) ?_
    refine lv_icmp_gt (tgt := 128) hx hb dX4_ofTwoSides_121 (by decide) (fun c_121 => ?_) (fun c_121 => ?_)
    · have hm := hm.1 c_121
      refine lv_iconst (v := 0) hx hb dX4_ofTwoSides_128 (by decide) ?_
      exact hret 129 _ _ hm rfl dX4_ofTwoSides_129
    · have hm := hm.2 c_121
      refine lv_iconst (v := 1) hx hb dX4_ofTwoSides_124 (by decide) ?_
      refine lv_goto (tgt := 129) hx hb dX4_ofTwoSides_125 (by decide) ?_
      exact hret 129 _ _ hm rfl dX4_ofTwoSides_129
  have hm := hm.2
  by_cases s1_8 : x0 = 23
  · have hm := hm.1 s1_8
    refine w_swi (off := 129) (tgt := 130) 23 hx hb dX4_ofTwoSides_1 s1_8 (by decide) (by decide) (by decide) (by decide) ?_
    refine lv_iload_n hx hb dX4_ofTwoSides_130 rfl (lv_at hl 1 rfl) ?_
    refine lv_iload_n hx hb dX4_ofTwoSides_131 rfl (lv_at hl 2 rfl) ?_
    refine lv_icmp_lt (tgt := 139) hx hb dX4_ofTwoSides_132 (by decide) (fun c_132 => ?_) (fun c_132 => ?_)
    · have hm := hm.1 c_132
      refine lv_iconst (v := 0) hx hb dX4_ofTwoSides_139 (by decide) ?_
      exact hret 140 _ _ hm rfl dX4_ofTwoSides_140
    · have hm := hm.2 c_132
      refine lv_iconst (v := 1) hx hb dX4_ofTwoSides_135 (by decide) ?_
      refine lv_goto (tgt := 140) hx hb dX4_ofTwoSides_136 (by decide) ?_
      exact hret 140 _ _ hm rfl dX4_ofTwoSides_140
  have hm := hm.2
  by_cases s1_9 : x0 = 24
  · have hm := hm.1 s1_9
    refine w_swi (off := 140) (tgt := 141) 24 hx hb dX4_ofTwoSides_1 s1_9 (by decide) (by decide) (by decide) (by decide) ?_
    refine lv_iload_n hx hb dX4_ofTwoSides_141 rfl (lv_at hl 1 rfl) ?_
    refine lv_iload_n hx hb dX4_ofTwoSides_142 rfl (lv_at hl 2 rfl) ?_
    refine lv_iand hx hb dX4_ofTwoSides_143 ?_
    exact hret 144 _ _ hm rfl dX4_ofTwoSides_144
  have hm := hm.2
  by_cases s1_10 : x0 = 25
  · have hm := hm.1 s1_10
    refine w_swi (off := 144) (tgt := 145) 25 hx hb dX4_ofTwoSides_1 s1_10 (by decide) (by decide) (by decide) (by decide) ?_
    refine lv_iload_n hx hb dX4_ofTwoSides_145 rfl (lv_at hl 1 rfl) ?_
    refine lv_iload_n hx hb dX4_ofTwoSides_146 rfl (lv_at hl 2 rfl) ?_
    refine lv_ior hx hb dX4_ofTwoSides_147 ?_
    exact hret 148 _ _ hm rfl dX4_ofTwoSides_148
  have hm := hm.2
  by_cases s1_11 : x0 = 26
  · have hm := hm.1 s1_11
    refine w_swi (off := 148) (tgt := 149) 26 hx hb dX4_ofTwoSides_1 s1_11 (by decide) (by decide) (by decide) (by decide) ?_
    refine lv_iload_n hx hb dX4_ofTwoSides_149 rfl (lv_at hl 1 rfl) ?_
    refine lv_iload_n hx hb dX4_ofTwoSides_150 rfl (lv_at hl 2 rfl) ?_
    refine w_min hC wq_695 (by decide) (Nat.le_of_ble_eq_true rfl) hl.1 ⟨Nat.le_refl _, Nat.le_refl _⟩ dX4_ofTwoSides_151 ?_
    exact hret 154 _ _ hm rfl dX4_ofTwoSides_154
  have hm := hm.2
  by_cases s1_12 : x0 = 27
  · have hm := hm.1 s1_12
    refine w_swi (off := 154) (tgt := 155) 27 hx hb dX4_ofTwoSides_1 s1_12 (by decide) (by decide) (by decide) (by decide) ?_
    refine lv_iload_n hx hb dX4_ofTwoSides_155 rfl (lv_at hl 1 rfl) ?_
    refine lv_iload_n hx hb dX4_ofTwoSides_156 rfl (lv_at hl 2 rfl) ?_
    refine w_max hC wq_698 (by decide) (Nat.le_of_ble_eq_true rfl) hl.1 ⟨Nat.le_refl _, Nat.le_refl _⟩ dX4_ofTwoSides_157 ?_
    exact hret 160 _ _ hm rfl dX4_ofTwoSides_160
  have hm := hm.2
  have hm := hm s1_0 s1_1 s1_2 s1_3 s1_4 s1_5 s1_6 s1_7 s1_8 s1_9 s1_10 s1_11 s1_12
  refine w_swd (tgt := 161) [15, 16, 17, 18, 19, 20, 21, 22, 23, 24, 25, 26, 27] hx hb dX4_ofTwoSides_1 (by decide) (by decide) (fun k hk => ?_) (by decide) ?_
  · simp only [List.mem_cons, List.not_mem_nil, or_false] at hk
    rcases hk with rfl | rfl | rfl | rfl | rfl | rfl | rfl | rfl | rfl | rfl | rfl | rfl | rfl
    · exact eq_toInt s1_0
    · exact eq_toInt s1_1
    · exact eq_toInt s1_2
    · exact eq_toInt s1_3
    · exact eq_toInt s1_4
    · exact eq_toInt s1_5
    · exact eq_toInt s1_6
    · exact eq_toInt s1_7
    · exact eq_toInt s1_8
    · exact eq_toInt s1_9
    · exact eq_toInt s1_10
    · exact eq_toInt s1_11
    · exact eq_toInt s1_12
  · refine lv_iconst (v := 0) hx hb dX4_ofTwoSides_161 (by decide) ?_
    exact hret 162 _ _ hm rfl dX4_ofTwoSides_162
section KX4_ofTwoSides
variable {p : Program} {l : Launch} {e : Env} {s : State} {m : MethodId} {args : Array Value} {below : List Frame} {meth : Method} {c : Code} {H H0 : Heap} {locs : List Loc} {cells slots : Nat} {Q : State → Prop} {R : Room} {rn mcR msR : Nat}
variable {pc : Nat} {ls : Array Slot} {rest : List Value} {A : Nat → Prop} {D : va_G}
variable {cc : ByteArray} {nL index : Nat} {own host : String}
theorem k_X4_ofTwoSides {Z : Nat → ClassId} {a q : Nat → Nat} {P : M2} {F : M2} {x0 : Int32} {x1 : Int32} {x2 : Int32} {K : Int32 → Prop} (hC : CallFix p m c cc nL s args lw_g own) (hN : NW s) (hK : va_K D vwCl (tysG Z) s) (hP : va_P D vwCl (TW Z a q P F) H) (hD : va_D (fun _ => True) (TW Z a q P F)) (hm : wp_X4_ofTwoSides P F x0 x1 x2 K) (hl : Cond.methodLink own index yX4_ofTwoSides ∈ lw_g) (hlt : 2 < rn) (hsize : ls.size = nL) (hW : (rest.map fun v => v.category).sum ≤ 8) (hf : cells + 0 ≤ mcR ∧ slots + 0 ≤ msR) (hdg : decode cc pc = .ok (.invokestatic index, 3)) (kk : ∀ r : Int32, K r → W p l e (rk rn mcR msR) s m args below meth c H locs cells slots Q (F0 m (pc + 3) ls (.int r :: rest))) : W p l e (rk rn mcR msR) s m args below meth c H locs cells slots Q (F0 m pc ls (.int x2 :: .int x1 :: .int x0 :: rest)) :=
  ro_go (runS (As := [.int x0, .int x1, .int x2]) hC hN (c_X4_ofTwoSides l D Z a q P F H.size x0 x1 x2 K hm) mi_X4_ofTwoSides hl wq_690 hlt hP hD hK rfl hsize rfl hW hdg hf) kk
end KX4_ofTwoSides
