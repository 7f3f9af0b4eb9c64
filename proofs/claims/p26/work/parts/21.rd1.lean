theorem dX0_clear_0 : decode cX0_clear 0 = .ok (.aload_n 0, 1) := by decide +kernel
theorem dX0_clear_1 : decode cX0_clear 1 = .ok (.iconst 0, 1) := by decide +kernel
theorem dX0_clear_2 : decode cX0_clear 2 = .ok (.putfield 9, 3) := by decide +kernel
theorem dX0_clear_5 : decode cX0_clear 5 = .ok (.aload_n 0, 1) := by decide +kernel
theorem dX0_clear_6 : decode cX0_clear 6 = .ok (.iconst 0, 1) := by decide +kernel
theorem dX0_clear_7 : decode cX0_clear 7 = .ok (.putfield 28, 3) := by decide +kernel
theorem dX0_clear_10 : decode cX0_clear 10 = .ok (.return_, 1) := by decide +kernel
theorem dX0_emit_0 : decode cX0_emit 0 = .ok (.aload_n 0, 1) := by decide +kernel
theorem dX0_emit_1 : decode cX0_emit 1 = .ok (.getfield 31, 3) := by decide +kernel
theorem dX0_emit_4 : decode cX0_emit 4 = .ok (.aload_n 0, 1) := by decide +kernel
theorem dX0_emit_5 : decode cX0_emit 5 = .ok (.getfield 28, 3) := by decide +kernel
theorem dX0_emit_8 : decode cX0_emit 8 = .ok (.iload_n 1, 1) := by decide +kernel
theorem dX0_emit_9 : decode cX0_emit 9 = .ok (.invokestatic 37, 3) := by decide +kernel
theorem dX0_emit_12 : decode cX0_emit 12 = .ok (.aload_n 0, 1) := by decide +kernel
theorem dX0_emit_13 : decode cX0_emit 13 = .ok (.getfield 34, 3) := by decide +kernel
theorem dX0_emit_16 : decode cX0_emit 16 = .ok (.aload_n 0, 1) := by decide +kernel
theorem dX0_emit_17 : decode cX0_emit 17 = .ok (.getfield 28, 3) := by decide +kernel
theorem dX0_emit_20 : decode cX0_emit 20 = .ok (.iload_n 2, 1) := by decide +kernel
theorem dX0_emit_21 : decode cX0_emit 21 = .ok (.invokestatic 37, 3) := by decide +kernel
theorem dX0_emit_24 : decode cX0_emit 24 = .ok (.aload_n 0, 1) := by decide +kernel
theorem dX0_emit_25 : decode cX0_emit 25 = .ok (.dup, 1) := by decide +kernel
theorem dX0_emit_26 : decode cX0_emit 26 = .ok (.getfield 28, 3) := by decide +kernel
theorem dX0_emit_29 : decode cX0_emit 29 = .ok (.iconst 1, 1) := by decide +kernel
theorem dX0_emit_30 : decode cX0_emit 30 = .ok (.iadd, 1) := by decide +kernel
theorem dX0_emit_31 : decode cX0_emit 31 = .ok (.putfield 28, 3) := by decide +kernel
theorem dX0_emit_34 : decode cX0_emit 34 = .ok (.return_, 1) := by decide +kernel
theorem dX0_add_0 : decode cX0_add 0 = .ok (.aload_n 0, 1) := by decide +kernel
theorem dX0_add_1 : decode cX0_add 1 = .ok (.getfield 15, 3) := by decide +kernel
theorem dX0_add_4 : decode cX0_add 4 = .ok (.aload_n 0, 1) := by decide +kernel
theorem dX0_add_5 : decode cX0_add 5 = .ok (.getfield 9, 3) := by decide +kernel
theorem dX0_add_8 : decode cX0_add 8 = .ok (.iload_n 1, 1) := by decide +kernel
theorem dX0_add_9 : decode cX0_add 9 = .ok (.invokestatic 37, 3) := by decide +kernel
theorem dX0_add_12 : decode cX0_add 12 = .ok (.aload_n 0, 1) := by decide +kernel
theorem dX0_add_13 : decode cX0_add 13 = .ok (.getfield 19, 3) := by decide +kernel
theorem dX0_add_16 : decode cX0_add 16 = .ok (.aload_n 0, 1) := by decide +kernel
theorem dX0_add_17 : decode cX0_add 17 = .ok (.getfield 9, 3) := by decide +kernel
theorem dX0_add_20 : decode cX0_add 20 = .ok (.iload_n 2, 1) := by decide +kernel
theorem dX0_add_21 : decode cX0_add 21 = .ok (.invokestatic 37, 3) := by decide +kernel
theorem dX0_add_24 : decode cX0_add 24 = .ok (.aload_n 0, 1) := by decide +kernel
theorem dX0_add_25 : decode cX0_add 25 = .ok (.getfield 22, 3) := by decide +kernel
theorem dX0_add_28 : decode cX0_add 28 = .ok (.aload_n 0, 1) := by decide +kernel
theorem dX0_add_29 : decode cX0_add 29 = .ok (.getfield 9, 3) := by decide +kernel
theorem dX0_add_32 : decode cX0_add 32 = .ok (.iload_n 3, 1) := by decide +kernel
theorem dX0_add_33 : decode cX0_add 33 = .ok (.invokestatic 37, 3) := by decide +kernel
theorem dX0_add_36 : decode cX0_add 36 = .ok (.aload_n 0, 1) := by decide +kernel
theorem dX0_add_37 : decode cX0_add 37 = .ok (.getfield 25, 3) := by decide +kernel
theorem dX0_add_40 : decode cX0_add 40 = .ok (.aload_n 0, 1) := by decide +kernel
theorem dX0_add_41 : decode cX0_add 41 = .ok (.getfield 9, 3) := by decide +kernel
theorem dX0_add_44 : decode cX0_add 44 = .ok (.aload_n 0, 1) := by decide +kernel
theorem dX0_add_45 : decode cX0_add 45 = .ok (.getfield 28, 3) := by decide +kernel
theorem dX0_add_48 : decode cX0_add 48 = .ok (.invokestatic 37, 3) := by decide +kernel
theorem dX0_add_51 : decode cX0_add 51 = .ok (.aload_n 0, 1) := by decide +kernel
theorem dX0_add_52 : decode cX0_add 52 = .ok (.dup, 1) := by decide +kernel
theorem dX0_add_53 : decode cX0_add 53 = .ok (.getfield 9, 3) := by decide +kernel
theorem dX0_add_56 : decode cX0_add 56 = .ok (.iconst 1, 1) := by decide +kernel
theorem dX0_add_57 : decode cX0_add 57 = .ok (.iadd, 1) := by decide +kernel
theorem dX0_add_58 : decode cX0_add 58 = .ok (.putfield 9, 3) := by decide +kernel
theorem dX0_add_61 : decode cX0_add 61 = .ok (.return_, 1) := by decide +kernel
theorem dX1_clear_0 : decode cX1_clear 0 = .ok (.aload_n 0, 1) := by decide +kernel
theorem dX1_clear_1 : decode cX1_clear 1 = .ok (.iconst 0, 1) := by decide +kernel
theorem dX1_clear_2 : decode cX1_clear 2 = .ok (.putfield 9, 3) := by decide +kernel
theorem dX1_clear_5 : decode cX1_clear 5 = .ok (.aload_n 0, 1) := by decide +kernel
theorem dX1_clear_6 : decode cX1_clear 6 = .ok (.iconst 0, 1) := by decide +kernel
theorem dX1_clear_7 : decode cX1_clear 7 = .ok (.putfield 15, 3) := by decide +kernel
theorem dX1_clear_10 : decode cX1_clear 10 = .ok (.aload_n 0, 1) := by decide +kernel
theorem dX1_clear_11 : decode cX1_clear 11 = .ok (.iconst 0, 1) := by decide +kernel
theorem dX1_clear_12 : decode cX1_clear 12 = .ok (.putfield 18, 3) := by decide +kernel
theorem dX1_clear_15 : decode cX1_clear 15 = .ok (.aload_n 0, 1) := by decide +kernel
theorem dX1_clear_16 : decode cX1_clear 16 = .ok (.iconst 0, 1) := by decide +kernel
theorem dX1_clear_17 : decode cX1_clear 17 = .ok (.putfield 21, 3) := by decide +kernel
theorem dX1_clear_20 : decode cX1_clear 20 = .ok (.aload_n 0, 1) := by decide +kernel
theorem dX1_clear_21 : decode cX1_clear 21 = .ok (.iconst 0, 1) := by decide +kernel
theorem dX1_clear_22 : decode cX1_clear 22 = .ok (.putfield 24, 3) := by decide +kernel
theorem dX1_clear_25 : decode cX1_clear 25 = .ok (.aload_n 0, 1) := by decide +kernel
theorem dX1_clear_26 : decode cX1_clear 26 = .ok (.getfield 70, 3) := by decide +kernel
theorem dX1_clear_29 : decode cX1_clear 29 = .ok (.invokevirtual 74, 3) := by decide +kernel
theorem dX1_clear_32 : decode cX1_clear 32 = .ok (.return_, 1) := by decide +kernel
theorem dX1_addBore_0 : decode cX1_addBore 0 = .ok (.aload_n 0, 1) := by decide +kernel
theorem dX1_addBore_1 : decode cX1_addBore 1 = .ok (.getfield 27, 3) := by decide +kernel
theorem dX1_addBore_4 : decode cX1_addBore 4 = .ok (.aload_n 0, 1) := by decide +kernel
theorem dX1_addBore_5 : decode cX1_addBore 5 = .ok (.getfield 9, 3) := by decide +kernel
theorem dX1_addBore_8 : decode cX1_addBore 8 = .ok (.iload_n 1, 1) := by decide +kernel
theorem dX1_addBore_9 : decode cX1_addBore 9 = .ok (.invokestatic 77, 3) := by decide +kernel
theorem dX1_addBore_12 : decode cX1_addBore 12 = .ok (.aload_n 0, 1) := by decide +kernel
theorem dX1_addBore_13 : decode cX1_addBore 13 = .ok (.getfield 31, 3) := by decide +kernel
theorem dX1_addBore_16 : decode cX1_addBore 16 = .ok (.aload_n 0, 1) := by decide +kernel
theorem dX1_addBore_17 : decode cX1_addBore 17 = .ok (.getfield 9, 3) := by decide +kernel
theorem dX1_addBore_20 : decode cX1_addBore 20 = .ok (.iload_n 2, 1) := by decide +kernel
theorem dX1_addBore_21 : decode cX1_addBore 21 = .ok (.invokestatic 77, 3) := by decide +kernel
theorem dX1_addBore_24 : decode cX1_addBore 24 = .ok (.aload_n 0, 1) := by decide +kernel
theorem dX1_addBore_25 : decode cX1_addBore 25 = .ok (.getfield 34, 3) := by decide +kernel
theorem dX1_addBore_28 : decode cX1_addBore 28 = .ok (.aload_n 0, 1) := by decide +kernel
theorem dX1_addBore_29 : decode cX1_addBore 29 = .ok (.getfield 9, 3) := by decide +kernel
theorem dX1_addBore_32 : decode cX1_addBore 32 = .ok (.aload_n 0, 1) := by decide +kernel
theorem dX1_addBore_33 : decode cX1_addBore 33 = .ok (.getfield 15, 3) := by decide +kernel
theorem dX1_addBore_36 : decode cX1_addBore 36 = .ok (.invokestatic 77, 3) := by decide +kernel
theorem dX1_addBore_39 : decode cX1_addBore 39 = .ok (.iconst 0, 1) := by decide +kernel
theorem dX1_addBore_40 : decode cX1_addBore 40 = .ok (.istore_n 3, 1) := by decide +kernel
theorem dX1_addBore_41 : decode cX1_addBore 41 = .ok (.iload_n 3, 1) := by decide +kernel
theorem dX1_addBore_42 : decode cX1_addBore 42 = .ok (.iload_n 1, 1) := by decide +kernel
theorem dX1_addBore_43 : decode cX1_addBore 43 = .ok (.if_icmp .ge 43, 3) := by decide +kernel
theorem dX1_addBore_46 : decode cX1_addBore 46 = .ok (.aload_n 0, 1) := by decide +kernel
theorem dX1_addBore_47 : decode cX1_addBore 47 = .ok (.getfield 15, 3) := by decide +kernel
theorem dX1_addBore_50 : decode cX1_addBore 50 = .ok (.bipush 60, 2) := by decide +kernel
theorem dX1_addBore_52 : decode cX1_addBore 52 = .ok (.if_icmp .ge 34, 3) := by decide +kernel
theorem dX1_addBore_55 : decode cX1_addBore 55 = .ok (.aload_n 0, 1) := by decide +kernel
theorem dX1_addBore_56 : decode cX1_addBore 56 = .ok (.getfield 37, 3) := by decide +kernel
theorem dX1_addBore_59 : decode cX1_addBore 59 = .ok (.aload_n 0, 1) := by decide +kernel
theorem dX1_addBore_60 : decode cX1_addBore 60 = .ok (.getfield 15, 3) := by decide +kernel
theorem dX1_addBore_63 : decode cX1_addBore 63 = .ok (.aload_n 0, 1) := by decide +kernel
theorem dX1_addBore_64 : decode cX1_addBore 64 = .ok (.getfield 9, 3) := by decide +kernel
theorem dX1_addBore_67 : decode cX1_addBore 67 = .ok (.invokestatic 77, 3) := by decide +kernel
theorem dX1_addBore_70 : decode cX1_addBore 70 = .ok (.aload_n 0, 1) := by decide +kernel
theorem dX1_addBore_71 : decode cX1_addBore 71 = .ok (.dup, 1) := by decide +kernel
theorem dX1_addBore_72 : decode cX1_addBore 72 = .ok (.getfield 15, 3) := by decide +kernel
theorem dX1_addBore_75 : decode cX1_addBore 75 = .ok (.iconst 1, 1) := by decide +kernel
theorem dX1_addBore_76 : decode cX1_addBore 76 = .ok (.iadd, 1) := by decide +kernel
theorem dX1_addBore_77 : decode cX1_addBore 77 = .ok (.putfield 15, 3) := by decide +kernel
theorem dX1_addBore_80 : decode cX1_addBore 80 = .ok (.iinc 3 1, 3) := by decide +kernel
theorem dX1_addBore_83 : decode cX1_addBore 83 = .ok (.goto (-42), 3) := by decide +kernel
theorem dX1_addBore_86 : decode cX1_addBore 86 = .ok (.aload_n 0, 1) := by decide +kernel
theorem dX1_addBore_87 : decode cX1_addBore 87 = .ok (.dup, 1) := by decide +kernel
theorem dX1_addBore_88 : decode cX1_addBore 88 = .ok (.getfield 9, 3) := by decide +kernel
theorem dX1_addBore_91 : decode cX1_addBore 91 = .ok (.iconst 1, 1) := by decide +kernel
theorem dX1_addBore_92 : decode cX1_addBore 92 = .ok (.iadd, 1) := by decide +kernel
theorem dX1_addBore_93 : decode cX1_addBore 93 = .ok (.putfield 9, 3) := by decide +kernel
theorem dX1_addBore_96 : decode cX1_addBore 96 = .ok (.return_, 1) := by decide +kernel
theorem dX1_addShaft_0 : decode cX1_addShaft 0 = .ok (.aload_n 0, 1) := by decide +kernel
theorem dX1_addShaft_1 : decode cX1_addShaft 1 = .ok (.getfield 40, 3) := by decide +kernel
theorem dX1_addShaft_4 : decode cX1_addShaft 4 = .ok (.aload_n 0, 1) := by decide +kernel
theorem dX1_addShaft_5 : decode cX1_addShaft 5 = .ok (.getfield 18, 3) := by decide +kernel
theorem dX1_addShaft_8 : decode cX1_addShaft 8 = .ok (.iload_n 1, 1) := by decide +kernel
theorem dX1_addShaft_9 : decode cX1_addShaft 9 = .ok (.invokestatic 77, 3) := by decide +kernel
theorem dX1_addShaft_12 : decode cX1_addShaft 12 = .ok (.aload_n 0, 1) := by decide +kernel
theorem dX1_addShaft_13 : decode cX1_addShaft 13 = .ok (.getfield 43, 3) := by decide +kernel
theorem dX1_addShaft_16 : decode cX1_addShaft 16 = .ok (.aload_n 0, 1) := by decide +kernel
theorem dX1_addShaft_17 : decode cX1_addShaft 17 = .ok (.getfield 18, 3) := by decide +kernel
theorem dX1_addShaft_20 : decode cX1_addShaft 20 = .ok (.iload_n 2, 1) := by decide +kernel
theorem dX1_addShaft_21 : decode cX1_addShaft 21 = .ok (.invokestatic 77, 3) := by decide +kernel
theorem dX1_addShaft_24 : decode cX1_addShaft 24 = .ok (.aload_n 0, 1) := by decide +kernel
theorem dX1_addShaft_25 : decode cX1_addShaft 25 = .ok (.dup, 1) := by decide +kernel
theorem dX1_addShaft_26 : decode cX1_addShaft 26 = .ok (.getfield 18, 3) := by decide +kernel
theorem dX1_addShaft_29 : decode cX1_addShaft 29 = .ok (.iconst 1, 1) := by decide +kernel
theorem dX1_addShaft_30 : decode cX1_addShaft 30 = .ok (.iadd, 1) := by decide +kernel
theorem dX1_addShaft_31 : decode cX1_addShaft 31 = .ok (.putfield 18, 3) := by decide +kernel
theorem dX1_addShaft_34 : decode cX1_addShaft 34 = .ok (.return_, 1) := by decide +kernel
theorem dX1_addLegger_0 : decode cX1_addLegger 0 = .ok (.aload_n 0, 1) := by decide +kernel
theorem dX1_addLegger_1 : decode cX1_addLegger 1 = .ok (.getfield 46, 3) := by decide +kernel
theorem dX1_addLegger_4 : decode cX1_addLegger 4 = .ok (.aload_n 0, 1) := by decide +kernel
theorem dX1_addLegger_5 : decode cX1_addLegger 5 = .ok (.getfield 21, 3) := by decide +kernel
theorem dX1_addLegger_8 : decode cX1_addLegger 8 = .ok (.iload_n 1, 1) := by decide +kernel
theorem dX1_addLegger_9 : decode cX1_addLegger 9 = .ok (.invokestatic 77, 3) := by decide +kernel
theorem dX1_addLegger_12 : decode cX1_addLegger 12 = .ok (.aload_n 0, 1) := by decide +kernel
theorem dX1_addLegger_13 : decode cX1_addLegger 13 = .ok (.getfield 49, 3) := by decide +kernel
theorem dX1_addLegger_16 : decode cX1_addLegger 16 = .ok (.aload_n 0, 1) := by decide +kernel
theorem dX1_addLegger_17 : decode cX1_addLegger 17 = .ok (.getfield 21, 3) := by decide +kernel
theorem dX1_addLegger_20 : decode cX1_addLegger 20 = .ok (.iload_n 2, 1) := by decide +kernel
theorem dX1_addLegger_21 : decode cX1_addLegger 21 = .ok (.invokestatic 77, 3) := by decide +kernel
theorem dX1_addLegger_24 : decode cX1_addLegger 24 = .ok (.aload_n 0, 1) := by decide +kernel
theorem dX1_addLegger_25 : decode cX1_addLegger 25 = .ok (.dup, 1) := by decide +kernel
theorem dX1_addLegger_26 : decode cX1_addLegger 26 = .ok (.getfield 21, 3) := by decide +kernel
theorem dX1_addLegger_29 : decode cX1_addLegger 29 = .ok (.iconst 1, 1) := by decide +kernel
theorem dX1_addLegger_30 : decode cX1_addLegger 30 = .ok (.iadd, 1) := by decide +kernel
theorem dX1_addLegger_31 : decode cX1_addLegger 31 = .ok (.putfield 21, 3) := by decide +kernel
theorem dX1_addLegger_34 : decode cX1_addLegger 34 = .ok (.return_, 1) := by decide +kernel
theorem dX1_addBoat_0 : decode cX1_addBoat 0 = .ok (.aload_n 0, 1) := by decide +kernel
theorem dX1_addBoat_1 : decode cX1_addBoat 1 = .ok (.getfield 52, 3) := by decide +kernel
theorem dX1_addBoat_4 : decode cX1_addBoat 4 = .ok (.aload_n 0, 1) := by decide +kernel
theorem dX1_addBoat_5 : decode cX1_addBoat 5 = .ok (.getfield 24, 3) := by decide +kernel
theorem dX1_addBoat_8 : decode cX1_addBoat 8 = .ok (.iload_n 1, 1) := by decide +kernel
theorem dX1_addBoat_9 : decode cX1_addBoat 9 = .ok (.invokestatic 77, 3) := by decide +kernel
theorem dX1_addBoat_12 : decode cX1_addBoat 12 = .ok (.aload_n 0, 1) := by decide +kernel
theorem dX1_addBoat_13 : decode cX1_addBoat 13 = .ok (.getfield 55, 3) := by decide +kernel
theorem dX1_addBoat_16 : decode cX1_addBoat 16 = .ok (.aload_n 0, 1) := by decide +kernel
theorem dX1_addBoat_17 : decode cX1_addBoat 17 = .ok (.getfield 24, 3) := by decide +kernel
theorem dX1_addBoat_20 : decode cX1_addBoat 20 = .ok (.iload_n 2, 1) := by decide +kernel
theorem dX1_addBoat_21 : decode cX1_addBoat 21 = .ok (.invokestatic 77, 3) := by decide +kernel
theorem dX1_addBoat_24 : decode cX1_addBoat 24 = .ok (.aload_n 0, 1) := by decide +kernel
theorem dX1_addBoat_25 : decode cX1_addBoat 25 = .ok (.getfield 58, 3) := by decide +kernel
theorem dX1_addBoat_28 : decode cX1_addBoat 28 = .ok (.aload_n 0, 1) := by decide +kernel
theorem dX1_addBoat_29 : decode cX1_addBoat 29 = .ok (.getfield 24, 3) := by decide +kernel
theorem dX1_addBoat_32 : decode cX1_addBoat 32 = .ok (.iload_n 3, 1) := by decide +kernel
theorem dX1_addBoat_33 : decode cX1_addBoat 33 = .ok (.invokestatic 77, 3) := by decide +kernel
theorem dX1_addBoat_36 : decode cX1_addBoat 36 = .ok (.aload_n 0, 1) := by decide +kernel
theorem dX1_addBoat_37 : decode cX1_addBoat 37 = .ok (.getfield 61, 3) := by decide +kernel
theorem dX1_addBoat_40 : decode cX1_addBoat 40 = .ok (.aload_n 0, 1) := by decide +kernel
theorem dX1_addBoat_41 : decode cX1_addBoat 41 = .ok (.getfield 24, 3) := by decide +kernel
theorem dX1_addBoat_44 : decode cX1_addBoat 44 = .ok (.iload 4, 2) := by decide +kernel
theorem dX1_addBoat_46 : decode cX1_addBoat 46 = .ok (.invokestatic 77, 3) := by decide +kernel
theorem dX1_addBoat_49 : decode cX1_addBoat 49 = .ok (.aload_n 0, 1) := by decide +kernel
theorem dX1_addBoat_50 : decode cX1_addBoat 50 = .ok (.getfield 64, 3) := by decide +kernel
theorem dX1_addBoat_53 : decode cX1_addBoat 53 = .ok (.aload_n 0, 1) := by decide +kernel
theorem dX1_addBoat_54 : decode cX1_addBoat 54 = .ok (.getfield 24, 3) := by decide +kernel
theorem dX1_addBoat_57 : decode cX1_addBoat 57 = .ok (.iload 5, 2) := by decide +kernel
theorem dX1_addBoat_59 : decode cX1_addBoat 59 = .ok (.invokestatic 77, 3) := by decide +kernel
theorem dX1_addBoat_62 : decode cX1_addBoat 62 = .ok (.aload_n 0, 1) := by decide +kernel
theorem dX1_addBoat_63 : decode cX1_addBoat 63 = .ok (.dup, 1) := by decide +kernel
theorem dX1_addBoat_64 : decode cX1_addBoat 64 = .ok (.getfield 24, 3) := by decide +kernel
theorem dX1_addBoat_67 : decode cX1_addBoat 67 = .ok (.iconst 1, 1) := by decide +kernel
theorem dX1_addBoat_68 : decode cX1_addBoat 68 = .ok (.iadd, 1) := by decide +kernel
theorem dX1_addBoat_69 : decode cX1_addBoat 69 = .ok (.putfield 24, 3) := by decide +kernel
theorem dX1_addBoat_72 : decode cX1_addBoat 72 = .ok (.return_, 1) := by decide +kernel
theorem dX3_isLetter_0 : decode cX3_isLetter 0 = .ok (.iload_n 0, 1) := by decide +kernel
theorem dX3_isLetter_1 : decode cX3_isLetter 1 = .ok (.bipush 97, 2) := by decide +kernel
theorem dX3_isLetter_3 : decode cX3_isLetter 3 = .ok (.if_icmp .lt 13, 3) := by decide +kernel
theorem dX3_isLetter_6 : decode cX3_isLetter 6 = .ok (.iload_n 0, 1) := by decide +kernel
theorem dX3_isLetter_7 : decode cX3_isLetter 7 = .ok (.bipush 122, 2) := by decide +kernel
theorem dX3_isLetter_9 : decode cX3_isLetter 9 = .ok (.if_icmp .gt 7, 3) := by decide +kernel
theorem dX3_isLetter_12 : decode cX3_isLetter 12 = .ok (.iconst 1, 1) := by decide +kernel
theorem dX3_isLetter_13 : decode cX3_isLetter 13 = .ok (.goto 4, 3) := by decide +kernel
theorem dX3_isLetter_16 : decode cX3_isLetter 16 = .ok (.iconst 0, 1) := by decide +kernel
theorem dX3_isLetter_17 : decode cX3_isLetter 17 = .ok (.ireturn, 1) := by decide +kernel
theorem dX3_isDigit_0 : decode cX3_isDigit 0 = .ok (.iload_n 0, 1) := by decide +kernel
theorem dX3_isDigit_1 : decode cX3_isDigit 1 = .ok (.bipush 48, 2) := by decide +kernel
theorem dX3_isDigit_3 : decode cX3_isDigit 3 = .ok (.if_icmp .lt 13, 3) := by decide +kernel
theorem dX3_isDigit_6 : decode cX3_isDigit 6 = .ok (.iload_n 0, 1) := by decide +kernel
theorem dX3_isDigit_7 : decode cX3_isDigit 7 = .ok (.bipush 57, 2) := by decide +kernel
theorem dX3_isDigit_9 : decode cX3_isDigit 9 = .ok (.if_icmp .gt 7, 3) := by decide +kernel
theorem dX3_isDigit_12 : decode cX3_isDigit 12 = .ok (.iconst 1, 1) := by decide +kernel
theorem dX3_isDigit_13 : decode cX3_isDigit 13 = .ok (.goto 4, 3) := by decide +kernel
theorem dX3_isDigit_16 : decode cX3_isDigit 16 = .ok (.iconst 0, 1) := by decide +kernel
theorem dX3_isDigit_17 : decode cX3_isDigit 17 = .ok (.ireturn, 1) := by decide +kernel
theorem dX3_signOfWord_0 : decode cX3_signOfWord 0 = .ok (.iload_n 0, 1) := by decide +kernel
theorem dX3_signOfWord_1 : decode cX3_signOfWord 1 = .ok (.invokestatic 146, 3) := by decide +kernel
theorem dX3_signOfWord_4 : decode cX3_signOfWord 4 = .ok (.ifCond .eq 10, 3) := by decide +kernel
theorem dX3_signOfWord_7 : decode cX3_signOfWord 7 = .ok (.iconst 1, 1) := by decide +kernel
theorem dX3_signOfWord_8 : decode cX3_signOfWord 8 = .ok (.iload_n 0, 1) := by decide +kernel
theorem dX3_signOfWord_9 : decode cX3_signOfWord 9 = .ok (.iadd, 1) := by decide +kernel
theorem dX3_signOfWord_10 : decode cX3_signOfWord 10 = .ok (.bipush 97, 2) := by decide +kernel
theorem dX3_signOfWord_12 : decode cX3_signOfWord 12 = .ok (.isub, 1) := by decide +kernel
theorem dX3_signOfWord_13 : decode cX3_signOfWord 13 = .ok (.ireturn, 1) := by decide +kernel
theorem dX3_signOfWord_14 : decode cX3_signOfWord 14 = .ok (.iload_n 0, 1) := by decide +kernel
theorem dX3_signOfWord_15 : decode cX3_signOfWord 15 = .ok (.invokestatic 153, 3) := by decide +kernel
theorem dX3_signOfWord_18 : decode cX3_signOfWord 18 = .ok (.ifCond .eq 13, 3) := by decide +kernel
theorem dX3_signOfWord_21 : decode cX3_signOfWord 21 = .ok (.bipush 27, 2) := by decide +kernel
theorem dX3_signOfWord_23 : decode cX3_signOfWord 23 = .ok (.iload_n 0, 1) := by decide +kernel
theorem dX3_signOfWord_24 : decode cX3_signOfWord 24 = .ok (.iadd, 1) := by decide +kernel
theorem dX3_signOfWord_25 : decode cX3_signOfWord 25 = .ok (.bipush 48, 2) := by decide +kernel
theorem dX3_signOfWord_27 : decode cX3_signOfWord 27 = .ok (.isub, 1) := by decide +kernel
theorem dX3_signOfWord_28 : decode cX3_signOfWord 28 = .ok (.goto 4, 3) := by decide +kernel
theorem dX3_signOfWord_31 : decode cX3_signOfWord 31 = .ok (.iconst 0, 1) := by decide +kernel
theorem dX3_signOfWord_32 : decode cX3_signOfWord 32 = .ok (.ireturn, 1) := by decide +kernel
theorem dX3_byteAt_0 : decode cX3_byteAt 0 = .ok (.iload_n 1, 1) := by decide +kernel
theorem dX3_byteAt_1 : decode cX3_byteAt 1 = .ok (.ifCond .lt 20, 3) := by decide +kernel
theorem dX3_byteAt_4 : decode cX3_byteAt 4 = .ok (.iload_n 1, 1) := by decide +kernel
theorem dX3_byteAt_5 : decode cX3_byteAt 5 = .ok (.aload_n 0, 1) := by decide +kernel
theorem dX3_byteAt_6 : decode cX3_byteAt 6 = .ok (.getfield 36, 3) := by decide +kernel
theorem dX3_byteAt_9 : decode cX3_byteAt 9 = .ok (.if_icmp .ge 12, 3) := by decide +kernel
theorem dX3_byteAt_12 : decode cX3_byteAt 12 = .ok (.iload_n 1, 1) := by decide +kernel
theorem dX3_byteAt_13 : decode cX3_byteAt 13 = .ok (.aload_n 0, 1) := by decide +kernel
theorem dX3_byteAt_14 : decode cX3_byteAt 14 = .ok (.getfield 32, 3) := by decide +kernel
theorem dX3_byteAt_17 : decode cX3_byteAt 17 = .ok (.arraylength, 1) := by decide +kernel
theorem dX3_byteAt_18 : decode cX3_byteAt 18 = .ok (.if_icmp .lt 5, 3) := by decide +kernel
theorem dX3_byteAt_21 : decode cX3_byteAt 21 = .ok (.iconst (-1), 1) := by decide +kernel
theorem dX3_byteAt_22 : decode cX3_byteAt 22 = .ok (.ireturn, 1) := by decide +kernel
theorem dX3_byteAt_23 : decode cX3_byteAt 23 = .ok (.aload_n 0, 1) := by decide +kernel
theorem dX3_byteAt_24 : decode cX3_byteAt 24 = .ok (.getfield 32, 3) := by decide +kernel
theorem dX3_byteAt_27 : decode cX3_byteAt 27 = .ok (.iload_n 1, 1) := by decide +kernel
theorem dX3_byteAt_28 : decode cX3_byteAt 28 = .ok (.baload, 1) := by decide +kernel
theorem dX3_byteAt_29 : decode cX3_byteAt 29 = .ok (.sipush 255, 3) := by decide +kernel
theorem dX3_byteAt_32 : decode cX3_byteAt 32 = .ok (.iand, 1) := by decide +kernel
theorem dX3_byteAt_33 : decode cX3_byteAt 33 = .ok (.ireturn, 1) := by decide +kernel
theorem dX3_kindOfSymbol_0 : decode cX3_kindOfSymbol 0 = .ok (.iload_n 0, 1) := by decide +kernel
theorem dX3_kindOfSymbol_1 : decode cX3_kindOfSymbol 1 = .ok (.tableswitch 270 40 93 #[231, 234, 255, 249, 246, 252, 270, 258, 270, 270, 270, 270, 270, 270, 270, 270, 270, 270, 270, 243, 261, 267, 264, 270, 270, 270, 270, 270, 270, 270, 270, 270, 270, 270, 270, 270, 270, 270, 270, 270, 270, 270, 270, 270, 270, 270, 270, 270, 270, 270, 270, 237, 270, 240], 231) := by decide +kernel
theorem dX3_kindOfSymbol_232 : decode cX3_kindOfSymbol 232 = .ok (.bipush 28, 2) := by decide +kernel
theorem dX3_kindOfSymbol_234 : decode cX3_kindOfSymbol 234 = .ok (.ireturn, 1) := by decide +kernel
theorem dX3_kindOfSymbol_235 : decode cX3_kindOfSymbol 235 = .ok (.bipush 29, 2) := by decide +kernel
theorem dX3_kindOfSymbol_237 : decode cX3_kindOfSymbol 237 = .ok (.ireturn, 1) := by decide +kernel
theorem dX3_kindOfSymbol_238 : decode cX3_kindOfSymbol 238 = .ok (.bipush 30, 2) := by decide +kernel
theorem dX3_kindOfSymbol_240 : decode cX3_kindOfSymbol 240 = .ok (.ireturn, 1) := by decide +kernel
theorem dX3_kindOfSymbol_241 : decode cX3_kindOfSymbol 241 = .ok (.bipush 31, 2) := by decide +kernel
theorem dX3_kindOfSymbol_243 : decode cX3_kindOfSymbol 243 = .ok (.ireturn, 1) := by decide +kernel
theorem dX3_kindOfSymbol_244 : decode cX3_kindOfSymbol 244 = .ok (.bipush 32, 2) := by decide +kernel
theorem dX3_kindOfSymbol_246 : decode cX3_kindOfSymbol 246 = .ok (.ireturn, 1) := by decide +kernel
theorem dX3_kindOfSymbol_247 : decode cX3_kindOfSymbol 247 = .ok (.bipush 33, 2) := by decide +kernel
theorem dX3_kindOfSymbol_249 : decode cX3_kindOfSymbol 249 = .ok (.ireturn, 1) := by decide +kernel
theorem dX3_kindOfSymbol_250 : decode cX3_kindOfSymbol 250 = .ok (.bipush 15, 2) := by decide +kernel
theorem dX3_kindOfSymbol_252 : decode cX3_kindOfSymbol 252 = .ok (.ireturn, 1) := by decide +kernel
theorem dX3_kindOfSymbol_253 : decode cX3_kindOfSymbol 253 = .ok (.bipush 16, 2) := by decide +kernel
theorem dX3_kindOfSymbol_255 : decode cX3_kindOfSymbol 255 = .ok (.ireturn, 1) := by decide +kernel
theorem dX3_kindOfSymbol_256 : decode cX3_kindOfSymbol 256 = .ok (.bipush 17, 2) := by decide +kernel
theorem dX3_kindOfSymbol_258 : decode cX3_kindOfSymbol 258 = .ok (.ireturn, 1) := by decide +kernel
theorem dX3_kindOfSymbol_259 : decode cX3_kindOfSymbol 259 = .ok (.bipush 18, 2) := by decide +kernel
theorem dX3_kindOfSymbol_261 : decode cX3_kindOfSymbol 261 = .ok (.ireturn, 1) := by decide +kernel
theorem dX3_kindOfSymbol_262 : decode cX3_kindOfSymbol 262 = .ok (.bipush 19, 2) := by decide +kernel
theorem dX3_kindOfSymbol_264 : decode cX3_kindOfSymbol 264 = .ok (.ireturn, 1) := by decide +kernel
theorem dX3_kindOfSymbol_265 : decode cX3_kindOfSymbol 265 = .ok (.bipush 20, 2) := by decide +kernel
theorem dX3_kindOfSymbol_267 : decode cX3_kindOfSymbol 267 = .ok (.ireturn, 1) := by decide +kernel
theorem dX3_kindOfSymbol_268 : decode cX3_kindOfSymbol 268 = .ok (.bipush 21, 2) := by decide +kernel
theorem dX3_kindOfSymbol_270 : decode cX3_kindOfSymbol 270 = .ok (.ireturn, 1) := by decide +kernel
theorem dX3_kindOfSymbol_271 : decode cX3_kindOfSymbol 271 = .ok (.iconst 1, 1) := by decide +kernel
theorem dX3_kindOfSymbol_272 : decode cX3_kindOfSymbol 272 = .ok (.ireturn, 1) := by decide +kernel
theorem dX3_behindBlanks_0 : decode cX3_behindBlanks 0 = .ok (.iload_n 1, 1) := by decide +kernel
theorem dX3_behindBlanks_1 : decode cX3_behindBlanks 1 = .ok (.istore_n 2, 1) := by decide +kernel
theorem dX3_behindBlanks_2 : decode cX3_behindBlanks 2 = .ok (.iload_n 2, 1) := by decide +kernel
theorem dX3_behindBlanks_3 : decode cX3_behindBlanks 3 = .ok (.aload_n 0, 1) := by decide +kernel
theorem dX3_behindBlanks_4 : decode cX3_behindBlanks 4 = .ok (.getfield 36, 3) := by decide +kernel
theorem dX3_behindBlanks_7 : decode cX3_behindBlanks 7 = .ok (.if_icmp .ge 29, 3) := by decide +kernel
theorem dX3_behindBlanks_10 : decode cX3_behindBlanks 10 = .ok (.aload_n 0, 1) := by decide +kernel
theorem dX3_behindBlanks_11 : decode cX3_behindBlanks 11 = .ok (.iload_n 2, 1) := by decide +kernel
theorem dX3_behindBlanks_12 : decode cX3_behindBlanks 12 = .ok (.invokevirtual 139, 3) := by decide +kernel
theorem dX3_behindBlanks_15 : decode cX3_behindBlanks 15 = .ok (.istore_n 3, 1) := by decide +kernel
theorem dX3_behindBlanks_16 : decode cX3_behindBlanks 16 = .ok (.iload_n 3, 1) := by decide +kernel
theorem dX3_behindBlanks_17 : decode cX3_behindBlanks 17 = .ok (.bipush 32, 2) := by decide +kernel
theorem dX3_behindBlanks_19 : decode cX3_behindBlanks 19 = .ok (.if_icmp .eq 11, 3) := by decide +kernel
theorem dX3_behindBlanks_22 : decode cX3_behindBlanks 22 = .ok (.iload_n 3, 1) := by decide +kernel
theorem dX3_behindBlanks_23 : decode cX3_behindBlanks 23 = .ok (.bipush 10, 2) := by decide +kernel
theorem dX3_behindBlanks_25 : decode cX3_behindBlanks 25 = .ok (.if_icmp .eq 5, 3) := by decide +kernel
theorem dX3_behindBlanks_28 : decode cX3_behindBlanks 28 = .ok (.iload_n 2, 1) := by decide +kernel
theorem dX3_behindBlanks_29 : decode cX3_behindBlanks 29 = .ok (.ireturn, 1) := by decide +kernel
theorem dX3_behindBlanks_30 : decode cX3_behindBlanks 30 = .ok (.iinc 2 1, 3) := by decide +kernel
theorem dX3_behindBlanks_33 : decode cX3_behindBlanks 33 = .ok (.goto (-31), 3) := by decide +kernel
theorem dX3_behindBlanks_36 : decode cX3_behindBlanks 36 = .ok (.aload_n 0, 1) := by decide +kernel
theorem dX3_behindBlanks_37 : decode cX3_behindBlanks 37 = .ok (.getfield 36, 3) := by decide +kernel
theorem dX3_behindBlanks_40 : decode cX3_behindBlanks 40 = .ok (.ireturn, 1) := by decide +kernel
theorem dX3_kindOfWord_0 : decode cX3_kindOfWord 0 = .ok (.iconst 0, 1) := by decide +kernel
theorem dX3_kindOfWord_1 : decode cX3_kindOfWord 1 = .ok (.istore_n 3, 1) := by decide +kernel
theorem dX3_kindOfWord_2 : decode cX3_kindOfWord 2 = .ok (.iload_n 3, 1) := by decide +kernel
theorem dX3_kindOfWord_3 : decode cX3_kindOfWord 3 = .ok (.aload_n 0, 1) := by decide +kernel
theorem dX3_kindOfWord_4 : decode cX3_kindOfWord 4 = .ok (.getfield 19, 3) := by decide +kernel
theorem dX3_kindOfWord_7 : decode cX3_kindOfWord 7 = .ok (.if_icmp .ge 31, 3) := by decide +kernel
theorem dX3_kindOfWord_10 : decode cX3_kindOfWord 10 = .ok (.aload_n 0, 1) := by decide +kernel
theorem dX3_kindOfWord_11 : decode cX3_kindOfWord 11 = .ok (.getfield 11, 3) := by decide +kernel
theorem dX3_kindOfWord_14 : decode cX3_kindOfWord 14 = .ok (.iload_n 3, 1) := by decide +kernel
theorem dX3_kindOfWord_15 : decode cX3_kindOfWord 15 = .ok (.invokestatic 166, 3) := by decide +kernel
theorem dX3_kindOfWord_18 : decode cX3_kindOfWord 18 = .ok (.lload_n 1, 1) := by decide +kernel
theorem dX3_kindOfWord_19 : decode cX3_kindOfWord 19 = .ok (.lcmp, 1) := by decide +kernel
theorem dX3_kindOfWord_20 : decode cX3_kindOfWord 20 = .ok (.ifCond .ne 12, 3) := by decide +kernel
theorem dX3_kindOfWord_23 : decode cX3_kindOfWord 23 = .ok (.aload_n 0, 1) := by decide +kernel
theorem dX3_kindOfWord_24 : decode cX3_kindOfWord 24 = .ok (.getfield 15, 3) := by decide +kernel
theorem dX3_kindOfWord_27 : decode cX3_kindOfWord 27 = .ok (.iload_n 3, 1) := by decide +kernel
theorem dX3_kindOfWord_28 : decode cX3_kindOfWord 28 = .ok (.invokestatic 136, 3) := by decide +kernel
theorem dX3_kindOfWord_31 : decode cX3_kindOfWord 31 = .ok (.ireturn, 1) := by decide +kernel
theorem dX3_kindOfWord_32 : decode cX3_kindOfWord 32 = .ok (.iinc 3 1, 3) := by decide +kernel
theorem dX3_kindOfWord_35 : decode cX3_kindOfWord 35 = .ok (.goto (-33), 3) := by decide +kernel
theorem dX3_kindOfWord_38 : decode cX3_kindOfWord 38 = .ok (.iconst 2, 1) := by decide +kernel
theorem dX3_kindOfWord_39 : decode cX3_kindOfWord 39 = .ok (.ireturn, 1) := by decide +kernel
theorem dX3_found_0 : decode cX3_found 0 = .ok (.aload_n 0, 1) := by decide +kernel
theorem dX3_found_1 : decode cX3_found 1 = .ok (.getfield 23, 3) := by decide +kernel
theorem dX3_found_4 : decode cX3_found 4 = .ok (.iload_n 1, 1) := by decide +kernel
theorem dX3_found_5 : decode cX3_found 5 = .ok (.iload_n 2, 1) := by decide +kernel
theorem dX3_found_6 : decode cX3_found 6 = .ok (.invokestatic 126, 3) := by decide +kernel
theorem dX3_found_9 : decode cX3_found 9 = .ok (.aload_n 0, 1) := by decide +kernel
theorem dX3_found_10 : decode cX3_found 10 = .ok (.getfield 29, 3) := by decide +kernel
theorem dX3_found_13 : decode cX3_found 13 = .ok (.iload_n 1, 1) := by decide +kernel
theorem dX3_found_14 : decode cX3_found 14 = .ok (.lload_n 3, 1) := by decide +kernel
theorem dX3_found_15 : decode cX3_found 15 = .ok (.invokestatic 122, 3) := by decide +kernel
theorem dX3_found_18 : decode cX3_found 18 = .ok (.iload 5, 2) := by decide +kernel
theorem dX3_found_20 : decode cX3_found 20 = .ok (.ireturn, 1) := by decide +kernel
theorem dX3_readWord_0 : decode cX3_readWord 0 = .ok (.lconst 0, 1) := by decide +kernel
theorem dX3_readWord_1 : decode cX3_readWord 1 = .ok (.lstore_n 3, 1) := by decide +kernel
theorem dX3_readWord_2 : decode cX3_readWord 2 = .ok (.iload_n 2, 1) := by decide +kernel
theorem dX3_readWord_3 : decode cX3_readWord 3 = .ok (.istore 5, 2) := by decide +kernel
theorem dX3_readWord_5 : decode cX3_readWord 5 = .ok (.iload 5, 2) := by decide +kernel
theorem dX3_readWord_7 : decode cX3_readWord 7 = .ok (.aload_n 0, 1) := by decide +kernel
theorem dX3_readWord_8 : decode cX3_readWord 8 = .ok (.getfield 36, 3) := by decide +kernel
theorem dX3_readWord_11 : decode cX3_readWord 11 = .ok (.if_icmp .ge 38, 3) := by decide +kernel
theorem dX3_readWord_14 : decode cX3_readWord 14 = .ok (.aload_n 0, 1) := by decide +kernel
theorem dX3_readWord_15 : decode cX3_readWord 15 = .ok (.iload 5, 2) := by decide +kernel
theorem dX3_readWord_17 : decode cX3_readWord 17 = .ok (.invokevirtual 139, 3) := by decide +kernel
theorem dX3_readWord_20 : decode cX3_readWord 20 = .ok (.invokestatic 118, 3) := by decide +kernel
theorem dX3_readWord_23 : decode cX3_readWord 23 = .ok (.ifCond .le 26, 3) := by decide +kernel
theorem dX3_readWord_26 : decode cX3_readWord 26 = .ok (.lload_n 3, 1) := by decide +kernel
theorem dX3_readWord_27 : decode cX3_readWord 27 = .ok (.ldc2_w 112, 3) := by decide +kernel
theorem dX3_readWord_30 : decode cX3_readWord 30 = .ok (.lmul, 1) := by decide +kernel
theorem dX3_readWord_31 : decode cX3_readWord 31 = .ok (.aload_n 0, 1) := by decide +kernel
theorem dX3_readWord_32 : decode cX3_readWord 32 = .ok (.iload 5, 2) := by decide +kernel
theorem dX3_readWord_34 : decode cX3_readWord 34 = .ok (.invokevirtual 139, 3) := by decide +kernel
theorem dX3_readWord_37 : decode cX3_readWord 37 = .ok (.invokestatic 118, 3) := by decide +kernel
theorem dX3_readWord_40 : decode cX3_readWord 40 = .ok (.i2l, 1) := by decide +kernel
theorem dX3_readWord_41 : decode cX3_readWord 41 = .ok (.ladd, 1) := by decide +kernel
theorem dX3_readWord_42 : decode cX3_readWord 42 = .ok (.lstore_n 3, 1) := by decide +kernel
theorem dX3_readWord_43 : decode cX3_readWord 43 = .ok (.iinc 5 1, 3) := by decide +kernel
theorem dX3_readWord_46 : decode cX3_readWord 46 = .ok (.goto (-41), 3) := by decide +kernel
theorem dX3_readWord_49 : decode cX3_readWord 49 = .ok (.iload 5, 2) := by decide +kernel
theorem dX3_readWord_51 : decode cX3_readWord 51 = .ok (.iload_n 2, 1) := by decide +kernel
theorem dX3_readWord_52 : decode cX3_readWord 52 = .ok (.isub, 1) := by decide +kernel
theorem dX3_readWord_53 : decode cX3_readWord 53 = .ok (.bipush 10, 2) := by decide +kernel
theorem dX3_readWord_55 : decode cX3_readWord 55 = .ok (.if_icmp .le 12, 3) := by decide +kernel
theorem dX3_readWord_58 : decode cX3_readWord 58 = .ok (.aload_n 0, 1) := by decide +kernel
theorem dX3_readWord_59 : decode cX3_readWord 59 = .ok (.iload_n 1, 1) := by decide +kernel
theorem dX3_readWord_60 : decode cX3_readWord 60 = .ok (.iconst 1, 1) := by decide +kernel
theorem dX3_readWord_61 : decode cX3_readWord 61 = .ok (.lconst 0, 1) := by decide +kernel
theorem dX3_readWord_62 : decode cX3_readWord 62 = .ok (.iload_n 2, 1) := by decide +kernel
theorem dX3_readWord_63 : decode cX3_readWord 63 = .ok (.invokevirtual 142, 3) := by decide +kernel
theorem dX3_readWord_66 : decode cX3_readWord 66 = .ok (.ireturn, 1) := by decide +kernel
theorem dX3_readWord_67 : decode cX3_readWord 67 = .ok (.aload_n 0, 1) := by decide +kernel
theorem dX3_readWord_68 : decode cX3_readWord 68 = .ok (.lload_n 3, 1) := by decide +kernel
theorem dX3_readWord_69 : decode cX3_readWord 69 = .ok (.invokevirtual 162, 3) := by decide +kernel
theorem dX3_readWord_72 : decode cX3_readWord 72 = .ok (.istore 6, 2) := by decide +kernel
theorem dX3_readWord_74 : decode cX3_readWord 74 = .ok (.iload 6, 2) := by decide +kernel
theorem dX3_readWord_76 : decode cX3_readWord 76 = .ok (.iconst 3, 1) := by decide +kernel
theorem dX3_readWord_77 : decode cX3_readWord 77 = .ok (.if_icmp .ne 19, 3) := by decide +kernel
theorem dX3_readWord_80 : decode cX3_readWord 80 = .ok (.aload_n 0, 1) := by decide +kernel
theorem dX3_readWord_81 : decode cX3_readWord 81 = .ok (.iload_n 2, 1) := by decide +kernel
theorem dX3_readWord_82 : decode cX3_readWord 82 = .ok (.invokevirtual 139, 3) := by decide +kernel
theorem dX3_readWord_85 : decode cX3_readWord 85 = .ok (.bipush 119, 2) := by decide +kernel
theorem dX3_readWord_87 : decode cX3_readWord 87 = .ok (.if_icmp .ne 7, 3) := by decide +kernel
theorem dX3_readWord_90 : decode cX3_readWord 90 = .ok (.lconst 0, 1) := by decide +kernel
theorem dX3_readWord_91 : decode cX3_readWord 91 = .ok (.goto 4, 3) := by decide +kernel
theorem dX3_readWord_94 : decode cX3_readWord 94 = .ok (.lconst 1, 1) := by decide +kernel
theorem dX3_readWord_95 : decode cX3_readWord 95 = .ok (.lstore_n 3, 1) := by decide +kernel
theorem dX3_readWord_96 : decode cX3_readWord 96 = .ok (.aload_n 0, 1) := by decide +kernel
theorem dX3_readWord_97 : decode cX3_readWord 97 = .ok (.iload_n 1, 1) := by decide +kernel
theorem dX3_readWord_98 : decode cX3_readWord 98 = .ok (.iload 6, 2) := by decide +kernel
theorem dX3_readWord_100 : decode cX3_readWord 100 = .ok (.lload_n 3, 1) := by decide +kernel
theorem dX3_readWord_101 : decode cX3_readWord 101 = .ok (.iload 5, 2) := by decide +kernel
theorem dX3_readWord_103 : decode cX3_readWord 103 = .ok (.invokevirtual 142, 3) := by decide +kernel
theorem dX3_readWord_106 : decode cX3_readWord 106 = .ok (.ireturn, 1) := by decide +kernel
theorem dX3_readNumber_0 : decode cX3_readNumber 0 = .ok (.lconst 0, 1) := by decide +kernel
theorem dX3_readNumber_1 : decode cX3_readNumber 1 = .ok (.lstore_n 3, 1) := by decide +kernel
theorem dX3_readNumber_2 : decode cX3_readNumber 2 = .ok (.iload_n 2, 1) := by decide +kernel
theorem dX3_readNumber_3 : decode cX3_readNumber 3 = .ok (.istore 5, 2) := by decide +kernel
theorem dX3_readNumber_5 : decode cX3_readNumber 5 = .ok (.iload 5, 2) := by decide +kernel
theorem dX3_readNumber_7 : decode cX3_readNumber 7 = .ok (.aload_n 0, 1) := by decide +kernel
theorem dX3_readNumber_8 : decode cX3_readNumber 8 = .ok (.getfield 36, 3) := by decide +kernel
theorem dX3_readNumber_11 : decode cX3_readNumber 11 = .ok (.if_icmp .ge 38, 3) := by decide +kernel
theorem dX3_readNumber_14 : decode cX3_readNumber 14 = .ok (.aload_n 0, 1) := by decide +kernel
theorem dX3_readNumber_15 : decode cX3_readNumber 15 = .ok (.iload 5, 2) := by decide +kernel
theorem dX3_readNumber_17 : decode cX3_readNumber 17 = .ok (.invokevirtual 139, 3) := by decide +kernel
theorem dX3_readNumber_20 : decode cX3_readNumber 20 = .ok (.invokestatic 153, 3) := by decide +kernel
theorem dX3_readNumber_23 : decode cX3_readNumber 23 = .ok (.ifCond .eq 26, 3) := by decide +kernel
theorem dX3_readNumber_26 : decode cX3_readNumber 26 = .ok (.lload_n 3, 1) := by decide +kernel
theorem dX3_readNumber_27 : decode cX3_readNumber 27 = .ok (.ldc2_w 169, 3) := by decide +kernel
theorem dX3_readNumber_30 : decode cX3_readNumber 30 = .ok (.lmul, 1) := by decide +kernel
theorem dX3_readNumber_31 : decode cX3_readNumber 31 = .ok (.aload_n 0, 1) := by decide +kernel
theorem dX3_readNumber_32 : decode cX3_readNumber 32 = .ok (.iload 5, 2) := by decide +kernel
theorem dX3_readNumber_34 : decode cX3_readNumber 34 = .ok (.invokevirtual 139, 3) := by decide +kernel
theorem dX3_readNumber_37 : decode cX3_readNumber 37 = .ok (.bipush 48, 2) := by decide +kernel
theorem dX3_readNumber_39 : decode cX3_readNumber 39 = .ok (.isub, 1) := by decide +kernel
theorem dX3_readNumber_40 : decode cX3_readNumber 40 = .ok (.i2l, 1) := by decide +kernel
theorem dX3_readNumber_41 : decode cX3_readNumber 41 = .ok (.ladd, 1) := by decide +kernel
theorem dX3_readNumber_42 : decode cX3_readNumber 42 = .ok (.lstore_n 3, 1) := by decide +kernel
theorem dX3_readNumber_43 : decode cX3_readNumber 43 = .ok (.iinc 5 1, 3) := by decide +kernel
theorem dX3_readNumber_46 : decode cX3_readNumber 46 = .ok (.goto (-41), 3) := by decide +kernel
theorem dX3_readNumber_49 : decode cX3_readNumber 49 = .ok (.iload 5, 2) := by decide +kernel
theorem dX3_readNumber_51 : decode cX3_readNumber 51 = .ok (.iload_n 2, 1) := by decide +kernel
theorem dX3_readNumber_52 : decode cX3_readNumber 52 = .ok (.isub, 1) := by decide +kernel
theorem dX3_readNumber_53 : decode cX3_readNumber 53 = .ok (.bipush 6, 2) := by decide +kernel
theorem dX3_readNumber_55 : decode cX3_readNumber 55 = .ok (.if_icmp .le 14, 3) := by decide +kernel
theorem dX3_readNumber_58 : decode cX3_readNumber 58 = .ok (.aload_n 0, 1) := by decide +kernel
theorem dX3_readNumber_59 : decode cX3_readNumber 59 = .ok (.iload_n 1, 1) := by decide +kernel
theorem dX3_readNumber_60 : decode cX3_readNumber 60 = .ok (.iconst 1, 1) := by decide +kernel
theorem dX3_readNumber_61 : decode cX3_readNumber 61 = .ok (.lconst 0, 1) := by decide +kernel
theorem dX3_readNumber_62 : decode cX3_readNumber 62 = .ok (.iload_n 2, 1) := by decide +kernel
theorem dX3_readNumber_63 : decode cX3_readNumber 63 = .ok (.invokevirtual 142, 3) := by decide +kernel
theorem dX3_readNumber_66 : decode cX3_readNumber 66 = .ok (.goto 12, 3) := by decide +kernel
theorem dX3_readNumber_69 : decode cX3_readNumber 69 = .ok (.aload_n 0, 1) := by decide +kernel
theorem dX3_readNumber_70 : decode cX3_readNumber 70 = .ok (.iload_n 1, 1) := by decide +kernel
theorem dX3_readNumber_71 : decode cX3_readNumber 71 = .ok (.iconst 4, 1) := by decide +kernel
theorem dX3_readNumber_72 : decode cX3_readNumber 72 = .ok (.lload_n 3, 1) := by decide +kernel
theorem dX3_readNumber_73 : decode cX3_readNumber 73 = .ok (.iload 5, 2) := by decide +kernel
theorem dX3_readNumber_75 : decode cX3_readNumber 75 = .ok (.invokevirtual 142, 3) := by decide +kernel
theorem dX3_readNumber_78 : decode cX3_readNumber 78 = .ok (.ireturn, 1) := by decide +kernel
theorem dX3_readSymbol_0 : decode cX3_readSymbol 0 = .ok (.aload_n 0, 1) := by decide +kernel
theorem dX3_readSymbol_1 : decode cX3_readSymbol 1 = .ok (.iload_n 2, 1) := by decide +kernel
theorem dX3_readSymbol_2 : decode cX3_readSymbol 2 = .ok (.invokevirtual 139, 3) := by decide +kernel
theorem dX3_readSymbol_5 : decode cX3_readSymbol 5 = .ok (.istore_n 3, 1) := by decide +kernel
theorem dX3_readSymbol_6 : decode cX3_readSymbol 6 = .ok (.aload_n 0, 1) := by decide +kernel
theorem dX3_readSymbol_7 : decode cX3_readSymbol 7 = .ok (.iload_n 2, 1) := by decide +kernel
theorem dX3_readSymbol_8 : decode cX3_readSymbol 8 = .ok (.iconst 1, 1) := by decide +kernel
theorem dX3_readSymbol_9 : decode cX3_readSymbol 9 = .ok (.iadd, 1) := by decide +kernel
theorem dX3_readSymbol_10 : decode cX3_readSymbol 10 = .ok (.invokevirtual 139, 3) := by decide +kernel
theorem dX3_readSymbol_13 : decode cX3_readSymbol 13 = .ok (.bipush 61, 2) := by decide +kernel
theorem dX3_readSymbol_15 : decode cX3_readSymbol 15 = .ok (.if_icmp .ne 38, 3) := by decide +kernel
theorem dX3_readSymbol_18 : decode cX3_readSymbol 18 = .ok (.iload_n 3, 1) := by decide +kernel
theorem dX3_readSymbol_19 : decode cX3_readSymbol 19 = .ok (.bipush 60, 2) := by decide +kernel
theorem dX3_readSymbol_21 : decode cX3_readSymbol 21 = .ok (.if_icmp .eq 9, 3) := by decide +kernel
theorem dX3_readSymbol_24 : decode cX3_readSymbol 24 = .ok (.iload_n 3, 1) := by decide +kernel
theorem dX3_readSymbol_25 : decode cX3_readSymbol 25 = .ok (.bipush 62, 2) := by decide +kernel
theorem dX3_readSymbol_27 : decode cX3_readSymbol 27 = .ok (.if_icmp .ne 26, 3) := by decide +kernel
theorem dX3_readSymbol_30 : decode cX3_readSymbol 30 = .ok (.aload_n 0, 1) := by decide +kernel
theorem dX3_readSymbol_31 : decode cX3_readSymbol 31 = .ok (.iload_n 1, 1) := by decide +kernel
theorem dX3_readSymbol_32 : decode cX3_readSymbol 32 = .ok (.iload_n 3, 1) := by decide +kernel
theorem dX3_readSymbol_33 : decode cX3_readSymbol 33 = .ok (.bipush 60, 2) := by decide +kernel
theorem dX3_readSymbol_35 : decode cX3_readSymbol 35 = .ok (.if_icmp .ne 8, 3) := by decide +kernel
theorem dX3_readSymbol_38 : decode cX3_readSymbol 38 = .ok (.bipush 22, 2) := by decide +kernel
theorem dX3_readSymbol_40 : decode cX3_readSymbol 40 = .ok (.goto 5, 3) := by decide +kernel
theorem dX3_readSymbol_43 : decode cX3_readSymbol 43 = .ok (.bipush 23, 2) := by decide +kernel
theorem dX3_readSymbol_45 : decode cX3_readSymbol 45 = .ok (.lconst 0, 1) := by decide +kernel
theorem dX3_readSymbol_46 : decode cX3_readSymbol 46 = .ok (.iload_n 2, 1) := by decide +kernel
theorem dX3_readSymbol_47 : decode cX3_readSymbol 47 = .ok (.iconst 2, 1) := by decide +kernel
theorem dX3_readSymbol_48 : decode cX3_readSymbol 48 = .ok (.iadd, 1) := by decide +kernel
theorem dX3_readSymbol_49 : decode cX3_readSymbol 49 = .ok (.invokevirtual 142, 3) := by decide +kernel
theorem dX3_readSymbol_52 : decode cX3_readSymbol 52 = .ok (.ireturn, 1) := by decide +kernel
theorem dX3_readSymbol_53 : decode cX3_readSymbol 53 = .ok (.aload_n 0, 1) := by decide +kernel
theorem dX3_readSymbol_54 : decode cX3_readSymbol 54 = .ok (.iload_n 1, 1) := by decide +kernel
theorem dX3_readSymbol_55 : decode cX3_readSymbol 55 = .ok (.iload_n 3, 1) := by decide +kernel
theorem dX3_readSymbol_56 : decode cX3_readSymbol 56 = .ok (.invokestatic 171, 3) := by decide +kernel
theorem dX3_readSymbol_59 : decode cX3_readSymbol 59 = .ok (.lconst 0, 1) := by decide +kernel
theorem dX3_readSymbol_60 : decode cX3_readSymbol 60 = .ok (.iload_n 2, 1) := by decide +kernel
theorem dX3_readSymbol_61 : decode cX3_readSymbol 61 = .ok (.iconst 1, 1) := by decide +kernel
theorem dX3_readSymbol_62 : decode cX3_readSymbol 62 = .ok (.iadd, 1) := by decide +kernel
theorem dX3_readSymbol_63 : decode cX3_readSymbol 63 = .ok (.invokevirtual 142, 3) := by decide +kernel
theorem dX3_readSymbol_66 : decode cX3_readSymbol 66 = .ok (.ireturn, 1) := by decide +kernel
theorem dX3_readOne_0 : decode cX3_readOne 0 = .ok (.aload_n 0, 1) := by decide +kernel
theorem dX3_readOne_1 : decode cX3_readOne 1 = .ok (.iload_n 2, 1) := by decide +kernel
theorem dX3_readOne_2 : decode cX3_readOne 2 = .ok (.invokevirtual 139, 3) := by decide +kernel
theorem dX3_readOne_5 : decode cX3_readOne 5 = .ok (.istore_n 3, 1) := by decide +kernel
theorem dX3_readOne_6 : decode cX3_readOne 6 = .ok (.iload_n 3, 1) := by decide +kernel
theorem dX3_readOne_7 : decode cX3_readOne 7 = .ok (.iconst (-1), 1) := by decide +kernel
theorem dX3_readOne_8 : decode cX3_readOne 8 = .ok (.if_icmp .ne 12, 3) := by decide +kernel
theorem dX3_readOne_11 : decode cX3_readOne 11 = .ok (.aload_n 0, 1) := by decide +kernel
theorem dX3_readOne_12 : decode cX3_readOne 12 = .ok (.iload_n 1, 1) := by decide +kernel
theorem dX3_readOne_13 : decode cX3_readOne 13 = .ok (.iconst 0, 1) := by decide +kernel
theorem dX3_readOne_14 : decode cX3_readOne 14 = .ok (.lconst 0, 1) := by decide +kernel
theorem dX3_readOne_15 : decode cX3_readOne 15 = .ok (.iload_n 2, 1) := by decide +kernel
theorem dX3_readOne_16 : decode cX3_readOne 16 = .ok (.invokevirtual 142, 3) := by decide +kernel
theorem dX3_readOne_19 : decode cX3_readOne 19 = .ok (.ireturn, 1) := by decide +kernel
theorem dX3_readOne_20 : decode cX3_readOne 20 = .ok (.iload_n 1, 1) := by decide +kernel
theorem dX3_readOne_21 : decode cX3_readOne 21 = .ok (.sipush 400, 3) := by decide +kernel
theorem dX3_readOne_24 : decode cX3_readOne 24 = .ok (.if_icmp .lt 12, 3) := by decide +kernel
theorem dX3_readOne_27 : decode cX3_readOne 27 = .ok (.aload_n 0, 1) := by decide +kernel
theorem dX3_readOne_28 : decode cX3_readOne 28 = .ok (.iload_n 1, 1) := by decide +kernel
theorem dX3_readOne_29 : decode cX3_readOne 29 = .ok (.iconst 1, 1) := by decide +kernel
theorem dX3_readOne_30 : decode cX3_readOne 30 = .ok (.lconst 0, 1) := by decide +kernel
theorem dX3_readOne_31 : decode cX3_readOne 31 = .ok (.iload_n 2, 1) := by decide +kernel
theorem dX3_readOne_32 : decode cX3_readOne 32 = .ok (.invokevirtual 142, 3) := by decide +kernel
theorem dX3_readOne_35 : decode cX3_readOne 35 = .ok (.ireturn, 1) := by decide +kernel
theorem dX3_readOne_36 : decode cX3_readOne 36 = .ok (.iload_n 3, 1) := by decide +kernel
theorem dX3_readOne_37 : decode cX3_readOne 37 = .ok (.invokestatic 146, 3) := by decide +kernel
theorem dX3_readOne_40 : decode cX3_readOne 40 = .ok (.ifCond .eq 10, 3) := by decide +kernel
theorem dX3_readOne_43 : decode cX3_readOne 43 = .ok (.aload_n 0, 1) := by decide +kernel
theorem dX3_readOne_44 : decode cX3_readOne 44 = .ok (.iload_n 1, 1) := by decide +kernel
theorem dX3_readOne_45 : decode cX3_readOne 45 = .ok (.iload_n 2, 1) := by decide +kernel
theorem dX3_readOne_46 : decode cX3_readOne 46 = .ok (.invokevirtual 150, 3) := by decide +kernel
theorem dX3_readOne_49 : decode cX3_readOne 49 = .ok (.ireturn, 1) := by decide +kernel
theorem dX3_readOne_50 : decode cX3_readOne 50 = .ok (.iload_n 3, 1) := by decide +kernel
theorem dX3_readOne_51 : decode cX3_readOne 51 = .ok (.invokestatic 153, 3) := by decide +kernel
theorem dX3_readOne_54 : decode cX3_readOne 54 = .ok (.ifCond .eq 12, 3) := by decide +kernel
theorem dX3_readOne_57 : decode cX3_readOne 57 = .ok (.aload_n 0, 1) := by decide +kernel
theorem dX3_readOne_58 : decode cX3_readOne 58 = .ok (.iload_n 1, 1) := by decide +kernel
theorem dX3_readOne_59 : decode cX3_readOne 59 = .ok (.iload_n 2, 1) := by decide +kernel
theorem dX3_readOne_60 : decode cX3_readOne 60 = .ok (.invokevirtual 156, 3) := by decide +kernel
theorem dX3_readOne_63 : decode cX3_readOne 63 = .ok (.goto 9, 3) := by decide +kernel
theorem dX3_readOne_66 : decode cX3_readOne 66 = .ok (.aload_n 0, 1) := by decide +kernel
theorem dX3_readOne_67 : decode cX3_readOne 67 = .ok (.iload_n 1, 1) := by decide +kernel
theorem dX3_readOne_68 : decode cX3_readOne 68 = .ok (.iload_n 2, 1) := by decide +kernel
theorem dX3_readOne_69 : decode cX3_readOne 69 = .ok (.invokevirtual 159, 3) := by decide +kernel
theorem dX3_readOne_72 : decode cX3_readOne 72 = .ok (.ireturn, 1) := by decide +kernel
theorem mi_X0_clear : MInfo yX0_clear cX0_clear 1 none 0 := ⟨wq_998, wq_82, by decide, ⟨by decide +kernel, by decide +kernel, by decide +kernel⟩, by decide +kernel⟩
theorem mi_X0_emit : MInfo yX0_emit cX0_emit 3 none 2 := ⟨wq_1111, wq_82, by decide, ⟨by decide +kernel, by decide +kernel, by decide +kernel⟩, by decide +kernel⟩
theorem mi_X0_add : MInfo yX0_add cX0_add 4 none 3 := ⟨wq_1144, wq_82, by decide, ⟨by decide +kernel, by decide +kernel, by decide +kernel⟩, by decide +kernel⟩
theorem mi_X1_clear : MInfo yX1_clear cX1_clear 1 none 0 := ⟨wq_994, wq_81, by decide, ⟨by decide +kernel, by decide +kernel, by decide +kernel⟩, by decide +kernel⟩
theorem mi_X1_addBore : MInfo yX1_addBore cX1_addBore 4 none 2 := ⟨wq_1046, wq_81, by decide, ⟨by decide +kernel, by decide +kernel, by decide +kernel⟩, by decide +kernel⟩
theorem mi_X1_addShaft : MInfo yX1_addShaft cX1_addShaft 3 none 2 := ⟨wq_1057, wq_81, by decide, ⟨by decide +kernel, by decide +kernel, by decide +kernel⟩, by decide +kernel⟩
theorem mi_X1_addLegger : MInfo yX1_addLegger cX1_addLegger 3 none 2 := ⟨wq_1067, wq_81, by decide, ⟨by decide +kernel, by decide +kernel, by decide +kernel⟩, by decide +kernel⟩
theorem mi_X1_addBoat : MInfo yX1_addBoat cX1_addBoat 6 none 5 := ⟨wq_1081, wq_81, by decide, ⟨by decide +kernel, by decide +kernel, by decide +kernel⟩, by decide +kernel⟩
theorem mi_X3_isLetter : MInfo yX3_isLetter cX3_isLetter 1 (some .boolean) 1 := ⟨wq_169, wq_80, by decide, ⟨by decide +kernel, by decide +kernel, by decide +kernel⟩, by decide +kernel⟩
theorem mi_X3_isDigit : MInfo yX3_isDigit cX3_isDigit 1 (some .boolean) 1 := ⟨wq_172, wq_80, by decide, ⟨by decide +kernel, by decide +kernel, by decide +kernel⟩, by decide +kernel⟩
theorem mi_X3_signOfWord : MInfo yX3_signOfWord cX3_signOfWord 1 (some .int) 1 := ⟨wq_166, wq_80, by decide, ⟨by decide +kernel, by decide +kernel, by decide +kernel⟩, by decide +kernel⟩
theorem mi_X3_byteAt : MInfo yX3_byteAt cX3_byteAt 2 (some .int) 1 := ⟨wq_958, wq_80, by decide, ⟨by decide +kernel, by decide +kernel, by decide +kernel⟩, by decide +kernel⟩
theorem mi_X3_kindOfSymbol : MInfo yX3_kindOfSymbol cX3_kindOfSymbol 1 (some .int) 1 := ⟨wq_990, wq_80, by decide, ⟨by decide +kernel, by decide +kernel, by decide +kernel⟩, by decide +kernel⟩
theorem mi_X3_behindBlanks : MInfo yX3_behindBlanks cX3_behindBlanks 4 (some .int) 1 := ⟨wq_954, wq_80, by decide, ⟨by decide +kernel, by decide +kernel, by decide +kernel⟩, by decide +kernel⟩
theorem mi_X3_kindOfWord : MInfo yX3_kindOfWord cX3_kindOfWord 4 (some .int) 1 := ⟨wq_974, wq_80, by decide, ⟨by decide +kernel, by decide +kernel, by decide +kernel⟩, by decide +kernel⟩
theorem mi_X3_found : MInfo yX3_found cX3_found 6 (some .int) 4 := ⟨wq_966, wq_80, by decide, ⟨by decide +kernel, by decide +kernel, by decide +kernel⟩, by decide +kernel⟩
theorem mi_X3_readWord : MInfo yX3_readWord cX3_readWord 7 (some .int) 2 := ⟨wq_970, wq_80, by decide, ⟨by decide +kernel, by decide +kernel, by decide +kernel⟩, by decide +kernel⟩
theorem mi_X3_readNumber : MInfo yX3_readNumber cX3_readNumber 6 (some .int) 2 := ⟨wq_982, wq_80, by decide, ⟨by decide +kernel, by decide +kernel, by decide +kernel⟩, by decide +kernel⟩
theorem mi_X3_readSymbol : MInfo yX3_readSymbol cX3_readSymbol 4 (some .int) 2 := ⟨wq_987, wq_80, by decide, ⟨by decide +kernel, by decide +kernel, by decide +kernel⟩, by decide +kernel⟩
theorem mi_X3_readOne : MInfo yX3_readOne cX3_readOne 4 (some .int) 2 := ⟨wq_962, wq_80, by decide, ⟨by decide +kernel, by decide +kernel, by decide +kernel⟩, by decide +kernel⟩
def wp_X0_clear (F : M2) (L : L2) (K : M2 → L2 → Prop) : Prop := (∀ F_2 : M2, F_2 = up2 F 40 (fun _ => 0) → (∀ F_7 : M2, F_7 = up2 F_2 45 (fun _ => 0) → K F_7 L))
set_option maxRecDepth 100000 in
set_option maxHeartbeats 4000000 in
theorem c_X0_clear (l : Launch) (D : va_G) (Z : Nat → ClassId) (a q : Nat → Nat) (F : M2) (L : L2) (sz : Nat) (K : M2 → L2 → Prop) (hm : wp_X0_clear F L K) : Met l yX0_clear (wy yX0_clear cX0_clear 1 none) (rk 1 0 0) (pre vwCl D Z (KW Z a q (q 20) F L) sz [.ref (q 40)]) (poV vwCl D Z (fun u : M2 × L2 => KW Z a q (q 20) u.1 u.2) (F, L) sz (fun (u : M2 × L2) => K u.1 u.2)) 0 0 (va_A (KW Z a q (q 20) F L) sz) := by
  refine rwv_of (wsF := (fun u : M2 × L2 => KW Z a q (q 20) u.1 u.2)) (u0 := (F, L)) (by decide +kernel) (Nat.le_of_ble_eq_true rfl) rfl ?_
  intro p e s m args below meth c Q A hC hN hsz hnm hT hK hret ls hl
  have hx := hC.1
  have hb := hC.2.1
  have hl : lv_has ls 1 [(0, .ref (q 40))] := hl
  have hT : TS vwCl D (KW Z a q (q 20) F L) A s.heap s.heap [] := hT
  refine lv_aload_n hx hb dX0_clear_0 rfl (lv_at hl 0 rfl) ?_
  refine lv_iconst (v := 0) hx hb dX0_clear_1 (by decide) ?_
  refine pKW_orders_0 hC hK hT wq_253 dX0_clear_2 (fun F_2 eF_2 H locs hT => ?_)
  have hm := hm F_2 eF_2
  refine lv_aload_n hx hb dX0_clear_5 rfl (lv_at hl 0 rfl) ?_
  refine lv_iconst (v := 0) hx hb dX0_clear_6 (by decide) ?_
  refine pKW_orders_5 hC hK hT wq_265 dX0_clear_7 (fun F_7 eF_7 H locs hT => ?_)
  have hm := hm F_7 eF_7
  exact hret 10 _ _ _ (F_7, L) hm hT dX0_clear_10
section KX0_clear
variable {p : Program} {l : Launch} {e : Env} {s : State} {m : MethodId} {args : Array Value} {below : List Frame} {meth : Method} {c : Code} {H H0 : Heap} {locs : List Loc} {cells slots : Nat} {Q : State → Prop} {R : Room} {rn mcR msR : Nat}
variable {pc : Nat} {ls : Array Slot} {rest : List Value} {A : Nat → Prop} {D : va_G}
variable {cc : ByteArray} {nL index : Nat} {own host : String}
theorem k_X0_clear {Z : Nat → ClassId} {a q : Nat → Nat} {F : M2} {L : L2} {K : M2 → L2 → Prop} (hC : CallFix p m c cc nL s args lw_g own) (hN : NW s) (hK : va_K D vwCl (tysG Z) s) (hT : TS vwCl D (KW Z a q (q 20) F L) A H0 H locs) (hm : wp_X0_clear F L K) (hl : Cond.methodLink own index yX0_clear ∈ lw_g) (hlt : 1 < rn) (hsize : ls.size = nL) (hW : (rest.map fun v => v.category).sum ≤ 8) (hf : cells + 0 ≤ mcR ∧ slots + 0 ≤ msR) (hdg : decode cc pc = .ok (.invokevirtual index, 3)) (kk : ∀ (F1 : M2) (L1 : L2) (H1 : Heap) (locs1 : List Loc), K F1 L1 → TS vwCl D (KW Z a q (q 20) F1 L1) A H0 H1 locs1 → W p l e (rk rn mcR msR) s m args below meth c H1 locs1 cells slots Q (F0 m (pc + 3) ls (rest))) : W p l e (rk rn mcR msR) s m args below meth c H locs cells slots Q (F0 m pc ls (.ref (q 40) :: rest)) :=
  rwv_go (wsF := (fun u : M2 × L2 => KW Z a q (q 20) u.1 u.2)) (u0 := (F, L)) (wr := []) (isC := cutKW) (isR := []) (pm := cutKW) (ws' := (fun u : M2 × L2 => KW Z a q (q 20) u.1 u.2)) (runV (As := []) hC hN (c_X0_clear l D Z a q F L H.size K hm) mi_X0_clear hl wq_996 wq_997 hlt hT.1 hT.D' hK (q0 := 26) rfl rfl rfl hsize rfl hW hdg hf) (cutOkKW Z a q (q 20) F L) hT (fun u H1 locs1 hk hT1 => kk u.1 u.2 H1 locs1 hk hT1)
end KX0_clear
def wp_X0_emit (F : M2) (L : L2) (x1 : Int32) (x2 : Int32) (K : M2 → L2 → Prop) : Prop := (∀ F_9 : M2, F_9 = up2 F 46 (putv (F 46) 400 (F 45 0) x1) → (∀ F_21 : M2, F_21 = up2 F_9 47 (putv (F_9 47) 400 (F_9 45 0) x2) → (∀ F_31 : M2, F_31 = up2 F_21 45 (fun _ => (F_21 45 0) + 1) → K F_31 L)))
set_option maxRecDepth 100000 in
set_option maxHeartbeats 4000000 in
theorem c_X0_emit (l : Launch) (D : va_G) (Z : Nat → ClassId) (a q : Nat → Nat) (F : M2) (L : L2) (sz : Nat) (x1 : Int32) (x2 : Int32) (K : M2 → L2 → Prop) (hm : wp_X0_emit F L x1 x2 K) : Met l yX0_emit (wy yX0_emit cX0_emit 3 none) (rk 1 0 0) (pre vwCl D Z (KW Z a q (q 20) F L) sz [.ref (q 40), .int x1, .int x2]) (poV vwCl D Z (fun u : M2 × L2 => KW Z a q (q 20) u.1 u.2) (F, L) sz (fun (u : M2 × L2) => K u.1 u.2)) 0 0 (va_A (KW Z a q (q 20) F L) sz) := by
  refine rwv_of (wsF := (fun u : M2 × L2 => KW Z a q (q 20) u.1 u.2)) (u0 := (F, L)) (by decide +kernel) (Nat.le_of_ble_eq_true rfl) rfl ?_
  intro p e s m args below meth c Q A hC hN hsz hnm hT hK hret ls hl
  have hx := hC.1
  have hb := hC.2.1
  have hl : lv_has ls 3 [(0, .ref (q 40)), (1, .int x1), (2, .int x2)] := hl
  have hT : TS vwCl D (KW Z a q (q 20) F L) A s.heap s.heap [] := hT
  refine lv_aload_n hx hb dX0_emit_0 rfl (lv_at hl 0 rfl) ?_
  refine gKW_orders_6 hC hK hT.1 wq_267 dX0_emit_1 ?_
  refine lv_aload_n hx hb dX0_emit_4 rfl (lv_at hl 0 rfl) ?_
  refine gKW_orders_5 hC hK hT.1 wq_265 dX0_emit_5 ?_
  refine lv_iload_n hx hb dX0_emit_8 rfl (lv_at hl 1 rfl) ?_
  refine uKW_Ooperation hC hN hK hT wn_1112 (by decide) hl.1 (Nat.le_of_ble_eq_true rfl) ⟨Nat.le_refl _, Nat.le_refl _⟩ dX0_emit_9 (fun F_9 eF_9 H locs hT => ?_)
  have hm := hm F_9 eF_9
  refine lv_aload_n hx hb dX0_emit_12 rfl (lv_at hl 0 rfl) ?_
  refine gKW_orders_7 hC hK hT.1 wq_269 dX0_emit_13 ?_
  refine lv_aload_n hx hb dX0_emit_16 rfl (lv_at hl 0 rfl) ?_
  refine gKW_orders_5 hC hK hT.1 wq_265 dX0_emit_17 ?_
  refine lv_iload_n hx hb dX0_emit_20 rfl (lv_at hl 2 rfl) ?_
  refine uKW_Ooperand hC hN hK hT wn_1112 (by decide) hl.1 (Nat.le_of_ble_eq_true rfl) ⟨Nat.le_refl _, Nat.le_refl _⟩ dX0_emit_21 (fun F_21 eF_21 H locs hT => ?_)
  have hm := hm F_21 eF_21
  refine lv_aload_n hx hb dX0_emit_24 rfl (lv_at hl 0 rfl) ?_
  refine lv_dup hx hb dX0_emit_25 rfl ?_
  refine gKW_orders_5 hC hK hT.1 wq_265 dX0_emit_26 ?_
  refine lv_iconst (v := 1) hx hb dX0_emit_29 (by decide) ?_
  refine lv_iadd hx hb dX0_emit_30 ?_
  refine pKW_orders_5 hC hK hT wq_265 dX0_emit_31 (fun F_31 eF_31 H locs hT => ?_)
  have hm := hm F_31 eF_31
  exact hret 34 _ _ _ (F_31, L) hm hT dX0_emit_34
section KX0_emit
variable {p : Program} {l : Launch} {e : Env} {s : State} {m : MethodId} {args : Array Value} {below : List Frame} {meth : Method} {c : Code} {H H0 : Heap} {locs : List Loc} {cells slots : Nat} {Q : State → Prop} {R : Room} {rn mcR msR : Nat}
variable {pc : Nat} {ls : Array Slot} {rest : List Value} {A : Nat → Prop} {D : va_G}
variable {cc : ByteArray} {nL index : Nat} {own host : String}
theorem k_X0_emit {Z : Nat → ClassId} {a q : Nat → Nat} {F : M2} {L : L2} {x1 : Int32} {x2 : Int32} {K : M2 → L2 → Prop} (hC : CallFix p m c cc nL s args lw_g own) (hN : NW s) (hK : va_K D vwCl (tysG Z) s) (hT : TS vwCl D (KW Z a q (q 20) F L) A H0 H locs) (hm : wp_X0_emit F L x1 x2 K) (hl : Cond.methodLink own index yX0_emit ∈ lw_g) (hlt : 1 < rn) (hsize : ls.size = nL) (hW : (rest.map fun v => v.category).sum ≤ 8) (hf : cells + 0 ≤ mcR ∧ slots + 0 ≤ msR) (hdg : decode cc pc = .ok (.invokevirtual index, 3)) (kk : ∀ (F1 : M2) (L1 : L2) (H1 : Heap) (locs1 : List Loc), K F1 L1 → TS vwCl D (KW Z a q (q 20) F1 L1) A H0 H1 locs1 → W p l e (rk rn mcR msR) s m args below meth c H1 locs1 cells slots Q (F0 m (pc + 3) ls (rest))) : W p l e (rk rn mcR msR) s m args below meth c H locs cells slots Q (F0 m pc ls (.int x2 :: .int x1 :: .ref (q 40) :: rest)) :=
  rwv_go (wsF := (fun u : M2 × L2 => KW Z a q (q 20) u.1 u.2)) (u0 := (F, L)) (wr := []) (isC := cutKW) (isR := []) (pm := cutKW) (ws' := (fun u : M2 × L2 => KW Z a q (q 20) u.1 u.2)) (runV (As := [.int x1, .int x2]) hC hN (c_X0_emit l D Z a q F L H.size x1 x2 K hm) mi_X0_emit hl wq_1109 wq_1110 hlt hT.1 hT.D' hK (q0 := 26) rfl rfl rfl hsize rfl hW hdg hf) (cutOkKW Z a q (q 20) F L) hT (fun u H1 locs1 hk hT1 => kk u.1 u.2 H1 locs1 hk hT1)
end KX0_emit
def wp_X0_add (F : M2) (L : L2) (x1 : Int32) (x2 : Int32) (x3 : Int32) (K : M2 → L2 → Prop) : Prop := (∀ F_9 : M2, F_9 = up2 F 41 (putv (F 41) 16 (F 40 0) x1) → (∀ F_21 : M2, F_21 = up2 F_9 42 (putv (F_9 42) 16 (F_9 40 0) x2) → (∀ F_33 : M2, F_33 = up2 F_21 43 (putv (F_21 43) 16 (F_21 40 0) x3) → (∀ F_48 : M2, F_48 = up2 F_33 44 (putv (F_33 44) 16 (F_33 40 0) (F_33 45 0)) → (∀ F_58 : M2, F_58 = up2 F_48 40 (fun _ => (F_48 40 0) + 1) → K F_58 L)))))
set_option maxRecDepth 100000 in
set_option maxHeartbeats 4000000 in
theorem c_X0_add (l : Launch) (D : va_G) (Z : Nat → ClassId) (a q : Nat → Nat) (F : M2) (L : L2) (sz : Nat) (x1 : Int32) (x2 : Int32) (x3 : Int32) (K : M2 → L2 → Prop) (hm : wp_X0_add F L x1 x2 x3 K) : Met l yX0_add (wy yX0_add cX0_add 4 none) (rk 1 0 0) (pre vwCl D Z (KW Z a q (q 20) F L) sz [.ref (q 40), .int x1, .int x2, .int x3]) (poV vwCl D Z (fun u : M2 × L2 => KW Z a q (q 20) u.1 u.2) (F, L) sz (fun (u : M2 × L2) => K u.1 u.2)) 0 0 (va_A (KW Z a q (q 20) F L) sz) := by
  refine rwv_of (wsF := (fun u : M2 × L2 => KW Z a q (q 20) u.1 u.2)) (u0 := (F, L)) (by decide +kernel) (Nat.le_of_ble_eq_true rfl) rfl ?_
  intro p e s m args below meth c Q A hC hN hsz hnm hT hK hret ls hl
  have hx := hC.1
  have hb := hC.2.1
  have hl : lv_has ls 4 [(0, .ref (q 40)), (1, .int x1), (2, .int x2), (3, .int x3)] := hl
  have hT : TS vwCl D (KW Z a q (q 20) F L) A s.heap s.heap [] := hT
  refine lv_aload_n hx hb dX0_add_0 rfl (lv_at hl 0 rfl) ?_
  refine gKW_orders_1 hC hK hT.1 wq_257 dX0_add_1 ?_
  refine lv_aload_n hx hb dX0_add_4 rfl (lv_at hl 0 rfl) ?_
  refine gKW_orders_0 hC hK hT.1 wq_253 dX0_add_5 ?_
  refine lv_iload_n hx hb dX0_add_8 rfl (lv_at hl 1 rfl) ?_
  refine uKW_Okind hC hN hK hT wn_1112 (by decide) hl.1 (Nat.le_of_ble_eq_true rfl) ⟨Nat.le_refl _, Nat.le_refl _⟩ dX0_add_9 (fun F_9 eF_9 H locs hT => ?_)
  have hm := hm F_9 eF_9
  refine lv_aload_n hx hb dX0_add_12 rfl (lv_at hl 0 rfl) ?_
  refine gKW_orders_2 hC hK hT.1 wq_259 dX0_add_13 ?_
  refine lv_aload_n hx hb dX0_add_16 rfl (lv_at hl 0 rfl) ?_
  refine gKW_orders_0 hC hK hT.1 wq_253 dX0_add_17 ?_
  refine lv_iload_n hx hb dX0_add_20 rfl (lv_at hl 2 rfl) ?_
  refine uKW_Owhose hC hN hK hT wn_1112 (by decide) hl.1 (Nat.le_of_ble_eq_true rfl) ⟨Nat.le_refl _, Nat.le_refl _⟩ dX0_add_21 (fun F_21 eF_21 H locs hT => ?_)
  have hm := hm F_21 eF_21
  refine lv_aload_n hx hb dX0_add_24 rfl (lv_at hl 0 rfl) ?_
  refine gKW_orders_3 hC hK hT.1 wq_261 dX0_add_25 ?_
  refine lv_aload_n hx hb dX0_add_28 rfl (lv_at hl 0 rfl) ?_
  refine gKW_orders_0 hC hK hT.1 wq_253 dX0_add_29 ?_
  refine lv_iload_n hx hb dX0_add_32 rfl (lv_at hl 3 rfl) ?_
  refine uKW_Obegin hC hN hK hT wn_1112 (by decide) hl.1 (Nat.le_of_ble_eq_true rfl) ⟨Nat.le_refl _, Nat.le_refl _⟩ dX0_add_33 (fun F_33 eF_33 H locs hT => ?_)
  have hm := hm F_33 eF_33
  refine lv_aload_n hx hb dX0_add_36 rfl (lv_at hl 0 rfl) ?_
  refine gKW_orders_4 hC hK hT.1 wq_263 dX0_add_37 ?_
  refine lv_aload_n hx hb dX0_add_40 rfl (lv_at hl 0 rfl) ?_
  refine gKW_orders_0 hC hK hT.1 wq_253 dX0_add_41 ?_
  refine lv_aload_n hx hb dX0_add_44 rfl (lv_at hl 0 rfl) ?_
  refine gKW_orders_5 hC hK hT.1 wq_265 dX0_add_45 ?_
  refine uKW_Obehind hC hN hK hT wn_1112 (by decide) hl.1 (Nat.le_of_ble_eq_true rfl) ⟨Nat.le_refl _, Nat.le_refl _⟩ dX0_add_48 (fun F_48 eF_48 H locs hT => ?_)
  have hm := hm F_48 eF_48
  refine lv_aload_n hx hb dX0_add_51 rfl (lv_at hl 0 rfl) ?_
  refine lv_dup hx hb dX0_add_52 rfl ?_
  refine gKW_orders_0 hC hK hT.1 wq_253 dX0_add_53 ?_
  refine lv_iconst (v := 1) hx hb dX0_add_56 (by decide) ?_
  refine lv_iadd hx hb dX0_add_57 ?_
  refine pKW_orders_0 hC hK hT wq_253 dX0_add_58 (fun F_58 eF_58 H locs hT => ?_)
  have hm := hm F_58 eF_58
  exact hret 61 _ _ _ (F_58, L) hm hT dX0_add_61
section KX0_add
variable {p : Program} {l : Launch} {e : Env} {s : State} {m : MethodId} {args : Array Value} {below : List Frame} {meth : Method} {c : Code} {H H0 : Heap} {locs : List Loc} {cells slots : Nat} {Q : State → Prop} {R : Room} {rn mcR msR : Nat}
variable {pc : Nat} {ls : Array Slot} {rest : List Value} {A : Nat → Prop} {D : va_G}
variable {cc : ByteArray} {nL index : Nat} {own host : String}
end KX0_add
def wp_X1_clear (F : M2) (L : L2) (K : M2 → L2 → Prop) : Prop := (∀ F_2 : M2, F_2 = up2 F 20 (fun _ => 0) → (∀ F_7 : M2, F_7 = up2 F_2 21 (fun _ => 0) → (∀ F_12 : M2, F_12 = up2 F_7 22 (fun _ => 0) → (∀ F_17 : M2, F_17 = up2 F_12 23 (fun _ => 0) → (∀ F_22 : M2, F_22 = up2 F_17 24 (fun _ => 0) → wp_X0_clear F_22 L (fun F_29 L_29 => K F_29 L_29))))))
set_option maxRecDepth 100000 in
set_option maxHeartbeats 4000000 in
theorem c_X1_clear (l : Launch) (D : va_G) (Z : Nat → ClassId) (a q : Nat → Nat) (F : M2) (L : L2) (sz : Nat) (K : M2 → L2 → Prop) (hm : wp_X1_clear F L K) : Met l yX1_clear (wy yX1_clear cX1_clear 1 none) (rk 2 0 0) (pre vwCl D Z (KW Z a q (q 20) F L) sz [.ref (q 20)]) (poV vwCl D Z (fun u : M2 × L2 => KW Z a q (q 20) u.1 u.2) (F, L) sz (fun (u : M2 × L2) => K u.1 u.2)) 0 0 (va_A (KW Z a q (q 20) F L) sz) := by
  refine rwv_of (wsF := (fun u : M2 × L2 => KW Z a q (q 20) u.1 u.2)) (u0 := (F, L)) (by decide +kernel) (Nat.le_of_ble_eq_true rfl) rfl ?_
  intro p e s m args below meth c Q A hC hN hsz hnm hT hK hret ls hl
  have hx := hC.1
  have hb := hC.2.1
  have hl : lv_has ls 1 [(0, .ref (q 20))] := hl
  have hT : TS vwCl D (KW Z a q (q 20) F L) A s.heap s.heap [] := hT
  refine lv_aload_n hx hb dX1_clear_0 rfl (lv_at hl 0 rfl) ?_
  refine lv_iconst (v := 0) hx hb dX1_clear_1 (by decide) ?_
  refine pKW_plan_0 hC hK hT wq_288 dX1_clear_2 (fun F_2 eF_2 H locs hT => ?_)
  have hm := hm F_2 eF_2
  refine lv_aload_n hx hb dX1_clear_5 rfl (lv_at hl 0 rfl) ?_
  refine lv_iconst (v := 0) hx hb dX1_clear_6 (by decide) ?_
  refine pKW_plan_1 hC hK hT wq_291 dX1_clear_7 (fun F_7 eF_7 H locs hT => ?_)
  have hm := hm F_7 eF_7
  refine lv_aload_n hx hb dX1_clear_10 rfl (lv_at hl 0 rfl) ?_
  refine lv_iconst (v := 0) hx hb dX1_clear_11 (by decide) ?_
  refine pKW_plan_2 hC hK hT wq_295 dX1_clear_12 (fun F_12 eF_12 H locs hT => ?_)
  have hm := hm F_12 eF_12
  refine lv_aload_n hx hb dX1_clear_15 rfl (lv_at hl 0 rfl) ?_
  refine lv_iconst (v := 0) hx hb dX1_clear_16 (by decide) ?_
  refine pKW_plan_3 hC hK hT wq_299 dX1_clear_17 (fun F_17 eF_17 H locs hT => ?_)
  have hm := hm F_17 eF_17
  refine lv_aload_n hx hb dX1_clear_20 rfl (lv_at hl 0 rfl) ?_
  refine lv_iconst (v := 0) hx hb dX1_clear_21 (by decide) ?_
  refine pKW_plan_4 hC hK hT wq_303 dX1_clear_22 (fun F_22 eF_22 H locs hT => ?_)
  have hm := hm F_22 eF_22
  refine lv_aload_n hx hb dX1_clear_25 rfl (lv_at hl 0 rfl) ?_
  refine gKW_plan_18 hC hK hT.1 wq_342 dX1_clear_26 ?_
  refine k_X0_clear hC hN hK hT hm wq_995 (by decide) hl.1 (Nat.le_of_ble_eq_true rfl) ⟨Nat.le_refl _, Nat.le_refl _⟩ dX1_clear_29 (fun F_29 L_29 H locs hm hT => ?_)
  exact hret 32 _ _ _ (F_29, L_29) hm hT dX1_clear_32
section KX1_clear
variable {p : Program} {l : Launch} {e : Env} {s : State} {m : MethodId} {args : Array Value} {below : List Frame} {meth : Method} {c : Code} {H H0 : Heap} {locs : List Loc} {cells slots : Nat} {Q : State → Prop} {R : Room} {rn mcR msR : Nat}
variable {pc : Nat} {ls : Array Slot} {rest : List Value} {A : Nat → Prop} {D : va_G}
variable {cc : ByteArray} {nL index : Nat} {own host : String}
end KX1_clear
def wl_X1_addBore_41 (K : M2 → L2 → Prop) : Nat → M2 → L2 → Int32 → Int32 → Prop
  | 0, _, _, _, _ => False
  | n + 1, F, L, v1, v3 => ((v1 ≤ v3 → (∀ F_93 : M2, F_93 = up2 F 20 (fun _ => (F 20 0) + 1) → K F_93 L)) ∧ (¬ v1 ≤ v3 → ((60 ≤ (F 21 0) → (∀ F_93 : M2, F_93 = up2 F 20 (fun _ => (F 20 0) + 1) → K F_93 L)) ∧ (¬ 60 ≤ (F 21 0) → (∀ F_67 : M2, F_67 = up2 F 28 (putv (F 28) 60 (F 21 0) (F 20 0)) → (∀ F_77 : M2, F_77 = up2 F_67 21 (fun _ => (F_67 21 0) + 1) → (∀ v3_80 : Int32, v3_80 = v3 + 1 → wl_X1_addBore_41 K n F_77 L v1 v3_80)))))))
def wp_X1_addBore (F : M2) (L : L2) (x1 : Int32) (x2 : Int32) (K : M2 → L2 → Prop) : Prop := (∀ F_9 : M2, F_9 = up2 F 25 (putv (F 25) 5 (F 20 0) x1) → (∀ F_21 : M2, F_21 = up2 F_9 26 (putv (F_9 26) 5 (F_9 20 0) x2) → (∀ F_36 : M2, F_36 = up2 F_21 27 (putv (F_21 27) 5 (F_21 20 0) (F_21 21 0)) → wl_X1_addBore_41 K fK F_36 L x1 0)))
set_option maxRecDepth 100000 in
set_option maxHeartbeats 4000000 in
theorem c_X1_addBore (l : Launch) (D : va_G) (Z : Nat → ClassId) (a q : Nat → Nat) (F : M2) (L : L2) (sz : Nat) (x1 : Int32) (x2 : Int32) (K : M2 → L2 → Prop) (hm : wp_X1_addBore F L x1 x2 K) : Met l yX1_addBore (wy yX1_addBore cX1_addBore 4 none) (rk 1 0 0) (pre vwCl D Z (KW Z a q (q 20) F L) sz [.ref (q 20), .int x1, .int x2]) (poV vwCl D Z (fun u : M2 × L2 => KW Z a q (q 20) u.1 u.2) (F, L) sz (fun (u : M2 × L2) => K u.1 u.2)) 0 0 (va_A (KW Z a q (q 20) F L) sz) := by
  refine rwv_of (wsF := (fun u : M2 × L2 => KW Z a q (q 20) u.1 u.2)) (u0 := (F, L)) (by decide +kernel) (Nat.le_of_ble_eq_true rfl) rfl ?_
  intro p e s m args below meth c Q A hC hN hsz hnm hT hK hret ls hl
  have hx := hC.1
  have hb := hC.2.1
  have hl : lv_has ls 4 [(0, .ref (q 20)), (1, .int x1), (2, .int x2)] := hl
  have hT : TS vwCl D (KW Z a q (q 20) F L) A s.heap s.heap [] := hT
  have L41 : ∀ (n41 : Nat), ∀ (F : M2) (L : L2) (v1 : Int32) (v3 : Int32) (H : Heap) (locs : List Loc) (ls : Array Slot), wl_X1_addBore_41 K n41 F L v1 v3 → TS vwCl D (KW Z a q (q 20) F L) A s.heap H locs → lv_has ls 4 [(0, .ref (q 20)), (1, .int v1), (3, .int v3)] → W p l e (rk 1 0 0) s m args below meth c H locs 0 0 Q (F0 m 41 ls []) := by
    intro n41
    induction n41 with
    | zero =>
      intro F L v1 v3 H locs ls hm hT hl
      exact False.elim hm
    | succ n41 ih41 =>
      intro F L v1 v3 H locs ls hm hT hl
      refine lv_iload_n hx hb dX1_addBore_41 rfl (lv_at hl 2 rfl) ?_
      refine lv_iload_n hx hb dX1_addBore_42 rfl (lv_at hl 1 rfl) ?_
      refine lv_icmp_ge (tgt := 86) hx hb dX1_addBore_43 (by decide) (fun c_43 => ?_) (fun c_43 => ?_)
      · have hm := hm.1 c_43
        refine lv_aload_n hx hb dX1_addBore_86 rfl (lv_at hl 0 rfl) ?_
        refine lv_dup hx hb dX1_addBore_87 rfl ?_
        refine gKW_plan_0 hC hK hT.1 wq_288 dX1_addBore_88 ?_
        refine lv_iconst (v := 1) hx hb dX1_addBore_91 (by decide) ?_
        refine lv_iadd hx hb dX1_addBore_92 ?_
        refine pKW_plan_0 hC hK hT wq_288 dX1_addBore_93 (fun F_93 eF_93 H locs hT => ?_)
        have hm := hm F_93 eF_93
        exact hret 96 _ _ _ (F_93, L) hm hT dX1_addBore_96
      · have hm := hm.2 c_43
        refine lv_aload_n hx hb dX1_addBore_46 rfl (lv_at hl 0 rfl) ?_
        refine gKW_plan_1 hC hK hT.1 wq_291 dX1_addBore_47 ?_
        refine lv_bipush (v := 60) hx hb dX1_addBore_50 (by decide) ?_
        refine lv_icmp_ge (tgt := 86) hx hb dX1_addBore_52 (by decide) (fun c_52 => ?_) (fun c_52 => ?_)
        · have hm := hm.1 c_52
          refine lv_aload_n hx hb dX1_addBore_86 rfl (lv_at hl 0 rfl) ?_
          refine lv_dup hx hb dX1_addBore_87 rfl ?_
          refine gKW_plan_0 hC hK hT.1 wq_288 dX1_addBore_88 ?_
          refine lv_iconst (v := 1) hx hb dX1_addBore_91 (by decide) ?_
          refine lv_iadd hx hb dX1_addBore_92 ?_
          refine pKW_plan_0 hC hK hT wq_288 dX1_addBore_93 (fun F_93 eF_93 H locs hT => ?_)
          have hm := hm F_93 eF_93
          exact hret 96 _ _ _ (F_93, L) hm hT dX1_addBore_96
        · have hm := hm.2 c_52
          refine lv_aload_n hx hb dX1_addBore_55 rfl (lv_at hl 0 rfl) ?_
          refine gKW_plan_8 hC hK hT.1 wq_316 dX1_addBore_56 ?_
          refine lv_aload_n hx hb dX1_addBore_59 rfl (lv_at hl 0 rfl) ?_
          refine gKW_plan_1 hC hK hT.1 wq_291 dX1_addBore_60 ?_
          refine lv_aload_n hx hb dX1_addBore_63 rfl (lv_at hl 0 rfl) ?_
          refine gKW_plan_0 hC hK hT.1 wq_288 dX1_addBore_64 ?_
          refine uKW_PboreOf hC hN hK hT wn_1047 (by decide) hl.1 (Nat.le_of_ble_eq_true rfl) ⟨Nat.le_refl _, Nat.le_refl _⟩ dX1_addBore_67 (fun F_67 eF_67 H locs hT => ?_)
          have hm := hm F_67 eF_67
          refine lv_aload_n hx hb dX1_addBore_70 rfl (lv_at hl 0 rfl) ?_
          refine lv_dup hx hb dX1_addBore_71 rfl ?_
          refine gKW_plan_1 hC hK hT.1 wq_291 dX1_addBore_72 ?_
          refine lv_iconst (v := 1) hx hb dX1_addBore_75 (by decide) ?_
          refine lv_iadd hx hb dX1_addBore_76 ?_
          refine pKW_plan_1 hC hK hT wq_291 dX1_addBore_77 (fun F_77 eF_77 H locs hT => ?_)
          have hm := hm F_77 eF_77
          obtain ⟨v3_80, ev3_80⟩ : ∃ y : Int32, y = v3 + 1 := ⟨_, rfl⟩
          have hm := hm v3_80 ev3_80
          refine lv_iinc (v := v3_80) (lv' := [(3, .int v3_80), (0, .ref (q 20)), (1, .int v1)]) hx hb dX1_addBore_80 hl (k := 2) rfl (by rw [ev3_80]; rfl) (by decide) rfl (fun ls hl => ?_)
          refine lv_goto (tgt := 41) hx hb dX1_addBore_83 (by decide) ?_
          exact ih41 _ _ _ _ _ _ _ hm hT (lv_sub hl [1, 2, 0] rfl)
  refine lv_aload_n hx hb dX1_addBore_0 rfl (lv_at hl 0 rfl) ?_
  refine gKW_plan_5 hC hK hT.1 wq_307 dX1_addBore_1 ?_
  refine lv_aload_n hx hb dX1_addBore_4 rfl (lv_at hl 0 rfl) ?_
  refine gKW_plan_0 hC hK hT.1 wq_288 dX1_addBore_5 ?_
  refine lv_iload_n hx hb dX1_addBore_8 rfl (lv_at hl 1 rfl) ?_
  refine uKW_PboreLong hC hN hK hT wn_1047 (by decide) hl.1 (Nat.le_of_ble_eq_true rfl) ⟨Nat.le_refl _, Nat.le_refl _⟩ dX1_addBore_9 (fun F_9 eF_9 H locs hT => ?_)
  have hm := hm F_9 eF_9
  refine lv_aload_n hx hb dX1_addBore_12 rfl (lv_at hl 0 rfl) ?_
  refine gKW_plan_6 hC hK hT.1 wq_310 dX1_addBore_13 ?_
  refine lv_aload_n hx hb dX1_addBore_16 rfl (lv_at hl 0 rfl) ?_
  refine gKW_plan_0 hC hK hT.1 wq_288 dX1_addBore_17 ?_
  refine lv_iload_n hx hb dX1_addBore_20 rfl (lv_at hl 2 rfl) ?_
  refine uKW_PboreLow hC hN hK hT wn_1047 (by decide) hl.1 (Nat.le_of_ble_eq_true rfl) ⟨Nat.le_refl _, Nat.le_refl _⟩ dX1_addBore_21 (fun F_21 eF_21 H locs hT => ?_)
  have hm := hm F_21 eF_21
  refine lv_aload_n hx hb dX1_addBore_24 rfl (lv_at hl 0 rfl) ?_
  refine gKW_plan_7 hC hK hT.1 wq_313 dX1_addBore_25 ?_
  refine lv_aload_n hx hb dX1_addBore_28 rfl (lv_at hl 0 rfl) ?_
  refine gKW_plan_0 hC hK hT.1 wq_288 dX1_addBore_29 ?_
  refine lv_aload_n hx hb dX1_addBore_32 rfl (lv_at hl 0 rfl) ?_
  refine gKW_plan_1 hC hK hT.1 wq_291 dX1_addBore_33 ?_
  refine uKW_PboreFirst hC hN hK hT wn_1047 (by decide) hl.1 (Nat.le_of_ble_eq_true rfl) ⟨Nat.le_refl _, Nat.le_refl _⟩ dX1_addBore_36 (fun F_36 eF_36 H locs hT => ?_)
  have hm := hm F_36 eF_36
  refine lv_iconst (v := 0) hx hb dX1_addBore_39 (by decide) ?_
  refine lv_istore_n (lv' := [(3, .int 0), (0, .ref (q 20)), (1, .int x1), (2, .int x2)]) hx hb dX1_addBore_40 rfl hl (by decide) rfl (fun ls hl => ?_)
  exact L41 _ _ _ _ _ _ _ _ hm hT (lv_sub hl [1, 2, 0] rfl)
section KX1_addBore
variable {p : Program} {l : Launch} {e : Env} {s : State} {m : MethodId} {args : Array Value} {below : List Frame} {meth : Method} {c : Code} {H H0 : Heap} {locs : List Loc} {cells slots : Nat} {Q : State → Prop} {R : Room} {rn mcR msR : Nat}
variable {pc : Nat} {ls : Array Slot} {rest : List Value} {A : Nat → Prop} {D : va_G}
variable {cc : ByteArray} {nL index : Nat} {own host : String}
end KX1_addBore
def wp_X1_addShaft (F : M2) (L : L2) (x1 : Int32) (x2 : Int32) (K : M2 → L2 → Prop) : Prop := (∀ F_9 : M2, F_9 = up2 F 29 (putv (F 29) 4 (F 22 0) x1) → (∀ F_21 : M2, F_21 = up2 F_9 30 (putv (F_9 30) 4 (F_9 22 0) x2) → (∀ F_31 : M2, F_31 = up2 F_21 22 (fun _ => (F_21 22 0) + 1) → K F_31 L)))
set_option maxRecDepth 100000 in
set_option maxHeartbeats 4000000 in
theorem c_X1_addShaft (l : Launch) (D : va_G) (Z : Nat → ClassId) (a q : Nat → Nat) (F : M2) (L : L2) (sz : Nat) (x1 : Int32) (x2 : Int32) (K : M2 → L2 → Prop) (hm : wp_X1_addShaft F L x1 x2 K) : Met l yX1_addShaft (wy yX1_addShaft cX1_addShaft 3 none) (rk 1 0 0) (pre vwCl D Z (KW Z a q (q 20) F L) sz [.ref (q 20), .int x1, .int x2]) (poV vwCl D Z (fun u : M2 × L2 => KW Z a q (q 20) u.1 u.2) (F, L) sz (fun (u : M2 × L2) => K u.1 u.2)) 0 0 (va_A (KW Z a q (q 20) F L) sz) := by
  refine rwv_of (wsF := (fun u : M2 × L2 => KW Z a q (q 20) u.1 u.2)) (u0 := (F, L)) (by decide +kernel) (Nat.le_of_ble_eq_true rfl) rfl ?_
  intro p e s m args below meth c Q A hC hN hsz hnm hT hK hret ls hl
  have hx := hC.1
  have hb := hC.2.1
  have hl : lv_has ls 3 [(0, .ref (q 20)), (1, .int x1), (2, .int x2)] := hl
  have hT : TS vwCl D (KW Z a q (q 20) F L) A s.heap s.heap [] := hT
  refine lv_aload_n hx hb dX1_addShaft_0 rfl (lv_at hl 0 rfl) ?_
  refine gKW_plan_9 hC hK hT.1 wq_319 dX1_addShaft_1 ?_
  refine lv_aload_n hx hb dX1_addShaft_4 rfl (lv_at hl 0 rfl) ?_
  refine gKW_plan_2 hC hK hT.1 wq_295 dX1_addShaft_5 ?_
  refine lv_iload_n hx hb dX1_addShaft_8 rfl (lv_at hl 1 rfl) ?_
  refine uKW_PshaftAt hC hN hK hT wn_1047 (by decide) hl.1 (Nat.le_of_ble_eq_true rfl) ⟨Nat.le_refl _, Nat.le_refl _⟩ dX1_addShaft_9 (fun F_9 eF_9 H locs hT => ?_)
  have hm := hm F_9 eF_9
  refine lv_aload_n hx hb dX1_addShaft_12 rfl (lv_at hl 0 rfl) ?_
  refine gKW_plan_10 hC hK hT.1 wq_321 dX1_addShaft_13 ?_
  refine lv_aload_n hx hb dX1_addShaft_16 rfl (lv_at hl 0 rfl) ?_
  refine gKW_plan_2 hC hK hT.1 wq_295 dX1_addShaft_17 ?_
  refine lv_iload_n hx hb dX1_addShaft_20 rfl (lv_at hl 2 rfl) ?_
  refine uKW_Pdraught hC hN hK hT wn_1047 (by decide) hl.1 (Nat.le_of_ble_eq_true rfl) ⟨Nat.le_refl _, Nat.le_refl _⟩ dX1_addShaft_21 (fun F_21 eF_21 H locs hT => ?_)
  have hm := hm F_21 eF_21
  refine lv_aload_n hx hb dX1_addShaft_24 rfl (lv_at hl 0 rfl) ?_
  refine lv_dup hx hb dX1_addShaft_25 rfl ?_
  refine gKW_plan_2 hC hK hT.1 wq_295 dX1_addShaft_26 ?_
  refine lv_iconst (v := 1) hx hb dX1_addShaft_29 (by decide) ?_
  refine lv_iadd hx hb dX1_addShaft_30 ?_
  refine pKW_plan_2 hC hK hT wq_295 dX1_addShaft_31 (fun F_31 eF_31 H locs hT => ?_)
  have hm := hm F_31 eF_31
  exact hret 34 _ _ _ (F_31, L) hm hT dX1_addShaft_34
section KX1_addShaft
variable {p : Program} {l : Launch} {e : Env} {s : State} {m : MethodId} {args : Array Value} {below : List Frame} {meth : Method} {c : Code} {H H0 : Heap} {locs : List Loc} {cells slots : Nat} {Q : State → Prop} {R : Room} {rn mcR msR : Nat}
variable {pc : Nat} {ls : Array Slot} {rest : List Value} {A : Nat → Prop} {D : va_G}
variable {cc : ByteArray} {nL index : Nat} {own host : String}
end KX1_addShaft
def wp_X1_addLegger (F : M2) (L : L2) (x1 : Int32) (x2 : Int32) (K : M2 → L2 → Prop) : Prop := (∀ F_9 : M2, F_9 = up2 F 31 (putv (F 31) 6 (F 23 0) x1) → (∀ F_21 : M2, F_21 = up2 F_9 32 (putv (F_9 32) 6 (F_9 23 0) x2) → (∀ F_31 : M2, F_31 = up2 F_21 23 (fun _ => (F_21 23 0) + 1) → K F_31 L)))
set_option maxRecDepth 100000 in
set_option maxHeartbeats 4000000 in
theorem c_X1_addLegger (l : Launch) (D : va_G) (Z : Nat → ClassId) (a q : Nat → Nat) (F : M2) (L : L2) (sz : Nat) (x1 : Int32) (x2 : Int32) (K : M2 → L2 → Prop) (hm : wp_X1_addLegger F L x1 x2 K) : Met l yX1_addLegger (wy yX1_addLegger cX1_addLegger 3 none) (rk 1 0 0) (pre vwCl D Z (KW Z a q (q 20) F L) sz [.ref (q 20), .int x1, .int x2]) (poV vwCl D Z (fun u : M2 × L2 => KW Z a q (q 20) u.1 u.2) (F, L) sz (fun (u : M2 × L2) => K u.1 u.2)) 0 0 (va_A (KW Z a q (q 20) F L) sz) := by
  refine rwv_of (wsF := (fun u : M2 × L2 => KW Z a q (q 20) u.1 u.2)) (u0 := (F, L)) (by decide +kernel) (Nat.le_of_ble_eq_true rfl) rfl ?_
  intro p e s m args below meth c Q A hC hN hsz hnm hT hK hret ls hl
  have hx := hC.1
  have hb := hC.2.1
  have hl : lv_has ls 3 [(0, .ref (q 20)), (1, .int x1), (2, .int x2)] := hl
  have hT : TS vwCl D (KW Z a q (q 20) F L) A s.heap s.heap [] := hT
  refine lv_aload_n hx hb dX1_addLegger_0 rfl (lv_at hl 0 rfl) ?_
  refine gKW_plan_11 hC hK hT.1 wq_323 dX1_addLegger_1 ?_
  refine lv_aload_n hx hb dX1_addLegger_4 rfl (lv_at hl 0 rfl) ?_
  refine gKW_plan_3 hC hK hT.1 wq_299 dX1_addLegger_5 ?_
  refine lv_iload_n hx hb dX1_addLegger_8 rfl (lv_at hl 1 rfl) ?_
  refine uKW_Pstrength hC hN hK hT wn_1047 (by decide) hl.1 (Nat.le_of_ble_eq_true rfl) ⟨Nat.le_refl _, Nat.le_refl _⟩ dX1_addLegger_9 (fun F_9 eF_9 H locs hT => ?_)
  have hm := hm F_9 eF_9
  refine lv_aload_n hx hb dX1_addLegger_12 rfl (lv_at hl 0 rfl) ?_
  refine gKW_plan_12 hC hK hT.1 wq_326 dX1_addLegger_13 ?_
  refine lv_aload_n hx hb dX1_addLegger_16 rfl (lv_at hl 0 rfl) ?_
  refine gKW_plan_3 hC hK hT.1 wq_299 dX1_addLegger_17 ?_
  refine lv_iload_n hx hb dX1_addLegger_20 rfl (lv_at hl 2 rfl) ?_
  refine uKW_Plungs hC hN hK hT wn_1047 (by decide) hl.1 (Nat.le_of_ble_eq_true rfl) ⟨Nat.le_refl _, Nat.le_refl _⟩ dX1_addLegger_21 (fun F_21 eF_21 H locs hT => ?_)
  have hm := hm F_21 eF_21
  refine lv_aload_n hx hb dX1_addLegger_24 rfl (lv_at hl 0 rfl) ?_
  refine lv_dup hx hb dX1_addLegger_25 rfl ?_
  refine gKW_plan_3 hC hK hT.1 wq_299 dX1_addLegger_26 ?_
  refine lv_iconst (v := 1) hx hb dX1_addLegger_29 (by decide) ?_
  refine lv_iadd hx hb dX1_addLegger_30 ?_
  refine pKW_plan_3 hC hK hT wq_299 dX1_addLegger_31 (fun F_31 eF_31 H locs hT => ?_)
  have hm := hm F_31 eF_31
  exact hret 34 _ _ _ (F_31, L) hm hT dX1_addLegger_34
section KX1_addLegger
variable {p : Program} {l : Launch} {e : Env} {s : State} {m : MethodId} {args : Array Value} {below : List Frame} {meth : Method} {c : Code} {H H0 : Heap} {locs : List Loc} {cells slots : Nat} {Q : State → Prop} {R : Room} {rn mcR msR : Nat}
variable {pc : Nat} {ls : Array Slot} {rest : List Value} {A : Nat → Prop} {D : va_G}
variable {cc : ByteArray} {nL index : Nat} {own host : String}
end KX1_addLegger
def wp_X1_addBoat (F : M2) (L : L2) (x1 : Int32) (x2 : Int32) (x3 : Int32) (x4 : Int32) (x5 : Int32) (K : M2 → L2 → Prop) : Prop := (∀ F_9 : M2, F_9 = up2 F 33 (putv (F 33) 8 (F 24 0) x1) → (∀ F_21 : M2, F_21 = up2 F_9 34 (putv (F_9 34) 8 (F_9 24 0) x2) → (∀ F_33 : M2, F_33 = up2 F_21 35 (putv (F_21 35) 8 (F_21 24 0) x3) → (∀ F_46 : M2, F_46 = up2 F_33 36 (putv (F_33 36) 8 (F_33 24 0) x4) → (∀ F_59 : M2, F_59 = up2 F_46 37 (putv (F_46 37) 8 (F_46 24 0) x5) → (∀ F_69 : M2, F_69 = up2 F_59 24 (fun _ => (F_59 24 0) + 1) → K F_69 L))))))
set_option maxRecDepth 100000 in
set_option maxHeartbeats 4000000 in
theorem c_X1_addBoat (l : Launch) (D : va_G) (Z : Nat → ClassId) (a q : Nat → Nat) (F : M2) (L : L2) (sz : Nat) (x1 : Int32) (x2 : Int32) (x3 : Int32) (x4 : Int32) (x5 : Int32) (K : M2 → L2 → Prop) (hm : wp_X1_addBoat F L x1 x2 x3 x4 x5 K) : Met l yX1_addBoat (wy yX1_addBoat cX1_addBoat 6 none) (rk 1 0 0) (pre vwCl D Z (KW Z a q (q 20) F L) sz [.ref (q 20), .int x1, .int x2, .int x3, .int x4, .int x5]) (poV vwCl D Z (fun u : M2 × L2 => KW Z a q (q 20) u.1 u.2) (F, L) sz (fun (u : M2 × L2) => K u.1 u.2)) 0 0 (va_A (KW Z a q (q 20) F L) sz) := by
  refine rwv_of (wsF := (fun u : M2 × L2 => KW Z a q (q 20) u.1 u.2)) (u0 := (F, L)) (by decide +kernel) (Nat.le_of_ble_eq_true rfl) rfl ?_
  intro p e s m args below meth c Q A hC hN hsz hnm hT hK hret ls hl
  have hx := hC.1
  have hb := hC.2.1
  have hl : lv_has ls 6 [(0, .ref (q 20)), (1, .int x1), (2, .int x2), (3, .int x3), (4, .int x4), (5, .int x5)] := hl
  have hT : TS vwCl D (KW Z a q (q 20) F L) A s.heap s.heap [] := hT
  refine lv_aload_n hx hb dX1_addBoat_0 rfl (lv_at hl 0 rfl) ?_
  refine gKW_plan_13 hC hK hT.1 wq_329 dX1_addBoat_1 ?_
  refine lv_aload_n hx hb dX1_addBoat_4 rfl (lv_at hl 0 rfl) ?_
  refine gKW_plan_4 hC hK hT.1 wq_303 dX1_addBoat_5 ?_
  refine lv_iload_n hx hb dX1_addBoat_8 rfl (lv_at hl 1 rfl) ?_
  refine uKW_Pweight hC hN hK hT wn_1047 (by decide) hl.1 (Nat.le_of_ble_eq_true rfl) ⟨Nat.le_refl _, Nat.le_refl _⟩ dX1_addBoat_9 (fun F_9 eF_9 H locs hT => ?_)
  have hm := hm F_9 eF_9
  refine lv_aload_n hx hb dX1_addBoat_12 rfl (lv_at hl 0 rfl) ?_
  refine gKW_plan_14 hC hK hT.1 wq_332 dX1_addBoat_13 ?_
  refine lv_aload_n hx hb dX1_addBoat_16 rfl (lv_at hl 0 rfl) ?_
  refine gKW_plan_4 hC hK hT.1 wq_303 dX1_addBoat_17 ?_
  refine lv_iload_n hx hb dX1_addBoat_20 rfl (lv_at hl 2 rfl) ?_
  refine uKW_Pside hC hN hK hT wn_1047 (by decide) hl.1 (Nat.le_of_ble_eq_true rfl) ⟨Nat.le_refl _, Nat.le_refl _⟩ dX1_addBoat_21 (fun F_21 eF_21 H locs hT => ?_)
  have hm := hm F_21 eF_21
  refine lv_aload_n hx hb dX1_addBoat_24 rfl (lv_at hl 0 rfl) ?_
  refine gKW_plan_15 hC hK hT.1 wq_334 dX1_addBoat_25 ?_
  refine lv_aload_n hx hb dX1_addBoat_28 rfl (lv_at hl 0 rfl) ?_
  refine gKW_plan_4 hC hK hT.1 wq_303 dX1_addBoat_29 ?_
  refine lv_iload_n hx hb dX1_addBoat_32 rfl (lv_at hl 3 rfl) ?_
  refine uKW_Pdue hC hN hK hT wn_1047 (by decide) hl.1 (Nat.le_of_ble_eq_true rfl) ⟨Nat.le_refl _, Nat.le_refl _⟩ dX1_addBoat_33 (fun F_33 eF_33 H locs hT => ?_)
  have hm := hm F_33 eF_33
  refine lv_aload_n hx hb dX1_addBoat_36 rfl (lv_at hl 0 rfl) ?_
  refine gKW_plan_16 hC hK hT.1 wq_336 dX1_addBoat_37 ?_
  refine lv_aload_n hx hb dX1_addBoat_40 rfl (lv_at hl 0 rfl) ?_
  refine gKW_plan_4 hC hK hT.1 wq_303 dX1_addBoat_41 ?_
  refine lv_iload hx hb dX1_addBoat_44 (lv_at hl 4 rfl) ?_
  refine uKW_PfirstLegger hC hN hK hT wn_1047 (by decide) hl.1 (Nat.le_of_ble_eq_true rfl) ⟨Nat.le_refl _, Nat.le_refl _⟩ dX1_addBoat_46 (fun F_46 eF_46 H locs hT => ?_)
  have hm := hm F_46 eF_46
  refine lv_aload_n hx hb dX1_addBoat_49 rfl (lv_at hl 0 rfl) ?_
  refine gKW_plan_17 hC hK hT.1 wq_339 dX1_addBoat_50 ?_
  refine lv_aload_n hx hb dX1_addBoat_53 rfl (lv_at hl 0 rfl) ?_
  refine gKW_plan_4 hC hK hT.1 wq_303 dX1_addBoat_54 ?_
  refine lv_iload hx hb dX1_addBoat_57 (lv_at hl 5 rfl) ?_
  refine uKW_PsecondLegger hC hN hK hT wn_1047 (by decide) hl.1 (Nat.le_of_ble_eq_true rfl) ⟨Nat.le_refl _, Nat.le_refl _⟩ dX1_addBoat_59 (fun F_59 eF_59 H locs hT => ?_)
  have hm := hm F_59 eF_59
  refine lv_aload_n hx hb dX1_addBoat_62 rfl (lv_at hl 0 rfl) ?_
  refine lv_dup hx hb dX1_addBoat_63 rfl ?_
  refine gKW_plan_4 hC hK hT.1 wq_303 dX1_addBoat_64 ?_
  refine lv_iconst (v := 1) hx hb dX1_addBoat_67 (by decide) ?_
  refine lv_iadd hx hb dX1_addBoat_68 ?_
  refine pKW_plan_4 hC hK hT wq_303 dX1_addBoat_69 (fun F_69 eF_69 H locs hT => ?_)
  have hm := hm F_69 eF_69
  exact hret 72 _ _ _ (F_69, L) hm hT dX1_addBoat_72
section KX1_addBoat
variable {p : Program} {l : Launch} {e : Env} {s : State} {m : MethodId} {args : Array Value} {below : List Frame} {meth : Method} {c : Code} {H H0 : Heap} {locs : List Loc} {cells slots : Nat} {Q : State → Prop} {R : Room} {rn mcR msR : Nat}
variable {pc : Nat} {ls : Array Slot} {rest : List Value} {A : Nat → Prop} {D : va_G}
variable {cc : ByteArray} {nL index : Nat} {own host : String}
end KX1_addBoat
def wp_X3_isLetter (F : M2) (L : L2) (x0 : Int32) (K : Int32 → Prop) : Prop := ((x0 < 97 → K 0) ∧ (¬ x0 < 97 → ((122 < x0 → K 0) ∧ (¬ 122 < x0 → K 1))))
set_option maxRecDepth 100000 in
set_option maxHeartbeats 4000000 in
theorem c_X3_isLetter (l : Launch) (D : va_G) (Z : Nat → ClassId) (a q : Nat → Nat) (rp : Nat) (F : M2) (L : L2) (sz : Nat) (x0 : Int32) (K : Int32 → Prop) (hm : wp_X3_isLetter F L x0 K) : Met l yX3_isLetter (wy yX3_isLetter cX3_isLetter 1 (some .boolean)) (rk 1 0 0) (pre vwCl D Z (KW Z a q rp F L) sz [.int x0]) (vp_Si K) 0 0 (fun _ => False) := by
  refine ro_of (ty := .boolean) (by decide +kernel) (Nat.le_of_ble_eq_true rfl) rfl ?_
  intro p e s m args below meth c Q hC hN hsz hP hD hK hret ls hl
  have hx := hC.1
  have hb := hC.2.1
  have hl : lv_has ls 1 [(0, .int x0)] := hl
  refine lv_iload_n hx hb dX3_isLetter_0 rfl (lv_at hl 0 rfl) ?_
  refine lv_bipush (v := 97) hx hb dX3_isLetter_1 (by decide) ?_
  refine lv_icmp_lt (tgt := 16) hx hb dX3_isLetter_3 (by decide) (fun c_3 => ?_) (fun c_3 => ?_)
  · have hm := hm.1 c_3
    refine lv_iconst (v := 0) hx hb dX3_isLetter_16 (by decide) ?_
    exact hret 17 _ _ hm rfl dX3_isLetter_17
  · have hm := hm.2 c_3
    refine lv_iload_n hx hb dX3_isLetter_6 rfl (lv_at hl 0 rfl) ?_
    refine lv_bipush (v := 122) hx hb dX3_isLetter_7 (by decide) ?_
    refine lv_icmp_gt (tgt := 16) hx hb dX3_isLetter_9 (by decide) (fun c_9 => ?_) (fun c_9 => ?_)
    · have hm := hm.1 c_9
      refine lv_iconst (v := 0) hx hb dX3_isLetter_16 (by decide) ?_
      exact hret 17 _ _ hm rfl dX3_isLetter_17
    · have hm := hm.2 c_9
      refine lv_iconst (v := 1) hx hb dX3_isLetter_12 (by decide) ?_
      refine lv_goto (tgt := 17) hx hb dX3_isLetter_13 (by decide) ?_
      exact hret 17 _ _ hm rfl dX3_isLetter_17
section KX3_isLetter
variable {p : Program} {l : Launch} {e : Env} {s : State} {m : MethodId} {args : Array Value} {below : List Frame} {meth : Method} {c : Code} {H H0 : Heap} {locs : List Loc} {cells slots : Nat} {Q : State → Prop} {R : Room} {rn mcR msR : Nat}
variable {pc : Nat} {ls : Array Slot} {rest : List Value} {A : Nat → Prop} {D : va_G}
variable {cc : ByteArray} {nL index : Nat} {own host : String}
theorem k_X3_isLetter {Z : Nat → ClassId} {a q : Nat → Nat} {rp : Nat} {F : M2} {L : L2} {x0 : Int32} {K : Int32 → Prop} (hC : CallFix p m c cc nL s args lw_g own) (hN : NW s) (hK : va_K D vwCl (tysG Z) s) (hP : va_P D vwCl (KW Z a q rp F L) H) (hD : va_D (fun _ => True) (KW Z a q rp F L)) (hm : wp_X3_isLetter F L x0 K) (hl : Cond.methodLink own index yX3_isLetter ∈ lw_g) (hlt : 1 < rn) (hsize : ls.size = nL) (hW : (rest.map fun v => v.category).sum ≤ 8) (hf : cells + 0 ≤ mcR ∧ slots + 0 ≤ msR) (hdg : decode cc pc = .ok (.invokestatic index, 3)) (kk : ∀ r : Int32, K r → W p l e (rk rn mcR msR) s m args below meth c H locs cells slots Q (F0 m (pc + 3) ls (.int r :: rest))) : W p l e (rk rn mcR msR) s m args below meth c H locs cells slots Q (F0 m pc ls (.int x0 :: rest)) :=
  ro_go (runS (As := [.int x0]) hC hN (c_X3_isLetter l D Z a q rp F L H.size x0 K hm) mi_X3_isLetter hl wq_168 hlt hP hD hK rfl hsize rfl hW hdg hf) kk
end KX3_isLetter
def wp_X3_isDigit (F : M2) (L : L2) (x0 : Int32) (K : Int32 → Prop) : Prop := ((x0 < 48 → K 0) ∧ (¬ x0 < 48 → ((57 < x0 → K 0) ∧ (¬ 57 < x0 → K 1))))
set_option maxRecDepth 100000 in
set_option maxHeartbeats 4000000 in
theorem c_X3_isDigit (l : Launch) (D : va_G) (Z : Nat → ClassId) (a q : Nat → Nat) (rp : Nat) (F : M2) (L : L2) (sz : Nat) (x0 : Int32) (K : Int32 → Prop) (hm : wp_X3_isDigit F L x0 K) : Met l yX3_isDigit (wy yX3_isDigit cX3_isDigit 1 (some .boolean)) (rk 1 0 0) (pre vwCl D Z (KW Z a q rp F L) sz [.int x0]) (vp_Si K) 0 0 (fun _ => False) := by
  refine ro_of (ty := .boolean) (by decide +kernel) (Nat.le_of_ble_eq_true rfl) rfl ?_
  intro p e s m args below meth c Q hC hN hsz hP hD hK hret ls hl
  have hx := hC.1
  have hb := hC.2.1
  have hl : lv_has ls 1 [(0, .int x0)] := hl
  refine lv_iload_n hx hb dX3_isDigit_0 rfl (lv_at hl 0 rfl) ?_
  refine lv_bipush (v := 48) hx hb dX3_isDigit_1 (by decide) ?_
  refine lv_icmp_lt (tgt := 16) hx hb dX3_isDigit_3 (by decide) (fun c_3 => ?_) (fun c_3 => ?_)
  · have hm := hm.1 c_3
    refine lv_iconst (v := 0) hx hb dX3_isDigit_16 (by decide) ?_
    exact hret 17 _ _ hm rfl dX3_isDigit_17
  · have hm := hm.2 c_3
    refine lv_iload_n hx hb dX3_isDigit_6 rfl (lv_at hl 0 rfl) ?_
    refine lv_bipush (v := 57) hx hb dX3_isDigit_7 (by decide) ?_
    refine lv_icmp_gt (tgt := 16) hx hb dX3_isDigit_9 (by decide) (fun c_9 => ?_) (fun c_9 => ?_)
    · have hm := hm.1 c_9
      refine lv_iconst (v := 0) hx hb dX3_isDigit_16 (by decide) ?_
      exact hret 17 _ _ hm rfl dX3_isDigit_17
    · have hm := hm.2 c_9
      refine lv_iconst (v := 1) hx hb dX3_isDigit_12 (by decide) ?_
      refine lv_goto (tgt := 17) hx hb dX3_isDigit_13 (by decide) ?_
      exact hret 17 _ _ hm rfl dX3_isDigit_17
section KX3_isDigit
variable {p : Program} {l : Launch} {e : Env} {s : State} {m : MethodId} {args : Array Value} {below : List Frame} {meth : Method} {c : Code} {H H0 : Heap} {locs : List Loc} {cells slots : Nat} {Q : State → Prop} {R : Room} {rn mcR msR : Nat}
variable {pc : Nat} {ls : Array Slot} {rest : List Value} {A : Nat → Prop} {D : va_G}
variable {cc : ByteArray} {nL index : Nat} {own host : String}
theorem k_X3_isDigit {Z : Nat → ClassId} {a q : Nat → Nat} {rp : Nat} {F : M2} {L : L2} {x0 : Int32} {K : Int32 → Prop} (hC : CallFix p m c cc nL s args lw_g own) (hN : NW s) (hK : va_K D vwCl (tysG Z) s) (hP : va_P D vwCl (KW Z a q rp F L) H) (hD : va_D (fun _ => True) (KW Z a q rp F L)) (hm : wp_X3_isDigit F L x0 K) (hl : Cond.methodLink own index yX3_isDigit ∈ lw_g) (hlt : 1 < rn) (hsize : ls.size = nL) (hW : (rest.map fun v => v.category).sum ≤ 8) (hf : cells + 0 ≤ mcR ∧ slots + 0 ≤ msR) (hdg : decode cc pc = .ok (.invokestatic index, 3)) (kk : ∀ r : Int32, K r → W p l e (rk rn mcR msR) s m args below meth c H locs cells slots Q (F0 m (pc + 3) ls (.int r :: rest))) : W p l e (rk rn mcR msR) s m args below meth c H locs cells slots Q (F0 m pc ls (.int x0 :: rest)) :=
  ro_go (runS (As := [.int x0]) hC hN (c_X3_isDigit l D Z a q rp F L H.size x0 K hm) mi_X3_isDigit hl wq_171 hlt hP hD hK rfl hsize rfl hW hdg hf) kk
end KX3_isDigit
def wp_X3_signOfWord (F : M2) (L : L2) (x0 : Int32) (K : Int32 → Prop) : Prop := wp_X3_isLetter F L x0 (fun r_1 => ((r_1 = 0 → wp_X3_isDigit F L x0 (fun r_15 => ((r_15 = 0 → K 0) ∧ (¬ r_15 = 0 → K ((27 + x0) - 48))))) ∧ (¬ r_1 = 0 → K ((1 + x0) - 97))))
set_option maxRecDepth 100000 in
set_option maxHeartbeats 4000000 in
theorem c_X3_signOfWord (l : Launch) (D : va_G) (Z : Nat → ClassId) (a q : Nat → Nat) (rp : Nat) (F : M2) (L : L2) (sz : Nat) (x0 : Int32) (K : Int32 → Prop) (hm : wp_X3_signOfWord F L x0 K) : Met l yX3_signOfWord (wy yX3_signOfWord cX3_signOfWord 1 (some .int)) (rk 2 0 0) (pre vwCl D Z (KW Z a q rp F L) sz [.int x0]) (vp_Si K) 0 0 (fun _ => False) := by
  refine ro_of (ty := .int) (by decide +kernel) (Nat.le_of_ble_eq_true rfl) rfl ?_
  intro p e s m args below meth c Q hC hN hsz hP hD hK hret ls hl
  have hx := hC.1
  have hb := hC.2.1
  have hl : lv_has ls 1 [(0, .int x0)] := hl
  refine lv_iload_n hx hb dX3_signOfWord_0 rfl (lv_at hl 0 rfl) ?_
  refine k_X3_isLetter hC hN hK hP hD hm wq_167 (by decide) hl.1 (Nat.le_of_ble_eq_true rfl) ⟨Nat.le_refl _, Nat.le_refl _⟩ dX3_signOfWord_1 (fun r_1 hm => ?_)
  refine lv_if_eq (tgt := 14) hx hb dX3_signOfWord_4 (by decide) (fun c_4 => ?_) (fun c_4 => ?_)
  · have hm := hm.1 c_4
    refine lv_iload_n hx hb dX3_signOfWord_14 rfl (lv_at hl 0 rfl) ?_
    refine k_X3_isDigit hC hN hK hP hD hm wq_170 (by decide) hl.1 (Nat.le_of_ble_eq_true rfl) ⟨Nat.le_refl _, Nat.le_refl _⟩ dX3_signOfWord_15 (fun r_15 hm => ?_)
    refine lv_if_eq (tgt := 31) hx hb dX3_signOfWord_18 (by decide) (fun c_18 => ?_) (fun c_18 => ?_)
    · have hm := hm.1 c_18
      refine lv_iconst (v := 0) hx hb dX3_signOfWord_31 (by decide) ?_
      exact hret 32 _ _ hm rfl dX3_signOfWord_32
    · have hm := hm.2 c_18
      refine lv_bipush (v := 27) hx hb dX3_signOfWord_21 (by decide) ?_
      refine lv_iload_n hx hb dX3_signOfWord_23 rfl (lv_at hl 0 rfl) ?_
      refine lv_iadd hx hb dX3_signOfWord_24 ?_
      refine lv_bipush (v := 48) hx hb dX3_signOfWord_25 (by decide) ?_
      refine lv_isub hx hb dX3_signOfWord_27 ?_
      refine lv_goto (tgt := 32) hx hb dX3_signOfWord_28 (by decide) ?_
      exact hret 32 _ _ hm rfl dX3_signOfWord_32
  · have hm := hm.2 c_4
    refine lv_iconst (v := 1) hx hb dX3_signOfWord_7 (by decide) ?_
    refine lv_iload_n hx hb dX3_signOfWord_8 rfl (lv_at hl 0 rfl) ?_
    refine lv_iadd hx hb dX3_signOfWord_9 ?_
    refine lv_bipush (v := 97) hx hb dX3_signOfWord_10 (by decide) ?_
    refine lv_isub hx hb dX3_signOfWord_12 ?_
    exact hret 13 _ _ hm rfl dX3_signOfWord_13
section KX3_signOfWord
variable {p : Program} {l : Launch} {e : Env} {s : State} {m : MethodId} {args : Array Value} {below : List Frame} {meth : Method} {c : Code} {H H0 : Heap} {locs : List Loc} {cells slots : Nat} {Q : State → Prop} {R : Room} {rn mcR msR : Nat}
variable {pc : Nat} {ls : Array Slot} {rest : List Value} {A : Nat → Prop} {D : va_G}
variable {cc : ByteArray} {nL index : Nat} {own host : String}
theorem k_X3_signOfWord {Z : Nat → ClassId} {a q : Nat → Nat} {rp : Nat} {F : M2} {L : L2} {x0 : Int32} {K : Int32 → Prop} (hC : CallFix p m c cc nL s args lw_g own) (hN : NW s) (hK : va_K D vwCl (tysG Z) s) (hP : va_P D vwCl (KW Z a q rp F L) H) (hD : va_D (fun _ => True) (KW Z a q rp F L)) (hm : wp_X3_signOfWord F L x0 K) (hl : Cond.methodLink own index yX3_signOfWord ∈ lw_g) (hlt : 2 < rn) (hsize : ls.size = nL) (hW : (rest.map fun v => v.category).sum ≤ 8) (hf : cells + 0 ≤ mcR ∧ slots + 0 ≤ msR) (hdg : decode cc pc = .ok (.invokestatic index, 3)) (kk : ∀ r : Int32, K r → W p l e (rk rn mcR msR) s m args below meth c H locs cells slots Q (F0 m (pc + 3) ls (.int r :: rest))) : W p l e (rk rn mcR msR) s m args below meth c H locs cells slots Q (F0 m pc ls (.int x0 :: rest)) :=
  ro_go (runS (As := [.int x0]) hC hN (c_X3_signOfWord l D Z a q rp F L H.size x0 K hm) mi_X3_signOfWord hl wq_165 hlt hP hD hK rfl hsize rfl hW hdg hf) kk
end KX3_signOfWord
def wp_X3_byteAt (F : M2) (L : L2) (x1 : Int32) (K : Int32 → Prop) : Prop := ((x1 < 0 → K ((-1))) ∧ (¬ x1 < 0 → (((F 78 0) ≤ x1 → K ((-1))) ∧ (¬ (F 78 0) ≤ x1 → ((x1 < (Int32.ofNat 2000) → (inb x1 2000 ∧ K ((F 80 x1.toInt.toNat) &&& 255))) ∧ (¬ x1 < (Int32.ofNat 2000) → K ((-1))))))))
set_option maxRecDepth 100000 in
set_option maxHeartbeats 4000000 in
theorem c_X3_byteAt (l : Launch) (D : va_G) (Z : Nat → ClassId) (a q : Nat → Nat) (rp : Nat) (F : M2) (L : L2) (sz : Nat) (x1 : Int32) (K : Int32 → Prop) (hm : wp_X3_byteAt F L x1 K) : Met l yX3_byteAt (wy yX3_byteAt cX3_byteAt 2 (some .int)) (rk 1 0 0) (pre vwCl D Z (KW Z a q rp F L) sz [.ref (a 70), .int x1]) (vp_Si K) 0 0 (fun _ => False) := by
  refine ro_of (ty := .int) (by decide +kernel) (Nat.le_of_ble_eq_true rfl) rfl ?_
  intro p e s m args below meth c Q hC hN hsz hP hD hK hret ls hl
  have hx := hC.1
  have hb := hC.2.1
  have hl : lv_has ls 2 [(0, .ref (a 70)), (1, .int x1)] := hl
  refine lv_iload_n hx hb dX3_byteAt_0 rfl (lv_at hl 1 rfl) ?_
  refine lv_if_lt (tgt := 21) hx hb dX3_byteAt_1 (by decide) (fun c_1 => ?_) (fun c_1 => ?_)
  · have hm := hm.1 c_1
    refine lv_iconst (v := (-1)) hx hb dX3_byteAt_21 (by decide) ?_
    exact hret 22 _ _ hm rfl dX3_byteAt_22
  · have hm := hm.2 c_1
    refine lv_iload_n hx hb dX3_byteAt_4 rfl (lv_at hl 1 rfl) ?_
    refine lv_aload_n hx hb dX3_byteAt_5 rfl (lv_at hl 0 rfl) ?_
    refine gKW_tok_7 hC hK hP wq_220 dX3_byteAt_6 ?_
    refine lv_icmp_ge (tgt := 21) hx hb dX3_byteAt_9 (by decide) (fun c_9 => ?_) (fun c_9 => ?_)
    · have hm := hm.1 c_9
      refine lv_iconst (v := (-1)) hx hb dX3_byteAt_21 (by decide) ?_
      exact hret 22 _ _ hm rfl dX3_byteAt_22
    · have hm := hm.2 c_9
      refine lv_iload_n hx hb dX3_byteAt_12 rfl (lv_at hl 1 rfl) ?_
      refine lv_aload_n hx hb dX3_byteAt_13 rfl (lv_at hl 0 rfl) ?_
      refine gKW_tok_6 hC hK hP wq_219 dX3_byteAt_14 ?_
      refine w_alen (q0 := 11) (t0 := 2) hC hK hP rfl rfl dX3_byteAt_17 ?_
      refine lv_icmp_lt (tgt := 23) hx hb dX3_byteAt_18 (by decide) (fun c_18 => ?_) (fun c_18 => ?_)
      · have hm := hm.1 c_18
        refine lv_aload_n hx hb dX3_byteAt_23 rfl (lv_at hl 0 rfl) ?_
        refine gKW_tok_6 hC hK hP wq_219 dX3_byteAt_24 ?_
        refine lv_iload_n hx hb dX3_byteAt_27 rfl (lv_at hl 1 rfl) ?_
        refine w_bald (q0 := 11) hC hK hP rfl hm.1 dX3_byteAt_28 ?_
        have hm := hm.2
        refine lv_sipush (v := 255) hx hb dX3_byteAt_29 (by decide) ?_
        refine lv_iand hx hb dX3_byteAt_32 ?_
        exact hret 33 _ _ hm rfl dX3_byteAt_33
      · have hm := hm.2 c_18
        refine lv_iconst (v := (-1)) hx hb dX3_byteAt_21 (by decide) ?_
        exact hret 22 _ _ hm rfl dX3_byteAt_22
section KX3_byteAt
variable {p : Program} {l : Launch} {e : Env} {s : State} {m : MethodId} {args : Array Value} {below : List Frame} {meth : Method} {c : Code} {H H0 : Heap} {locs : List Loc} {cells slots : Nat} {Q : State → Prop} {R : Room} {rn mcR msR : Nat}
variable {pc : Nat} {ls : Array Slot} {rest : List Value} {A : Nat → Prop} {D : va_G}
variable {cc : ByteArray} {nL index : Nat} {own host : String}
theorem k_X3_byteAt {Z : Nat → ClassId} {a q : Nat → Nat} {rp : Nat} {F : M2} {L : L2} {x1 : Int32} {K : Int32 → Prop} (hC : CallFix p m c cc nL s args lw_g own) (hN : NW s) (hK : va_K D vwCl (tysG Z) s) (hP : va_P D vwCl (KW Z a q rp F L) H) (hD : va_D (fun _ => True) (KW Z a q rp F L)) (hm : wp_X3_byteAt F L x1 K) (hl : Cond.methodLink own index yX3_byteAt ∈ lw_g) (hlt : 1 < rn) (hsize : ls.size = nL) (hW : (rest.map fun v => v.category).sum ≤ 8) (hf : cells + 0 ≤ mcR ∧ slots + 0 ≤ msR) (hdg : decode cc pc = .ok (.invokevirtual index, 3)) (kk : ∀ r : Int32, K r → W p l e (rk rn mcR msR) s m args below meth c H locs cells slots Q (F0 m (pc + 3) ls (.int r :: rest))) : W p l e (rk rn mcR msR) s m args below meth c H locs cells slots Q (F0 m pc ls (.int x1 :: .ref (a 70) :: rest)) :=
  ro_go (runV (As := [.int x1]) hC hN (c_X3_byteAt l D Z a q rp F L H.size x1 K hm) mi_X3_byteAt hl wq_957 wq_30 hlt hP hD hK (q0 := 5) rfl rfl rfl hsize rfl hW hdg hf) kk
end KX3_byteAt
def wp_X3_kindOfSymbol (F : M2) (L : L2) (x0 : Int32) (K : Int32 → Prop) : Prop := ((x0 = 40 → K 28) ∧ (x0 = 41 → K 29) ∧ (x0 = 42 → K 17) ∧ (x0 = 43 → K 15) ∧ (x0 = 44 → K 33) ∧ (x0 = 45 → K 16) ∧ (x0 = 47 → K 18) ∧ (x0 = 59 → K 32) ∧ (x0 = 60 → K 19) ∧ (x0 = 61 → K 21) ∧ (x0 = 62 → K 20) ∧ (x0 = 91 → K 30) ∧ (x0 = 93 → K 31) ∧ (¬ x0 = 40 → ¬ x0 = 41 → ¬ x0 = 42 → ¬ x0 = 43 → ¬ x0 = 44 → ¬ x0 = 45 → ¬ x0 = 47 → ¬ x0 = 59 → ¬ x0 = 60 → ¬ x0 = 61 → ¬ x0 = 62 → ¬ x0 = 91 → ¬ x0 = 93 → K 1))
set_option maxRecDepth 100000 in
set_option maxHeartbeats 4000000 in
theorem c_X3_kindOfSymbol (l : Launch) (D : va_G) (Z : Nat → ClassId) (a q : Nat → Nat) (rp : Nat) (F : M2) (L : L2) (sz : Nat) (x0 : Int32) (K : Int32 → Prop) (hm : wp_X3_kindOfSymbol F L x0 K) : Met l yX3_kindOfSymbol (wy yX3_kindOfSymbol cX3_kindOfSymbol 1 (some .int)) (rk 1 0 0) (pre vwCl D Z (KW Z a q rp F L) sz [.int x0]) (vp_Si K) 0 0 (fun _ => False) := by
  refine ro_of (ty := .int) (by decide +kernel) (Nat.le_of_ble_eq_true rfl) rfl ?_
  intro p e s m args below meth c Q hC hN hsz hP hD hK hret ls hl
  have hx := hC.1
  have hb := hC.2.1
  have hl : lv_has ls 1 [(0, .int x0)] := hl
  refine lv_iload_n hx hb dX3_kindOfSymbol_0 rfl (lv_at hl 0 rfl) ?_
  by_cases s1_0 : x0 = 40
  · have hm := hm.1 s1_0
    refine w_swi (off := 231) (tgt := 232) 40 hx hb dX3_kindOfSymbol_1 s1_0 (by decide) (by decide) (by decide) (by decide) ?_
    refine lv_bipush (v := 28) hx hb dX3_kindOfSymbol_232 (by decide) ?_
    exact hret 234 _ _ hm rfl dX3_kindOfSymbol_234
  have hm := hm.2
  by_cases s1_1 : x0 = 41
  · have hm := hm.1 s1_1
    refine w_swi (off := 234) (tgt := 235) 41 hx hb dX3_kindOfSymbol_1 s1_1 (by decide) (by decide) (by decide) (by decide) ?_
    refine lv_bipush (v := 29) hx hb dX3_kindOfSymbol_235 (by decide) ?_
    exact hret 237 _ _ hm rfl dX3_kindOfSymbol_237
  have hm := hm.2
  by_cases s1_2 : x0 = 42
  · have hm := hm.1 s1_2
    refine w_swi (off := 255) (tgt := 256) 42 hx hb dX3_kindOfSymbol_1 s1_2 (by decide) (by decide) (by decide) (by decide) ?_
    refine lv_bipush (v := 17) hx hb dX3_kindOfSymbol_256 (by decide) ?_
    exact hret 258 _ _ hm rfl dX3_kindOfSymbol_258
  have hm := hm.2
  by_cases s1_3 : x0 = 43
  · have hm := hm.1 s1_3
    refine w_swi (off := 249) (tgt := 250) 43 hx hb dX3_kindOfSymbol_1 s1_3 (by decide) (by decide) (by decide) (by decide) ?_
    refine lv_bipush (v := 15) hx hb dX3_kindOfSymbol_250 (by decide) ?_
    exact hret 252 _ _ hm rfl dX3_kindOfSymbol_252
  have hm := hm.2
  by_cases s1_4 : x0 = 44
  · have hm := hm.1 s1_4
    refine w_swi (off := 246) (tgt := 247) 44 hx hb dX3_kindOfSymbol_1 s1_4 (by decide) (by decide) (by decide) (by decide) ?_
    refine lv_bipush (v := 33) hx hb dX3_kindOfSymbol_247 (by decide) ?_
    exact hret 249 _ _ hm rfl dX3_kindOfSymbol_249
  have hm := hm.2
  by_cases s1_5 : x0 = 45
  · have hm := hm.1 s1_5
    refine w_swi (off := 252) (tgt := 253) 45 hx hb dX3_kindOfSymbol_1 s1_5 (by decide) (by decide) (by decide) (by decide) ?_
    refine lv_bipush (v := 16) hx hb dX3_kindOfSymbol_253 (by decide) ?_
    exact hret 255 _ _ hm rfl dX3_kindOfSymbol_255
  have hm := hm.2
  by_cases s1_6 : x0 = 47
  · have hm := hm.1 s1_6
    refine w_swi (off := 258) (tgt := 259) 47 hx hb dX3_kindOfSymbol_1 s1_6 (by decide) (by decide) (by decide) (by decide) ?_
    refine lv_bipush (v := 18) hx hb dX3_kindOfSymbol_259 (by decide) ?_
    exact hret 261 _ _ hm rfl dX3_kindOfSymbol_261
  have hm := hm.2
  by_cases s1_7 : x0 = 59
  · have hm := hm.1 s1_7
    refine w_swi (off := 243) (tgt := 244) 59 hx hb dX3_kindOfSymbol_1 s1_7 (by decide) (by decide) (by decide) (by decide) ?_
    refine lv_bipush (v := 32) hx hb dX3_kindOfSymbol_244 (by decide) ?_
    exact hret 246 _ _ hm rfl dX3_kindOfSymbol_246
  have hm := hm.2
  by_cases s1_8 : x0 = 60
  · have hm := hm.1 s1_8
    refine w_swi (off := 261) (tgt := 262) 60 hx hb dX3_kindOfSymbol_1 s1_8 (by decide) (by decide) (by decide) (by decide) ?_
    refine lv_bipush (v := 19) hx hb dX3_kindOfSymbol_262 (by decide) ?_
    exact hret 264 _ _ hm rfl dX3_kindOfSymbol_264
  have hm := hm.2
  by_cases s1_9 : x0 = 61
  · have hm := hm.1 s1_9
    refine w_swi (off := 267) (tgt := 268) 61 hx hb dX3_kindOfSymbol_1 s1_9 (by decide) (by decide) (by decide) (by decide) ?_
    refine lv_bipush (v := 21) hx hb dX3_kindOfSymbol_268 (by decide) ?_
    exact hret 270 _ _ hm rfl dX3_kindOfSymbol_270
  have hm := hm.2
  by_cases s1_10 : x0 = 62
  · have hm := hm.1 s1_10
    refine w_swi (off := 264) (tgt := 265) 62 hx hb dX3_kindOfSymbol_1 s1_10 (by decide) (by decide) (by decide) (by decide) ?_
    refine lv_bipush (v := 20) hx hb dX3_kindOfSymbol_265 (by decide) ?_
    exact hret 267 _ _ hm rfl dX3_kindOfSymbol_267
  have hm := hm.2
  by_cases s1_11 : x0 = 91
  · have hm := hm.1 s1_11
    refine w_swi (off := 237) (tgt := 238) 91 hx hb dX3_kindOfSymbol_1 s1_11 (by decide) (by decide) (by decide) (by decide) ?_
    refine lv_bipush (v := 30) hx hb dX3_kindOfSymbol_238 (by decide) ?_
    exact hret 240 _ _ hm rfl dX3_kindOfSymbol_240
  have hm := hm.2
  by_cases s1_12 : x0 = 93
  · have hm := hm.1 s1_12
    refine w_swi (off := 240) (tgt := 241) 93 hx hb dX3_kindOfSymbol_1 s1_12 (by decide) (by decide) (by decide) (by decide) ?_
    refine lv_bipush (v := 31) hx hb dX3_kindOfSymbol_241 (by decide) ?_
    exact hret 243 _ _ hm rfl dX3_kindOfSymbol_243
  have hm := hm.2
  have hm := hm s1_0 s1_1 s1_2 s1_3 s1_4 s1_5 s1_6 s1_7 s1_8 s1_9 s1_10 s1_11 s1_12
  refine w_swd (tgt := 271) [40, 41, 42, 43, 44, 45, 47, 59, 60, 61, 62, 91, 93] hx hb dX3_kindOfSymbol_1 (by decide) (by decide) (fun k hk => ?_) (by decide) ?_
  · simp only [List.mem_cons, List.not_mem_nil, or_false] at hk
    rcases hk with rfl | rfl | rfl | rfl | rfl | rfl | rfl | rfl | rfl | rfl | rfl | rfl | rfl
    · exact eq_toInt s1_0
    · exact eq_toInt s1_1
    · exact eq_toInt s1_2
    · exact eq_toInt s1_3
    · exact eq_toInt s1_4
    · exact eq_toInt s1_5
    · exact eq_toInt s1_6
    · exact eq_toInt s1_7
    · exact eq_toInt s1_8
    · exact eq_toInt s1_9
    · exact eq_toInt s1_10
    · exact eq_toInt s1_11
    · exact eq_toInt s1_12
  · refine lv_iconst (v := 1) hx hb dX3_kindOfSymbol_271 (by decide) ?_
    exact hret 272 _ _ hm rfl dX3_kindOfSymbol_272
section KX3_kindOfSymbol
variable {p : Program} {l : Launch} {e : Env} {s : State} {m : MethodId} {args : Array Value} {below : List Frame} {meth : Method} {c : Code} {H H0 : Heap} {locs : List Loc} {cells slots : Nat} {Q : State → Prop} {R : Room} {rn mcR msR : Nat}
variable {pc : Nat} {ls : Array Slot} {rest : List Value} {A : Nat → Prop} {D : va_G}
variable {cc : ByteArray} {nL index : Nat} {own host : String}
theorem k_X3_kindOfSymbol {Z : Nat → ClassId} {a q : Nat → Nat} {rp : Nat} {F : M2} {L : L2} {x0 : Int32} {K : Int32 → Prop} (hC : CallFix p m c cc nL s args lw_g own) (hN : NW s) (hK : va_K D vwCl (tysG Z) s) (hP : va_P D vwCl (KW Z a q rp F L) H) (hD : va_D (fun _ => True) (KW Z a q rp F L)) (hm : wp_X3_kindOfSymbol F L x0 K) (hl : Cond.methodLink own index yX3_kindOfSymbol ∈ lw_g) (hlt : 1 < rn) (hsize : ls.size = nL) (hW : (rest.map fun v => v.category).sum ≤ 8) (hf : cells + 0 ≤ mcR ∧ slots + 0 ≤ msR) (hdg : decode cc pc = .ok (.invokestatic index, 3)) (kk : ∀ r : Int32, K r → W p l e (rk rn mcR msR) s m args below meth c H locs cells slots Q (F0 m (pc + 3) ls (.int r :: rest))) : W p l e (rk rn mcR msR) s m args below meth c H locs cells slots Q (F0 m pc ls (.int x0 :: rest)) :=
  ro_go (runS (As := [.int x0]) hC hN (c_X3_kindOfSymbol l D Z a q rp F L H.size x0 K hm) mi_X3_kindOfSymbol hl wq_989 hlt hP hD hK rfl hsize rfl hW hdg hf) kk
end KX3_kindOfSymbol
def wl_X3_behindBlanks_2 (F : M2) (L : L2) (K : Int32 → Prop) : Nat → Int32 → Prop
  | 0, _ => False
  | n + 1, v2 => (((F 78 0) ≤ v2 → K (F 78 0)) ∧ (¬ (F 78 0) ≤ v2 → wp_X3_byteAt F L v2 (fun r_12 => ((r_12 = 32 → (∀ v2_30 : Int32, v2_30 = v2 + 1 → wl_X3_behindBlanks_2 F L K n v2_30)) ∧ (¬ r_12 = 32 → ((r_12 = 10 → (∀ v2_30 : Int32, v2_30 = v2 + 1 → wl_X3_behindBlanks_2 F L K n v2_30)) ∧ (¬ r_12 = 10 → K v2)))))))
def wp_X3_behindBlanks (F : M2) (L : L2) (x1 : Int32) (K : Int32 → Prop) : Prop := wl_X3_behindBlanks_2 F L K fK x1
set_option maxRecDepth 100000 in
set_option maxHeartbeats 4000000 in
theorem c_X3_behindBlanks (l : Launch) (D : va_G) (Z : Nat → ClassId) (a q : Nat → Nat) (rp : Nat) (F : M2) (L : L2) (sz : Nat) (x1 : Int32) (K : Int32 → Prop) (hm : wp_X3_behindBlanks F L x1 K) : Met l yX3_behindBlanks (wy yX3_behindBlanks cX3_behindBlanks 4 (some .int)) (rk 2 0 0) (pre vwCl D Z (KW Z a q rp F L) sz [.ref (a 70), .int x1]) (vp_Si K) 0 0 (fun _ => False) := by
  refine ro_of (ty := .int) (by decide +kernel) (Nat.le_of_ble_eq_true rfl) rfl ?_
  intro p e s m args below meth c Q hC hN hsz hP hD hK hret ls hl
  have hx := hC.1
  have hb := hC.2.1
  have hl : lv_has ls 4 [(0, .ref (a 70)), (1, .int x1)] := hl
  have L2 : ∀ (n2 : Nat), ∀ (v2 : Int32) (ls : Array Slot), wl_X3_behindBlanks_2 F L K n2 v2 → lv_has ls 4 [(0, .ref (a 70)), (2, .int v2)] → W p l e (rk 2 0 0) s m args below meth c s.heap [] 0 0 Q (F0 m 2 ls []) := by
    intro n2
    induction n2 with
    | zero =>
      intro v2 ls hm hl
      exact False.elim hm
    | succ n2 ih2 =>
      intro v2 ls hm hl
      refine lv_iload_n hx hb dX3_behindBlanks_2 rfl (lv_at hl 1 rfl) ?_
      refine lv_aload_n hx hb dX3_behindBlanks_3 rfl (lv_at hl 0 rfl) ?_
      refine gKW_tok_7 hC hK hP wq_220 dX3_behindBlanks_4 ?_
      refine lv_icmp_ge (tgt := 36) hx hb dX3_behindBlanks_7 (by decide) (fun c_7 => ?_) (fun c_7 => ?_)
      · have hm := hm.1 c_7
        refine lv_aload_n hx hb dX3_behindBlanks_36 rfl (lv_at hl 0 rfl) ?_
        refine gKW_tok_7 hC hK hP wq_220 dX3_behindBlanks_37 ?_
        exact hret 40 _ _ hm rfl dX3_behindBlanks_40
      · have hm := hm.2 c_7
        refine lv_aload_n hx hb dX3_behindBlanks_10 rfl (lv_at hl 0 rfl) ?_
        refine lv_iload_n hx hb dX3_behindBlanks_11 rfl (lv_at hl 1 rfl) ?_
        refine k_X3_byteAt hC hN hK hP hD hm wq_955 (by decide) hl.1 (Nat.le_of_ble_eq_true rfl) ⟨Nat.le_refl _, Nat.le_refl _⟩ dX3_behindBlanks_12 (fun r_12 hm => ?_)
        refine lv_istore_n (lv' := [(3, .int r_12), (0, .ref (a 70)), (2, .int v2)]) hx hb dX3_behindBlanks_15 rfl hl (by decide) rfl (fun ls hl => ?_)
        refine lv_iload_n hx hb dX3_behindBlanks_16 rfl (lv_at hl 0 rfl) ?_
        refine lv_bipush (v := 32) hx hb dX3_behindBlanks_17 (by decide) ?_
        refine lv_icmp_eq (tgt := 30) hx hb dX3_behindBlanks_19 (by decide) (fun c_19 => ?_) (fun c_19 => ?_)
        · have hm := hm.1 c_19
          obtain ⟨v2_30, ev2_30⟩ : ∃ y : Int32, y = v2 + 1 := ⟨_, rfl⟩
          have hm := hm v2_30 ev2_30
          refine lv_iinc (v := v2_30) (lv' := [(2, .int v2_30), (3, .int r_12), (0, .ref (a 70))]) hx hb dX3_behindBlanks_30 hl (k := 2) rfl (by rw [ev2_30]; rfl) (by decide) rfl (fun ls hl => ?_)
          refine lv_goto (tgt := 2) hx hb dX3_behindBlanks_33 (by decide) ?_
          exact ih2 _ _ hm (lv_sub hl [2, 0] rfl)
        · have hm := hm.2 c_19
          refine lv_iload_n hx hb dX3_behindBlanks_22 rfl (lv_at hl 0 rfl) ?_
          refine lv_bipush (v := 10) hx hb dX3_behindBlanks_23 (by decide) ?_
          refine lv_icmp_eq (tgt := 30) hx hb dX3_behindBlanks_25 (by decide) (fun c_25 => ?_) (fun c_25 => ?_)
          · have hm := hm.1 c_25
            obtain ⟨v2_30, ev2_30⟩ : ∃ y : Int32, y = v2 + 1 := ⟨_, rfl⟩
            have hm := hm v2_30 ev2_30
            refine lv_iinc (v := v2_30) (lv' := [(2, .int v2_30), (3, .int r_12), (0, .ref (a 70))]) hx hb dX3_behindBlanks_30 hl (k := 2) rfl (by rw [ev2_30]; rfl) (by decide) rfl (fun ls hl => ?_)
            refine lv_goto (tgt := 2) hx hb dX3_behindBlanks_33 (by decide) ?_
            exact ih2 _ _ hm (lv_sub hl [2, 0] rfl)
          · have hm := hm.2 c_25
            refine lv_iload_n hx hb dX3_behindBlanks_28 rfl (lv_at hl 2 rfl) ?_
            exact hret 29 _ _ hm rfl dX3_behindBlanks_29
  refine lv_iload_n hx hb dX3_behindBlanks_0 rfl (lv_at hl 1 rfl) ?_
  refine lv_istore_n (lv' := [(2, .int x1), (0, .ref (a 70)), (1, .int x1)]) hx hb dX3_behindBlanks_1 rfl hl (by decide) rfl (fun ls hl => ?_)
  exact L2 _ _ _ hm (lv_sub hl [1, 0] rfl)
section KX3_behindBlanks
variable {p : Program} {l : Launch} {e : Env} {s : State} {m : MethodId} {args : Array Value} {below : List Frame} {meth : Method} {c : Code} {H H0 : Heap} {locs : List Loc} {cells slots : Nat} {Q : State → Prop} {R : Room} {rn mcR msR : Nat}
variable {pc : Nat} {ls : Array Slot} {rest : List Value} {A : Nat → Prop} {D : va_G}
variable {cc : ByteArray} {nL index : Nat} {own host : String}
end KX3_behindBlanks
def wl_X3_kindOfWord_2 (F : M2) (L : L2) (K : Int32 → Prop) : Nat → Int64 → Int32 → Prop
  | 0, _, _ => False
  | n + 1, v1, v3 => (((F 73 0) ≤ v3 → K 2) ∧ (¬ (F 73 0) ≤ v3 → ((¬ (lg_cmp (atl (L 71) 40 v3) v1) = 0 → (∀ v3_32 : Int32, v3_32 = v3 + 1 → wl_X3_kindOfWord_2 F L K n v1 v3_32)) ∧ ((lg_cmp (atl (L 71) 40 v3) v1) = 0 → K (atv (F 72) 40 v3)))))
def wp_X3_kindOfWord (F : M2) (L : L2) (x1 : Int64) (K : Int32 → Prop) : Prop := wl_X3_kindOfWord_2 F L K fK x1 0
set_option maxRecDepth 100000 in
set_option maxHeartbeats 4000000 in
theorem c_X3_kindOfWord (l : Launch) (D : va_G) (Z : Nat → ClassId) (a q : Nat → Nat) (rp : Nat) (F : M2) (L : L2) (sz : Nat) (x1 : Int64) (K : Int32 → Prop) (hm : wp_X3_kindOfWord F L x1 K) : Met l yX3_kindOfWord (wy yX3_kindOfWord cX3_kindOfWord 4 (some .int)) (rk 1 0 0) (pre vwCl D Z (KW Z a q rp F L) sz [.ref (a 70), .long x1]) (vp_Si K) 0 0 (fun _ => False) := by
  refine ro_of (ty := .int) (by decide +kernel) (Nat.le_of_ble_eq_true rfl) rfl ?_
  intro p e s m args below meth c Q hC hN hsz hP hD hK hret ls hl
  have hx := hC.1
  have hb := hC.2.1
  have hl : lv_has ls 4 [(0, .ref (a 70)), (1, .long x1)] := hl
  have L2 : ∀ (n2 : Nat), ∀ (v1 : Int64) (v3 : Int32) (ls : Array Slot), wl_X3_kindOfWord_2 F L K n2 v1 v3 → lv_has ls 4 [(0, .ref (a 70)), (1, .long v1), (3, .int v3)] → W p l e (rk 1 0 0) s m args below meth c s.heap [] 0 0 Q (F0 m 2 ls []) := by
    intro n2
    induction n2 with
    | zero =>
      intro v1 v3 ls hm hl
      exact False.elim hm
    | succ n2 ih2 =>
      intro v1 v3 ls hm hl
      refine lv_iload_n hx hb dX3_kindOfWord_2 rfl (lv_at hl 2 rfl) ?_
      refine lv_aload_n hx hb dX3_kindOfWord_3 rfl (lv_at hl 0 rfl) ?_
      refine gKW_tok_2 hC hK hP wq_212 dX3_kindOfWord_4 ?_
      refine lv_icmp_ge (tgt := 38) hx hb dX3_kindOfWord_7 (by decide) (fun c_7 => ?_) (fun c_7 => ?_)
      · have hm := hm.1 c_7
        refine lv_iconst (v := 2) hx hb dX3_kindOfWord_38 (by decide) ?_
        exact hret 39 _ _ hm rfl dX3_kindOfWord_39
      · have hm := hm.2 c_7
        refine lv_aload_n hx hb dX3_kindOfWord_10 rfl (lv_at hl 0 rfl) ?_
        refine gKW_tok_0 hC hK hP wq_210 dX3_kindOfWord_11 ?_
        refine lv_iload_n hx hb dX3_kindOfWord_14 rfl (lv_at hl 2 rfl) ?_
        refine w_atl (q0 := 6) hC hN hK hP wn_975 rfl (by decide) (by decide) hl.1 (Nat.le_of_ble_eq_true rfl) ⟨Nat.le_refl _, Nat.le_refl _⟩ dX3_kindOfWord_15 ?_
        refine lv_lload_n hx hb dX3_kindOfWord_18 rfl (lv_at hl 1 rfl) ?_
        refine W.lcmp hx hb dX3_kindOfWord_19 ?_
        refine lv_if_ne (tgt := 32) hx hb dX3_kindOfWord_20 (by decide) (fun c_20 => ?_) (fun c_20 => ?_)
        · have hm := hm.1 c_20
          obtain ⟨v3_32, ev3_32⟩ : ∃ y : Int32, y = v3 + 1 := ⟨_, rfl⟩
          have hm := hm v3_32 ev3_32
          refine lv_iinc (v := v3_32) (lv' := [(3, .int v3_32), (0, .ref (a 70)), (1, .long v1)]) hx hb dX3_kindOfWord_32 hl (k := 2) rfl (by rw [ev3_32]; rfl) (by decide) rfl (fun ls hl => ?_)
          refine lv_goto (tgt := 2) hx hb dX3_kindOfWord_35 (by decide) ?_
          exact ih2 _ _ _ hm (lv_sub hl [1, 2, 0] rfl)
        · have hm := hm.2 c_20
          refine lv_aload_n hx hb dX3_kindOfWord_23 rfl (lv_at hl 0 rfl) ?_
          refine gKW_tok_1 hC hK hP wq_211 dX3_kindOfWord_24 ?_
          refine lv_iload_n hx hb dX3_kindOfWord_27 rfl (lv_at hl 2 rfl) ?_
          refine w_at (q0 := 7) hC hN hK hP wn_978 rfl (by decide) (by decide) hl.1 (Nat.le_of_ble_eq_true rfl) ⟨Nat.le_refl _, Nat.le_refl _⟩ dX3_kindOfWord_28 ?_
          exact hret 31 _ _ hm rfl dX3_kindOfWord_31
  refine lv_iconst (v := 0) hx hb dX3_kindOfWord_0 (by decide) ?_
  refine lv_istore_n (lv' := [(3, .int 0), (0, .ref (a 70)), (1, .long x1)]) hx hb dX3_kindOfWord_1 rfl hl (by decide) rfl (fun ls hl => ?_)
  exact L2 _ _ _ _ hm (lv_sub hl [1, 2, 0] rfl)
section KX3_kindOfWord
variable {p : Program} {l : Launch} {e : Env} {s : State} {m : MethodId} {args : Array Value} {below : List Frame} {meth : Method} {c : Code} {H H0 : Heap} {locs : List Loc} {cells slots : Nat} {Q : State → Prop} {R : Room} {rn mcR msR : Nat}
variable {pc : Nat} {ls : Array Slot} {rest : List Value} {A : Nat → Prop} {D : va_G}
variable {cc : ByteArray} {nL index : Nat} {own host : String}
theorem k_X3_kindOfWord {Z : Nat → ClassId} {a q : Nat → Nat} {rp : Nat} {F : M2} {L : L2} {x1 : Int64} {K : Int32 → Prop} (hC : CallFix p m c cc nL s args lw_g own) (hN : NW s) (hK : va_K D vwCl (tysG Z) s) (hP : va_P D vwCl (KW Z a q rp F L) H) (hD : va_D (fun _ => True) (KW Z a q rp F L)) (hm : wp_X3_kindOfWord F L x1 K) (hl : Cond.methodLink own index yX3_kindOfWord ∈ lw_g) (hlt : 1 < rn) (hsize : ls.size = nL) (hW : (rest.map fun v => v.category).sum ≤ 8) (hf : cells + 0 ≤ mcR ∧ slots + 0 ≤ msR) (hdg : decode cc pc = .ok (.invokevirtual index, 3)) (kk : ∀ r : Int32, K r → W p l e (rk rn mcR msR) s m args below meth c H locs cells slots Q (F0 m (pc + 3) ls (.int r :: rest))) : W p l e (rk rn mcR msR) s m args below meth c H locs cells slots Q (F0 m pc ls (.long x1 :: .ref (a 70) :: rest)) :=
  ro_go (runV (As := [.long x1]) hC hN (c_X3_kindOfWord l D Z a q rp F L H.size x1 K hm) mi_X3_kindOfWord hl wq_973 wq_34 hlt hP hD hK (q0 := 5) rfl rfl rfl hsize rfl hW hdg hf) kk
end KX3_kindOfWord
def wp_X3_found (F : M2) (L : L2) (x1 : Int32) (x2 : Int32) (x3 : Int64) (x5 : Int32) (K : Int32 → M2 → L2 → Prop) : Prop := (∀ F_6 : M2, F_6 = up2 F 74 (putv (F 74) 401 x1 x2) → (∀ L_15 : L2, L_15 = ul2 L 76 (putl (L 76) 401 x1 x3) → K x5 F_6 L_15))
set_option maxRecDepth 100000 in
set_option maxHeartbeats 4000000 in
theorem c_X3_found (l : Launch) (D : va_G) (Z : Nat → ClassId) (a q : Nat → Nat) (rp : Nat) (F : M2) (L : L2) (sz : Nat) (x1 : Int32) (x2 : Int32) (x3 : Int64) (x5 : Int32) (K : Int32 → M2 → L2 → Prop) (hm : wp_X3_found F L x1 x2 x3 x5 K) : Met l yX3_found (wy yX3_found cX3_found 6 (some .int)) (rk 1 0 0) (pre vwCl D Z (KW Z a q rp F L) sz [.ref (a 70), .int x1, .int x2, .long x3, .int x5]) (poI vwCl D Z (fun u : M2 × L2 => KW Z a q rp u.1 u.2) (F, L) sz (fun (r : Int32) (u : M2 × L2) => K r u.1 u.2)) 0 0 (va_A (KW Z a q rp F L) sz) := by
  refine rw_of (ty := .int) (wsF := (fun u : M2 × L2 => KW Z a q rp u.1 u.2)) (u0 := (F, L)) (by decide +kernel) (Nat.le_of_ble_eq_true rfl) rfl ?_
  intro p e s m args below meth c Q A hC hN hsz hT hK hret ls hl
  have hx := hC.1
  have hb := hC.2.1
  have hl : lv_has ls 6 [(0, .ref (a 70)), (1, .int x1), (2, .int x2), (3, .long x3), (5, .int x5)] := hl
  have hT : TS vwCl D (KW Z a q rp F L) A s.heap s.heap [] := hT
  refine lv_aload_n hx hb dX3_found_0 rfl (lv_at hl 0 rfl) ?_
  refine gKW_tok_3 hC hK hT.1 wq_213 dX3_found_1 ?_
  refine lv_iload_n hx hb dX3_found_4 rfl (lv_at hl 1 rfl) ?_
  refine lv_iload_n hx hb dX3_found_5 rfl (lv_at hl 2 rfl) ?_
  refine uKW_kind hC hN hK hT wn_176 (by decide) hl.1 (Nat.le_of_ble_eq_true rfl) ⟨Nat.le_refl _, Nat.le_refl _⟩ dX3_found_6 (fun F_6 eF_6 H locs hT => ?_)
  have hm := hm F_6 eF_6
  refine lv_aload_n hx hb dX3_found_9 rfl (lv_at hl 0 rfl) ?_
  refine gKW_tok_5 hC hK hT.1 wq_217 dX3_found_10 ?_
  refine lv_iload_n hx hb dX3_found_13 rfl (lv_at hl 1 rfl) ?_
  refine lv_lload_n hx hb dX3_found_14 rfl (lv_at hl 3 rfl) ?_
  refine uKW_value hC hN hK hT wn_173 (by decide) hl.1 (Nat.le_of_ble_eq_true rfl) ⟨Nat.le_refl _, Nat.le_refl _⟩ dX3_found_15 (fun L_15 eL_15 H locs hT => ?_)
  have hm := hm L_15 eL_15
  refine lv_iload hx hb dX3_found_18 (lv_at hl 4 rfl) ?_
  exact hret 20 _ _ _ _ (F_6, L_15) hm hT rfl dX3_found_20
section KX3_found
variable {p : Program} {l : Launch} {e : Env} {s : State} {m : MethodId} {args : Array Value} {below : List Frame} {meth : Method} {c : Code} {H H0 : Heap} {locs : List Loc} {cells slots : Nat} {Q : State → Prop} {R : Room} {rn mcR msR : Nat}
variable {pc : Nat} {ls : Array Slot} {rest : List Value} {A : Nat → Prop} {D : va_G}
variable {cc : ByteArray} {nL index : Nat} {own host : String}
theorem k_X3_found {Z : Nat → ClassId} {a q : Nat → Nat} {rp : Nat} {F : M2} {L : L2} {x1 : Int32} {x2 : Int32} {x3 : Int64} {x5 : Int32} {K : Int32 → M2 → L2 → Prop} (hC : CallFix p m c cc nL s args lw_g own) (hN : NW s) (hK : va_K D vwCl (tysG Z) s) (hT : TS vwCl D (KW Z a q rp F L) A H0 H locs) (hm : wp_X3_found F L x1 x2 x3 x5 K) (hl : Cond.methodLink own index yX3_found ∈ lw_g) (hlt : 1 < rn) (hsize : ls.size = nL) (hW : (rest.map fun v => v.category).sum ≤ 8) (hf : cells + 0 ≤ mcR ∧ slots + 0 ≤ msR) (hdg : decode cc pc = .ok (.invokevirtual index, 3)) (kk : ∀ (r : Int32) (F1 : M2) (L1 : L2) (H1 : Heap) (locs1 : List Loc), K r F1 L1 → TS vwCl D (KW Z a q rp F1 L1) A H0 H1 locs1 → W p l e (rk rn mcR msR) s m args below meth c H1 locs1 cells slots Q (F0 m (pc + 3) ls (.int r :: rest))) : W p l e (rk rn mcR msR) s m args below meth c H locs cells slots Q (F0 m pc ls (.int x5 :: .long x3 :: .int x2 :: .int x1 :: .ref (a 70) :: rest)) :=
  rw_go (wsF := (fun u : M2 × L2 => KW Z a q rp u.1 u.2)) (u0 := (F, L)) (wr := []) (isC := cutKW) (isR := []) (pm := cutKW) (ws' := (fun u : M2 × L2 => KW Z a q rp u.1 u.2)) (runV (As := [.int x1, .int x2, .long x3, .int x5]) hC hN (c_X3_found l D Z a q rp F L H.size x1 x2 x3 x5 K hm) mi_X3_found hl wq_965 wq_32 hlt hT.1 hT.D' hK (q0 := 5) rfl rfl rfl hsize rfl hW hdg hf) (cutOkKW Z a q rp F L) hT (fun r u H1 locs1 hk hT1 => kk r u.1 u.2 H1 locs1 hk hT1)
end KX3_found
def wj_X3_readWord_49 (K : Int32 → M2 → L2 → Prop) (F : M2) (L : L2) (v1 : Int32) (v2 : Int32) (v3 : Int64) (v5 : Int32) : Prop := (((v5 - v2) ≤ 10 → wp_X3_kindOfWord F L v3 (fun r_69 => ((¬ r_69 = 3 → wp_X3_found F L v1 r_69 v3 v5 (fun r_103 F_103 L_103 => K r_103 F_103 L_103)) ∧ (r_69 = 3 → wp_X3_byteAt F L v2 (fun r_82 => ((¬ r_82 = 119 → wp_X3_found F L v1 r_69 1 v5 (fun r_103 F_103 L_103 => K r_103 F_103 L_103)) ∧ (r_82 = 119 → wp_X3_found F L v1 r_69 0 v5 (fun r_103 F_103 L_103 => K r_103 F_103 L_103)))))))) ∧ (¬ (v5 - v2) ≤ 10 → wp_X3_found F L v1 1 0 v2 (fun r_63 F_63 L_63 => K r_63 F_63 L_63)))
def wl_X3_readWord_5 (K : Int32 → M2 → L2 → Prop) : Nat → M2 → L2 → Int32 → Int32 → Int64 → Int32 → Prop
  | 0, _, _, _, _, _, _ => False
  | n + 1, F, L, v1, v2, v3, v5 => (((F 78 0) ≤ v5 → wj_X3_readWord_49 K F L v1 v2 v3 v5) ∧ (¬ (F 78 0) ≤ v5 → wp_X3_byteAt F L v5 (fun r_17 => wp_X3_signOfWord F L r_17 (fun r_20 => ((r_20 ≤ 0 → wj_X3_readWord_49 K F L v1 v2 v3 v5) ∧ (¬ r_20 ≤ 0 → wp_X3_byteAt F L v5 (fun r_34 => wp_X3_signOfWord F L r_34 (fun r_37 => (∀ v3_42, v3_42 = (v3 * 37) + r_37.toInt64 → (∀ v5_43 : Int32, v5_43 = v5 + 1 → wl_X3_readWord_5 K n F L v1 v2 v3_42 v5_43))))))))))
def wp_X3_readWord (F : M2) (L : L2) (x1 : Int32) (x2 : Int32) (K : Int32 → M2 → L2 → Prop) : Prop := wl_X3_readWord_5 K fK F L x1 x2 0 x2
set_option maxRecDepth 100000 in
set_option maxHeartbeats 4000000 in
theorem c_X3_readWord (l : Launch) (D : va_G) (Z : Nat → ClassId) (a q : Nat → Nat) (rp : Nat) (F : M2) (L : L2) (sz : Nat) (x1 : Int32) (x2 : Int32) (K : Int32 → M2 → L2 → Prop) (hm : wp_X3_readWord F L x1 x2 K) : Met l yX3_readWord (wy yX3_readWord cX3_readWord 7 (some .int)) (rk 3 0 0) (pre vwCl D Z (KW Z a q rp F L) sz [.ref (a 70), .int x1, .int x2]) (poI vwCl D Z (fun u : M2 × L2 => KW Z a q rp u.1 u.2) (F, L) sz (fun (r : Int32) (u : M2 × L2) => K r u.1 u.2)) 0 0 (va_A (KW Z a q rp F L) sz) := by
  refine rw_of (ty := .int) (wsF := (fun u : M2 × L2 => KW Z a q rp u.1 u.2)) (u0 := (F, L)) (by decide +kernel) (Nat.le_of_ble_eq_true rfl) rfl ?_
  intro p e s m args below meth c Q A hC hN hsz hT hK hret ls hl
  have hx := hC.1
  have hb := hC.2.1
  have hl : lv_has ls 7 [(0, .ref (a 70)), (1, .int x1), (2, .int x2)] := hl
  have hT : TS vwCl D (KW Z a q rp F L) A s.heap s.heap [] := hT
  have L49 : ∀ (F : M2) (L : L2) (v1 : Int32) (v2 : Int32) (v3 : Int64) (v5 : Int32) (H : Heap) (locs : List Loc) (ls : Array Slot), wj_X3_readWord_49 K F L v1 v2 v3 v5 → TS vwCl D (KW Z a q rp F L) A s.heap H locs → lv_has ls 7 [(0, .ref (a 70)), (1, .int v1), (2, .int v2), (3, .long v3), (5, .int v5)] → W p l e (rk 3 0 0) s m args below meth c H locs 0 0 Q (F0 m 49 ls []) := by
    intro F L v1 v2 v3 v5 H locs ls hm hT hl
    refine lv_iload hx hb dX3_readWord_49 (lv_at hl 4 rfl) ?_
    refine lv_iload_n hx hb dX3_readWord_51 rfl (lv_at hl 2 rfl) ?_
    refine lv_isub hx hb dX3_readWord_52 ?_
    refine lv_bipush (v := 10) hx hb dX3_readWord_53 (by decide) ?_
    refine lv_icmp_le (tgt := 67) hx hb dX3_readWord_55 (by decide) (fun c_55 => ?_) (fun c_55 => ?_)
    · have hm := hm.1 c_55
      refine lv_aload_n hx hb dX3_readWord_67 rfl (lv_at hl 0 rfl) ?_
      refine lv_lload_n hx hb dX3_readWord_68 rfl (lv_at hl 3 rfl) ?_
      refine k_X3_kindOfWord hC hN hK hT.1 hT.D' hm wq_971 (by decide) hl.1 (Nat.le_of_ble_eq_true rfl) ⟨Nat.le_refl _, Nat.le_refl _⟩ dX3_readWord_69 (fun r_69 hm => ?_)
      refine lv_istore (lv' := [(6, .int r_69), (0, .ref (a 70)), (1, .int v1), (2, .int v2), (3, .long v3), (5, .int v5)]) hx hb dX3_readWord_72 hl (by decide) rfl (fun ls hl => ?_)
      refine lv_iload hx hb dX3_readWord_74 (lv_at hl 0 rfl) ?_
      refine lv_iconst (v := 3) hx hb dX3_readWord_76 (by decide) ?_
      refine lv_icmp_ne (tgt := 96) hx hb dX3_readWord_77 (by decide) (fun c_77 => ?_) (fun c_77 => ?_)
      · have hm := hm.1 c_77
        refine lv_aload_n hx hb dX3_readWord_96 rfl (lv_at hl 1 rfl) ?_
        refine lv_iload_n hx hb dX3_readWord_97 rfl (lv_at hl 2 rfl) ?_
        refine lv_iload hx hb dX3_readWord_98 (lv_at hl 0 rfl) ?_
        refine lv_lload_n hx hb dX3_readWord_100 rfl (lv_at hl 4 rfl) ?_
        refine lv_iload hx hb dX3_readWord_101 (lv_at hl 5 rfl) ?_
        refine k_X3_found hC hN hK hT hm wq_963 (by decide) hl.1 (Nat.le_of_ble_eq_true rfl) ⟨Nat.le_refl _, Nat.le_refl _⟩ dX3_readWord_103 (fun r_103 F_103 L_103 H locs hm hT => ?_)
        exact hret 106 _ _ _ _ (F_103, L_103) hm hT rfl dX3_readWord_106
      · have hm := hm.2 c_77
        refine lv_aload_n hx hb dX3_readWord_80 rfl (lv_at hl 1 rfl) ?_
        refine lv_iload_n hx hb dX3_readWord_81 rfl (lv_at hl 3 rfl) ?_
        refine k_X3_byteAt hC hN hK hT.1 hT.D' hm wq_955 (by decide) hl.1 (Nat.le_of_ble_eq_true rfl) ⟨Nat.le_refl _, Nat.le_refl _⟩ dX3_readWord_82 (fun r_82 hm => ?_)
        refine lv_bipush (v := 119) hx hb dX3_readWord_85 (by decide) ?_
        refine lv_icmp_ne (tgt := 94) hx hb dX3_readWord_87 (by decide) (fun c_87 => ?_) (fun c_87 => ?_)
        · have hm := hm.1 c_87
          refine lv_lconst (v := 1) hx hb dX3_readWord_94 (by decide) ?_
          refine lv_lstore_n (lv' := [(3, .long 1), (6, .int r_69), (0, .ref (a 70)), (1, .int v1), (2, .int v2), (5, .int v5)]) hx hb dX3_readWord_95 rfl hl (by decide) rfl (fun ls hl => ?_)
          refine lv_aload_n hx hb dX3_readWord_96 rfl (lv_at hl 2 rfl) ?_
          refine lv_iload_n hx hb dX3_readWord_97 rfl (lv_at hl 3 rfl) ?_
          refine lv_iload hx hb dX3_readWord_98 (lv_at hl 1 rfl) ?_
          refine lv_lload_n hx hb dX3_readWord_100 rfl (lv_at hl 0 rfl) ?_
          refine lv_iload hx hb dX3_readWord_101 (lv_at hl 5 rfl) ?_
          refine k_X3_found hC hN hK hT hm wq_963 (by decide) hl.1 (Nat.le_of_ble_eq_true rfl) ⟨Nat.le_refl _, Nat.le_refl _⟩ dX3_readWord_103 (fun r_103 F_103 L_103 H locs hm hT => ?_)
          exact hret 106 _ _ _ _ (F_103, L_103) hm hT rfl dX3_readWord_106
        · have hm := hm.2 c_87
          refine lv_lconst (v := 0) hx hb dX3_readWord_90 (by decide) ?_
          refine lv_goto (tgt := 95) hx hb dX3_readWord_91 (by decide) ?_
          refine lv_lstore_n (lv' := [(3, .long 0), (6, .int r_69), (0, .ref (a 70)), (1, .int v1), (2, .int v2), (5, .int v5)]) hx hb dX3_readWord_95 rfl hl (by decide) rfl (fun ls hl => ?_)
          refine lv_aload_n hx hb dX3_readWord_96 rfl (lv_at hl 2 rfl) ?_
          refine lv_iload_n hx hb dX3_readWord_97 rfl (lv_at hl 3 rfl) ?_
          refine lv_iload hx hb dX3_readWord_98 (lv_at hl 1 rfl) ?_
          refine lv_lload_n hx hb dX3_readWord_100 rfl (lv_at hl 0 rfl) ?_
          refine lv_iload hx hb dX3_readWord_101 (lv_at hl 5 rfl) ?_
          refine k_X3_found hC hN hK hT hm wq_963 (by decide) hl.1 (Nat.le_of_ble_eq_true rfl) ⟨Nat.le_refl _, Nat.le_refl _⟩ dX3_readWord_103 (fun r_103 F_103 L_103 H locs hm hT => ?_)
          exact hret 106 _ _ _ _ (F_103, L_103) hm hT rfl dX3_readWord_106
    · have hm := hm.2 c_55
      refine lv_aload_n hx hb dX3_readWord_58 rfl (lv_at hl 0 rfl) ?_
      refine lv_iload_n hx hb dX3_readWord_59 rfl (lv_at hl 1 rfl) ?_
      refine lv_iconst (v := 1) hx hb dX3_readWord_60 (by decide) ?_
      refine lv_lconst (v := 0) hx hb dX3_readWord_61 (by decide) ?_
      refine lv_iload_n hx hb dX3_readWord_62 rfl (lv_at hl 2 rfl) ?_
      refine k_X3_found hC hN hK hT hm wq_963 (by decide) hl.1 (Nat.le_of_ble_eq_true rfl) ⟨Nat.le_refl _, Nat.le_refl _⟩ dX3_readWord_63 (fun r_63 F_63 L_63 H locs hm hT => ?_)
      exact hret 66 _ _ _ _ (F_63, L_63) hm hT rfl dX3_readWord_66
  have L5 : ∀ (n5 : Nat), ∀ (F : M2) (L : L2) (v1 : Int32) (v2 : Int32) (v3 : Int64) (v5 : Int32) (H : Heap) (locs : List Loc) (ls : Array Slot), wl_X3_readWord_5 K n5 F L v1 v2 v3 v5 → TS vwCl D (KW Z a q rp F L) A s.heap H locs → lv_has ls 7 [(0, .ref (a 70)), (1, .int v1), (2, .int v2), (3, .long v3), (5, .int v5)] → W p l e (rk 3 0 0) s m args below meth c H locs 0 0 Q (F0 m 5 ls []) := by
    intro n5
    induction n5 with
    | zero =>
      intro F L v1 v2 v3 v5 H locs ls hm hT hl
      exact False.elim hm
    | succ n5 ih5 =>
      intro F L v1 v2 v3 v5 H locs ls hm hT hl
      refine lv_iload hx hb dX3_readWord_5 (lv_at hl 4 rfl) ?_
      refine lv_aload_n hx hb dX3_readWord_7 rfl (lv_at hl 0 rfl) ?_
      refine gKW_tok_7 hC hK hT.1 wq_220 dX3_readWord_8 ?_
      refine lv_icmp_ge (tgt := 49) hx hb dX3_readWord_11 (by decide) (fun c_11 => ?_) (fun c_11 => ?_)
      · have hm := hm.1 c_11
        exact L49 _ _ _ _ _ _ _ _ _ hm hT (lv_sub hl [0, 1, 2, 3, 4] rfl)
      · have hm := hm.2 c_11
        refine lv_aload_n hx hb dX3_readWord_14 rfl (lv_at hl 0 rfl) ?_
        refine lv_iload hx hb dX3_readWord_15 (lv_at hl 4 rfl) ?_
        refine k_X3_byteAt hC hN hK hT.1 hT.D' hm wq_955 (by decide) hl.1 (Nat.le_of_ble_eq_true rfl) ⟨Nat.le_refl _, Nat.le_refl _⟩ dX3_readWord_17 (fun r_17 hm => ?_)
        refine k_X3_signOfWord hC hN hK hT.1 hT.D' hm wq_164 (by decide) hl.1 (Nat.le_of_ble_eq_true rfl) ⟨Nat.le_refl _, Nat.le_refl _⟩ dX3_readWord_20 (fun r_20 hm => ?_)
        refine lv_if_le (tgt := 49) hx hb dX3_readWord_23 (by decide) (fun c_23 => ?_) (fun c_23 => ?_)
        · have hm := hm.1 c_23
          exact L49 _ _ _ _ _ _ _ _ _ hm hT (lv_sub hl [0, 1, 2, 3, 4] rfl)
        · have hm := hm.2 c_23
          refine lv_lload_n hx hb dX3_readWord_26 rfl (lv_at hl 3 rfl) ?_
          refine lv_ldc2 (v := 37) hx hb hC.2.2.2.1 (hC.2.2.2.2 _ wq_125) dX3_readWord_27 ?_
          refine lv_lmul hx hb dX3_readWord_30 ?_
          refine lv_aload_n hx hb dX3_readWord_31 rfl (lv_at hl 0 rfl) ?_
          refine lv_iload hx hb dX3_readWord_32 (lv_at hl 4 rfl) ?_
          refine k_X3_byteAt hC hN hK hT.1 hT.D' hm wq_955 (by decide) hl.1 (Nat.le_of_ble_eq_true rfl) ⟨Nat.le_refl _, Nat.le_refl _⟩ dX3_readWord_34 (fun r_34 hm => ?_)
          refine k_X3_signOfWord hC hN hK hT.1 hT.D' hm wq_164 (by decide) hl.1 (Nat.le_of_ble_eq_true rfl) ⟨Nat.le_refl _, Nat.le_refl _⟩ dX3_readWord_37 (fun r_37 hm => ?_)
          refine lv_i2l (v := r_37.toInt64) hx hb dX3_readWord_40 rfl ?_
          refine lv_ladd hx hb dX3_readWord_41 ?_
          refine lv_topl (fun v3_42 ev3_42 => ?_)
          have hm := hm v3_42 ev3_42
          refine lv_lstore_n (lv' := [(3, .long v3_42), (0, .ref (a 70)), (1, .int v1), (2, .int v2), (5, .int v5)]) hx hb dX3_readWord_42 rfl hl (by decide) rfl (fun ls hl => ?_)
          obtain ⟨v5_43, ev5_43⟩ : ∃ y : Int32, y = v5 + 1 := ⟨_, rfl⟩
          have hm := hm v5_43 ev5_43
          refine lv_iinc (v := v5_43) (lv' := [(5, .int v5_43), (3, .long v3_42), (0, .ref (a 70)), (1, .int v1), (2, .int v2)]) hx hb dX3_readWord_43 hl (k := 4) rfl (by rw [ev5_43]; rfl) (by decide) rfl (fun ls hl => ?_)
          refine lv_goto (tgt := 5) hx hb dX3_readWord_46 (by decide) ?_
          exact ih5 _ _ _ _ _ _ _ _ _ hm hT (lv_sub hl [2, 3, 4, 1, 0] rfl)
  refine lv_lconst (v := 0) hx hb dX3_readWord_0 (by decide) ?_
  refine lv_lstore_n (lv' := [(3, .long 0), (0, .ref (a 70)), (1, .int x1), (2, .int x2)]) hx hb dX3_readWord_1 rfl hl (by decide) rfl (fun ls hl => ?_)
  refine lv_iload_n hx hb dX3_readWord_2 rfl (lv_at hl 3 rfl) ?_
  refine lv_istore (lv' := [(5, .int x2), (3, .long 0), (0, .ref (a 70)), (1, .int x1), (2, .int x2)]) hx hb dX3_readWord_3 hl (by decide) rfl (fun ls hl => ?_)
  exact L5 _ _ _ _ _ _ _ _ _ _ hm hT (lv_sub hl [2, 3, 4, 1, 0] rfl)
section KX3_readWord
variable {p : Program} {l : Launch} {e : Env} {s : State} {m : MethodId} {args : Array Value} {below : List Frame} {meth : Method} {c : Code} {H H0 : Heap} {locs : List Loc} {cells slots : Nat} {Q : State → Prop} {R : Room} {rn mcR msR : Nat}
variable {pc : Nat} {ls : Array Slot} {rest : List Value} {A : Nat → Prop} {D : va_G}
variable {cc : ByteArray} {nL index : Nat} {own host : String}
theorem k_X3_readWord {Z : Nat → ClassId} {a q : Nat → Nat} {rp : Nat} {F : M2} {L : L2} {x1 : Int32} {x2 : Int32} {K : Int32 → M2 → L2 → Prop} (hC : CallFix p m c cc nL s args lw_g own) (hN : NW s) (hK : va_K D vwCl (tysG Z) s) (hT : TS vwCl D (KW Z a q rp F L) A H0 H locs) (hm : wp_X3_readWord F L x1 x2 K) (hl : Cond.methodLink own index yX3_readWord ∈ lw_g) (hlt : 3 < rn) (hsize : ls.size = nL) (hW : (rest.map fun v => v.category).sum ≤ 8) (hf : cells + 0 ≤ mcR ∧ slots + 0 ≤ msR) (hdg : decode cc pc = .ok (.invokevirtual index, 3)) (kk : ∀ (r : Int32) (F1 : M2) (L1 : L2) (H1 : Heap) (locs1 : List Loc), K r F1 L1 → TS vwCl D (KW Z a q rp F1 L1) A H0 H1 locs1 → W p l e (rk rn mcR msR) s m args below meth c H1 locs1 cells slots Q (F0 m (pc + 3) ls (.int r :: rest))) : W p l e (rk rn mcR msR) s m args below meth c H locs cells slots Q (F0 m pc ls (.int x2 :: .int x1 :: .ref (a 70) :: rest)) :=
  rw_go (wsF := (fun u : M2 × L2 => KW Z a q rp u.1 u.2)) (u0 := (F, L)) (wr := []) (isC := cutKW) (isR := []) (pm := cutKW) (ws' := (fun u : M2 × L2 => KW Z a q rp u.1 u.2)) (runV (As := [.int x1, .int x2]) hC hN (c_X3_readWord l D Z a q rp F L H.size x1 x2 K hm) mi_X3_readWord hl wq_969 wq_33 hlt hT.1 hT.D' hK (q0 := 5) rfl rfl rfl hsize rfl hW hdg hf) (cutOkKW Z a q rp F L) hT (fun r u H1 locs1 hk hT1 => kk r u.1 u.2 H1 locs1 hk hT1)
end KX3_readWord
def wj_X3_readNumber_49 (K : Int32 → M2 → L2 → Prop) (F : M2) (L : L2) (v1 : Int32) (v2 : Int32) (v3 : Int64) (v5 : Int32) : Prop := (((v5 - v2) ≤ 6 → wp_X3_found F L v1 4 v3 v5 (fun r_75 F_75 L_75 => K r_75 F_75 L_75)) ∧ (¬ (v5 - v2) ≤ 6 → wp_X3_found F L v1 1 0 v2 (fun r_63 F_63 L_63 => K r_63 F_63 L_63)))
def wl_X3_readNumber_5 (K : Int32 → M2 → L2 → Prop) : Nat → M2 → L2 → Int32 → Int32 → Int64 → Int32 → Prop
  | 0, _, _, _, _, _, _ => False
  | n + 1, F, L, v1, v2, v3, v5 => (((F 78 0) ≤ v5 → wj_X3_readNumber_49 K F L v1 v2 v3 v5) ∧ (¬ (F 78 0) ≤ v5 → wp_X3_byteAt F L v5 (fun r_17 => wp_X3_isDigit F L r_17 (fun r_20 => ((r_20 = 0 → wj_X3_readNumber_49 K F L v1 v2 v3 v5) ∧ (¬ r_20 = 0 → wp_X3_byteAt F L v5 (fun r_34 => (∀ v3_42, v3_42 = (v3 * 10) + ((r_34 - 48).toInt64) → (∀ v5_43 : Int32, v5_43 = v5 + 1 → wl_X3_readNumber_5 K n F L v1 v2 v3_42 v5_43)))))))))
def wp_X3_readNumber (F : M2) (L : L2) (x1 : Int32) (x2 : Int32) (K : Int32 → M2 → L2 → Prop) : Prop := wl_X3_readNumber_5 K fK F L x1 x2 0 x2
set_option maxRecDepth 100000 in
set_option maxHeartbeats 4000000 in
theorem c_X3_readNumber (l : Launch) (D : va_G) (Z : Nat → ClassId) (a q : Nat → Nat) (rp : Nat) (F : M2) (L : L2) (sz : Nat) (x1 : Int32) (x2 : Int32) (K : Int32 → M2 → L2 → Prop) (hm : wp_X3_readNumber F L x1 x2 K) : Met l yX3_readNumber (wy yX3_readNumber cX3_readNumber 6 (some .int)) (rk 2 0 0) (pre vwCl D Z (KW Z a q rp F L) sz [.ref (a 70), .int x1, .int x2]) (poI vwCl D Z (fun u : M2 × L2 => KW Z a q rp u.1 u.2) (F, L) sz (fun (r : Int32) (u : M2 × L2) => K r u.1 u.2)) 0 0 (va_A (KW Z a q rp F L) sz) := by
  refine rw_of (ty := .int) (wsF := (fun u : M2 × L2 => KW Z a q rp u.1 u.2)) (u0 := (F, L)) (by decide +kernel) (Nat.le_of_ble_eq_true rfl) rfl ?_
  intro p e s m args below meth c Q A hC hN hsz hT hK hret ls hl
  have hx := hC.1
  have hb := hC.2.1
  have hl : lv_has ls 6 [(0, .ref (a 70)), (1, .int x1), (2, .int x2)] := hl
  have hT : TS vwCl D (KW Z a q rp F L) A s.heap s.heap [] := hT
  have L49 : ∀ (F : M2) (L : L2) (v1 : Int32) (v2 : Int32) (v3 : Int64) (v5 : Int32) (H : Heap) (locs : List Loc) (ls : Array Slot), wj_X3_readNumber_49 K F L v1 v2 v3 v5 → TS vwCl D (KW Z a q rp F L) A s.heap H locs → lv_has ls 6 [(0, .ref (a 70)), (1, .int v1), (2, .int v2), (3, .long v3), (5, .int v5)] → W p l e (rk 2 0 0) s m args below meth c H locs 0 0 Q (F0 m 49 ls []) := by
    intro F L v1 v2 v3 v5 H locs ls hm hT hl
    refine lv_iload hx hb dX3_readNumber_49 (lv_at hl 4 rfl) ?_
    refine lv_iload_n hx hb dX3_readNumber_51 rfl (lv_at hl 2 rfl) ?_
    refine lv_isub hx hb dX3_readNumber_52 ?_
    refine lv_bipush (v := 6) hx hb dX3_readNumber_53 (by decide) ?_
    refine lv_icmp_le (tgt := 69) hx hb dX3_readNumber_55 (by decide) (fun c_55 => ?_) (fun c_55 => ?_)
    · have hm := hm.1 c_55
      refine lv_aload_n hx hb dX3_readNumber_69 rfl (lv_at hl 0 rfl) ?_
      refine lv_iload_n hx hb dX3_readNumber_70 rfl (lv_at hl 1 rfl) ?_
      refine lv_iconst (v := 4) hx hb dX3_readNumber_71 (by decide) ?_
      refine lv_lload_n hx hb dX3_readNumber_72 rfl (lv_at hl 3 rfl) ?_
      refine lv_iload hx hb dX3_readNumber_73 (lv_at hl 4 rfl) ?_
      refine k_X3_found hC hN hK hT hm wq_963 (by decide) hl.1 (Nat.le_of_ble_eq_true rfl) ⟨Nat.le_refl _, Nat.le_refl _⟩ dX3_readNumber_75 (fun r_75 F_75 L_75 H locs hm hT => ?_)
      exact hret 78 _ _ _ _ (F_75, L_75) hm hT rfl dX3_readNumber_78
    · have hm := hm.2 c_55
      refine lv_aload_n hx hb dX3_readNumber_58 rfl (lv_at hl 0 rfl) ?_
      refine lv_iload_n hx hb dX3_readNumber_59 rfl (lv_at hl 1 rfl) ?_
      refine lv_iconst (v := 1) hx hb dX3_readNumber_60 (by decide) ?_
      refine lv_lconst (v := 0) hx hb dX3_readNumber_61 (by decide) ?_
      refine lv_iload_n hx hb dX3_readNumber_62 rfl (lv_at hl 2 rfl) ?_
      refine k_X3_found hC hN hK hT hm wq_963 (by decide) hl.1 (Nat.le_of_ble_eq_true rfl) ⟨Nat.le_refl _, Nat.le_refl _⟩ dX3_readNumber_63 (fun r_63 F_63 L_63 H locs hm hT => ?_)
      refine lv_goto (tgt := 78) hx hb dX3_readNumber_66 (by decide) ?_
      exact hret 78 _ _ _ _ (F_63, L_63) hm hT rfl dX3_readNumber_78
  have L5 : ∀ (n5 : Nat), ∀ (F : M2) (L : L2) (v1 : Int32) (v2 : Int32) (v3 : Int64) (v5 : Int32) (H : Heap) (locs : List Loc) (ls : Array Slot), wl_X3_readNumber_5 K n5 F L v1 v2 v3 v5 → TS vwCl D (KW Z a q rp F L) A s.heap H locs → lv_has ls 6 [(0, .ref (a 70)), (1, .int v1), (2, .int v2), (3, .long v3), (5, .int v5)] → W p l e (rk 2 0 0) s m args below meth c H locs 0 0 Q (F0 m 5 ls []) := by
    intro n5
    induction n5 with
    | zero =>
      intro F L v1 v2 v3 v5 H locs ls hm hT hl
      exact False.elim hm
    | succ n5 ih5 =>
      intro F L v1 v2 v3 v5 H locs ls hm hT hl
      refine lv_iload hx hb dX3_readNumber_5 (lv_at hl 4 rfl) ?_
      refine lv_aload_n hx hb dX3_readNumber_7 rfl (lv_at hl 0 rfl) ?_
      refine gKW_tok_7 hC hK hT.1 wq_220 dX3_readNumber_8 ?_
      refine lv_icmp_ge (tgt := 49) hx hb dX3_readNumber_11 (by decide) (fun c_11 => ?_) (fun c_11 => ?_)
      · have hm := hm.1 c_11
        exact L49 _ _ _ _ _ _ _ _ _ hm hT (lv_sub hl [0, 1, 2, 3, 4] rfl)
      · have hm := hm.2 c_11
        refine lv_aload_n hx hb dX3_readNumber_14 rfl (lv_at hl 0 rfl) ?_
        refine lv_iload hx hb dX3_readNumber_15 (lv_at hl 4 rfl) ?_
        refine k_X3_byteAt hC hN hK hT.1 hT.D' hm wq_955 (by decide) hl.1 (Nat.le_of_ble_eq_true rfl) ⟨Nat.le_refl _, Nat.le_refl _⟩ dX3_readNumber_17 (fun r_17 hm => ?_)
        refine k_X3_isDigit hC hN hK hT.1 hT.D' hm wq_170 (by decide) hl.1 (Nat.le_of_ble_eq_true rfl) ⟨Nat.le_refl _, Nat.le_refl _⟩ dX3_readNumber_20 (fun r_20 hm => ?_)
        refine lv_if_eq (tgt := 49) hx hb dX3_readNumber_23 (by decide) (fun c_23 => ?_) (fun c_23 => ?_)
        · have hm := hm.1 c_23
          exact L49 _ _ _ _ _ _ _ _ _ hm hT (lv_sub hl [0, 1, 2, 3, 4] rfl)
        · have hm := hm.2 c_23
          refine lv_lload_n hx hb dX3_readNumber_26 rfl (lv_at hl 3 rfl) ?_
          refine lv_ldc2 (v := 10) hx hb hC.2.2.2.1 (hC.2.2.2.2 _ wq_983) dX3_readNumber_27 ?_
          refine lv_lmul hx hb dX3_readNumber_30 ?_
          refine lv_aload_n hx hb dX3_readNumber_31 rfl (lv_at hl 0 rfl) ?_
          refine lv_iload hx hb dX3_readNumber_32 (lv_at hl 4 rfl) ?_
          refine k_X3_byteAt hC hN hK hT.1 hT.D' hm wq_955 (by decide) hl.1 (Nat.le_of_ble_eq_true rfl) ⟨Nat.le_refl _, Nat.le_refl _⟩ dX3_readNumber_34 (fun r_34 hm => ?_)
          refine lv_bipush (v := 48) hx hb dX3_readNumber_37 (by decide) ?_
          refine lv_isub hx hb dX3_readNumber_39 ?_
          refine lv_i2l (v := (r_34 - 48).toInt64) hx hb dX3_readNumber_40 rfl ?_
          refine lv_ladd hx hb dX3_readNumber_41 ?_
          refine lv_topl (fun v3_42 ev3_42 => ?_)
          have hm := hm v3_42 ev3_42
          refine lv_lstore_n (lv' := [(3, .long v3_42), (0, .ref (a 70)), (1, .int v1), (2, .int v2), (5, .int v5)]) hx hb dX3_readNumber_42 rfl hl (by decide) rfl (fun ls hl => ?_)
          obtain ⟨v5_43, ev5_43⟩ : ∃ y : Int32, y = v5 + 1 := ⟨_, rfl⟩
          have hm := hm v5_43 ev5_43
          refine lv_iinc (v := v5_43) (lv' := [(5, .int v5_43), (3, .long v3_42), (0, .ref (a 70)), (1, .int v1), (2, .int v2)]) hx hb dX3_readNumber_43 hl (k := 4) rfl (by rw [ev5_43]; rfl) (by decide) rfl (fun ls hl => ?_)
          refine lv_goto (tgt := 5) hx hb dX3_readNumber_46 (by decide) ?_
          exact ih5 _ _ _ _ _ _ _ _ _ hm hT (lv_sub hl [2, 3, 4, 1, 0] rfl)
  refine lv_lconst (v := 0) hx hb dX3_readNumber_0 (by decide) ?_
  refine lv_lstore_n (lv' := [(3, .long 0), (0, .ref (a 70)), (1, .int x1), (2, .int x2)]) hx hb dX3_readNumber_1 rfl hl (by decide) rfl (fun ls hl => ?_)
  refine lv_iload_n hx hb dX3_readNumber_2 rfl (lv_at hl 3 rfl) ?_
  refine lv_istore (lv' := [(5, .int x2), (3, .long 0), (0, .ref (a 70)), (1, .int x1), (2, .int x2)]) hx hb dX3_readNumber_3 hl (by decide) rfl (fun ls hl => ?_)
  exact L5 _ _ _ _ _ _ _ _ _ _ hm hT (lv_sub hl [2, 3, 4, 1, 0] rfl)
section KX3_readNumber
variable {p : Program} {l : Launch} {e : Env} {s : State} {m : MethodId} {args : Array Value} {below : List Frame} {meth : Method} {c : Code} {H H0 : Heap} {locs : List Loc} {cells slots : Nat} {Q : State → Prop} {R : Room} {rn mcR msR : Nat}
variable {pc : Nat} {ls : Array Slot} {rest : List Value} {A : Nat → Prop} {D : va_G}
variable {cc : ByteArray} {nL index : Nat} {own host : String}
theorem k_X3_readNumber {Z : Nat → ClassId} {a q : Nat → Nat} {rp : Nat} {F : M2} {L : L2} {x1 : Int32} {x2 : Int32} {K : Int32 → M2 → L2 → Prop} (hC : CallFix p m c cc nL s args lw_g own) (hN : NW s) (hK : va_K D vwCl (tysG Z) s) (hT : TS vwCl D (KW Z a q rp F L) A H0 H locs) (hm : wp_X3_readNumber F L x1 x2 K) (hl : Cond.methodLink own index yX3_readNumber ∈ lw_g) (hlt : 2 < rn) (hsize : ls.size = nL) (hW : (rest.map fun v => v.category).sum ≤ 8) (hf : cells + 0 ≤ mcR ∧ slots + 0 ≤ msR) (hdg : decode cc pc = .ok (.invokevirtual index, 3)) (kk : ∀ (r : Int32) (F1 : M2) (L1 : L2) (H1 : Heap) (locs1 : List Loc), K r F1 L1 → TS vwCl D (KW Z a q rp F1 L1) A H0 H1 locs1 → W p l e (rk rn mcR msR) s m args below meth c H1 locs1 cells slots Q (F0 m (pc + 3) ls (.int r :: rest))) : W p l e (rk rn mcR msR) s m args below meth c H locs cells slots Q (F0 m pc ls (.int x2 :: .int x1 :: .ref (a 70) :: rest)) :=
  rw_go (wsF := (fun u : M2 × L2 => KW Z a q rp u.1 u.2)) (u0 := (F, L)) (wr := []) (isC := cutKW) (isR := []) (pm := cutKW) (ws' := (fun u : M2 × L2 => KW Z a q rp u.1 u.2)) (runV (As := [.int x1, .int x2]) hC hN (c_X3_readNumber l D Z a q rp F L H.size x1 x2 K hm) mi_X3_readNumber hl wq_981 wq_35 hlt hT.1 hT.D' hK (q0 := 5) rfl rfl rfl hsize rfl hW hdg hf) (cutOkKW Z a q rp F L) hT (fun r u H1 locs1 hk hT1 => kk r u.1 u.2 H1 locs1 hk hT1)
end KX3_readNumber
def wj_X3_readSymbol_53 (K : Int32 → M2 → L2 → Prop) (F : M2) (L : L2) (v1 : Int32) (v2 : Int32) (v3 : Int32) : Prop := wp_X3_kindOfSymbol F L v3 (fun r_56 => wp_X3_found F L v1 r_56 0 (v2 + 1) (fun r_63 F_63 L_63 => K r_63 F_63 L_63))
def wj_X3_readSymbol_30 (K : Int32 → M2 → L2 → Prop) (F : M2) (L : L2) (v1 : Int32) (v2 : Int32) (v3 : Int32) : Prop := ((¬ v3 = 60 → wp_X3_found F L v1 23 0 (v2 + 2) (fun r_49 F_49 L_49 => K r_49 F_49 L_49)) ∧ (v3 = 60 → wp_X3_found F L v1 22 0 (v2 + 2) (fun r_49 F_49 L_49 => K r_49 F_49 L_49)))
def wp_X3_readSymbol (F : M2) (L : L2) (x1 : Int32) (x2 : Int32) (K : Int32 → M2 → L2 → Prop) : Prop := wp_X3_byteAt F L x2 (fun r_2 => wp_X3_byteAt F L (x2 + 1) (fun r_10 => ((¬ r_10 = 61 → wj_X3_readSymbol_53 K F L x1 x2 r_2) ∧ (r_10 = 61 → ((r_2 = 60 → wj_X3_readSymbol_30 K F L x1 x2 r_2) ∧ (¬ r_2 = 60 → ((¬ r_2 = 62 → wj_X3_readSymbol_53 K F L x1 x2 r_2) ∧ (r_2 = 62 → wj_X3_readSymbol_30 K F L x1 x2 r_2))))))))
set_option maxRecDepth 100000 in
set_option maxHeartbeats 4000000 in
theorem c_X3_readSymbol (l : Launch) (D : va_G) (Z : Nat → ClassId) (a q : Nat → Nat) (rp : Nat) (F : M2) (L : L2) (sz : Nat) (x1 : Int32) (x2 : Int32) (K : Int32 → M2 → L2 → Prop) (hm : wp_X3_readSymbol F L x1 x2 K) : Met l yX3_readSymbol (wy yX3_readSymbol cX3_readSymbol 4 (some .int)) (rk 2 0 0) (pre vwCl D Z (KW Z a q rp F L) sz [.ref (a 70), .int x1, .int x2]) (poI vwCl D Z (fun u : M2 × L2 => KW Z a q rp u.1 u.2) (F, L) sz (fun (r : Int32) (u : M2 × L2) => K r u.1 u.2)) 0 0 (va_A (KW Z a q rp F L) sz) := by
  refine rw_of (ty := .int) (wsF := (fun u : M2 × L2 => KW Z a q rp u.1 u.2)) (u0 := (F, L)) (by decide +kernel) (Nat.le_of_ble_eq_true rfl) rfl ?_
  intro p e s m args below meth c Q A hC hN hsz hT hK hret ls hl
  have hx := hC.1
  have hb := hC.2.1
  have hl : lv_has ls 4 [(0, .ref (a 70)), (1, .int x1), (2, .int x2)] := hl
  have hT : TS vwCl D (KW Z a q rp F L) A s.heap s.heap [] := hT
  have L53 : ∀ (F : M2) (L : L2) (v1 : Int32) (v2 : Int32) (v3 : Int32) (H : Heap) (locs : List Loc) (ls : Array Slot), wj_X3_readSymbol_53 K F L v1 v2 v3 → TS vwCl D (KW Z a q rp F L) A s.heap H locs → lv_has ls 4 [(0, .ref (a 70)), (1, .int v1), (2, .int v2), (3, .int v3)] → W p l e (rk 2 0 0) s m args below meth c H locs 0 0 Q (F0 m 53 ls []) := by
    intro F L v1 v2 v3 H locs ls hm hT hl
    refine lv_aload_n hx hb dX3_readSymbol_53 rfl (lv_at hl 0 rfl) ?_
    refine lv_iload_n hx hb dX3_readSymbol_54 rfl (lv_at hl 1 rfl) ?_
    refine lv_iload_n hx hb dX3_readSymbol_55 rfl (lv_at hl 3 rfl) ?_
    refine k_X3_kindOfSymbol hC hN hK hT.1 hT.D' hm wq_988 (by decide) hl.1 (Nat.le_of_ble_eq_true rfl) ⟨Nat.le_refl _, Nat.le_refl _⟩ dX3_readSymbol_56 (fun r_56 hm => ?_)
    refine lv_lconst (v := 0) hx hb dX3_readSymbol_59 (by decide) ?_
    refine lv_iload_n hx hb dX3_readSymbol_60 rfl (lv_at hl 2 rfl) ?_
    refine lv_iconst (v := 1) hx hb dX3_readSymbol_61 (by decide) ?_
    refine lv_iadd hx hb dX3_readSymbol_62 ?_
    refine k_X3_found hC hN hK hT hm wq_963 (by decide) hl.1 (Nat.le_of_ble_eq_true rfl) ⟨Nat.le_refl _, Nat.le_refl _⟩ dX3_readSymbol_63 (fun r_63 F_63 L_63 H locs hm hT => ?_)
    exact hret 66 _ _ _ _ (F_63, L_63) hm hT rfl dX3_readSymbol_66
  have L30 : ∀ (F : M2) (L : L2) (v1 : Int32) (v2 : Int32) (v3 : Int32) (H : Heap) (locs : List Loc) (ls : Array Slot), wj_X3_readSymbol_30 K F L v1 v2 v3 → TS vwCl D (KW Z a q rp F L) A s.heap H locs → lv_has ls 4 [(0, .ref (a 70)), (1, .int v1), (2, .int v2), (3, .int v3)] → W p l e (rk 2 0 0) s m args below meth c H locs 0 0 Q (F0 m 30 ls []) := by
    intro F L v1 v2 v3 H locs ls hm hT hl
    refine lv_aload_n hx hb dX3_readSymbol_30 rfl (lv_at hl 0 rfl) ?_
    refine lv_iload_n hx hb dX3_readSymbol_31 rfl (lv_at hl 1 rfl) ?_
    refine lv_iload_n hx hb dX3_readSymbol_32 rfl (lv_at hl 3 rfl) ?_
    refine lv_bipush (v := 60) hx hb dX3_readSymbol_33 (by decide) ?_
    refine lv_icmp_ne (tgt := 43) hx hb dX3_readSymbol_35 (by decide) (fun c_35 => ?_) (fun c_35 => ?_)
    · have hm := hm.1 c_35
      refine lv_bipush (v := 23) hx hb dX3_readSymbol_43 (by decide) ?_
      refine lv_lconst (v := 0) hx hb dX3_readSymbol_45 (by decide) ?_
      refine lv_iload_n hx hb dX3_readSymbol_46 rfl (lv_at hl 2 rfl) ?_
      refine lv_iconst (v := 2) hx hb dX3_readSymbol_47 (by decide) ?_
      refine lv_iadd hx hb dX3_readSymbol_48 ?_
      refine k_X3_found hC hN hK hT hm wq_963 (by decide) hl.1 (Nat.le_of_ble_eq_true rfl) ⟨Nat.le_refl _, Nat.le_refl _⟩ dX3_readSymbol_49 (fun r_49 F_49 L_49 H locs hm hT => ?_)
      exact hret 52 _ _ _ _ (F_49, L_49) hm hT rfl dX3_readSymbol_52
    · have hm := hm.2 c_35
      refine lv_bipush (v := 22) hx hb dX3_readSymbol_38 (by decide) ?_
      refine lv_goto (tgt := 45) hx hb dX3_readSymbol_40 (by decide) ?_
      refine lv_lconst (v := 0) hx hb dX3_readSymbol_45 (by decide) ?_
      refine lv_iload_n hx hb dX3_readSymbol_46 rfl (lv_at hl 2 rfl) ?_
      refine lv_iconst (v := 2) hx hb dX3_readSymbol_47 (by decide) ?_
      refine lv_iadd hx hb dX3_readSymbol_48 ?_
      refine k_X3_found hC hN hK hT hm wq_963 (by decide) hl.1 (Nat.le_of_ble_eq_true rfl) ⟨Nat.le_refl _, Nat.le_refl _⟩ dX3_readSymbol_49 (fun r_49 F_49 L_49 H locs hm hT => ?_)
      exact hret 52 _ _ _ _ (F_49, L_49) hm hT rfl dX3_readSymbol_52
  refine lv_aload_n hx hb dX3_readSymbol_0 rfl (lv_at hl 0 rfl) ?_
  refine lv_iload_n hx hb dX3_readSymbol_1 rfl (lv_at hl 2 rfl) ?_
  refine k_X3_byteAt hC hN hK hT.1 hT.D' hm wq_955 (by decide) hl.1 (Nat.le_of_ble_eq_true rfl) ⟨Nat.le_refl _, Nat.le_refl _⟩ dX3_readSymbol_2 (fun r_2 hm => ?_)
  refine lv_istore_n (lv' := [(3, .int r_2), (0, .ref (a 70)), (1, .int x1), (2, .int x2)]) hx hb dX3_readSymbol_5 rfl hl (by decide) rfl (fun ls hl => ?_)
  refine lv_aload_n hx hb dX3_readSymbol_6 rfl (lv_at hl 1 rfl) ?_
  refine lv_iload_n hx hb dX3_readSymbol_7 rfl (lv_at hl 3 rfl) ?_
  refine lv_iconst (v := 1) hx hb dX3_readSymbol_8 (by decide) ?_
  refine lv_iadd hx hb dX3_readSymbol_9 ?_
  refine k_X3_byteAt hC hN hK hT.1 hT.D' hm wq_955 (by decide) hl.1 (Nat.le_of_ble_eq_true rfl) ⟨Nat.le_refl _, Nat.le_refl _⟩ dX3_readSymbol_10 (fun r_10 hm => ?_)
  refine lv_bipush (v := 61) hx hb dX3_readSymbol_13 (by decide) ?_
  refine lv_icmp_ne (tgt := 53) hx hb dX3_readSymbol_15 (by decide) (fun c_15 => ?_) (fun c_15 => ?_)
  · have hm := hm.1 c_15
    exact L53 _ _ _ _ _ _ _ _ hm hT (lv_sub hl [1, 2, 3, 0] rfl)
  · have hm := hm.2 c_15
    refine lv_iload_n hx hb dX3_readSymbol_18 rfl (lv_at hl 0 rfl) ?_
    refine lv_bipush (v := 60) hx hb dX3_readSymbol_19 (by decide) ?_
    refine lv_icmp_eq (tgt := 30) hx hb dX3_readSymbol_21 (by decide) (fun c_21 => ?_) (fun c_21 => ?_)
    · have hm := hm.1 c_21
      exact L30 _ _ _ _ _ _ _ _ hm hT (lv_sub hl [1, 2, 3, 0] rfl)
    · have hm := hm.2 c_21
      refine lv_iload_n hx hb dX3_readSymbol_24 rfl (lv_at hl 0 rfl) ?_
      refine lv_bipush (v := 62) hx hb dX3_readSymbol_25 (by decide) ?_
      refine lv_icmp_ne (tgt := 53) hx hb dX3_readSymbol_27 (by decide) (fun c_27 => ?_) (fun c_27 => ?_)
      · have hm := hm.1 c_27
        exact L53 _ _ _ _ _ _ _ _ hm hT (lv_sub hl [1, 2, 3, 0] rfl)
      · have hm := hm.2 c_27
        exact L30 _ _ _ _ _ _ _ _ hm hT (lv_sub hl [1, 2, 3, 0] rfl)
section KX3_readSymbol
variable {p : Program} {l : Launch} {e : Env} {s : State} {m : MethodId} {args : Array Value} {below : List Frame} {meth : Method} {c : Code} {H H0 : Heap} {locs : List Loc} {cells slots : Nat} {Q : State → Prop} {R : Room} {rn mcR msR : Nat}
variable {pc : Nat} {ls : Array Slot} {rest : List Value} {A : Nat → Prop} {D : va_G}
variable {cc : ByteArray} {nL index : Nat} {own host : String}
theorem k_X3_readSymbol {Z : Nat → ClassId} {a q : Nat → Nat} {rp : Nat} {F : M2} {L : L2} {x1 : Int32} {x2 : Int32} {K : Int32 → M2 → L2 → Prop} (hC : CallFix p m c cc nL s args lw_g own) (hN : NW s) (hK : va_K D vwCl (tysG Z) s) (hT : TS vwCl D (KW Z a q rp F L) A H0 H locs) (hm : wp_X3_readSymbol F L x1 x2 K) (hl : Cond.methodLink own index yX3_readSymbol ∈ lw_g) (hlt : 2 < rn) (hsize : ls.size = nL) (hW : (rest.map fun v => v.category).sum ≤ 8) (hf : cells + 0 ≤ mcR ∧ slots + 0 ≤ msR) (hdg : decode cc pc = .ok (.invokevirtual index, 3)) (kk : ∀ (r : Int32) (F1 : M2) (L1 : L2) (H1 : Heap) (locs1 : List Loc), K r F1 L1 → TS vwCl D (KW Z a q rp F1 L1) A H0 H1 locs1 → W p l e (rk rn mcR msR) s m args below meth c H1 locs1 cells slots Q (F0 m (pc + 3) ls (.int r :: rest))) : W p l e (rk rn mcR msR) s m args below meth c H locs cells slots Q (F0 m pc ls (.int x2 :: .int x1 :: .ref (a 70) :: rest)) :=
  rw_go (wsF := (fun u : M2 × L2 => KW Z a q rp u.1 u.2)) (u0 := (F, L)) (wr := []) (isC := cutKW) (isR := []) (pm := cutKW) (ws' := (fun u : M2 × L2 => KW Z a q rp u.1 u.2)) (runV (As := [.int x1, .int x2]) hC hN (c_X3_readSymbol l D Z a q rp F L H.size x1 x2 K hm) mi_X3_readSymbol hl wq_986 wq_36 hlt hT.1 hT.D' hK (q0 := 5) rfl rfl rfl hsize rfl hW hdg hf) (cutOkKW Z a q rp F L) hT (fun r u H1 locs1 hk hT1 => kk r u.1 u.2 H1 locs1 hk hT1)
end KX3_readSymbol
def wp_X3_readOne (F : M2) (L : L2) (x1 : Int32) (x2 : Int32) (K : Int32 → M2 → L2 → Prop) : Prop := wp_X3_byteAt F L x2 (fun r_2 => ((¬ r_2 = ((-1)) → ((x1 < 400 → wp_X3_isLetter F L r_2 (fun r_37 => ((r_37 = 0 → wp_X3_isDigit F L r_2 (fun r_51 => ((r_51 = 0 → wp_X3_readSymbol F L x1 x2 (fun r_69 F_69 L_69 => K r_69 F_69 L_69)) ∧ (¬ r_51 = 0 → wp_X3_readNumber F L x1 x2 (fun r_60 F_60 L_60 => K r_60 F_60 L_60))))) ∧ (¬ r_37 = 0 → wp_X3_readWord F L x1 x2 (fun r_46 F_46 L_46 => K r_46 F_46 L_46))))) ∧ (¬ x1 < 400 → wp_X3_found F L x1 1 0 x2 (fun r_32 F_32 L_32 => K r_32 F_32 L_32)))) ∧ (r_2 = ((-1)) → wp_X3_found F L x1 0 0 x2 (fun r_16 F_16 L_16 => K r_16 F_16 L_16))))
set_option maxRecDepth 100000 in
set_option maxHeartbeats 4000000 in
theorem c_X3_readOne (l : Launch) (D : va_G) (Z : Nat → ClassId) (a q : Nat → Nat) (rp : Nat) (F : M2) (L : L2) (sz : Nat) (x1 : Int32) (x2 : Int32) (K : Int32 → M2 → L2 → Prop) (hm : wp_X3_readOne F L x1 x2 K) : Met l yX3_readOne (wy yX3_readOne cX3_readOne 4 (some .int)) (rk 4 0 0) (pre vwCl D Z (KW Z a q rp F L) sz [.ref (a 70), .int x1, .int x2]) (poI vwCl D Z (fun u : M2 × L2 => KW Z a q rp u.1 u.2) (F, L) sz (fun (r : Int32) (u : M2 × L2) => K r u.1 u.2)) 0 0 (va_A (KW Z a q rp F L) sz) := by
  refine rw_of (ty := .int) (wsF := (fun u : M2 × L2 => KW Z a q rp u.1 u.2)) (u0 := (F, L)) (by decide +kernel) (Nat.le_of_ble_eq_true rfl) rfl ?_
  intro p e s m args below meth c Q A hC hN hsz hT hK hret ls hl
  have hx := hC.1
  have hb := hC.2.1
  have hl : lv_has ls 4 [(0, .ref (a 70)), (1, .int x1), (2, .int x2)] := hl
  have hT : TS vwCl D (KW Z a q rp F L) A s.heap s.heap [] := hT
  refine lv_aload_n hx hb dX3_readOne_0 rfl (lv_at hl 0 rfl) ?_
  refine lv_iload_n hx hb dX3_readOne_1 rfl (lv_at hl 2 rfl) ?_
  refine k_X3_byteAt hC hN hK hT.1 hT.D' hm wq_955 (by decide) hl.1 (Nat.le_of_ble_eq_true rfl) ⟨Nat.le_refl _, Nat.le_refl _⟩ dX3_readOne_2 (fun r_2 hm => ?_)
  refine lv_istore_n (lv' := [(3, .int r_2), (0, .ref (a 70)), (1, .int x1), (2, .int x2)]) hx hb dX3_readOne_5 rfl hl (by decide) rfl (fun ls hl => ?_)
  refine lv_iload_n hx hb dX3_readOne_6 rfl (lv_at hl 0 rfl) ?_
  refine lv_iconst (v := (-1)) hx hb dX3_readOne_7 (by decide) ?_
  refine lv_icmp_ne (tgt := 20) hx hb dX3_readOne_8 (by decide) (fun c_8 => ?_) (fun c_8 => ?_)
  · have hm := hm.1 c_8
    refine lv_iload_n hx hb dX3_readOne_20 rfl (lv_at hl 2 rfl) ?_
    refine lv_sipush (v := 400) hx hb dX3_readOne_21 (by decide) ?_
    refine lv_icmp_lt (tgt := 36) hx hb dX3_readOne_24 (by decide) (fun c_24 => ?_) (fun c_24 => ?_)
    · have hm := hm.1 c_24
      refine lv_iload_n hx hb dX3_readOne_36 rfl (lv_at hl 0 rfl) ?_
      refine k_X3_isLetter hC hN hK hT.1 hT.D' hm wq_167 (by decide) hl.1 (Nat.le_of_ble_eq_true rfl) ⟨Nat.le_refl _, Nat.le_refl _⟩ dX3_readOne_37 (fun r_37 hm => ?_)
      refine lv_if_eq (tgt := 50) hx hb dX3_readOne_40 (by decide) (fun c_40 => ?_) (fun c_40 => ?_)
      · have hm := hm.1 c_40
        refine lv_iload_n hx hb dX3_readOne_50 rfl (lv_at hl 0 rfl) ?_
        refine k_X3_isDigit hC hN hK hT.1 hT.D' hm wq_170 (by decide) hl.1 (Nat.le_of_ble_eq_true rfl) ⟨Nat.le_refl _, Nat.le_refl _⟩ dX3_readOne_51 (fun r_51 hm => ?_)
        refine lv_if_eq (tgt := 66) hx hb dX3_readOne_54 (by decide) (fun c_54 => ?_) (fun c_54 => ?_)
        · have hm := hm.1 c_54
          refine lv_aload_n hx hb dX3_readOne_66 rfl (lv_at hl 1 rfl) ?_
          refine lv_iload_n hx hb dX3_readOne_67 rfl (lv_at hl 2 rfl) ?_
          refine lv_iload_n hx hb dX3_readOne_68 rfl (lv_at hl 3 rfl) ?_
          refine k_X3_readSymbol hC hN hK hT hm wq_984 (by decide) hl.1 (Nat.le_of_ble_eq_true rfl) ⟨Nat.le_refl _, Nat.le_refl _⟩ dX3_readOne_69 (fun r_69 F_69 L_69 H locs hm hT => ?_)
          exact hret 72 _ _ _ _ (F_69, L_69) hm hT rfl dX3_readOne_72
        · have hm := hm.2 c_54
          refine lv_aload_n hx hb dX3_readOne_57 rfl (lv_at hl 1 rfl) ?_
          refine lv_iload_n hx hb dX3_readOne_58 rfl (lv_at hl 2 rfl) ?_
          refine lv_iload_n hx hb dX3_readOne_59 rfl (lv_at hl 3 rfl) ?_
          refine k_X3_readNumber hC hN hK hT hm wq_979 (by decide) hl.1 (Nat.le_of_ble_eq_true rfl) ⟨Nat.le_refl _, Nat.le_refl _⟩ dX3_readOne_60 (fun r_60 F_60 L_60 H locs hm hT => ?_)
          refine lv_goto (tgt := 72) hx hb dX3_readOne_63 (by decide) ?_
          exact hret 72 _ _ _ _ (F_60, L_60) hm hT rfl dX3_readOne_72
      · have hm := hm.2 c_40
        refine lv_aload_n hx hb dX3_readOne_43 rfl (lv_at hl 1 rfl) ?_
        refine lv_iload_n hx hb dX3_readOne_44 rfl (lv_at hl 2 rfl) ?_
        refine lv_iload_n hx hb dX3_readOne_45 rfl (lv_at hl 3 rfl) ?_
        refine k_X3_readWord hC hN hK hT hm wq_967 (by decide) hl.1 (Nat.le_of_ble_eq_true rfl) ⟨Nat.le_refl _, Nat.le_refl _⟩ dX3_readOne_46 (fun r_46 F_46 L_46 H locs hm hT => ?_)
        exact hret 49 _ _ _ _ (F_46, L_46) hm hT rfl dX3_readOne_49
    · have hm := hm.2 c_24
      refine lv_aload_n hx hb dX3_readOne_27 rfl (lv_at hl 1 rfl) ?_
      refine lv_iload_n hx hb dX3_readOne_28 rfl (lv_at hl 2 rfl) ?_
      refine lv_iconst (v := 1) hx hb dX3_readOne_29 (by decide) ?_
      refine lv_lconst (v := 0) hx hb dX3_readOne_30 (by decide) ?_
      refine lv_iload_n hx hb dX3_readOne_31 rfl (lv_at hl 3 rfl) ?_
      refine k_X3_found hC hN hK hT hm wq_963 (by decide) hl.1 (Nat.le_of_ble_eq_true rfl) ⟨Nat.le_refl _, Nat.le_refl _⟩ dX3_readOne_32 (fun r_32 F_32 L_32 H locs hm hT => ?_)
      exact hret 35 _ _ _ _ (F_32, L_32) hm hT rfl dX3_readOne_35
  · have hm := hm.2 c_8
    refine lv_aload_n hx hb dX3_readOne_11 rfl (lv_at hl 1 rfl) ?_
    refine lv_iload_n hx hb dX3_readOne_12 rfl (lv_at hl 2 rfl) ?_
    refine lv_iconst (v := 0) hx hb dX3_readOne_13 (by decide) ?_
    refine lv_lconst (v := 0) hx hb dX3_readOne_14 (by decide) ?_
    refine lv_iload_n hx hb dX3_readOne_15 rfl (lv_at hl 3 rfl) ?_
    refine k_X3_found hC hN hK hT hm wq_963 (by decide) hl.1 (Nat.le_of_ble_eq_true rfl) ⟨Nat.le_refl _, Nat.le_refl _⟩ dX3_readOne_16 (fun r_16 F_16 L_16 H locs hm hT => ?_)
    exact hret 19 _ _ _ _ (F_16, L_16) hm hT rfl dX3_readOne_19
section KX3_readOne
variable {p : Program} {l : Launch} {e : Env} {s : State} {m : MethodId} {args : Array Value} {below : List Frame} {meth : Method} {c : Code} {H H0 : Heap} {locs : List Loc} {cells slots : Nat} {Q : State → Prop} {R : Room} {rn mcR msR : Nat}
variable {pc : Nat} {ls : Array Slot} {rest : List Value} {A : Nat → Prop} {D : va_G}
variable {cc : ByteArray} {nL index : Nat} {own host : String}
end KX3_readOne
