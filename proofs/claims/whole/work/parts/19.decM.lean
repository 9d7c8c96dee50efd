theorem dX8_init_0 : decode cX8_init 0 = .ok (.aload_n 0, 1) := by decide +kernel
theorem dX8_init_1 : decode cX8_init 1 = .ok (.invokespecial 1, 3) := by decide +kernel
theorem dX8_init_4 : decode cX8_init 4 = .ok (.aload_n 0, 1) := by decide +kernel
theorem dX8_init_5 : decode cX8_init 5 = .ok (.bipush 48, 2) := by decide +kernel
theorem dX8_init_7 : decode cX8_init 7 = .ok (.newarray .int, 2) := by decide +kernel
theorem dX8_init_9 : decode cX8_init 9 = .ok (.putfield 7, 3) := by decide +kernel
theorem dX8_init_12 : decode cX8_init 12 = .ok (.aload_n 0, 1) := by decide +kernel
theorem dX8_init_13 : decode cX8_init 13 = .ok (.bipush 6, 2) := by decide +kernel
theorem dX8_init_15 : decode cX8_init 15 = .ok (.newarray .int, 2) := by decide +kernel
theorem dX8_init_17 : decode cX8_init 17 = .ok (.putfield 13, 3) := by decide +kernel
theorem dX8_init_20 : decode cX8_init 20 = .ok (.aload_n 0, 1) := by decide +kernel
theorem dX8_init_21 : decode cX8_init 21 = .ok (.bipush 18, 2) := by decide +kernel
theorem dX8_init_23 : decode cX8_init 23 = .ok (.newarray .int, 2) := by decide +kernel
theorem dX8_init_25 : decode cX8_init 25 = .ok (.putfield 16, 3) := by decide +kernel
theorem dX8_init_28 : decode cX8_init 28 = .ok (.aload_n 0, 1) := by decide +kernel
theorem dX8_init_29 : decode cX8_init 29 = .ok (.iconst 3, 1) := by decide +kernel
theorem dX8_init_30 : decode cX8_init 30 = .ok (.newarray .int, 2) := by decide +kernel
theorem dX8_init_32 : decode cX8_init 32 = .ok (.putfield 19, 3) := by decide +kernel
theorem dX8_init_35 : decode cX8_init 35 = .ok (.aload_n 0, 1) := by decide +kernel
theorem dX8_init_36 : decode cX8_init 36 = .ok (.bipush 17, 2) := by decide +kernel
theorem dX8_init_38 : decode cX8_init 38 = .ok (.newarray .int, 2) := by decide +kernel
theorem dX8_init_40 : decode cX8_init 40 = .ok (.putfield 22, 3) := by decide +kernel
theorem dX8_init_43 : decode cX8_init 43 = .ok (.aload_n 0, 1) := by decide +kernel
theorem dX8_init_44 : decode cX8_init 44 = .ok (.bipush 6, 2) := by decide +kernel
theorem dX8_init_46 : decode cX8_init 46 = .ok (.newarray .int, 2) := by decide +kernel
theorem dX8_init_48 : decode cX8_init 48 = .ok (.putfield 25, 3) := by decide +kernel
theorem dX8_init_51 : decode cX8_init 51 = .ok (.aload_n 0, 1) := by decide +kernel
theorem dX8_init_52 : decode cX8_init 52 = .ok (.bipush 18, 2) := by decide +kernel
theorem dX8_init_54 : decode cX8_init 54 = .ok (.newarray .int, 2) := by decide +kernel
theorem dX8_init_56 : decode cX8_init 56 = .ok (.putfield 28, 3) := by decide +kernel
theorem dX8_init_59 : decode cX8_init 59 = .ok (.aload_n 0, 1) := by decide +kernel
theorem dX8_init_60 : decode cX8_init 60 = .ok (.bipush 17, 2) := by decide +kernel
theorem dX8_init_62 : decode cX8_init 62 = .ok (.newarray .int, 2) := by decide +kernel
theorem dX8_init_64 : decode cX8_init 64 = .ok (.putfield 31, 3) := by decide +kernel
theorem dX8_init_67 : decode cX8_init 67 = .ok (.aload_n 0, 1) := by decide +kernel
theorem dX8_init_68 : decode cX8_init 68 = .ok (.bipush 17, 2) := by decide +kernel
theorem dX8_init_70 : decode cX8_init 70 = .ok (.newarray .int, 2) := by decide +kernel
theorem dX8_init_72 : decode cX8_init 72 = .ok (.putfield 34, 3) := by decide +kernel
theorem dX8_init_75 : decode cX8_init 75 = .ok (.aload_n 0, 1) := by decide +kernel
theorem dX8_init_76 : decode cX8_init 76 = .ok (.sipush 238, 3) := by decide +kernel
theorem dX8_init_79 : decode cX8_init 79 = .ok (.newarray .int, 2) := by decide +kernel
theorem dX8_init_81 : decode cX8_init 81 = .ok (.putfield 37, 3) := by decide +kernel
theorem dX8_init_84 : decode cX8_init 84 = .ok (.aload_n 0, 1) := by decide +kernel
theorem dX8_init_85 : decode cX8_init 85 = .ok (.bipush 34, 2) := by decide +kernel
theorem dX8_init_87 : decode cX8_init 87 = .ok (.newarray .int, 2) := by decide +kernel
theorem dX8_init_89 : decode cX8_init 89 = .ok (.putfield 40, 3) := by decide +kernel
theorem dX8_init_92 : decode cX8_init 92 = .ok (.aload_n 0, 1) := by decide +kernel
theorem dX8_init_93 : decode cX8_init 93 = .ok (.iconst 2, 1) := by decide +kernel
theorem dX8_init_94 : decode cX8_init 94 = .ok (.newarray .boolean, 2) := by decide +kernel
theorem dX8_init_96 : decode cX8_init 96 = .ok (.putfield 43, 3) := by decide +kernel
theorem dX8_init_99 : decode cX8_init 99 = .ok (.aload_n 0, 1) := by decide +kernel
theorem dX8_init_100 : decode cX8_init 100 = .ok (.bipush 6, 2) := by decide +kernel
theorem dX8_init_102 : decode cX8_init 102 = .ok (.newarray .int, 2) := by decide +kernel
theorem dX8_init_104 : decode cX8_init 104 = .ok (.putfield 47, 3) := by decide +kernel
theorem dX8_init_107 : decode cX8_init 107 = .ok (.aload_n 0, 1) := by decide +kernel
theorem dX8_init_108 : decode cX8_init 108 = .ok (.bipush 6, 2) := by decide +kernel
theorem dX8_init_110 : decode cX8_init 110 = .ok (.newarray .int, 2) := by decide +kernel
theorem dX8_init_112 : decode cX8_init 112 = .ok (.putfield 50, 3) := by decide +kernel
theorem dX8_init_115 : decode cX8_init 115 = .ok (.aload_n 0, 1) := by decide +kernel
theorem dX8_init_116 : decode cX8_init 116 = .ok (.bipush 18, 2) := by decide +kernel
theorem dX8_init_118 : decode cX8_init 118 = .ok (.newarray .int, 2) := by decide +kernel
theorem dX8_init_120 : decode cX8_init 120 = .ok (.putfield 53, 3) := by decide +kernel
theorem dX8_init_123 : decode cX8_init 123 = .ok (.aload_n 0, 1) := by decide +kernel
theorem dX8_init_124 : decode cX8_init 124 = .ok (.getfield 31, 3) := by decide +kernel
theorem dX8_init_127 : decode cX8_init 127 = .ok (.invokestatic 56, 3) := by decide +kernel
theorem dX8_init_130 : decode cX8_init 130 = .ok (.return_, 1) := by decide +kernel
theorem dX8_in_0 : decode cX8_in 0 = .ok (.lload_n 0, 1) := by decide +kernel
theorem dX8_in_1 : decode cX8_in 1 = .ok (.lload_n 2, 1) := by decide +kernel
theorem dX8_in_2 : decode cX8_in 2 = .ok (.lcmp, 1) := by decide +kernel
theorem dX8_in_3 : decode cX8_in 3 = .ok (.ifCond .lt 14, 3) := by decide +kernel
theorem dX8_in_6 : decode cX8_in 6 = .ok (.lload_n 0, 1) := by decide +kernel
theorem dX8_in_7 : decode cX8_in 7 = .ok (.lload 4, 2) := by decide +kernel
theorem dX8_in_9 : decode cX8_in 9 = .ok (.lcmp, 1) := by decide +kernel
theorem dX8_in_10 : decode cX8_in 10 = .ok (.ifCond .gt 7, 3) := by decide +kernel
theorem dX8_in_13 : decode cX8_in 13 = .ok (.iconst 1, 1) := by decide +kernel
theorem dX8_in_14 : decode cX8_in 14 = .ok (.goto 4, 3) := by decide +kernel
theorem dX8_in_17 : decode cX8_in 17 = .ok (.iconst 0, 1) := by decide +kernel
theorem dX8_in_18 : decode cX8_in 18 = .ok (.ireturn, 1) := by decide +kernel
theorem dX8_has_0 : decode cX8_has 0 = .ok (.iload_n 0, 1) := by decide +kernel
theorem dX8_has_1 : decode cX8_has 1 = .ok (.iload_n 1, 1) := by decide +kernel
theorem dX8_has_2 : decode cX8_has 2 = .ok (.ishr, 1) := by decide +kernel
theorem dX8_has_3 : decode cX8_has 3 = .ok (.iconst 1, 1) := by decide +kernel
theorem dX8_has_4 : decode cX8_has 4 = .ok (.iand, 1) := by decide +kernel
theorem dX8_has_5 : decode cX8_has 5 = .ok (.iconst 1, 1) := by decide +kernel
theorem dX8_has_6 : decode cX8_has 6 = .ok (.if_icmp .ne 7, 3) := by decide +kernel
theorem dX8_has_9 : decode cX8_has 9 = .ok (.iconst 1, 1) := by decide +kernel
theorem dX8_has_10 : decode cX8_has 10 = .ok (.goto 4, 3) := by decide +kernel
theorem dX8_has_13 : decode cX8_has 13 = .ok (.iconst 0, 1) := by decide +kernel
theorem dX8_has_14 : decode cX8_has 14 = .ok (.ireturn, 1) := by decide +kernel
theorem dX8_many_0 : decode cX8_many 0 = .ok (.iconst 0, 1) := by decide +kernel
theorem dX8_many_1 : decode cX8_many 1 = .ok (.istore_n 1, 1) := by decide +kernel
theorem dX8_many_2 : decode cX8_many 2 = .ok (.iconst 0, 1) := by decide +kernel
theorem dX8_many_3 : decode cX8_many 3 = .ok (.istore_n 2, 1) := by decide +kernel
theorem dX8_many_4 : decode cX8_many 4 = .ok (.iload_n 2, 1) := by decide +kernel
theorem dX8_many_5 : decode cX8_many 5 = .ok (.bipush 8, 2) := by decide +kernel
theorem dX8_many_7 : decode cX8_many 7 = .ok (.if_icmp .ge 17, 3) := by decide +kernel
theorem dX8_many_10 : decode cX8_many 10 = .ok (.iload_n 1, 1) := by decide +kernel
theorem dX8_many_11 : decode cX8_many 11 = .ok (.iload_n 0, 1) := by decide +kernel
theorem dX8_many_12 : decode cX8_many 12 = .ok (.iload_n 2, 1) := by decide +kernel
theorem dX8_many_13 : decode cX8_many 13 = .ok (.ishr, 1) := by decide +kernel
theorem dX8_many_14 : decode cX8_many 14 = .ok (.iconst 1, 1) := by decide +kernel
theorem dX8_many_15 : decode cX8_many 15 = .ok (.iand, 1) := by decide +kernel
theorem dX8_many_16 : decode cX8_many 16 = .ok (.iadd, 1) := by decide +kernel
theorem dX8_many_17 : decode cX8_many 17 = .ok (.istore_n 1, 1) := by decide +kernel
theorem dX8_many_18 : decode cX8_many 18 = .ok (.iinc 2 1, 3) := by decide +kernel
theorem dX8_many_21 : decode cX8_many 21 = .ok (.goto (-17), 3) := by decide +kernel
theorem dX8_many_24 : decode cX8_many 24 = .ok (.iload_n 1, 1) := by decide +kernel
theorem dX8_many_25 : decode cX8_many 25 = .ok (.ireturn, 1) := by decide +kernel
theorem dX8_power_0 : decode cX8_power 0 = .ok (.iconst 1, 1) := by decide +kernel
theorem dX8_power_1 : decode cX8_power 1 = .ok (.istore_n 2, 1) := by decide +kernel
theorem dX8_power_2 : decode cX8_power 2 = .ok (.iconst 0, 1) := by decide +kernel
theorem dX8_power_3 : decode cX8_power 3 = .ok (.istore_n 3, 1) := by decide +kernel
theorem dX8_power_4 : decode cX8_power 4 = .ok (.iload_n 3, 1) := by decide +kernel
theorem dX8_power_5 : decode cX8_power 5 = .ok (.iload_n 1, 1) := by decide +kernel
theorem dX8_power_6 : decode cX8_power 6 = .ok (.if_icmp .ge 13, 3) := by decide +kernel
theorem dX8_power_9 : decode cX8_power 9 = .ok (.iload_n 2, 1) := by decide +kernel
theorem dX8_power_10 : decode cX8_power 10 = .ok (.iload_n 0, 1) := by decide +kernel
theorem dX8_power_11 : decode cX8_power 11 = .ok (.imul, 1) := by decide +kernel
theorem dX8_power_12 : decode cX8_power 12 = .ok (.istore_n 2, 1) := by decide +kernel
theorem dX8_power_13 : decode cX8_power 13 = .ok (.iinc 3 1, 3) := by decide +kernel
theorem dX8_power_16 : decode cX8_power 16 = .ok (.goto (-12), 3) := by decide +kernel
theorem dX8_power_19 : decode cX8_power 19 = .ok (.iload_n 2, 1) := by decide +kernel
theorem dX8_power_20 : decode cX8_power 20 = .ok (.ireturn, 1) := by decide +kernel
theorem dX8_noSlip_0 : decode cX8_noSlip 0 = .ok (.iload_n 0, 1) := by decide +kernel
theorem dX8_noSlip_1 : decode cX8_noSlip 1 = .ok (.i2l, 1) := by decide +kernel
theorem dX8_noSlip_2 : decode cX8_noSlip 2 = .ok (.lconst 0, 1) := by decide +kernel
theorem dX8_noSlip_3 : decode cX8_noSlip 3 = .ok (.ldc2_w 64, 3) := by decide +kernel
theorem dX8_noSlip_6 : decode cX8_noSlip 6 = .ok (.invokestatic 66, 3) := by decide +kernel
theorem dX8_noSlip_9 : decode cX8_noSlip 9 = .ok (.ifCond .ne 7, 3) := by decide +kernel
theorem dX8_noSlip_12 : decode cX8_noSlip 12 = .ok (.iconst 1, 1) := by decide +kernel
theorem dX8_noSlip_13 : decode cX8_noSlip 13 = .ok (.goto 4, 3) := by decide +kernel
theorem dX8_noSlip_16 : decode cX8_noSlip 16 = .ok (.iconst 0, 1) := by decide +kernel
theorem dX8_noSlip_17 : decode cX8_noSlip 17 = .ok (.ireturn, 1) := by decide +kernel
theorem dX8_noSpike_0 : decode cX8_noSpike 0 = .ok (.iload_n 0, 1) := by decide +kernel
theorem dX8_noSpike_1 : decode cX8_noSpike 1 = .ok (.i2l, 1) := by decide +kernel
theorem dX8_noSpike_2 : decode cX8_noSpike 2 = .ok (.lconst 0, 1) := by decide +kernel
theorem dX8_noSpike_3 : decode cX8_noSpike 3 = .ok (.ldc2_w 70, 3) := by decide +kernel
theorem dX8_noSpike_6 : decode cX8_noSpike 6 = .ok (.invokestatic 66, 3) := by decide +kernel
theorem dX8_noSpike_9 : decode cX8_noSpike 9 = .ok (.ifCond .ne 7, 3) := by decide +kernel
theorem dX8_noSpike_12 : decode cX8_noSpike 12 = .ok (.iconst 1, 1) := by decide +kernel
theorem dX8_noSpike_13 : decode cX8_noSpike 13 = .ok (.goto 4, 3) := by decide +kernel
theorem dX8_noSpike_16 : decode cX8_noSpike 16 = .ok (.iconst 0, 1) := by decide +kernel
theorem dX8_noSpike_17 : decode cX8_noSpike 17 = .ok (.ireturn, 1) := by decide +kernel
theorem dX8_noThing_0 : decode cX8_noThing 0 = .ok (.iload_n 1, 1) := by decide +kernel
theorem dX8_noThing_1 : decode cX8_noThing 1 = .ok (.i2l, 1) := by decide +kernel
theorem dX8_noThing_2 : decode cX8_noThing 2 = .ok (.lconst 0, 1) := by decide +kernel
theorem dX8_noThing_3 : decode cX8_noThing 3 = .ok (.aload_n 0, 1) := by decide +kernel
theorem dX8_noThing_4 : decode cX8_noThing 4 = .ok (.getfield 72, 3) := by decide +kernel
theorem dX8_noThing_7 : decode cX8_noThing 7 = .ok (.iconst 1, 1) := by decide +kernel
theorem dX8_noThing_8 : decode cX8_noThing 8 = .ok (.isub, 1) := by decide +kernel
theorem dX8_noThing_9 : decode cX8_noThing 9 = .ok (.i2l, 1) := by decide +kernel
theorem dX8_noThing_10 : decode cX8_noThing 10 = .ok (.invokestatic 66, 3) := by decide +kernel
theorem dX8_noThing_13 : decode cX8_noThing 13 = .ok (.ifCond .ne 7, 3) := by decide +kernel
theorem dX8_noThing_16 : decode cX8_noThing 16 = .ok (.iconst 1, 1) := by decide +kernel
theorem dX8_noThing_17 : decode cX8_noThing 17 = .ok (.goto 4, 3) := by decide +kernel
theorem dX8_noThing_20 : decode cX8_noThing 20 = .ok (.iconst 0, 1) := by decide +kernel
theorem dX8_noThing_21 : decode cX8_noThing 21 = .ok (.ireturn, 1) := by decide +kernel
theorem dX8_layHand_0 : decode cX8_layHand 0 = .ok (.iconst 0, 1) := by decide +kernel
theorem dX8_layHand_1 : decode cX8_layHand 1 = .ok (.istore_n 1, 1) := by decide +kernel
theorem dX8_layHand_2 : decode cX8_layHand 2 = .ok (.iload_n 1, 1) := by decide +kernel
theorem dX8_layHand_3 : decode cX8_layHand 3 = .ok (.bipush 8, 2) := by decide +kernel
theorem dX8_layHand_5 : decode cX8_layHand 5 = .ok (.if_icmp .ge 21, 3) := by decide +kernel
theorem dX8_layHand_8 : decode cX8_layHand 8 = .ok (.aload_n 0, 1) := by decide +kernel
theorem dX8_layHand_9 : decode cX8_layHand 9 = .ok (.iload_n 1, 1) := by decide +kernel
theorem dX8_layHand_10 : decode cX8_layHand 10 = .ok (.iconst 3, 1) := by decide +kernel
theorem dX8_layHand_11 : decode cX8_layHand 11 = .ok (.iastore, 1) := by decide +kernel
theorem dX8_layHand_12 : decode cX8_layHand 12 = .ok (.aload_n 0, 1) := by decide +kernel
theorem dX8_layHand_13 : decode cX8_layHand 13 = .ok (.bipush 8, 2) := by decide +kernel
theorem dX8_layHand_15 : decode cX8_layHand 15 = .ok (.iload_n 1, 1) := by decide +kernel
theorem dX8_layHand_16 : decode cX8_layHand 16 = .ok (.iadd, 1) := by decide +kernel
theorem dX8_layHand_17 : decode cX8_layHand 17 = .ok (.bipush (-9), 2) := by decide +kernel
theorem dX8_layHand_19 : decode cX8_layHand 19 = .ok (.iastore, 1) := by decide +kernel
theorem dX8_layHand_20 : decode cX8_layHand 20 = .ok (.iinc 1 1, 3) := by decide +kernel
theorem dX8_layHand_23 : decode cX8_layHand 23 = .ok (.goto (-21), 3) := by decide +kernel
theorem dX8_layHand_26 : decode cX8_layHand 26 = .ok (.aload_n 0, 1) := by decide +kernel
theorem dX8_layHand_27 : decode cX8_layHand 27 = .ok (.bipush 16, 2) := by decide +kernel
theorem dX8_layHand_29 : decode cX8_layHand 29 = .ok (.iconst 0, 1) := by decide +kernel
theorem dX8_layHand_30 : decode cX8_layHand 30 = .ok (.iastore, 1) := by decide +kernel
theorem dX8_layHand_31 : decode cX8_layHand 31 = .ok (.return_, 1) := by decide +kernel
theorem dX8_write_0 : decode cX8_write 0 = .ok (.aload_n 0, 1) := by decide +kernel
theorem dX8_write_1 : decode cX8_write 1 = .ok (.iconst 0, 1) := by decide +kernel
theorem dX8_write_2 : decode cX8_write 2 = .ok (.putfield 60, 3) := by decide +kernel
theorem dX8_write_5 : decode cX8_write 5 = .ok (.iload_n 1, 1) := by decide +kernel
theorem dX8_write_6 : decode cX8_write 6 = .ok (.i2l, 1) := by decide +kernel
theorem dX8_write_7 : decode cX8_write 7 = .ok (.lconst 0, 1) := by decide +kernel
theorem dX8_write_8 : decode cX8_write 8 = .ok (.ldc2_w 75, 3) := by decide +kernel
theorem dX8_write_11 : decode cX8_write 11 = .ok (.invokestatic 66, 3) := by decide +kernel
theorem dX8_write_14 : decode cX8_write 14 = .ok (.ifCond .ne 6, 3) := by decide +kernel
theorem dX8_write_17 : decode cX8_write 17 = .ok (.bipush (-2), 2) := by decide +kernel
theorem dX8_write_19 : decode cX8_write 19 = .ok (.ireturn, 1) := by decide +kernel
theorem dX8_write_20 : decode cX8_write 20 = .ok (.aload_n 0, 1) := by decide +kernel
theorem dX8_write_21 : decode cX8_write 21 = .ok (.getfield 77, 3) := by decide +kernel
theorem dX8_write_24 : decode cX8_write 24 = .ok (.bipush 48, 2) := by decide +kernel
theorem dX8_write_26 : decode cX8_write 26 = .ok (.if_icmp .ne 6, 3) := by decide +kernel
theorem dX8_write_29 : decode cX8_write 29 = .ok (.bipush (-4), 2) := by decide +kernel
theorem dX8_write_31 : decode cX8_write 31 = .ok (.ireturn, 1) := by decide +kernel
theorem dX8_write_32 : decode cX8_write 32 = .ok (.aload_n 0, 1) := by decide +kernel
theorem dX8_write_33 : decode cX8_write 33 = .ok (.getfield 7, 3) := by decide +kernel
theorem dX8_write_36 : decode cX8_write 36 = .ok (.aload_n 0, 1) := by decide +kernel
theorem dX8_write_37 : decode cX8_write 37 = .ok (.getfield 77, 3) := by decide +kernel
theorem dX8_write_40 : decode cX8_write 40 = .ok (.iload_n 1, 1) := by decide +kernel
theorem dX8_write_41 : decode cX8_write 41 = .ok (.iastore, 1) := by decide +kernel
theorem dX8_write_42 : decode cX8_write 42 = .ok (.aload_n 0, 1) := by decide +kernel
theorem dX8_write_43 : decode cX8_write 43 = .ok (.dup, 1) := by decide +kernel
theorem dX8_write_44 : decode cX8_write 44 = .ok (.getfield 77, 3) := by decide +kernel
theorem dX8_write_47 : decode cX8_write 47 = .ok (.iconst 1, 1) := by decide +kernel
theorem dX8_write_48 : decode cX8_write 48 = .ok (.iadd, 1) := by decide +kernel
theorem dX8_write_49 : decode cX8_write 49 = .ok (.putfield 77, 3) := by decide +kernel
theorem dX8_write_52 : decode cX8_write 52 = .ok (.aload_n 0, 1) := by decide +kernel
theorem dX8_write_53 : decode cX8_write 53 = .ok (.getfield 77, 3) := by decide +kernel
theorem dX8_write_56 : decode cX8_write 56 = .ok (.ireturn, 1) := by decide +kernel
theorem dX8_wipe_0 : decode cX8_wipe 0 = .ok (.aload_n 0, 1) := by decide +kernel
theorem dX8_wipe_1 : decode cX8_wipe 1 = .ok (.iconst 0, 1) := by decide +kernel
theorem dX8_wipe_2 : decode cX8_wipe 2 = .ok (.putfield 60, 3) := by decide +kernel
theorem dX8_wipe_5 : decode cX8_wipe 5 = .ok (.aload_n 0, 1) := by decide +kernel
theorem dX8_wipe_6 : decode cX8_wipe 6 = .ok (.getfield 77, 3) := by decide +kernel
theorem dX8_wipe_9 : decode cX8_wipe 9 = .ok (.istore_n 1, 1) := by decide +kernel
theorem dX8_wipe_10 : decode cX8_wipe 10 = .ok (.aload_n 0, 1) := by decide +kernel
theorem dX8_wipe_11 : decode cX8_wipe 11 = .ok (.iconst 0, 1) := by decide +kernel
theorem dX8_wipe_12 : decode cX8_wipe 12 = .ok (.putfield 77, 3) := by decide +kernel
theorem dX8_wipe_15 : decode cX8_wipe 15 = .ok (.iload_n 1, 1) := by decide +kernel
theorem dX8_wipe_16 : decode cX8_wipe 16 = .ok (.ireturn, 1) := by decide +kernel
theorem dX8_next_0 : decode cX8_next 0 = .ok (.aload_n 0, 1) := by decide +kernel
theorem dX8_next_1 : decode cX8_next 1 = .ok (.getfield 80, 3) := by decide +kernel
theorem dX8_next_4 : decode cX8_next 4 = .ok (.aload_n 0, 1) := by decide +kernel
theorem dX8_next_5 : decode cX8_next 5 = .ok (.getfield 77, 3) := by decide +kernel
theorem dX8_next_8 : decode cX8_next 8 = .ok (.if_icmp .ge 15, 3) := by decide +kernel
theorem dX8_next_11 : decode cX8_next 11 = .ok (.aload_n 0, 1) := by decide +kernel
theorem dX8_next_12 : decode cX8_next 12 = .ok (.getfield 7, 3) := by decide +kernel
theorem dX8_next_15 : decode cX8_next 15 = .ok (.aload_n 0, 1) := by decide +kernel
theorem dX8_next_16 : decode cX8_next 16 = .ok (.getfield 80, 3) := by decide +kernel
theorem dX8_next_19 : decode cX8_next 19 = .ok (.iaload, 1) := by decide +kernel
theorem dX8_next_20 : decode cX8_next 20 = .ok (.goto 4, 3) := by decide +kernel
theorem dX8_next_23 : decode cX8_next 23 = .ok (.iconst 0, 1) := by decide +kernel
theorem dX8_next_24 : decode cX8_next 24 = .ok (.ireturn, 1) := by decide +kernel
theorem dX8_readSlip_0 : decode cX8_readSlip 0 = .ok (.aload_n 0, 1) := by decide +kernel
theorem dX8_readSlip_1 : decode cX8_readSlip 1 = .ok (.invokevirtual 83, 3) := by decide +kernel
theorem dX8_readSlip_4 : decode cX8_readSlip 4 = .ok (.bipush 48, 2) := by decide +kernel
theorem dX8_readSlip_6 : decode cX8_readSlip 6 = .ok (.isub, 1) := by decide +kernel
theorem dX8_readSlip_7 : decode cX8_readSlip 7 = .ok (.istore_n 1, 1) := by decide +kernel
theorem dX8_readSlip_8 : decode cX8_readSlip 8 = .ok (.iload_n 1, 1) := by decide +kernel
theorem dX8_readSlip_9 : decode cX8_readSlip 9 = .ok (.invokestatic 87, 3) := by decide +kernel
theorem dX8_readSlip_12 : decode cX8_readSlip 12 = .ok (.ifCond .eq 5, 3) := by decide +kernel
theorem dX8_readSlip_15 : decode cX8_readSlip 15 = .ok (.iconst 0, 1) := by decide +kernel
theorem dX8_readSlip_16 : decode cX8_readSlip 16 = .ok (.ireturn, 1) := by decide +kernel
theorem dX8_readSlip_17 : decode cX8_readSlip 17 = .ok (.aload_n 0, 1) := by decide +kernel
theorem dX8_readSlip_18 : decode cX8_readSlip 18 = .ok (.dup, 1) := by decide +kernel
theorem dX8_readSlip_19 : decode cX8_readSlip 19 = .ok (.getfield 80, 3) := by decide +kernel
theorem dX8_readSlip_22 : decode cX8_readSlip 22 = .ok (.iconst 1, 1) := by decide +kernel
theorem dX8_readSlip_23 : decode cX8_readSlip 23 = .ok (.iadd, 1) := by decide +kernel
theorem dX8_readSlip_24 : decode cX8_readSlip 24 = .ok (.putfield 80, 3) := by decide +kernel
theorem dX8_readSlip_27 : decode cX8_readSlip 27 = .ok (.aload_n 0, 1) := by decide +kernel
theorem dX8_readSlip_28 : decode cX8_readSlip 28 = .ok (.invokevirtual 83, 3) := by decide +kernel
theorem dX8_readSlip_31 : decode cX8_readSlip 31 = .ok (.bipush 48, 2) := by decide +kernel
theorem dX8_readSlip_33 : decode cX8_readSlip 33 = .ok (.isub, 1) := by decide +kernel
theorem dX8_readSlip_34 : decode cX8_readSlip 34 = .ok (.istore_n 2, 1) := by decide +kernel
theorem dX8_readSlip_35 : decode cX8_readSlip 35 = .ok (.iload_n 2, 1) := by decide +kernel
theorem dX8_readSlip_36 : decode cX8_readSlip 36 = .ok (.invokestatic 91, 3) := by decide +kernel
theorem dX8_readSlip_39 : decode cX8_readSlip 39 = .ok (.ifCond .ne 14, 3) := by decide +kernel
theorem dX8_readSlip_42 : decode cX8_readSlip 42 = .ok (.aload_n 0, 1) := by decide +kernel
theorem dX8_readSlip_43 : decode cX8_readSlip 43 = .ok (.getfield 94, 3) := by decide +kernel
theorem dX8_readSlip_46 : decode cX8_readSlip 46 = .ok (.iload_n 2, 1) := by decide +kernel
theorem dX8_readSlip_47 : decode cX8_readSlip 47 = .ok (.invokestatic 97, 3) := by decide +kernel
theorem dX8_readSlip_50 : decode cX8_readSlip 50 = .ok (.ifCond .eq 5, 3) := by decide +kernel
theorem dX8_readSlip_53 : decode cX8_readSlip 53 = .ok (.iconst 0, 1) := by decide +kernel
theorem dX8_readSlip_54 : decode cX8_readSlip 54 = .ok (.ireturn, 1) := by decide +kernel
theorem dX8_readSlip_55 : decode cX8_readSlip 55 = .ok (.aload_n 0, 1) := by decide +kernel
theorem dX8_readSlip_56 : decode cX8_readSlip 56 = .ok (.dup, 1) := by decide +kernel
theorem dX8_readSlip_57 : decode cX8_readSlip 57 = .ok (.getfield 80, 3) := by decide +kernel
theorem dX8_readSlip_60 : decode cX8_readSlip 60 = .ok (.iconst 1, 1) := by decide +kernel
theorem dX8_readSlip_61 : decode cX8_readSlip 61 = .ok (.iadd, 1) := by decide +kernel
theorem dX8_readSlip_62 : decode cX8_readSlip 62 = .ok (.putfield 80, 3) := by decide +kernel
theorem dX8_readSlip_65 : decode cX8_readSlip 65 = .ok (.aload_n 0, 1) := by decide +kernel
theorem dX8_readSlip_66 : decode cX8_readSlip 66 = .ok (.dup, 1) := by decide +kernel
theorem dX8_readSlip_67 : decode cX8_readSlip 67 = .ok (.getfield 94, 3) := by decide +kernel
theorem dX8_readSlip_70 : decode cX8_readSlip 70 = .ok (.iconst 1, 1) := by decide +kernel
theorem dX8_readSlip_71 : decode cX8_readSlip 71 = .ok (.iload_n 2, 1) := by decide +kernel
theorem dX8_readSlip_72 : decode cX8_readSlip 72 = .ok (.ishl, 1) := by decide +kernel
theorem dX8_readSlip_73 : decode cX8_readSlip 73 = .ok (.ior, 1) := by decide +kernel
theorem dX8_readSlip_74 : decode cX8_readSlip 74 = .ok (.putfield 94, 3) := by decide +kernel
theorem dX8_readSlip_77 : decode cX8_readSlip 77 = .ok (.aload_n 0, 1) := by decide +kernel
theorem dX8_readSlip_78 : decode cX8_readSlip 78 = .ok (.getfield 22, 3) := by decide +kernel
theorem dX8_readSlip_81 : decode cX8_readSlip 81 = .ok (.iload_n 2, 1) := by decide +kernel
theorem dX8_readSlip_82 : decode cX8_readSlip 82 = .ok (.iload_n 1, 1) := by decide +kernel
theorem dX8_readSlip_83 : decode cX8_readSlip 83 = .ok (.iastore, 1) := by decide +kernel
theorem dX8_readSlip_84 : decode cX8_readSlip 84 = .ok (.aload_n 0, 1) := by decide +kernel
theorem dX8_readSlip_85 : decode cX8_readSlip 85 = .ok (.getfield 22, 3) := by decide +kernel
theorem dX8_readSlip_88 : decode cX8_readSlip 88 = .ok (.bipush 8, 2) := by decide +kernel
theorem dX8_readSlip_90 : decode cX8_readSlip 90 = .ok (.iload_n 2, 1) := by decide +kernel
theorem dX8_readSlip_91 : decode cX8_readSlip 91 = .ok (.iadd, 1) := by decide +kernel
theorem dX8_readSlip_92 : decode cX8_readSlip 92 = .ok (.aload_n 0, 1) := by decide +kernel
theorem dX8_readSlip_93 : decode cX8_readSlip 93 = .ok (.getfield 19, 3) := by decide +kernel
theorem dX8_readSlip_96 : decode cX8_readSlip 96 = .ok (.iload_n 1, 1) := by decide +kernel
theorem dX8_readSlip_97 : decode cX8_readSlip 97 = .ok (.iaload, 1) := by decide +kernel
theorem dX8_readSlip_98 : decode cX8_readSlip 98 = .ok (.iastore, 1) := by decide +kernel
theorem dX8_readSlip_99 : decode cX8_readSlip 99 = .ok (.aload_n 0, 1) := by decide +kernel
theorem dX8_readSlip_100 : decode cX8_readSlip 100 = .ok (.getfield 19, 3) := by decide +kernel
theorem dX8_readSlip_103 : decode cX8_readSlip 103 = .ok (.iload_n 1, 1) := by decide +kernel
theorem dX8_readSlip_104 : decode cX8_readSlip 104 = .ok (.dup2, 1) := by decide +kernel
theorem dX8_readSlip_105 : decode cX8_readSlip 105 = .ok (.iaload, 1) := by decide +kernel
theorem dX8_readSlip_106 : decode cX8_readSlip 106 = .ok (.iconst 1, 1) := by decide +kernel
theorem dX8_readSlip_107 : decode cX8_readSlip 107 = .ok (.iadd, 1) := by decide +kernel
theorem dX8_readSlip_108 : decode cX8_readSlip 108 = .ok (.iastore, 1) := by decide +kernel
theorem dX8_readSlip_109 : decode cX8_readSlip 109 = .ok (.iconst 1, 1) := by decide +kernel
theorem dX8_readSlip_110 : decode cX8_readSlip 110 = .ok (.ireturn, 1) := by decide +kernel
theorem dX8_readThing_0 : decode cX8_readThing 0 = .ok (.aload_n 0, 1) := by decide +kernel
theorem dX8_readThing_1 : decode cX8_readThing 1 = .ok (.invokevirtual 83, 3) := by decide +kernel
theorem dX8_readThing_4 : decode cX8_readThing 4 = .ok (.bipush 48, 2) := by decide +kernel
theorem dX8_readThing_6 : decode cX8_readThing 6 = .ok (.isub, 1) := by decide +kernel
theorem dX8_readThing_7 : decode cX8_readThing 7 = .ok (.istore_n 1, 1) := by decide +kernel
theorem dX8_readThing_8 : decode cX8_readThing 8 = .ok (.iload_n 1, 1) := by decide +kernel
theorem dX8_readThing_9 : decode cX8_readThing 9 = .ok (.i2l, 1) := by decide +kernel
theorem dX8_readThing_10 : decode cX8_readThing 10 = .ok (.lconst 0, 1) := by decide +kernel
theorem dX8_readThing_11 : decode cX8_readThing 11 = .ok (.ldc2_w 101, 3) := by decide +kernel
theorem dX8_readThing_14 : decode cX8_readThing 14 = .ok (.invokestatic 66, 3) := by decide +kernel
theorem dX8_readThing_17 : decode cX8_readThing 17 = .ok (.ifCond .ne 5, 3) := by decide +kernel
theorem dX8_readThing_20 : decode cX8_readThing 20 = .ok (.iconst 0, 1) := by decide +kernel
theorem dX8_readThing_21 : decode cX8_readThing 21 = .ok (.ireturn, 1) := by decide +kernel
theorem dX8_readThing_22 : decode cX8_readThing 22 = .ok (.aload_n 0, 1) := by decide +kernel
theorem dX8_readThing_23 : decode cX8_readThing 23 = .ok (.dup, 1) := by decide +kernel
theorem dX8_readThing_24 : decode cX8_readThing 24 = .ok (.getfield 80, 3) := by decide +kernel
theorem dX8_readThing_27 : decode cX8_readThing 27 = .ok (.iconst 1, 1) := by decide +kernel
theorem dX8_readThing_28 : decode cX8_readThing 28 = .ok (.iadd, 1) := by decide +kernel
theorem dX8_readThing_29 : decode cX8_readThing 29 = .ok (.putfield 80, 3) := by decide +kernel
theorem dX8_readThing_32 : decode cX8_readThing 32 = .ok (.iconst 0, 1) := by decide +kernel
theorem dX8_readThing_33 : decode cX8_readThing 33 = .ok (.istore_n 2, 1) := by decide +kernel
theorem dX8_readThing_34 : decode cX8_readThing 34 = .ok (.iload_n 2, 1) := by decide +kernel
theorem dX8_readThing_35 : decode cX8_readThing 35 = .ok (.iconst 3, 1) := by decide +kernel
theorem dX8_readThing_36 : decode cX8_readThing 36 = .ok (.if_icmp .ge 97, 3) := by decide +kernel
theorem dX8_readThing_39 : decode cX8_readThing 39 = .ok (.aload_n 0, 1) := by decide +kernel
theorem dX8_readThing_40 : decode cX8_readThing 40 = .ok (.invokevirtual 83, 3) := by decide +kernel
theorem dX8_readThing_43 : decode cX8_readThing 43 = .ok (.istore_n 3, 1) := by decide +kernel
theorem dX8_readThing_44 : decode cX8_readThing 44 = .ok (.iload_n 3, 1) := by decide +kernel
theorem dX8_readThing_45 : decode cX8_readThing 45 = .ok (.i2l, 1) := by decide +kernel
theorem dX8_readThing_46 : decode cX8_readThing 46 = .ok (.ldc2_w 103, 3) := by decide +kernel
theorem dX8_readThing_49 : decode cX8_readThing 49 = .ok (.ldc2_w 105, 3) := by decide +kernel
theorem dX8_readThing_52 : decode cX8_readThing 52 = .ok (.invokestatic 66, 3) := by decide +kernel
theorem dX8_readThing_55 : decode cX8_readThing 55 = .ok (.istore 4, 2) := by decide +kernel
theorem dX8_readThing_57 : decode cX8_readThing 57 = .ok (.iload 4, 2) := by decide +kernel
theorem dX8_readThing_59 : decode cX8_readThing 59 = .ok (.ifCond .ne 26, 3) := by decide +kernel
theorem dX8_readThing_62 : decode cX8_readThing 62 = .ok (.iload_n 3, 1) := by decide +kernel
theorem dX8_readThing_63 : decode cX8_readThing 63 = .ok (.i2l, 1) := by decide +kernel
theorem dX8_readThing_64 : decode cX8_readThing 64 = .ok (.ldc2_w 107, 3) := by decide +kernel
theorem dX8_readThing_67 : decode cX8_readThing 67 = .ok (.bipush 65, 2) := by decide +kernel
theorem dX8_readThing_69 : decode cX8_readThing 69 = .ok (.aload_n 0, 1) := by decide +kernel
theorem dX8_readThing_70 : decode cX8_readThing 70 = .ok (.getfield 109, 3) := by decide +kernel
theorem dX8_readThing_73 : decode cX8_readThing 73 = .ok (.iadd, 1) := by decide +kernel
theorem dX8_readThing_74 : decode cX8_readThing 74 = .ok (.iconst 1, 1) := by decide +kernel
theorem dX8_readThing_75 : decode cX8_readThing 75 = .ok (.isub, 1) := by decide +kernel
theorem dX8_readThing_76 : decode cX8_readThing 76 = .ok (.i2l, 1) := by decide +kernel
theorem dX8_readThing_77 : decode cX8_readThing 77 = .ok (.invokestatic 66, 3) := by decide +kernel
theorem dX8_readThing_80 : decode cX8_readThing 80 = .ok (.ifCond .ne 5, 3) := by decide +kernel
theorem dX8_readThing_83 : decode cX8_readThing 83 = .ok (.iconst 0, 1) := by decide +kernel
theorem dX8_readThing_84 : decode cX8_readThing 84 = .ok (.ireturn, 1) := by decide +kernel
theorem dX8_readThing_85 : decode cX8_readThing 85 = .ok (.aload_n 0, 1) := by decide +kernel
theorem dX8_readThing_86 : decode cX8_readThing 86 = .ok (.dup, 1) := by decide +kernel
theorem dX8_readThing_87 : decode cX8_readThing 87 = .ok (.getfield 80, 3) := by decide +kernel
theorem dX8_readThing_90 : decode cX8_readThing 90 = .ok (.iconst 1, 1) := by decide +kernel
theorem dX8_readThing_91 : decode cX8_readThing 91 = .ok (.iadd, 1) := by decide +kernel
theorem dX8_readThing_92 : decode cX8_readThing 92 = .ok (.putfield 80, 3) := by decide +kernel
theorem dX8_readThing_95 : decode cX8_readThing 95 = .ok (.aload_n 0, 1) := by decide +kernel
theorem dX8_readThing_96 : decode cX8_readThing 96 = .ok (.getfield 28, 3) := by decide +kernel
theorem dX8_readThing_99 : decode cX8_readThing 99 = .ok (.iconst 3, 1) := by decide +kernel
theorem dX8_readThing_100 : decode cX8_readThing 100 = .ok (.aload_n 0, 1) := by decide +kernel
theorem dX8_readThing_101 : decode cX8_readThing 101 = .ok (.getfield 109, 3) := by decide +kernel
theorem dX8_readThing_104 : decode cX8_readThing 104 = .ok (.imul, 1) := by decide +kernel
theorem dX8_readThing_105 : decode cX8_readThing 105 = .ok (.iload_n 2, 1) := by decide +kernel
theorem dX8_readThing_106 : decode cX8_readThing 106 = .ok (.iadd, 1) := by decide +kernel
theorem dX8_readThing_107 : decode cX8_readThing 107 = .ok (.iload 4, 2) := by decide +kernel
theorem dX8_readThing_109 : decode cX8_readThing 109 = .ok (.ifCond .eq 10, 3) := by decide +kernel
theorem dX8_readThing_112 : decode cX8_readThing 112 = .ok (.iload_n 3, 1) := by decide +kernel
theorem dX8_readThing_113 : decode cX8_readThing 113 = .ok (.bipush 48, 2) := by decide +kernel
theorem dX8_readThing_115 : decode cX8_readThing 115 = .ok (.isub, 1) := by decide +kernel
theorem dX8_readThing_116 : decode cX8_readThing 116 = .ok (.goto 10, 3) := by decide +kernel
theorem dX8_readThing_119 : decode cX8_readThing 119 = .ok (.bipush 10, 2) := by decide +kernel
theorem dX8_readThing_121 : decode cX8_readThing 121 = .ok (.iload_n 3, 1) := by decide +kernel
theorem dX8_readThing_122 : decode cX8_readThing 122 = .ok (.iadd, 1) := by decide +kernel
theorem dX8_readThing_123 : decode cX8_readThing 123 = .ok (.bipush 65, 2) := by decide +kernel
theorem dX8_readThing_125 : decode cX8_readThing 125 = .ok (.isub, 1) := by decide +kernel
theorem dX8_readThing_126 : decode cX8_readThing 126 = .ok (.iastore, 1) := by decide +kernel
theorem dX8_readThing_127 : decode cX8_readThing 127 = .ok (.iinc 2 1, 3) := by decide +kernel
theorem dX8_readThing_130 : decode cX8_readThing 130 = .ok (.goto (-96), 3) := by decide +kernel
theorem dX8_readThing_133 : decode cX8_readThing 133 = .ok (.aload_n 0, 1) := by decide +kernel
theorem dX8_readThing_134 : decode cX8_readThing 134 = .ok (.getfield 25, 3) := by decide +kernel
theorem dX8_readThing_137 : decode cX8_readThing 137 = .ok (.aload_n 0, 1) := by decide +kernel
theorem dX8_readThing_138 : decode cX8_readThing 138 = .ok (.getfield 109, 3) := by decide +kernel
theorem dX8_readThing_141 : decode cX8_readThing 141 = .ok (.iload_n 1, 1) := by decide +kernel
theorem dX8_readThing_142 : decode cX8_readThing 142 = .ok (.iastore, 1) := by decide +kernel
theorem dX8_readThing_143 : decode cX8_readThing 143 = .ok (.aload_n 0, 1) := by decide +kernel
theorem dX8_readThing_144 : decode cX8_readThing 144 = .ok (.dup, 1) := by decide +kernel
theorem dX8_readThing_145 : decode cX8_readThing 145 = .ok (.getfield 109, 3) := by decide +kernel
theorem dX8_readThing_148 : decode cX8_readThing 148 = .ok (.iconst 1, 1) := by decide +kernel
theorem dX8_readThing_149 : decode cX8_readThing 149 = .ok (.iadd, 1) := by decide +kernel
theorem dX8_readThing_150 : decode cX8_readThing 150 = .ok (.putfield 109, 3) := by decide +kernel
theorem dX8_readThing_153 : decode cX8_readThing 153 = .ok (.iconst 1, 1) := by decide +kernel
theorem dX8_readThing_154 : decode cX8_readThing 154 = .ok (.ireturn, 1) := by decide +kernel
theorem dX8_readPart_0 : decode cX8_readPart 0 = .ok (.aload_n 0, 1) := by decide +kernel
theorem dX8_readPart_1 : decode cX8_readPart 1 = .ok (.getfield 7, 3) := by decide +kernel
theorem dX8_readPart_4 : decode cX8_readPart 4 = .ok (.aload_n 0, 1) := by decide +kernel
theorem dX8_readPart_5 : decode cX8_readPart 5 = .ok (.getfield 80, 3) := by decide +kernel
theorem dX8_readPart_8 : decode cX8_readPart 8 = .ok (.iaload, 1) := by decide +kernel
theorem dX8_readPart_9 : decode cX8_readPart 9 = .ok (.istore_n 1, 1) := by decide +kernel
theorem dX8_readPart_10 : decode cX8_readPart 10 = .ok (.aload_n 0, 1) := by decide +kernel
theorem dX8_readPart_11 : decode cX8_readPart 11 = .ok (.dup, 1) := by decide +kernel
theorem dX8_readPart_12 : decode cX8_readPart 12 = .ok (.getfield 80, 3) := by decide +kernel
theorem dX8_readPart_15 : decode cX8_readPart 15 = .ok (.iconst 1, 1) := by decide +kernel
theorem dX8_readPart_16 : decode cX8_readPart 16 = .ok (.iadd, 1) := by decide +kernel
theorem dX8_readPart_17 : decode cX8_readPart 17 = .ok (.putfield 80, 3) := by decide +kernel
theorem dX8_readPart_20 : decode cX8_readPart 20 = .ok (.iload_n 1, 1) := by decide +kernel
theorem dX8_readPart_21 : decode cX8_readPart 21 = .ok (.bipush 83, 2) := by decide +kernel
theorem dX8_readPart_23 : decode cX8_readPart 23 = .ok (.if_icmp .ne 20, 3) := by decide +kernel
theorem dX8_readPart_26 : decode cX8_readPart 26 = .ok (.aload_n 0, 1) := by decide +kernel
theorem dX8_readPart_27 : decode cX8_readPart 27 = .ok (.getfield 94, 3) := by decide +kernel
theorem dX8_readPart_30 : decode cX8_readPart 30 = .ok (.invokestatic 112, 3) := by decide +kernel
theorem dX8_readPart_33 : decode cX8_readPart 33 = .ok (.bipush 8, 2) := by decide +kernel
theorem dX8_readPart_35 : decode cX8_readPart 35 = .ok (.if_icmp .ge 8, 3) := by decide +kernel
theorem dX8_readPart_38 : decode cX8_readPart 38 = .ok (.aload_n 0, 1) := by decide +kernel
theorem dX8_readPart_39 : decode cX8_readPart 39 = .ok (.invokevirtual 116, 3) := by decide +kernel
theorem dX8_readPart_42 : decode cX8_readPart 42 = .ok (.ireturn, 1) := by decide +kernel
theorem dX8_readPart_43 : decode cX8_readPart 43 = .ok (.iload_n 1, 1) := by decide +kernel
theorem dX8_readPart_44 : decode cX8_readPart 44 = .ok (.bipush 84, 2) := by decide +kernel
theorem dX8_readPart_46 : decode cX8_readPart 46 = .ok (.if_icmp .ne 17, 3) := by decide +kernel
theorem dX8_readPart_49 : decode cX8_readPart 49 = .ok (.aload_n 0, 1) := by decide +kernel
theorem dX8_readPart_50 : decode cX8_readPart 50 = .ok (.getfield 109, 3) := by decide +kernel
theorem dX8_readPart_53 : decode cX8_readPart 53 = .ok (.bipush 6, 2) := by decide +kernel
theorem dX8_readPart_55 : decode cX8_readPart 55 = .ok (.if_icmp .ge 8, 3) := by decide +kernel
theorem dX8_readPart_58 : decode cX8_readPart 58 = .ok (.aload_n 0, 1) := by decide +kernel
theorem dX8_readPart_59 : decode cX8_readPart 59 = .ok (.invokevirtual 120, 3) := by decide +kernel
theorem dX8_readPart_62 : decode cX8_readPart 62 = .ok (.ireturn, 1) := by decide +kernel
theorem dX8_readPart_63 : decode cX8_readPart 63 = .ok (.aload_n 0, 1) := by decide +kernel
theorem dX8_readPart_64 : decode cX8_readPart 64 = .ok (.dup, 1) := by decide +kernel
theorem dX8_readPart_65 : decode cX8_readPart 65 = .ok (.getfield 80, 3) := by decide +kernel
theorem dX8_readPart_68 : decode cX8_readPart 68 = .ok (.iconst 1, 1) := by decide +kernel
theorem dX8_readPart_69 : decode cX8_readPart 69 = .ok (.isub, 1) := by decide +kernel
theorem dX8_readPart_70 : decode cX8_readPart 70 = .ok (.putfield 80, 3) := by decide +kernel
theorem dX8_readPart_73 : decode cX8_readPart 73 = .ok (.iconst 0, 1) := by decide +kernel
theorem dX8_readPart_74 : decode cX8_readPart 74 = .ok (.ireturn, 1) := by decide +kernel
theorem dX8_readTown_0 : decode cX8_readTown 0 = .ok (.aload_n 0, 1) := by decide +kernel
theorem dX8_readTown_1 : decode cX8_readTown 1 = .ok (.iconst 0, 1) := by decide +kernel
theorem dX8_readTown_2 : decode cX8_readTown 2 = .ok (.putfield 80, 3) := by decide +kernel
theorem dX8_readTown_5 : decode cX8_readTown 5 = .ok (.aload_n 0, 1) := by decide +kernel
theorem dX8_readTown_6 : decode cX8_readTown 6 = .ok (.iconst 0, 1) := by decide +kernel
theorem dX8_readTown_7 : decode cX8_readTown 7 = .ok (.putfield 94, 3) := by decide +kernel
theorem dX8_readTown_10 : decode cX8_readTown 10 = .ok (.aload_n 0, 1) := by decide +kernel
theorem dX8_readTown_11 : decode cX8_readTown 11 = .ok (.iconst 0, 1) := by decide +kernel
theorem dX8_readTown_12 : decode cX8_readTown 12 = .ok (.putfield 109, 3) := by decide +kernel
theorem dX8_readTown_15 : decode cX8_readTown 15 = .ok (.aload_n 0, 1) := by decide +kernel
theorem dX8_readTown_16 : decode cX8_readTown 16 = .ok (.getfield 22, 3) := by decide +kernel
theorem dX8_readTown_19 : decode cX8_readTown 19 = .ok (.invokestatic 56, 3) := by decide +kernel
theorem dX8_readTown_22 : decode cX8_readTown 22 = .ok (.iconst 0, 1) := by decide +kernel
theorem dX8_readTown_23 : decode cX8_readTown 23 = .ok (.istore_n 1, 1) := by decide +kernel
theorem dX8_readTown_24 : decode cX8_readTown 24 = .ok (.iload_n 1, 1) := by decide +kernel
theorem dX8_readTown_25 : decode cX8_readTown 25 = .ok (.iconst 3, 1) := by decide +kernel
theorem dX8_readTown_26 : decode cX8_readTown 26 = .ok (.if_icmp .ge 16, 3) := by decide +kernel
theorem dX8_readTown_29 : decode cX8_readTown 29 = .ok (.aload_n 0, 1) := by decide +kernel
theorem dX8_readTown_30 : decode cX8_readTown 30 = .ok (.getfield 19, 3) := by decide +kernel
theorem dX8_readTown_33 : decode cX8_readTown 33 = .ok (.iload_n 1, 1) := by decide +kernel
theorem dX8_readTown_34 : decode cX8_readTown 34 = .ok (.iconst 0, 1) := by decide +kernel
theorem dX8_readTown_35 : decode cX8_readTown 35 = .ok (.iastore, 1) := by decide +kernel
theorem dX8_readTown_36 : decode cX8_readTown 36 = .ok (.iinc 1 1, 3) := by decide +kernel
theorem dX8_readTown_39 : decode cX8_readTown 39 = .ok (.goto (-15), 3) := by decide +kernel
theorem dX8_readTown_42 : decode cX8_readTown 42 = .ok (.aload_n 0, 1) := by decide +kernel
theorem dX8_readTown_43 : decode cX8_readTown 43 = .ok (.getfield 77, 3) := by decide +kernel
theorem dX8_readTown_46 : decode cX8_readTown 46 = .ok (.ifCond .eq 14, 3) := by decide +kernel
theorem dX8_readTown_49 : decode cX8_readTown 49 = .ok (.aload_n 0, 1) := by decide +kernel
theorem dX8_readTown_50 : decode cX8_readTown 50 = .ok (.getfield 7, 3) := by decide +kernel
theorem dX8_readTown_53 : decode cX8_readTown 53 = .ok (.iconst 0, 1) := by decide +kernel
theorem dX8_readTown_54 : decode cX8_readTown 54 = .ok (.iaload, 1) := by decide +kernel
theorem dX8_readTown_55 : decode cX8_readTown 55 = .ok (.bipush 82, 2) := by decide +kernel
theorem dX8_readTown_57 : decode cX8_readTown 57 = .ok (.if_icmp .eq 5, 3) := by decide +kernel
theorem dX8_readTown_60 : decode cX8_readTown 60 = .ok (.iconst 0, 1) := by decide +kernel
theorem dX8_readTown_61 : decode cX8_readTown 61 = .ok (.ireturn, 1) := by decide +kernel
theorem dX8_readTown_62 : decode cX8_readTown 62 = .ok (.aload_n 0, 1) := by decide +kernel
theorem dX8_readTown_63 : decode cX8_readTown 63 = .ok (.iconst 1, 1) := by decide +kernel
theorem dX8_readTown_64 : decode cX8_readTown 64 = .ok (.putfield 80, 3) := by decide +kernel
theorem dX8_readTown_67 : decode cX8_readTown 67 = .ok (.aload_n 0, 1) := by decide +kernel
theorem dX8_readTown_68 : decode cX8_readTown 68 = .ok (.getfield 80, 3) := by decide +kernel
theorem dX8_readTown_71 : decode cX8_readTown 71 = .ok (.aload_n 0, 1) := by decide +kernel
theorem dX8_readTown_72 : decode cX8_readTown 72 = .ok (.getfield 77, 3) := by decide +kernel
theorem dX8_readTown_75 : decode cX8_readTown 75 = .ok (.if_icmp .ge 15, 3) := by decide +kernel
theorem dX8_readTown_78 : decode cX8_readTown 78 = .ok (.aload_n 0, 1) := by decide +kernel
theorem dX8_readTown_79 : decode cX8_readTown 79 = .ok (.invokevirtual 123, 3) := by decide +kernel
theorem dX8_readTown_82 : decode cX8_readTown 82 = .ok (.ifCond .ne (-15), 3) := by decide +kernel
theorem dX8_readTown_85 : decode cX8_readTown 85 = .ok (.aload_n 0, 1) := by decide +kernel
theorem dX8_readTown_86 : decode cX8_readTown 86 = .ok (.getfield 80, 3) := by decide +kernel
theorem dX8_readTown_89 : decode cX8_readTown 89 = .ok (.ireturn, 1) := by decide +kernel
theorem dX8_readTown_90 : decode cX8_readTown 90 = .ok (.bipush (-9), 2) := by decide +kernel
theorem dX8_readTown_92 : decode cX8_readTown 92 = .ok (.ireturn, 1) := by decide +kernel
theorem dX8_fault_0 : decode cX8_fault 0 = .ok (.aload_n 0, 1) := by decide +kernel
theorem dX8_fault_1 : decode cX8_fault 1 = .ok (.iconst 0, 1) := by decide +kernel
theorem dX8_fault_2 : decode cX8_fault 2 = .ok (.putfield 60, 3) := by decide +kernel
theorem dX8_fault_5 : decode cX8_fault 5 = .ok (.aload_n 0, 1) := by decide +kernel
theorem dX8_fault_6 : decode cX8_fault 6 = .ok (.invokevirtual 126, 3) := by decide +kernel
theorem dX8_fault_9 : decode cX8_fault 9 = .ok (.ireturn, 1) := by decide +kernel
theorem dX8_town_0 : decode cX8_town 0 = .ok (.aload_n 0, 1) := by decide +kernel
theorem dX8_town_1 : decode cX8_town 1 = .ok (.iconst 0, 1) := by decide +kernel
theorem dX8_town_2 : decode cX8_town 2 = .ok (.putfield 60, 3) := by decide +kernel
theorem dX8_town_5 : decode cX8_town 5 = .ok (.aload_n 0, 1) := by decide +kernel
theorem dX8_town_6 : decode cX8_town 6 = .ok (.invokevirtual 126, 3) := by decide +kernel
theorem dX8_town_9 : decode cX8_town 9 = .ok (.bipush (-9), 2) := by decide +kernel
theorem dX8_town_11 : decode cX8_town 11 = .ok (.if_icmp .eq 6, 3) := by decide +kernel
theorem dX8_town_14 : decode cX8_town 14 = .ok (.bipush (-3), 2) := by decide +kernel
theorem dX8_town_16 : decode cX8_town 16 = .ok (.ireturn, 1) := by decide +kernel
theorem dX8_town_17 : decode cX8_town 17 = .ok (.aload_n 0, 1) := by decide +kernel
theorem dX8_town_18 : decode cX8_town 18 = .ok (.aload_n 0, 1) := by decide +kernel
theorem dX8_town_19 : decode cX8_town 19 = .ok (.getfield 109, 3) := by decide +kernel
theorem dX8_town_22 : decode cX8_town 22 = .ok (.putfield 72, 3) := by decide +kernel
theorem dX8_town_25 : decode cX8_town 25 = .ok (.iconst 0, 1) := by decide +kernel
theorem dX8_town_26 : decode cX8_town 26 = .ok (.istore_n 1, 1) := by decide +kernel
theorem dX8_town_27 : decode cX8_town 27 = .ok (.iload_n 1, 1) := by decide +kernel
theorem dX8_town_28 : decode cX8_town 28 = .ok (.aload_n 0, 1) := by decide +kernel
theorem dX8_town_29 : decode cX8_town 29 = .ok (.getfield 72, 3) := by decide +kernel
theorem dX8_town_32 : decode cX8_town 32 = .ok (.if_icmp .ge 54, 3) := by decide +kernel
theorem dX8_town_35 : decode cX8_town 35 = .ok (.aload_n 0, 1) := by decide +kernel
theorem dX8_town_36 : decode cX8_town 36 = .ok (.getfield 13, 3) := by decide +kernel
theorem dX8_town_39 : decode cX8_town 39 = .ok (.iload_n 1, 1) := by decide +kernel
theorem dX8_town_40 : decode cX8_town 40 = .ok (.aload_n 0, 1) := by decide +kernel
theorem dX8_town_41 : decode cX8_town 41 = .ok (.getfield 25, 3) := by decide +kernel
theorem dX8_town_44 : decode cX8_town 44 = .ok (.iload_n 1, 1) := by decide +kernel
theorem dX8_town_45 : decode cX8_town 45 = .ok (.iaload, 1) := by decide +kernel
theorem dX8_town_46 : decode cX8_town 46 = .ok (.iastore, 1) := by decide +kernel
theorem dX8_town_47 : decode cX8_town 47 = .ok (.iconst 0, 1) := by decide +kernel
theorem dX8_town_48 : decode cX8_town 48 = .ok (.istore_n 2, 1) := by decide +kernel
theorem dX8_town_49 : decode cX8_town 49 = .ok (.iload_n 2, 1) := by decide +kernel
theorem dX8_town_50 : decode cX8_town 50 = .ok (.iconst 3, 1) := by decide +kernel
theorem dX8_town_51 : decode cX8_town 51 = .ok (.if_icmp .ge 29, 3) := by decide +kernel
theorem dX8_town_54 : decode cX8_town 54 = .ok (.aload_n 0, 1) := by decide +kernel
theorem dX8_town_55 : decode cX8_town 55 = .ok (.getfield 16, 3) := by decide +kernel
theorem dX8_town_58 : decode cX8_town 58 = .ok (.iconst 3, 1) := by decide +kernel
theorem dX8_town_59 : decode cX8_town 59 = .ok (.iload_n 1, 1) := by decide +kernel
theorem dX8_town_60 : decode cX8_town 60 = .ok (.imul, 1) := by decide +kernel
theorem dX8_town_61 : decode cX8_town 61 = .ok (.iload_n 2, 1) := by decide +kernel
theorem dX8_town_62 : decode cX8_town 62 = .ok (.iadd, 1) := by decide +kernel
theorem dX8_town_63 : decode cX8_town 63 = .ok (.aload_n 0, 1) := by decide +kernel
theorem dX8_town_64 : decode cX8_town 64 = .ok (.getfield 28, 3) := by decide +kernel
theorem dX8_town_67 : decode cX8_town 67 = .ok (.iconst 3, 1) := by decide +kernel
theorem dX8_town_68 : decode cX8_town 68 = .ok (.iload_n 1, 1) := by decide +kernel
theorem dX8_town_69 : decode cX8_town 69 = .ok (.imul, 1) := by decide +kernel
theorem dX8_town_70 : decode cX8_town 70 = .ok (.iload_n 2, 1) := by decide +kernel
theorem dX8_town_71 : decode cX8_town 71 = .ok (.iadd, 1) := by decide +kernel
theorem dX8_town_72 : decode cX8_town 72 = .ok (.iaload, 1) := by decide +kernel
theorem dX8_town_73 : decode cX8_town 73 = .ok (.iastore, 1) := by decide +kernel
theorem dX8_town_74 : decode cX8_town 74 = .ok (.iinc 2 1, 3) := by decide +kernel
theorem dX8_town_77 : decode cX8_town 77 = .ok (.goto (-28), 3) := by decide +kernel
theorem dX8_town_80 : decode cX8_town 80 = .ok (.iinc 1 1, 3) := by decide +kernel
theorem dX8_town_83 : decode cX8_town 83 = .ok (.goto (-56), 3) := by decide +kernel
theorem dX8_town_86 : decode cX8_town 86 = .ok (.iconst 0, 1) := by decide +kernel
theorem dX8_town_87 : decode cX8_town 87 = .ok (.istore_n 1, 1) := by decide +kernel
theorem dX8_town_88 : decode cX8_town 88 = .ok (.iload_n 1, 1) := by decide +kernel
theorem dX8_town_89 : decode cX8_town 89 = .ok (.bipush 17, 2) := by decide +kernel
theorem dX8_town_91 : decode cX8_town 91 = .ok (.if_icmp .ge 21, 3) := by decide +kernel
theorem dX8_town_94 : decode cX8_town 94 = .ok (.aload_n 0, 1) := by decide +kernel
theorem dX8_town_95 : decode cX8_town 95 = .ok (.getfield 31, 3) := by decide +kernel
theorem dX8_town_98 : decode cX8_town 98 = .ok (.iload_n 1, 1) := by decide +kernel
theorem dX8_town_99 : decode cX8_town 99 = .ok (.aload_n 0, 1) := by decide +kernel
theorem dX8_town_100 : decode cX8_town 100 = .ok (.getfield 22, 3) := by decide +kernel
theorem dX8_town_103 : decode cX8_town 103 = .ok (.iload_n 1, 1) := by decide +kernel
theorem dX8_town_104 : decode cX8_town 104 = .ok (.iaload, 1) := by decide +kernel
theorem dX8_town_105 : decode cX8_town 105 = .ok (.iastore, 1) := by decide +kernel
theorem dX8_town_106 : decode cX8_town 106 = .ok (.iinc 1 1, 3) := by decide +kernel
theorem dX8_town_109 : decode cX8_town 109 = .ok (.goto (-21), 3) := by decide +kernel
theorem dX8_town_112 : decode cX8_town 112 = .ok (.aload_n 0, 1) := by decide +kernel
theorem dX8_town_113 : decode cX8_town 113 = .ok (.iconst 0, 1) := by decide +kernel
theorem dX8_town_114 : decode cX8_town 114 = .ok (.putfield 129, 3) := by decide +kernel
theorem dX8_town_117 : decode cX8_town 117 = .ok (.aload_n 0, 1) := by decide +kernel
theorem dX8_town_118 : decode cX8_town 118 = .ok (.getfield 43, 3) := by decide +kernel
theorem dX8_town_121 : decode cX8_town 121 = .ok (.iconst 0, 1) := by decide +kernel
theorem dX8_town_122 : decode cX8_town 122 = .ok (.iconst 0, 1) := by decide +kernel
theorem dX8_town_123 : decode cX8_town 123 = .ok (.bastore, 1) := by decide +kernel
theorem dX8_town_124 : decode cX8_town 124 = .ok (.aload_n 0, 1) := by decide +kernel
theorem dX8_town_125 : decode cX8_town 125 = .ok (.getfield 43, 3) := by decide +kernel
theorem dX8_town_128 : decode cX8_town 128 = .ok (.iconst 1, 1) := by decide +kernel
theorem dX8_town_129 : decode cX8_town 129 = .ok (.iconst 0, 1) := by decide +kernel
theorem dX8_town_130 : decode cX8_town 130 = .ok (.bastore, 1) := by decide +kernel
theorem dX8_town_131 : decode cX8_town 131 = .ok (.bipush 10, 2) := by decide +kernel
theorem dX8_town_133 : decode cX8_town 133 = .ok (.aload_n 0, 1) := by decide +kernel
theorem dX8_town_134 : decode cX8_town 134 = .ok (.getfield 94, 3) := by decide +kernel
theorem dX8_town_137 : decode cX8_town 137 = .ok (.invokestatic 112, 3) := by decide +kernel
theorem dX8_town_140 : decode cX8_town 140 = .ok (.imul, 1) := by decide +kernel
theorem dX8_town_141 : decode cX8_town 141 = .ok (.aload_n 0, 1) := by decide +kernel
theorem dX8_town_142 : decode cX8_town 142 = .ok (.getfield 72, 3) := by decide +kernel
theorem dX8_town_145 : decode cX8_town 145 = .ok (.iadd, 1) := by decide +kernel
theorem dX8_town_146 : decode cX8_town 146 = .ok (.ireturn, 1) := by decide +kernel
theorem dX8_slipsAt_0 : decode cX8_slipsAt 0 = .ok (.iconst 0, 1) := by decide +kernel
theorem dX8_slipsAt_1 : decode cX8_slipsAt 1 = .ok (.istore_n 2, 1) := by decide +kernel
theorem dX8_slipsAt_2 : decode cX8_slipsAt 2 = .ok (.iconst 0, 1) := by decide +kernel
theorem dX8_slipsAt_3 : decode cX8_slipsAt 3 = .ok (.istore_n 3, 1) := by decide +kernel
theorem dX8_slipsAt_4 : decode cX8_slipsAt 4 = .ok (.iload_n 3, 1) := by decide +kernel
theorem dX8_slipsAt_5 : decode cX8_slipsAt 5 = .ok (.bipush 8, 2) := by decide +kernel
theorem dX8_slipsAt_7 : decode cX8_slipsAt 7 = .ok (.if_icmp .ge 26, 3) := by decide +kernel
theorem dX8_slipsAt_10 : decode cX8_slipsAt 10 = .ok (.iload_n 2, 1) := by decide +kernel
theorem dX8_slipsAt_11 : decode cX8_slipsAt 11 = .ok (.aload_n 0, 1) := by decide +kernel
theorem dX8_slipsAt_12 : decode cX8_slipsAt 12 = .ok (.iload_n 3, 1) := by decide +kernel
theorem dX8_slipsAt_13 : decode cX8_slipsAt 13 = .ok (.iaload, 1) := by decide +kernel
theorem dX8_slipsAt_14 : decode cX8_slipsAt 14 = .ok (.iload_n 1, 1) := by decide +kernel
theorem dX8_slipsAt_15 : decode cX8_slipsAt 15 = .ok (.if_icmp .ne 9, 3) := by decide +kernel
theorem dX8_slipsAt_18 : decode cX8_slipsAt 18 = .ok (.iconst 1, 1) := by decide +kernel
theorem dX8_slipsAt_19 : decode cX8_slipsAt 19 = .ok (.iload_n 3, 1) := by decide +kernel
theorem dX8_slipsAt_20 : decode cX8_slipsAt 20 = .ok (.ishl, 1) := by decide +kernel
theorem dX8_slipsAt_21 : decode cX8_slipsAt 21 = .ok (.goto 4, 3) := by decide +kernel
theorem dX8_slipsAt_24 : decode cX8_slipsAt 24 = .ok (.iconst 0, 1) := by decide +kernel
theorem dX8_slipsAt_25 : decode cX8_slipsAt 25 = .ok (.ior, 1) := by decide +kernel
theorem dX8_slipsAt_26 : decode cX8_slipsAt 26 = .ok (.istore_n 2, 1) := by decide +kernel
theorem dX8_slipsAt_27 : decode cX8_slipsAt 27 = .ok (.iinc 3 1, 3) := by decide +kernel
theorem dX8_slipsAt_30 : decode cX8_slipsAt 30 = .ok (.goto (-26), 3) := by decide +kernel
theorem dX8_slipsAt_33 : decode cX8_slipsAt 33 = .ok (.iload_n 2, 1) := by decide +kernel
theorem dX8_slipsAt_34 : decode cX8_slipsAt 34 = .ok (.ireturn, 1) := by decide +kernel
theorem dX8_onSpikes_0 : decode cX8_onSpikes 0 = .ok (.aload_n 0, 1) := by decide +kernel
theorem dX8_onSpikes_1 : decode cX8_onSpikes 1 = .ok (.iconst 0, 1) := by decide +kernel
theorem dX8_onSpikes_2 : decode cX8_onSpikes 2 = .ok (.invokestatic 132, 3) := by decide +kernel
theorem dX8_onSpikes_5 : decode cX8_onSpikes 5 = .ok (.aload_n 0, 1) := by decide +kernel
theorem dX8_onSpikes_6 : decode cX8_onSpikes 6 = .ok (.iconst 1, 1) := by decide +kernel
theorem dX8_onSpikes_7 : decode cX8_onSpikes 7 = .ok (.invokestatic 132, 3) := by decide +kernel
theorem dX8_onSpikes_10 : decode cX8_onSpikes 10 = .ok (.ior, 1) := by decide +kernel
theorem dX8_onSpikes_11 : decode cX8_onSpikes 11 = .ok (.aload_n 0, 1) := by decide +kernel
theorem dX8_onSpikes_12 : decode cX8_onSpikes 12 = .ok (.iconst 2, 1) := by decide +kernel
theorem dX8_onSpikes_13 : decode cX8_onSpikes 13 = .ok (.invokestatic 132, 3) := by decide +kernel
theorem dX8_onSpikes_16 : decode cX8_onSpikes 16 = .ok (.ior, 1) := by decide +kernel
theorem dX8_onSpikes_17 : decode cX8_onSpikes 17 = .ok (.ireturn, 1) := by decide +kernel
theorem dX8_holds_0 : decode cX8_holds 0 = .ok (.aload_n 0, 1) := by decide +kernel
theorem dX8_holds_1 : decode cX8_holds 1 = .ok (.getfield 16, 3) := by decide +kernel
theorem dX8_holds_4 : decode cX8_holds 4 = .ok (.iconst 3, 1) := by decide +kernel
theorem dX8_holds_5 : decode cX8_holds 5 = .ok (.iload_n 1, 1) := by decide +kernel
theorem dX8_holds_6 : decode cX8_holds 6 = .ok (.imul, 1) := by decide +kernel
theorem dX8_holds_7 : decode cX8_holds 7 = .ok (.iload_n 2, 1) := by decide +kernel
theorem dX8_holds_8 : decode cX8_holds 8 = .ok (.iadd, 1) := by decide +kernel
theorem dX8_holds_9 : decode cX8_holds 9 = .ok (.iaload, 1) := by decide +kernel
theorem dX8_holds_10 : decode cX8_holds 10 = .ok (.istore 5, 2) := by decide +kernel
theorem dX8_holds_12 : decode cX8_holds 12 = .ok (.iload 5, 2) := by decide +kernel
theorem dX8_holds_14 : decode cX8_holds 14 = .ok (.bipush 10, 2) := by decide +kernel
theorem dX8_holds_16 : decode cX8_holds 16 = .ok (.if_icmp .ge 12, 3) := by decide +kernel
theorem dX8_holds_19 : decode cX8_holds 19 = .ok (.iload_n 3, 1) := by decide +kernel
theorem dX8_holds_20 : decode cX8_holds 20 = .ok (.iload 5, 2) := by decide +kernel
theorem dX8_holds_22 : decode cX8_holds 22 = .ok (.invokestatic 97, 3) := by decide +kernel
theorem dX8_holds_25 : decode cX8_holds 25 = .ok (.goto 13, 3) := by decide +kernel
theorem dX8_holds_28 : decode cX8_holds 28 = .ok (.iload 4, 2) := by decide +kernel
theorem dX8_holds_30 : decode cX8_holds 30 = .ok (.iload 5, 2) := by decide +kernel
theorem dX8_holds_32 : decode cX8_holds 32 = .ok (.bipush 10, 2) := by decide +kernel
theorem dX8_holds_34 : decode cX8_holds 34 = .ok (.isub, 1) := by decide +kernel
theorem dX8_holds_35 : decode cX8_holds 35 = .ok (.invokestatic 97, 3) := by decide +kernel
theorem dX8_holds_38 : decode cX8_holds 38 = .ok (.ireturn, 1) := by decide +kernel
theorem dX8_isSo_0 : decode cX8_isSo 0 = .ok (.aload_n 0, 1) := by decide +kernel
theorem dX8_isSo_1 : decode cX8_isSo 1 = .ok (.iload_n 1, 1) := by decide +kernel
theorem dX8_isSo_2 : decode cX8_isSo 2 = .ok (.iconst 0, 1) := by decide +kernel
theorem dX8_isSo_3 : decode cX8_isSo 3 = .ok (.iload_n 2, 1) := by decide +kernel
theorem dX8_isSo_4 : decode cX8_isSo 4 = .ok (.iload_n 3, 1) := by decide +kernel
theorem dX8_isSo_5 : decode cX8_isSo 5 = .ok (.invokevirtual 136, 3) := by decide +kernel
theorem dX8_isSo_8 : decode cX8_isSo 8 = .ok (.istore 4, 2) := by decide +kernel
theorem dX8_isSo_10 : decode cX8_isSo 10 = .ok (.aload_n 0, 1) := by decide +kernel
theorem dX8_isSo_11 : decode cX8_isSo 11 = .ok (.iload_n 1, 1) := by decide +kernel
theorem dX8_isSo_12 : decode cX8_isSo 12 = .ok (.iconst 1, 1) := by decide +kernel
theorem dX8_isSo_13 : decode cX8_isSo 13 = .ok (.iload_n 2, 1) := by decide +kernel
theorem dX8_isSo_14 : decode cX8_isSo 14 = .ok (.iload_n 3, 1) := by decide +kernel
theorem dX8_isSo_15 : decode cX8_isSo 15 = .ok (.invokevirtual 136, 3) := by decide +kernel
theorem dX8_isSo_18 : decode cX8_isSo 18 = .ok (.istore 5, 2) := by decide +kernel
theorem dX8_isSo_20 : decode cX8_isSo 20 = .ok (.aload_n 0, 1) := by decide +kernel
theorem dX8_isSo_21 : decode cX8_isSo 21 = .ok (.iload_n 1, 1) := by decide +kernel
theorem dX8_isSo_22 : decode cX8_isSo 22 = .ok (.iconst 2, 1) := by decide +kernel
theorem dX8_isSo_23 : decode cX8_isSo 23 = .ok (.iload_n 2, 1) := by decide +kernel
theorem dX8_isSo_24 : decode cX8_isSo 24 = .ok (.iload_n 3, 1) := by decide +kernel
theorem dX8_isSo_25 : decode cX8_isSo 25 = .ok (.invokevirtual 136, 3) := by decide +kernel
theorem dX8_isSo_28 : decode cX8_isSo 28 = .ok (.istore 6, 2) := by decide +kernel
theorem dX8_isSo_30 : decode cX8_isSo 30 = .ok (.aload_n 0, 1) := by decide +kernel
theorem dX8_isSo_31 : decode cX8_isSo 31 = .ok (.getfield 13, 3) := by decide +kernel
theorem dX8_isSo_34 : decode cX8_isSo 34 = .ok (.iload_n 1, 1) := by decide +kernel
theorem dX8_isSo_35 : decode cX8_isSo 35 = .ok (.iaload, 1) := by decide +kernel
theorem dX8_isSo_36 : decode cX8_isSo 36 = .ok (.tableswitch 106 1 3 #[28, 49, 70], 28) := by decide +kernel
theorem dX8_isSo_64 : decode cX8_isSo 64 = .ok (.iload 4, 2) := by decide +kernel
theorem dX8_isSo_66 : decode cX8_isSo 66 = .ok (.ifCond .ne 8, 3) := by decide +kernel
theorem dX8_isSo_69 : decode cX8_isSo 69 = .ok (.iload 5, 2) := by decide +kernel
theorem dX8_isSo_71 : decode cX8_isSo 71 = .ok (.ifCond .eq 12, 3) := by decide +kernel
theorem dX8_isSo_74 : decode cX8_isSo 74 = .ok (.iload 6, 2) := by decide +kernel
theorem dX8_isSo_76 : decode cX8_isSo 76 = .ok (.ifCond .eq 7, 3) := by decide +kernel
theorem dX8_isSo_79 : decode cX8_isSo 79 = .ok (.iconst 1, 1) := by decide +kernel
theorem dX8_isSo_80 : decode cX8_isSo 80 = .ok (.goto 4, 3) := by decide +kernel
theorem dX8_isSo_83 : decode cX8_isSo 83 = .ok (.iconst 0, 1) := by decide +kernel
theorem dX8_isSo_84 : decode cX8_isSo 84 = .ok (.ireturn, 1) := by decide +kernel
theorem dX8_isSo_85 : decode cX8_isSo 85 = .ok (.iload 4, 2) := by decide +kernel
theorem dX8_isSo_87 : decode cX8_isSo 87 = .ok (.ifCond .ne 17, 3) := by decide +kernel
theorem dX8_isSo_90 : decode cX8_isSo 90 = .ok (.iload 5, 2) := by decide +kernel
theorem dX8_isSo_92 : decode cX8_isSo 92 = .ok (.ifCond .ne 8, 3) := by decide +kernel
theorem dX8_isSo_95 : decode cX8_isSo 95 = .ok (.iload 6, 2) := by decide +kernel
theorem dX8_isSo_97 : decode cX8_isSo 97 = .ok (.ifCond .eq 7, 3) := by decide +kernel
theorem dX8_isSo_100 : decode cX8_isSo 100 = .ok (.iconst 1, 1) := by decide +kernel
theorem dX8_isSo_101 : decode cX8_isSo 101 = .ok (.goto 4, 3) := by decide +kernel
theorem dX8_isSo_104 : decode cX8_isSo 104 = .ok (.iconst 0, 1) := by decide +kernel
theorem dX8_isSo_105 : decode cX8_isSo 105 = .ok (.ireturn, 1) := by decide +kernel
theorem dX8_isSo_106 : decode cX8_isSo 106 = .ok (.iload 4, 2) := by decide +kernel
theorem dX8_isSo_108 : decode cX8_isSo 108 = .ok (.ifCond .eq 8, 3) := by decide +kernel
theorem dX8_isSo_111 : decode cX8_isSo 111 = .ok (.iload 5, 2) := by decide +kernel
theorem dX8_isSo_113 : decode cX8_isSo 113 = .ok (.ifCond .ne 23, 3) := by decide +kernel
theorem dX8_isSo_116 : decode cX8_isSo 116 = .ok (.iload 4, 2) := by decide +kernel
theorem dX8_isSo_118 : decode cX8_isSo 118 = .ok (.ifCond .eq 8, 3) := by decide +kernel
theorem dX8_isSo_121 : decode cX8_isSo 121 = .ok (.iload 6, 2) := by decide +kernel
theorem dX8_isSo_123 : decode cX8_isSo 123 = .ok (.ifCond .ne 13, 3) := by decide +kernel
theorem dX8_isSo_126 : decode cX8_isSo 126 = .ok (.iload 5, 2) := by decide +kernel
theorem dX8_isSo_128 : decode cX8_isSo 128 = .ok (.ifCond .eq 12, 3) := by decide +kernel
theorem dX8_isSo_131 : decode cX8_isSo 131 = .ok (.iload 6, 2) := by decide +kernel
theorem dX8_isSo_133 : decode cX8_isSo 133 = .ok (.ifCond .eq 7, 3) := by decide +kernel
theorem dX8_isSo_136 : decode cX8_isSo 136 = .ok (.iconst 1, 1) := by decide +kernel
theorem dX8_isSo_137 : decode cX8_isSo 137 = .ok (.goto 4, 3) := by decide +kernel
theorem dX8_isSo_140 : decode cX8_isSo 140 = .ok (.iconst 0, 1) := by decide +kernel
theorem dX8_isSo_141 : decode cX8_isSo 141 = .ok (.ireturn, 1) := by decide +kernel
theorem dX8_isSo_142 : decode cX8_isSo 142 = .ok (.iload 4, 2) := by decide +kernel
theorem dX8_isSo_144 : decode cX8_isSo 144 = .ok (.ifCond .eq 17, 3) := by decide +kernel
theorem dX8_isSo_147 : decode cX8_isSo 147 = .ok (.iload 5, 2) := by decide +kernel
theorem dX8_isSo_149 : decode cX8_isSo 149 = .ok (.ifCond .eq 12, 3) := by decide +kernel
theorem dX8_isSo_152 : decode cX8_isSo 152 = .ok (.iload 6, 2) := by decide +kernel
theorem dX8_isSo_154 : decode cX8_isSo 154 = .ok (.ifCond .eq 7, 3) := by decide +kernel
theorem dX8_isSo_157 : decode cX8_isSo 157 = .ok (.iconst 1, 1) := by decide +kernel
theorem dX8_isSo_158 : decode cX8_isSo 158 = .ok (.goto 4, 3) := by decide +kernel
theorem dX8_isSo_161 : decode cX8_isSo 161 = .ok (.iconst 0, 1) := by decide +kernel
theorem dX8_isSo_162 : decode cX8_isSo 162 = .ok (.ireturn, 1) := by decide +kernel
theorem dX8_soBy_0 : decode cX8_soBy 0 = .ok (.iconst 0, 1) := by decide +kernel
theorem dX8_soBy_1 : decode cX8_soBy 1 = .ok (.istore_n 2, 1) := by decide +kernel
theorem dX8_soBy_2 : decode cX8_soBy 2 = .ok (.iconst 0, 1) := by decide +kernel
theorem dX8_soBy_3 : decode cX8_soBy 3 = .ok (.istore_n 3, 1) := by decide +kernel
theorem dX8_soBy_4 : decode cX8_soBy 4 = .ok (.iload_n 3, 1) := by decide +kernel
theorem dX8_soBy_5 : decode cX8_soBy 5 = .ok (.aload_n 0, 1) := by decide +kernel
theorem dX8_soBy_6 : decode cX8_soBy 6 = .ok (.getfield 72, 3) := by decide +kernel
theorem dX8_soBy_9 : decode cX8_soBy 9 = .ok (.if_icmp .ge 29, 3) := by decide +kernel
theorem dX8_soBy_12 : decode cX8_soBy 12 = .ok (.iload_n 2, 1) := by decide +kernel
theorem dX8_soBy_13 : decode cX8_soBy 13 = .ok (.aload_n 0, 1) := by decide +kernel
theorem dX8_soBy_14 : decode cX8_soBy 14 = .ok (.iload_n 3, 1) := by decide +kernel
theorem dX8_soBy_15 : decode cX8_soBy 15 = .ok (.iload_n 1, 1) := by decide +kernel
theorem dX8_soBy_16 : decode cX8_soBy 16 = .ok (.iload_n 2, 1) := by decide +kernel
theorem dX8_soBy_17 : decode cX8_soBy 17 = .ok (.invokevirtual 140, 3) := by decide +kernel
theorem dX8_soBy_20 : decode cX8_soBy 20 = .ok (.ifCond .eq 9, 3) := by decide +kernel
theorem dX8_soBy_23 : decode cX8_soBy 23 = .ok (.iconst 1, 1) := by decide +kernel
theorem dX8_soBy_24 : decode cX8_soBy 24 = .ok (.iload_n 3, 1) := by decide +kernel
theorem dX8_soBy_25 : decode cX8_soBy 25 = .ok (.ishl, 1) := by decide +kernel
theorem dX8_soBy_26 : decode cX8_soBy 26 = .ok (.goto 4, 3) := by decide +kernel
theorem dX8_soBy_29 : decode cX8_soBy 29 = .ok (.iconst 0, 1) := by decide +kernel
theorem dX8_soBy_30 : decode cX8_soBy 30 = .ok (.ior, 1) := by decide +kernel
theorem dX8_soBy_31 : decode cX8_soBy 31 = .ok (.istore_n 2, 1) := by decide +kernel
theorem dX8_soBy_32 : decode cX8_soBy 32 = .ok (.iinc 3 1, 3) := by decide +kernel
theorem dX8_soBy_35 : decode cX8_soBy 35 = .ok (.goto (-31), 3) := by decide +kernel
theorem dX8_soBy_38 : decode cX8_soBy 38 = .ok (.iload_n 2, 1) := by decide +kernel
theorem dX8_soBy_39 : decode cX8_soBy 39 = .ok (.ireturn, 1) := by decide +kernel
theorem dX8_highOn_0 : decode cX8_highOn 0 = .ok (.aload_n 0, 1) := by decide +kernel
theorem dX8_highOn_1 : decode cX8_highOn 1 = .ok (.iload_n 1, 1) := by decide +kernel
theorem dX8_highOn_2 : decode cX8_highOn 2 = .ok (.invokestatic 132, 3) := by decide +kernel
theorem dX8_highOn_5 : decode cX8_highOn 5 = .ok (.invokestatic 112, 3) := by decide +kernel
theorem dX8_highOn_8 : decode cX8_highOn 8 = .ok (.ireturn, 1) := by decide +kernel
theorem dX8_slipOn_0 : decode cX8_slipOn 0 = .ok (.bipush (-9), 2) := by decide +kernel
theorem dX8_slipOn_2 : decode cX8_slipOn 2 = .ok (.istore_n 3, 1) := by decide +kernel
theorem dX8_slipOn_3 : decode cX8_slipOn 3 = .ok (.iconst 0, 1) := by decide +kernel
theorem dX8_slipOn_4 : decode cX8_slipOn 4 = .ok (.istore 4, 2) := by decide +kernel
theorem dX8_slipOn_6 : decode cX8_slipOn 6 = .ok (.iload 4, 2) := by decide +kernel
theorem dX8_slipOn_8 : decode cX8_slipOn 8 = .ok (.bipush 8, 2) := by decide +kernel
theorem dX8_slipOn_10 : decode cX8_slipOn 10 = .ok (.if_icmp .ge 35, 3) := by decide +kernel
theorem dX8_slipOn_13 : decode cX8_slipOn 13 = .ok (.aload_n 0, 1) := by decide +kernel
theorem dX8_slipOn_14 : decode cX8_slipOn 14 = .ok (.iload 4, 2) := by decide +kernel
theorem dX8_slipOn_16 : decode cX8_slipOn 16 = .ok (.iaload, 1) := by decide +kernel
theorem dX8_slipOn_17 : decode cX8_slipOn 17 = .ok (.iload_n 1, 1) := by decide +kernel
theorem dX8_slipOn_18 : decode cX8_slipOn 18 = .ok (.if_icmp .ne 19, 3) := by decide +kernel
theorem dX8_slipOn_21 : decode cX8_slipOn 21 = .ok (.aload_n 0, 1) := by decide +kernel
theorem dX8_slipOn_22 : decode cX8_slipOn 22 = .ok (.bipush 8, 2) := by decide +kernel
theorem dX8_slipOn_24 : decode cX8_slipOn 24 = .ok (.iload 4, 2) := by decide +kernel
theorem dX8_slipOn_26 : decode cX8_slipOn 26 = .ok (.iadd, 1) := by decide +kernel
theorem dX8_slipOn_27 : decode cX8_slipOn 27 = .ok (.iaload, 1) := by decide +kernel
theorem dX8_slipOn_28 : decode cX8_slipOn 28 = .ok (.iload_n 2, 1) := by decide +kernel
theorem dX8_slipOn_29 : decode cX8_slipOn 29 = .ok (.if_icmp .ne 8, 3) := by decide +kernel
theorem dX8_slipOn_32 : decode cX8_slipOn 32 = .ok (.iload 4, 2) := by decide +kernel
theorem dX8_slipOn_34 : decode cX8_slipOn 34 = .ok (.goto 4, 3) := by decide +kernel
theorem dX8_slipOn_37 : decode cX8_slipOn 37 = .ok (.iload_n 3, 1) := by decide +kernel
theorem dX8_slipOn_38 : decode cX8_slipOn 38 = .ok (.istore_n 3, 1) := by decide +kernel
theorem dX8_slipOn_39 : decode cX8_slipOn 39 = .ok (.iinc 4 1, 3) := by decide +kernel
theorem dX8_slipOn_42 : decode cX8_slipOn 42 = .ok (.goto (-36), 3) := by decide +kernel
theorem dX8_slipOn_45 : decode cX8_slipOn 45 = .ok (.iload_n 3, 1) := by decide +kernel
theorem dX8_slipOn_46 : decode cX8_slipOn 46 = .ok (.ireturn, 1) := by decide +kernel
theorem dX8_hangs_0 : decode cX8_hangs 0 = .ok (.aload_n 0, 1) := by decide +kernel
theorem dX8_hangs_1 : decode cX8_hangs 1 = .ok (.getfield 31, 3) := by decide +kernel
theorem dX8_hangs_4 : decode cX8_hangs 4 = .ok (.invokestatic 144, 3) := by decide +kernel
theorem dX8_hangs_7 : decode cX8_hangs 7 = .ok (.istore_n 2, 1) := by decide +kernel
theorem dX8_hangs_8 : decode cX8_hangs 8 = .ok (.aload_n 0, 1) := by decide +kernel
theorem dX8_hangs_9 : decode cX8_hangs 9 = .ok (.iload_n 2, 1) := by decide +kernel
theorem dX8_hangs_10 : decode cX8_hangs 10 = .ok (.iconst 1, 1) := by decide +kernel
theorem dX8_hangs_11 : decode cX8_hangs 11 = .ok (.iload_n 1, 1) := by decide +kernel
theorem dX8_hangs_12 : decode cX8_hangs 12 = .ok (.ishl, 1) := by decide +kernel
theorem dX8_hangs_13 : decode cX8_hangs 13 = .ok (.ior, 1) := by decide +kernel
theorem dX8_hangs_14 : decode cX8_hangs 14 = .ok (.invokevirtual 148, 3) := by decide +kernel
theorem dX8_hangs_17 : decode cX8_hangs 17 = .ok (.aload_n 0, 1) := by decide +kernel
theorem dX8_hangs_18 : decode cX8_hangs 18 = .ok (.iload_n 2, 1) := by decide +kernel
theorem dX8_hangs_19 : decode cX8_hangs 19 = .ok (.iconst 1, 1) := by decide +kernel
theorem dX8_hangs_20 : decode cX8_hangs 20 = .ok (.iload_n 1, 1) := by decide +kernel
theorem dX8_hangs_21 : decode cX8_hangs 21 = .ok (.ishl, 1) := by decide +kernel
theorem dX8_hangs_22 : decode cX8_hangs 22 = .ok (.iconst (-1), 1) := by decide +kernel
theorem dX8_hangs_23 : decode cX8_hangs 23 = .ok (.ixor, 1) := by decide +kernel
theorem dX8_hangs_24 : decode cX8_hangs 24 = .ok (.iand, 1) := by decide +kernel
theorem dX8_hangs_25 : decode cX8_hangs 25 = .ok (.invokevirtual 148, 3) := by decide +kernel
theorem dX8_hangs_28 : decode cX8_hangs 28 = .ok (.ixor, 1) := by decide +kernel
theorem dX8_hangs_29 : decode cX8_hangs 29 = .ok (.ireturn, 1) := by decide +kernel
theorem dX8_about_0 : decode cX8_about 0 = .ok (.aload_n 0, 1) := by decide +kernel
theorem dX8_about_1 : decode cX8_about 1 = .ok (.iconst 0, 1) := by decide +kernel
theorem dX8_about_2 : decode cX8_about 2 = .ok (.putfield 60, 3) := by decide +kernel
theorem dX8_about_5 : decode cX8_about 5 = .ok (.iload_n 1, 1) := by decide +kernel
theorem dX8_about_6 : decode cX8_about 6 = .ok (.tableswitch 116 0 8 #[50, 55, 63, 71, 80, 89, 101, 106, 111], 50) := by decide +kernel
theorem dX8_about_56 : decode cX8_about 56 = .ok (.aload_n 0, 1) := by decide +kernel
theorem dX8_about_57 : decode cX8_about 57 = .ok (.getfield 72, 3) := by decide +kernel
theorem dX8_about_60 : decode cX8_about 60 = .ok (.ireturn, 1) := by decide +kernel
theorem dX8_about_61 : decode cX8_about 61 = .ok (.aload_n 0, 1) := by decide +kernel
theorem dX8_about_62 : decode cX8_about 62 = .ok (.getfield 31, 3) := by decide +kernel
theorem dX8_about_65 : decode cX8_about 65 = .ok (.bipush 16, 2) := by decide +kernel
theorem dX8_about_67 : decode cX8_about 67 = .ok (.iaload, 1) := by decide +kernel
theorem dX8_about_68 : decode cX8_about 68 = .ok (.ireturn, 1) := by decide +kernel
theorem dX8_about_69 : decode cX8_about 69 = .ok (.aload_n 0, 1) := by decide +kernel
theorem dX8_about_70 : decode cX8_about 70 = .ok (.getfield 31, 3) := by decide +kernel
theorem dX8_about_73 : decode cX8_about 73 = .ok (.invokestatic 144, 3) := by decide +kernel
theorem dX8_about_76 : decode cX8_about 76 = .ok (.ireturn, 1) := by decide +kernel
theorem dX8_about_77 : decode cX8_about 77 = .ok (.aload_n 0, 1) := by decide +kernel
theorem dX8_about_78 : decode cX8_about 78 = .ok (.getfield 31, 3) := by decide +kernel
theorem dX8_about_81 : decode cX8_about 81 = .ok (.iconst 3, 1) := by decide +kernel
theorem dX8_about_82 : decode cX8_about 82 = .ok (.invokestatic 132, 3) := by decide +kernel
theorem dX8_about_85 : decode cX8_about 85 = .ok (.ireturn, 1) := by decide +kernel
theorem dX8_about_86 : decode cX8_about 86 = .ok (.aload_n 0, 1) := by decide +kernel
theorem dX8_about_87 : decode cX8_about 87 = .ok (.getfield 31, 3) := by decide +kernel
theorem dX8_about_90 : decode cX8_about 90 = .ok (.iconst 4, 1) := by decide +kernel
theorem dX8_about_91 : decode cX8_about 91 = .ok (.invokestatic 132, 3) := by decide +kernel
theorem dX8_about_94 : decode cX8_about 94 = .ok (.ireturn, 1) := by decide +kernel
theorem dX8_about_95 : decode cX8_about 95 = .ok (.aload_n 0, 1) := by decide +kernel
theorem dX8_about_96 : decode cX8_about 96 = .ok (.aload_n 0, 1) := by decide +kernel
theorem dX8_about_97 : decode cX8_about 97 = .ok (.getfield 31, 3) := by decide +kernel
theorem dX8_about_100 : decode cX8_about 100 = .ok (.invokestatic 144, 3) := by decide +kernel
theorem dX8_about_103 : decode cX8_about 103 = .ok (.invokevirtual 148, 3) := by decide +kernel
theorem dX8_about_106 : decode cX8_about 106 = .ok (.ireturn, 1) := by decide +kernel
theorem dX8_about_107 : decode cX8_about 107 = .ok (.aload_n 0, 1) := by decide +kernel
theorem dX8_about_108 : decode cX8_about 108 = .ok (.getfield 129, 3) := by decide +kernel
theorem dX8_about_111 : decode cX8_about 111 = .ok (.ireturn, 1) := by decide +kernel
theorem dX8_about_112 : decode cX8_about 112 = .ok (.aload_n 0, 1) := by decide +kernel
theorem dX8_about_113 : decode cX8_about 113 = .ok (.getfield 151, 3) := by decide +kernel
theorem dX8_about_116 : decode cX8_about 116 = .ok (.ireturn, 1) := by decide +kernel
theorem dX8_about_117 : decode cX8_about 117 = .ok (.aload_n 0, 1) := by decide +kernel
theorem dX8_about_118 : decode cX8_about 118 = .ok (.getfield 77, 3) := by decide +kernel
theorem dX8_about_121 : decode cX8_about 121 = .ok (.ireturn, 1) := by decide +kernel
theorem dX8_about_122 : decode cX8_about 122 = .ok (.bipush (-2), 2) := by decide +kernel
theorem dX8_about_124 : decode cX8_about 124 = .ok (.ireturn, 1) := by decide +kernel
theorem dX8_slip_0 : decode cX8_slip 0 = .ok (.aload_n 0, 1) := by decide +kernel
theorem dX8_slip_1 : decode cX8_slip 1 = .ok (.iconst 0, 1) := by decide +kernel
theorem dX8_slip_2 : decode cX8_slip 2 = .ok (.putfield 60, 3) := by decide +kernel
theorem dX8_slip_5 : decode cX8_slip 5 = .ok (.iload_n 1, 1) := by decide +kernel
theorem dX8_slip_6 : decode cX8_slip 6 = .ok (.invokestatic 91, 3) := by decide +kernel
theorem dX8_slip_9 : decode cX8_slip 9 = .ok (.ifCond .eq 5, 3) := by decide +kernel
theorem dX8_slip_12 : decode cX8_slip 12 = .ok (.iconst (-1), 1) := by decide +kernel
theorem dX8_slip_13 : decode cX8_slip 13 = .ok (.ireturn, 1) := by decide +kernel
theorem dX8_slip_14 : decode cX8_slip 14 = .ok (.aload_n 0, 1) := by decide +kernel
theorem dX8_slip_15 : decode cX8_slip 15 = .ok (.getfield 31, 3) := by decide +kernel
theorem dX8_slip_18 : decode cX8_slip 18 = .ok (.iload_n 1, 1) := by decide +kernel
theorem dX8_slip_19 : decode cX8_slip 19 = .ok (.iaload, 1) := by decide +kernel
theorem dX8_slip_20 : decode cX8_slip 20 = .ok (.iconst 3, 1) := by decide +kernel
theorem dX8_slip_21 : decode cX8_slip 21 = .ok (.if_icmp .ge 7, 3) := by decide +kernel
theorem dX8_slip_24 : decode cX8_slip 24 = .ok (.iconst 1, 1) := by decide +kernel
theorem dX8_slip_25 : decode cX8_slip 25 = .ok (.goto 4, 3) := by decide +kernel
theorem dX8_slip_28 : decode cX8_slip 28 = .ok (.iconst 0, 1) := by decide +kernel
theorem dX8_slip_29 : decode cX8_slip 29 = .ok (.istore_n 3, 1) := by decide +kernel
theorem dX8_slip_30 : decode cX8_slip 30 = .ok (.iload_n 2, 1) := by decide +kernel
theorem dX8_slip_31 : decode cX8_slip 31 = .ok (.tableswitch 89 0 3 #[29, 45, 64, 83], 29) := by decide +kernel
theorem dX8_slip_60 : decode cX8_slip 60 = .ok (.iload_n 3, 1) := by decide +kernel
theorem dX8_slip_61 : decode cX8_slip 61 = .ok (.ifCond .eq 12, 3) := by decide +kernel
theorem dX8_slip_64 : decode cX8_slip 64 = .ok (.aload_n 0, 1) := by decide +kernel
theorem dX8_slip_65 : decode cX8_slip 65 = .ok (.getfield 31, 3) := by decide +kernel
theorem dX8_slip_68 : decode cX8_slip 68 = .ok (.iload_n 1, 1) := by decide +kernel
theorem dX8_slip_69 : decode cX8_slip 69 = .ok (.iaload, 1) := by decide +kernel
theorem dX8_slip_70 : decode cX8_slip 70 = .ok (.goto 5, 3) := by decide +kernel
theorem dX8_slip_73 : decode cX8_slip 73 = .ok (.bipush (-9), 2) := by decide +kernel
theorem dX8_slip_75 : decode cX8_slip 75 = .ok (.ireturn, 1) := by decide +kernel
theorem dX8_slip_76 : decode cX8_slip 76 = .ok (.iload_n 3, 1) := by decide +kernel
theorem dX8_slip_77 : decode cX8_slip 77 = .ok (.ifCond .eq 15, 3) := by decide +kernel
theorem dX8_slip_80 : decode cX8_slip 80 = .ok (.aload_n 0, 1) := by decide +kernel
theorem dX8_slip_81 : decode cX8_slip 81 = .ok (.getfield 31, 3) := by decide +kernel
theorem dX8_slip_84 : decode cX8_slip 84 = .ok (.bipush 8, 2) := by decide +kernel
theorem dX8_slip_86 : decode cX8_slip 86 = .ok (.iload_n 1, 1) := by decide +kernel
theorem dX8_slip_87 : decode cX8_slip 87 = .ok (.iadd, 1) := by decide +kernel
theorem dX8_slip_88 : decode cX8_slip 88 = .ok (.iaload, 1) := by decide +kernel
theorem dX8_slip_89 : decode cX8_slip 89 = .ok (.goto 5, 3) := by decide +kernel
theorem dX8_slip_92 : decode cX8_slip 92 = .ok (.bipush (-9), 2) := by decide +kernel
theorem dX8_slip_94 : decode cX8_slip 94 = .ok (.ireturn, 1) := by decide +kernel
theorem dX8_slip_95 : decode cX8_slip 95 = .ok (.iload_n 3, 1) := by decide +kernel
theorem dX8_slip_96 : decode cX8_slip 96 = .ok (.ifCond .eq 7, 3) := by decide +kernel
theorem dX8_slip_99 : decode cX8_slip 99 = .ok (.iconst 0, 1) := by decide +kernel
theorem dX8_slip_100 : decode cX8_slip 100 = .ok (.goto 13, 3) := by decide +kernel
theorem dX8_slip_103 : decode cX8_slip 103 = .ok (.aload_n 0, 1) := by decide +kernel
theorem dX8_slip_104 : decode cX8_slip 104 = .ok (.getfield 31, 3) := by decide +kernel
theorem dX8_slip_107 : decode cX8_slip 107 = .ok (.iload_n 1, 1) := by decide +kernel
theorem dX8_slip_108 : decode cX8_slip 108 = .ok (.iaload, 1) := by decide +kernel
theorem dX8_slip_109 : decode cX8_slip 109 = .ok (.iconst 3, 1) := by decide +kernel
theorem dX8_slip_110 : decode cX8_slip 110 = .ok (.isub, 1) := by decide +kernel
theorem dX8_slip_111 : decode cX8_slip 111 = .ok (.iconst 1, 1) := by decide +kernel
theorem dX8_slip_112 : decode cX8_slip 112 = .ok (.iadd, 1) := by decide +kernel
theorem dX8_slip_113 : decode cX8_slip 113 = .ok (.ireturn, 1) := by decide +kernel
theorem dX8_slip_114 : decode cX8_slip 114 = .ok (.aload_n 0, 1) := by decide +kernel
theorem dX8_slip_115 : decode cX8_slip 115 = .ok (.iload_n 1, 1) := by decide +kernel
theorem dX8_slip_116 : decode cX8_slip 116 = .ok (.invokevirtual 154, 3) := by decide +kernel
theorem dX8_slip_119 : decode cX8_slip 119 = .ok (.ireturn, 1) := by decide +kernel
theorem dX8_slip_120 : decode cX8_slip 120 = .ok (.bipush (-2), 2) := by decide +kernel
theorem dX8_slip_122 : decode cX8_slip 122 = .ok (.ireturn, 1) := by decide +kernel
theorem dX8_spike_0 : decode cX8_spike 0 = .ok (.aload_n 0, 1) := by decide +kernel
theorem dX8_spike_1 : decode cX8_spike 1 = .ok (.iconst 0, 1) := by decide +kernel
theorem dX8_spike_2 : decode cX8_spike 2 = .ok (.putfield 60, 3) := by decide +kernel
theorem dX8_spike_5 : decode cX8_spike 5 = .ok (.iload_n 1, 1) := by decide +kernel
theorem dX8_spike_6 : decode cX8_spike 6 = .ok (.invokestatic 87, 3) := by decide +kernel
theorem dX8_spike_9 : decode cX8_spike 9 = .ok (.ifCond .eq 5, 3) := by decide +kernel
theorem dX8_spike_12 : decode cX8_spike 12 = .ok (.iconst (-1), 1) := by decide +kernel
theorem dX8_spike_13 : decode cX8_spike 13 = .ok (.ireturn, 1) := by decide +kernel
theorem dX8_spike_14 : decode cX8_spike 14 = .ok (.aload_n 0, 1) := by decide +kernel
theorem dX8_spike_15 : decode cX8_spike 15 = .ok (.getfield 31, 3) := by decide +kernel
theorem dX8_spike_18 : decode cX8_spike 18 = .ok (.iload_n 1, 1) := by decide +kernel
theorem dX8_spike_19 : decode cX8_spike 19 = .ok (.invokestatic 157, 3) := by decide +kernel
theorem dX8_spike_22 : decode cX8_spike 22 = .ok (.istore_n 3, 1) := by decide +kernel
theorem dX8_spike_23 : decode cX8_spike 23 = .ok (.iload_n 2, 1) := by decide +kernel
theorem dX8_spike_24 : decode cX8_spike 24 = .ok (.tableswitch 52 0 2 #[28, 30, 40], 28) := by decide +kernel
theorem dX8_spike_52 : decode cX8_spike 52 = .ok (.iload_n 3, 1) := by decide +kernel
theorem dX8_spike_53 : decode cX8_spike 53 = .ok (.ireturn, 1) := by decide +kernel
theorem dX8_spike_54 : decode cX8_spike 54 = .ok (.aload_n 0, 1) := by decide +kernel
theorem dX8_spike_55 : decode cX8_spike 55 = .ok (.getfield 31, 3) := by decide +kernel
theorem dX8_spike_58 : decode cX8_spike 58 = .ok (.iload_n 1, 1) := by decide +kernel
theorem dX8_spike_59 : decode cX8_spike 59 = .ok (.iconst 0, 1) := by decide +kernel
theorem dX8_spike_60 : decode cX8_spike 60 = .ok (.invokestatic 160, 3) := by decide +kernel
theorem dX8_spike_63 : decode cX8_spike 63 = .ok (.ireturn, 1) := by decide +kernel
theorem dX8_spike_64 : decode cX8_spike 64 = .ok (.aload_n 0, 1) := by decide +kernel
theorem dX8_spike_65 : decode cX8_spike 65 = .ok (.getfield 31, 3) := by decide +kernel
theorem dX8_spike_68 : decode cX8_spike 68 = .ok (.iload_n 1, 1) := by decide +kernel
theorem dX8_spike_69 : decode cX8_spike 69 = .ok (.iload_n 3, 1) := by decide +kernel
theorem dX8_spike_70 : decode cX8_spike 70 = .ok (.iconst 1, 1) := by decide +kernel
theorem dX8_spike_71 : decode cX8_spike 71 = .ok (.isub, 1) := by decide +kernel
theorem dX8_spike_72 : decode cX8_spike 72 = .ok (.invokestatic 160, 3) := by decide +kernel
theorem dX8_spike_75 : decode cX8_spike 75 = .ok (.ireturn, 1) := by decide +kernel
theorem dX8_spike_76 : decode cX8_spike 76 = .ok (.bipush (-2), 2) := by decide +kernel
theorem dX8_spike_78 : decode cX8_spike 78 = .ok (.ireturn, 1) := by decide +kernel
theorem dX8_thing_0 : decode cX8_thing 0 = .ok (.aload_n 0, 1) := by decide +kernel
theorem dX8_thing_1 : decode cX8_thing 1 = .ok (.iconst 0, 1) := by decide +kernel
theorem dX8_thing_2 : decode cX8_thing 2 = .ok (.putfield 60, 3) := by decide +kernel
theorem dX8_thing_5 : decode cX8_thing 5 = .ok (.aload_n 0, 1) := by decide +kernel
theorem dX8_thing_6 : decode cX8_thing 6 = .ok (.iload_n 1, 1) := by decide +kernel
theorem dX8_thing_7 : decode cX8_thing 7 = .ok (.invokevirtual 164, 3) := by decide +kernel
theorem dX8_thing_10 : decode cX8_thing 10 = .ok (.ifCond .eq 5, 3) := by decide +kernel
theorem dX8_thing_13 : decode cX8_thing 13 = .ok (.iconst (-1), 1) := by decide +kernel
theorem dX8_thing_14 : decode cX8_thing 14 = .ok (.ireturn, 1) := by decide +kernel
theorem dX8_thing_15 : decode cX8_thing 15 = .ok (.iload_n 2, 1) := by decide +kernel
theorem dX8_thing_16 : decode cX8_thing 16 = .ok (.tableswitch 72 0 4 #[36, 43, 43, 43, 56], 36) := by decide +kernel
theorem dX8_thing_52 : decode cX8_thing 52 = .ok (.aload_n 0, 1) := by decide +kernel
theorem dX8_thing_53 : decode cX8_thing 53 = .ok (.getfield 13, 3) := by decide +kernel
theorem dX8_thing_56 : decode cX8_thing 56 = .ok (.iload_n 1, 1) := by decide +kernel
theorem dX8_thing_57 : decode cX8_thing 57 = .ok (.iaload, 1) := by decide +kernel
theorem dX8_thing_58 : decode cX8_thing 58 = .ok (.ireturn, 1) := by decide +kernel
theorem dX8_thing_59 : decode cX8_thing 59 = .ok (.aload_n 0, 1) := by decide +kernel
theorem dX8_thing_60 : decode cX8_thing 60 = .ok (.getfield 16, 3) := by decide +kernel
theorem dX8_thing_63 : decode cX8_thing 63 = .ok (.iconst 3, 1) := by decide +kernel
theorem dX8_thing_64 : decode cX8_thing 64 = .ok (.iload_n 1, 1) := by decide +kernel
theorem dX8_thing_65 : decode cX8_thing 65 = .ok (.imul, 1) := by decide +kernel
theorem dX8_thing_66 : decode cX8_thing 66 = .ok (.iload_n 2, 1) := by decide +kernel
theorem dX8_thing_67 : decode cX8_thing 67 = .ok (.iadd, 1) := by decide +kernel
theorem dX8_thing_68 : decode cX8_thing 68 = .ok (.iconst 1, 1) := by decide +kernel
theorem dX8_thing_69 : decode cX8_thing 69 = .ok (.isub, 1) := by decide +kernel
theorem dX8_thing_70 : decode cX8_thing 70 = .ok (.iaload, 1) := by decide +kernel
theorem dX8_thing_71 : decode cX8_thing 71 = .ok (.ireturn, 1) := by decide +kernel
theorem dX8_thing_72 : decode cX8_thing 72 = .ok (.aload_n 0, 1) := by decide +kernel
theorem dX8_thing_73 : decode cX8_thing 73 = .ok (.aload_n 0, 1) := by decide +kernel
theorem dX8_thing_74 : decode cX8_thing 74 = .ok (.getfield 31, 3) := by decide +kernel
theorem dX8_thing_77 : decode cX8_thing 77 = .ok (.invokestatic 144, 3) := by decide +kernel
theorem dX8_thing_80 : decode cX8_thing 80 = .ok (.invokevirtual 148, 3) := by decide +kernel
theorem dX8_thing_83 : decode cX8_thing 83 = .ok (.iload_n 1, 1) := by decide +kernel
theorem dX8_thing_84 : decode cX8_thing 84 = .ok (.ishr, 1) := by decide +kernel
theorem dX8_thing_85 : decode cX8_thing 85 = .ok (.iconst 1, 1) := by decide +kernel
theorem dX8_thing_86 : decode cX8_thing 86 = .ok (.iand, 1) := by decide +kernel
theorem dX8_thing_87 : decode cX8_thing 87 = .ok (.ireturn, 1) := by decide +kernel
theorem dX8_thing_88 : decode cX8_thing 88 = .ok (.bipush (-2), 2) := by decide +kernel
theorem dX8_thing_90 : decode cX8_thing 90 = .ok (.ireturn, 1) := by decide +kernel
theorem dX8_note_0 : decode cX8_note 0 = .ok (.aload_n 0, 1) := by decide +kernel
theorem dX8_note_1 : decode cX8_note 1 = .ok (.getfield 129, 3) := by decide +kernel
theorem dX8_note_4 : decode cX8_note 4 = .ok (.bipush 14, 2) := by decide +kernel
theorem dX8_note_6 : decode cX8_note 6 = .ok (.if_icmp .ne 43, 3) := by decide +kernel
theorem dX8_note_9 : decode cX8_note 9 = .ok (.iconst 0, 1) := by decide +kernel
theorem dX8_note_10 : decode cX8_note 10 = .ok (.istore_n 1, 1) := by decide +kernel
theorem dX8_note_11 : decode cX8_note 11 = .ok (.iload_n 1, 1) := by decide +kernel
theorem dX8_note_12 : decode cX8_note 12 = .ok (.sipush 221, 3) := by decide +kernel
theorem dX8_note_15 : decode cX8_note 15 = .ok (.if_icmp .ge 24, 3) := by decide +kernel
theorem dX8_note_18 : decode cX8_note 18 = .ok (.aload_n 0, 1) := by decide +kernel
theorem dX8_note_19 : decode cX8_note 19 = .ok (.getfield 37, 3) := by decide +kernel
theorem dX8_note_22 : decode cX8_note 22 = .ok (.iload_n 1, 1) := by decide +kernel
theorem dX8_note_23 : decode cX8_note 23 = .ok (.aload_n 0, 1) := by decide +kernel
theorem dX8_note_24 : decode cX8_note 24 = .ok (.getfield 37, 3) := by decide +kernel
theorem dX8_note_27 : decode cX8_note 27 = .ok (.iload_n 1, 1) := by decide +kernel
theorem dX8_note_28 : decode cX8_note 28 = .ok (.bipush 17, 2) := by decide +kernel
theorem dX8_note_30 : decode cX8_note 30 = .ok (.iadd, 1) := by decide +kernel
theorem dX8_note_31 : decode cX8_note 31 = .ok (.iaload, 1) := by decide +kernel
theorem dX8_note_32 : decode cX8_note 32 = .ok (.iastore, 1) := by decide +kernel
theorem dX8_note_33 : decode cX8_note 33 = .ok (.iinc 1 1, 3) := by decide +kernel
theorem dX8_note_36 : decode cX8_note 36 = .ok (.goto (-25), 3) := by decide +kernel
theorem dX8_note_39 : decode cX8_note 39 = .ok (.aload_n 0, 1) := by decide +kernel
theorem dX8_note_40 : decode cX8_note 40 = .ok (.dup, 1) := by decide +kernel
theorem dX8_note_41 : decode cX8_note 41 = .ok (.getfield 129, 3) := by decide +kernel
theorem dX8_note_44 : decode cX8_note 44 = .ok (.iconst 1, 1) := by decide +kernel
theorem dX8_note_45 : decode cX8_note 45 = .ok (.isub, 1) := by decide +kernel
theorem dX8_note_46 : decode cX8_note 46 = .ok (.putfield 129, 3) := by decide +kernel
theorem dX8_note_49 : decode cX8_note 49 = .ok (.iconst 0, 1) := by decide +kernel
theorem dX8_note_50 : decode cX8_note 50 = .ok (.istore_n 1, 1) := by decide +kernel
theorem dX8_note_51 : decode cX8_note 51 = .ok (.iload_n 1, 1) := by decide +kernel
theorem dX8_note_52 : decode cX8_note 52 = .ok (.bipush 17, 2) := by decide +kernel
theorem dX8_note_54 : decode cX8_note 54 = .ok (.if_icmp .ge 29, 3) := by decide +kernel
theorem dX8_note_57 : decode cX8_note 57 = .ok (.aload_n 0, 1) := by decide +kernel
theorem dX8_note_58 : decode cX8_note 58 = .ok (.getfield 37, 3) := by decide +kernel
theorem dX8_note_61 : decode cX8_note 61 = .ok (.bipush 17, 2) := by decide +kernel
theorem dX8_note_63 : decode cX8_note 63 = .ok (.aload_n 0, 1) := by decide +kernel
theorem dX8_note_64 : decode cX8_note 64 = .ok (.getfield 129, 3) := by decide +kernel
theorem dX8_note_67 : decode cX8_note 67 = .ok (.imul, 1) := by decide +kernel
theorem dX8_note_68 : decode cX8_note 68 = .ok (.iload_n 1, 1) := by decide +kernel
theorem dX8_note_69 : decode cX8_note 69 = .ok (.iadd, 1) := by decide +kernel
theorem dX8_note_70 : decode cX8_note 70 = .ok (.aload_n 0, 1) := by decide +kernel
theorem dX8_note_71 : decode cX8_note 71 = .ok (.getfield 31, 3) := by decide +kernel
theorem dX8_note_74 : decode cX8_note 74 = .ok (.iload_n 1, 1) := by decide +kernel
theorem dX8_note_75 : decode cX8_note 75 = .ok (.iaload, 1) := by decide +kernel
theorem dX8_note_76 : decode cX8_note 76 = .ok (.iastore, 1) := by decide +kernel
theorem dX8_note_77 : decode cX8_note 77 = .ok (.iinc 1 1, 3) := by decide +kernel
theorem dX8_note_80 : decode cX8_note 80 = .ok (.goto (-29), 3) := by decide +kernel
theorem dX8_note_83 : decode cX8_note 83 = .ok (.aload_n 0, 1) := by decide +kernel
theorem dX8_note_84 : decode cX8_note 84 = .ok (.dup, 1) := by decide +kernel
theorem dX8_note_85 : decode cX8_note 85 = .ok (.getfield 129, 3) := by decide +kernel
theorem dX8_note_88 : decode cX8_note 88 = .ok (.iconst 1, 1) := by decide +kernel
theorem dX8_note_89 : decode cX8_note 89 = .ok (.iadd, 1) := by decide +kernel
theorem dX8_note_90 : decode cX8_note 90 = .ok (.putfield 129, 3) := by decide +kernel
theorem dX8_note_93 : decode cX8_note 93 = .ok (.return_, 1) := by decide +kernel
theorem dX8_goPut_0 : decode cX8_goPut 0 = .ok (.aload_n 0, 1) := by decide +kernel
theorem dX8_goPut_1 : decode cX8_goPut 1 = .ok (.bipush 8, 2) := by decide +kernel
theorem dX8_goPut_3 : decode cX8_goPut 3 = .ok (.iload_n 1, 1) := by decide +kernel
theorem dX8_goPut_4 : decode cX8_goPut 4 = .ok (.iadd, 1) := by decide +kernel
theorem dX8_goPut_5 : decode cX8_goPut 5 = .ok (.aload_n 0, 1) := by decide +kernel
theorem dX8_goPut_6 : decode cX8_goPut 6 = .ok (.iload_n 2, 1) := by decide +kernel
theorem dX8_goPut_7 : decode cX8_goPut 7 = .ok (.invokestatic 157, 3) := by decide +kernel
theorem dX8_goPut_10 : decode cX8_goPut 10 = .ok (.iastore, 1) := by decide +kernel
theorem dX8_goPut_11 : decode cX8_goPut 11 = .ok (.aload_n 0, 1) := by decide +kernel
theorem dX8_goPut_12 : decode cX8_goPut 12 = .ok (.iload_n 1, 1) := by decide +kernel
theorem dX8_goPut_13 : decode cX8_goPut 13 = .ok (.iload_n 2, 1) := by decide +kernel
theorem dX8_goPut_14 : decode cX8_goPut 14 = .ok (.iastore, 1) := by decide +kernel
theorem dX8_goPut_15 : decode cX8_goPut 15 = .ok (.return_, 1) := by decide +kernel
theorem dX8_goAway_0 : decode cX8_goAway 0 = .ok (.aload_n 0, 1) := by decide +kernel
theorem dX8_goAway_1 : decode cX8_goAway 1 = .ok (.iload_n 1, 1) := by decide +kernel
theorem dX8_goAway_2 : decode cX8_goAway 2 = .ok (.iload_n 2, 1) := by decide +kernel
theorem dX8_goAway_3 : decode cX8_goAway 3 = .ok (.iastore, 1) := by decide +kernel
theorem dX8_goAway_4 : decode cX8_goAway 4 = .ok (.aload_n 0, 1) := by decide +kernel
theorem dX8_goAway_5 : decode cX8_goAway 5 = .ok (.bipush 8, 2) := by decide +kernel
theorem dX8_goAway_7 : decode cX8_goAway 7 = .ok (.iload_n 1, 1) := by decide +kernel
theorem dX8_goAway_8 : decode cX8_goAway 8 = .ok (.iadd, 1) := by decide +kernel
theorem dX8_goAway_9 : decode cX8_goAway 9 = .ok (.bipush (-9), 2) := by decide +kernel
theorem dX8_goAway_11 : decode cX8_goAway 11 = .ok (.iastore, 1) := by decide +kernel
theorem dX8_goAway_12 : decode cX8_goAway 12 = .ok (.return_, 1) := by decide +kernel
theorem dX8_put_0 : decode cX8_put 0 = .ok (.aload_n 0, 1) := by decide +kernel
theorem dX8_put_1 : decode cX8_put 1 = .ok (.iconst 0, 1) := by decide +kernel
theorem dX8_put_2 : decode cX8_put 2 = .ok (.putfield 60, 3) := by decide +kernel
theorem dX8_put_5 : decode cX8_put 5 = .ok (.iload_n 1, 1) := by decide +kernel
theorem dX8_put_6 : decode cX8_put 6 = .ok (.invokestatic 91, 3) := by decide +kernel
theorem dX8_put_9 : decode cX8_put 9 = .ok (.ifCond .ne 10, 3) := by decide +kernel
theorem dX8_put_12 : decode cX8_put 12 = .ok (.iload_n 2, 1) := by decide +kernel
theorem dX8_put_13 : decode cX8_put 13 = .ok (.invokestatic 87, 3) := by decide +kernel
theorem dX8_put_16 : decode cX8_put 16 = .ok (.ifCond .eq 5, 3) := by decide +kernel
theorem dX8_put_19 : decode cX8_put 19 = .ok (.iconst (-1), 1) := by decide +kernel
theorem dX8_put_20 : decode cX8_put 20 = .ok (.ireturn, 1) := by decide +kernel
theorem dX8_put_21 : decode cX8_put 21 = .ok (.aload_n 0, 1) := by decide +kernel
theorem dX8_put_22 : decode cX8_put 22 = .ok (.getfield 31, 3) := by decide +kernel
theorem dX8_put_25 : decode cX8_put 25 = .ok (.iload_n 1, 1) := by decide +kernel
theorem dX8_put_26 : decode cX8_put 26 = .ok (.iaload, 1) := by decide +kernel
theorem dX8_put_27 : decode cX8_put 27 = .ok (.iconst 3, 1) := by decide +kernel
theorem dX8_put_28 : decode cX8_put 28 = .ok (.if_icmp .eq 6, 3) := by decide +kernel
theorem dX8_put_31 : decode cX8_put 31 = .ok (.bipush (-3), 2) := by decide +kernel
theorem dX8_put_33 : decode cX8_put 33 = .ok (.ireturn, 1) := by decide +kernel
theorem dX8_put_34 : decode cX8_put 34 = .ok (.aload_n 0, 1) := by decide +kernel
theorem dX8_put_35 : decode cX8_put 35 = .ok (.invokevirtual 167, 3) := by decide +kernel
theorem dX8_put_38 : decode cX8_put 38 = .ok (.aload_n 0, 1) := by decide +kernel
theorem dX8_put_39 : decode cX8_put 39 = .ok (.getfield 31, 3) := by decide +kernel
theorem dX8_put_42 : decode cX8_put 42 = .ok (.iload_n 1, 1) := by decide +kernel
theorem dX8_put_43 : decode cX8_put 43 = .ok (.iload_n 2, 1) := by decide +kernel
theorem dX8_put_44 : decode cX8_put 44 = .ok (.invokestatic 170, 3) := by decide +kernel
theorem dX8_put_47 : decode cX8_put 47 = .ok (.aload_n 0, 1) := by decide +kernel
theorem dX8_put_48 : decode cX8_put 48 = .ok (.getfield 31, 3) := by decide +kernel
theorem dX8_put_51 : decode cX8_put 51 = .ok (.bipush 8, 2) := by decide +kernel
theorem dX8_put_53 : decode cX8_put 53 = .ok (.iload_n 1, 1) := by decide +kernel
theorem dX8_put_54 : decode cX8_put 54 = .ok (.iadd, 1) := by decide +kernel
theorem dX8_put_55 : decode cX8_put 55 = .ok (.iaload, 1) := by decide +kernel
theorem dX8_put_56 : decode cX8_put 56 = .ok (.ireturn, 1) := by decide +kernel
theorem dX8_topOf_0 : decode cX8_topOf 0 = .ok (.aload_n 0, 1) := by decide +kernel
theorem dX8_topOf_1 : decode cX8_topOf 1 = .ok (.iload_n 1, 1) := by decide +kernel
theorem dX8_topOf_2 : decode cX8_topOf 2 = .ok (.aload_n 0, 1) := by decide +kernel
theorem dX8_topOf_3 : decode cX8_topOf 3 = .ok (.iload_n 1, 1) := by decide +kernel
theorem dX8_topOf_4 : decode cX8_topOf 4 = .ok (.invokestatic 157, 3) := by decide +kernel
theorem dX8_topOf_7 : decode cX8_topOf 7 = .ok (.iconst 1, 1) := by decide +kernel
theorem dX8_topOf_8 : decode cX8_topOf 8 = .ok (.isub, 1) := by decide +kernel
theorem dX8_topOf_9 : decode cX8_topOf 9 = .ok (.invokestatic 160, 3) := by decide +kernel
theorem dX8_topOf_12 : decode cX8_topOf 12 = .ok (.ireturn, 1) := by decide +kernel
theorem dX8_take_0 : decode cX8_take 0 = .ok (.aload_n 0, 1) := by decide +kernel
theorem dX8_take_1 : decode cX8_take 1 = .ok (.iconst 0, 1) := by decide +kernel
theorem dX8_take_2 : decode cX8_take 2 = .ok (.putfield 60, 3) := by decide +kernel
theorem dX8_take_5 : decode cX8_take 5 = .ok (.iload_n 1, 1) := by decide +kernel
theorem dX8_take_6 : decode cX8_take 6 = .ok (.invokestatic 87, 3) := by decide +kernel
theorem dX8_take_9 : decode cX8_take 9 = .ok (.ifCond .eq 5, 3) := by decide +kernel
theorem dX8_take_12 : decode cX8_take 12 = .ok (.iconst (-1), 1) := by decide +kernel
theorem dX8_take_13 : decode cX8_take 13 = .ok (.ireturn, 1) := by decide +kernel
theorem dX8_take_14 : decode cX8_take 14 = .ok (.aload_n 0, 1) := by decide +kernel
theorem dX8_take_15 : decode cX8_take 15 = .ok (.getfield 31, 3) := by decide +kernel
theorem dX8_take_18 : decode cX8_take 18 = .ok (.iload_n 1, 1) := by decide +kernel
theorem dX8_take_19 : decode cX8_take 19 = .ok (.invokestatic 174, 3) := by decide +kernel
theorem dX8_take_22 : decode cX8_take 22 = .ok (.istore_n 2, 1) := by decide +kernel
theorem dX8_take_23 : decode cX8_take 23 = .ok (.iload_n 2, 1) := by decide +kernel
theorem dX8_take_24 : decode cX8_take 24 = .ok (.bipush (-9), 2) := by decide +kernel
theorem dX8_take_26 : decode cX8_take 26 = .ok (.if_icmp .ne 6, 3) := by decide +kernel
theorem dX8_take_29 : decode cX8_take 29 = .ok (.bipush (-3), 2) := by decide +kernel
theorem dX8_take_31 : decode cX8_take 31 = .ok (.ireturn, 1) := by decide +kernel
theorem dX8_take_32 : decode cX8_take 32 = .ok (.aload_n 0, 1) := by decide +kernel
theorem dX8_take_33 : decode cX8_take 33 = .ok (.invokevirtual 167, 3) := by decide +kernel
theorem dX8_take_36 : decode cX8_take 36 = .ok (.aload_n 0, 1) := by decide +kernel
theorem dX8_take_37 : decode cX8_take 37 = .ok (.getfield 31, 3) := by decide +kernel
theorem dX8_take_40 : decode cX8_take 40 = .ok (.iload_n 2, 1) := by decide +kernel
theorem dX8_take_41 : decode cX8_take 41 = .ok (.iconst 3, 1) := by decide +kernel
theorem dX8_take_42 : decode cX8_take 42 = .ok (.invokestatic 177, 3) := by decide +kernel
theorem dX8_take_45 : decode cX8_take 45 = .ok (.iload_n 2, 1) := by decide +kernel
theorem dX8_take_46 : decode cX8_take 46 = .ok (.ireturn, 1) := by decide +kernel
theorem dX8_tear_0 : decode cX8_tear 0 = .ok (.aload_n 0, 1) := by decide +kernel
theorem dX8_tear_1 : decode cX8_tear 1 = .ok (.iconst 0, 1) := by decide +kernel
theorem dX8_tear_2 : decode cX8_tear 2 = .ok (.putfield 60, 3) := by decide +kernel
theorem dX8_tear_5 : decode cX8_tear 5 = .ok (.iload_n 1, 1) := by decide +kernel
theorem dX8_tear_6 : decode cX8_tear 6 = .ok (.invokestatic 91, 3) := by decide +kernel
theorem dX8_tear_9 : decode cX8_tear 9 = .ok (.ifCond .eq 5, 3) := by decide +kernel
theorem dX8_tear_12 : decode cX8_tear 12 = .ok (.iconst (-1), 1) := by decide +kernel
theorem dX8_tear_13 : decode cX8_tear 13 = .ok (.ireturn, 1) := by decide +kernel
theorem dX8_tear_14 : decode cX8_tear 14 = .ok (.aload_n 0, 1) := by decide +kernel
theorem dX8_tear_15 : decode cX8_tear 15 = .ok (.getfield 31, 3) := by decide +kernel
theorem dX8_tear_18 : decode cX8_tear 18 = .ok (.iload_n 1, 1) := by decide +kernel
theorem dX8_tear_19 : decode cX8_tear 19 = .ok (.iaload, 1) := by decide +kernel
theorem dX8_tear_20 : decode cX8_tear 20 = .ok (.iconst 3, 1) := by decide +kernel
theorem dX8_tear_21 : decode cX8_tear 21 = .ok (.if_icmp .eq 6, 3) := by decide +kernel
theorem dX8_tear_24 : decode cX8_tear 24 = .ok (.bipush (-3), 2) := by decide +kernel
theorem dX8_tear_26 : decode cX8_tear 26 = .ok (.ireturn, 1) := by decide +kernel
theorem dX8_tear_27 : decode cX8_tear 27 = .ok (.aload_n 0, 1) := by decide +kernel
theorem dX8_tear_28 : decode cX8_tear 28 = .ok (.invokevirtual 167, 3) := by decide +kernel
theorem dX8_tear_31 : decode cX8_tear 31 = .ok (.aload_n 0, 1) := by decide +kernel
theorem dX8_tear_32 : decode cX8_tear 32 = .ok (.getfield 31, 3) := by decide +kernel
theorem dX8_tear_35 : decode cX8_tear 35 = .ok (.iload_n 1, 1) := by decide +kernel
theorem dX8_tear_36 : decode cX8_tear 36 = .ok (.iconst 4, 1) := by decide +kernel
theorem dX8_tear_37 : decode cX8_tear 37 = .ok (.invokestatic 177, 3) := by decide +kernel
theorem dX8_tear_40 : decode cX8_tear 40 = .ok (.aload_n 0, 1) := by decide +kernel
theorem dX8_tear_41 : decode cX8_tear 41 = .ok (.getfield 31, 3) := by decide +kernel
theorem dX8_tear_44 : decode cX8_tear 44 = .ok (.iconst 4, 1) := by decide +kernel
theorem dX8_tear_45 : decode cX8_tear 45 = .ok (.invokestatic 132, 3) := by decide +kernel
theorem dX8_tear_48 : decode cX8_tear 48 = .ok (.invokestatic 112, 3) := by decide +kernel
theorem dX8_tear_51 : decode cX8_tear 51 = .ok (.ireturn, 1) := by decide +kernel
theorem dX8_forge_0 : decode cX8_forge 0 = .ok (.aload_n 0, 1) := by decide +kernel
theorem dX8_forge_1 : decode cX8_forge 1 = .ok (.iconst 0, 1) := by decide +kernel
theorem dX8_forge_2 : decode cX8_forge 2 = .ok (.putfield 60, 3) := by decide +kernel
theorem dX8_forge_5 : decode cX8_forge 5 = .ok (.iload_n 1, 1) := by decide +kernel
theorem dX8_forge_6 : decode cX8_forge 6 = .ok (.invokestatic 91, 3) := by decide +kernel
theorem dX8_forge_9 : decode cX8_forge 9 = .ok (.ifCond .eq 5, 3) := by decide +kernel
theorem dX8_forge_12 : decode cX8_forge 12 = .ok (.iconst (-1), 1) := by decide +kernel
theorem dX8_forge_13 : decode cX8_forge 13 = .ok (.ireturn, 1) := by decide +kernel
theorem dX8_forge_14 : decode cX8_forge 14 = .ok (.aload_n 0, 1) := by decide +kernel
theorem dX8_forge_15 : decode cX8_forge 15 = .ok (.getfield 31, 3) := by decide +kernel
theorem dX8_forge_18 : decode cX8_forge 18 = .ok (.iload_n 1, 1) := by decide +kernel
theorem dX8_forge_19 : decode cX8_forge 19 = .ok (.iaload, 1) := by decide +kernel
theorem dX8_forge_20 : decode cX8_forge 20 = .ok (.iconst 4, 1) := by decide +kernel
theorem dX8_forge_21 : decode cX8_forge 21 = .ok (.if_icmp .eq 6, 3) := by decide +kernel
theorem dX8_forge_24 : decode cX8_forge 24 = .ok (.bipush (-3), 2) := by decide +kernel
theorem dX8_forge_26 : decode cX8_forge 26 = .ok (.ireturn, 1) := by decide +kernel
theorem dX8_forge_27 : decode cX8_forge 27 = .ok (.aload_n 0, 1) := by decide +kernel
theorem dX8_forge_28 : decode cX8_forge 28 = .ok (.invokevirtual 167, 3) := by decide +kernel
theorem dX8_forge_31 : decode cX8_forge 31 = .ok (.aload_n 0, 1) := by decide +kernel
theorem dX8_forge_32 : decode cX8_forge 32 = .ok (.getfield 31, 3) := by decide +kernel
theorem dX8_forge_35 : decode cX8_forge 35 = .ok (.iload_n 1, 1) := by decide +kernel
theorem dX8_forge_36 : decode cX8_forge 36 = .ok (.iconst 3, 1) := by decide +kernel
theorem dX8_forge_37 : decode cX8_forge 37 = .ok (.invokestatic 177, 3) := by decide +kernel
theorem dX8_forge_40 : decode cX8_forge 40 = .ok (.aload_n 0, 1) := by decide +kernel
theorem dX8_forge_41 : decode cX8_forge 41 = .ok (.getfield 31, 3) := by decide +kernel
theorem dX8_forge_44 : decode cX8_forge 44 = .ok (.iconst 4, 1) := by decide +kernel
theorem dX8_forge_45 : decode cX8_forge 45 = .ok (.invokestatic 132, 3) := by decide +kernel
theorem dX8_forge_48 : decode cX8_forge 48 = .ok (.invokestatic 112, 3) := by decide +kernel
theorem dX8_forge_51 : decode cX8_forge 51 = .ok (.ireturn, 1) := by decide +kernel
theorem dX8_goNight_0 : decode cX8_goNight 0 = .ok (.iconst 0, 1) := by decide +kernel
theorem dX8_goNight_1 : decode cX8_goNight 1 = .ok (.istore_n 1, 1) := by decide +kernel
theorem dX8_goNight_2 : decode cX8_goNight 2 = .ok (.iconst 0, 1) := by decide +kernel
theorem dX8_goNight_3 : decode cX8_goNight 3 = .ok (.istore_n 2, 1) := by decide +kernel
theorem dX8_goNight_4 : decode cX8_goNight 4 = .ok (.iload_n 2, 1) := by decide +kernel
theorem dX8_goNight_5 : decode cX8_goNight 5 = .ok (.iconst 3, 1) := by decide +kernel
theorem dX8_goNight_6 : decode cX8_goNight 6 = .ok (.if_icmp .ge 67, 3) := by decide +kernel
theorem dX8_goNight_9 : decode cX8_goNight 9 = .ok (.aload_n 0, 1) := by decide +kernel
theorem dX8_goNight_10 : decode cX8_goNight 10 = .ok (.iload_n 2, 1) := by decide +kernel
theorem dX8_goNight_11 : decode cX8_goNight 11 = .ok (.invokestatic 157, 3) := by decide +kernel
theorem dX8_goNight_14 : decode cX8_goNight 14 = .ok (.iconst 3, 1) := by decide +kernel
theorem dX8_goNight_15 : decode cX8_goNight 15 = .ok (.if_icmp .lt 52, 3) := by decide +kernel
theorem dX8_goNight_18 : decode cX8_goNight 18 = .ok (.aload_n 0, 1) := by decide +kernel
theorem dX8_goNight_19 : decode cX8_goNight 19 = .ok (.aload_n 0, 1) := by decide +kernel
theorem dX8_goNight_20 : decode cX8_goNight 20 = .ok (.iload_n 2, 1) := by decide +kernel
theorem dX8_goNight_21 : decode cX8_goNight 21 = .ok (.iconst 0, 1) := by decide +kernel
theorem dX8_goNight_22 : decode cX8_goNight 22 = .ok (.invokestatic 160, 3) := by decide +kernel
theorem dX8_goNight_25 : decode cX8_goNight 25 = .ok (.iconst 4, 1) := by decide +kernel
theorem dX8_goNight_26 : decode cX8_goNight 26 = .ok (.invokestatic 177, 3) := by decide +kernel
theorem dX8_goNight_29 : decode cX8_goNight 29 = .ok (.iconst 0, 1) := by decide +kernel
theorem dX8_goNight_30 : decode cX8_goNight 30 = .ok (.istore_n 3, 1) := by decide +kernel
theorem dX8_goNight_31 : decode cX8_goNight 31 = .ok (.iload_n 3, 1) := by decide +kernel
theorem dX8_goNight_32 : decode cX8_goNight 32 = .ok (.bipush 8, 2) := by decide +kernel
theorem dX8_goNight_34 : decode cX8_goNight 34 = .ok (.if_icmp .ge 30, 3) := by decide +kernel
theorem dX8_goNight_37 : decode cX8_goNight 37 = .ok (.aload_n 0, 1) := by decide +kernel
theorem dX8_goNight_38 : decode cX8_goNight 38 = .ok (.bipush 8, 2) := by decide +kernel
theorem dX8_goNight_40 : decode cX8_goNight 40 = .ok (.iload_n 3, 1) := by decide +kernel
theorem dX8_goNight_41 : decode cX8_goNight 41 = .ok (.iadd, 1) := by decide +kernel
theorem dX8_goNight_42 : decode cX8_goNight 42 = .ok (.dup2, 1) := by decide +kernel
theorem dX8_goNight_43 : decode cX8_goNight 43 = .ok (.iaload, 1) := by decide +kernel
theorem dX8_goNight_44 : decode cX8_goNight 44 = .ok (.aload_n 0, 1) := by decide +kernel
theorem dX8_goNight_45 : decode cX8_goNight 45 = .ok (.iload_n 3, 1) := by decide +kernel
theorem dX8_goNight_46 : decode cX8_goNight 46 = .ok (.iaload, 1) := by decide +kernel
theorem dX8_goNight_47 : decode cX8_goNight 47 = .ok (.iload_n 2, 1) := by decide +kernel
theorem dX8_goNight_48 : decode cX8_goNight 48 = .ok (.if_icmp .ne 7, 3) := by decide +kernel
theorem dX8_goNight_51 : decode cX8_goNight 51 = .ok (.iconst 1, 1) := by decide +kernel
theorem dX8_goNight_52 : decode cX8_goNight 52 = .ok (.goto 4, 3) := by decide +kernel
theorem dX8_goNight_55 : decode cX8_goNight 55 = .ok (.iconst 0, 1) := by decide +kernel
theorem dX8_goNight_56 : decode cX8_goNight 56 = .ok (.isub, 1) := by decide +kernel
theorem dX8_goNight_57 : decode cX8_goNight 57 = .ok (.iastore, 1) := by decide +kernel
theorem dX8_goNight_58 : decode cX8_goNight 58 = .ok (.iinc 3 1, 3) := by decide +kernel
theorem dX8_goNight_61 : decode cX8_goNight 61 = .ok (.goto (-30), 3) := by decide +kernel
theorem dX8_goNight_64 : decode cX8_goNight 64 = .ok (.iinc 1 1, 3) := by decide +kernel
theorem dX8_goNight_67 : decode cX8_goNight 67 = .ok (.iinc 2 1, 3) := by decide +kernel
theorem dX8_goNight_70 : decode cX8_goNight 70 = .ok (.goto (-66), 3) := by decide +kernel
theorem dX8_goNight_73 : decode cX8_goNight 73 = .ok (.aload_n 0, 1) := by decide +kernel
theorem dX8_goNight_74 : decode cX8_goNight 74 = .ok (.bipush 16, 2) := by decide +kernel
theorem dX8_goNight_76 : decode cX8_goNight 76 = .ok (.dup2, 1) := by decide +kernel
theorem dX8_goNight_77 : decode cX8_goNight 77 = .ok (.iaload, 1) := by decide +kernel
theorem dX8_goNight_78 : decode cX8_goNight 78 = .ok (.iconst 1, 1) := by decide +kernel
theorem dX8_goNight_79 : decode cX8_goNight 79 = .ok (.iadd, 1) := by decide +kernel
theorem dX8_goNight_80 : decode cX8_goNight 80 = .ok (.iastore, 1) := by decide +kernel
theorem dX8_goNight_81 : decode cX8_goNight 81 = .ok (.iload_n 1, 1) := by decide +kernel
theorem dX8_goNight_82 : decode cX8_goNight 82 = .ok (.ireturn, 1) := by decide +kernel
theorem dX8_night_0 : decode cX8_night 0 = .ok (.aload_n 0, 1) := by decide +kernel
theorem dX8_night_1 : decode cX8_night 1 = .ok (.iconst 0, 1) := by decide +kernel
theorem dX8_night_2 : decode cX8_night 2 = .ok (.putfield 60, 3) := by decide +kernel
theorem dX8_night_5 : decode cX8_night 5 = .ok (.aload_n 0, 1) := by decide +kernel
theorem dX8_night_6 : decode cX8_night 6 = .ok (.invokevirtual 167, 3) := by decide +kernel
theorem dX8_night_9 : decode cX8_night 9 = .ok (.aload_n 0, 1) := by decide +kernel
theorem dX8_night_10 : decode cX8_night 10 = .ok (.getfield 31, 3) := by decide +kernel
theorem dX8_night_13 : decode cX8_night 13 = .ok (.invokestatic 180, 3) := by decide +kernel
theorem dX8_night_16 : decode cX8_night 16 = .ok (.ireturn, 1) := by decide +kernel
theorem dX8_goAudit_0 : decode cX8_goAudit 0 = .ok (.aload_n 0, 1) := by decide +kernel
theorem dX8_goAudit_1 : decode cX8_goAudit 1 = .ok (.iload_n 1, 1) := by decide +kernel
theorem dX8_goAudit_2 : decode cX8_goAudit 2 = .ok (.invokestatic 157, 3) := by decide +kernel
theorem dX8_goAudit_5 : decode cX8_goAudit 5 = .ok (.istore_n 2, 1) := by decide +kernel
theorem dX8_goAudit_6 : decode cX8_goAudit 6 = .ok (.iconst 0, 1) := by decide +kernel
theorem dX8_goAudit_7 : decode cX8_goAudit 7 = .ok (.istore_n 3, 1) := by decide +kernel
theorem dX8_goAudit_8 : decode cX8_goAudit 8 = .ok (.iload_n 3, 1) := by decide +kernel
theorem dX8_goAudit_9 : decode cX8_goAudit 9 = .ok (.bipush 8, 2) := by decide +kernel
theorem dX8_goAudit_11 : decode cX8_goAudit 11 = .ok (.if_icmp .ge 41, 3) := by decide +kernel
theorem dX8_goAudit_14 : decode cX8_goAudit 14 = .ok (.aload_n 0, 1) := by decide +kernel
theorem dX8_goAudit_15 : decode cX8_goAudit 15 = .ok (.bipush 8, 2) := by decide +kernel
theorem dX8_goAudit_17 : decode cX8_goAudit 17 = .ok (.iload_n 3, 1) := by decide +kernel
theorem dX8_goAudit_18 : decode cX8_goAudit 18 = .ok (.iadd, 1) := by decide +kernel
theorem dX8_goAudit_19 : decode cX8_goAudit 19 = .ok (.aload_n 0, 1) := by decide +kernel
theorem dX8_goAudit_20 : decode cX8_goAudit 20 = .ok (.iload_n 3, 1) := by decide +kernel
theorem dX8_goAudit_21 : decode cX8_goAudit 21 = .ok (.iaload, 1) := by decide +kernel
theorem dX8_goAudit_22 : decode cX8_goAudit 22 = .ok (.iload_n 1, 1) := by decide +kernel
theorem dX8_goAudit_23 : decode cX8_goAudit 23 = .ok (.if_icmp .ne 16, 3) := by decide +kernel
theorem dX8_goAudit_26 : decode cX8_goAudit 26 = .ok (.iload_n 2, 1) := by decide +kernel
theorem dX8_goAudit_27 : decode cX8_goAudit 27 = .ok (.iconst 1, 1) := by decide +kernel
theorem dX8_goAudit_28 : decode cX8_goAudit 28 = .ok (.isub, 1) := by decide +kernel
theorem dX8_goAudit_29 : decode cX8_goAudit 29 = .ok (.aload_n 0, 1) := by decide +kernel
theorem dX8_goAudit_30 : decode cX8_goAudit 30 = .ok (.bipush 8, 2) := by decide +kernel
theorem dX8_goAudit_32 : decode cX8_goAudit 32 = .ok (.iload_n 3, 1) := by decide +kernel
theorem dX8_goAudit_33 : decode cX8_goAudit 33 = .ok (.iadd, 1) := by decide +kernel
theorem dX8_goAudit_34 : decode cX8_goAudit 34 = .ok (.iaload, 1) := by decide +kernel
theorem dX8_goAudit_35 : decode cX8_goAudit 35 = .ok (.isub, 1) := by decide +kernel
theorem dX8_goAudit_36 : decode cX8_goAudit 36 = .ok (.goto 9, 3) := by decide +kernel
theorem dX8_goAudit_39 : decode cX8_goAudit 39 = .ok (.aload_n 0, 1) := by decide +kernel
theorem dX8_goAudit_40 : decode cX8_goAudit 40 = .ok (.bipush 8, 2) := by decide +kernel
theorem dX8_goAudit_42 : decode cX8_goAudit 42 = .ok (.iload_n 3, 1) := by decide +kernel
theorem dX8_goAudit_43 : decode cX8_goAudit 43 = .ok (.iadd, 1) := by decide +kernel
theorem dX8_goAudit_44 : decode cX8_goAudit 44 = .ok (.iaload, 1) := by decide +kernel
theorem dX8_goAudit_45 : decode cX8_goAudit 45 = .ok (.iastore, 1) := by decide +kernel
theorem dX8_goAudit_46 : decode cX8_goAudit 46 = .ok (.iinc 3 1, 3) := by decide +kernel
theorem dX8_goAudit_49 : decode cX8_goAudit 49 = .ok (.goto (-41), 3) := by decide +kernel
theorem dX8_goAudit_52 : decode cX8_goAudit 52 = .ok (.return_, 1) := by decide +kernel
theorem dX8_audit_0 : decode cX8_audit 0 = .ok (.aload_n 0, 1) := by decide +kernel
theorem dX8_audit_1 : decode cX8_audit 1 = .ok (.iconst 0, 1) := by decide +kernel
theorem dX8_audit_2 : decode cX8_audit 2 = .ok (.putfield 60, 3) := by decide +kernel
theorem dX8_audit_5 : decode cX8_audit 5 = .ok (.iload_n 1, 1) := by decide +kernel
theorem dX8_audit_6 : decode cX8_audit 6 = .ok (.invokestatic 87, 3) := by decide +kernel
theorem dX8_audit_9 : decode cX8_audit 9 = .ok (.ifCond .eq 5, 3) := by decide +kernel
theorem dX8_audit_12 : decode cX8_audit 12 = .ok (.iconst (-1), 1) := by decide +kernel
theorem dX8_audit_13 : decode cX8_audit 13 = .ok (.ireturn, 1) := by decide +kernel
theorem dX8_audit_14 : decode cX8_audit 14 = .ok (.aload_n 0, 1) := by decide +kernel
theorem dX8_audit_15 : decode cX8_audit 15 = .ok (.invokevirtual 167, 3) := by decide +kernel
theorem dX8_audit_18 : decode cX8_audit 18 = .ok (.aload_n 0, 1) := by decide +kernel
theorem dX8_audit_19 : decode cX8_audit 19 = .ok (.getfield 31, 3) := by decide +kernel
theorem dX8_audit_22 : decode cX8_audit 22 = .ok (.iload_n 1, 1) := by decide +kernel
theorem dX8_audit_23 : decode cX8_audit 23 = .ok (.invokestatic 183, 3) := by decide +kernel
theorem dX8_audit_26 : decode cX8_audit 26 = .ok (.aload_n 0, 1) := by decide +kernel
theorem dX8_audit_27 : decode cX8_audit 27 = .ok (.getfield 31, 3) := by decide +kernel
theorem dX8_audit_30 : decode cX8_audit 30 = .ok (.iload_n 1, 1) := by decide +kernel
theorem dX8_audit_31 : decode cX8_audit 31 = .ok (.invokestatic 174, 3) := by decide +kernel
theorem dX8_audit_34 : decode cX8_audit 34 = .ok (.ireturn, 1) := by decide +kernel
theorem dX8_undo_0 : decode cX8_undo 0 = .ok (.aload_n 0, 1) := by decide +kernel
theorem dX8_undo_1 : decode cX8_undo 1 = .ok (.iconst 0, 1) := by decide +kernel
theorem dX8_undo_2 : decode cX8_undo 2 = .ok (.putfield 60, 3) := by decide +kernel
theorem dX8_undo_5 : decode cX8_undo 5 = .ok (.aload_n 0, 1) := by decide +kernel
theorem dX8_undo_6 : decode cX8_undo 6 = .ok (.getfield 129, 3) := by decide +kernel
theorem dX8_undo_9 : decode cX8_undo 9 = .ok (.ifCond .ne 6, 3) := by decide +kernel
theorem dX8_undo_12 : decode cX8_undo 12 = .ok (.bipush (-3), 2) := by decide +kernel
theorem dX8_undo_14 : decode cX8_undo 14 = .ok (.ireturn, 1) := by decide +kernel
theorem dX8_undo_15 : decode cX8_undo 15 = .ok (.aload_n 0, 1) := by decide +kernel
theorem dX8_undo_16 : decode cX8_undo 16 = .ok (.dup, 1) := by decide +kernel
theorem dX8_undo_17 : decode cX8_undo 17 = .ok (.getfield 129, 3) := by decide +kernel
theorem dX8_undo_20 : decode cX8_undo 20 = .ok (.iconst 1, 1) := by decide +kernel
theorem dX8_undo_21 : decode cX8_undo 21 = .ok (.isub, 1) := by decide +kernel
theorem dX8_undo_22 : decode cX8_undo 22 = .ok (.putfield 129, 3) := by decide +kernel
theorem dX8_undo_25 : decode cX8_undo 25 = .ok (.iconst 0, 1) := by decide +kernel
theorem dX8_undo_26 : decode cX8_undo 26 = .ok (.istore_n 1, 1) := by decide +kernel
theorem dX8_undo_27 : decode cX8_undo 27 = .ok (.iload_n 1, 1) := by decide +kernel
theorem dX8_undo_28 : decode cX8_undo 28 = .ok (.bipush 17, 2) := by decide +kernel
theorem dX8_undo_30 : decode cX8_undo 30 = .ok (.if_icmp .ge 29, 3) := by decide +kernel
theorem dX8_undo_33 : decode cX8_undo 33 = .ok (.aload_n 0, 1) := by decide +kernel
theorem dX8_undo_34 : decode cX8_undo 34 = .ok (.getfield 31, 3) := by decide +kernel
theorem dX8_undo_37 : decode cX8_undo 37 = .ok (.iload_n 1, 1) := by decide +kernel
theorem dX8_undo_38 : decode cX8_undo 38 = .ok (.aload_n 0, 1) := by decide +kernel
theorem dX8_undo_39 : decode cX8_undo 39 = .ok (.getfield 37, 3) := by decide +kernel
theorem dX8_undo_42 : decode cX8_undo 42 = .ok (.bipush 17, 2) := by decide +kernel
theorem dX8_undo_44 : decode cX8_undo 44 = .ok (.aload_n 0, 1) := by decide +kernel
theorem dX8_undo_45 : decode cX8_undo 45 = .ok (.getfield 129, 3) := by decide +kernel
theorem dX8_undo_48 : decode cX8_undo 48 = .ok (.imul, 1) := by decide +kernel
theorem dX8_undo_49 : decode cX8_undo 49 = .ok (.iload_n 1, 1) := by decide +kernel
theorem dX8_undo_50 : decode cX8_undo 50 = .ok (.iadd, 1) := by decide +kernel
theorem dX8_undo_51 : decode cX8_undo 51 = .ok (.iaload, 1) := by decide +kernel
theorem dX8_undo_52 : decode cX8_undo 52 = .ok (.iastore, 1) := by decide +kernel
theorem dX8_undo_53 : decode cX8_undo 53 = .ok (.iinc 1 1, 3) := by decide +kernel
theorem dX8_undo_56 : decode cX8_undo 56 = .ok (.goto (-29), 3) := by decide +kernel
theorem dX8_undo_59 : decode cX8_undo 59 = .ok (.aload_n 0, 1) := by decide +kernel
theorem dX8_undo_60 : decode cX8_undo 60 = .ok (.getfield 129, 3) := by decide +kernel
theorem dX8_undo_63 : decode cX8_undo 63 = .ok (.ireturn, 1) := by decide +kernel
theorem dX8_begin_0 : decode cX8_begin 0 = .ok (.iconst 0, 1) := by decide +kernel
theorem dX8_begin_1 : decode cX8_begin 1 = .ok (.istore_n 1, 1) := by decide +kernel
theorem dX8_begin_2 : decode cX8_begin 2 = .ok (.iload_n 1, 1) := by decide +kernel
theorem dX8_begin_3 : decode cX8_begin 3 = .ok (.bipush 17, 2) := by decide +kernel
theorem dX8_begin_5 : decode cX8_begin 5 = .ok (.if_icmp .ge 21, 3) := by decide +kernel
theorem dX8_begin_8 : decode cX8_begin 8 = .ok (.aload_n 0, 1) := by decide +kernel
theorem dX8_begin_9 : decode cX8_begin 9 = .ok (.getfield 34, 3) := by decide +kernel
theorem dX8_begin_12 : decode cX8_begin 12 = .ok (.iload_n 1, 1) := by decide +kernel
theorem dX8_begin_13 : decode cX8_begin 13 = .ok (.aload_n 0, 1) := by decide +kernel
theorem dX8_begin_14 : decode cX8_begin 14 = .ok (.getfield 31, 3) := by decide +kernel
theorem dX8_begin_17 : decode cX8_begin 17 = .ok (.iload_n 1, 1) := by decide +kernel
theorem dX8_begin_18 : decode cX8_begin 18 = .ok (.iaload, 1) := by decide +kernel
theorem dX8_begin_19 : decode cX8_begin 19 = .ok (.iastore, 1) := by decide +kernel
theorem dX8_begin_20 : decode cX8_begin 20 = .ok (.iinc 1 1, 3) := by decide +kernel
theorem dX8_begin_23 : decode cX8_begin 23 = .ok (.goto (-21), 3) := by decide +kernel
theorem dX8_begin_26 : decode cX8_begin 26 = .ok (.return_, 1) := by decide +kernel
theorem dX8_soThen_0 : decode cX8_soThen 0 = .ok (.aload_n 0, 1) := by decide +kernel
theorem dX8_soThen_1 : decode cX8_soThen 1 = .ok (.aload_n 0, 1) := by decide +kernel
theorem dX8_soThen_2 : decode cX8_soThen 2 = .ok (.getfield 34, 3) := by decide +kernel
theorem dX8_soThen_5 : decode cX8_soThen 5 = .ok (.invokestatic 144, 3) := by decide +kernel
theorem dX8_soThen_8 : decode cX8_soThen 8 = .ok (.invokevirtual 148, 3) := by decide +kernel
theorem dX8_soThen_11 : decode cX8_soThen 11 = .ok (.ireturn, 1) := by decide +kernel
theorem dX8_later_0 : decode cX8_later 0 = .ok (.aload_n 0, 1) := by decide +kernel
theorem dX8_later_1 : decode cX8_later 1 = .ok (.iconst 0, 1) := by decide +kernel
theorem dX8_later_2 : decode cX8_later 2 = .ok (.putfield 60, 3) := by decide +kernel
theorem dX8_later_5 : decode cX8_later 5 = .ok (.iload_n 1, 1) := by decide +kernel
theorem dX8_later_6 : decode cX8_later 6 = .ok (.i2l, 1) := by decide +kernel
theorem dX8_later_7 : decode cX8_later 7 = .ok (.lconst 0, 1) := by decide +kernel
theorem dX8_later_8 : decode cX8_later 8 = .ok (.ldc2_w 187, 3) := by decide +kernel
theorem dX8_later_11 : decode cX8_later 11 = .ok (.invokestatic 66, 3) := by decide +kernel
theorem dX8_later_14 : decode cX8_later 14 = .ok (.ifCond .ne 6, 3) := by decide +kernel
theorem dX8_later_17 : decode cX8_later 17 = .ok (.bipush (-2), 2) := by decide +kernel
theorem dX8_later_19 : decode cX8_later 19 = .ok (.ireturn, 1) := by decide +kernel
theorem dX8_later_20 : decode cX8_later 20 = .ok (.aload_n 0, 1) := by decide +kernel
theorem dX8_later_21 : decode cX8_later 21 = .ok (.invokevirtual 189, 3) := by decide +kernel
theorem dX8_later_24 : decode cX8_later 24 = .ok (.iconst 0, 1) := by decide +kernel
theorem dX8_later_25 : decode cX8_later 25 = .ok (.istore_n 2, 1) := by decide +kernel
theorem dX8_later_26 : decode cX8_later 26 = .ok (.iload_n 2, 1) := by decide +kernel
theorem dX8_later_27 : decode cX8_later 27 = .ok (.iload_n 1, 1) := by decide +kernel
theorem dX8_later_28 : decode cX8_later 28 = .ok (.if_icmp .ge 17, 3) := by decide +kernel
theorem dX8_later_31 : decode cX8_later 31 = .ok (.aload_n 0, 1) := by decide +kernel
theorem dX8_later_32 : decode cX8_later 32 = .ok (.getfield 34, 3) := by decide +kernel
theorem dX8_later_35 : decode cX8_later 35 = .ok (.invokestatic 180, 3) := by decide +kernel
theorem dX8_later_38 : decode cX8_later 38 = .ok (.pop, 1) := by decide +kernel
theorem dX8_later_39 : decode cX8_later 39 = .ok (.iinc 2 1, 3) := by decide +kernel
theorem dX8_later_42 : decode cX8_later 42 = .ok (.goto (-16), 3) := by decide +kernel
theorem dX8_later_45 : decode cX8_later 45 = .ok (.aload_n 0, 1) := by decide +kernel
theorem dX8_later_46 : decode cX8_later 46 = .ok (.invokevirtual 192, 3) := by decide +kernel
theorem dX8_later_49 : decode cX8_later 49 = .ok (.ireturn, 1) := by decide +kernel
theorem dX8_lasts_0 : decode cX8_lasts 0 = .ok (.aload_n 0, 1) := by decide +kernel
theorem dX8_lasts_1 : decode cX8_lasts 1 = .ok (.iconst 0, 1) := by decide +kernel
theorem dX8_lasts_2 : decode cX8_lasts 2 = .ok (.putfield 60, 3) := by decide +kernel
theorem dX8_lasts_5 : decode cX8_lasts 5 = .ok (.aload_n 0, 1) := by decide +kernel
theorem dX8_lasts_6 : decode cX8_lasts 6 = .ok (.iload_n 1, 1) := by decide +kernel
theorem dX8_lasts_7 : decode cX8_lasts 7 = .ok (.invokevirtual 164, 3) := by decide +kernel
theorem dX8_lasts_10 : decode cX8_lasts 10 = .ok (.ifCond .eq 5, 3) := by decide +kernel
theorem dX8_lasts_13 : decode cX8_lasts 13 = .ok (.iconst (-1), 1) := by decide +kernel
theorem dX8_lasts_14 : decode cX8_lasts 14 = .ok (.ireturn, 1) := by decide +kernel
theorem dX8_lasts_15 : decode cX8_lasts 15 = .ok (.aload_n 0, 1) := by decide +kernel
theorem dX8_lasts_16 : decode cX8_lasts 16 = .ok (.invokevirtual 189, 3) := by decide +kernel
theorem dX8_lasts_19 : decode cX8_lasts 19 = .ok (.aload_n 0, 1) := by decide +kernel
theorem dX8_lasts_20 : decode cX8_lasts 20 = .ok (.invokevirtual 192, 3) := by decide +kernel
theorem dX8_lasts_23 : decode cX8_lasts 23 = .ok (.iload_n 1, 1) := by decide +kernel
theorem dX8_lasts_24 : decode cX8_lasts 24 = .ok (.invokestatic 97, 3) := by decide +kernel
theorem dX8_lasts_27 : decode cX8_lasts 27 = .ok (.ifCond .ne 6, 3) := by decide +kernel
theorem dX8_lasts_30 : decode cX8_lasts 30 = .ok (.bipush (-3), 2) := by decide +kernel
theorem dX8_lasts_32 : decode cX8_lasts 32 = .ok (.ireturn, 1) := by decide +kernel
theorem dX8_lasts_33 : decode cX8_lasts 33 = .ok (.iconst 1, 1) := by decide +kernel
theorem dX8_lasts_34 : decode cX8_lasts 34 = .ok (.istore_n 2, 1) := by decide +kernel
theorem dX8_lasts_35 : decode cX8_lasts 35 = .ok (.iload_n 2, 1) := by decide +kernel
theorem dX8_lasts_36 : decode cX8_lasts 36 = .ok (.bipush 20, 2) := by decide +kernel
theorem dX8_lasts_38 : decode cX8_lasts 38 = .ok (.if_icmp .gt 30, 3) := by decide +kernel
theorem dX8_lasts_41 : decode cX8_lasts 41 = .ok (.aload_n 0, 1) := by decide +kernel
theorem dX8_lasts_42 : decode cX8_lasts 42 = .ok (.getfield 34, 3) := by decide +kernel
theorem dX8_lasts_45 : decode cX8_lasts 45 = .ok (.invokestatic 180, 3) := by decide +kernel
theorem dX8_lasts_48 : decode cX8_lasts 48 = .ok (.pop, 1) := by decide +kernel
theorem dX8_lasts_49 : decode cX8_lasts 49 = .ok (.aload_n 0, 1) := by decide +kernel
theorem dX8_lasts_50 : decode cX8_lasts 50 = .ok (.invokevirtual 192, 3) := by decide +kernel
theorem dX8_lasts_53 : decode cX8_lasts 53 = .ok (.iload_n 1, 1) := by decide +kernel
theorem dX8_lasts_54 : decode cX8_lasts 54 = .ok (.invokestatic 97, 3) := by decide +kernel
theorem dX8_lasts_57 : decode cX8_lasts 57 = .ok (.ifCond .ne 5, 3) := by decide +kernel
theorem dX8_lasts_60 : decode cX8_lasts 60 = .ok (.iload_n 2, 1) := by decide +kernel
theorem dX8_lasts_61 : decode cX8_lasts 61 = .ok (.ireturn, 1) := by decide +kernel
theorem dX8_lasts_62 : decode cX8_lasts 62 = .ok (.iinc 2 1, 3) := by decide +kernel
theorem dX8_lasts_65 : decode cX8_lasts 65 = .ok (.goto (-30), 3) := by decide +kernel
theorem dX8_lasts_68 : decode cX8_lasts 68 = .ok (.bipush (-9), 2) := by decide +kernel
theorem dX8_lasts_70 : decode cX8_lasts 70 = .ok (.ireturn, 1) := by decide +kernel
theorem dX8_fewest_0 : decode cX8_fewest 0 = .ok (.aload_n 0, 1) := by decide +kernel
theorem dX8_fewest_1 : decode cX8_fewest 1 = .ok (.getfield 31, 3) := by decide +kernel
theorem dX8_fewest_4 : decode cX8_fewest 4 = .ok (.invokestatic 144, 3) := by decide +kernel
theorem dX8_fewest_7 : decode cX8_fewest 7 = .ok (.istore 4, 2) := by decide +kernel
theorem dX8_fewest_9 : decode cX8_fewest 9 = .ok (.bipush (-9), 2) := by decide +kernel
theorem dX8_fewest_11 : decode cX8_fewest 11 = .ok (.istore 5, 2) := by decide +kernel
theorem dX8_fewest_13 : decode cX8_fewest 13 = .ok (.iconst 0, 1) := by decide +kernel
theorem dX8_fewest_14 : decode cX8_fewest 14 = .ok (.istore 6, 2) := by decide +kernel
theorem dX8_fewest_16 : decode cX8_fewest 16 = .ok (.iload 6, 2) := by decide +kernel
theorem dX8_fewest_18 : decode cX8_fewest 18 = .ok (.sipush 255, 3) := by decide +kernel
theorem dX8_fewest_21 : decode cX8_fewest 21 = .ok (.if_icmp .gt 76, 3) := by decide +kernel
theorem dX8_fewest_24 : decode cX8_fewest 24 = .ok (.iload 6, 2) := by decide +kernel
theorem dX8_fewest_26 : decode cX8_fewest 26 = .ok (.iload_n 2, 1) := by decide +kernel
theorem dX8_fewest_27 : decode cX8_fewest 27 = .ok (.iconst (-1), 1) := by decide +kernel
theorem dX8_fewest_28 : decode cX8_fewest 28 = .ok (.ixor, 1) := by decide +kernel
theorem dX8_fewest_29 : decode cX8_fewest 29 = .ok (.iand, 1) := by decide +kernel
theorem dX8_fewest_30 : decode cX8_fewest 30 = .ok (.ifCond .ne 27, 3) := by decide +kernel
theorem dX8_fewest_33 : decode cX8_fewest 33 = .ok (.iload 5, 2) := by decide +kernel
theorem dX8_fewest_35 : decode cX8_fewest 35 = .ok (.bipush (-9), 2) := by decide +kernel
theorem dX8_fewest_37 : decode cX8_fewest 37 = .ok (.if_icmp .eq 16, 3) := by decide +kernel
theorem dX8_fewest_40 : decode cX8_fewest 40 = .ok (.iload 6, 2) := by decide +kernel
theorem dX8_fewest_42 : decode cX8_fewest 42 = .ok (.invokestatic 112, 3) := by decide +kernel
theorem dX8_fewest_45 : decode cX8_fewest 45 = .ok (.iload 5, 2) := by decide +kernel
theorem dX8_fewest_47 : decode cX8_fewest 47 = .ok (.invokestatic 112, 3) := by decide +kernel
theorem dX8_fewest_50 : decode cX8_fewest 50 = .ok (.if_icmp .ge 7, 3) := by decide +kernel
theorem dX8_fewest_53 : decode cX8_fewest 53 = .ok (.iconst 1, 1) := by decide +kernel
theorem dX8_fewest_54 : decode cX8_fewest 54 = .ok (.goto 4, 3) := by decide +kernel
theorem dX8_fewest_57 : decode cX8_fewest 57 = .ok (.iconst 0, 1) := by decide +kernel
theorem dX8_fewest_58 : decode cX8_fewest 58 = .ok (.istore 7, 2) := by decide +kernel
theorem dX8_fewest_60 : decode cX8_fewest 60 = .ok (.iload 7, 2) := by decide +kernel
theorem dX8_fewest_62 : decode cX8_fewest 62 = .ok (.ifCond .eq 25, 3) := by decide +kernel
theorem dX8_fewest_65 : decode cX8_fewest 65 = .ok (.aload_n 0, 1) := by decide +kernel
theorem dX8_fewest_66 : decode cX8_fewest 66 = .ok (.iload 4, 2) := by decide +kernel
theorem dX8_fewest_68 : decode cX8_fewest 68 = .ok (.iload 6, 2) := by decide +kernel
theorem dX8_fewest_70 : decode cX8_fewest 70 = .ok (.ixor, 1) := by decide +kernel
theorem dX8_fewest_71 : decode cX8_fewest 71 = .ok (.invokevirtual 148, 3) := by decide +kernel
theorem dX8_fewest_74 : decode cX8_fewest 74 = .ok (.iload_n 1, 1) := by decide +kernel
theorem dX8_fewest_75 : decode cX8_fewest 75 = .ok (.invokestatic 97, 3) := by decide +kernel
theorem dX8_fewest_78 : decode cX8_fewest 78 = .ok (.iload_n 3, 1) := by decide +kernel
theorem dX8_fewest_79 : decode cX8_fewest 79 = .ok (.if_icmp .ne 8, 3) := by decide +kernel
theorem dX8_fewest_82 : decode cX8_fewest 82 = .ok (.iload 6, 2) := by decide +kernel
theorem dX8_fewest_84 : decode cX8_fewest 84 = .ok (.goto 5, 3) := by decide +kernel
theorem dX8_fewest_87 : decode cX8_fewest 87 = .ok (.iload 5, 2) := by decide +kernel
theorem dX8_fewest_89 : decode cX8_fewest 89 = .ok (.istore 5, 2) := by decide +kernel
theorem dX8_fewest_91 : decode cX8_fewest 91 = .ok (.iinc 6 1, 3) := by decide +kernel
theorem dX8_fewest_94 : decode cX8_fewest 94 = .ok (.goto (-78), 3) := by decide +kernel
theorem dX8_fewest_97 : decode cX8_fewest 97 = .ok (.iload 5, 2) := by decide +kernel
theorem dX8_fewest_99 : decode cX8_fewest 99 = .ok (.ireturn, 1) := by decide +kernel
theorem dX8_wants_0 : decode cX8_wants 0 = .ok (.aload_n 0, 1) := by decide +kernel
theorem dX8_wants_1 : decode cX8_wants 1 = .ok (.iconst 0, 1) := by decide +kernel
theorem dX8_wants_2 : decode cX8_wants 2 = .ok (.putfield 60, 3) := by decide +kernel
theorem dX8_wants_5 : decode cX8_wants 5 = .ok (.aload_n 0, 1) := by decide +kernel
theorem dX8_wants_6 : decode cX8_wants 6 = .ok (.iload_n 1, 1) := by decide +kernel
theorem dX8_wants_7 : decode cX8_wants 7 = .ok (.invokevirtual 164, 3) := by decide +kernel
theorem dX8_wants_10 : decode cX8_wants 10 = .ok (.ifCond .eq 7, 3) := by decide +kernel
theorem dX8_wants_13 : decode cX8_wants 13 = .ok (.iconst (-1), 1) := by decide +kernel
theorem dX8_wants_14 : decode cX8_wants 14 = .ok (.goto 22, 3) := by decide +kernel
theorem dX8_wants_17 : decode cX8_wants 17 = .ok (.aload_n 0, 1) := by decide +kernel
theorem dX8_wants_18 : decode cX8_wants 18 = .ok (.iload_n 1, 1) := by decide +kernel
theorem dX8_wants_19 : decode cX8_wants 19 = .ok (.sipush 255, 3) := by decide +kernel
theorem dX8_wants_22 : decode cX8_wants 22 = .ok (.aload_n 0, 1) := by decide +kernel
theorem dX8_wants_23 : decode cX8_wants 23 = .ok (.getfield 31, 3) := by decide +kernel
theorem dX8_wants_26 : decode cX8_wants 26 = .ok (.invokestatic 144, 3) := by decide +kernel
theorem dX8_wants_29 : decode cX8_wants 29 = .ok (.iconst (-1), 1) := by decide +kernel
theorem dX8_wants_30 : decode cX8_wants 30 = .ok (.ixor, 1) := by decide +kernel
theorem dX8_wants_31 : decode cX8_wants 31 = .ok (.iand, 1) := by decide +kernel
theorem dX8_wants_32 : decode cX8_wants 32 = .ok (.iconst 1, 1) := by decide +kernel
theorem dX8_wants_33 : decode cX8_wants 33 = .ok (.invokevirtual 195, 3) := by decide +kernel
theorem dX8_wants_36 : decode cX8_wants 36 = .ok (.ireturn, 1) := by decide +kernel
theorem dX8_breaks_0 : decode cX8_breaks 0 = .ok (.aload_n 0, 1) := by decide +kernel
theorem dX8_breaks_1 : decode cX8_breaks 1 = .ok (.iconst 0, 1) := by decide +kernel
theorem dX8_breaks_2 : decode cX8_breaks 2 = .ok (.putfield 60, 3) := by decide +kernel
theorem dX8_breaks_5 : decode cX8_breaks 5 = .ok (.aload_n 0, 1) := by decide +kernel
theorem dX8_breaks_6 : decode cX8_breaks 6 = .ok (.iload_n 1, 1) := by decide +kernel
theorem dX8_breaks_7 : decode cX8_breaks 7 = .ok (.invokevirtual 164, 3) := by decide +kernel
theorem dX8_breaks_10 : decode cX8_breaks 10 = .ok (.ifCond .eq 7, 3) := by decide +kernel
theorem dX8_breaks_13 : decode cX8_breaks 13 = .ok (.iconst (-1), 1) := by decide +kernel
theorem dX8_breaks_14 : decode cX8_breaks 14 = .ok (.goto 16, 3) := by decide +kernel
theorem dX8_breaks_17 : decode cX8_breaks 17 = .ok (.aload_n 0, 1) := by decide +kernel
theorem dX8_breaks_18 : decode cX8_breaks 18 = .ok (.iload_n 1, 1) := by decide +kernel
theorem dX8_breaks_19 : decode cX8_breaks 19 = .ok (.aload_n 0, 1) := by decide +kernel
theorem dX8_breaks_20 : decode cX8_breaks 20 = .ok (.getfield 31, 3) := by decide +kernel
theorem dX8_breaks_23 : decode cX8_breaks 23 = .ok (.invokestatic 144, 3) := by decide +kernel
theorem dX8_breaks_26 : decode cX8_breaks 26 = .ok (.iconst 0, 1) := by decide +kernel
theorem dX8_breaks_27 : decode cX8_breaks 27 = .ok (.invokevirtual 195, 3) := by decide +kernel
theorem dX8_breaks_30 : decode cX8_breaks 30 = .ok (.ireturn, 1) := by decide +kernel
theorem dX8_longPower_0 : decode cX8_longPower 0 = .ok (.lconst 1, 1) := by decide +kernel
theorem dX8_longPower_1 : decode cX8_longPower 1 = .ok (.lstore_n 3, 1) := by decide +kernel
theorem dX8_longPower_2 : decode cX8_longPower 2 = .ok (.iconst 0, 1) := by decide +kernel
theorem dX8_longPower_3 : decode cX8_longPower 3 = .ok (.istore 5, 2) := by decide +kernel
theorem dX8_longPower_5 : decode cX8_longPower 5 = .ok (.iload 5, 2) := by decide +kernel
theorem dX8_longPower_7 : decode cX8_longPower 7 = .ok (.iload_n 2, 1) := by decide +kernel
theorem dX8_longPower_8 : decode cX8_longPower 8 = .ok (.if_icmp .ge 13, 3) := by decide +kernel
theorem dX8_longPower_11 : decode cX8_longPower 11 = .ok (.lload_n 3, 1) := by decide +kernel
theorem dX8_longPower_12 : decode cX8_longPower 12 = .ok (.lload_n 0, 1) := by decide +kernel
theorem dX8_longPower_13 : decode cX8_longPower 13 = .ok (.lmul, 1) := by decide +kernel
theorem dX8_longPower_14 : decode cX8_longPower 14 = .ok (.lstore_n 3, 1) := by decide +kernel
theorem dX8_longPower_15 : decode cX8_longPower 15 = .ok (.iinc 5 1, 3) := by decide +kernel
theorem dX8_longPower_18 : decode cX8_longPower 18 = .ok (.goto (-13), 3) := by decide +kernel
theorem dX8_longPower_21 : decode cX8_longPower 21 = .ok (.lload_n 3, 1) := by decide +kernel
theorem dX8_longPower_22 : decode cX8_longPower 22 = .ok (.lreturn, 1) := by decide +kernel
theorem dX8_turns_0 : decode cX8_turns 0 = .ok (.iload_n 1, 1) := by decide +kernel
theorem dX8_turns_1 : decode cX8_turns 1 = .ok (.invokestatic 91, 3) := by decide +kernel
theorem dX8_turns_4 : decode cX8_turns 4 = .ok (.ifCond .ne 17, 3) := by decide +kernel
theorem dX8_turns_7 : decode cX8_turns 7 = .ok (.aload_n 0, 1) := by decide +kernel
theorem dX8_turns_8 : decode cX8_turns 8 = .ok (.getfield 34, 3) := by decide +kernel
theorem dX8_turns_11 : decode cX8_turns 11 = .ok (.iload_n 1, 1) := by decide +kernel
theorem dX8_turns_12 : decode cX8_turns 12 = .ok (.iaload, 1) := by decide +kernel
theorem dX8_turns_13 : decode cX8_turns 13 = .ok (.iload_n 2, 1) := by decide +kernel
theorem dX8_turns_14 : decode cX8_turns 14 = .ok (.if_icmp .ne 7, 3) := by decide +kernel
theorem dX8_turns_17 : decode cX8_turns 17 = .ok (.iconst 1, 1) := by decide +kernel
theorem dX8_turns_18 : decode cX8_turns 18 = .ok (.goto 4, 3) := by decide +kernel
theorem dX8_turns_21 : decode cX8_turns 21 = .ok (.iconst 0, 1) := by decide +kernel
theorem dX8_turns_22 : decode cX8_turns 22 = .ok (.istore 4, 2) := by decide +kernel
theorem dX8_turns_24 : decode cX8_turns 24 = .ok (.iload 4, 2) := by decide +kernel
theorem dX8_turns_26 : decode cX8_turns 26 = .ok (.ifCond .eq 12, 3) := by decide +kernel
theorem dX8_turns_29 : decode cX8_turns 29 = .ok (.aload_n 0, 1) := by decide +kernel
theorem dX8_turns_30 : decode cX8_turns 30 = .ok (.getfield 34, 3) := by decide +kernel
theorem dX8_turns_33 : decode cX8_turns 33 = .ok (.iload_n 1, 1) := by decide +kernel
theorem dX8_turns_34 : decode cX8_turns 34 = .ok (.iload_n 3, 1) := by decide +kernel
theorem dX8_turns_35 : decode cX8_turns 35 = .ok (.invokestatic 177, 3) := by decide +kernel
theorem dX8_turns_38 : decode cX8_turns 38 = .ok (.iload 4, 2) := by decide +kernel
theorem dX8_turns_40 : decode cX8_turns 40 = .ok (.ireturn, 1) := by decide +kernel
theorem dX8_takesTop_0 : decode cX8_takesTop 0 = .ok (.iload_n 1, 1) := by decide +kernel
theorem dX8_takesTop_1 : decode cX8_takesTop 1 = .ok (.invokestatic 87, 3) := by decide +kernel
theorem dX8_takesTop_4 : decode cX8_takesTop 4 = .ok (.ifCond .eq 8, 3) := by decide +kernel
theorem dX8_takesTop_7 : decode cX8_takesTop 7 = .ok (.bipush (-9), 2) := by decide +kernel
theorem dX8_takesTop_9 : decode cX8_takesTop 9 = .ok (.goto 11, 3) := by decide +kernel
theorem dX8_takesTop_12 : decode cX8_takesTop 12 = .ok (.aload_n 0, 1) := by decide +kernel
theorem dX8_takesTop_13 : decode cX8_takesTop 13 = .ok (.getfield 34, 3) := by decide +kernel
theorem dX8_takesTop_16 : decode cX8_takesTop 16 = .ok (.iload_n 1, 1) := by decide +kernel
theorem dX8_takesTop_17 : decode cX8_takesTop 17 = .ok (.invokestatic 174, 3) := by decide +kernel
theorem dX8_takesTop_20 : decode cX8_takesTop 20 = .ok (.istore_n 2, 1) := by decide +kernel
theorem dX8_takesTop_21 : decode cX8_takesTop 21 = .ok (.iload_n 2, 1) := by decide +kernel
theorem dX8_takesTop_22 : decode cX8_takesTop 22 = .ok (.bipush (-9), 2) := by decide +kernel
theorem dX8_takesTop_24 : decode cX8_takesTop 24 = .ok (.if_icmp .eq 12, 3) := by decide +kernel
theorem dX8_takesTop_27 : decode cX8_takesTop 27 = .ok (.aload_n 0, 1) := by decide +kernel
theorem dX8_takesTop_28 : decode cX8_takesTop 28 = .ok (.getfield 34, 3) := by decide +kernel
theorem dX8_takesTop_31 : decode cX8_takesTop 31 = .ok (.iload_n 2, 1) := by decide +kernel
theorem dX8_takesTop_32 : decode cX8_takesTop 32 = .ok (.iconst 3, 1) := by decide +kernel
theorem dX8_takesTop_33 : decode cX8_takesTop 33 = .ok (.invokestatic 177, 3) := by decide +kernel
theorem dX8_takesTop_36 : decode cX8_takesTop 36 = .ok (.iload_n 2, 1) := by decide +kernel
theorem dX8_takesTop_37 : decode cX8_takesTop 37 = .ok (.bipush (-9), 2) := by decide +kernel
theorem dX8_takesTop_39 : decode cX8_takesTop 39 = .ok (.if_icmp .eq 7, 3) := by decide +kernel
theorem dX8_takesTop_42 : decode cX8_takesTop 42 = .ok (.iconst 1, 1) := by decide +kernel
theorem dX8_takesTop_43 : decode cX8_takesTop 43 = .ok (.goto 4, 3) := by decide +kernel
theorem dX8_takesTop_46 : decode cX8_takesTop 46 = .ok (.iconst 0, 1) := by decide +kernel
theorem dX8_takesTop_47 : decode cX8_takesTop 47 = .ok (.ireturn, 1) := by decide +kernel
theorem dX8_doesTo_0 : decode cX8_doesTo 0 = .ok (.iload_n 1, 1) := by decide +kernel
theorem dX8_doesTo_1 : decode cX8_doesTo 1 = .ok (.tableswitch 72 2 5 #[31, 37, 45, 53], 31) := by decide +kernel
theorem dX8_doesTo_32 : decode cX8_doesTo 32 = .ok (.aload_n 0, 1) := by decide +kernel
theorem dX8_doesTo_33 : decode cX8_doesTo 33 = .ok (.iload_n 2, 1) := by decide +kernel
theorem dX8_doesTo_34 : decode cX8_doesTo 34 = .ok (.invokevirtual 199, 3) := by decide +kernel
theorem dX8_doesTo_37 : decode cX8_doesTo 37 = .ok (.ireturn, 1) := by decide +kernel
theorem dX8_doesTo_38 : decode cX8_doesTo 38 = .ok (.aload_n 0, 1) := by decide +kernel
theorem dX8_doesTo_39 : decode cX8_doesTo 39 = .ok (.iload_n 2, 1) := by decide +kernel
theorem dX8_doesTo_40 : decode cX8_doesTo 40 = .ok (.iconst 3, 1) := by decide +kernel
theorem dX8_doesTo_41 : decode cX8_doesTo 41 = .ok (.iconst 4, 1) := by decide +kernel
theorem dX8_doesTo_42 : decode cX8_doesTo 42 = .ok (.invokevirtual 202, 3) := by decide +kernel
theorem dX8_doesTo_45 : decode cX8_doesTo 45 = .ok (.ireturn, 1) := by decide +kernel
theorem dX8_doesTo_46 : decode cX8_doesTo 46 = .ok (.aload_n 0, 1) := by decide +kernel
theorem dX8_doesTo_47 : decode cX8_doesTo 47 = .ok (.iload_n 2, 1) := by decide +kernel
theorem dX8_doesTo_48 : decode cX8_doesTo 48 = .ok (.iconst 4, 1) := by decide +kernel
theorem dX8_doesTo_49 : decode cX8_doesTo 49 = .ok (.iconst 3, 1) := by decide +kernel
theorem dX8_doesTo_50 : decode cX8_doesTo 50 = .ok (.invokevirtual 202, 3) := by decide +kernel
theorem dX8_doesTo_53 : decode cX8_doesTo 53 = .ok (.ireturn, 1) := by decide +kernel
theorem dX8_doesTo_54 : decode cX8_doesTo 54 = .ok (.iload_n 2, 1) := by decide +kernel
theorem dX8_doesTo_55 : decode cX8_doesTo 55 = .ok (.invokestatic 87, 3) := by decide +kernel
theorem dX8_doesTo_58 : decode cX8_doesTo 58 = .ok (.ifCond .eq 5, 3) := by decide +kernel
theorem dX8_doesTo_61 : decode cX8_doesTo 61 = .ok (.iconst 0, 1) := by decide +kernel
theorem dX8_doesTo_62 : decode cX8_doesTo 62 = .ok (.ireturn, 1) := by decide +kernel
theorem dX8_doesTo_63 : decode cX8_doesTo 63 = .ok (.aload_n 0, 1) := by decide +kernel
theorem dX8_doesTo_64 : decode cX8_doesTo 64 = .ok (.getfield 34, 3) := by decide +kernel
theorem dX8_doesTo_67 : decode cX8_doesTo 67 = .ok (.iload_n 2, 1) := by decide +kernel
theorem dX8_doesTo_68 : decode cX8_doesTo 68 = .ok (.invokestatic 183, 3) := by decide +kernel
theorem dX8_doesTo_71 : decode cX8_doesTo 71 = .ok (.iconst 1, 1) := by decide +kernel
theorem dX8_doesTo_72 : decode cX8_doesTo 72 = .ok (.ireturn, 1) := by decide +kernel
theorem dX8_doesTo_73 : decode cX8_doesTo 73 = .ok (.iload_n 1, 1) := by decide +kernel
theorem dX8_doesTo_74 : decode cX8_doesTo 74 = .ok (.bipush 6, 2) := by decide +kernel
theorem dX8_doesTo_76 : decode cX8_doesTo 76 = .ok (.if_icmp .ne 26, 3) := by decide +kernel
theorem dX8_doesTo_79 : decode cX8_doesTo 79 = .ok (.aload_n 0, 1) := by decide +kernel
theorem dX8_doesTo_80 : decode cX8_doesTo 80 = .ok (.iload_n 2, 1) := by decide +kernel
theorem dX8_doesTo_81 : decode cX8_doesTo 81 = .ok (.invokevirtual 164, 3) := by decide +kernel
theorem dX8_doesTo_84 : decode cX8_doesTo 84 = .ok (.ifCond .ne 18, 3) := by decide +kernel
theorem dX8_doesTo_87 : decode cX8_doesTo 87 = .ok (.aload_n 0, 1) := by decide +kernel
theorem dX8_doesTo_88 : decode cX8_doesTo 88 = .ok (.invokevirtual 192, 3) := by decide +kernel
theorem dX8_doesTo_91 : decode cX8_doesTo 91 = .ok (.iload_n 2, 1) := by decide +kernel
theorem dX8_doesTo_92 : decode cX8_doesTo 92 = .ok (.invokestatic 97, 3) := by decide +kernel
theorem dX8_doesTo_95 : decode cX8_doesTo 95 = .ok (.ifCond .eq 7, 3) := by decide +kernel
theorem dX8_doesTo_98 : decode cX8_doesTo 98 = .ok (.iconst 1, 1) := by decide +kernel
theorem dX8_doesTo_99 : decode cX8_doesTo 99 = .ok (.goto 4, 3) := by decide +kernel
theorem dX8_doesTo_102 : decode cX8_doesTo 102 = .ok (.iconst 0, 1) := by decide +kernel
theorem dX8_doesTo_103 : decode cX8_doesTo 103 = .ok (.ireturn, 1) := by decide +kernel
theorem dX8_does_0 : decode cX8_does 0 = .ok (.iload_n 1, 1) := by decide +kernel
theorem dX8_does_1 : decode cX8_does 1 = .ok (.bipush 100, 2) := by decide +kernel
theorem dX8_does_3 : decode cX8_does 3 = .ok (.idiv, 1) := by decide +kernel
theorem dX8_does_4 : decode cX8_does 4 = .ok (.istore_n 2, 1) := by decide +kernel
theorem dX8_does_5 : decode cX8_does 5 = .ok (.iload_n 1, 1) := by decide +kernel
theorem dX8_does_6 : decode cX8_does 6 = .ok (.bipush 10, 2) := by decide +kernel
theorem dX8_does_8 : decode cX8_does 8 = .ok (.idiv, 1) := by decide +kernel
theorem dX8_does_9 : decode cX8_does 9 = .ok (.bipush 10, 2) := by decide +kernel
theorem dX8_does_11 : decode cX8_does 11 = .ok (.irem, 1) := by decide +kernel
theorem dX8_does_12 : decode cX8_does 12 = .ok (.istore_n 3, 1) := by decide +kernel
theorem dX8_does_13 : decode cX8_does 13 = .ok (.iload_n 1, 1) := by decide +kernel
theorem dX8_does_14 : decode cX8_does 14 = .ok (.bipush 10, 2) := by decide +kernel
theorem dX8_does_16 : decode cX8_does 16 = .ok (.irem, 1) := by decide +kernel
theorem dX8_does_17 : decode cX8_does 17 = .ok (.istore 4, 2) := by decide +kernel
theorem dX8_does_19 : decode cX8_does 19 = .ok (.iload_n 1, 1) := by decide +kernel
theorem dX8_does_20 : decode cX8_does 20 = .ok (.ifCond .ne 13, 3) := by decide +kernel
theorem dX8_does_23 : decode cX8_does 23 = .ok (.aload_n 0, 1) := by decide +kernel
theorem dX8_does_24 : decode cX8_does 24 = .ok (.getfield 34, 3) := by decide +kernel
theorem dX8_does_27 : decode cX8_does 27 = .ok (.invokestatic 180, 3) := by decide +kernel
theorem dX8_does_30 : decode cX8_does 30 = .ok (.pop, 1) := by decide +kernel
theorem dX8_does_31 : decode cX8_does 31 = .ok (.iconst 1, 1) := by decide +kernel
theorem dX8_does_32 : decode cX8_does 32 = .ok (.ireturn, 1) := by decide +kernel
theorem dX8_does_33 : decode cX8_does 33 = .ok (.iload_n 2, 1) := by decide +kernel
theorem dX8_does_34 : decode cX8_does 34 = .ok (.iconst 1, 1) := by decide +kernel
theorem dX8_does_35 : decode cX8_does 35 = .ok (.if_icmp .ne 53, 3) := by decide +kernel
theorem dX8_does_38 : decode cX8_does 38 = .ok (.iload_n 3, 1) := by decide +kernel
theorem dX8_does_39 : decode cX8_does 39 = .ok (.invokestatic 91, 3) := by decide +kernel
theorem dX8_does_42 : decode cX8_does 42 = .ok (.ifCond .ne 25, 3) := by decide +kernel
theorem dX8_does_45 : decode cX8_does 45 = .ok (.iload 4, 2) := by decide +kernel
theorem dX8_does_47 : decode cX8_does 47 = .ok (.invokestatic 87, 3) := by decide +kernel
theorem dX8_does_50 : decode cX8_does 50 = .ok (.ifCond .ne 17, 3) := by decide +kernel
theorem dX8_does_53 : decode cX8_does 53 = .ok (.aload_n 0, 1) := by decide +kernel
theorem dX8_does_54 : decode cX8_does 54 = .ok (.getfield 34, 3) := by decide +kernel
theorem dX8_does_57 : decode cX8_does 57 = .ok (.iload_n 3, 1) := by decide +kernel
theorem dX8_does_58 : decode cX8_does 58 = .ok (.iaload, 1) := by decide +kernel
theorem dX8_does_59 : decode cX8_does 59 = .ok (.iconst 3, 1) := by decide +kernel
theorem dX8_does_60 : decode cX8_does 60 = .ok (.if_icmp .ne 7, 3) := by decide +kernel
theorem dX8_does_63 : decode cX8_does 63 = .ok (.iconst 1, 1) := by decide +kernel
theorem dX8_does_64 : decode cX8_does 64 = .ok (.goto 4, 3) := by decide +kernel
theorem dX8_does_67 : decode cX8_does 67 = .ok (.iconst 0, 1) := by decide +kernel
theorem dX8_does_68 : decode cX8_does 68 = .ok (.istore 5, 2) := by decide +kernel
theorem dX8_does_70 : decode cX8_does 70 = .ok (.iload 5, 2) := by decide +kernel
theorem dX8_does_72 : decode cX8_does 72 = .ok (.ifCond .eq 13, 3) := by decide +kernel
theorem dX8_does_75 : decode cX8_does 75 = .ok (.aload_n 0, 1) := by decide +kernel
theorem dX8_does_76 : decode cX8_does 76 = .ok (.getfield 34, 3) := by decide +kernel
theorem dX8_does_79 : decode cX8_does 79 = .ok (.iload_n 3, 1) := by decide +kernel
theorem dX8_does_80 : decode cX8_does 80 = .ok (.iload 4, 2) := by decide +kernel
theorem dX8_does_82 : decode cX8_does 82 = .ok (.invokestatic 170, 3) := by decide +kernel
theorem dX8_does_85 : decode cX8_does 85 = .ok (.iload 5, 2) := by decide +kernel
theorem dX8_does_87 : decode cX8_does 87 = .ok (.ireturn, 1) := by decide +kernel
theorem dX8_does_88 : decode cX8_does 88 = .ok (.iload_n 3, 1) := by decide +kernel
theorem dX8_does_89 : decode cX8_does 89 = .ok (.ifCond .ne 17, 3) := by decide +kernel
theorem dX8_does_92 : decode cX8_does 92 = .ok (.aload_n 0, 1) := by decide +kernel
theorem dX8_does_93 : decode cX8_does 93 = .ok (.iload_n 2, 1) := by decide +kernel
theorem dX8_does_94 : decode cX8_does 94 = .ok (.iload 4, 2) := by decide +kernel
theorem dX8_does_96 : decode cX8_does 96 = .ok (.invokevirtual 205, 3) := by decide +kernel
theorem dX8_does_99 : decode cX8_does 99 = .ok (.ifCond .eq 7, 3) := by decide +kernel
theorem dX8_does_102 : decode cX8_does 102 = .ok (.iconst 1, 1) := by decide +kernel
theorem dX8_does_103 : decode cX8_does 103 = .ok (.goto 4, 3) := by decide +kernel
theorem dX8_does_106 : decode cX8_does 106 = .ok (.iconst 0, 1) := by decide +kernel
theorem dX8_does_107 : decode cX8_does 107 = .ok (.ireturn, 1) := by decide +kernel
theorem dX8_judge_0 : decode cX8_judge 0 = .ok (.aload_n 0, 1) := by decide +kernel
theorem dX8_judge_1 : decode cX8_judge 1 = .ok (.iconst 0, 1) := by decide +kernel
theorem dX8_judge_2 : decode cX8_judge 2 = .ok (.putfield 60, 3) := by decide +kernel
theorem dX8_judge_5 : decode cX8_judge 5 = .ok (.iload_n 1, 1) := by decide +kernel
theorem dX8_judge_6 : decode cX8_judge 6 = .ok (.i2l, 1) := by decide +kernel
theorem dX8_judge_7 : decode cX8_judge 7 = .ok (.lconst 1, 1) := by decide +kernel
theorem dX8_judge_8 : decode cX8_judge 8 = .ok (.ldc2_w 208, 3) := by decide +kernel
theorem dX8_judge_11 : decode cX8_judge 11 = .ok (.invokestatic 66, 3) := by decide +kernel
theorem dX8_judge_14 : decode cX8_judge 14 = .ok (.ifCond .eq 20, 3) := by decide +kernel
theorem dX8_judge_17 : decode cX8_judge 17 = .ok (.lload_n 2, 1) := by decide +kernel
theorem dX8_judge_18 : decode cX8_judge 18 = .ok (.lconst 0, 1) := by decide +kernel
theorem dX8_judge_19 : decode cX8_judge 19 = .ok (.ldc2_w 210, 3) := by decide +kernel
theorem dX8_judge_22 : decode cX8_judge 22 = .ok (.iload_n 1, 1) := by decide +kernel
theorem dX8_judge_23 : decode cX8_judge 23 = .ok (.invokestatic 212, 3) := by decide +kernel
theorem dX8_judge_26 : decode cX8_judge 26 = .ok (.lconst 1, 1) := by decide +kernel
theorem dX8_judge_27 : decode cX8_judge 27 = .ok (.lsub, 1) := by decide +kernel
theorem dX8_judge_28 : decode cX8_judge 28 = .ok (.invokestatic 66, 3) := by decide +kernel
theorem dX8_judge_31 : decode cX8_judge 31 = .ok (.ifCond .ne 6, 3) := by decide +kernel
theorem dX8_judge_34 : decode cX8_judge 34 = .ok (.bipush (-2), 2) := by decide +kernel
theorem dX8_judge_36 : decode cX8_judge 36 = .ok (.ireturn, 1) := by decide +kernel
theorem dX8_judge_37 : decode cX8_judge 37 = .ok (.aload_n 0, 1) := by decide +kernel
theorem dX8_judge_38 : decode cX8_judge 38 = .ok (.invokevirtual 189, 3) := by decide +kernel
theorem dX8_judge_41 : decode cX8_judge 41 = .ok (.iconst 0, 1) := by decide +kernel
theorem dX8_judge_42 : decode cX8_judge 42 = .ok (.istore 4, 2) := by decide +kernel
theorem dX8_judge_44 : decode cX8_judge 44 = .ok (.iload 4, 2) := by decide +kernel
theorem dX8_judge_46 : decode cX8_judge 46 = .ok (.iload_n 1, 1) := by decide +kernel
theorem dX8_judge_47 : decode cX8_judge 47 = .ok (.if_icmp .ge 38, 3) := by decide +kernel
theorem dX8_judge_50 : decode cX8_judge 50 = .ok (.aload_n 0, 1) := by decide +kernel
theorem dX8_judge_51 : decode cX8_judge 51 = .ok (.lload_n 2, 1) := by decide +kernel
theorem dX8_judge_52 : decode cX8_judge 52 = .ok (.ldc2_w 210, 3) := by decide +kernel
theorem dX8_judge_55 : decode cX8_judge 55 = .ok (.iload_n 1, 1) := by decide +kernel
theorem dX8_judge_56 : decode cX8_judge 56 = .ok (.iconst 1, 1) := by decide +kernel
theorem dX8_judge_57 : decode cX8_judge 57 = .ok (.isub, 1) := by decide +kernel
theorem dX8_judge_58 : decode cX8_judge 58 = .ok (.iload 4, 2) := by decide +kernel
theorem dX8_judge_60 : decode cX8_judge 60 = .ok (.isub, 1) := by decide +kernel
theorem dX8_judge_61 : decode cX8_judge 61 = .ok (.invokestatic 212, 3) := by decide +kernel
theorem dX8_judge_64 : decode cX8_judge 64 = .ok (.ldiv, 1) := by decide +kernel
theorem dX8_judge_65 : decode cX8_judge 65 = .ok (.ldc2_w 210, 3) := by decide +kernel
theorem dX8_judge_68 : decode cX8_judge 68 = .ok (.lrem, 1) := by decide +kernel
theorem dX8_judge_69 : decode cX8_judge 69 = .ok (.l2i, 1) := by decide +kernel
theorem dX8_judge_70 : decode cX8_judge 70 = .ok (.invokevirtual 216, 3) := by decide +kernel
theorem dX8_judge_73 : decode cX8_judge 73 = .ok (.ifCond .ne 6, 3) := by decide +kernel
theorem dX8_judge_76 : decode cX8_judge 76 = .ok (.iload 4, 2) := by decide +kernel
theorem dX8_judge_78 : decode cX8_judge 78 = .ok (.ireturn, 1) := by decide +kernel
theorem dX8_judge_79 : decode cX8_judge 79 = .ok (.iinc 4 1, 3) := by decide +kernel
theorem dX8_judge_82 : decode cX8_judge 82 = .ok (.goto (-38), 3) := by decide +kernel
theorem dX8_judge_85 : decode cX8_judge 85 = .ok (.bipush (-9), 2) := by decide +kernel
theorem dX8_judge_87 : decode cX8_judge 87 = .ok (.ireturn, 1) := by decide +kernel
theorem dX8_ways_0 : decode cX8_ways 0 = .ok (.iconst 1, 1) := by decide +kernel
theorem dX8_ways_1 : decode cX8_ways 1 = .ok (.istore_n 1, 1) := by decide +kernel
theorem dX8_ways_2 : decode cX8_ways 2 = .ok (.iconst 2, 1) := by decide +kernel
theorem dX8_ways_3 : decode cX8_ways 3 = .ok (.istore_n 2, 1) := by decide +kernel
theorem dX8_ways_4 : decode cX8_ways 4 = .ok (.iload_n 2, 1) := by decide +kernel
theorem dX8_ways_5 : decode cX8_ways 5 = .ok (.iload_n 0, 1) := by decide +kernel
theorem dX8_ways_6 : decode cX8_ways 6 = .ok (.if_icmp .gt 13, 3) := by decide +kernel
theorem dX8_ways_9 : decode cX8_ways 9 = .ok (.iload_n 1, 1) := by decide +kernel
theorem dX8_ways_10 : decode cX8_ways 10 = .ok (.iload_n 2, 1) := by decide +kernel
theorem dX8_ways_11 : decode cX8_ways 11 = .ok (.imul, 1) := by decide +kernel
theorem dX8_ways_12 : decode cX8_ways 12 = .ok (.istore_n 1, 1) := by decide +kernel
theorem dX8_ways_13 : decode cX8_ways 13 = .ok (.iinc 2 1, 3) := by decide +kernel
theorem dX8_ways_16 : decode cX8_ways 16 = .ok (.goto (-12), 3) := by decide +kernel
theorem dX8_ways_19 : decode cX8_ways 19 = .ok (.iload_n 1, 1) := by decide +kernel
theorem dX8_ways_20 : decode cX8_ways 20 = .ok (.ireturn, 1) := by decide +kernel
theorem dX8_divisor_0 : decode cX8_divisor 0 = .ok (.iload_n 0, 1) := by decide +kernel
theorem dX8_divisor_1 : decode cX8_divisor 1 = .ok (.ifCond .ge 8, 3) := by decide +kernel
theorem dX8_divisor_4 : decode cX8_divisor 4 = .ok (.iload_n 0, 1) := by decide +kernel
theorem dX8_divisor_5 : decode cX8_divisor 5 = .ok (.ineg, 1) := by decide +kernel
theorem dX8_divisor_6 : decode cX8_divisor 6 = .ok (.goto 4, 3) := by decide +kernel
theorem dX8_divisor_9 : decode cX8_divisor 9 = .ok (.iload_n 0, 1) := by decide +kernel
theorem dX8_divisor_10 : decode cX8_divisor 10 = .ok (.istore_n 2, 1) := by decide +kernel
theorem dX8_divisor_11 : decode cX8_divisor 11 = .ok (.iload_n 1, 1) := by decide +kernel
theorem dX8_divisor_12 : decode cX8_divisor 12 = .ok (.istore_n 3, 1) := by decide +kernel
theorem dX8_divisor_13 : decode cX8_divisor 13 = .ok (.iload_n 3, 1) := by decide +kernel
theorem dX8_divisor_14 : decode cX8_divisor 14 = .ok (.ifCond .eq 16, 3) := by decide +kernel
theorem dX8_divisor_17 : decode cX8_divisor 17 = .ok (.iload_n 2, 1) := by decide +kernel
theorem dX8_divisor_18 : decode cX8_divisor 18 = .ok (.iload_n 3, 1) := by decide +kernel
theorem dX8_divisor_19 : decode cX8_divisor 19 = .ok (.irem, 1) := by decide +kernel
theorem dX8_divisor_20 : decode cX8_divisor 20 = .ok (.istore 4, 2) := by decide +kernel
theorem dX8_divisor_22 : decode cX8_divisor 22 = .ok (.iload_n 3, 1) := by decide +kernel
theorem dX8_divisor_23 : decode cX8_divisor 23 = .ok (.istore_n 2, 1) := by decide +kernel
theorem dX8_divisor_24 : decode cX8_divisor 24 = .ok (.iload 4, 2) := by decide +kernel
theorem dX8_divisor_26 : decode cX8_divisor 26 = .ok (.istore_n 3, 1) := by decide +kernel
theorem dX8_divisor_27 : decode cX8_divisor 27 = .ok (.goto (-14), 3) := by decide +kernel
theorem dX8_divisor_30 : decode cX8_divisor 30 = .ok (.iload_n 2, 1) := by decide +kernel
theorem dX8_divisor_31 : decode cX8_divisor 31 = .ok (.ireturn, 1) := by decide +kernel
theorem dX8_fraction_0 : decode cX8_fraction 0 = .ok (.iload_n 0, 1) := by decide +kernel
theorem dX8_fraction_1 : decode cX8_fraction 1 = .ok (.iload_n 1, 1) := by decide +kernel
theorem dX8_fraction_2 : decode cX8_fraction 2 = .ok (.invokestatic 219, 3) := by decide +kernel
theorem dX8_fraction_5 : decode cX8_fraction 5 = .ok (.istore_n 3, 1) := by decide +kernel
theorem dX8_fraction_6 : decode cX8_fraction 6 = .ok (.iload_n 2, 1) := by decide +kernel
theorem dX8_fraction_7 : decode cX8_fraction 7 = .ok (.ifCond .eq 9, 3) := by decide +kernel
theorem dX8_fraction_10 : decode cX8_fraction 10 = .ok (.iload_n 0, 1) := by decide +kernel
theorem dX8_fraction_11 : decode cX8_fraction 11 = .ok (.iload_n 3, 1) := by decide +kernel
theorem dX8_fraction_12 : decode cX8_fraction 12 = .ok (.idiv, 1) := by decide +kernel
theorem dX8_fraction_13 : decode cX8_fraction 13 = .ok (.goto 6, 3) := by decide +kernel
theorem dX8_fraction_16 : decode cX8_fraction 16 = .ok (.iload_n 1, 1) := by decide +kernel
theorem dX8_fraction_17 : decode cX8_fraction 17 = .ok (.iload_n 3, 1) := by decide +kernel
theorem dX8_fraction_18 : decode cX8_fraction 18 = .ok (.idiv, 1) := by decide +kernel
theorem dX8_fraction_19 : decode cX8_fraction 19 = .ok (.ireturn, 1) := by decide +kernel
theorem dX8_share_0 : decode cX8_share 0 = .ok (.aload_n 0, 1) := by decide +kernel
theorem dX8_share_1 : decode cX8_share 1 = .ok (.iconst 0, 1) := by decide +kernel
theorem dX8_share_2 : decode cX8_share 2 = .ok (.putfield 60, 3) := by decide +kernel
theorem dX8_share_5 : decode cX8_share 5 = .ok (.iload_n 1, 1) := by decide +kernel
theorem dX8_share_6 : decode cX8_share 6 = .ok (.invokestatic 91, 3) := by decide +kernel
theorem dX8_share_9 : decode cX8_share 9 = .ok (.ifCond .eq 5, 3) := by decide +kernel
theorem dX8_share_12 : decode cX8_share 12 = .ok (.iconst (-1), 1) := by decide +kernel
theorem dX8_share_13 : decode cX8_share 13 = .ok (.ireturn, 1) := by decide +kernel
theorem dX8_share_14 : decode cX8_share 14 = .ok (.aload_n 0, 1) := by decide +kernel
theorem dX8_share_15 : decode cX8_share 15 = .ok (.getfield 31, 3) := by decide +kernel
theorem dX8_share_18 : decode cX8_share 18 = .ok (.invokestatic 144, 3) := by decide +kernel
theorem dX8_share_21 : decode cX8_share 21 = .ok (.istore_n 3, 1) := by decide +kernel
theorem dX8_share_22 : decode cX8_share 22 = .ok (.iload_n 3, 1) := by decide +kernel
theorem dX8_share_23 : decode cX8_share 23 = .ok (.iload_n 1, 1) := by decide +kernel
theorem dX8_share_24 : decode cX8_share 24 = .ok (.invokestatic 97, 3) := by decide +kernel
theorem dX8_share_27 : decode cX8_share 27 = .ok (.ifCond .ne 13, 3) := by decide +kernel
theorem dX8_share_30 : decode cX8_share 30 = .ok (.iload_n 2, 1) := by decide +kernel
theorem dX8_share_31 : decode cX8_share 31 = .ok (.ifCond .eq 7, 3) := by decide +kernel
theorem dX8_share_34 : decode cX8_share 34 = .ok (.iconst 0, 1) := by decide +kernel
theorem dX8_share_35 : decode cX8_share 35 = .ok (.goto 4, 3) := by decide +kernel
theorem dX8_share_38 : decode cX8_share 38 = .ok (.iconst 1, 1) := by decide +kernel
theorem dX8_share_39 : decode cX8_share 39 = .ok (.ireturn, 1) := by decide +kernel
theorem dX8_share_40 : decode cX8_share 40 = .ok (.iload_n 3, 1) := by decide +kernel
theorem dX8_share_41 : decode cX8_share 41 = .ok (.invokestatic 112, 3) := by decide +kernel
theorem dX8_share_44 : decode cX8_share 44 = .ok (.istore 4, 2) := by decide +kernel
theorem dX8_share_46 : decode cX8_share 46 = .ok (.iconst 0, 1) := by decide +kernel
theorem dX8_share_47 : decode cX8_share 47 = .ok (.istore 5, 2) := by decide +kernel
theorem dX8_share_49 : decode cX8_share 49 = .ok (.iconst 0, 1) := by decide +kernel
theorem dX8_share_50 : decode cX8_share 50 = .ok (.istore 6, 2) := by decide +kernel
theorem dX8_share_52 : decode cX8_share 52 = .ok (.iload 6, 2) := by decide +kernel
theorem dX8_share_54 : decode cX8_share 54 = .ok (.sipush 255, 3) := by decide +kernel
theorem dX8_share_57 : decode cX8_share 57 = .ok (.if_icmp .gt 79, 3) := by decide +kernel
theorem dX8_share_60 : decode cX8_share 60 = .ok (.iload 6, 2) := by decide +kernel
theorem dX8_share_62 : decode cX8_share 62 = .ok (.iload_n 3, 1) := by decide +kernel
theorem dX8_share_63 : decode cX8_share 63 = .ok (.iconst (-1), 1) := by decide +kernel
theorem dX8_share_64 : decode cX8_share 64 = .ok (.ixor, 1) := by decide +kernel
theorem dX8_share_65 : decode cX8_share 65 = .ok (.iand, 1) := by decide +kernel
theorem dX8_share_66 : decode cX8_share 66 = .ok (.ifCond .ne 64, 3) := by decide +kernel
theorem dX8_share_69 : decode cX8_share 69 = .ok (.iload 6, 2) := by decide +kernel
theorem dX8_share_71 : decode cX8_share 71 = .ok (.iload_n 1, 1) := by decide +kernel
theorem dX8_share_72 : decode cX8_share 72 = .ok (.invokestatic 97, 3) := by decide +kernel
theorem dX8_share_75 : decode cX8_share 75 = .ok (.ifCond .ne 55, 3) := by decide +kernel
theorem dX8_share_78 : decode cX8_share 78 = .ok (.iload 6, 2) := by decide +kernel
theorem dX8_share_80 : decode cX8_share 80 = .ok (.invokestatic 112, 3) := by decide +kernel
theorem dX8_share_83 : decode cX8_share 83 = .ok (.istore 7, 2) := by decide +kernel
theorem dX8_share_85 : decode cX8_share 85 = .ok (.iload 5, 2) := by decide +kernel
theorem dX8_share_87 : decode cX8_share 87 = .ok (.iload 7, 2) := by decide +kernel
theorem dX8_share_89 : decode cX8_share 89 = .ok (.invokestatic 223, 3) := by decide +kernel
theorem dX8_share_92 : decode cX8_share 92 = .ok (.iload 4, 2) := by decide +kernel
theorem dX8_share_94 : decode cX8_share 94 = .ok (.iconst 1, 1) := by decide +kernel
theorem dX8_share_95 : decode cX8_share 95 = .ok (.isub, 1) := by decide +kernel
theorem dX8_share_96 : decode cX8_share 96 = .ok (.iload 7, 2) := by decide +kernel
theorem dX8_share_98 : decode cX8_share 98 = .ok (.isub, 1) := by decide +kernel
theorem dX8_share_99 : decode cX8_share 99 = .ok (.invokestatic 223, 3) := by decide +kernel
theorem dX8_share_102 : decode cX8_share 102 = .ok (.imul, 1) := by decide +kernel
theorem dX8_share_103 : decode cX8_share 103 = .ok (.aload_n 0, 1) := by decide +kernel
theorem dX8_share_104 : decode cX8_share 104 = .ok (.iload 6, 2) := by decide +kernel
theorem dX8_share_106 : decode cX8_share 106 = .ok (.iconst 1, 1) := by decide +kernel
theorem dX8_share_107 : decode cX8_share 107 = .ok (.iload_n 1, 1) := by decide +kernel
theorem dX8_share_108 : decode cX8_share 108 = .ok (.ishl, 1) := by decide +kernel
theorem dX8_share_109 : decode cX8_share 109 = .ok (.ior, 1) := by decide +kernel
theorem dX8_share_110 : decode cX8_share 110 = .ok (.invokevirtual 148, 3) := by decide +kernel
theorem dX8_share_113 : decode cX8_share 113 = .ok (.invokestatic 112, 3) := by decide +kernel
theorem dX8_share_116 : decode cX8_share 116 = .ok (.aload_n 0, 1) := by decide +kernel
theorem dX8_share_117 : decode cX8_share 117 = .ok (.iload 6, 2) := by decide +kernel
theorem dX8_share_119 : decode cX8_share 119 = .ok (.invokevirtual 148, 3) := by decide +kernel
theorem dX8_share_122 : decode cX8_share 122 = .ok (.invokestatic 112, 3) := by decide +kernel
theorem dX8_share_125 : decode cX8_share 125 = .ok (.isub, 1) := by decide +kernel
theorem dX8_share_126 : decode cX8_share 126 = .ok (.imul, 1) := by decide +kernel
theorem dX8_share_127 : decode cX8_share 127 = .ok (.iadd, 1) := by decide +kernel
theorem dX8_share_128 : decode cX8_share 128 = .ok (.istore 5, 2) := by decide +kernel
theorem dX8_share_130 : decode cX8_share 130 = .ok (.iinc 6 1, 3) := by decide +kernel
theorem dX8_share_133 : decode cX8_share 133 = .ok (.goto (-81), 3) := by decide +kernel
theorem dX8_share_136 : decode cX8_share 136 = .ok (.iload 5, 2) := by decide +kernel
theorem dX8_share_138 : decode cX8_share 138 = .ok (.iload 4, 2) := by decide +kernel
theorem dX8_share_140 : decode cX8_share 140 = .ok (.invokestatic 223, 3) := by decide +kernel
theorem dX8_share_143 : decode cX8_share 143 = .ok (.iload_n 2, 1) := by decide +kernel
theorem dX8_share_144 : decode cX8_share 144 = .ok (.invokestatic 226, 3) := by decide +kernel
theorem dX8_share_147 : decode cX8_share 147 = .ok (.ireturn, 1) := by decide +kernel
theorem dX8_swear_0 : decode cX8_swear 0 = .ok (.aload_n 0, 1) := by decide +kernel
theorem dX8_swear_1 : decode cX8_swear 1 = .ok (.iconst 0, 1) := by decide +kernel
theorem dX8_swear_2 : decode cX8_swear 2 = .ok (.putfield 60, 3) := by decide +kernel
theorem dX8_swear_5 : decode cX8_swear 5 = .ok (.aload_n 0, 1) := by decide +kernel
theorem dX8_swear_6 : decode cX8_swear 6 = .ok (.iload_n 1, 1) := by decide +kernel
theorem dX8_swear_7 : decode cX8_swear 7 = .ok (.invokevirtual 164, 3) := by decide +kernel
theorem dX8_swear_10 : decode cX8_swear 10 = .ok (.ifCond .eq 5, 3) := by decide +kernel
theorem dX8_swear_13 : decode cX8_swear 13 = .ok (.iconst (-1), 1) := by decide +kernel
theorem dX8_swear_14 : decode cX8_swear 14 = .ok (.ireturn, 1) := by decide +kernel
theorem dX8_swear_15 : decode cX8_swear 15 = .ok (.iload_n 2, 1) := by decide +kernel
theorem dX8_swear_16 : decode cX8_swear 16 = .ok (.i2l, 1) := by decide +kernel
theorem dX8_swear_17 : decode cX8_swear 17 = .ok (.lconst 0, 1) := by decide +kernel
theorem dX8_swear_18 : decode cX8_swear 18 = .ok (.lconst 1, 1) := by decide +kernel
theorem dX8_swear_19 : decode cX8_swear 19 = .ok (.invokestatic 66, 3) := by decide +kernel
theorem dX8_swear_22 : decode cX8_swear 22 = .ok (.ifCond .ne 6, 3) := by decide +kernel
theorem dX8_swear_25 : decode cX8_swear 25 = .ok (.bipush (-2), 2) := by decide +kernel
theorem dX8_swear_27 : decode cX8_swear 27 = .ok (.ireturn, 1) := by decide +kernel
theorem dX8_swear_28 : decode cX8_swear 28 = .ok (.aload_n 0, 1) := by decide +kernel
theorem dX8_swear_29 : decode cX8_swear 29 = .ok (.getfield 151, 3) := by decide +kernel
theorem dX8_swear_32 : decode cX8_swear 32 = .ok (.bipush 6, 2) := by decide +kernel
theorem dX8_swear_34 : decode cX8_swear 34 = .ok (.if_icmp .ne 6, 3) := by decide +kernel
theorem dX8_swear_37 : decode cX8_swear 37 = .ok (.bipush (-4), 2) := by decide +kernel
theorem dX8_swear_39 : decode cX8_swear 39 = .ok (.ireturn, 1) := by decide +kernel
theorem dX8_swear_40 : decode cX8_swear 40 = .ok (.aload_n 0, 1) := by decide +kernel
theorem dX8_swear_41 : decode cX8_swear 41 = .ok (.getfield 47, 3) := by decide +kernel
theorem dX8_swear_44 : decode cX8_swear 44 = .ok (.aload_n 0, 1) := by decide +kernel
theorem dX8_swear_45 : decode cX8_swear 45 = .ok (.getfield 151, 3) := by decide +kernel
theorem dX8_swear_48 : decode cX8_swear 48 = .ok (.iload_n 1, 1) := by decide +kernel
theorem dX8_swear_49 : decode cX8_swear 49 = .ok (.iastore, 1) := by decide +kernel
theorem dX8_swear_50 : decode cX8_swear 50 = .ok (.aload_n 0, 1) := by decide +kernel
theorem dX8_swear_51 : decode cX8_swear 51 = .ok (.getfield 50, 3) := by decide +kernel
theorem dX8_swear_54 : decode cX8_swear 54 = .ok (.aload_n 0, 1) := by decide +kernel
theorem dX8_swear_55 : decode cX8_swear 55 = .ok (.getfield 151, 3) := by decide +kernel
theorem dX8_swear_58 : decode cX8_swear 58 = .ok (.iload_n 2, 1) := by decide +kernel
theorem dX8_swear_59 : decode cX8_swear 59 = .ok (.iastore, 1) := by decide +kernel
theorem dX8_swear_60 : decode cX8_swear 60 = .ok (.aload_n 0, 1) := by decide +kernel
theorem dX8_swear_61 : decode cX8_swear 61 = .ok (.dup, 1) := by decide +kernel
theorem dX8_swear_62 : decode cX8_swear 62 = .ok (.getfield 151, 3) := by decide +kernel
theorem dX8_swear_65 : decode cX8_swear 65 = .ok (.iconst 1, 1) := by decide +kernel
theorem dX8_swear_66 : decode cX8_swear 66 = .ok (.iadd, 1) := by decide +kernel
theorem dX8_swear_67 : decode cX8_swear 67 = .ok (.putfield 151, 3) := by decide +kernel
theorem dX8_swear_70 : decode cX8_swear 70 = .ok (.aload_n 0, 1) := by decide +kernel
theorem dX8_swear_71 : decode cX8_swear 71 = .ok (.getfield 151, 3) := by decide +kernel
theorem dX8_swear_74 : decode cX8_swear 74 = .ok (.ireturn, 1) := by decide +kernel
theorem dX8_unswear_0 : decode cX8_unswear 0 = .ok (.aload_n 0, 1) := by decide +kernel
theorem dX8_unswear_1 : decode cX8_unswear 1 = .ok (.iconst 0, 1) := by decide +kernel
theorem dX8_unswear_2 : decode cX8_unswear 2 = .ok (.putfield 60, 3) := by decide +kernel
theorem dX8_unswear_5 : decode cX8_unswear 5 = .ok (.aload_n 0, 1) := by decide +kernel
theorem dX8_unswear_6 : decode cX8_unswear 6 = .ok (.getfield 151, 3) := by decide +kernel
theorem dX8_unswear_9 : decode cX8_unswear 9 = .ok (.istore_n 1, 1) := by decide +kernel
theorem dX8_unswear_10 : decode cX8_unswear 10 = .ok (.aload_n 0, 1) := by decide +kernel
theorem dX8_unswear_11 : decode cX8_unswear 11 = .ok (.iconst 0, 1) := by decide +kernel
theorem dX8_unswear_12 : decode cX8_unswear 12 = .ok (.putfield 151, 3) := by decide +kernel
theorem dX8_unswear_15 : decode cX8_unswear 15 = .ok (.iload_n 1, 1) := by decide +kernel
theorem dX8_unswear_16 : decode cX8_unswear 16 = .ok (.ireturn, 1) := by decide +kernel
theorem dX8_may_0 : decode cX8_may 0 = .ok (.aload_n 0, 1) := by decide +kernel
theorem dX8_may_1 : decode cX8_may 1 = .ok (.iconst 0, 1) := by decide +kernel
theorem dX8_may_2 : decode cX8_may 2 = .ok (.putfield 60, 3) := by decide +kernel
theorem dX8_may_5 : decode cX8_may 5 = .ok (.iload_n 1, 1) := by decide +kernel
theorem dX8_may_6 : decode cX8_may 6 = .ok (.i2l, 1) := by decide +kernel
theorem dX8_may_7 : decode cX8_may 7 = .ok (.lconst 0, 1) := by decide +kernel
theorem dX8_may_8 : decode cX8_may 8 = .ok (.lconst 1, 1) := by decide +kernel
theorem dX8_may_9 : decode cX8_may 9 = .ok (.invokestatic 66, 3) := by decide +kernel
theorem dX8_may_12 : decode cX8_may 12 = .ok (.ifCond .ne 6, 3) := by decide +kernel
theorem dX8_may_15 : decode cX8_may 15 = .ok (.bipush (-2), 2) := by decide +kernel
theorem dX8_may_17 : decode cX8_may 17 = .ok (.ireturn, 1) := by decide +kernel
theorem dX8_may_18 : decode cX8_may 18 = .ok (.aload_n 0, 1) := by decide +kernel
theorem dX8_may_19 : decode cX8_may 19 = .ok (.iconst 0, 1) := by decide +kernel
theorem dX8_may_20 : decode cX8_may 20 = .ok (.putfield 229, 3) := by decide +kernel
theorem dX8_may_23 : decode cX8_may 23 = .ok (.aload_n 0, 1) := by decide +kernel
theorem dX8_may_24 : decode cX8_may 24 = .ok (.bipush (-9), 2) := by decide +kernel
theorem dX8_may_26 : decode cX8_may 26 = .ok (.putfield 232, 3) := by decide +kernel
theorem dX8_may_29 : decode cX8_may 29 = .ok (.iconst 0, 1) := by decide +kernel
theorem dX8_may_30 : decode cX8_may 30 = .ok (.istore_n 2, 1) := by decide +kernel
theorem dX8_may_31 : decode cX8_may 31 = .ok (.iload_n 2, 1) := by decide +kernel
theorem dX8_may_32 : decode cX8_may 32 = .ok (.sipush 255, 3) := by decide +kernel
theorem dX8_may_35 : decode cX8_may 35 = .ok (.if_icmp .gt 135, 3) := by decide +kernel
theorem dX8_may_38 : decode cX8_may 38 = .ok (.aload_n 0, 1) := by decide +kernel
theorem dX8_may_39 : decode cX8_may 39 = .ok (.iload_n 2, 1) := by decide +kernel
theorem dX8_may_40 : decode cX8_may 40 = .ok (.invokevirtual 148, 3) := by decide +kernel
theorem dX8_may_43 : decode cX8_may 43 = .ok (.istore_n 3, 1) := by decide +kernel
theorem dX8_may_44 : decode cX8_may 44 = .ok (.iconst 1, 1) := by decide +kernel
theorem dX8_may_45 : decode cX8_may 45 = .ok (.istore 4, 2) := by decide +kernel
theorem dX8_may_47 : decode cX8_may 47 = .ok (.iconst 0, 1) := by decide +kernel
theorem dX8_may_48 : decode cX8_may 48 = .ok (.istore 5, 2) := by decide +kernel
theorem dX8_may_50 : decode cX8_may 50 = .ok (.iload 5, 2) := by decide +kernel
theorem dX8_may_52 : decode cX8_may 52 = .ok (.aload_n 0, 1) := by decide +kernel
theorem dX8_may_53 : decode cX8_may 53 = .ok (.getfield 151, 3) := by decide +kernel
theorem dX8_may_56 : decode cX8_may 56 = .ok (.if_icmp .ge 65, 3) := by decide +kernel
theorem dX8_may_59 : decode cX8_may 59 = .ok (.iload 4, 2) := by decide +kernel
theorem dX8_may_61 : decode cX8_may 61 = .ok (.ifCond .eq 51, 3) := by decide +kernel
theorem dX8_may_64 : decode cX8_may 64 = .ok (.aload_n 0, 1) := by decide +kernel
theorem dX8_may_65 : decode cX8_may 65 = .ok (.aload_n 0, 1) := by decide +kernel
theorem dX8_may_66 : decode cX8_may 66 = .ok (.getfield 47, 3) := by decide +kernel
theorem dX8_may_69 : decode cX8_may 69 = .ok (.iload 5, 2) := by decide +kernel
theorem dX8_may_71 : decode cX8_may 71 = .ok (.iaload, 1) := by decide +kernel
theorem dX8_may_72 : decode cX8_may 72 = .ok (.invokevirtual 164, 3) := by decide +kernel
theorem dX8_may_75 : decode cX8_may 75 = .ok (.ifCond .ne 33, 3) := by decide +kernel
theorem dX8_may_78 : decode cX8_may 78 = .ok (.iload_n 3, 1) := by decide +kernel
theorem dX8_may_79 : decode cX8_may 79 = .ok (.aload_n 0, 1) := by decide +kernel
theorem dX8_may_80 : decode cX8_may 80 = .ok (.getfield 47, 3) := by decide +kernel
theorem dX8_may_83 : decode cX8_may 83 = .ok (.iload 5, 2) := by decide +kernel
theorem dX8_may_85 : decode cX8_may 85 = .ok (.iaload, 1) := by decide +kernel
theorem dX8_may_86 : decode cX8_may 86 = .ok (.invokestatic 97, 3) := by decide +kernel
theorem dX8_may_89 : decode cX8_may 89 = .ok (.aload_n 0, 1) := by decide +kernel
theorem dX8_may_90 : decode cX8_may 90 = .ok (.getfield 50, 3) := by decide +kernel
theorem dX8_may_93 : decode cX8_may 93 = .ok (.iload 5, 2) := by decide +kernel
theorem dX8_may_95 : decode cX8_may 95 = .ok (.iaload, 1) := by decide +kernel
theorem dX8_may_96 : decode cX8_may 96 = .ok (.iconst 1, 1) := by decide +kernel
theorem dX8_may_97 : decode cX8_may 97 = .ok (.if_icmp .ne 7, 3) := by decide +kernel
theorem dX8_may_100 : decode cX8_may 100 = .ok (.iconst 1, 1) := by decide +kernel
theorem dX8_may_101 : decode cX8_may 101 = .ok (.goto 4, 3) := by decide +kernel
theorem dX8_may_104 : decode cX8_may 104 = .ok (.iconst 0, 1) := by decide +kernel
theorem dX8_may_105 : decode cX8_may 105 = .ok (.if_icmp .ne 7, 3) := by decide +kernel
theorem dX8_may_108 : decode cX8_may 108 = .ok (.iconst 1, 1) := by decide +kernel
theorem dX8_may_109 : decode cX8_may 109 = .ok (.goto 4, 3) := by decide +kernel
theorem dX8_may_112 : decode cX8_may 112 = .ok (.iconst 0, 1) := by decide +kernel
theorem dX8_may_113 : decode cX8_may 113 = .ok (.istore 4, 2) := by decide +kernel
theorem dX8_may_115 : decode cX8_may 115 = .ok (.iinc 5 1, 3) := by decide +kernel
theorem dX8_may_118 : decode cX8_may 118 = .ok (.goto (-68), 3) := by decide +kernel
theorem dX8_may_121 : decode cX8_may 121 = .ok (.aload_n 0, 1) := by decide +kernel
theorem dX8_may_122 : decode cX8_may 122 = .ok (.iload 4, 2) := by decide +kernel
theorem dX8_may_124 : decode cX8_may 124 = .ok (.ifCond .eq 14, 3) := by decide +kernel
theorem dX8_may_127 : decode cX8_may 127 = .ok (.aload_n 0, 1) := by decide +kernel
theorem dX8_may_128 : decode cX8_may 128 = .ok (.getfield 229, 3) := by decide +kernel
theorem dX8_may_131 : decode cX8_may 131 = .ok (.ifCond .ne 7, 3) := by decide +kernel
theorem dX8_may_134 : decode cX8_may 134 = .ok (.iload_n 2, 1) := by decide +kernel
theorem dX8_may_135 : decode cX8_may 135 = .ok (.goto 7, 3) := by decide +kernel
theorem dX8_may_138 : decode cX8_may 138 = .ok (.aload_n 0, 1) := by decide +kernel
theorem dX8_may_139 : decode cX8_may 139 = .ok (.getfield 232, 3) := by decide +kernel
theorem dX8_may_142 : decode cX8_may 142 = .ok (.putfield 232, 3) := by decide +kernel
theorem dX8_may_145 : decode cX8_may 145 = .ok (.aload_n 0, 1) := by decide +kernel
theorem dX8_may_146 : decode cX8_may 146 = .ok (.dup, 1) := by decide +kernel
theorem dX8_may_147 : decode cX8_may 147 = .ok (.getfield 229, 3) := by decide +kernel
theorem dX8_may_150 : decode cX8_may 150 = .ok (.iload 4, 2) := by decide +kernel
theorem dX8_may_152 : decode cX8_may 152 = .ok (.ifCond .eq 7, 3) := by decide +kernel
theorem dX8_may_155 : decode cX8_may 155 = .ok (.iconst 1, 1) := by decide +kernel
theorem dX8_may_156 : decode cX8_may 156 = .ok (.goto 4, 3) := by decide +kernel
theorem dX8_may_159 : decode cX8_may 159 = .ok (.iconst 0, 1) := by decide +kernel
theorem dX8_may_160 : decode cX8_may 160 = .ok (.iadd, 1) := by decide +kernel
theorem dX8_may_161 : decode cX8_may 161 = .ok (.putfield 229, 3) := by decide +kernel
theorem dX8_may_164 : decode cX8_may 164 = .ok (.iinc 2 1, 3) := by decide +kernel
theorem dX8_may_167 : decode cX8_may 167 = .ok (.goto (-136), 3) := by decide +kernel
theorem dX8_may_170 : decode cX8_may 170 = .ok (.iload_n 1, 1) := by decide +kernel
theorem dX8_may_171 : decode cX8_may 171 = .ok (.ifCond .ne 10, 3) := by decide +kernel
theorem dX8_may_174 : decode cX8_may 174 = .ok (.aload_n 0, 1) := by decide +kernel
theorem dX8_may_175 : decode cX8_may 175 = .ok (.getfield 229, 3) := by decide +kernel
theorem dX8_may_178 : decode cX8_may 178 = .ok (.goto 7, 3) := by decide +kernel
theorem dX8_may_181 : decode cX8_may 181 = .ok (.aload_n 0, 1) := by decide +kernel
theorem dX8_may_182 : decode cX8_may 182 = .ok (.getfield 232, 3) := by decide +kernel
theorem dX8_may_185 : decode cX8_may 185 = .ok (.ireturn, 1) := by decide +kernel
theorem dX8_takenBy_0 : decode cX8_takenBy 0 = .ok (.iload_n 0, 1) := by decide +kernel
theorem dX8_takenBy_1 : decode cX8_takenBy 1 = .ok (.iload_n 0, 1) := by decide +kernel
theorem dX8_takenBy_2 : decode cX8_takenBy 2 = .ok (.ineg, 1) := by decide +kernel
theorem dX8_takenBy_3 : decode cX8_takenBy 3 = .ok (.iand, 1) := by decide +kernel
theorem dX8_takenBy_4 : decode cX8_takenBy 4 = .ok (.istore_n 2, 1) := by decide +kernel
theorem dX8_takenBy_5 : decode cX8_takenBy 5 = .ok (.iload_n 0, 1) := by decide +kernel
theorem dX8_takenBy_6 : decode cX8_takenBy 6 = .ok (.iload_n 2, 1) := by decide +kernel
theorem dX8_takenBy_7 : decode cX8_takenBy 7 = .ok (.iconst (-1), 1) := by decide +kernel
theorem dX8_takenBy_8 : decode cX8_takenBy 8 = .ok (.ixor, 1) := by decide +kernel
theorem dX8_takenBy_9 : decode cX8_takenBy 9 = .ok (.iand, 1) := by decide +kernel
theorem dX8_takenBy_10 : decode cX8_takenBy 10 = .ok (.istore_n 3, 1) := by decide +kernel
theorem dX8_takenBy_11 : decode cX8_takenBy 11 = .ok (.iload_n 1, 1) := by decide +kernel
theorem dX8_takenBy_12 : decode cX8_takenBy 12 = .ok (.iconst 1, 1) := by decide +kernel
theorem dX8_takenBy_13 : decode cX8_takenBy 13 = .ok (.if_icmp .ne 7, 3) := by decide +kernel
theorem dX8_takenBy_16 : decode cX8_takenBy 16 = .ok (.iload_n 2, 1) := by decide +kernel
theorem dX8_takenBy_17 : decode cX8_takenBy 17 = .ok (.goto 16, 3) := by decide +kernel
theorem dX8_takenBy_20 : decode cX8_takenBy 20 = .ok (.iload_n 1, 1) := by decide +kernel
theorem dX8_takenBy_21 : decode cX8_takenBy 21 = .ok (.iconst 2, 1) := by decide +kernel
theorem dX8_takenBy_22 : decode cX8_takenBy 22 = .ok (.if_icmp .ne 10, 3) := by decide +kernel
theorem dX8_takenBy_25 : decode cX8_takenBy 25 = .ok (.iload_n 3, 1) := by decide +kernel
theorem dX8_takenBy_26 : decode cX8_takenBy 26 = .ok (.iload_n 3, 1) := by decide +kernel
theorem dX8_takenBy_27 : decode cX8_takenBy 27 = .ok (.ineg, 1) := by decide +kernel
theorem dX8_takenBy_28 : decode cX8_takenBy 28 = .ok (.iand, 1) := by decide +kernel
theorem dX8_takenBy_29 : decode cX8_takenBy 29 = .ok (.goto 4, 3) := by decide +kernel
theorem dX8_takenBy_32 : decode cX8_takenBy 32 = .ok (.iconst 0, 1) := by decide +kernel
theorem dX8_takenBy_33 : decode cX8_takenBy 33 = .ok (.ireturn, 1) := by decide +kernel
theorem dX8_rests_0 : decode cX8_rests 0 = .ok (.aload_n 0, 1) := by decide +kernel
theorem dX8_rests_1 : decode cX8_rests 1 = .ok (.iconst 0, 1) := by decide +kernel
theorem dX8_rests_2 : decode cX8_rests 2 = .ok (.putfield 60, 3) := by decide +kernel
theorem dX8_rests_5 : decode cX8_rests 5 = .ok (.aload_n 0, 1) := by decide +kernel
theorem dX8_rests_6 : decode cX8_rests 6 = .ok (.iload_n 1, 1) := by decide +kernel
theorem dX8_rests_7 : decode cX8_rests 7 = .ok (.invokevirtual 164, 3) := by decide +kernel
theorem dX8_rests_10 : decode cX8_rests 10 = .ok (.ifCond .ne 11, 3) := by decide +kernel
theorem dX8_rests_13 : decode cX8_rests 13 = .ok (.aload_n 0, 1) := by decide +kernel
theorem dX8_rests_14 : decode cX8_rests 14 = .ok (.iload_n 2, 1) := by decide +kernel
theorem dX8_rests_15 : decode cX8_rests 15 = .ok (.invokevirtual 164, 3) := by decide +kernel
theorem dX8_rests_18 : decode cX8_rests 18 = .ok (.ifCond .eq 5, 3) := by decide +kernel
theorem dX8_rests_21 : decode cX8_rests 21 = .ok (.iconst (-1), 1) := by decide +kernel
theorem dX8_rests_22 : decode cX8_rests 22 = .ok (.ireturn, 1) := by decide +kernel
theorem dX8_rests_23 : decode cX8_rests 23 = .ok (.iload_n 1, 1) := by decide +kernel
theorem dX8_rests_24 : decode cX8_rests 24 = .ok (.iload_n 2, 1) := by decide +kernel
theorem dX8_rests_25 : decode cX8_rests 25 = .ok (.if_icmp .eq 13, 3) := by decide +kernel
theorem dX8_rests_28 : decode cX8_rests 28 = .ok (.iload_n 3, 1) := by decide +kernel
theorem dX8_rests_29 : decode cX8_rests 29 = .ok (.i2l, 1) := by decide +kernel
theorem dX8_rests_30 : decode cX8_rests 30 = .ok (.lconst 0, 1) := by decide +kernel
theorem dX8_rests_31 : decode cX8_rests 31 = .ok (.lconst 1, 1) := by decide +kernel
theorem dX8_rests_32 : decode cX8_rests 32 = .ok (.invokestatic 66, 3) := by decide +kernel
theorem dX8_rests_35 : decode cX8_rests 35 = .ok (.ifCond .ne 6, 3) := by decide +kernel
theorem dX8_rests_38 : decode cX8_rests 38 = .ok (.bipush (-2), 2) := by decide +kernel
theorem dX8_rests_40 : decode cX8_rests 40 = .ok (.ireturn, 1) := by decide +kernel
theorem dX8_rests_41 : decode cX8_rests 41 = .ok (.aload_n 0, 1) := by decide +kernel
theorem dX8_rests_42 : decode cX8_rests 42 = .ok (.getfield 31, 3) := by decide +kernel
theorem dX8_rests_45 : decode cX8_rests 45 = .ok (.invokestatic 144, 3) := by decide +kernel
theorem dX8_rests_48 : decode cX8_rests 48 = .ok (.istore 4, 2) := by decide +kernel
theorem dX8_rests_50 : decode cX8_rests 50 = .ok (.iconst 0, 1) := by decide +kernel
theorem dX8_rests_51 : decode cX8_rests 51 = .ok (.istore 5, 2) := by decide +kernel
theorem dX8_rests_53 : decode cX8_rests 53 = .ok (.iload 5, 2) := by decide +kernel
theorem dX8_rests_55 : decode cX8_rests 55 = .ok (.bipush 9, 2) := by decide +kernel
theorem dX8_rests_57 : decode cX8_rests 57 = .ok (.if_icmp .ge 119, 3) := by decide +kernel
theorem dX8_rests_60 : decode cX8_rests 60 = .ok (.aload_n 0, 1) := by decide +kernel
theorem dX8_rests_61 : decode cX8_rests 61 = .ok (.iload 4, 2) := by decide +kernel
theorem dX8_rests_63 : decode cX8_rests 63 = .ok (.iload 4, 2) := by decide +kernel
theorem dX8_rests_65 : decode cX8_rests 65 = .ok (.iload 5, 2) := by decide +kernel
theorem dX8_rests_67 : decode cX8_rests 67 = .ok (.iconst 3, 1) := by decide +kernel
theorem dX8_rests_68 : decode cX8_rests 68 = .ok (.idiv, 1) := by decide +kernel
theorem dX8_rests_69 : decode cX8_rests 69 = .ok (.invokestatic 235, 3) := by decide +kernel
theorem dX8_rests_72 : decode cX8_rests 72 = .ok (.iload 4, 2) := by decide +kernel
theorem dX8_rests_74 : decode cX8_rests 74 = .ok (.iload 5, 2) := by decide +kernel
theorem dX8_rests_76 : decode cX8_rests 76 = .ok (.iconst 3, 1) := by decide +kernel
theorem dX8_rests_77 : decode cX8_rests 77 = .ok (.irem, 1) := by decide +kernel
theorem dX8_rests_78 : decode cX8_rests 78 = .ok (.invokestatic 235, 3) := by decide +kernel
theorem dX8_rests_81 : decode cX8_rests 81 = .ok (.ior, 1) := by decide +kernel
theorem dX8_rests_82 : decode cX8_rests 82 = .ok (.iconst (-1), 1) := by decide +kernel
theorem dX8_rests_83 : decode cX8_rests 83 = .ok (.ixor, 1) := by decide +kernel
theorem dX8_rests_84 : decode cX8_rests 84 = .ok (.iand, 1) := by decide +kernel
theorem dX8_rests_85 : decode cX8_rests 85 = .ok (.invokevirtual 148, 3) := by decide +kernel
theorem dX8_rests_88 : decode cX8_rests 88 = .ok (.istore 6, 2) := by decide +kernel
theorem dX8_rests_90 : decode cX8_rests 90 = .ok (.iload 6, 2) := by decide +kernel
theorem dX8_rests_92 : decode cX8_rests 92 = .ok (.iload_n 1, 1) := by decide +kernel
theorem dX8_rests_93 : decode cX8_rests 93 = .ok (.ishr, 1) := by decide +kernel
theorem dX8_rests_94 : decode cX8_rests 94 = .ok (.iconst 1, 1) := by decide +kernel
theorem dX8_rests_95 : decode cX8_rests 95 = .ok (.iand, 1) := by decide +kernel
theorem dX8_rests_96 : decode cX8_rests 96 = .ok (.istore 7, 2) := by decide +kernel
theorem dX8_rests_98 : decode cX8_rests 98 = .ok (.iload 6, 2) := by decide +kernel
theorem dX8_rests_100 : decode cX8_rests 100 = .ok (.iload_n 2, 1) := by decide +kernel
theorem dX8_rests_101 : decode cX8_rests 101 = .ok (.ishr, 1) := by decide +kernel
theorem dX8_rests_102 : decode cX8_rests 102 = .ok (.iconst 1, 1) := by decide +kernel
theorem dX8_rests_103 : decode cX8_rests 103 = .ok (.iand, 1) := by decide +kernel
theorem dX8_rests_104 : decode cX8_rests 104 = .ok (.istore 8, 2) := by decide +kernel
theorem dX8_rests_106 : decode cX8_rests 106 = .ok (.aload_n 0, 1) := by decide +kernel
theorem dX8_rests_107 : decode cX8_rests 107 = .ok (.getfield 53, 3) := by decide +kernel
theorem dX8_rests_110 : decode cX8_rests 110 = .ok (.iconst 2, 1) := by decide +kernel
theorem dX8_rests_111 : decode cX8_rests 111 = .ok (.iload 5, 2) := by decide +kernel
theorem dX8_rests_113 : decode cX8_rests 113 = .ok (.imul, 1) := by decide +kernel
theorem dX8_rests_114 : decode cX8_rests 114 = .ok (.iconst 3, 1) := by decide +kernel
theorem dX8_rests_115 : decode cX8_rests 115 = .ok (.iload 7, 2) := by decide +kernel
theorem dX8_rests_117 : decode cX8_rests 117 = .ok (.imul, 1) := by decide +kernel
theorem dX8_rests_118 : decode cX8_rests 118 = .ok (.iconst 1, 1) := by decide +kernel
theorem dX8_rests_119 : decode cX8_rests 119 = .ok (.iadd, 1) := by decide +kernel
theorem dX8_rests_120 : decode cX8_rests 120 = .ok (.iload 8, 2) := by decide +kernel
theorem dX8_rests_122 : decode cX8_rests 122 = .ok (.isub, 1) := by decide +kernel
theorem dX8_rests_123 : decode cX8_rests 123 = .ok (.iload 5, 2) := by decide +kernel
theorem dX8_rests_125 : decode cX8_rests 125 = .ok (.iconst 3, 1) := by decide +kernel
theorem dX8_rests_126 : decode cX8_rests 126 = .ok (.idiv, 1) := by decide +kernel
theorem dX8_rests_127 : decode cX8_rests 127 = .ok (.ifCond .le 7, 3) := by decide +kernel
theorem dX8_rests_130 : decode cX8_rests 130 = .ok (.iconst 1, 1) := by decide +kernel
theorem dX8_rests_131 : decode cX8_rests 131 = .ok (.goto 4, 3) := by decide +kernel
theorem dX8_rests_134 : decode cX8_rests 134 = .ok (.iconst 0, 1) := by decide +kernel
theorem dX8_rests_135 : decode cX8_rests 135 = .ok (.isub, 1) := by decide +kernel
theorem dX8_rests_136 : decode cX8_rests 136 = .ok (.iastore, 1) := by decide +kernel
theorem dX8_rests_137 : decode cX8_rests 137 = .ok (.aload_n 0, 1) := by decide +kernel
theorem dX8_rests_138 : decode cX8_rests 138 = .ok (.getfield 53, 3) := by decide +kernel
theorem dX8_rests_141 : decode cX8_rests 141 = .ok (.iconst 2, 1) := by decide +kernel
theorem dX8_rests_142 : decode cX8_rests 142 = .ok (.iload 5, 2) := by decide +kernel
theorem dX8_rests_144 : decode cX8_rests 144 = .ok (.imul, 1) := by decide +kernel
theorem dX8_rests_145 : decode cX8_rests 145 = .ok (.iconst 1, 1) := by decide +kernel
theorem dX8_rests_146 : decode cX8_rests 146 = .ok (.iadd, 1) := by decide +kernel
theorem dX8_rests_147 : decode cX8_rests 147 = .ok (.iconst 3, 1) := by decide +kernel
theorem dX8_rests_148 : decode cX8_rests 148 = .ok (.iload 8, 2) := by decide +kernel
theorem dX8_rests_150 : decode cX8_rests 150 = .ok (.imul, 1) := by decide +kernel
theorem dX8_rests_151 : decode cX8_rests 151 = .ok (.iconst 1, 1) := by decide +kernel
theorem dX8_rests_152 : decode cX8_rests 152 = .ok (.iadd, 1) := by decide +kernel
theorem dX8_rests_153 : decode cX8_rests 153 = .ok (.iload 7, 2) := by decide +kernel
theorem dX8_rests_155 : decode cX8_rests 155 = .ok (.isub, 1) := by decide +kernel
theorem dX8_rests_156 : decode cX8_rests 156 = .ok (.iload 5, 2) := by decide +kernel
theorem dX8_rests_158 : decode cX8_rests 158 = .ok (.iconst 3, 1) := by decide +kernel
theorem dX8_rests_159 : decode cX8_rests 159 = .ok (.irem, 1) := by decide +kernel
theorem dX8_rests_160 : decode cX8_rests 160 = .ok (.ifCond .le 7, 3) := by decide +kernel
theorem dX8_rests_163 : decode cX8_rests 163 = .ok (.iconst 1, 1) := by decide +kernel
theorem dX8_rests_164 : decode cX8_rests 164 = .ok (.goto 4, 3) := by decide +kernel
theorem dX8_rests_167 : decode cX8_rests 167 = .ok (.iconst 0, 1) := by decide +kernel
theorem dX8_rests_168 : decode cX8_rests 168 = .ok (.isub, 1) := by decide +kernel
theorem dX8_rests_169 : decode cX8_rests 169 = .ok (.iastore, 1) := by decide +kernel
theorem dX8_rests_170 : decode cX8_rests 170 = .ok (.iinc 5 1, 3) := by decide +kernel
theorem dX8_rests_173 : decode cX8_rests 173 = .ok (.goto (-120), 3) := by decide +kernel
theorem dX8_rests_176 : decode cX8_rests 176 = .ok (.aload_n 0, 1) := by decide +kernel
theorem dX8_rests_177 : decode cX8_rests 177 = .ok (.iconst 0, 1) := by decide +kernel
theorem dX8_rests_178 : decode cX8_rests 178 = .ok (.putfield 238, 3) := by decide +kernel
theorem dX8_rests_181 : decode cX8_rests 181 = .ok (.aload_n 0, 1) := by decide +kernel
theorem dX8_rests_182 : decode cX8_rests 182 = .ok (.bipush (-9), 2) := by decide +kernel
theorem dX8_rests_184 : decode cX8_rests 184 = .ok (.putfield 241, 3) := by decide +kernel
theorem dX8_rests_187 : decode cX8_rests 187 = .ok (.iconst 0, 1) := by decide +kernel
theorem dX8_rests_188 : decode cX8_rests 188 = .ok (.istore 5, 2) := by decide +kernel
theorem dX8_rests_190 : decode cX8_rests 190 = .ok (.iload 5, 2) := by decide +kernel
theorem dX8_rests_192 : decode cX8_rests 192 = .ok (.bipush 9, 2) := by decide +kernel
theorem dX8_rests_194 : decode cX8_rests 194 = .ok (.if_icmp .ge 154, 3) := by decide +kernel
theorem dX8_rests_197 : decode cX8_rests 197 = .ok (.iconst 1, 1) := by decide +kernel
theorem dX8_rests_198 : decode cX8_rests 198 = .ok (.istore 6, 2) := by decide +kernel
theorem dX8_rests_200 : decode cX8_rests 200 = .ok (.iconst 0, 1) := by decide +kernel
theorem dX8_rests_201 : decode cX8_rests 201 = .ok (.istore 7, 2) := by decide +kernel
theorem dX8_rests_203 : decode cX8_rests 203 = .ok (.iload 7, 2) := by decide +kernel
theorem dX8_rests_205 : decode cX8_rests 205 = .ok (.iconst 3, 1) := by decide +kernel
theorem dX8_rests_206 : decode cX8_rests 206 = .ok (.if_icmp .ge 82, 3) := by decide +kernel
theorem dX8_rests_209 : decode cX8_rests 209 = .ok (.iload 6, 2) := by decide +kernel
theorem dX8_rests_211 : decode cX8_rests 211 = .ok (.ifCond .eq 68, 3) := by decide +kernel
theorem dX8_rests_214 : decode cX8_rests 214 = .ok (.aload_n 0, 1) := by decide +kernel
theorem dX8_rests_215 : decode cX8_rests 215 = .ok (.getfield 53, 3) := by decide +kernel
theorem dX8_rests_218 : decode cX8_rests 218 = .ok (.iconst 2, 1) := by decide +kernel
theorem dX8_rests_219 : decode cX8_rests 219 = .ok (.iconst 3, 1) := by decide +kernel
theorem dX8_rests_220 : decode cX8_rests 220 = .ok (.iload 7, 2) := by decide +kernel
theorem dX8_rests_222 : decode cX8_rests 222 = .ok (.imul, 1) := by decide +kernel
theorem dX8_rests_223 : decode cX8_rests 223 = .ok (.iload 5, 2) := by decide +kernel
theorem dX8_rests_225 : decode cX8_rests 225 = .ok (.iconst 3, 1) := by decide +kernel
theorem dX8_rests_226 : decode cX8_rests 226 = .ok (.irem, 1) := by decide +kernel
theorem dX8_rests_227 : decode cX8_rests 227 = .ok (.iadd, 1) := by decide +kernel
theorem dX8_rests_228 : decode cX8_rests 228 = .ok (.imul, 1) := by decide +kernel
theorem dX8_rests_229 : decode cX8_rests 229 = .ok (.iaload, 1) := by decide +kernel
theorem dX8_rests_230 : decode cX8_rests 230 = .ok (.aload_n 0, 1) := by decide +kernel
theorem dX8_rests_231 : decode cX8_rests 231 = .ok (.getfield 53, 3) := by decide +kernel
theorem dX8_rests_234 : decode cX8_rests 234 = .ok (.iconst 2, 1) := by decide +kernel
theorem dX8_rests_235 : decode cX8_rests 235 = .ok (.iload 5, 2) := by decide +kernel
theorem dX8_rests_237 : decode cX8_rests 237 = .ok (.imul, 1) := by decide +kernel
theorem dX8_rests_238 : decode cX8_rests 238 = .ok (.iaload, 1) := by decide +kernel
theorem dX8_rests_239 : decode cX8_rests 239 = .ok (.if_icmp .gt 40, 3) := by decide +kernel
theorem dX8_rests_242 : decode cX8_rests 242 = .ok (.aload_n 0, 1) := by decide +kernel
theorem dX8_rests_243 : decode cX8_rests 243 = .ok (.getfield 53, 3) := by decide +kernel
theorem dX8_rests_246 : decode cX8_rests 246 = .ok (.iconst 2, 1) := by decide +kernel
theorem dX8_rests_247 : decode cX8_rests 247 = .ok (.iload 5, 2) := by decide +kernel
theorem dX8_rests_249 : decode cX8_rests 249 = .ok (.iload 5, 2) := by decide +kernel
theorem dX8_rests_251 : decode cX8_rests 251 = .ok (.iconst 3, 1) := by decide +kernel
theorem dX8_rests_252 : decode cX8_rests 252 = .ok (.irem, 1) := by decide +kernel
theorem dX8_rests_253 : decode cX8_rests 253 = .ok (.isub, 1) := by decide +kernel
theorem dX8_rests_254 : decode cX8_rests 254 = .ok (.iload 7, 2) := by decide +kernel
theorem dX8_rests_256 : decode cX8_rests 256 = .ok (.iadd, 1) := by decide +kernel
theorem dX8_rests_257 : decode cX8_rests 257 = .ok (.imul, 1) := by decide +kernel
theorem dX8_rests_258 : decode cX8_rests 258 = .ok (.iconst 1, 1) := by decide +kernel
theorem dX8_rests_259 : decode cX8_rests 259 = .ok (.iadd, 1) := by decide +kernel
theorem dX8_rests_260 : decode cX8_rests 260 = .ok (.iaload, 1) := by decide +kernel
theorem dX8_rests_261 : decode cX8_rests 261 = .ok (.aload_n 0, 1) := by decide +kernel
theorem dX8_rests_262 : decode cX8_rests 262 = .ok (.getfield 53, 3) := by decide +kernel
theorem dX8_rests_265 : decode cX8_rests 265 = .ok (.iconst 2, 1) := by decide +kernel
theorem dX8_rests_266 : decode cX8_rests 266 = .ok (.iload 5, 2) := by decide +kernel
theorem dX8_rests_268 : decode cX8_rests 268 = .ok (.imul, 1) := by decide +kernel
theorem dX8_rests_269 : decode cX8_rests 269 = .ok (.iconst 1, 1) := by decide +kernel
theorem dX8_rests_270 : decode cX8_rests 270 = .ok (.iadd, 1) := by decide +kernel
theorem dX8_rests_271 : decode cX8_rests 271 = .ok (.iaload, 1) := by decide +kernel
theorem dX8_rests_272 : decode cX8_rests 272 = .ok (.if_icmp .gt 7, 3) := by decide +kernel
theorem dX8_rests_275 : decode cX8_rests 275 = .ok (.iconst 1, 1) := by decide +kernel
theorem dX8_rests_276 : decode cX8_rests 276 = .ok (.goto 4, 3) := by decide +kernel
theorem dX8_rests_279 : decode cX8_rests 279 = .ok (.iconst 0, 1) := by decide +kernel
theorem dX8_rests_280 : decode cX8_rests 280 = .ok (.istore 6, 2) := by decide +kernel
theorem dX8_rests_282 : decode cX8_rests 282 = .ok (.iinc 7 1, 3) := by decide +kernel
theorem dX8_rests_285 : decode cX8_rests 285 = .ok (.goto (-82), 3) := by decide +kernel
theorem dX8_rests_288 : decode cX8_rests 288 = .ok (.aload_n 0, 1) := by decide +kernel
theorem dX8_rests_289 : decode cX8_rests 289 = .ok (.iload 6, 2) := by decide +kernel
theorem dX8_rests_291 : decode cX8_rests 291 = .ok (.ifCond .eq 25, 3) := by decide +kernel
theorem dX8_rests_294 : decode cX8_rests 294 = .ok (.aload_n 0, 1) := by decide +kernel
theorem dX8_rests_295 : decode cX8_rests 295 = .ok (.getfield 238, 3) := by decide +kernel
theorem dX8_rests_298 : decode cX8_rests 298 = .ok (.ifCond .ne 18, 3) := by decide +kernel
theorem dX8_rests_301 : decode cX8_rests 301 = .ok (.bipush 10, 2) := by decide +kernel
theorem dX8_rests_303 : decode cX8_rests 303 = .ok (.iload 5, 2) := by decide +kernel
theorem dX8_rests_305 : decode cX8_rests 305 = .ok (.iconst 3, 1) := by decide +kernel
theorem dX8_rests_306 : decode cX8_rests 306 = .ok (.idiv, 1) := by decide +kernel
theorem dX8_rests_307 : decode cX8_rests 307 = .ok (.imul, 1) := by decide +kernel
theorem dX8_rests_308 : decode cX8_rests 308 = .ok (.iload 5, 2) := by decide +kernel
theorem dX8_rests_310 : decode cX8_rests 310 = .ok (.iconst 3, 1) := by decide +kernel
theorem dX8_rests_311 : decode cX8_rests 311 = .ok (.irem, 1) := by decide +kernel
theorem dX8_rests_312 : decode cX8_rests 312 = .ok (.iadd, 1) := by decide +kernel
theorem dX8_rests_313 : decode cX8_rests 313 = .ok (.goto 7, 3) := by decide +kernel
theorem dX8_rests_316 : decode cX8_rests 316 = .ok (.aload_n 0, 1) := by decide +kernel
theorem dX8_rests_317 : decode cX8_rests 317 = .ok (.getfield 241, 3) := by decide +kernel
theorem dX8_rests_320 : decode cX8_rests 320 = .ok (.putfield 241, 3) := by decide +kernel
theorem dX8_rests_323 : decode cX8_rests 323 = .ok (.aload_n 0, 1) := by decide +kernel
theorem dX8_rests_324 : decode cX8_rests 324 = .ok (.dup, 1) := by decide +kernel
theorem dX8_rests_325 : decode cX8_rests 325 = .ok (.getfield 238, 3) := by decide +kernel
theorem dX8_rests_328 : decode cX8_rests 328 = .ok (.iload 6, 2) := by decide +kernel
theorem dX8_rests_330 : decode cX8_rests 330 = .ok (.ifCond .eq 7, 3) := by decide +kernel
theorem dX8_rests_333 : decode cX8_rests 333 = .ok (.iconst 1, 1) := by decide +kernel
theorem dX8_rests_334 : decode cX8_rests 334 = .ok (.goto 4, 3) := by decide +kernel
theorem dX8_rests_337 : decode cX8_rests 337 = .ok (.iconst 0, 1) := by decide +kernel
theorem dX8_rests_338 : decode cX8_rests 338 = .ok (.iadd, 1) := by decide +kernel
theorem dX8_rests_339 : decode cX8_rests 339 = .ok (.putfield 238, 3) := by decide +kernel
theorem dX8_rests_342 : decode cX8_rests 342 = .ok (.iinc 5 1, 3) := by decide +kernel
theorem dX8_rests_345 : decode cX8_rests 345 = .ok (.goto (-155), 3) := by decide +kernel
theorem dX8_rests_348 : decode cX8_rests 348 = .ok (.iload_n 3, 1) := by decide +kernel
theorem dX8_rests_349 : decode cX8_rests 349 = .ok (.ifCond .ne 10, 3) := by decide +kernel
theorem dX8_rests_352 : decode cX8_rests 352 = .ok (.aload_n 0, 1) := by decide +kernel
theorem dX8_rests_353 : decode cX8_rests 353 = .ok (.getfield 238, 3) := by decide +kernel
theorem dX8_rests_356 : decode cX8_rests 356 = .ok (.goto 7, 3) := by decide +kernel
theorem dX8_rests_359 : decode cX8_rests 359 = .ok (.aload_n 0, 1) := by decide +kernel
theorem dX8_rests_360 : decode cX8_rests 360 = .ok (.getfield 241, 3) := by decide +kernel
theorem dX8_rests_363 : decode cX8_rests 363 = .ok (.ireturn, 1) := by decide +kernel
theorem dX8_fires_0 : decode cX8_fires 0 = .ok (.aload_n 0, 1) := by decide +kernel
theorem dX8_fires_1 : decode cX8_fires 1 = .ok (.iconst 0, 1) := by decide +kernel
theorem dX8_fires_2 : decode cX8_fires 2 = .ok (.putfield 60, 3) := by decide +kernel
theorem dX8_fires_5 : decode cX8_fires 5 = .ok (.aload_n 0, 1) := by decide +kernel
theorem dX8_fires_6 : decode cX8_fires 6 = .ok (.iload_n 1, 1) := by decide +kernel
theorem dX8_fires_7 : decode cX8_fires 7 = .ok (.invokevirtual 164, 3) := by decide +kernel
theorem dX8_fires_10 : decode cX8_fires 10 = .ok (.ifCond .eq 5, 3) := by decide +kernel
theorem dX8_fires_13 : decode cX8_fires 13 = .ok (.iconst (-1), 1) := by decide +kernel
theorem dX8_fires_14 : decode cX8_fires 14 = .ok (.ireturn, 1) := by decide +kernel
theorem dX8_fires_15 : decode cX8_fires 15 = .ok (.iload_n 2, 1) := by decide +kernel
theorem dX8_fires_16 : decode cX8_fires 16 = .ok (.i2l, 1) := by decide +kernel
theorem dX8_fires_17 : decode cX8_fires 17 = .ok (.lconst 0, 1) := by decide +kernel
theorem dX8_fires_18 : decode cX8_fires 18 = .ok (.ldc2_w 244, 3) := by decide +kernel
theorem dX8_fires_21 : decode cX8_fires 21 = .ok (.invokestatic 66, 3) := by decide +kernel
theorem dX8_fires_24 : decode cX8_fires 24 = .ok (.ifCond .ne 6, 3) := by decide +kernel
theorem dX8_fires_27 : decode cX8_fires 27 = .ok (.bipush (-2), 2) := by decide +kernel
theorem dX8_fires_29 : decode cX8_fires 29 = .ok (.ireturn, 1) := by decide +kernel
theorem dX8_fires_30 : decode cX8_fires 30 = .ok (.iconst 0, 1) := by decide +kernel
theorem dX8_fires_31 : decode cX8_fires 31 = .ok (.istore 4, 2) := by decide +kernel
theorem dX8_fires_33 : decode cX8_fires 33 = .ok (.iconst 0, 1) := by decide +kernel
theorem dX8_fires_34 : decode cX8_fires 34 = .ok (.istore 5, 2) := by decide +kernel
theorem dX8_fires_36 : decode cX8_fires 36 = .ok (.iload 5, 2) := by decide +kernel
theorem dX8_fires_38 : decode cX8_fires 38 = .ok (.bipush 8, 2) := by decide +kernel
theorem dX8_fires_40 : decode cX8_fires 40 = .ok (.if_icmp .ge 102, 3) := by decide +kernel
theorem dX8_fires_43 : decode cX8_fires 43 = .ok (.iconst 0, 1) := by decide +kernel
theorem dX8_fires_44 : decode cX8_fires 44 = .ok (.istore 6, 2) := by decide +kernel
theorem dX8_fires_46 : decode cX8_fires 46 = .ok (.iconst 0, 1) := by decide +kernel
theorem dX8_fires_47 : decode cX8_fires 47 = .ok (.istore 7, 2) := by decide +kernel
theorem dX8_fires_49 : decode cX8_fires 49 = .ok (.iload 7, 2) := by decide +kernel
theorem dX8_fires_51 : decode cX8_fires 51 = .ok (.iconst 3, 1) := by decide +kernel
theorem dX8_fires_52 : decode cX8_fires 52 = .ok (.if_icmp .ge 37, 3) := by decide +kernel
theorem dX8_fires_55 : decode cX8_fires 55 = .ok (.iload 6, 2) := by decide +kernel
theorem dX8_fires_57 : decode cX8_fires 57 = .ok (.iload 5, 2) := by decide +kernel
theorem dX8_fires_59 : decode cX8_fires 59 = .ok (.iload 7, 2) := by decide +kernel
theorem dX8_fires_61 : decode cX8_fires 61 = .ok (.invokestatic 97, 3) := by decide +kernel
theorem dX8_fires_64 : decode cX8_fires 64 = .ok (.ifCond .eq 7, 3) := by decide +kernel
theorem dX8_fires_67 : decode cX8_fires 67 = .ok (.iconst 0, 1) := by decide +kernel
theorem dX8_fires_68 : decode cX8_fires 68 = .ok (.goto 12, 3) := by decide +kernel
theorem dX8_fires_71 : decode cX8_fires 71 = .ok (.aload_n 0, 1) := by decide +kernel
theorem dX8_fires_72 : decode cX8_fires 72 = .ok (.getfield 31, 3) := by decide +kernel
theorem dX8_fires_75 : decode cX8_fires 75 = .ok (.iload 7, 2) := by decide +kernel
theorem dX8_fires_77 : decode cX8_fires 77 = .ok (.invokestatic 132, 3) := by decide +kernel
theorem dX8_fires_80 : decode cX8_fires 80 = .ok (.ior, 1) := by decide +kernel
theorem dX8_fires_81 : decode cX8_fires 81 = .ok (.istore 6, 2) := by decide +kernel
theorem dX8_fires_83 : decode cX8_fires 83 = .ok (.iinc 7 1, 3) := by decide +kernel
theorem dX8_fires_86 : decode cX8_fires 86 = .ok (.goto (-37), 3) := by decide +kernel
theorem dX8_fires_89 : decode cX8_fires 89 = .ok (.iload 5, 2) := by decide +kernel
theorem dX8_fires_91 : decode cX8_fires 91 = .ok (.invokestatic 112, 3) := by decide +kernel
theorem dX8_fires_94 : decode cX8_fires 94 = .ok (.istore 7, 2) := by decide +kernel
theorem dX8_fires_96 : decode cX8_fires 96 = .ok (.iload 4, 2) := by decide +kernel
theorem dX8_fires_98 : decode cX8_fires 98 = .ok (.aload_n 0, 1) := by decide +kernel
theorem dX8_fires_99 : decode cX8_fires 99 = .ok (.iload 6, 2) := by decide +kernel
theorem dX8_fires_101 : decode cX8_fires 101 = .ok (.invokevirtual 148, 3) := by decide +kernel
theorem dX8_fires_104 : decode cX8_fires 104 = .ok (.iload_n 1, 1) := by decide +kernel
theorem dX8_fires_105 : decode cX8_fires 105 = .ok (.invokestatic 97, 3) := by decide +kernel
theorem dX8_fires_108 : decode cX8_fires 108 = .ok (.ifCond .eq 24, 3) := by decide +kernel
theorem dX8_fires_111 : decode cX8_fires 111 = .ok (.iload_n 2, 1) := by decide +kernel
theorem dX8_fires_112 : decode cX8_fires 112 = .ok (.iload 7, 2) := by decide +kernel
theorem dX8_fires_114 : decode cX8_fires 114 = .ok (.invokestatic 246, 3) := by decide +kernel
theorem dX8_fires_117 : decode cX8_fires 117 = .ok (.bipush 10, 2) := by decide +kernel
theorem dX8_fires_119 : decode cX8_fires 119 = .ok (.iload_n 2, 1) := by decide +kernel
theorem dX8_fires_120 : decode cX8_fires 120 = .ok (.isub, 1) := by decide +kernel
theorem dX8_fires_121 : decode cX8_fires 121 = .ok (.iconst 3, 1) := by decide +kernel
theorem dX8_fires_122 : decode cX8_fires 122 = .ok (.iload 7, 2) := by decide +kernel
theorem dX8_fires_124 : decode cX8_fires 124 = .ok (.isub, 1) := by decide +kernel
theorem dX8_fires_125 : decode cX8_fires 125 = .ok (.invokestatic 246, 3) := by decide +kernel
theorem dX8_fires_128 : decode cX8_fires 128 = .ok (.imul, 1) := by decide +kernel
theorem dX8_fires_129 : decode cX8_fires 129 = .ok (.goto 4, 3) := by decide +kernel
theorem dX8_fires_132 : decode cX8_fires 132 = .ok (.iconst 0, 1) := by decide +kernel
theorem dX8_fires_133 : decode cX8_fires 133 = .ok (.iadd, 1) := by decide +kernel
theorem dX8_fires_134 : decode cX8_fires 134 = .ok (.istore 4, 2) := by decide +kernel
theorem dX8_fires_136 : decode cX8_fires 136 = .ok (.iinc 5 1, 3) := by decide +kernel
theorem dX8_fires_139 : decode cX8_fires 139 = .ok (.goto (-103), 3) := by decide +kernel
theorem dX8_fires_142 : decode cX8_fires 142 = .ok (.iload 4, 2) := by decide +kernel
theorem dX8_fires_144 : decode cX8_fires 144 = .ok (.bipush 10, 2) := by decide +kernel
theorem dX8_fires_146 : decode cX8_fires 146 = .ok (.iconst 3, 1) := by decide +kernel
theorem dX8_fires_147 : decode cX8_fires 147 = .ok (.invokestatic 246, 3) := by decide +kernel
theorem dX8_fires_150 : decode cX8_fires 150 = .ok (.iload_n 3, 1) := by decide +kernel
theorem dX8_fires_151 : decode cX8_fires 151 = .ok (.invokestatic 226, 3) := by decide +kernel
theorem dX8_fires_154 : decode cX8_fires 154 = .ok (.ireturn, 1) := by decide +kernel
theorem dX8_seed_0 : decode cX8_seed 0 = .ok (.aload_n 0, 1) := by decide +kernel
theorem dX8_seed_1 : decode cX8_seed 1 = .ok (.iconst 0, 1) := by decide +kernel
theorem dX8_seed_2 : decode cX8_seed 2 = .ok (.putfield 60, 3) := by decide +kernel
theorem dX8_seed_5 : decode cX8_seed 5 = .ok (.aload_n 0, 1) := by decide +kernel
theorem dX8_seed_6 : decode cX8_seed 6 = .ok (.getfield 249, 3) := by decide +kernel
theorem dX8_seed_9 : decode cX8_seed 9 = .ok (.lstore_n 3, 1) := by decide +kernel
theorem dX8_seed_10 : decode cX8_seed 10 = .ok (.aload_n 0, 1) := by decide +kernel
theorem dX8_seed_11 : decode cX8_seed 11 = .ok (.lload_n 1, 1) := by decide +kernel
theorem dX8_seed_12 : decode cX8_seed 12 = .ok (.putfield 249, 3) := by decide +kernel
theorem dX8_seed_15 : decode cX8_seed 15 = .ok (.lload_n 3, 1) := by decide +kernel
theorem dX8_seed_16 : decode cX8_seed 16 = .ok (.lreturn, 1) := by decide +kernel
theorem dX8_years_0 : decode cX8_years 0 = .ok (.aload_n 0, 1) := by decide +kernel
theorem dX8_years_1 : decode cX8_years 1 = .ok (.iconst 0, 1) := by decide +kernel
theorem dX8_years_2 : decode cX8_years 2 = .ok (.putfield 60, 3) := by decide +kernel
theorem dX8_years_5 : decode cX8_years 5 = .ok (.iload_n 1, 1) := by decide +kernel
theorem dX8_years_6 : decode cX8_years 6 = .ok (.i2l, 1) := by decide +kernel
theorem dX8_years_7 : decode cX8_years 7 = .ok (.lconst 1, 1) := by decide +kernel
theorem dX8_years_8 : decode cX8_years 8 = .ok (.ldc2_w 253, 3) := by decide +kernel
theorem dX8_years_11 : decode cX8_years 11 = .ok (.invokestatic 66, 3) := by decide +kernel
theorem dX8_years_14 : decode cX8_years 14 = .ok (.ifCond .ne 6, 3) := by decide +kernel
theorem dX8_years_17 : decode cX8_years 17 = .ok (.bipush (-2), 2) := by decide +kernel
theorem dX8_years_19 : decode cX8_years 19 = .ok (.ireturn, 1) := by decide +kernel
theorem dX8_years_20 : decode cX8_years 20 = .ok (.aload_n 0, 1) := by decide +kernel
theorem dX8_years_21 : decode cX8_years 21 = .ok (.invokevirtual 189, 3) := by decide +kernel
theorem dX8_years_24 : decode cX8_years 24 = .ok (.iconst 0, 1) := by decide +kernel
theorem dX8_years_25 : decode cX8_years 25 = .ok (.istore_n 2, 1) := by decide +kernel
theorem dX8_years_26 : decode cX8_years 26 = .ok (.iconst 0, 1) := by decide +kernel
theorem dX8_years_27 : decode cX8_years 27 = .ok (.istore_n 3, 1) := by decide +kernel
theorem dX8_years_28 : decode cX8_years 28 = .ok (.iload_n 3, 1) := by decide +kernel
theorem dX8_years_29 : decode cX8_years 29 = .ok (.iload_n 1, 1) := by decide +kernel
theorem dX8_years_30 : decode cX8_years 30 = .ok (.if_icmp .ge 112, 3) := by decide +kernel
theorem dX8_years_33 : decode cX8_years 33 = .ok (.aload_n 0, 1) := by decide +kernel
theorem dX8_years_34 : decode cX8_years 34 = .ok (.aload_n 0, 1) := by decide +kernel
theorem dX8_years_35 : decode cX8_years 35 = .ok (.getfield 249, 3) := by decide +kernel
theorem dX8_years_38 : decode cX8_years 38 = .ok (.ldc2_w 255, 3) := by decide +kernel
theorem dX8_years_41 : decode cX8_years 41 = .ok (.lmul, 1) := by decide +kernel
theorem dX8_years_42 : decode cX8_years 42 = .ok (.ldc2_w 257, 3) := by decide +kernel
theorem dX8_years_45 : decode cX8_years 45 = .ok (.ladd, 1) := by decide +kernel
theorem dX8_years_46 : decode cX8_years 46 = .ok (.putfield 249, 3) := by decide +kernel
theorem dX8_years_49 : decode cX8_years 49 = .ok (.aload_n 0, 1) := by decide +kernel
theorem dX8_years_50 : decode cX8_years 50 = .ok (.getfield 249, 3) := by decide +kernel
theorem dX8_years_53 : decode cX8_years 53 = .ok (.bipush 33, 2) := by decide +kernel
theorem dX8_years_55 : decode cX8_years 55 = .ok (.lushr, 1) := by decide +kernel
theorem dX8_years_56 : decode cX8_years 56 = .ok (.ldc2_w 259, 3) := by decide +kernel
theorem dX8_years_59 : decode cX8_years 59 = .ok (.lrem, 1) := by decide +kernel
theorem dX8_years_60 : decode cX8_years 60 = .ok (.l2i, 1) := by decide +kernel
theorem dX8_years_61 : decode cX8_years 61 = .ok (.istore 4, 2) := by decide +kernel
theorem dX8_years_63 : decode cX8_years 63 = .ok (.aload_n 0, 1) := by decide +kernel
theorem dX8_years_64 : decode cX8_years 64 = .ok (.iload 4, 2) := by decide +kernel
theorem dX8_years_66 : decode cX8_years 66 = .ok (.bipush 24, 2) := by decide +kernel
theorem dX8_years_68 : decode cX8_years 68 = .ok (.if_icmp .ge 21, 3) := by decide +kernel
theorem dX8_years_71 : decode cX8_years 71 = .ok (.bipush 100, 2) := by decide +kernel
theorem dX8_years_73 : decode cX8_years 73 = .ok (.bipush 10, 2) := by decide +kernel
theorem dX8_years_75 : decode cX8_years 75 = .ok (.iload 4, 2) := by decide +kernel
theorem dX8_years_77 : decode cX8_years 77 = .ok (.iconst 3, 1) := by decide +kernel
theorem dX8_years_78 : decode cX8_years 78 = .ok (.idiv, 1) := by decide +kernel
theorem dX8_years_79 : decode cX8_years 79 = .ok (.imul, 1) := by decide +kernel
theorem dX8_years_80 : decode cX8_years 80 = .ok (.iadd, 1) := by decide +kernel
theorem dX8_years_81 : decode cX8_years 81 = .ok (.iload 4, 2) := by decide +kernel
theorem dX8_years_83 : decode cX8_years 83 = .ok (.iconst 3, 1) := by decide +kernel
theorem dX8_years_84 : decode cX8_years 84 = .ok (.irem, 1) := by decide +kernel
theorem dX8_years_85 : decode cX8_years 85 = .ok (.iadd, 1) := by decide +kernel
theorem dX8_years_86 : decode cX8_years 86 = .ok (.goto 36, 3) := by decide +kernel
theorem dX8_years_89 : decode cX8_years 89 = .ok (.iload 4, 2) := by decide +kernel
theorem dX8_years_91 : decode cX8_years 91 = .ok (.bipush 27, 2) := by decide +kernel
theorem dX8_years_93 : decode cX8_years 93 = .ok (.if_icmp .ge 12, 3) := by decide +kernel
theorem dX8_years_96 : decode cX8_years 96 = .ok (.sipush 176, 3) := by decide +kernel
theorem dX8_years_99 : decode cX8_years 99 = .ok (.iload 4, 2) := by decide +kernel
theorem dX8_years_101 : decode cX8_years 101 = .ok (.iadd, 1) := by decide +kernel
theorem dX8_years_102 : decode cX8_years 102 = .ok (.goto 20, 3) := by decide +kernel
theorem dX8_years_105 : decode cX8_years 105 = .ok (.iload 4, 2) := by decide +kernel
theorem dX8_years_107 : decode cX8_years 107 = .ok (.bipush 30, 2) := by decide +kernel
theorem dX8_years_109 : decode cX8_years 109 = .ok (.if_icmp .ge 12, 3) := by decide +kernel
theorem dX8_years_112 : decode cX8_years 112 = .ok (.sipush 473, 3) := by decide +kernel
theorem dX8_years_115 : decode cX8_years 115 = .ok (.iload 4, 2) := by decide +kernel
theorem dX8_years_117 : decode cX8_years 117 = .ok (.iadd, 1) := by decide +kernel
theorem dX8_years_118 : decode cX8_years 118 = .ok (.goto 4, 3) := by decide +kernel
theorem dX8_years_121 : decode cX8_years 121 = .ok (.iconst 0, 1) := by decide +kernel
theorem dX8_years_122 : decode cX8_years 122 = .ok (.invokevirtual 216, 3) := by decide +kernel
theorem dX8_years_125 : decode cX8_years 125 = .ok (.pop, 1) := by decide +kernel
theorem dX8_years_126 : decode cX8_years 126 = .ok (.iload_n 2, 1) := by decide +kernel
theorem dX8_years_127 : decode cX8_years 127 = .ok (.aload_n 0, 1) := by decide +kernel
theorem dX8_years_128 : decode cX8_years 128 = .ok (.invokevirtual 192, 3) := by decide +kernel
theorem dX8_years_131 : decode cX8_years 131 = .ok (.invokestatic 112, 3) := by decide +kernel
theorem dX8_years_134 : decode cX8_years 134 = .ok (.iadd, 1) := by decide +kernel
theorem dX8_years_135 : decode cX8_years 135 = .ok (.istore_n 2, 1) := by decide +kernel
theorem dX8_years_136 : decode cX8_years 136 = .ok (.iinc 3 1, 3) := by decide +kernel
theorem dX8_years_139 : decode cX8_years 139 = .ok (.goto (-111), 3) := by decide +kernel
theorem dX8_years_142 : decode cX8_years 142 = .ok (.iload_n 2, 1) := by decide +kernel
theorem dX8_years_143 : decode cX8_years 143 = .ok (.ireturn, 1) := by decide +kernel
theorem dX8_keep_0 : decode cX8_keep 0 = .ok (.aload_n 0, 1) := by decide +kernel
theorem dX8_keep_1 : decode cX8_keep 1 = .ok (.iconst 0, 1) := by decide +kernel
theorem dX8_keep_2 : decode cX8_keep 2 = .ok (.putfield 60, 3) := by decide +kernel
theorem dX8_keep_5 : decode cX8_keep 5 = .ok (.iload_n 1, 1) := by decide +kernel
theorem dX8_keep_6 : decode cX8_keep 6 = .ok (.i2l, 1) := by decide +kernel
theorem dX8_keep_7 : decode cX8_keep 7 = .ok (.lconst 0, 1) := by decide +kernel
theorem dX8_keep_8 : decode cX8_keep 8 = .ok (.lconst 1, 1) := by decide +kernel
theorem dX8_keep_9 : decode cX8_keep 9 = .ok (.invokestatic 66, 3) := by decide +kernel
theorem dX8_keep_12 : decode cX8_keep 12 = .ok (.ifCond .ne 5, 3) := by decide +kernel
theorem dX8_keep_15 : decode cX8_keep 15 = .ok (.iconst (-1), 1) := by decide +kernel
theorem dX8_keep_16 : decode cX8_keep 16 = .ok (.ireturn, 1) := by decide +kernel
theorem dX8_keep_17 : decode cX8_keep 17 = .ok (.aload_n 0, 1) := by decide +kernel
theorem dX8_keep_18 : decode cX8_keep 18 = .ok (.getfield 43, 3) := by decide +kernel
theorem dX8_keep_21 : decode cX8_keep 21 = .ok (.iload_n 1, 1) := by decide +kernel
theorem dX8_keep_22 : decode cX8_keep 22 = .ok (.iconst 1, 1) := by decide +kernel
theorem dX8_keep_23 : decode cX8_keep 23 = .ok (.bastore, 1) := by decide +kernel
theorem dX8_keep_24 : decode cX8_keep 24 = .ok (.iconst 0, 1) := by decide +kernel
theorem dX8_keep_25 : decode cX8_keep 25 = .ok (.istore_n 2, 1) := by decide +kernel
theorem dX8_keep_26 : decode cX8_keep 26 = .ok (.iload_n 2, 1) := by decide +kernel
theorem dX8_keep_27 : decode cX8_keep 27 = .ok (.bipush 17, 2) := by decide +kernel
theorem dX8_keep_29 : decode cX8_keep 29 = .ok (.if_icmp .ge 26, 3) := by decide +kernel
theorem dX8_keep_32 : decode cX8_keep 32 = .ok (.aload_n 0, 1) := by decide +kernel
theorem dX8_keep_33 : decode cX8_keep 33 = .ok (.getfield 40, 3) := by decide +kernel
theorem dX8_keep_36 : decode cX8_keep 36 = .ok (.bipush 17, 2) := by decide +kernel
theorem dX8_keep_38 : decode cX8_keep 38 = .ok (.iload_n 1, 1) := by decide +kernel
theorem dX8_keep_39 : decode cX8_keep 39 = .ok (.imul, 1) := by decide +kernel
theorem dX8_keep_40 : decode cX8_keep 40 = .ok (.iload_n 2, 1) := by decide +kernel
theorem dX8_keep_41 : decode cX8_keep 41 = .ok (.iadd, 1) := by decide +kernel
theorem dX8_keep_42 : decode cX8_keep 42 = .ok (.aload_n 0, 1) := by decide +kernel
theorem dX8_keep_43 : decode cX8_keep 43 = .ok (.getfield 31, 3) := by decide +kernel
theorem dX8_keep_46 : decode cX8_keep 46 = .ok (.iload_n 2, 1) := by decide +kernel
theorem dX8_keep_47 : decode cX8_keep 47 = .ok (.iaload, 1) := by decide +kernel
theorem dX8_keep_48 : decode cX8_keep 48 = .ok (.iastore, 1) := by decide +kernel
theorem dX8_keep_49 : decode cX8_keep 49 = .ok (.iinc 2 1, 3) := by decide +kernel
theorem dX8_keep_52 : decode cX8_keep 52 = .ok (.goto (-26), 3) := by decide +kernel
theorem dX8_keep_55 : decode cX8_keep 55 = .ok (.aload_n 0, 1) := by decide +kernel
theorem dX8_keep_56 : decode cX8_keep 56 = .ok (.getfield 31, 3) := by decide +kernel
theorem dX8_keep_59 : decode cX8_keep 59 = .ok (.bipush 16, 2) := by decide +kernel
theorem dX8_keep_61 : decode cX8_keep 61 = .ok (.iaload, 1) := by decide +kernel
theorem dX8_keep_62 : decode cX8_keep 62 = .ok (.ireturn, 1) := by decide +kernel
theorem dX8_again_0 : decode cX8_again 0 = .ok (.aload_n 0, 1) := by decide +kernel
theorem dX8_again_1 : decode cX8_again 1 = .ok (.iconst 0, 1) := by decide +kernel
theorem dX8_again_2 : decode cX8_again 2 = .ok (.putfield 60, 3) := by decide +kernel
theorem dX8_again_5 : decode cX8_again 5 = .ok (.iload_n 1, 1) := by decide +kernel
theorem dX8_again_6 : decode cX8_again 6 = .ok (.i2l, 1) := by decide +kernel
theorem dX8_again_7 : decode cX8_again 7 = .ok (.lconst 0, 1) := by decide +kernel
theorem dX8_again_8 : decode cX8_again 8 = .ok (.lconst 1, 1) := by decide +kernel
theorem dX8_again_9 : decode cX8_again 9 = .ok (.invokestatic 66, 3) := by decide +kernel
theorem dX8_again_12 : decode cX8_again 12 = .ok (.ifCond .ne 5, 3) := by decide +kernel
theorem dX8_again_15 : decode cX8_again 15 = .ok (.iconst (-1), 1) := by decide +kernel
theorem dX8_again_16 : decode cX8_again 16 = .ok (.ireturn, 1) := by decide +kernel
theorem dX8_again_17 : decode cX8_again 17 = .ok (.aload_n 0, 1) := by decide +kernel
theorem dX8_again_18 : decode cX8_again 18 = .ok (.getfield 43, 3) := by decide +kernel
theorem dX8_again_21 : decode cX8_again 21 = .ok (.iload_n 1, 1) := by decide +kernel
theorem dX8_again_22 : decode cX8_again 22 = .ok (.baload, 1) := by decide +kernel
theorem dX8_again_23 : decode cX8_again 23 = .ok (.ifCond .ne 6, 3) := by decide +kernel
theorem dX8_again_26 : decode cX8_again 26 = .ok (.bipush (-3), 2) := by decide +kernel
theorem dX8_again_28 : decode cX8_again 28 = .ok (.ireturn, 1) := by decide +kernel
theorem dX8_again_29 : decode cX8_again 29 = .ok (.iconst 0, 1) := by decide +kernel
theorem dX8_again_30 : decode cX8_again 30 = .ok (.istore_n 2, 1) := by decide +kernel
theorem dX8_again_31 : decode cX8_again 31 = .ok (.iload_n 2, 1) := by decide +kernel
theorem dX8_again_32 : decode cX8_again 32 = .ok (.bipush 17, 2) := by decide +kernel
theorem dX8_again_34 : decode cX8_again 34 = .ok (.if_icmp .ge 26, 3) := by decide +kernel
theorem dX8_again_37 : decode cX8_again 37 = .ok (.aload_n 0, 1) := by decide +kernel
theorem dX8_again_38 : decode cX8_again 38 = .ok (.getfield 31, 3) := by decide +kernel
theorem dX8_again_41 : decode cX8_again 41 = .ok (.iload_n 2, 1) := by decide +kernel
theorem dX8_again_42 : decode cX8_again 42 = .ok (.aload_n 0, 1) := by decide +kernel
theorem dX8_again_43 : decode cX8_again 43 = .ok (.getfield 40, 3) := by decide +kernel
theorem dX8_again_46 : decode cX8_again 46 = .ok (.bipush 17, 2) := by decide +kernel
theorem dX8_again_48 : decode cX8_again 48 = .ok (.iload_n 1, 1) := by decide +kernel
theorem dX8_again_49 : decode cX8_again 49 = .ok (.imul, 1) := by decide +kernel
theorem dX8_again_50 : decode cX8_again 50 = .ok (.iload_n 2, 1) := by decide +kernel
theorem dX8_again_51 : decode cX8_again 51 = .ok (.iadd, 1) := by decide +kernel
theorem dX8_again_52 : decode cX8_again 52 = .ok (.iaload, 1) := by decide +kernel
theorem dX8_again_53 : decode cX8_again 53 = .ok (.iastore, 1) := by decide +kernel
theorem dX8_again_54 : decode cX8_again 54 = .ok (.iinc 2 1, 3) := by decide +kernel
theorem dX8_again_57 : decode cX8_again 57 = .ok (.goto (-26), 3) := by decide +kernel
theorem dX8_again_60 : decode cX8_again 60 = .ok (.aload_n 0, 1) := by decide +kernel
theorem dX8_again_61 : decode cX8_again 61 = .ok (.iconst 0, 1) := by decide +kernel
theorem dX8_again_62 : decode cX8_again 62 = .ok (.putfield 129, 3) := by decide +kernel
theorem dX8_again_65 : decode cX8_again 65 = .ok (.aload_n 0, 1) := by decide +kernel
theorem dX8_again_66 : decode cX8_again 66 = .ok (.getfield 31, 3) := by decide +kernel
theorem dX8_again_69 : decode cX8_again 69 = .ok (.bipush 16, 2) := by decide +kernel
theorem dX8_again_71 : decode cX8_again 71 = .ok (.iaload, 1) := by decide +kernel
theorem dX8_again_72 : decode cX8_again 72 = .ok (.ireturn, 1) := by decide +kernel
