theorem dX0_init_0 : decode cX0_init 0 = .ok (.aload_n 0, 1) := by decide +kernel
theorem dX0_init_1 : decode cX0_init 1 = .ok (.invokespecial 3, 3) := by decide +kernel
theorem dX0_init_4 : decode cX0_init 4 = .ok (.aload_n 0, 1) := by decide +kernel
theorem dX0_init_5 : decode cX0_init 5 = .ok (.bipush 14, 2) := by decide +kernel
theorem dX0_init_7 : decode cX0_init 7 = .ok (.newarray .long, 2) := by decide +kernel
theorem dX0_init_9 : decode cX0_init 9 = .ok (.putfield 9, 3) := by decide +kernel
theorem dX0_init_12 : decode cX0_init 12 = .ok (.return_, 1) := by decide +kernel
theorem dX0_append_0 : decode cX0_append 0 = .ok (.aload_n 0, 1) := by decide +kernel
theorem dX0_append_1 : decode cX0_append 1 = .ok (.getfield 15, 3) := by decide +kernel
theorem dX0_append_4 : decode cX0_append 4 = .ok (.aload_n 0, 1) := by decide +kernel
theorem dX0_append_5 : decode cX0_append 5 = .ok (.getfield 9, 3) := by decide +kernel
theorem dX0_append_8 : decode cX0_append 8 = .ok (.arraylength, 1) := by decide +kernel
theorem dX0_append_9 : decode cX0_append 9 = .ok (.if_icmp .lt 7, 3) := by decide +kernel
theorem dX0_append_12 : decode cX0_append 12 = .ok (.aload_n 0, 1) := by decide +kernel
theorem dX0_append_13 : decode cX0_append 13 = .ok (.invokevirtual 19, 3) := by decide +kernel
theorem dX0_append_16 : decode cX0_append 16 = .ok (.aload_n 0, 1) := by decide +kernel
theorem dX0_append_17 : decode cX0_append 17 = .ok (.getfield 9, 3) := by decide +kernel
theorem dX0_append_20 : decode cX0_append 20 = .ok (.aload_n 0, 1) := by decide +kernel
theorem dX0_append_21 : decode cX0_append 21 = .ok (.getfield 15, 3) := by decide +kernel
theorem dX0_append_24 : decode cX0_append 24 = .ok (.lload_n 1, 1) := by decide +kernel
theorem dX0_append_25 : decode cX0_append 25 = .ok (.lastore, 1) := by decide +kernel
theorem dX0_append_26 : decode cX0_append 26 = .ok (.aload_n 0, 1) := by decide +kernel
theorem dX0_append_27 : decode cX0_append 27 = .ok (.dup, 1) := by decide +kernel
theorem dX0_append_28 : decode cX0_append 28 = .ok (.getfield 15, 3) := by decide +kernel
theorem dX0_append_31 : decode cX0_append 31 = .ok (.iconst 1, 1) := by decide +kernel
theorem dX0_append_32 : decode cX0_append 32 = .ok (.iadd, 1) := by decide +kernel
theorem dX0_append_33 : decode cX0_append 33 = .ok (.putfield 15, 3) := by decide +kernel
theorem dX0_append_36 : decode cX0_append 36 = .ok (.return_, 1) := by decide +kernel
theorem dX0_removeFirst_0 : decode cX0_removeFirst 0 = .ok (.iconst 1, 1) := by decide +kernel
theorem dX0_removeFirst_1 : decode cX0_removeFirst 1 = .ok (.istore_n 1, 1) := by decide +kernel
theorem dX0_removeFirst_2 : decode cX0_removeFirst 2 = .ok (.iload_n 1, 1) := by decide +kernel
theorem dX0_removeFirst_3 : decode cX0_removeFirst 3 = .ok (.aload_n 0, 1) := by decide +kernel
theorem dX0_removeFirst_4 : decode cX0_removeFirst 4 = .ok (.getfield 9, 3) := by decide +kernel
theorem dX0_removeFirst_7 : decode cX0_removeFirst 7 = .ok (.arraylength, 1) := by decide +kernel
theorem dX0_removeFirst_8 : decode cX0_removeFirst 8 = .ok (.if_icmp .ge 23, 3) := by decide +kernel
theorem dX0_removeFirst_11 : decode cX0_removeFirst 11 = .ok (.aload_n 0, 1) := by decide +kernel
theorem dX0_removeFirst_12 : decode cX0_removeFirst 12 = .ok (.getfield 9, 3) := by decide +kernel
theorem dX0_removeFirst_15 : decode cX0_removeFirst 15 = .ok (.iload_n 1, 1) := by decide +kernel
theorem dX0_removeFirst_16 : decode cX0_removeFirst 16 = .ok (.iconst 1, 1) := by decide +kernel
theorem dX0_removeFirst_17 : decode cX0_removeFirst 17 = .ok (.isub, 1) := by decide +kernel
theorem dX0_removeFirst_18 : decode cX0_removeFirst 18 = .ok (.aload_n 0, 1) := by decide +kernel
theorem dX0_removeFirst_19 : decode cX0_removeFirst 19 = .ok (.getfield 9, 3) := by decide +kernel
theorem dX0_removeFirst_22 : decode cX0_removeFirst 22 = .ok (.iload_n 1, 1) := by decide +kernel
theorem dX0_removeFirst_23 : decode cX0_removeFirst 23 = .ok (.laload, 1) := by decide +kernel
theorem dX0_removeFirst_24 : decode cX0_removeFirst 24 = .ok (.lastore, 1) := by decide +kernel
theorem dX0_removeFirst_25 : decode cX0_removeFirst 25 = .ok (.iinc 1 1, 3) := by decide +kernel
theorem dX0_removeFirst_28 : decode cX0_removeFirst 28 = .ok (.goto (-26), 3) := by decide +kernel
theorem dX0_removeFirst_31 : decode cX0_removeFirst 31 = .ok (.aload_n 0, 1) := by decide +kernel
theorem dX0_removeFirst_32 : decode cX0_removeFirst 32 = .ok (.aload_n 0, 1) := by decide +kernel
theorem dX0_removeFirst_33 : decode cX0_removeFirst 33 = .ok (.getfield 9, 3) := by decide +kernel
theorem dX0_removeFirst_36 : decode cX0_removeFirst 36 = .ok (.arraylength, 1) := by decide +kernel
theorem dX0_removeFirst_37 : decode cX0_removeFirst 37 = .ok (.iconst 1, 1) := by decide +kernel
theorem dX0_removeFirst_38 : decode cX0_removeFirst 38 = .ok (.isub, 1) := by decide +kernel
theorem dX0_removeFirst_39 : decode cX0_removeFirst 39 = .ok (.putfield 15, 3) := by decide +kernel
theorem dX0_removeFirst_42 : decode cX0_removeFirst 42 = .ok (.return_, 1) := by decide +kernel
theorem dX0_removeLast_0 : decode cX0_removeLast 0 = .ok (.aload_n 0, 1) := by decide +kernel
theorem dX0_removeLast_1 : decode cX0_removeLast 1 = .ok (.getfield 15, 3) := by decide +kernel
theorem dX0_removeLast_4 : decode cX0_removeLast 4 = .ok (.ifCond .ne 5, 3) := by decide +kernel
theorem dX0_removeLast_7 : decode cX0_removeLast 7 = .ok (.lconst 0, 1) := by decide +kernel
theorem dX0_removeLast_8 : decode cX0_removeLast 8 = .ok (.lreturn, 1) := by decide +kernel
theorem dX0_removeLast_9 : decode cX0_removeLast 9 = .ok (.aload_n 0, 1) := by decide +kernel
theorem dX0_removeLast_10 : decode cX0_removeLast 10 = .ok (.dup, 1) := by decide +kernel
theorem dX0_removeLast_11 : decode cX0_removeLast 11 = .ok (.getfield 15, 3) := by decide +kernel
theorem dX0_removeLast_14 : decode cX0_removeLast 14 = .ok (.iconst 1, 1) := by decide +kernel
theorem dX0_removeLast_15 : decode cX0_removeLast 15 = .ok (.isub, 1) := by decide +kernel
theorem dX0_removeLast_16 : decode cX0_removeLast 16 = .ok (.putfield 15, 3) := by decide +kernel
theorem dX0_removeLast_19 : decode cX0_removeLast 19 = .ok (.aload_n 0, 1) := by decide +kernel
theorem dX0_removeLast_20 : decode cX0_removeLast 20 = .ok (.getfield 9, 3) := by decide +kernel
theorem dX0_removeLast_23 : decode cX0_removeLast 23 = .ok (.aload_n 0, 1) := by decide +kernel
theorem dX0_removeLast_24 : decode cX0_removeLast 24 = .ok (.getfield 15, 3) := by decide +kernel
theorem dX0_removeLast_27 : decode cX0_removeLast 27 = .ok (.laload, 1) := by decide +kernel
theorem dX0_removeLast_28 : decode cX0_removeLast 28 = .ok (.lreturn, 1) := by decide +kernel
theorem dX0_forgetAll_0 : decode cX0_forgetAll 0 = .ok (.aload_n 0, 1) := by decide +kernel
theorem dX0_forgetAll_1 : decode cX0_forgetAll 1 = .ok (.iconst 0, 1) := by decide +kernel
theorem dX0_forgetAll_2 : decode cX0_forgetAll 2 = .ok (.putfield 15, 3) := by decide +kernel
theorem dX0_forgetAll_5 : decode cX0_forgetAll 5 = .ok (.return_, 1) := by decide +kernel
theorem dX1_init_0 : decode cX1_init 0 = .ok (.aload_n 0, 1) := by decide +kernel
theorem dX1_init_1 : decode cX1_init 1 = .ok (.invokespecial 3, 3) := by decide +kernel
theorem dX1_init_4 : decode cX1_init 4 = .ok (.aload_n 0, 1) := by decide +kernel
theorem dX1_init_5 : decode cX1_init 5 = .ok (.bipush 6, 2) := by decide +kernel
theorem dX1_init_7 : decode cX1_init 7 = .ok (.newarray .int, 2) := by decide +kernel
theorem dX1_init_9 : decode cX1_init 9 = .ok (.putfield 9, 3) := by decide +kernel
theorem dX1_init_12 : decode cX1_init 12 = .ok (.aload_n 0, 1) := by decide +kernel
theorem dX1_init_13 : decode cX1_init 13 = .ok (.bipush 6, 2) := by decide +kernel
theorem dX1_init_15 : decode cX1_init 15 = .ok (.newarray .int, 2) := by decide +kernel
theorem dX1_init_17 : decode cX1_init 17 = .ok (.putfield 15, 3) := by decide +kernel
theorem dX1_init_20 : decode cX1_init 20 = .ok (.return_, 1) := by decide +kernel
theorem dX1_append_0 : decode cX1_append 0 = .ok (.aload_n 0, 1) := by decide +kernel
theorem dX1_append_1 : decode cX1_append 1 = .ok (.getfield 18, 3) := by decide +kernel
theorem dX1_append_4 : decode cX1_append 4 = .ok (.aload_n 0, 1) := by decide +kernel
theorem dX1_append_5 : decode cX1_append 5 = .ok (.getfield 9, 3) := by decide +kernel
theorem dX1_append_8 : decode cX1_append 8 = .ok (.arraylength, 1) := by decide +kernel
theorem dX1_append_9 : decode cX1_append 9 = .ok (.if_icmp .lt 6, 3) := by decide +kernel
theorem dX1_append_12 : decode cX1_append 12 = .ok (.bipush (-4), 2) := by decide +kernel
theorem dX1_append_14 : decode cX1_append 14 = .ok (.ireturn, 1) := by decide +kernel
theorem dX1_append_15 : decode cX1_append 15 = .ok (.aload_n 0, 1) := by decide +kernel
theorem dX1_append_16 : decode cX1_append 16 = .ok (.getfield 9, 3) := by decide +kernel
theorem dX1_append_19 : decode cX1_append 19 = .ok (.aload_n 0, 1) := by decide +kernel
theorem dX1_append_20 : decode cX1_append 20 = .ok (.getfield 18, 3) := by decide +kernel
theorem dX1_append_23 : decode cX1_append 23 = .ok (.iload_n 1, 1) := by decide +kernel
theorem dX1_append_24 : decode cX1_append 24 = .ok (.iastore, 1) := by decide +kernel
theorem dX1_append_25 : decode cX1_append 25 = .ok (.aload_n 0, 1) := by decide +kernel
theorem dX1_append_26 : decode cX1_append 26 = .ok (.getfield 15, 3) := by decide +kernel
theorem dX1_append_29 : decode cX1_append 29 = .ok (.aload_n 0, 1) := by decide +kernel
theorem dX1_append_30 : decode cX1_append 30 = .ok (.getfield 18, 3) := by decide +kernel
theorem dX1_append_33 : decode cX1_append 33 = .ok (.iload_n 2, 1) := by decide +kernel
theorem dX1_append_34 : decode cX1_append 34 = .ok (.iastore, 1) := by decide +kernel
theorem dX1_append_35 : decode cX1_append 35 = .ok (.aload_n 0, 1) := by decide +kernel
theorem dX1_append_36 : decode cX1_append 36 = .ok (.dup, 1) := by decide +kernel
theorem dX1_append_37 : decode cX1_append 37 = .ok (.getfield 18, 3) := by decide +kernel
theorem dX1_append_40 : decode cX1_append 40 = .ok (.iconst 1, 1) := by decide +kernel
theorem dX1_append_41 : decode cX1_append 41 = .ok (.iadd, 1) := by decide +kernel
theorem dX1_append_42 : decode cX1_append 42 = .ok (.putfield 18, 3) := by decide +kernel
theorem dX1_append_45 : decode cX1_append 45 = .ok (.aload_n 0, 1) := by decide +kernel
theorem dX1_append_46 : decode cX1_append 46 = .ok (.getfield 18, 3) := by decide +kernel
theorem dX1_append_49 : decode cX1_append 49 = .ok (.ireturn, 1) := by decide +kernel
theorem dX1_clear_0 : decode cX1_clear 0 = .ok (.aload_n 0, 1) := by decide +kernel
theorem dX1_clear_1 : decode cX1_clear 1 = .ok (.getfield 18, 3) := by decide +kernel
theorem dX1_clear_4 : decode cX1_clear 4 = .ok (.istore_n 1, 1) := by decide +kernel
theorem dX1_clear_5 : decode cX1_clear 5 = .ok (.aload_n 0, 1) := by decide +kernel
theorem dX1_clear_6 : decode cX1_clear 6 = .ok (.iconst 0, 1) := by decide +kernel
theorem dX1_clear_7 : decode cX1_clear 7 = .ok (.putfield 18, 3) := by decide +kernel
theorem dX1_clear_10 : decode cX1_clear 10 = .ok (.iload_n 1, 1) := by decide +kernel
theorem dX1_clear_11 : decode cX1_clear 11 = .ok (.ireturn, 1) := by decide +kernel
theorem dX1_allKeptBy_0 : decode cX1_allKeptBy 0 = .ok (.aload_n 1, 1) := by decide +kernel
theorem dX1_allKeptBy_1 : decode cX1_allKeptBy 1 = .ok (.iload_n 2, 1) := by decide +kernel
theorem dX1_allKeptBy_2 : decode cX1_allKeptBy 2 = .ok (.invokevirtual 22, 3) := by decide +kernel
theorem dX1_allKeptBy_5 : decode cX1_allKeptBy 5 = .ok (.istore_n 3, 1) := by decide +kernel
theorem dX1_allKeptBy_6 : decode cX1_allKeptBy 6 = .ok (.iconst 0, 1) := by decide +kernel
theorem dX1_allKeptBy_7 : decode cX1_allKeptBy 7 = .ok (.istore 4, 2) := by decide +kernel
theorem dX1_allKeptBy_9 : decode cX1_allKeptBy 9 = .ok (.iload 4, 2) := by decide +kernel
theorem dX1_allKeptBy_11 : decode cX1_allKeptBy 11 = .ok (.aload_n 0, 1) := by decide +kernel
theorem dX1_allKeptBy_12 : decode cX1_allKeptBy 12 = .ok (.getfield 18, 3) := by decide +kernel
theorem dX1_allKeptBy_15 : decode cX1_allKeptBy 15 = .ok (.if_icmp .ge 46, 3) := by decide +kernel
theorem dX1_allKeptBy_18 : decode cX1_allKeptBy 18 = .ok (.aload_n 1, 1) := by decide +kernel
theorem dX1_allKeptBy_19 : decode cX1_allKeptBy 19 = .ok (.aload_n 0, 1) := by decide +kernel
theorem dX1_allKeptBy_20 : decode cX1_allKeptBy 20 = .ok (.getfield 9, 3) := by decide +kernel
theorem dX1_allKeptBy_23 : decode cX1_allKeptBy 23 = .ok (.iload 4, 2) := by decide +kernel
theorem dX1_allKeptBy_25 : decode cX1_allKeptBy 25 = .ok (.iaload, 1) := by decide +kernel
theorem dX1_allKeptBy_26 : decode cX1_allKeptBy 26 = .ok (.invokevirtual 28, 3) := by decide +kernel
theorem dX1_allKeptBy_29 : decode cX1_allKeptBy 29 = .ok (.ifCond .eq 26, 3) := by decide +kernel
theorem dX1_allKeptBy_32 : decode cX1_allKeptBy 32 = .ok (.iload_n 3, 1) := by decide +kernel
theorem dX1_allKeptBy_33 : decode cX1_allKeptBy 33 = .ok (.aload_n 0, 1) := by decide +kernel
theorem dX1_allKeptBy_34 : decode cX1_allKeptBy 34 = .ok (.getfield 9, 3) := by decide +kernel
theorem dX1_allKeptBy_37 : decode cX1_allKeptBy 37 = .ok (.iload 4, 2) := by decide +kernel
theorem dX1_allKeptBy_39 : decode cX1_allKeptBy 39 = .ok (.iaload, 1) := by decide +kernel
theorem dX1_allKeptBy_40 : decode cX1_allKeptBy 40 = .ok (.ishr, 1) := by decide +kernel
theorem dX1_allKeptBy_41 : decode cX1_allKeptBy 41 = .ok (.iconst 1, 1) := by decide +kernel
theorem dX1_allKeptBy_42 : decode cX1_allKeptBy 42 = .ok (.iand, 1) := by decide +kernel
theorem dX1_allKeptBy_43 : decode cX1_allKeptBy 43 = .ok (.aload_n 0, 1) := by decide +kernel
theorem dX1_allKeptBy_44 : decode cX1_allKeptBy 44 = .ok (.getfield 15, 3) := by decide +kernel
theorem dX1_allKeptBy_47 : decode cX1_allKeptBy 47 = .ok (.iload 4, 2) := by decide +kernel
theorem dX1_allKeptBy_49 : decode cX1_allKeptBy 49 = .ok (.iaload, 1) := by decide +kernel
theorem dX1_allKeptBy_50 : decode cX1_allKeptBy 50 = .ok (.if_icmp .eq 5, 3) := by decide +kernel
theorem dX1_allKeptBy_53 : decode cX1_allKeptBy 53 = .ok (.iconst 0, 1) := by decide +kernel
theorem dX1_allKeptBy_54 : decode cX1_allKeptBy 54 = .ok (.ireturn, 1) := by decide +kernel
theorem dX1_allKeptBy_55 : decode cX1_allKeptBy 55 = .ok (.iinc 4 1, 3) := by decide +kernel
theorem dX1_allKeptBy_58 : decode cX1_allKeptBy 58 = .ok (.goto (-49), 3) := by decide +kernel
theorem dX1_allKeptBy_61 : decode cX1_allKeptBy 61 = .ok (.iconst 1, 1) := by decide +kernel
theorem dX1_allKeptBy_62 : decode cX1_allKeptBy 62 = .ok (.ireturn, 1) := by decide +kernel
theorem dX2_init_0 : decode cX2_init 0 = .ok (.aload_n 0, 1) := by decide +kernel
theorem dX2_init_1 : decode cX2_init 1 = .ok (.invokespecial 3, 3) := by decide +kernel
theorem dX2_init_4 : decode cX2_init 4 = .ok (.aload_n 0, 1) := by decide +kernel
theorem dX2_init_5 : decode cX2_init 5 = .ok (.new 9, 3) := by decide +kernel
theorem dX2_init_8 : decode cX2_init 8 = .ok (.dup, 1) := by decide +kernel
theorem dX2_init_9 : decode cX2_init 9 = .ok (.invokespecial 11, 3) := by decide +kernel
theorem dX2_init_12 : decode cX2_init 12 = .ok (.putfield 12, 3) := by decide +kernel
theorem dX2_init_15 : decode cX2_init 15 = .ok (.aload_n 0, 1) := by decide +kernel
theorem dX2_init_16 : decode cX2_init 16 = .ok (.new 18, 3) := by decide +kernel
theorem dX2_init_19 : decode cX2_init 19 = .ok (.dup, 1) := by decide +kernel
theorem dX2_init_20 : decode cX2_init 20 = .ok (.invokespecial 20, 3) := by decide +kernel
theorem dX2_init_23 : decode cX2_init 23 = .ok (.putfield 21, 3) := by decide +kernel
theorem dX2_init_26 : decode cX2_init 26 = .ok (.return_, 1) := by decide +kernel
theorem dX2_faultOf_0 : decode cX2_faultOf 0 = .ok (.aload_n 0, 1) := by decide +kernel
theorem dX2_faultOf_1 : decode cX2_faultOf 1 = .ok (.getfield 12, 3) := by decide +kernel
theorem dX2_faultOf_4 : decode cX2_faultOf 4 = .ok (.invokevirtual 25, 3) := by decide +kernel
theorem dX2_faultOf_7 : decode cX2_faultOf 7 = .ok (.aload_n 0, 1) := by decide +kernel
theorem dX2_faultOf_8 : decode cX2_faultOf 8 = .ok (.getfield 21, 3) := by decide +kernel
theorem dX2_faultOf_11 : decode cX2_faultOf 11 = .ok (.invokevirtual 28, 3) := by decide +kernel
theorem dX2_faultOf_14 : decode cX2_faultOf 14 = .ok (.aload_n 0, 1) := by decide +kernel
theorem dX2_faultOf_15 : decode cX2_faultOf 15 = .ok (.iconst 0, 1) := by decide +kernel
theorem dX2_faultOf_16 : decode cX2_faultOf 16 = .ok (.putfield 31, 3) := by decide +kernel
theorem dX2_faultOf_19 : decode cX2_faultOf 19 = .ok (.iconst 0, 1) := by decide +kernel
theorem dX2_faultOf_20 : decode cX2_faultOf 20 = .ok (.istore_n 2, 1) := by decide +kernel
theorem dX2_faultOf_21 : decode cX2_faultOf 21 = .ok (.iload_n 2, 1) := by decide +kernel
theorem dX2_faultOf_22 : decode cX2_faultOf 22 = .ok (.aload_n 1, 1) := by decide +kernel
theorem dX2_faultOf_23 : decode cX2_faultOf 23 = .ok (.getfield 35, 3) := by decide +kernel
theorem dX2_faultOf_26 : decode cX2_faultOf 26 = .ok (.if_icmp .ge 23, 3) := by decide +kernel
theorem dX2_faultOf_29 : decode cX2_faultOf 29 = .ok (.aload_n 0, 1) := by decide +kernel
theorem dX2_faultOf_30 : decode cX2_faultOf 30 = .ok (.aload_n 1, 1) := by decide +kernel
theorem dX2_faultOf_31 : decode cX2_faultOf 31 = .ok (.iload_n 2, 1) := by decide +kernel
theorem dX2_faultOf_32 : decode cX2_faultOf 32 = .ok (.invokevirtual 40, 3) := by decide +kernel
theorem dX2_faultOf_35 : decode cX2_faultOf 35 = .ok (.invokevirtual 44, 3) := by decide +kernel
theorem dX2_faultOf_38 : decode cX2_faultOf 38 = .ok (.ifCond .ne 5, 3) := by decide +kernel
theorem dX2_faultOf_41 : decode cX2_faultOf 41 = .ok (.iload_n 2, 1) := by decide +kernel
theorem dX2_faultOf_42 : decode cX2_faultOf 42 = .ok (.ireturn, 1) := by decide +kernel
theorem dX2_faultOf_43 : decode cX2_faultOf 43 = .ok (.iinc 2 1, 3) := by decide +kernel
theorem dX2_faultOf_46 : decode cX2_faultOf 46 = .ok (.goto (-25), 3) := by decide +kernel
theorem dX2_faultOf_49 : decode cX2_faultOf 49 = .ok (.aload_n 0, 1) := by decide +kernel
theorem dX2_faultOf_50 : decode cX2_faultOf 50 = .ok (.getfield 31, 3) := by decide +kernel
theorem dX2_faultOf_53 : decode cX2_faultOf 53 = .ok (.iconst 1, 1) := by decide +kernel
theorem dX2_faultOf_54 : decode cX2_faultOf 54 = .ok (.if_icmp .ne 8, 3) := by decide +kernel
theorem dX2_faultOf_57 : decode cX2_faultOf 57 = .ok (.bipush (-9), 2) := by decide +kernel
theorem dX2_faultOf_59 : decode cX2_faultOf 59 = .ok (.goto 7, 3) := by decide +kernel
theorem dX2_faultOf_62 : decode cX2_faultOf 62 = .ok (.aload_n 1, 1) := by decide +kernel
theorem dX2_faultOf_63 : decode cX2_faultOf 63 = .ok (.getfield 35, 3) := by decide +kernel
theorem dX2_faultOf_66 : decode cX2_faultOf 66 = .ok (.ireturn, 1) := by decide +kernel
theorem dX2_reads_0 : decode cX2_reads 0 = .ok (.aload_n 0, 1) := by decide +kernel
theorem dX2_reads_1 : decode cX2_reads 1 = .ok (.getfield 31, 3) := by decide +kernel
theorem dX2_reads_4 : decode cX2_reads 4 = .ok (.tableswitch 66 0 4 #[36, 42, 48, 54, 60], 36) := by decide +kernel
theorem dX2_reads_40 : decode cX2_reads 40 = .ok (.aload_n 0, 1) := by decide +kernel
theorem dX2_reads_41 : decode cX2_reads 41 = .ok (.iload_n 1, 1) := by decide +kernel
theorem dX2_reads_42 : decode cX2_reads 42 = .ok (.invokevirtual 48, 3) := by decide +kernel
theorem dX2_reads_45 : decode cX2_reads 45 = .ok (.ireturn, 1) := by decide +kernel
theorem dX2_reads_46 : decode cX2_reads 46 = .ok (.aload_n 0, 1) := by decide +kernel
theorem dX2_reads_47 : decode cX2_reads 47 = .ok (.iload_n 1, 1) := by decide +kernel
theorem dX2_reads_48 : decode cX2_reads 48 = .ok (.invokevirtual 51, 3) := by decide +kernel
theorem dX2_reads_51 : decode cX2_reads 51 = .ok (.ireturn, 1) := by decide +kernel
theorem dX2_reads_52 : decode cX2_reads 52 = .ok (.aload_n 0, 1) := by decide +kernel
theorem dX2_reads_53 : decode cX2_reads 53 = .ok (.iload_n 1, 1) := by decide +kernel
theorem dX2_reads_54 : decode cX2_reads 54 = .ok (.invokevirtual 54, 3) := by decide +kernel
theorem dX2_reads_57 : decode cX2_reads 57 = .ok (.ireturn, 1) := by decide +kernel
theorem dX2_reads_58 : decode cX2_reads 58 = .ok (.aload_n 0, 1) := by decide +kernel
theorem dX2_reads_59 : decode cX2_reads 59 = .ok (.iload_n 1, 1) := by decide +kernel
theorem dX2_reads_60 : decode cX2_reads 60 = .ok (.invokevirtual 57, 3) := by decide +kernel
theorem dX2_reads_63 : decode cX2_reads 63 = .ok (.ireturn, 1) := by decide +kernel
theorem dX2_reads_64 : decode cX2_reads 64 = .ok (.aload_n 0, 1) := by decide +kernel
theorem dX2_reads_65 : decode cX2_reads 65 = .ok (.iload_n 1, 1) := by decide +kernel
theorem dX2_reads_66 : decode cX2_reads 66 = .ok (.invokevirtual 60, 3) := by decide +kernel
theorem dX2_reads_69 : decode cX2_reads 69 = .ok (.ireturn, 1) := by decide +kernel
theorem dX2_reads_70 : decode cX2_reads 70 = .ok (.aload_n 0, 1) := by decide +kernel
theorem dX2_reads_71 : decode cX2_reads 71 = .ok (.iload_n 1, 1) := by decide +kernel
theorem dX2_reads_72 : decode cX2_reads 72 = .ok (.invokevirtual 63, 3) := by decide +kernel
theorem dX2_reads_75 : decode cX2_reads 75 = .ok (.ireturn, 1) := by decide +kernel
theorem dX2_readsStart_0 : decode cX2_readsStart 0 = .ok (.aload_n 0, 1) := by decide +kernel
theorem dX2_readsStart_1 : decode cX2_readsStart 1 = .ok (.iconst 1, 1) := by decide +kernel
theorem dX2_readsStart_2 : decode cX2_readsStart 2 = .ok (.putfield 31, 3) := by decide +kernel
theorem dX2_readsStart_5 : decode cX2_readsStart 5 = .ok (.iload_n 1, 1) := by decide +kernel
theorem dX2_readsStart_6 : decode cX2_readsStart 6 = .ok (.bipush 82, 2) := by decide +kernel
theorem dX2_readsStart_8 : decode cX2_readsStart 8 = .ok (.if_icmp .ne 7, 3) := by decide +kernel
theorem dX2_readsStart_11 : decode cX2_readsStart 11 = .ok (.iconst 1, 1) := by decide +kernel
theorem dX2_readsStart_12 : decode cX2_readsStart 12 = .ok (.goto 4, 3) := by decide +kernel
theorem dX2_readsStart_15 : decode cX2_readsStart 15 = .ok (.iconst 0, 1) := by decide +kernel
theorem dX2_readsStart_16 : decode cX2_readsStart 16 = .ok (.ireturn, 1) := by decide +kernel
theorem dX2_readsPart_0 : decode cX2_readsPart 0 = .ok (.iload_n 1, 1) := by decide +kernel
theorem dX2_readsPart_1 : decode cX2_readsPart 1 = .ok (.bipush 83, 2) := by decide +kernel
theorem dX2_readsPart_3 : decode cX2_readsPart 3 = .ok (.if_icmp .ne 24, 3) := by decide +kernel
theorem dX2_readsPart_6 : decode cX2_readsPart 6 = .ok (.aload_n 0, 1) := by decide +kernel
theorem dX2_readsPart_7 : decode cX2_readsPart 7 = .ok (.iconst 2, 1) := by decide +kernel
theorem dX2_readsPart_8 : decode cX2_readsPart 8 = .ok (.putfield 31, 3) := by decide +kernel
theorem dX2_readsPart_11 : decode cX2_readsPart 11 = .ok (.aload_n 0, 1) := by decide +kernel
theorem dX2_readsPart_12 : decode cX2_readsPart 12 = .ok (.getfield 12, 3) := by decide +kernel
theorem dX2_readsPart_15 : decode cX2_readsPart 15 = .ok (.invokevirtual 66, 3) := by decide +kernel
theorem dX2_readsPart_18 : decode cX2_readsPart 18 = .ok (.ifCond .eq 7, 3) := by decide +kernel
theorem dX2_readsPart_21 : decode cX2_readsPart 21 = .ok (.iconst 1, 1) := by decide +kernel
theorem dX2_readsPart_22 : decode cX2_readsPart 22 = .ok (.goto 4, 3) := by decide +kernel
theorem dX2_readsPart_25 : decode cX2_readsPart 25 = .ok (.iconst 0, 1) := by decide +kernel
theorem dX2_readsPart_26 : decode cX2_readsPart 26 = .ok (.ireturn, 1) := by decide +kernel
theorem dX2_readsPart_27 : decode cX2_readsPart 27 = .ok (.aload_n 0, 1) := by decide +kernel
theorem dX2_readsPart_28 : decode cX2_readsPart 28 = .ok (.iconst 4, 1) := by decide +kernel
theorem dX2_readsPart_29 : decode cX2_readsPart 29 = .ok (.putfield 31, 3) := by decide +kernel
theorem dX2_readsPart_32 : decode cX2_readsPart 32 = .ok (.iload_n 1, 1) := by decide +kernel
theorem dX2_readsPart_33 : decode cX2_readsPart 33 = .ok (.bipush 84, 2) := by decide +kernel
theorem dX2_readsPart_35 : decode cX2_readsPart 35 = .ok (.if_icmp .ne 19, 3) := by decide +kernel
theorem dX2_readsPart_38 : decode cX2_readsPart 38 = .ok (.aload_n 0, 1) := by decide +kernel
theorem dX2_readsPart_39 : decode cX2_readsPart 39 = .ok (.getfield 21, 3) := by decide +kernel
theorem dX2_readsPart_42 : decode cX2_readsPart 42 = .ok (.getfield 70, 3) := by decide +kernel
theorem dX2_readsPart_45 : decode cX2_readsPart 45 = .ok (.bipush 6, 2) := by decide +kernel
theorem dX2_readsPart_47 : decode cX2_readsPart 47 = .ok (.if_icmp .ge 7, 3) := by decide +kernel
theorem dX2_readsPart_50 : decode cX2_readsPart 50 = .ok (.iconst 1, 1) := by decide +kernel
theorem dX2_readsPart_51 : decode cX2_readsPart 51 = .ok (.goto 4, 3) := by decide +kernel
theorem dX2_readsPart_54 : decode cX2_readsPart 54 = .ok (.iconst 0, 1) := by decide +kernel
theorem dX2_readsPart_55 : decode cX2_readsPart 55 = .ok (.ireturn, 1) := by decide +kernel
theorem dX2_readsSpike_0 : decode cX2_readsSpike 0 = .ok (.aload_n 0, 1) := by decide +kernel
theorem dX2_readsSpike_1 : decode cX2_readsSpike 1 = .ok (.iload_n 1, 1) := by decide +kernel
theorem dX2_readsSpike_2 : decode cX2_readsSpike 2 = .ok (.bipush 48, 2) := by decide +kernel
theorem dX2_readsSpike_4 : decode cX2_readsSpike 4 = .ok (.isub, 1) := by decide +kernel
theorem dX2_readsSpike_5 : decode cX2_readsSpike 5 = .ok (.putfield 71, 3) := by decide +kernel
theorem dX2_readsSpike_8 : decode cX2_readsSpike 8 = .ok (.aload_n 0, 1) := by decide +kernel
theorem dX2_readsSpike_9 : decode cX2_readsSpike 9 = .ok (.iconst 3, 1) := by decide +kernel
theorem dX2_readsSpike_10 : decode cX2_readsSpike 10 = .ok (.putfield 31, 3) := by decide +kernel
theorem dX2_readsSpike_13 : decode cX2_readsSpike 13 = .ok (.aload_n 0, 1) := by decide +kernel
theorem dX2_readsSpike_14 : decode cX2_readsSpike 14 = .ok (.getfield 71, 3) := by decide +kernel
theorem dX2_readsSpike_17 : decode cX2_readsSpike 17 = .ok (.invokestatic 74, 3) := by decide +kernel
theorem dX2_readsSpike_20 : decode cX2_readsSpike 20 = .ok (.ireturn, 1) := by decide +kernel
theorem dX2_readsSlip_0 : decode cX2_readsSlip 0 = .ok (.aload_n 0, 1) := by decide +kernel
theorem dX2_readsSlip_1 : decode cX2_readsSlip 1 = .ok (.iconst 1, 1) := by decide +kernel
theorem dX2_readsSlip_2 : decode cX2_readsSlip 2 = .ok (.putfield 31, 3) := by decide +kernel
theorem dX2_readsSlip_5 : decode cX2_readsSlip 5 = .ok (.aload_n 0, 1) := by decide +kernel
theorem dX2_readsSlip_6 : decode cX2_readsSlip 6 = .ok (.getfield 12, 3) := by decide +kernel
theorem dX2_readsSlip_9 : decode cX2_readsSlip 9 = .ok (.iload_n 1, 1) := by decide +kernel
theorem dX2_readsSlip_10 : decode cX2_readsSlip 10 = .ok (.bipush 48, 2) := by decide +kernel
theorem dX2_readsSlip_12 : decode cX2_readsSlip 12 = .ok (.isub, 1) := by decide +kernel
theorem dX2_readsSlip_13 : decode cX2_readsSlip 13 = .ok (.aload_n 0, 1) := by decide +kernel
theorem dX2_readsSlip_14 : decode cX2_readsSlip 14 = .ok (.getfield 71, 3) := by decide +kernel
theorem dX2_readsSlip_17 : decode cX2_readsSlip 17 = .ok (.invokevirtual 77, 3) := by decide +kernel
theorem dX2_readsSlip_20 : decode cX2_readsSlip 20 = .ok (.invokestatic 81, 3) := by decide +kernel
theorem dX2_readsSlip_23 : decode cX2_readsSlip 23 = .ok (.ifCond .ne 7, 3) := by decide +kernel
theorem dX2_readsSlip_26 : decode cX2_readsSlip 26 = .ok (.iconst 1, 1) := by decide +kernel
theorem dX2_readsSlip_27 : decode cX2_readsSlip 27 = .ok (.goto 4, 3) := by decide +kernel
theorem dX2_readsSlip_30 : decode cX2_readsSlip 30 = .ok (.iconst 0, 1) := by decide +kernel
theorem dX2_readsSlip_31 : decode cX2_readsSlip 31 = .ok (.ireturn, 1) := by decide +kernel
theorem dX2_readsKind_0 : decode cX2_readsKind 0 = .ok (.aload_n 0, 1) := by decide +kernel
theorem dX2_readsKind_1 : decode cX2_readsKind 1 = .ok (.iload_n 1, 1) := by decide +kernel
theorem dX2_readsKind_2 : decode cX2_readsKind 2 = .ok (.bipush 48, 2) := by decide +kernel
theorem dX2_readsKind_4 : decode cX2_readsKind 4 = .ok (.isub, 1) := by decide +kernel
theorem dX2_readsKind_5 : decode cX2_readsKind 5 = .ok (.putfield 84, 3) := by decide +kernel
theorem dX2_readsKind_8 : decode cX2_readsKind 8 = .ok (.aload_n 0, 1) := by decide +kernel
theorem dX2_readsKind_9 : decode cX2_readsKind 9 = .ok (.iconst 5, 1) := by decide +kernel
theorem dX2_readsKind_10 : decode cX2_readsKind 10 = .ok (.putfield 31, 3) := by decide +kernel
theorem dX2_readsKind_13 : decode cX2_readsKind 13 = .ok (.aload_n 0, 1) := by decide +kernel
theorem dX2_readsKind_14 : decode cX2_readsKind 14 = .ok (.getfield 84, 3) := by decide +kernel
theorem dX2_readsKind_17 : decode cX2_readsKind 17 = .ok (.ifCond .lt 15, 3) := by decide +kernel
theorem dX2_readsKind_20 : decode cX2_readsKind 20 = .ok (.aload_n 0, 1) := by decide +kernel
theorem dX2_readsKind_21 : decode cX2_readsKind 21 = .ok (.getfield 84, 3) := by decide +kernel
theorem dX2_readsKind_24 : decode cX2_readsKind 24 = .ok (.iconst 3, 1) := by decide +kernel
theorem dX2_readsKind_25 : decode cX2_readsKind 25 = .ok (.if_icmp .gt 7, 3) := by decide +kernel
theorem dX2_readsKind_28 : decode cX2_readsKind 28 = .ok (.iconst 1, 1) := by decide +kernel
theorem dX2_readsKind_29 : decode cX2_readsKind 29 = .ok (.goto 4, 3) := by decide +kernel
theorem dX2_readsKind_32 : decode cX2_readsKind 32 = .ok (.iconst 0, 1) := by decide +kernel
theorem dX2_readsKind_33 : decode cX2_readsKind 33 = .ok (.ireturn, 1) := by decide +kernel
theorem dX2_readsGround_0 : decode cX2_readsGround 0 = .ok (.aload_n 0, 1) := by decide +kernel
theorem dX2_readsGround_1 : decode cX2_readsGround 1 = .ok (.iload_n 1, 1) := by decide +kernel
theorem dX2_readsGround_2 : decode cX2_readsGround 2 = .ok (.invokevirtual 87, 3) := by decide +kernel
theorem dX2_readsGround_5 : decode cX2_readsGround 5 = .ok (.istore_n 2, 1) := by decide +kernel
theorem dX2_readsGround_6 : decode cX2_readsGround 6 = .ok (.aload_n 0, 1) := by decide +kernel
theorem dX2_readsGround_7 : decode cX2_readsGround 7 = .ok (.getfield 31, 3) := by decide +kernel
theorem dX2_readsGround_10 : decode cX2_readsGround 10 = .ok (.iconst 5, 1) := by decide +kernel
theorem dX2_readsGround_11 : decode cX2_readsGround 11 = .ok (.if_icmp .ne 17, 3) := by decide +kernel
theorem dX2_readsGround_14 : decode cX2_readsGround 14 = .ok (.aload_n 0, 1) := by decide +kernel
theorem dX2_readsGround_15 : decode cX2_readsGround 15 = .ok (.iload_n 2, 1) := by decide +kernel
theorem dX2_readsGround_16 : decode cX2_readsGround 16 = .ok (.putfield 90, 3) := by decide +kernel
theorem dX2_readsGround_19 : decode cX2_readsGround 19 = .ok (.aload_n 0, 1) := by decide +kernel
theorem dX2_readsGround_20 : decode cX2_readsGround 20 = .ok (.bipush 6, 2) := by decide +kernel
theorem dX2_readsGround_22 : decode cX2_readsGround 22 = .ok (.putfield 31, 3) := by decide +kernel
theorem dX2_readsGround_25 : decode cX2_readsGround 25 = .ok (.goto 57, 3) := by decide +kernel
theorem dX2_readsGround_28 : decode cX2_readsGround 28 = .ok (.aload_n 0, 1) := by decide +kernel
theorem dX2_readsGround_29 : decode cX2_readsGround 29 = .ok (.getfield 31, 3) := by decide +kernel
theorem dX2_readsGround_32 : decode cX2_readsGround 32 = .ok (.bipush 6, 2) := by decide +kernel
theorem dX2_readsGround_34 : decode cX2_readsGround 34 = .ok (.if_icmp .ne 17, 3) := by decide +kernel
theorem dX2_readsGround_37 : decode cX2_readsGround 37 = .ok (.aload_n 0, 1) := by decide +kernel
theorem dX2_readsGround_38 : decode cX2_readsGround 38 = .ok (.iload_n 2, 1) := by decide +kernel
theorem dX2_readsGround_39 : decode cX2_readsGround 39 = .ok (.putfield 93, 3) := by decide +kernel
theorem dX2_readsGround_42 : decode cX2_readsGround 42 = .ok (.aload_n 0, 1) := by decide +kernel
theorem dX2_readsGround_43 : decode cX2_readsGround 43 = .ok (.bipush 7, 2) := by decide +kernel
theorem dX2_readsGround_45 : decode cX2_readsGround 45 = .ok (.putfield 31, 3) := by decide +kernel
theorem dX2_readsGround_48 : decode cX2_readsGround 48 = .ok (.goto 34, 3) := by decide +kernel
theorem dX2_readsGround_51 : decode cX2_readsGround 51 = .ok (.iload_n 2, 1) := by decide +kernel
theorem dX2_readsGround_52 : decode cX2_readsGround 52 = .ok (.bipush (-9), 2) := by decide +kernel
theorem dX2_readsGround_54 : decode cX2_readsGround 54 = .ok (.if_icmp .eq 28, 3) := by decide +kernel
theorem dX2_readsGround_57 : decode cX2_readsGround 57 = .ok (.aload_n 0, 1) := by decide +kernel
theorem dX2_readsGround_58 : decode cX2_readsGround 58 = .ok (.getfield 21, 3) := by decide +kernel
theorem dX2_readsGround_61 : decode cX2_readsGround 61 = .ok (.aload_n 0, 1) := by decide +kernel
theorem dX2_readsGround_62 : decode cX2_readsGround 62 = .ok (.getfield 84, 3) := by decide +kernel
theorem dX2_readsGround_65 : decode cX2_readsGround 65 = .ok (.aload_n 0, 1) := by decide +kernel
theorem dX2_readsGround_66 : decode cX2_readsGround 66 = .ok (.getfield 90, 3) := by decide +kernel
theorem dX2_readsGround_69 : decode cX2_readsGround 69 = .ok (.aload_n 0, 1) := by decide +kernel
theorem dX2_readsGround_70 : decode cX2_readsGround 70 = .ok (.getfield 93, 3) := by decide +kernel
theorem dX2_readsGround_73 : decode cX2_readsGround 73 = .ok (.iload_n 2, 1) := by decide +kernel
theorem dX2_readsGround_74 : decode cX2_readsGround 74 = .ok (.invokevirtual 96, 3) := by decide +kernel
theorem dX2_readsGround_77 : decode cX2_readsGround 77 = .ok (.aload_n 0, 1) := by decide +kernel
theorem dX2_readsGround_78 : decode cX2_readsGround 78 = .ok (.iconst 1, 1) := by decide +kernel
theorem dX2_readsGround_79 : decode cX2_readsGround 79 = .ok (.putfield 31, 3) := by decide +kernel
theorem dX2_readsGround_82 : decode cX2_readsGround 82 = .ok (.iload_n 2, 1) := by decide +kernel
theorem dX2_readsGround_83 : decode cX2_readsGround 83 = .ok (.bipush (-9), 2) := by decide +kernel
theorem dX2_readsGround_85 : decode cX2_readsGround 85 = .ok (.if_icmp .eq 7, 3) := by decide +kernel
theorem dX2_readsGround_88 : decode cX2_readsGround 88 = .ok (.iconst 1, 1) := by decide +kernel
theorem dX2_readsGround_89 : decode cX2_readsGround 89 = .ok (.goto 4, 3) := by decide +kernel
theorem dX2_readsGround_92 : decode cX2_readsGround 92 = .ok (.iconst 0, 1) := by decide +kernel
theorem dX2_readsGround_93 : decode cX2_readsGround 93 = .ok (.ireturn, 1) := by decide +kernel
theorem dX2_groundTold_0 : decode cX2_groundTold 0 = .ok (.iload_n 1, 1) := by decide +kernel
theorem dX2_groundTold_1 : decode cX2_groundTold 1 = .ok (.bipush 48, 2) := by decide +kernel
theorem dX2_groundTold_3 : decode cX2_groundTold 3 = .ok (.isub, 1) := by decide +kernel
theorem dX2_groundTold_4 : decode cX2_groundTold 4 = .ok (.invokestatic 100, 3) := by decide +kernel
theorem dX2_groundTold_7 : decode cX2_groundTold 7 = .ok (.ifCond .eq 8, 3) := by decide +kernel
theorem dX2_groundTold_10 : decode cX2_groundTold 10 = .ok (.iload_n 1, 1) := by decide +kernel
theorem dX2_groundTold_11 : decode cX2_groundTold 11 = .ok (.bipush 48, 2) := by decide +kernel
theorem dX2_groundTold_13 : decode cX2_groundTold 13 = .ok (.isub, 1) := by decide +kernel
theorem dX2_groundTold_14 : decode cX2_groundTold 14 = .ok (.ireturn, 1) := by decide +kernel
theorem dX2_groundTold_15 : decode cX2_groundTold 15 = .ok (.aload_n 0, 1) := by decide +kernel
theorem dX2_groundTold_16 : decode cX2_groundTold 16 = .ok (.getfield 21, 3) := by decide +kernel
theorem dX2_groundTold_19 : decode cX2_groundTold 19 = .ok (.iload_n 1, 1) := by decide +kernel
theorem dX2_groundTold_20 : decode cX2_groundTold 20 = .ok (.bipush 65, 2) := by decide +kernel
theorem dX2_groundTold_22 : decode cX2_groundTold 22 = .ok (.isub, 1) := by decide +kernel
theorem dX2_groundTold_23 : decode cX2_groundTold 23 = .ok (.invokevirtual 103, 3) := by decide +kernel
theorem dX2_groundTold_26 : decode cX2_groundTold 26 = .ok (.ifCond .eq 11, 3) := by decide +kernel
theorem dX2_groundTold_29 : decode cX2_groundTold 29 = .ok (.bipush 10, 2) := by decide +kernel
theorem dX2_groundTold_31 : decode cX2_groundTold 31 = .ok (.iload_n 1, 1) := by decide +kernel
theorem dX2_groundTold_32 : decode cX2_groundTold 32 = .ok (.iadd, 1) := by decide +kernel
theorem dX2_groundTold_33 : decode cX2_groundTold 33 = .ok (.bipush 65, 2) := by decide +kernel
theorem dX2_groundTold_35 : decode cX2_groundTold 35 = .ok (.isub, 1) := by decide +kernel
theorem dX2_groundTold_36 : decode cX2_groundTold 36 = .ok (.ireturn, 1) := by decide +kernel
theorem dX2_groundTold_37 : decode cX2_groundTold 37 = .ok (.bipush (-9), 2) := by decide +kernel
theorem dX2_groundTold_39 : decode cX2_groundTold 39 = .ok (.ireturn, 1) := by decide +kernel
theorem dX3_init_0 : decode cX3_init 0 = .ok (.aload_n 0, 1) := by decide +kernel
theorem dX3_init_1 : decode cX3_init 1 = .ok (.invokespecial 3, 3) := by decide +kernel
theorem dX3_init_4 : decode cX3_init 4 = .ok (.aload_n 0, 1) := by decide +kernel
theorem dX3_init_5 : decode cX3_init 5 = .ok (.iconst 2, 1) := by decide +kernel
theorem dX3_init_6 : decode cX3_init 6 = .ok (.newarray .long, 2) := by decide +kernel
theorem dX3_init_8 : decode cX3_init 8 = .ok (.putfield 9, 3) := by decide +kernel
theorem dX3_init_11 : decode cX3_init 11 = .ok (.aload_n 0, 1) := by decide +kernel
theorem dX3_init_12 : decode cX3_init 12 = .ok (.iconst 2, 1) := by decide +kernel
theorem dX3_init_13 : decode cX3_init 13 = .ok (.newarray .boolean, 2) := by decide +kernel
theorem dX3_init_15 : decode cX3_init 15 = .ok (.putfield 15, 3) := by decide +kernel
theorem dX3_init_18 : decode cX3_init 18 = .ok (.return_, 1) := by decide +kernel
theorem dX3_store_0 : decode cX3_store 0 = .ok (.iload_n 1, 1) := by decide +kernel
theorem dX3_store_1 : decode cX3_store 1 = .ok (.invokestatic 19, 3) := by decide +kernel
theorem dX3_store_4 : decode cX3_store 4 = .ok (.ifCond .eq 17, 3) := by decide +kernel
theorem dX3_store_7 : decode cX3_store 7 = .ok (.aload_n 0, 1) := by decide +kernel
theorem dX3_store_8 : decode cX3_store 8 = .ok (.getfield 9, 3) := by decide +kernel
theorem dX3_store_11 : decode cX3_store 11 = .ok (.iload_n 1, 1) := by decide +kernel
theorem dX3_store_12 : decode cX3_store 12 = .ok (.lload_n 2, 1) := by decide +kernel
theorem dX3_store_13 : decode cX3_store 13 = .ok (.lastore, 1) := by decide +kernel
theorem dX3_store_14 : decode cX3_store 14 = .ok (.aload_n 0, 1) := by decide +kernel
theorem dX3_store_15 : decode cX3_store 15 = .ok (.getfield 15, 3) := by decide +kernel
theorem dX3_store_18 : decode cX3_store 18 = .ok (.iload_n 1, 1) := by decide +kernel
theorem dX3_store_19 : decode cX3_store 19 = .ok (.iconst 1, 1) := by decide +kernel
theorem dX3_store_20 : decode cX3_store 20 = .ok (.bastore, 1) := by decide +kernel
theorem dX3_store_21 : decode cX3_store 21 = .ok (.return_, 1) := by decide +kernel
theorem dX3_isFull_0 : decode cX3_isFull 0 = .ok (.iload_n 1, 1) := by decide +kernel
theorem dX3_isFull_1 : decode cX3_isFull 1 = .ok (.invokestatic 19, 3) := by decide +kernel
theorem dX3_isFull_4 : decode cX3_isFull 4 = .ok (.ifCond .eq 16, 3) := by decide +kernel
theorem dX3_isFull_7 : decode cX3_isFull 7 = .ok (.aload_n 0, 1) := by decide +kernel
theorem dX3_isFull_8 : decode cX3_isFull 8 = .ok (.getfield 15, 3) := by decide +kernel
theorem dX3_isFull_11 : decode cX3_isFull 11 = .ok (.iload_n 1, 1) := by decide +kernel
theorem dX3_isFull_12 : decode cX3_isFull 12 = .ok (.baload, 1) := by decide +kernel
theorem dX3_isFull_13 : decode cX3_isFull 13 = .ok (.ifCond .eq 7, 3) := by decide +kernel
theorem dX3_isFull_16 : decode cX3_isFull 16 = .ok (.iconst 1, 1) := by decide +kernel
theorem dX3_isFull_17 : decode cX3_isFull 17 = .ok (.goto 4, 3) := by decide +kernel
theorem dX3_isFull_20 : decode cX3_isFull 20 = .ok (.iconst 0, 1) := by decide +kernel
theorem dX3_isFull_21 : decode cX3_isFull 21 = .ok (.ireturn, 1) := by decide +kernel
theorem dX3_stored_0 : decode cX3_stored 0 = .ok (.iload_n 1, 1) := by decide +kernel
theorem dX3_stored_1 : decode cX3_stored 1 = .ok (.invokestatic 19, 3) := by decide +kernel
theorem dX3_stored_4 : decode cX3_stored 4 = .ok (.ifCond .eq 12, 3) := by decide +kernel
theorem dX3_stored_7 : decode cX3_stored 7 = .ok (.aload_n 0, 1) := by decide +kernel
theorem dX3_stored_8 : decode cX3_stored 8 = .ok (.getfield 9, 3) := by decide +kernel
theorem dX3_stored_11 : decode cX3_stored 11 = .ok (.iload_n 1, 1) := by decide +kernel
theorem dX3_stored_12 : decode cX3_stored 12 = .ok (.laload, 1) := by decide +kernel
theorem dX3_stored_13 : decode cX3_stored 13 = .ok (.goto 4, 3) := by decide +kernel
theorem dX3_stored_16 : decode cX3_stored 16 = .ok (.lconst 0, 1) := by decide +kernel
theorem dX3_stored_17 : decode cX3_stored 17 = .ok (.lreturn, 1) := by decide +kernel
theorem dX3_forgetAll_0 : decode cX3_forgetAll 0 = .ok (.iconst 0, 1) := by decide +kernel
theorem dX3_forgetAll_1 : decode cX3_forgetAll 1 = .ok (.istore_n 1, 1) := by decide +kernel
theorem dX3_forgetAll_2 : decode cX3_forgetAll 2 = .ok (.iload_n 1, 1) := by decide +kernel
theorem dX3_forgetAll_3 : decode cX3_forgetAll 3 = .ok (.iconst 2, 1) := by decide +kernel
theorem dX3_forgetAll_4 : decode cX3_forgetAll 4 = .ok (.if_icmp .ge 16, 3) := by decide +kernel
theorem dX3_forgetAll_7 : decode cX3_forgetAll 7 = .ok (.aload_n 0, 1) := by decide +kernel
theorem dX3_forgetAll_8 : decode cX3_forgetAll 8 = .ok (.getfield 15, 3) := by decide +kernel
theorem dX3_forgetAll_11 : decode cX3_forgetAll 11 = .ok (.iload_n 1, 1) := by decide +kernel
theorem dX3_forgetAll_12 : decode cX3_forgetAll 12 = .ok (.iconst 0, 1) := by decide +kernel
theorem dX3_forgetAll_13 : decode cX3_forgetAll 13 = .ok (.bastore, 1) := by decide +kernel
theorem dX3_forgetAll_14 : decode cX3_forgetAll 14 = .ok (.iinc 1 1, 3) := by decide +kernel
theorem dX3_forgetAll_17 : decode cX3_forgetAll 17 = .ok (.goto (-15), 3) := by decide +kernel
theorem dX3_forgetAll_20 : decode cX3_forgetAll 20 = .ok (.return_, 1) := by decide +kernel
theorem dX4_init_0 : decode cX4_init 0 = .ok (.aload_n 0, 1) := by decide +kernel
theorem dX4_init_1 : decode cX4_init 1 = .ok (.invokespecial 5, 3) := by decide +kernel
theorem dX4_init_4 : decode cX4_init 4 = .ok (.aload_n 0, 1) := by decide +kernel
theorem dX4_init_5 : decode cX4_init 5 = .ok (.bipush 8, 2) := by decide +kernel
theorem dX4_init_7 : decode cX4_init 7 = .ok (.newarray .int, 2) := by decide +kernel
theorem dX4_init_9 : decode cX4_init 9 = .ok (.putfield 11, 3) := by decide +kernel
theorem dX4_init_12 : decode cX4_init 12 = .ok (.aload_n 0, 1) := by decide +kernel
theorem dX4_init_13 : decode cX4_init 13 = .ok (.invokevirtual 15, 3) := by decide +kernel
theorem dX4_init_16 : decode cX4_init 16 = .ok (.return_, 1) := by decide +kernel
theorem dX4_allInHand_0 : decode cX4_allInHand 0 = .ok (.iconst 0, 1) := by decide +kernel
theorem dX4_allInHand_1 : decode cX4_allInHand 1 = .ok (.istore_n 1, 1) := by decide +kernel
theorem dX4_allInHand_2 : decode cX4_allInHand 2 = .ok (.iload_n 1, 1) := by decide +kernel
theorem dX4_allInHand_3 : decode cX4_allInHand 3 = .ok (.bipush 8, 2) := by decide +kernel
theorem dX4_allInHand_5 : decode cX4_allInHand 5 = .ok (.if_icmp .ge 17, 3) := by decide +kernel
theorem dX4_allInHand_8 : decode cX4_allInHand 8 = .ok (.aload_n 0, 1) := by decide +kernel
theorem dX4_allInHand_9 : decode cX4_allInHand 9 = .ok (.getfield 11, 3) := by decide +kernel
theorem dX4_allInHand_12 : decode cX4_allInHand 12 = .ok (.iload_n 1, 1) := by decide +kernel
theorem dX4_allInHand_13 : decode cX4_allInHand 13 = .ok (.bipush 24, 2) := by decide +kernel
theorem dX4_allInHand_15 : decode cX4_allInHand 15 = .ok (.iastore, 1) := by decide +kernel
theorem dX4_allInHand_16 : decode cX4_allInHand 16 = .ok (.iinc 1 1, 3) := by decide +kernel
theorem dX4_allInHand_19 : decode cX4_allInHand 19 = .ok (.goto (-17), 3) := by decide +kernel
theorem dX4_allInHand_22 : decode cX4_allInHand 22 = .ok (.aload_n 0, 1) := by decide +kernel
theorem dX4_allInHand_23 : decode cX4_allInHand 23 = .ok (.iconst 0, 1) := by decide +kernel
theorem dX4_allInHand_24 : decode cX4_allInHand 24 = .ok (.putfield 18, 3) := by decide +kernel
theorem dX4_allInHand_27 : decode cX4_allInHand 27 = .ok (.return_, 1) := by decide +kernel
theorem dX4_copyFrom_0 : decode cX4_copyFrom 0 = .ok (.iconst 0, 1) := by decide +kernel
theorem dX4_copyFrom_1 : decode cX4_copyFrom 1 = .ok (.istore_n 2, 1) := by decide +kernel
theorem dX4_copyFrom_2 : decode cX4_copyFrom 2 = .ok (.iload_n 2, 1) := by decide +kernel
theorem dX4_copyFrom_3 : decode cX4_copyFrom 3 = .ok (.bipush 8, 2) := by decide +kernel
theorem dX4_copyFrom_5 : decode cX4_copyFrom 5 = .ok (.if_icmp .ge 21, 3) := by decide +kernel
theorem dX4_copyFrom_8 : decode cX4_copyFrom 8 = .ok (.aload_n 0, 1) := by decide +kernel
theorem dX4_copyFrom_9 : decode cX4_copyFrom 9 = .ok (.getfield 11, 3) := by decide +kernel
theorem dX4_copyFrom_12 : decode cX4_copyFrom 12 = .ok (.iload_n 2, 1) := by decide +kernel
theorem dX4_copyFrom_13 : decode cX4_copyFrom 13 = .ok (.aload_n 1, 1) := by decide +kernel
theorem dX4_copyFrom_14 : decode cX4_copyFrom 14 = .ok (.getfield 11, 3) := by decide +kernel
theorem dX4_copyFrom_17 : decode cX4_copyFrom 17 = .ok (.iload_n 2, 1) := by decide +kernel
theorem dX4_copyFrom_18 : decode cX4_copyFrom 18 = .ok (.iaload, 1) := by decide +kernel
theorem dX4_copyFrom_19 : decode cX4_copyFrom 19 = .ok (.iastore, 1) := by decide +kernel
theorem dX4_copyFrom_20 : decode cX4_copyFrom 20 = .ok (.iinc 2 1, 3) := by decide +kernel
theorem dX4_copyFrom_23 : decode cX4_copyFrom 23 = .ok (.goto (-21), 3) := by decide +kernel
theorem dX4_copyFrom_26 : decode cX4_copyFrom 26 = .ok (.aload_n 0, 1) := by decide +kernel
theorem dX4_copyFrom_27 : decode cX4_copyFrom 27 = .ok (.aload_n 1, 1) := by decide +kernel
theorem dX4_copyFrom_28 : decode cX4_copyFrom 28 = .ok (.getfield 18, 3) := by decide +kernel
theorem dX4_copyFrom_31 : decode cX4_copyFrom 31 = .ok (.putfield 18, 3) := by decide +kernel
theorem dX4_copyFrom_34 : decode cX4_copyFrom 34 = .ok (.return_, 1) := by decide +kernel
theorem dX4_packed_0 : decode cX4_packed 0 = .ok (.aload_n 0, 1) := by decide +kernel
theorem dX4_packed_1 : decode cX4_packed 1 = .ok (.getfield 18, 3) := by decide +kernel
theorem dX4_packed_4 : decode cX4_packed 4 = .ok (.i2l, 1) := by decide +kernel
theorem dX4_packed_5 : decode cX4_packed 5 = .ok (.lstore_n 1, 1) := by decide +kernel
theorem dX4_packed_6 : decode cX4_packed 6 = .ok (.iconst 0, 1) := by decide +kernel
theorem dX4_packed_7 : decode cX4_packed 7 = .ok (.istore_n 3, 1) := by decide +kernel
theorem dX4_packed_8 : decode cX4_packed 8 = .ok (.iload_n 3, 1) := by decide +kernel
theorem dX4_packed_9 : decode cX4_packed 9 = .ok (.bipush 8, 2) := by decide +kernel
theorem dX4_packed_11 : decode cX4_packed 11 = .ok (.if_icmp .ge 21, 3) := by decide +kernel
theorem dX4_packed_14 : decode cX4_packed 14 = .ok (.lload_n 1, 1) := by decide +kernel
theorem dX4_packed_15 : decode cX4_packed 15 = .ok (.iconst 5, 1) := by decide +kernel
theorem dX4_packed_16 : decode cX4_packed 16 = .ok (.lshl, 1) := by decide +kernel
theorem dX4_packed_17 : decode cX4_packed 17 = .ok (.aload_n 0, 1) := by decide +kernel
theorem dX4_packed_18 : decode cX4_packed 18 = .ok (.getfield 11, 3) := by decide +kernel
theorem dX4_packed_21 : decode cX4_packed 21 = .ok (.iload_n 3, 1) := by decide +kernel
theorem dX4_packed_22 : decode cX4_packed 22 = .ok (.iaload, 1) := by decide +kernel
theorem dX4_packed_23 : decode cX4_packed 23 = .ok (.i2l, 1) := by decide +kernel
theorem dX4_packed_24 : decode cX4_packed 24 = .ok (.lor, 1) := by decide +kernel
theorem dX4_packed_25 : decode cX4_packed 25 = .ok (.lstore_n 1, 1) := by decide +kernel
theorem dX4_packed_26 : decode cX4_packed 26 = .ok (.iinc 3 1, 3) := by decide +kernel
theorem dX4_packed_29 : decode cX4_packed 29 = .ok (.goto (-21), 3) := by decide +kernel
theorem dX4_packed_32 : decode cX4_packed 32 = .ok (.lload_n 1, 1) := by decide +kernel
theorem dX4_packed_33 : decode cX4_packed 33 = .ok (.lreturn, 1) := by decide +kernel
theorem dX4_unpack_0 : decode cX4_unpack 0 = .ok (.lload_n 1, 1) := by decide +kernel
theorem dX4_unpack_1 : decode cX4_unpack 1 = .ok (.lstore_n 3, 1) := by decide +kernel
theorem dX4_unpack_2 : decode cX4_unpack 2 = .ok (.bipush 7, 2) := by decide +kernel
theorem dX4_unpack_4 : decode cX4_unpack 4 = .ok (.istore 5, 2) := by decide +kernel
theorem dX4_unpack_6 : decode cX4_unpack 6 = .ok (.iload 5, 2) := by decide +kernel
theorem dX4_unpack_8 : decode cX4_unpack 8 = .ok (.ifCond .lt 25, 3) := by decide +kernel
theorem dX4_unpack_11 : decode cX4_unpack 11 = .ok (.aload_n 0, 1) := by decide +kernel
theorem dX4_unpack_12 : decode cX4_unpack 12 = .ok (.getfield 11, 3) := by decide +kernel
theorem dX4_unpack_15 : decode cX4_unpack 15 = .ok (.iload 5, 2) := by decide +kernel
theorem dX4_unpack_17 : decode cX4_unpack 17 = .ok (.lload_n 3, 1) := by decide +kernel
theorem dX4_unpack_18 : decode cX4_unpack 18 = .ok (.l2i, 1) := by decide +kernel
theorem dX4_unpack_19 : decode cX4_unpack 19 = .ok (.bipush 31, 2) := by decide +kernel
theorem dX4_unpack_21 : decode cX4_unpack 21 = .ok (.iand, 1) := by decide +kernel
theorem dX4_unpack_22 : decode cX4_unpack 22 = .ok (.iastore, 1) := by decide +kernel
theorem dX4_unpack_23 : decode cX4_unpack 23 = .ok (.lload_n 3, 1) := by decide +kernel
theorem dX4_unpack_24 : decode cX4_unpack 24 = .ok (.iconst 5, 1) := by decide +kernel
theorem dX4_unpack_25 : decode cX4_unpack 25 = .ok (.lshr, 1) := by decide +kernel
theorem dX4_unpack_26 : decode cX4_unpack 26 = .ok (.lstore_n 3, 1) := by decide +kernel
theorem dX4_unpack_27 : decode cX4_unpack 27 = .ok (.iinc 5 (-1), 3) := by decide +kernel
theorem dX4_unpack_30 : decode cX4_unpack 30 = .ok (.goto (-24), 3) := by decide +kernel
theorem dX4_unpack_33 : decode cX4_unpack 33 = .ok (.aload_n 0, 1) := by decide +kernel
theorem dX4_unpack_34 : decode cX4_unpack 34 = .ok (.lload_n 3, 1) := by decide +kernel
theorem dX4_unpack_35 : decode cX4_unpack 35 = .ok (.l2i, 1) := by decide +kernel
theorem dX4_unpack_36 : decode cX4_unpack 36 = .ok (.putfield 18, 3) := by decide +kernel
theorem dX4_unpack_39 : decode cX4_unpack 39 = .ok (.return_, 1) := by decide +kernel
theorem dX4_onSpikes_0 : decode cX4_onSpikes 0 = .ok (.aload_n 0, 1) := by decide +kernel
theorem dX4_onSpikes_1 : decode cX4_onSpikes 1 = .ok (.iconst 0, 1) := by decide +kernel
theorem dX4_onSpikes_2 : decode cX4_onSpikes 2 = .ok (.bipush 24, 2) := by decide +kernel
theorem dX4_onSpikes_4 : decode cX4_onSpikes 4 = .ok (.invokevirtual 22, 3) := by decide +kernel
theorem dX4_onSpikes_7 : decode cX4_onSpikes 7 = .ok (.ireturn, 1) := by decide +kernel
theorem dX4_inHand_0 : decode cX4_inHand 0 = .ok (.aload_n 0, 1) := by decide +kernel
theorem dX4_inHand_1 : decode cX4_inHand 1 = .ok (.bipush 24, 2) := by decide +kernel
theorem dX4_inHand_3 : decode cX4_inHand 3 = .ok (.iconst 1, 1) := by decide +kernel
theorem dX4_inHand_4 : decode cX4_inHand 4 = .ok (.invokevirtual 22, 3) := by decide +kernel
theorem dX4_inHand_7 : decode cX4_inHand 7 = .ok (.ireturn, 1) := by decide +kernel
theorem dX4_gone_0 : decode cX4_gone 0 = .ok (.aload_n 0, 1) := by decide +kernel
theorem dX4_gone_1 : decode cX4_gone 1 = .ok (.bipush 25, 2) := by decide +kernel
theorem dX4_gone_3 : decode cX4_gone 3 = .ok (.iconst 1, 1) := by decide +kernel
theorem dX4_gone_4 : decode cX4_gone 4 = .ok (.invokevirtual 22, 3) := by decide +kernel
theorem dX4_gone_7 : decode cX4_gone 7 = .ok (.ireturn, 1) := by decide +kernel
theorem dX4_slipsOn_0 : decode cX4_slipsOn 0 = .ok (.aload_n 0, 1) := by decide +kernel
theorem dX4_slipsOn_1 : decode cX4_slipsOn 1 = .ok (.iload_n 1, 1) := by decide +kernel
theorem dX4_slipsOn_2 : decode cX4_slipsOn 2 = .ok (.bipush 8, 2) := by decide +kernel
theorem dX4_slipsOn_4 : decode cX4_slipsOn 4 = .ok (.imul, 1) := by decide +kernel
theorem dX4_slipsOn_5 : decode cX4_slipsOn 5 = .ok (.bipush 8, 2) := by decide +kernel
theorem dX4_slipsOn_7 : decode cX4_slipsOn 7 = .ok (.invokevirtual 22, 3) := by decide +kernel
theorem dX4_slipsOn_10 : decode cX4_slipsOn 10 = .ok (.ireturn, 1) := by decide +kernel
theorem dX4_slipsFrom_0 : decode cX4_slipsFrom 0 = .ok (.iconst 0, 1) := by decide +kernel
theorem dX4_slipsFrom_1 : decode cX4_slipsFrom 1 = .ok (.istore_n 3, 1) := by decide +kernel
theorem dX4_slipsFrom_2 : decode cX4_slipsFrom 2 = .ok (.iconst 0, 1) := by decide +kernel
theorem dX4_slipsFrom_3 : decode cX4_slipsFrom 3 = .ok (.istore 4, 2) := by decide +kernel
theorem dX4_slipsFrom_5 : decode cX4_slipsFrom 5 = .ok (.iload 4, 2) := by decide +kernel
theorem dX4_slipsFrom_7 : decode cX4_slipsFrom 7 = .ok (.bipush 8, 2) := by decide +kernel
theorem dX4_slipsFrom_9 : decode cX4_slipsFrom 9 = .ok (.if_icmp .ge 40, 3) := by decide +kernel
theorem dX4_slipsFrom_12 : decode cX4_slipsFrom 12 = .ok (.aload_n 0, 1) := by decide +kernel
theorem dX4_slipsFrom_13 : decode cX4_slipsFrom 13 = .ok (.getfield 11, 3) := by decide +kernel
theorem dX4_slipsFrom_16 : decode cX4_slipsFrom 16 = .ok (.iload 4, 2) := by decide +kernel
theorem dX4_slipsFrom_18 : decode cX4_slipsFrom 18 = .ok (.iaload, 1) := by decide +kernel
theorem dX4_slipsFrom_19 : decode cX4_slipsFrom 19 = .ok (.iload_n 1, 1) := by decide +kernel
theorem dX4_slipsFrom_20 : decode cX4_slipsFrom 20 = .ok (.if_icmp .lt 23, 3) := by decide +kernel
theorem dX4_slipsFrom_23 : decode cX4_slipsFrom 23 = .ok (.aload_n 0, 1) := by decide +kernel
theorem dX4_slipsFrom_24 : decode cX4_slipsFrom 24 = .ok (.getfield 11, 3) := by decide +kernel
theorem dX4_slipsFrom_27 : decode cX4_slipsFrom 27 = .ok (.iload 4, 2) := by decide +kernel
theorem dX4_slipsFrom_29 : decode cX4_slipsFrom 29 = .ok (.iaload, 1) := by decide +kernel
theorem dX4_slipsFrom_30 : decode cX4_slipsFrom 30 = .ok (.iload_n 1, 1) := by decide +kernel
theorem dX4_slipsFrom_31 : decode cX4_slipsFrom 31 = .ok (.iload_n 2, 1) := by decide +kernel
theorem dX4_slipsFrom_32 : decode cX4_slipsFrom 32 = .ok (.iadd, 1) := by decide +kernel
theorem dX4_slipsFrom_33 : decode cX4_slipsFrom 33 = .ok (.if_icmp .ge 10, 3) := by decide +kernel
theorem dX4_slipsFrom_36 : decode cX4_slipsFrom 36 = .ok (.iload_n 3, 1) := by decide +kernel
theorem dX4_slipsFrom_37 : decode cX4_slipsFrom 37 = .ok (.iconst 1, 1) := by decide +kernel
theorem dX4_slipsFrom_38 : decode cX4_slipsFrom 38 = .ok (.iload 4, 2) := by decide +kernel
theorem dX4_slipsFrom_40 : decode cX4_slipsFrom 40 = .ok (.ishl, 1) := by decide +kernel
theorem dX4_slipsFrom_41 : decode cX4_slipsFrom 41 = .ok (.ior, 1) := by decide +kernel
theorem dX4_slipsFrom_42 : decode cX4_slipsFrom 42 = .ok (.istore_n 3, 1) := by decide +kernel
theorem dX4_slipsFrom_43 : decode cX4_slipsFrom 43 = .ok (.iinc 4 1, 3) := by decide +kernel
theorem dX4_slipsFrom_46 : decode cX4_slipsFrom 46 = .ok (.goto (-41), 3) := by decide +kernel
theorem dX4_slipsFrom_49 : decode cX4_slipsFrom 49 = .ok (.iload_n 3, 1) := by decide +kernel
theorem dX4_slipsFrom_50 : decode cX4_slipsFrom 50 = .ok (.ireturn, 1) := by decide +kernel
theorem dX4_countOn_0 : decode cX4_countOn 0 = .ok (.aload_n 0, 1) := by decide +kernel
theorem dX4_countOn_1 : decode cX4_countOn 1 = .ok (.iload_n 1, 1) := by decide +kernel
theorem dX4_countOn_2 : decode cX4_countOn 2 = .ok (.bipush 8, 2) := by decide +kernel
theorem dX4_countOn_4 : decode cX4_countOn 4 = .ok (.imul, 1) := by decide +kernel
theorem dX4_countOn_5 : decode cX4_countOn 5 = .ok (.bipush 8, 2) := by decide +kernel
theorem dX4_countOn_7 : decode cX4_countOn 7 = .ok (.invokevirtual 22, 3) := by decide +kernel
theorem dX4_countOn_10 : decode cX4_countOn 10 = .ok (.invokestatic 26, 3) := by decide +kernel
theorem dX4_countOn_13 : decode cX4_countOn 13 = .ok (.ireturn, 1) := by decide +kernel
theorem dX4_isInHand_0 : decode cX4_isInHand 0 = .ok (.iload_n 1, 1) := by decide +kernel
theorem dX4_isInHand_1 : decode cX4_isInHand 1 = .ok (.invokestatic 32, 3) := by decide +kernel
theorem dX4_isInHand_4 : decode cX4_isInHand 4 = .ok (.ifCond .eq 18, 3) := by decide +kernel
theorem dX4_isInHand_7 : decode cX4_isInHand 7 = .ok (.aload_n 0, 1) := by decide +kernel
theorem dX4_isInHand_8 : decode cX4_isInHand 8 = .ok (.getfield 11, 3) := by decide +kernel
theorem dX4_isInHand_11 : decode cX4_isInHand 11 = .ok (.iload_n 1, 1) := by decide +kernel
theorem dX4_isInHand_12 : decode cX4_isInHand 12 = .ok (.iaload, 1) := by decide +kernel
theorem dX4_isInHand_13 : decode cX4_isInHand 13 = .ok (.bipush 24, 2) := by decide +kernel
theorem dX4_isInHand_15 : decode cX4_isInHand 15 = .ok (.if_icmp .ne 7, 3) := by decide +kernel
theorem dX4_isInHand_18 : decode cX4_isInHand 18 = .ok (.iconst 1, 1) := by decide +kernel
theorem dX4_isInHand_19 : decode cX4_isInHand 19 = .ok (.goto 4, 3) := by decide +kernel
theorem dX4_isInHand_22 : decode cX4_isInHand 22 = .ok (.iconst 0, 1) := by decide +kernel
theorem dX4_isInHand_23 : decode cX4_isInHand 23 = .ok (.ireturn, 1) := by decide +kernel
theorem dX4_spikeOf_0 : decode cX4_spikeOf 0 = .ok (.iload_n 1, 1) := by decide +kernel
theorem dX4_spikeOf_1 : decode cX4_spikeOf 1 = .ok (.invokestatic 32, 3) := by decide +kernel
theorem dX4_spikeOf_4 : decode cX4_spikeOf 4 = .ok (.ifCond .eq 26, 3) := by decide +kernel
theorem dX4_spikeOf_7 : decode cX4_spikeOf 7 = .ok (.aload_n 0, 1) := by decide +kernel
theorem dX4_spikeOf_8 : decode cX4_spikeOf 8 = .ok (.getfield 11, 3) := by decide +kernel
theorem dX4_spikeOf_11 : decode cX4_spikeOf 11 = .ok (.iload_n 1, 1) := by decide +kernel
theorem dX4_spikeOf_12 : decode cX4_spikeOf 12 = .ok (.iaload, 1) := by decide +kernel
theorem dX4_spikeOf_13 : decode cX4_spikeOf 13 = .ok (.bipush 24, 2) := by decide +kernel
theorem dX4_spikeOf_15 : decode cX4_spikeOf 15 = .ok (.if_icmp .ge 15, 3) := by decide +kernel
theorem dX4_spikeOf_18 : decode cX4_spikeOf 18 = .ok (.aload_n 0, 1) := by decide +kernel
theorem dX4_spikeOf_19 : decode cX4_spikeOf 19 = .ok (.getfield 11, 3) := by decide +kernel
theorem dX4_spikeOf_22 : decode cX4_spikeOf 22 = .ok (.iload_n 1, 1) := by decide +kernel
theorem dX4_spikeOf_23 : decode cX4_spikeOf 23 = .ok (.iaload, 1) := by decide +kernel
theorem dX4_spikeOf_24 : decode cX4_spikeOf 24 = .ok (.bipush 8, 2) := by decide +kernel
theorem dX4_spikeOf_26 : decode cX4_spikeOf 26 = .ok (.idiv, 1) := by decide +kernel
theorem dX4_spikeOf_27 : decode cX4_spikeOf 27 = .ok (.goto 5, 3) := by decide +kernel
theorem dX4_spikeOf_30 : decode cX4_spikeOf 30 = .ok (.bipush (-9), 2) := by decide +kernel
theorem dX4_spikeOf_32 : decode cX4_spikeOf 32 = .ok (.ireturn, 1) := by decide +kernel
theorem dX4_heightOf_0 : decode cX4_heightOf 0 = .ok (.iload_n 1, 1) := by decide +kernel
theorem dX4_heightOf_1 : decode cX4_heightOf 1 = .ok (.invokestatic 32, 3) := by decide +kernel
theorem dX4_heightOf_4 : decode cX4_heightOf 4 = .ok (.ifCond .eq 26, 3) := by decide +kernel
theorem dX4_heightOf_7 : decode cX4_heightOf 7 = .ok (.aload_n 0, 1) := by decide +kernel
theorem dX4_heightOf_8 : decode cX4_heightOf 8 = .ok (.getfield 11, 3) := by decide +kernel
theorem dX4_heightOf_11 : decode cX4_heightOf 11 = .ok (.iload_n 1, 1) := by decide +kernel
theorem dX4_heightOf_12 : decode cX4_heightOf 12 = .ok (.iaload, 1) := by decide +kernel
theorem dX4_heightOf_13 : decode cX4_heightOf 13 = .ok (.bipush 24, 2) := by decide +kernel
theorem dX4_heightOf_15 : decode cX4_heightOf 15 = .ok (.if_icmp .ge 15, 3) := by decide +kernel
theorem dX4_heightOf_18 : decode cX4_heightOf 18 = .ok (.aload_n 0, 1) := by decide +kernel
theorem dX4_heightOf_19 : decode cX4_heightOf 19 = .ok (.getfield 11, 3) := by decide +kernel
theorem dX4_heightOf_22 : decode cX4_heightOf 22 = .ok (.iload_n 1, 1) := by decide +kernel
theorem dX4_heightOf_23 : decode cX4_heightOf 23 = .ok (.iaload, 1) := by decide +kernel
theorem dX4_heightOf_24 : decode cX4_heightOf 24 = .ok (.bipush 8, 2) := by decide +kernel
theorem dX4_heightOf_26 : decode cX4_heightOf 26 = .ok (.irem, 1) := by decide +kernel
theorem dX4_heightOf_27 : decode cX4_heightOf 27 = .ok (.goto 5, 3) := by decide +kernel
theorem dX4_heightOf_30 : decode cX4_heightOf 30 = .ok (.bipush (-9), 2) := by decide +kernel
theorem dX4_heightOf_32 : decode cX4_heightOf 32 = .ok (.ireturn, 1) := by decide +kernel
theorem dX4_stateOf_0 : decode cX4_stateOf 0 = .ok (.aload_n 0, 1) := by decide +kernel
theorem dX4_stateOf_1 : decode cX4_stateOf 1 = .ok (.iload_n 1, 1) := by decide +kernel
theorem dX4_stateOf_2 : decode cX4_stateOf 2 = .ok (.invokevirtual 36, 3) := by decide +kernel
theorem dX4_stateOf_5 : decode cX4_stateOf 5 = .ok (.bipush (-9), 2) := by decide +kernel
theorem dX4_stateOf_7 : decode cX4_stateOf 7 = .ok (.if_icmp .eq 5, 3) := by decide +kernel
theorem dX4_stateOf_10 : decode cX4_stateOf 10 = .ok (.iconst 0, 1) := by decide +kernel
theorem dX4_stateOf_11 : decode cX4_stateOf 11 = .ok (.ireturn, 1) := by decide +kernel
theorem dX4_stateOf_12 : decode cX4_stateOf 12 = .ok (.aload_n 0, 1) := by decide +kernel
theorem dX4_stateOf_13 : decode cX4_stateOf 13 = .ok (.iload_n 1, 1) := by decide +kernel
theorem dX4_stateOf_14 : decode cX4_stateOf 14 = .ok (.invokevirtual 39, 3) := by decide +kernel
theorem dX4_stateOf_17 : decode cX4_stateOf 17 = .ok (.ifCond .eq 7, 3) := by decide +kernel
theorem dX4_stateOf_20 : decode cX4_stateOf 20 = .ok (.iconst 1, 1) := by decide +kernel
theorem dX4_stateOf_21 : decode cX4_stateOf 21 = .ok (.goto 4, 3) := by decide +kernel
theorem dX4_stateOf_24 : decode cX4_stateOf 24 = .ok (.iconst 2, 1) := by decide +kernel
theorem dX4_stateOf_25 : decode cX4_stateOf 25 = .ok (.ireturn, 1) := by decide +kernel
theorem dX4_topOf_0 : decode cX4_topOf 0 = .ok (.aload_n 0, 1) := by decide +kernel
theorem dX4_topOf_1 : decode cX4_topOf 1 = .ok (.iload_n 1, 1) := by decide +kernel
theorem dX4_topOf_2 : decode cX4_topOf 2 = .ok (.aload_n 0, 1) := by decide +kernel
theorem dX4_topOf_3 : decode cX4_topOf 3 = .ok (.iload_n 1, 1) := by decide +kernel
theorem dX4_topOf_4 : decode cX4_topOf 4 = .ok (.invokevirtual 42, 3) := by decide +kernel
theorem dX4_topOf_7 : decode cX4_topOf 7 = .ok (.iconst 1, 1) := by decide +kernel
theorem dX4_topOf_8 : decode cX4_topOf 8 = .ok (.isub, 1) := by decide +kernel
theorem dX4_topOf_9 : decode cX4_topOf 9 = .ok (.invokevirtual 45, 3) := by decide +kernel
theorem dX4_topOf_12 : decode cX4_topOf 12 = .ok (.ireturn, 1) := by decide +kernel
theorem dX4_slipAt_0 : decode cX4_slipAt 0 = .ok (.iconst 0, 1) := by decide +kernel
theorem dX4_slipAt_1 : decode cX4_slipAt 1 = .ok (.istore_n 3, 1) := by decide +kernel
theorem dX4_slipAt_2 : decode cX4_slipAt 2 = .ok (.iload_n 3, 1) := by decide +kernel
theorem dX4_slipAt_3 : decode cX4_slipAt 3 = .ok (.bipush 8, 2) := by decide +kernel
theorem dX4_slipAt_5 : decode cX4_slipAt 5 = .ok (.if_icmp .ge 29, 3) := by decide +kernel
theorem dX4_slipAt_8 : decode cX4_slipAt 8 = .ok (.aload_n 0, 1) := by decide +kernel
theorem dX4_slipAt_9 : decode cX4_slipAt 9 = .ok (.iload_n 3, 1) := by decide +kernel
theorem dX4_slipAt_10 : decode cX4_slipAt 10 = .ok (.invokevirtual 36, 3) := by decide +kernel
theorem dX4_slipAt_13 : decode cX4_slipAt 13 = .ok (.iload_n 1, 1) := by decide +kernel
theorem dX4_slipAt_14 : decode cX4_slipAt 14 = .ok (.if_icmp .ne 14, 3) := by decide +kernel
theorem dX4_slipAt_17 : decode cX4_slipAt 17 = .ok (.aload_n 0, 1) := by decide +kernel
theorem dX4_slipAt_18 : decode cX4_slipAt 18 = .ok (.iload_n 3, 1) := by decide +kernel
theorem dX4_slipAt_19 : decode cX4_slipAt 19 = .ok (.invokevirtual 48, 3) := by decide +kernel
theorem dX4_slipAt_22 : decode cX4_slipAt 22 = .ok (.iload_n 2, 1) := by decide +kernel
theorem dX4_slipAt_23 : decode cX4_slipAt 23 = .ok (.if_icmp .ne 5, 3) := by decide +kernel
theorem dX4_slipAt_26 : decode cX4_slipAt 26 = .ok (.iload_n 3, 1) := by decide +kernel
theorem dX4_slipAt_27 : decode cX4_slipAt 27 = .ok (.ireturn, 1) := by decide +kernel
theorem dX4_slipAt_28 : decode cX4_slipAt 28 = .ok (.iinc 3 1, 3) := by decide +kernel
theorem dX4_slipAt_31 : decode cX4_slipAt 31 = .ok (.goto (-29), 3) := by decide +kernel
theorem dX4_slipAt_34 : decode cX4_slipAt 34 = .ok (.bipush (-9), 2) := by decide +kernel
theorem dX4_slipAt_36 : decode cX4_slipAt 36 = .ok (.ireturn, 1) := by decide +kernel
theorem dX4_putOn_0 : decode cX4_putOn 0 = .ok (.iload_n 1, 1) := by decide +kernel
theorem dX4_putOn_1 : decode cX4_putOn 1 = .ok (.invokestatic 32, 3) := by decide +kernel
theorem dX4_putOn_4 : decode cX4_putOn 4 = .ok (.ifCond .eq 10, 3) := by decide +kernel
theorem dX4_putOn_7 : decode cX4_putOn 7 = .ok (.iload_n 2, 1) := by decide +kernel
theorem dX4_putOn_8 : decode cX4_putOn 8 = .ok (.invokestatic 51, 3) := by decide +kernel
theorem dX4_putOn_11 : decode cX4_putOn 11 = .ok (.ifCond .ne 5, 3) := by decide +kernel
theorem dX4_putOn_14 : decode cX4_putOn 14 = .ok (.iconst (-1), 1) := by decide +kernel
theorem dX4_putOn_15 : decode cX4_putOn 15 = .ok (.ireturn, 1) := by decide +kernel
theorem dX4_putOn_16 : decode cX4_putOn 16 = .ok (.aload_n 0, 1) := by decide +kernel
theorem dX4_putOn_17 : decode cX4_putOn 17 = .ok (.getfield 11, 3) := by decide +kernel
theorem dX4_putOn_20 : decode cX4_putOn 20 = .ok (.iload_n 1, 1) := by decide +kernel
theorem dX4_putOn_21 : decode cX4_putOn 21 = .ok (.iaload, 1) := by decide +kernel
theorem dX4_putOn_22 : decode cX4_putOn 22 = .ok (.bipush 24, 2) := by decide +kernel
theorem dX4_putOn_24 : decode cX4_putOn 24 = .ok (.if_icmp .eq 6, 3) := by decide +kernel
theorem dX4_putOn_27 : decode cX4_putOn 27 = .ok (.bipush (-3), 2) := by decide +kernel
theorem dX4_putOn_29 : decode cX4_putOn 29 = .ok (.ireturn, 1) := by decide +kernel
theorem dX4_putOn_30 : decode cX4_putOn 30 = .ok (.aload_n 0, 1) := by decide +kernel
theorem dX4_putOn_31 : decode cX4_putOn 31 = .ok (.iload_n 2, 1) := by decide +kernel
theorem dX4_putOn_32 : decode cX4_putOn 32 = .ok (.invokevirtual 42, 3) := by decide +kernel
theorem dX4_putOn_35 : decode cX4_putOn 35 = .ok (.istore_n 3, 1) := by decide +kernel
theorem dX4_putOn_36 : decode cX4_putOn 36 = .ok (.aload_n 0, 1) := by decide +kernel
theorem dX4_putOn_37 : decode cX4_putOn 37 = .ok (.getfield 11, 3) := by decide +kernel
theorem dX4_putOn_40 : decode cX4_putOn 40 = .ok (.iload_n 1, 1) := by decide +kernel
theorem dX4_putOn_41 : decode cX4_putOn 41 = .ok (.iload_n 2, 1) := by decide +kernel
theorem dX4_putOn_42 : decode cX4_putOn 42 = .ok (.bipush 8, 2) := by decide +kernel
theorem dX4_putOn_44 : decode cX4_putOn 44 = .ok (.imul, 1) := by decide +kernel
theorem dX4_putOn_45 : decode cX4_putOn 45 = .ok (.iload_n 3, 1) := by decide +kernel
theorem dX4_putOn_46 : decode cX4_putOn 46 = .ok (.iadd, 1) := by decide +kernel
theorem dX4_putOn_47 : decode cX4_putOn 47 = .ok (.iastore, 1) := by decide +kernel
theorem dX4_putOn_48 : decode cX4_putOn 48 = .ok (.iload_n 3, 1) := by decide +kernel
theorem dX4_putOn_49 : decode cX4_putOn 49 = .ok (.ireturn, 1) := by decide +kernel
theorem dX4_takeTop_0 : decode cX4_takeTop 0 = .ok (.iload_n 1, 1) := by decide +kernel
theorem dX4_takeTop_1 : decode cX4_takeTop 1 = .ok (.invokestatic 51, 3) := by decide +kernel
theorem dX4_takeTop_4 : decode cX4_takeTop 4 = .ok (.ifCond .ne 5, 3) := by decide +kernel
theorem dX4_takeTop_7 : decode cX4_takeTop 7 = .ok (.iconst (-1), 1) := by decide +kernel
theorem dX4_takeTop_8 : decode cX4_takeTop 8 = .ok (.ireturn, 1) := by decide +kernel
theorem dX4_takeTop_9 : decode cX4_takeTop 9 = .ok (.aload_n 0, 1) := by decide +kernel
theorem dX4_takeTop_10 : decode cX4_takeTop 10 = .ok (.iload_n 1, 1) := by decide +kernel
theorem dX4_takeTop_11 : decode cX4_takeTop 11 = .ok (.invokevirtual 54, 3) := by decide +kernel
theorem dX4_takeTop_14 : decode cX4_takeTop 14 = .ok (.istore_n 2, 1) := by decide +kernel
theorem dX4_takeTop_15 : decode cX4_takeTop 15 = .ok (.iload_n 2, 1) := by decide +kernel
theorem dX4_takeTop_16 : decode cX4_takeTop 16 = .ok (.invokestatic 32, 3) := by decide +kernel
theorem dX4_takeTop_19 : decode cX4_takeTop 19 = .ok (.ifCond .ne 6, 3) := by decide +kernel
theorem dX4_takeTop_22 : decode cX4_takeTop 22 = .ok (.bipush (-3), 2) := by decide +kernel
theorem dX4_takeTop_24 : decode cX4_takeTop 24 = .ok (.ireturn, 1) := by decide +kernel
theorem dX4_takeTop_25 : decode cX4_takeTop 25 = .ok (.aload_n 0, 1) := by decide +kernel
theorem dX4_takeTop_26 : decode cX4_takeTop 26 = .ok (.getfield 11, 3) := by decide +kernel
theorem dX4_takeTop_29 : decode cX4_takeTop 29 = .ok (.iload_n 2, 1) := by decide +kernel
theorem dX4_takeTop_30 : decode cX4_takeTop 30 = .ok (.bipush 24, 2) := by decide +kernel
theorem dX4_takeTop_32 : decode cX4_takeTop 32 = .ok (.iastore, 1) := by decide +kernel
theorem dX4_takeTop_33 : decode cX4_takeTop 33 = .ok (.iload_n 2, 1) := by decide +kernel
theorem dX4_takeTop_34 : decode cX4_takeTop 34 = .ok (.ireturn, 1) := by decide +kernel
theorem dX4_tearUp_0 : decode cX4_tearUp 0 = .ok (.iload_n 1, 1) := by decide +kernel
theorem dX4_tearUp_1 : decode cX4_tearUp 1 = .ok (.invokestatic 32, 3) := by decide +kernel
theorem dX4_tearUp_4 : decode cX4_tearUp 4 = .ok (.ifCond .ne 5, 3) := by decide +kernel
theorem dX4_tearUp_7 : decode cX4_tearUp 7 = .ok (.iconst (-1), 1) := by decide +kernel
theorem dX4_tearUp_8 : decode cX4_tearUp 8 = .ok (.ireturn, 1) := by decide +kernel
theorem dX4_tearUp_9 : decode cX4_tearUp 9 = .ok (.aload_n 0, 1) := by decide +kernel
theorem dX4_tearUp_10 : decode cX4_tearUp 10 = .ok (.getfield 11, 3) := by decide +kernel
theorem dX4_tearUp_13 : decode cX4_tearUp 13 = .ok (.iload_n 1, 1) := by decide +kernel
theorem dX4_tearUp_14 : decode cX4_tearUp 14 = .ok (.iaload, 1) := by decide +kernel
theorem dX4_tearUp_15 : decode cX4_tearUp 15 = .ok (.bipush 24, 2) := by decide +kernel
theorem dX4_tearUp_17 : decode cX4_tearUp 17 = .ok (.if_icmp .eq 6, 3) := by decide +kernel
theorem dX4_tearUp_20 : decode cX4_tearUp 20 = .ok (.bipush (-3), 2) := by decide +kernel
theorem dX4_tearUp_22 : decode cX4_tearUp 22 = .ok (.ireturn, 1) := by decide +kernel
theorem dX4_tearUp_23 : decode cX4_tearUp 23 = .ok (.aload_n 0, 1) := by decide +kernel
theorem dX4_tearUp_24 : decode cX4_tearUp 24 = .ok (.getfield 11, 3) := by decide +kernel
theorem dX4_tearUp_27 : decode cX4_tearUp 27 = .ok (.iload_n 1, 1) := by decide +kernel
theorem dX4_tearUp_28 : decode cX4_tearUp 28 = .ok (.bipush 25, 2) := by decide +kernel
theorem dX4_tearUp_30 : decode cX4_tearUp 30 = .ok (.iastore, 1) := by decide +kernel
theorem dX4_tearUp_31 : decode cX4_tearUp 31 = .ok (.aload_n 0, 1) := by decide +kernel
theorem dX4_tearUp_32 : decode cX4_tearUp 32 = .ok (.invokevirtual 57, 3) := by decide +kernel
theorem dX4_tearUp_35 : decode cX4_tearUp 35 = .ok (.invokestatic 26, 3) := by decide +kernel
theorem dX4_tearUp_38 : decode cX4_tearUp 38 = .ok (.ireturn, 1) := by decide +kernel
theorem dX4_forgeAnew_0 : decode cX4_forgeAnew 0 = .ok (.iload_n 1, 1) := by decide +kernel
theorem dX4_forgeAnew_1 : decode cX4_forgeAnew 1 = .ok (.invokestatic 32, 3) := by decide +kernel
theorem dX4_forgeAnew_4 : decode cX4_forgeAnew 4 = .ok (.ifCond .ne 5, 3) := by decide +kernel
theorem dX4_forgeAnew_7 : decode cX4_forgeAnew 7 = .ok (.iconst (-1), 1) := by decide +kernel
theorem dX4_forgeAnew_8 : decode cX4_forgeAnew 8 = .ok (.ireturn, 1) := by decide +kernel
theorem dX4_forgeAnew_9 : decode cX4_forgeAnew 9 = .ok (.aload_n 0, 1) := by decide +kernel
theorem dX4_forgeAnew_10 : decode cX4_forgeAnew 10 = .ok (.getfield 11, 3) := by decide +kernel
theorem dX4_forgeAnew_13 : decode cX4_forgeAnew 13 = .ok (.iload_n 1, 1) := by decide +kernel
theorem dX4_forgeAnew_14 : decode cX4_forgeAnew 14 = .ok (.iaload, 1) := by decide +kernel
theorem dX4_forgeAnew_15 : decode cX4_forgeAnew 15 = .ok (.bipush 25, 2) := by decide +kernel
theorem dX4_forgeAnew_17 : decode cX4_forgeAnew 17 = .ok (.if_icmp .eq 6, 3) := by decide +kernel
theorem dX4_forgeAnew_20 : decode cX4_forgeAnew 20 = .ok (.bipush (-3), 2) := by decide +kernel
theorem dX4_forgeAnew_22 : decode cX4_forgeAnew 22 = .ok (.ireturn, 1) := by decide +kernel
theorem dX4_forgeAnew_23 : decode cX4_forgeAnew 23 = .ok (.aload_n 0, 1) := by decide +kernel
theorem dX4_forgeAnew_24 : decode cX4_forgeAnew 24 = .ok (.getfield 11, 3) := by decide +kernel
theorem dX4_forgeAnew_27 : decode cX4_forgeAnew 27 = .ok (.iload_n 1, 1) := by decide +kernel
theorem dX4_forgeAnew_28 : decode cX4_forgeAnew 28 = .ok (.bipush 24, 2) := by decide +kernel
theorem dX4_forgeAnew_30 : decode cX4_forgeAnew 30 = .ok (.iastore, 1) := by decide +kernel
theorem dX4_forgeAnew_31 : decode cX4_forgeAnew 31 = .ok (.aload_n 0, 1) := by decide +kernel
theorem dX4_forgeAnew_32 : decode cX4_forgeAnew 32 = .ok (.invokevirtual 57, 3) := by decide +kernel
theorem dX4_forgeAnew_35 : decode cX4_forgeAnew 35 = .ok (.invokestatic 26, 3) := by decide +kernel
theorem dX4_forgeAnew_38 : decode cX4_forgeAnew 38 = .ok (.ireturn, 1) := by decide +kernel
theorem dX4_letMiceIn_0 : decode cX4_letMiceIn 0 = .ok (.iconst 0, 1) := by decide +kernel
theorem dX4_letMiceIn_1 : decode cX4_letMiceIn 1 = .ok (.istore_n 1, 1) := by decide +kernel
theorem dX4_letMiceIn_2 : decode cX4_letMiceIn 2 = .ok (.iconst 0, 1) := by decide +kernel
theorem dX4_letMiceIn_3 : decode cX4_letMiceIn 3 = .ok (.istore_n 2, 1) := by decide +kernel
theorem dX4_letMiceIn_4 : decode cX4_letMiceIn 4 = .ok (.iload_n 2, 1) := by decide +kernel
theorem dX4_letMiceIn_5 : decode cX4_letMiceIn 5 = .ok (.iconst 3, 1) := by decide +kernel
theorem dX4_letMiceIn_6 : decode cX4_letMiceIn 6 = .ok (.if_icmp .ge 26, 3) := by decide +kernel
theorem dX4_letMiceIn_9 : decode cX4_letMiceIn 9 = .ok (.aload_n 0, 1) := by decide +kernel
theorem dX4_letMiceIn_10 : decode cX4_letMiceIn 10 = .ok (.iload_n 2, 1) := by decide +kernel
theorem dX4_letMiceIn_11 : decode cX4_letMiceIn 11 = .ok (.invokevirtual 42, 3) := by decide +kernel
theorem dX4_letMiceIn_14 : decode cX4_letMiceIn 14 = .ok (.iconst 3, 1) := by decide +kernel
theorem dX4_letMiceIn_15 : decode cX4_letMiceIn 15 = .ok (.if_icmp .lt 11, 3) := by decide +kernel
theorem dX4_letMiceIn_18 : decode cX4_letMiceIn 18 = .ok (.aload_n 0, 1) := by decide +kernel
theorem dX4_letMiceIn_19 : decode cX4_letMiceIn 19 = .ok (.iload_n 2, 1) := by decide +kernel
theorem dX4_letMiceIn_20 : decode cX4_letMiceIn 20 = .ok (.invokevirtual 61, 3) := by decide +kernel
theorem dX4_letMiceIn_23 : decode cX4_letMiceIn 23 = .ok (.iinc 1 1, 3) := by decide +kernel
theorem dX4_letMiceIn_26 : decode cX4_letMiceIn 26 = .ok (.iinc 2 1, 3) := by decide +kernel
theorem dX4_letMiceIn_29 : decode cX4_letMiceIn 29 = .ok (.goto (-25), 3) := by decide +kernel
theorem dX4_letMiceIn_32 : decode cX4_letMiceIn 32 = .ok (.aload_n 0, 1) := by decide +kernel
theorem dX4_letMiceIn_33 : decode cX4_letMiceIn 33 = .ok (.dup, 1) := by decide +kernel
theorem dX4_letMiceIn_34 : decode cX4_letMiceIn 34 = .ok (.getfield 18, 3) := by decide +kernel
theorem dX4_letMiceIn_37 : decode cX4_letMiceIn 37 = .ok (.iconst 1, 1) := by decide +kernel
theorem dX4_letMiceIn_38 : decode cX4_letMiceIn 38 = .ok (.iadd, 1) := by decide +kernel
theorem dX4_letMiceIn_39 : decode cX4_letMiceIn 39 = .ok (.putfield 18, 3) := by decide +kernel
theorem dX4_letMiceIn_42 : decode cX4_letMiceIn 42 = .ok (.iload_n 1, 1) := by decide +kernel
theorem dX4_letMiceIn_43 : decode cX4_letMiceIn 43 = .ok (.ireturn, 1) := by decide +kernel
theorem dX4_loseLowest_0 : decode cX4_loseLowest 0 = .ok (.iconst 0, 1) := by decide +kernel
theorem dX4_loseLowest_1 : decode cX4_loseLowest 1 = .ok (.istore_n 2, 1) := by decide +kernel
theorem dX4_loseLowest_2 : decode cX4_loseLowest 2 = .ok (.iload_n 2, 1) := by decide +kernel
theorem dX4_loseLowest_3 : decode cX4_loseLowest 3 = .ok (.bipush 8, 2) := by decide +kernel
theorem dX4_loseLowest_5 : decode cX4_loseLowest 5 = .ok (.if_icmp .ge 45, 3) := by decide +kernel
theorem dX4_loseLowest_8 : decode cX4_loseLowest 8 = .ok (.aload_n 0, 1) := by decide +kernel
theorem dX4_loseLowest_9 : decode cX4_loseLowest 9 = .ok (.iload_n 2, 1) := by decide +kernel
theorem dX4_loseLowest_10 : decode cX4_loseLowest 10 = .ok (.invokevirtual 36, 3) := by decide +kernel
theorem dX4_loseLowest_13 : decode cX4_loseLowest 13 = .ok (.iload_n 1, 1) := by decide +kernel
theorem dX4_loseLowest_14 : decode cX4_loseLowest 14 = .ok (.if_icmp .ne 30, 3) := by decide +kernel
theorem dX4_loseLowest_17 : decode cX4_loseLowest 17 = .ok (.aload_n 0, 1) := by decide +kernel
theorem dX4_loseLowest_18 : decode cX4_loseLowest 18 = .ok (.getfield 11, 3) := by decide +kernel
theorem dX4_loseLowest_21 : decode cX4_loseLowest 21 = .ok (.iload_n 2, 1) := by decide +kernel
theorem dX4_loseLowest_22 : decode cX4_loseLowest 22 = .ok (.aload_n 0, 1) := by decide +kernel
theorem dX4_loseLowest_23 : decode cX4_loseLowest 23 = .ok (.iload_n 2, 1) := by decide +kernel
theorem dX4_loseLowest_24 : decode cX4_loseLowest 24 = .ok (.invokevirtual 48, 3) := by decide +kernel
theorem dX4_loseLowest_27 : decode cX4_loseLowest 27 = .ok (.ifCond .ne 8, 3) := by decide +kernel
theorem dX4_loseLowest_30 : decode cX4_loseLowest 30 = .ok (.bipush 25, 2) := by decide +kernel
theorem dX4_loseLowest_32 : decode cX4_loseLowest 32 = .ok (.goto 11, 3) := by decide +kernel
theorem dX4_loseLowest_35 : decode cX4_loseLowest 35 = .ok (.aload_n 0, 1) := by decide +kernel
theorem dX4_loseLowest_36 : decode cX4_loseLowest 36 = .ok (.getfield 11, 3) := by decide +kernel
theorem dX4_loseLowest_39 : decode cX4_loseLowest 39 = .ok (.iload_n 2, 1) := by decide +kernel
theorem dX4_loseLowest_40 : decode cX4_loseLowest 40 = .ok (.iaload, 1) := by decide +kernel
theorem dX4_loseLowest_41 : decode cX4_loseLowest 41 = .ok (.iconst 1, 1) := by decide +kernel
theorem dX4_loseLowest_42 : decode cX4_loseLowest 42 = .ok (.isub, 1) := by decide +kernel
theorem dX4_loseLowest_43 : decode cX4_loseLowest 43 = .ok (.iastore, 1) := by decide +kernel
theorem dX4_loseLowest_44 : decode cX4_loseLowest 44 = .ok (.iinc 2 1, 3) := by decide +kernel
theorem dX4_loseLowest_47 : decode cX4_loseLowest 47 = .ok (.goto (-45), 3) := by decide +kernel
theorem dX4_loseLowest_50 : decode cX4_loseLowest 50 = .ok (.return_, 1) := by decide +kernel
theorem dX4_turnOver_0 : decode cX4_turnOver 0 = .ok (.iload_n 1, 1) := by decide +kernel
theorem dX4_turnOver_1 : decode cX4_turnOver 1 = .ok (.invokestatic 51, 3) := by decide +kernel
theorem dX4_turnOver_4 : decode cX4_turnOver 4 = .ok (.ifCond .ne 5, 3) := by decide +kernel
theorem dX4_turnOver_7 : decode cX4_turnOver 7 = .ok (.iconst (-1), 1) := by decide +kernel
theorem dX4_turnOver_8 : decode cX4_turnOver 8 = .ok (.ireturn, 1) := by decide +kernel
theorem dX4_turnOver_9 : decode cX4_turnOver 9 = .ok (.aload_n 0, 1) := by decide +kernel
theorem dX4_turnOver_10 : decode cX4_turnOver 10 = .ok (.iload_n 1, 1) := by decide +kernel
theorem dX4_turnOver_11 : decode cX4_turnOver 11 = .ok (.invokevirtual 42, 3) := by decide +kernel
theorem dX4_turnOver_14 : decode cX4_turnOver 14 = .ok (.iconst 1, 1) := by decide +kernel
theorem dX4_turnOver_15 : decode cX4_turnOver 15 = .ok (.isub, 1) := by decide +kernel
theorem dX4_turnOver_16 : decode cX4_turnOver 16 = .ok (.istore_n 2, 1) := by decide +kernel
theorem dX4_turnOver_17 : decode cX4_turnOver 17 = .ok (.iconst 0, 1) := by decide +kernel
theorem dX4_turnOver_18 : decode cX4_turnOver 18 = .ok (.istore_n 3, 1) := by decide +kernel
theorem dX4_turnOver_19 : decode cX4_turnOver 19 = .ok (.iload_n 3, 1) := by decide +kernel
theorem dX4_turnOver_20 : decode cX4_turnOver 20 = .ok (.bipush 8, 2) := by decide +kernel
theorem dX4_turnOver_22 : decode cX4_turnOver 22 = .ok (.if_icmp .ge 36, 3) := by decide +kernel
theorem dX4_turnOver_25 : decode cX4_turnOver 25 = .ok (.aload_n 0, 1) := by decide +kernel
theorem dX4_turnOver_26 : decode cX4_turnOver 26 = .ok (.iload_n 3, 1) := by decide +kernel
theorem dX4_turnOver_27 : decode cX4_turnOver 27 = .ok (.invokevirtual 36, 3) := by decide +kernel
theorem dX4_turnOver_30 : decode cX4_turnOver 30 = .ok (.iload_n 1, 1) := by decide +kernel
theorem dX4_turnOver_31 : decode cX4_turnOver 31 = .ok (.if_icmp .ne 21, 3) := by decide +kernel
theorem dX4_turnOver_34 : decode cX4_turnOver 34 = .ok (.aload_n 0, 1) := by decide +kernel
theorem dX4_turnOver_35 : decode cX4_turnOver 35 = .ok (.getfield 11, 3) := by decide +kernel
theorem dX4_turnOver_38 : decode cX4_turnOver 38 = .ok (.iload_n 3, 1) := by decide +kernel
theorem dX4_turnOver_39 : decode cX4_turnOver 39 = .ok (.iload_n 1, 1) := by decide +kernel
theorem dX4_turnOver_40 : decode cX4_turnOver 40 = .ok (.bipush 8, 2) := by decide +kernel
theorem dX4_turnOver_42 : decode cX4_turnOver 42 = .ok (.imul, 1) := by decide +kernel
theorem dX4_turnOver_43 : decode cX4_turnOver 43 = .ok (.iload_n 2, 1) := by decide +kernel
theorem dX4_turnOver_44 : decode cX4_turnOver 44 = .ok (.iadd, 1) := by decide +kernel
theorem dX4_turnOver_45 : decode cX4_turnOver 45 = .ok (.aload_n 0, 1) := by decide +kernel
theorem dX4_turnOver_46 : decode cX4_turnOver 46 = .ok (.iload_n 3, 1) := by decide +kernel
theorem dX4_turnOver_47 : decode cX4_turnOver 47 = .ok (.invokevirtual 48, 3) := by decide +kernel
theorem dX4_turnOver_50 : decode cX4_turnOver 50 = .ok (.isub, 1) := by decide +kernel
theorem dX4_turnOver_51 : decode cX4_turnOver 51 = .ok (.iastore, 1) := by decide +kernel
theorem dX4_turnOver_52 : decode cX4_turnOver 52 = .ok (.iinc 3 1, 3) := by decide +kernel
theorem dX4_turnOver_55 : decode cX4_turnOver 55 = .ok (.goto (-36), 3) := by decide +kernel
theorem dX4_turnOver_58 : decode cX4_turnOver 58 = .ok (.aload_n 0, 1) := by decide +kernel
theorem dX4_turnOver_59 : decode cX4_turnOver 59 = .ok (.iload_n 1, 1) := by decide +kernel
theorem dX4_turnOver_60 : decode cX4_turnOver 60 = .ok (.invokevirtual 54, 3) := by decide +kernel
theorem dX4_turnOver_63 : decode cX4_turnOver 63 = .ok (.ireturn, 1) := by decide +kernel
theorem dX5_init_0 : decode cX5_init 0 = .ok (.aload_n 0, 1) := by decide +kernel
theorem dX5_init_1 : decode cX5_init 1 = .ok (.invokespecial 3, 3) := by decide +kernel
theorem dX5_init_4 : decode cX5_init 4 = .ok (.aload_n 0, 1) := by decide +kernel
theorem dX5_init_5 : decode cX5_init 5 = .ok (.bipush 48, 2) := by decide +kernel
theorem dX5_init_7 : decode cX5_init 7 = .ok (.newarray .int, 2) := by decide +kernel
theorem dX5_init_9 : decode cX5_init 9 = .ok (.putfield 9, 3) := by decide +kernel
theorem dX5_init_12 : decode cX5_init 12 = .ok (.return_, 1) := by decide +kernel
theorem dX5_append_0 : decode cX5_append 0 = .ok (.aload_n 0, 1) := by decide +kernel
theorem dX5_append_1 : decode cX5_append 1 = .ok (.getfield 15, 3) := by decide +kernel
theorem dX5_append_4 : decode cX5_append 4 = .ok (.aload_n 0, 1) := by decide +kernel
theorem dX5_append_5 : decode cX5_append 5 = .ok (.getfield 9, 3) := by decide +kernel
theorem dX5_append_8 : decode cX5_append 8 = .ok (.arraylength, 1) := by decide +kernel
theorem dX5_append_9 : decode cX5_append 9 = .ok (.if_icmp .lt 6, 3) := by decide +kernel
theorem dX5_append_12 : decode cX5_append 12 = .ok (.bipush (-4), 2) := by decide +kernel
theorem dX5_append_14 : decode cX5_append 14 = .ok (.ireturn, 1) := by decide +kernel
theorem dX5_append_15 : decode cX5_append 15 = .ok (.aload_n 0, 1) := by decide +kernel
theorem dX5_append_16 : decode cX5_append 16 = .ok (.getfield 9, 3) := by decide +kernel
theorem dX5_append_19 : decode cX5_append 19 = .ok (.aload_n 0, 1) := by decide +kernel
theorem dX5_append_20 : decode cX5_append 20 = .ok (.getfield 15, 3) := by decide +kernel
theorem dX5_append_23 : decode cX5_append 23 = .ok (.iload_n 1, 1) := by decide +kernel
theorem dX5_append_24 : decode cX5_append 24 = .ok (.iastore, 1) := by decide +kernel
theorem dX5_append_25 : decode cX5_append 25 = .ok (.aload_n 0, 1) := by decide +kernel
theorem dX5_append_26 : decode cX5_append 26 = .ok (.dup, 1) := by decide +kernel
theorem dX5_append_27 : decode cX5_append 27 = .ok (.getfield 15, 3) := by decide +kernel
theorem dX5_append_30 : decode cX5_append 30 = .ok (.iconst 1, 1) := by decide +kernel
theorem dX5_append_31 : decode cX5_append 31 = .ok (.iadd, 1) := by decide +kernel
theorem dX5_append_32 : decode cX5_append 32 = .ok (.putfield 15, 3) := by decide +kernel
theorem dX5_append_35 : decode cX5_append 35 = .ok (.aload_n 0, 1) := by decide +kernel
theorem dX5_append_36 : decode cX5_append 36 = .ok (.getfield 15, 3) := by decide +kernel
theorem dX5_append_39 : decode cX5_append 39 = .ok (.ireturn, 1) := by decide +kernel
theorem dX5_clear_0 : decode cX5_clear 0 = .ok (.aload_n 0, 1) := by decide +kernel
theorem dX5_clear_1 : decode cX5_clear 1 = .ok (.getfield 15, 3) := by decide +kernel
theorem dX5_clear_4 : decode cX5_clear 4 = .ok (.istore_n 1, 1) := by decide +kernel
theorem dX5_clear_5 : decode cX5_clear 5 = .ok (.aload_n 0, 1) := by decide +kernel
theorem dX5_clear_6 : decode cX5_clear 6 = .ok (.iconst 0, 1) := by decide +kernel
theorem dX5_clear_7 : decode cX5_clear 7 = .ok (.putfield 15, 3) := by decide +kernel
theorem dX5_clear_10 : decode cX5_clear 10 = .ok (.iload_n 1, 1) := by decide +kernel
theorem dX5_clear_11 : decode cX5_clear 11 = .ok (.ireturn, 1) := by decide +kernel
theorem dX5_letterAt_0 : decode cX5_letterAt 0 = .ok (.iload_n 1, 1) := by decide +kernel
theorem dX5_letterAt_1 : decode cX5_letterAt 1 = .ok (.ifCond .lt 20, 3) := by decide +kernel
theorem dX5_letterAt_4 : decode cX5_letterAt 4 = .ok (.iload_n 1, 1) := by decide +kernel
theorem dX5_letterAt_5 : decode cX5_letterAt 5 = .ok (.aload_n 0, 1) := by decide +kernel
theorem dX5_letterAt_6 : decode cX5_letterAt 6 = .ok (.getfield 15, 3) := by decide +kernel
theorem dX5_letterAt_9 : decode cX5_letterAt 9 = .ok (.if_icmp .ge 12, 3) := by decide +kernel
theorem dX5_letterAt_12 : decode cX5_letterAt 12 = .ok (.aload_n 0, 1) := by decide +kernel
theorem dX5_letterAt_13 : decode cX5_letterAt 13 = .ok (.getfield 9, 3) := by decide +kernel
theorem dX5_letterAt_16 : decode cX5_letterAt 16 = .ok (.iload_n 1, 1) := by decide +kernel
theorem dX5_letterAt_17 : decode cX5_letterAt 17 = .ok (.iaload, 1) := by decide +kernel
theorem dX5_letterAt_18 : decode cX5_letterAt 18 = .ok (.goto 5, 3) := by decide +kernel
theorem dX5_letterAt_21 : decode cX5_letterAt 21 = .ok (.bipush (-9), 2) := by decide +kernel
theorem dX5_letterAt_23 : decode cX5_letterAt 23 = .ok (.ireturn, 1) := by decide +kernel
theorem dX6_init_0 : decode cX6_init 0 = .ok (.aload_n 0, 1) := by decide +kernel
theorem dX6_init_1 : decode cX6_init 1 = .ok (.invokespecial 3, 3) := by decide +kernel
theorem dX6_init_4 : decode cX6_init 4 = .ok (.aload_n 0, 1) := by decide +kernel
theorem dX6_init_5 : decode cX6_init 5 = .ok (.bipush 6, 2) := by decide +kernel
theorem dX6_init_7 : decode cX6_init 7 = .ok (.newarray .int, 2) := by decide +kernel
theorem dX6_init_9 : decode cX6_init 9 = .ok (.putfield 9, 3) := by decide +kernel
theorem dX6_init_12 : decode cX6_init 12 = .ok (.aload_n 0, 1) := by decide +kernel
theorem dX6_init_13 : decode cX6_init 13 = .ok (.bipush 18, 2) := by decide +kernel
theorem dX6_init_15 : decode cX6_init 15 = .ok (.newarray .int, 2) := by decide +kernel
theorem dX6_init_17 : decode cX6_init 17 = .ok (.putfield 15, 3) := by decide +kernel
theorem dX6_init_20 : decode cX6_init 20 = .ok (.return_, 1) := by decide +kernel
theorem dX6_clear_0 : decode cX6_clear 0 = .ok (.aload_n 0, 1) := by decide +kernel
theorem dX6_clear_1 : decode cX6_clear 1 = .ok (.iconst 0, 1) := by decide +kernel
theorem dX6_clear_2 : decode cX6_clear 2 = .ok (.putfield 18, 3) := by decide +kernel
theorem dX6_clear_5 : decode cX6_clear 5 = .ok (.return_, 1) := by decide +kernel
theorem dX6_copyFrom_0 : decode cX6_copyFrom 0 = .ok (.iconst 0, 1) := by decide +kernel
theorem dX6_copyFrom_1 : decode cX6_copyFrom 1 = .ok (.istore_n 2, 1) := by decide +kernel
theorem dX6_copyFrom_2 : decode cX6_copyFrom 2 = .ok (.iload_n 2, 1) := by decide +kernel
theorem dX6_copyFrom_3 : decode cX6_copyFrom 3 = .ok (.bipush 6, 2) := by decide +kernel
theorem dX6_copyFrom_5 : decode cX6_copyFrom 5 = .ok (.if_icmp .ge 21, 3) := by decide +kernel
theorem dX6_copyFrom_8 : decode cX6_copyFrom 8 = .ok (.aload_n 0, 1) := by decide +kernel
theorem dX6_copyFrom_9 : decode cX6_copyFrom 9 = .ok (.getfield 9, 3) := by decide +kernel
theorem dX6_copyFrom_12 : decode cX6_copyFrom 12 = .ok (.iload_n 2, 1) := by decide +kernel
theorem dX6_copyFrom_13 : decode cX6_copyFrom 13 = .ok (.aload_n 1, 1) := by decide +kernel
theorem dX6_copyFrom_14 : decode cX6_copyFrom 14 = .ok (.getfield 9, 3) := by decide +kernel
theorem dX6_copyFrom_17 : decode cX6_copyFrom 17 = .ok (.iload_n 2, 1) := by decide +kernel
theorem dX6_copyFrom_18 : decode cX6_copyFrom 18 = .ok (.iaload, 1) := by decide +kernel
theorem dX6_copyFrom_19 : decode cX6_copyFrom 19 = .ok (.iastore, 1) := by decide +kernel
theorem dX6_copyFrom_20 : decode cX6_copyFrom 20 = .ok (.iinc 2 1, 3) := by decide +kernel
theorem dX6_copyFrom_23 : decode cX6_copyFrom 23 = .ok (.goto (-21), 3) := by decide +kernel
theorem dX6_copyFrom_26 : decode cX6_copyFrom 26 = .ok (.iconst 0, 1) := by decide +kernel
theorem dX6_copyFrom_27 : decode cX6_copyFrom 27 = .ok (.istore_n 2, 1) := by decide +kernel
theorem dX6_copyFrom_28 : decode cX6_copyFrom 28 = .ok (.iload_n 2, 1) := by decide +kernel
theorem dX6_copyFrom_29 : decode cX6_copyFrom 29 = .ok (.bipush 18, 2) := by decide +kernel
theorem dX6_copyFrom_31 : decode cX6_copyFrom 31 = .ok (.if_icmp .ge 21, 3) := by decide +kernel
theorem dX6_copyFrom_34 : decode cX6_copyFrom 34 = .ok (.aload_n 0, 1) := by decide +kernel
theorem dX6_copyFrom_35 : decode cX6_copyFrom 35 = .ok (.getfield 15, 3) := by decide +kernel
theorem dX6_copyFrom_38 : decode cX6_copyFrom 38 = .ok (.iload_n 2, 1) := by decide +kernel
theorem dX6_copyFrom_39 : decode cX6_copyFrom 39 = .ok (.aload_n 1, 1) := by decide +kernel
theorem dX6_copyFrom_40 : decode cX6_copyFrom 40 = .ok (.getfield 15, 3) := by decide +kernel
theorem dX6_copyFrom_43 : decode cX6_copyFrom 43 = .ok (.iload_n 2, 1) := by decide +kernel
theorem dX6_copyFrom_44 : decode cX6_copyFrom 44 = .ok (.iaload, 1) := by decide +kernel
theorem dX6_copyFrom_45 : decode cX6_copyFrom 45 = .ok (.iastore, 1) := by decide +kernel
theorem dX6_copyFrom_46 : decode cX6_copyFrom 46 = .ok (.iinc 2 1, 3) := by decide +kernel
theorem dX6_copyFrom_49 : decode cX6_copyFrom 49 = .ok (.goto (-21), 3) := by decide +kernel
theorem dX6_copyFrom_52 : decode cX6_copyFrom 52 = .ok (.aload_n 0, 1) := by decide +kernel
theorem dX6_copyFrom_53 : decode cX6_copyFrom 53 = .ok (.aload_n 1, 1) := by decide +kernel
theorem dX6_copyFrom_54 : decode cX6_copyFrom 54 = .ok (.getfield 18, 3) := by decide +kernel
theorem dX6_copyFrom_57 : decode cX6_copyFrom 57 = .ok (.putfield 18, 3) := by decide +kernel
theorem dX6_copyFrom_60 : decode cX6_copyFrom 60 = .ok (.return_, 1) := by decide +kernel
theorem dX6_append_0 : decode cX6_append 0 = .ok (.aload_n 0, 1) := by decide +kernel
theorem dX6_append_1 : decode cX6_append 1 = .ok (.getfield 18, 3) := by decide +kernel
theorem dX6_append_4 : decode cX6_append 4 = .ok (.bipush 6, 2) := by decide +kernel
theorem dX6_append_6 : decode cX6_append 6 = .ok (.if_icmp .ge 64, 3) := by decide +kernel
theorem dX6_append_9 : decode cX6_append 9 = .ok (.aload_n 0, 1) := by decide +kernel
theorem dX6_append_10 : decode cX6_append 10 = .ok (.getfield 9, 3) := by decide +kernel
theorem dX6_append_13 : decode cX6_append 13 = .ok (.aload_n 0, 1) := by decide +kernel
theorem dX6_append_14 : decode cX6_append 14 = .ok (.getfield 18, 3) := by decide +kernel
theorem dX6_append_17 : decode cX6_append 17 = .ok (.iload_n 1, 1) := by decide +kernel
theorem dX6_append_18 : decode cX6_append 18 = .ok (.iastore, 1) := by decide +kernel
theorem dX6_append_19 : decode cX6_append 19 = .ok (.aload_n 0, 1) := by decide +kernel
theorem dX6_append_20 : decode cX6_append 20 = .ok (.getfield 15, 3) := by decide +kernel
theorem dX6_append_23 : decode cX6_append 23 = .ok (.aload_n 0, 1) := by decide +kernel
theorem dX6_append_24 : decode cX6_append 24 = .ok (.getfield 18, 3) := by decide +kernel
theorem dX6_append_27 : decode cX6_append 27 = .ok (.iconst 3, 1) := by decide +kernel
theorem dX6_append_28 : decode cX6_append 28 = .ok (.imul, 1) := by decide +kernel
theorem dX6_append_29 : decode cX6_append 29 = .ok (.iload_n 2, 1) := by decide +kernel
theorem dX6_append_30 : decode cX6_append 30 = .ok (.iastore, 1) := by decide +kernel
theorem dX6_append_31 : decode cX6_append 31 = .ok (.aload_n 0, 1) := by decide +kernel
theorem dX6_append_32 : decode cX6_append 32 = .ok (.getfield 15, 3) := by decide +kernel
theorem dX6_append_35 : decode cX6_append 35 = .ok (.aload_n 0, 1) := by decide +kernel
theorem dX6_append_36 : decode cX6_append 36 = .ok (.getfield 18, 3) := by decide +kernel
theorem dX6_append_39 : decode cX6_append 39 = .ok (.iconst 3, 1) := by decide +kernel
theorem dX6_append_40 : decode cX6_append 40 = .ok (.imul, 1) := by decide +kernel
theorem dX6_append_41 : decode cX6_append 41 = .ok (.iconst 1, 1) := by decide +kernel
theorem dX6_append_42 : decode cX6_append 42 = .ok (.iadd, 1) := by decide +kernel
theorem dX6_append_43 : decode cX6_append 43 = .ok (.iload_n 3, 1) := by decide +kernel
theorem dX6_append_44 : decode cX6_append 44 = .ok (.iastore, 1) := by decide +kernel
theorem dX6_append_45 : decode cX6_append 45 = .ok (.aload_n 0, 1) := by decide +kernel
theorem dX6_append_46 : decode cX6_append 46 = .ok (.getfield 15, 3) := by decide +kernel
theorem dX6_append_49 : decode cX6_append 49 = .ok (.aload_n 0, 1) := by decide +kernel
theorem dX6_append_50 : decode cX6_append 50 = .ok (.getfield 18, 3) := by decide +kernel
theorem dX6_append_53 : decode cX6_append 53 = .ok (.iconst 3, 1) := by decide +kernel
theorem dX6_append_54 : decode cX6_append 54 = .ok (.imul, 1) := by decide +kernel
theorem dX6_append_55 : decode cX6_append 55 = .ok (.iconst 2, 1) := by decide +kernel
theorem dX6_append_56 : decode cX6_append 56 = .ok (.iadd, 1) := by decide +kernel
theorem dX6_append_57 : decode cX6_append 57 = .ok (.iload 4, 2) := by decide +kernel
theorem dX6_append_59 : decode cX6_append 59 = .ok (.iastore, 1) := by decide +kernel
theorem dX6_append_60 : decode cX6_append 60 = .ok (.aload_n 0, 1) := by decide +kernel
theorem dX6_append_61 : decode cX6_append 61 = .ok (.dup, 1) := by decide +kernel
theorem dX6_append_62 : decode cX6_append 62 = .ok (.getfield 18, 3) := by decide +kernel
theorem dX6_append_65 : decode cX6_append 65 = .ok (.iconst 1, 1) := by decide +kernel
theorem dX6_append_66 : decode cX6_append 66 = .ok (.iadd, 1) := by decide +kernel
theorem dX6_append_67 : decode cX6_append 67 = .ok (.putfield 18, 3) := by decide +kernel
theorem dX6_append_70 : decode cX6_append 70 = .ok (.return_, 1) := by decide +kernel
theorem dX6_has_0 : decode cX6_has 0 = .ok (.iload_n 1, 1) := by decide +kernel
theorem dX6_has_1 : decode cX6_has 1 = .ok (.ifCond .lt 15, 3) := by decide +kernel
theorem dX6_has_4 : decode cX6_has 4 = .ok (.iload_n 1, 1) := by decide +kernel
theorem dX6_has_5 : decode cX6_has 5 = .ok (.aload_n 0, 1) := by decide +kernel
theorem dX6_has_6 : decode cX6_has 6 = .ok (.getfield 18, 3) := by decide +kernel
theorem dX6_has_9 : decode cX6_has 9 = .ok (.if_icmp .ge 7, 3) := by decide +kernel
theorem dX6_has_12 : decode cX6_has 12 = .ok (.iconst 1, 1) := by decide +kernel
theorem dX6_has_13 : decode cX6_has 13 = .ok (.goto 4, 3) := by decide +kernel
theorem dX6_has_16 : decode cX6_has 16 = .ok (.iconst 0, 1) := by decide +kernel
theorem dX6_has_17 : decode cX6_has 17 = .ok (.ireturn, 1) := by decide +kernel
theorem dX6_kindOf_0 : decode cX6_kindOf 0 = .ok (.aload_n 0, 1) := by decide +kernel
theorem dX6_kindOf_1 : decode cX6_kindOf 1 = .ok (.iload_n 1, 1) := by decide +kernel
theorem dX6_kindOf_2 : decode cX6_kindOf 2 = .ok (.invokevirtual 22, 3) := by decide +kernel
theorem dX6_kindOf_5 : decode cX6_kindOf 5 = .ok (.ifCond .eq 12, 3) := by decide +kernel
theorem dX6_kindOf_8 : decode cX6_kindOf 8 = .ok (.aload_n 0, 1) := by decide +kernel
theorem dX6_kindOf_9 : decode cX6_kindOf 9 = .ok (.getfield 9, 3) := by decide +kernel
theorem dX6_kindOf_12 : decode cX6_kindOf 12 = .ok (.iload_n 1, 1) := by decide +kernel
theorem dX6_kindOf_13 : decode cX6_kindOf 13 = .ok (.iaload, 1) := by decide +kernel
theorem dX6_kindOf_14 : decode cX6_kindOf 14 = .ok (.goto 5, 3) := by decide +kernel
theorem dX6_kindOf_17 : decode cX6_kindOf 17 = .ok (.bipush (-9), 2) := by decide +kernel
theorem dX6_kindOf_19 : decode cX6_kindOf 19 = .ok (.ireturn, 1) := by decide +kernel
theorem dX6_groundOf_0 : decode cX6_groundOf 0 = .ok (.aload_n 0, 1) := by decide +kernel
theorem dX6_groundOf_1 : decode cX6_groundOf 1 = .ok (.iload_n 1, 1) := by decide +kernel
theorem dX6_groundOf_2 : decode cX6_groundOf 2 = .ok (.invokevirtual 22, 3) := by decide +kernel
theorem dX6_groundOf_5 : decode cX6_groundOf 5 = .ok (.ifCond .eq 25, 3) := by decide +kernel
theorem dX6_groundOf_8 : decode cX6_groundOf 8 = .ok (.iload_n 2, 1) := by decide +kernel
theorem dX6_groundOf_9 : decode cX6_groundOf 9 = .ok (.ifCond .lt 21, 3) := by decide +kernel
theorem dX6_groundOf_12 : decode cX6_groundOf 12 = .ok (.iload_n 2, 1) := by decide +kernel
theorem dX6_groundOf_13 : decode cX6_groundOf 13 = .ok (.iconst 3, 1) := by decide +kernel
theorem dX6_groundOf_14 : decode cX6_groundOf 14 = .ok (.if_icmp .ge 16, 3) := by decide +kernel
theorem dX6_groundOf_17 : decode cX6_groundOf 17 = .ok (.aload_n 0, 1) := by decide +kernel
theorem dX6_groundOf_18 : decode cX6_groundOf 18 = .ok (.getfield 15, 3) := by decide +kernel
theorem dX6_groundOf_21 : decode cX6_groundOf 21 = .ok (.iload_n 1, 1) := by decide +kernel
theorem dX6_groundOf_22 : decode cX6_groundOf 22 = .ok (.iconst 3, 1) := by decide +kernel
theorem dX6_groundOf_23 : decode cX6_groundOf 23 = .ok (.imul, 1) := by decide +kernel
theorem dX6_groundOf_24 : decode cX6_groundOf 24 = .ok (.iload_n 2, 1) := by decide +kernel
theorem dX6_groundOf_25 : decode cX6_groundOf 25 = .ok (.iadd, 1) := by decide +kernel
theorem dX6_groundOf_26 : decode cX6_groundOf 26 = .ok (.iaload, 1) := by decide +kernel
theorem dX6_groundOf_27 : decode cX6_groundOf 27 = .ok (.goto 5, 3) := by decide +kernel
theorem dX6_groundOf_30 : decode cX6_groundOf 30 = .ok (.bipush (-9), 2) := by decide +kernel
theorem dX6_groundOf_32 : decode cX6_groundOf 32 = .ok (.ireturn, 1) := by decide +kernel
theorem dX6_isSo_0 : decode cX6_isSo 0 = .ok (.aload_n 0, 1) := by decide +kernel
theorem dX6_isSo_1 : decode cX6_isSo 1 = .ok (.iload_n 1, 1) := by decide +kernel
theorem dX6_isSo_2 : decode cX6_isSo 2 = .ok (.invokevirtual 22, 3) := by decide +kernel
theorem dX6_isSo_5 : decode cX6_isSo 5 = .ok (.ifCond .eq 20, 3) := by decide +kernel
theorem dX6_isSo_8 : decode cX6_isSo 8 = .ok (.aload_n 0, 1) := by decide +kernel
theorem dX6_isSo_9 : decode cX6_isSo 9 = .ok (.iload_n 2, 1) := by decide +kernel
theorem dX6_isSo_10 : decode cX6_isSo 10 = .ok (.invokevirtual 26, 3) := by decide +kernel
theorem dX6_isSo_13 : decode cX6_isSo 13 = .ok (.iload_n 1, 1) := by decide +kernel
theorem dX6_isSo_14 : decode cX6_isSo 14 = .ok (.ishr, 1) := by decide +kernel
theorem dX6_isSo_15 : decode cX6_isSo 15 = .ok (.iconst 1, 1) := by decide +kernel
theorem dX6_isSo_16 : decode cX6_isSo 16 = .ok (.iand, 1) := by decide +kernel
theorem dX6_isSo_17 : decode cX6_isSo 17 = .ok (.iconst 1, 1) := by decide +kernel
theorem dX6_isSo_18 : decode cX6_isSo 18 = .ok (.if_icmp .ne 7, 3) := by decide +kernel
theorem dX6_isSo_21 : decode cX6_isSo 21 = .ok (.iconst 1, 1) := by decide +kernel
theorem dX6_isSo_22 : decode cX6_isSo 22 = .ok (.goto 4, 3) := by decide +kernel
theorem dX6_isSo_25 : decode cX6_isSo 25 = .ok (.iconst 0, 1) := by decide +kernel
theorem dX6_isSo_26 : decode cX6_isSo 26 = .ok (.ireturn, 1) := by decide +kernel
theorem dX6_soBy_0 : decode cX6_soBy 0 = .ok (.iconst 0, 1) := by decide +kernel
theorem dX6_soBy_1 : decode cX6_soBy 1 = .ok (.istore_n 2, 1) := by decide +kernel
theorem dX6_soBy_2 : decode cX6_soBy 2 = .ok (.iconst 0, 1) := by decide +kernel
theorem dX6_soBy_3 : decode cX6_soBy 3 = .ok (.istore_n 3, 1) := by decide +kernel
theorem dX6_soBy_4 : decode cX6_soBy 4 = .ok (.iload_n 3, 1) := by decide +kernel
theorem dX6_soBy_5 : decode cX6_soBy 5 = .ok (.aload_n 0, 1) := by decide +kernel
theorem dX6_soBy_6 : decode cX6_soBy 6 = .ok (.getfield 18, 3) := by decide +kernel
theorem dX6_soBy_9 : decode cX6_soBy 9 = .ok (.if_icmp .ge 106, 3) := by decide +kernel
theorem dX6_soBy_12 : decode cX6_soBy 12 = .ok (.iload_n 1, 1) := by decide +kernel
theorem dX6_soBy_13 : decode cX6_soBy 13 = .ok (.iload_n 2, 1) := by decide +kernel
theorem dX6_soBy_14 : decode cX6_soBy 14 = .ok (.bipush 10, 2) := by decide +kernel
theorem dX6_soBy_16 : decode cX6_soBy 16 = .ok (.ishl, 1) := by decide +kernel
theorem dX6_soBy_17 : decode cX6_soBy 17 = .ok (.ior, 1) := by decide +kernel
theorem dX6_soBy_18 : decode cX6_soBy 18 = .ok (.istore 4, 2) := by decide +kernel
theorem dX6_soBy_20 : decode cX6_soBy 20 = .ok (.iload 4, 2) := by decide +kernel
theorem dX6_soBy_22 : decode cX6_soBy 22 = .ok (.aload_n 0, 1) := by decide +kernel
theorem dX6_soBy_23 : decode cX6_soBy 23 = .ok (.iload_n 3, 1) := by decide +kernel
theorem dX6_soBy_24 : decode cX6_soBy 24 = .ok (.iconst 0, 1) := by decide +kernel
theorem dX6_soBy_25 : decode cX6_soBy 25 = .ok (.invokevirtual 30, 3) := by decide +kernel
theorem dX6_soBy_28 : decode cX6_soBy 28 = .ok (.ishr, 1) := by decide +kernel
theorem dX6_soBy_29 : decode cX6_soBy 29 = .ok (.iconst 1, 1) := by decide +kernel
theorem dX6_soBy_30 : decode cX6_soBy 30 = .ok (.iand, 1) := by decide +kernel
theorem dX6_soBy_31 : decode cX6_soBy 31 = .ok (.iconst 1, 1) := by decide +kernel
theorem dX6_soBy_32 : decode cX6_soBy 32 = .ok (.if_icmp .ne 7, 3) := by decide +kernel
theorem dX6_soBy_35 : decode cX6_soBy 35 = .ok (.iconst 1, 1) := by decide +kernel
theorem dX6_soBy_36 : decode cX6_soBy 36 = .ok (.goto 4, 3) := by decide +kernel
theorem dX6_soBy_39 : decode cX6_soBy 39 = .ok (.iconst 0, 1) := by decide +kernel
theorem dX6_soBy_40 : decode cX6_soBy 40 = .ok (.istore 5, 2) := by decide +kernel
theorem dX6_soBy_42 : decode cX6_soBy 42 = .ok (.iload 4, 2) := by decide +kernel
theorem dX6_soBy_44 : decode cX6_soBy 44 = .ok (.aload_n 0, 1) := by decide +kernel
theorem dX6_soBy_45 : decode cX6_soBy 45 = .ok (.iload_n 3, 1) := by decide +kernel
theorem dX6_soBy_46 : decode cX6_soBy 46 = .ok (.iconst 1, 1) := by decide +kernel
theorem dX6_soBy_47 : decode cX6_soBy 47 = .ok (.invokevirtual 30, 3) := by decide +kernel
theorem dX6_soBy_50 : decode cX6_soBy 50 = .ok (.ishr, 1) := by decide +kernel
theorem dX6_soBy_51 : decode cX6_soBy 51 = .ok (.iconst 1, 1) := by decide +kernel
theorem dX6_soBy_52 : decode cX6_soBy 52 = .ok (.iand, 1) := by decide +kernel
theorem dX6_soBy_53 : decode cX6_soBy 53 = .ok (.iconst 1, 1) := by decide +kernel
theorem dX6_soBy_54 : decode cX6_soBy 54 = .ok (.if_icmp .ne 7, 3) := by decide +kernel
theorem dX6_soBy_57 : decode cX6_soBy 57 = .ok (.iconst 1, 1) := by decide +kernel
theorem dX6_soBy_58 : decode cX6_soBy 58 = .ok (.goto 4, 3) := by decide +kernel
theorem dX6_soBy_61 : decode cX6_soBy 61 = .ok (.iconst 0, 1) := by decide +kernel
theorem dX6_soBy_62 : decode cX6_soBy 62 = .ok (.istore 6, 2) := by decide +kernel
theorem dX6_soBy_64 : decode cX6_soBy 64 = .ok (.iload 4, 2) := by decide +kernel
theorem dX6_soBy_66 : decode cX6_soBy 66 = .ok (.aload_n 0, 1) := by decide +kernel
theorem dX6_soBy_67 : decode cX6_soBy 67 = .ok (.iload_n 3, 1) := by decide +kernel
theorem dX6_soBy_68 : decode cX6_soBy 68 = .ok (.iconst 2, 1) := by decide +kernel
theorem dX6_soBy_69 : decode cX6_soBy 69 = .ok (.invokevirtual 30, 3) := by decide +kernel
theorem dX6_soBy_72 : decode cX6_soBy 72 = .ok (.ishr, 1) := by decide +kernel
theorem dX6_soBy_73 : decode cX6_soBy 73 = .ok (.iconst 1, 1) := by decide +kernel
theorem dX6_soBy_74 : decode cX6_soBy 74 = .ok (.iand, 1) := by decide +kernel
theorem dX6_soBy_75 : decode cX6_soBy 75 = .ok (.iconst 1, 1) := by decide +kernel
theorem dX6_soBy_76 : decode cX6_soBy 76 = .ok (.if_icmp .ne 7, 3) := by decide +kernel
theorem dX6_soBy_79 : decode cX6_soBy 79 = .ok (.iconst 1, 1) := by decide +kernel
theorem dX6_soBy_80 : decode cX6_soBy 80 = .ok (.goto 4, 3) := by decide +kernel
theorem dX6_soBy_83 : decode cX6_soBy 83 = .ok (.iconst 0, 1) := by decide +kernel
theorem dX6_soBy_84 : decode cX6_soBy 84 = .ok (.istore 7, 2) := by decide +kernel
theorem dX6_soBy_86 : decode cX6_soBy 86 = .ok (.aload_n 0, 1) := by decide +kernel
theorem dX6_soBy_87 : decode cX6_soBy 87 = .ok (.iload_n 3, 1) := by decide +kernel
theorem dX6_soBy_88 : decode cX6_soBy 88 = .ok (.invokevirtual 34, 3) := by decide +kernel
theorem dX6_soBy_91 : decode cX6_soBy 91 = .ok (.iload 5, 2) := by decide +kernel
theorem dX6_soBy_93 : decode cX6_soBy 93 = .ok (.iload 6, 2) := by decide +kernel
theorem dX6_soBy_95 : decode cX6_soBy 95 = .ok (.iload 7, 2) := by decide +kernel
theorem dX6_soBy_97 : decode cX6_soBy 97 = .ok (.invokestatic 37, 3) := by decide +kernel
theorem dX6_soBy_100 : decode cX6_soBy 100 = .ok (.ifCond .eq 9, 3) := by decide +kernel
theorem dX6_soBy_103 : decode cX6_soBy 103 = .ok (.iload_n 2, 1) := by decide +kernel
theorem dX6_soBy_104 : decode cX6_soBy 104 = .ok (.iconst 1, 1) := by decide +kernel
theorem dX6_soBy_105 : decode cX6_soBy 105 = .ok (.iload_n 3, 1) := by decide +kernel
theorem dX6_soBy_106 : decode cX6_soBy 106 = .ok (.ishl, 1) := by decide +kernel
theorem dX6_soBy_107 : decode cX6_soBy 107 = .ok (.ior, 1) := by decide +kernel
theorem dX6_soBy_108 : decode cX6_soBy 108 = .ok (.istore_n 2, 1) := by decide +kernel
theorem dX6_soBy_109 : decode cX6_soBy 109 = .ok (.iinc 3 1, 3) := by decide +kernel
theorem dX6_soBy_112 : decode cX6_soBy 112 = .ok (.goto (-108), 3) := by decide +kernel
theorem dX6_soBy_115 : decode cX6_soBy 115 = .ok (.iload_n 2, 1) := by decide +kernel
theorem dX6_soBy_116 : decode cX6_soBy 116 = .ok (.ireturn, 1) := by decide +kernel
theorem dX6_isSoByGrounds_0 : decode cX6_isSoByGrounds 0 = .ok (.iload_n 0, 1) := by decide +kernel
theorem dX6_isSoByGrounds_1 : decode cX6_isSoByGrounds 1 = .ok (.tableswitch 115 0 3 #[31, 49, 67, 85], 31) := by decide +kernel
theorem dX6_isSoByGrounds_32 : decode cX6_isSoByGrounds 32 = .ok (.iload_n 1, 1) := by decide +kernel
theorem dX6_isSoByGrounds_33 : decode cX6_isSoByGrounds 33 = .ok (.ifCond .eq 15, 3) := by decide +kernel
theorem dX6_isSoByGrounds_36 : decode cX6_isSoByGrounds 36 = .ok (.iload_n 2, 1) := by decide +kernel
theorem dX6_isSoByGrounds_37 : decode cX6_isSoByGrounds 37 = .ok (.ifCond .eq 11, 3) := by decide +kernel
theorem dX6_isSoByGrounds_40 : decode cX6_isSoByGrounds 40 = .ok (.iload_n 3, 1) := by decide +kernel
theorem dX6_isSoByGrounds_41 : decode cX6_isSoByGrounds 41 = .ok (.ifCond .eq 7, 3) := by decide +kernel
theorem dX6_isSoByGrounds_44 : decode cX6_isSoByGrounds 44 = .ok (.iconst 1, 1) := by decide +kernel
theorem dX6_isSoByGrounds_45 : decode cX6_isSoByGrounds 45 = .ok (.goto 4, 3) := by decide +kernel
theorem dX6_isSoByGrounds_48 : decode cX6_isSoByGrounds 48 = .ok (.iconst 0, 1) := by decide +kernel
theorem dX6_isSoByGrounds_49 : decode cX6_isSoByGrounds 49 = .ok (.ireturn, 1) := by decide +kernel
theorem dX6_isSoByGrounds_50 : decode cX6_isSoByGrounds 50 = .ok (.iload_n 1, 1) := by decide +kernel
theorem dX6_isSoByGrounds_51 : decode cX6_isSoByGrounds 51 = .ok (.ifCond .ne 7, 3) := by decide +kernel
theorem dX6_isSoByGrounds_54 : decode cX6_isSoByGrounds 54 = .ok (.iload_n 2, 1) := by decide +kernel
theorem dX6_isSoByGrounds_55 : decode cX6_isSoByGrounds 55 = .ok (.ifCond .eq 11, 3) := by decide +kernel
theorem dX6_isSoByGrounds_58 : decode cX6_isSoByGrounds 58 = .ok (.iload_n 3, 1) := by decide +kernel
theorem dX6_isSoByGrounds_59 : decode cX6_isSoByGrounds 59 = .ok (.ifCond .eq 7, 3) := by decide +kernel
theorem dX6_isSoByGrounds_62 : decode cX6_isSoByGrounds 62 = .ok (.iconst 1, 1) := by decide +kernel
theorem dX6_isSoByGrounds_63 : decode cX6_isSoByGrounds 63 = .ok (.goto 4, 3) := by decide +kernel
theorem dX6_isSoByGrounds_66 : decode cX6_isSoByGrounds 66 = .ok (.iconst 0, 1) := by decide +kernel
theorem dX6_isSoByGrounds_67 : decode cX6_isSoByGrounds 67 = .ok (.ireturn, 1) := by decide +kernel
theorem dX6_isSoByGrounds_68 : decode cX6_isSoByGrounds 68 = .ok (.iload_n 1, 1) := by decide +kernel
theorem dX6_isSoByGrounds_69 : decode cX6_isSoByGrounds 69 = .ok (.ifCond .ne 15, 3) := by decide +kernel
theorem dX6_isSoByGrounds_72 : decode cX6_isSoByGrounds 72 = .ok (.iload_n 2, 1) := by decide +kernel
theorem dX6_isSoByGrounds_73 : decode cX6_isSoByGrounds 73 = .ok (.ifCond .ne 7, 3) := by decide +kernel
theorem dX6_isSoByGrounds_76 : decode cX6_isSoByGrounds 76 = .ok (.iload_n 3, 1) := by decide +kernel
theorem dX6_isSoByGrounds_77 : decode cX6_isSoByGrounds 77 = .ok (.ifCond .eq 7, 3) := by decide +kernel
theorem dX6_isSoByGrounds_80 : decode cX6_isSoByGrounds 80 = .ok (.iconst 1, 1) := by decide +kernel
theorem dX6_isSoByGrounds_81 : decode cX6_isSoByGrounds 81 = .ok (.goto 4, 3) := by decide +kernel
theorem dX6_isSoByGrounds_84 : decode cX6_isSoByGrounds 84 = .ok (.iconst 0, 1) := by decide +kernel
theorem dX6_isSoByGrounds_85 : decode cX6_isSoByGrounds 85 = .ok (.ireturn, 1) := by decide +kernel
theorem dX6_isSoByGrounds_86 : decode cX6_isSoByGrounds 86 = .ok (.iload_n 1, 1) := by decide +kernel
theorem dX6_isSoByGrounds_87 : decode cX6_isSoByGrounds 87 = .ok (.ifCond .eq 7, 3) := by decide +kernel
theorem dX6_isSoByGrounds_90 : decode cX6_isSoByGrounds 90 = .ok (.iload_n 2, 1) := by decide +kernel
theorem dX6_isSoByGrounds_91 : decode cX6_isSoByGrounds 91 = .ok (.ifCond .ne 19, 3) := by decide +kernel
theorem dX6_isSoByGrounds_94 : decode cX6_isSoByGrounds 94 = .ok (.iload_n 1, 1) := by decide +kernel
theorem dX6_isSoByGrounds_95 : decode cX6_isSoByGrounds 95 = .ok (.ifCond .eq 7, 3) := by decide +kernel
theorem dX6_isSoByGrounds_98 : decode cX6_isSoByGrounds 98 = .ok (.iload_n 3, 1) := by decide +kernel
theorem dX6_isSoByGrounds_99 : decode cX6_isSoByGrounds 99 = .ok (.ifCond .ne 11, 3) := by decide +kernel
theorem dX6_isSoByGrounds_102 : decode cX6_isSoByGrounds 102 = .ok (.iload_n 2, 1) := by decide +kernel
theorem dX6_isSoByGrounds_103 : decode cX6_isSoByGrounds 103 = .ok (.ifCond .eq 11, 3) := by decide +kernel
theorem dX6_isSoByGrounds_106 : decode cX6_isSoByGrounds 106 = .ok (.iload_n 3, 1) := by decide +kernel
theorem dX6_isSoByGrounds_107 : decode cX6_isSoByGrounds 107 = .ok (.ifCond .eq 7, 3) := by decide +kernel
theorem dX6_isSoByGrounds_110 : decode cX6_isSoByGrounds 110 = .ok (.iconst 1, 1) := by decide +kernel
theorem dX6_isSoByGrounds_111 : decode cX6_isSoByGrounds 111 = .ok (.goto 4, 3) := by decide +kernel
theorem dX6_isSoByGrounds_114 : decode cX6_isSoByGrounds 114 = .ok (.iconst 0, 1) := by decide +kernel
theorem dX6_isSoByGrounds_115 : decode cX6_isSoByGrounds 115 = .ok (.ireturn, 1) := by decide +kernel
theorem dX6_isSoByGrounds_116 : decode cX6_isSoByGrounds 116 = .ok (.iconst 0, 1) := by decide +kernel
theorem dX6_isSoByGrounds_117 : decode cX6_isSoByGrounds 117 = .ok (.ireturn, 1) := by decide +kernel
theorem dX7_init_0 : decode cX7_init 0 = .ok (.aload_n 0, 1) := by decide +kernel
theorem dX7_init_1 : decode cX7_init 1 = .ok (.invokespecial 3, 3) := by decide +kernel
theorem dX7_init_4 : decode cX7_init 4 = .ok (.aload_n 0, 1) := by decide +kernel
theorem dX7_init_5 : decode cX7_init 5 = .ok (.new 9, 3) := by decide +kernel
theorem dX7_init_8 : decode cX7_init 8 = .ok (.dup, 1) := by decide +kernel
theorem dX7_init_9 : decode cX7_init 9 = .ok (.invokespecial 11, 3) := by decide +kernel
theorem dX7_init_12 : decode cX7_init 12 = .ok (.putfield 12, 3) := by decide +kernel
theorem dX7_init_15 : decode cX7_init 15 = .ok (.aload_n 0, 1) := by decide +kernel
theorem dX7_init_16 : decode cX7_init 16 = .ok (.new 16, 3) := by decide +kernel
theorem dX7_init_19 : decode cX7_init 19 = .ok (.dup, 1) := by decide +kernel
theorem dX7_init_20 : decode cX7_init 20 = .ok (.invokespecial 18, 3) := by decide +kernel
theorem dX7_init_23 : decode cX7_init 23 = .ok (.putfield 19, 3) := by decide +kernel
theorem dX7_init_26 : decode cX7_init 26 = .ok (.aload_n 0, 1) := by decide +kernel
theorem dX7_init_27 : decode cX7_init 27 = .ok (.new 23, 3) := by decide +kernel
theorem dX7_init_30 : decode cX7_init 30 = .ok (.dup, 1) := by decide +kernel
theorem dX7_init_31 : decode cX7_init 31 = .ok (.invokespecial 25, 3) := by decide +kernel
theorem dX7_init_34 : decode cX7_init 34 = .ok (.putfield 26, 3) := by decide +kernel
theorem dX7_init_37 : decode cX7_init 37 = .ok (.aload_n 0, 1) := by decide +kernel
theorem dX7_init_38 : decode cX7_init 38 = .ok (.new 23, 3) := by decide +kernel
theorem dX7_init_41 : decode cX7_init 41 = .ok (.dup, 1) := by decide +kernel
theorem dX7_init_42 : decode cX7_init 42 = .ok (.invokespecial 25, 3) := by decide +kernel
theorem dX7_init_45 : decode cX7_init 45 = .ok (.putfield 30, 3) := by decide +kernel
theorem dX7_init_48 : decode cX7_init 48 = .ok (.aload_n 0, 1) := by decide +kernel
theorem dX7_init_49 : decode cX7_init 49 = .ok (.new 33, 3) := by decide +kernel
theorem dX7_init_52 : decode cX7_init 52 = .ok (.dup, 1) := by decide +kernel
theorem dX7_init_53 : decode cX7_init 53 = .ok (.invokespecial 35, 3) := by decide +kernel
theorem dX7_init_56 : decode cX7_init 56 = .ok (.putfield 36, 3) := by decide +kernel
theorem dX7_init_59 : decode cX7_init 59 = .ok (.aload_n 0, 1) := by decide +kernel
theorem dX7_init_60 : decode cX7_init 60 = .ok (.new 40, 3) := by decide +kernel
theorem dX7_init_63 : decode cX7_init 63 = .ok (.dup, 1) := by decide +kernel
theorem dX7_init_64 : decode cX7_init 64 = .ok (.invokespecial 42, 3) := by decide +kernel
theorem dX7_init_67 : decode cX7_init 67 = .ok (.putfield 43, 3) := by decide +kernel
theorem dX7_init_70 : decode cX7_init 70 = .ok (.aload_n 0, 1) := by decide +kernel
theorem dX7_init_71 : decode cX7_init 71 = .ok (.new 47, 3) := by decide +kernel
theorem dX7_init_74 : decode cX7_init 74 = .ok (.dup, 1) := by decide +kernel
theorem dX7_init_75 : decode cX7_init 75 = .ok (.invokespecial 49, 3) := by decide +kernel
theorem dX7_init_78 : decode cX7_init 78 = .ok (.putfield 50, 3) := by decide +kernel
theorem dX7_init_81 : decode cX7_init 81 = .ok (.aload_n 0, 1) := by decide +kernel
theorem dX7_init_82 : decode cX7_init 82 = .ok (.new 54, 3) := by decide +kernel
theorem dX7_init_85 : decode cX7_init 85 = .ok (.dup, 1) := by decide +kernel
theorem dX7_init_86 : decode cX7_init 86 = .ok (.invokespecial 56, 3) := by decide +kernel
theorem dX7_init_89 : decode cX7_init 89 = .ok (.putfield 57, 3) := by decide +kernel
theorem dX7_init_92 : decode cX7_init 92 = .ok (.return_, 1) := by decide +kernel
theorem dX7_write_0 : decode cX7_write 0 = .ok (.iload_n 1, 1) := by decide +kernel
theorem dX7_write_1 : decode cX7_write 1 = .ok (.ifCond .lt 10, 3) := by decide +kernel
theorem dX7_write_4 : decode cX7_write 4 = .ok (.iload_n 1, 1) := by decide +kernel
theorem dX7_write_5 : decode cX7_write 5 = .ok (.sipush 255, 3) := by decide +kernel
theorem dX7_write_8 : decode cX7_write 8 = .ok (.if_icmp .le 6, 3) := by decide +kernel
theorem dX7_write_11 : decode cX7_write 11 = .ok (.bipush (-2), 2) := by decide +kernel
theorem dX7_write_13 : decode cX7_write 13 = .ok (.ireturn, 1) := by decide +kernel
theorem dX7_write_14 : decode cX7_write 14 = .ok (.aload_n 0, 1) := by decide +kernel
theorem dX7_write_15 : decode cX7_write 15 = .ok (.getfield 12, 3) := by decide +kernel
theorem dX7_write_18 : decode cX7_write 18 = .ok (.iload_n 1, 1) := by decide +kernel
theorem dX7_write_19 : decode cX7_write 19 = .ok (.invokevirtual 61, 3) := by decide +kernel
theorem dX7_write_22 : decode cX7_write 22 = .ok (.ireturn, 1) := by decide +kernel
theorem dX7_wipe_0 : decode cX7_wipe 0 = .ok (.aload_n 0, 1) := by decide +kernel
theorem dX7_wipe_1 : decode cX7_wipe 1 = .ok (.getfield 12, 3) := by decide +kernel
theorem dX7_wipe_4 : decode cX7_wipe 4 = .ok (.invokevirtual 65, 3) := by decide +kernel
theorem dX7_wipe_7 : decode cX7_wipe 7 = .ok (.ireturn, 1) := by decide +kernel
theorem dX7_fault_0 : decode cX7_fault 0 = .ok (.aload_n 0, 1) := by decide +kernel
theorem dX7_fault_1 : decode cX7_fault 1 = .ok (.getfield 19, 3) := by decide +kernel
theorem dX7_fault_4 : decode cX7_fault 4 = .ok (.aload_n 0, 1) := by decide +kernel
theorem dX7_fault_5 : decode cX7_fault 5 = .ok (.getfield 12, 3) := by decide +kernel
theorem dX7_fault_8 : decode cX7_fault 8 = .ok (.invokevirtual 69, 3) := by decide +kernel
theorem dX7_fault_11 : decode cX7_fault 11 = .ok (.ireturn, 1) := by decide +kernel
theorem dX7_town_0 : decode cX7_town 0 = .ok (.aload_n 0, 1) := by decide +kernel
theorem dX7_town_1 : decode cX7_town 1 = .ok (.getfield 19, 3) := by decide +kernel
theorem dX7_town_4 : decode cX7_town 4 = .ok (.aload_n 0, 1) := by decide +kernel
theorem dX7_town_5 : decode cX7_town 5 = .ok (.getfield 12, 3) := by decide +kernel
theorem dX7_town_8 : decode cX7_town 8 = .ok (.invokevirtual 69, 3) := by decide +kernel
theorem dX7_town_11 : decode cX7_town 11 = .ok (.bipush (-9), 2) := by decide +kernel
theorem dX7_town_13 : decode cX7_town 13 = .ok (.if_icmp .eq 6, 3) := by decide +kernel
theorem dX7_town_16 : decode cX7_town 16 = .ok (.bipush (-3), 2) := by decide +kernel
theorem dX7_town_18 : decode cX7_town 18 = .ok (.ireturn, 1) := by decide +kernel
theorem dX7_town_19 : decode cX7_town 19 = .ok (.aload_n 0, 1) := by decide +kernel
theorem dX7_town_20 : decode cX7_town 20 = .ok (.getfield 26, 3) := by decide +kernel
theorem dX7_town_23 : decode cX7_town 23 = .ok (.aload_n 0, 1) := by decide +kernel
theorem dX7_town_24 : decode cX7_town 24 = .ok (.getfield 19, 3) := by decide +kernel
theorem dX7_town_27 : decode cX7_town 27 = .ok (.getfield 73, 3) := by decide +kernel
theorem dX7_town_30 : decode cX7_town 30 = .ok (.invokevirtual 74, 3) := by decide +kernel
theorem dX7_town_33 : decode cX7_town 33 = .ok (.aload_n 0, 1) := by decide +kernel
theorem dX7_town_34 : decode cX7_town 34 = .ok (.getfield 36, 3) := by decide +kernel
theorem dX7_town_37 : decode cX7_town 37 = .ok (.aload_n 0, 1) := by decide +kernel
theorem dX7_town_38 : decode cX7_town 38 = .ok (.getfield 19, 3) := by decide +kernel
theorem dX7_town_41 : decode cX7_town 41 = .ok (.getfield 78, 3) := by decide +kernel
theorem dX7_town_44 : decode cX7_town 44 = .ok (.invokevirtual 79, 3) := by decide +kernel
theorem dX7_town_47 : decode cX7_town 47 = .ok (.aload_n 0, 1) := by decide +kernel
theorem dX7_town_48 : decode cX7_town 48 = .ok (.getfield 43, 3) := by decide +kernel
theorem dX7_town_51 : decode cX7_town 51 = .ok (.invokevirtual 82, 3) := by decide +kernel
theorem dX7_town_54 : decode cX7_town 54 = .ok (.aload_n 0, 1) := by decide +kernel
theorem dX7_town_55 : decode cX7_town 55 = .ok (.getfield 57, 3) := by decide +kernel
theorem dX7_town_58 : decode cX7_town 58 = .ok (.invokevirtual 85, 3) := by decide +kernel
theorem dX7_town_61 : decode cX7_town 61 = .ok (.bipush 10, 2) := by decide +kernel
theorem dX7_town_63 : decode cX7_town 63 = .ok (.aload_n 0, 1) := by decide +kernel
theorem dX7_town_64 : decode cX7_town 64 = .ok (.getfield 26, 3) := by decide +kernel
theorem dX7_town_67 : decode cX7_town 67 = .ok (.invokevirtual 86, 3) := by decide +kernel
theorem dX7_town_70 : decode cX7_town 70 = .ok (.invokestatic 89, 3) := by decide +kernel
theorem dX7_town_73 : decode cX7_town 73 = .ok (.imul, 1) := by decide +kernel
theorem dX7_town_74 : decode cX7_town 74 = .ok (.aload_n 0, 1) := by decide +kernel
theorem dX7_town_75 : decode cX7_town 75 = .ok (.getfield 36, 3) := by decide +kernel
theorem dX7_town_78 : decode cX7_town 78 = .ok (.getfield 94, 3) := by decide +kernel
theorem dX7_town_81 : decode cX7_town 81 = .ok (.iadd, 1) := by decide +kernel
theorem dX7_town_82 : decode cX7_town 82 = .ok (.ireturn, 1) := by decide +kernel
theorem dX7_about_0 : decode cX7_about 0 = .ok (.iload_n 1, 1) := by decide +kernel
theorem dX7_about_1 : decode cX7_about 1 = .ok (.tableswitch 130 0 8 #[51, 59, 67, 75, 83, 91, 106, 114, 122], 51) := by decide +kernel
theorem dX7_about_52 : decode cX7_about 52 = .ok (.aload_n 0, 1) := by decide +kernel
theorem dX7_about_53 : decode cX7_about 53 = .ok (.getfield 36, 3) := by decide +kernel
theorem dX7_about_56 : decode cX7_about 56 = .ok (.getfield 94, 3) := by decide +kernel
theorem dX7_about_59 : decode cX7_about 59 = .ok (.ireturn, 1) := by decide +kernel
theorem dX7_about_60 : decode cX7_about 60 = .ok (.aload_n 0, 1) := by decide +kernel
theorem dX7_about_61 : decode cX7_about 61 = .ok (.getfield 26, 3) := by decide +kernel
theorem dX7_about_64 : decode cX7_about 64 = .ok (.getfield 98, 3) := by decide +kernel
theorem dX7_about_67 : decode cX7_about 67 = .ok (.ireturn, 1) := by decide +kernel
theorem dX7_about_68 : decode cX7_about 68 = .ok (.aload_n 0, 1) := by decide +kernel
theorem dX7_about_69 : decode cX7_about 69 = .ok (.getfield 26, 3) := by decide +kernel
theorem dX7_about_72 : decode cX7_about 72 = .ok (.invokevirtual 86, 3) := by decide +kernel
theorem dX7_about_75 : decode cX7_about 75 = .ok (.ireturn, 1) := by decide +kernel
theorem dX7_about_76 : decode cX7_about 76 = .ok (.aload_n 0, 1) := by decide +kernel
theorem dX7_about_77 : decode cX7_about 77 = .ok (.getfield 26, 3) := by decide +kernel
theorem dX7_about_80 : decode cX7_about 80 = .ok (.invokevirtual 101, 3) := by decide +kernel
theorem dX7_about_83 : decode cX7_about 83 = .ok (.ireturn, 1) := by decide +kernel
theorem dX7_about_84 : decode cX7_about 84 = .ok (.aload_n 0, 1) := by decide +kernel
theorem dX7_about_85 : decode cX7_about 85 = .ok (.getfield 26, 3) := by decide +kernel
theorem dX7_about_88 : decode cX7_about 88 = .ok (.invokevirtual 104, 3) := by decide +kernel
theorem dX7_about_91 : decode cX7_about 91 = .ok (.ireturn, 1) := by decide +kernel
theorem dX7_about_92 : decode cX7_about 92 = .ok (.aload_n 0, 1) := by decide +kernel
theorem dX7_about_93 : decode cX7_about 93 = .ok (.getfield 36, 3) := by decide +kernel
theorem dX7_about_96 : decode cX7_about 96 = .ok (.aload_n 0, 1) := by decide +kernel
theorem dX7_about_97 : decode cX7_about 97 = .ok (.getfield 26, 3) := by decide +kernel
theorem dX7_about_100 : decode cX7_about 100 = .ok (.invokevirtual 86, 3) := by decide +kernel
theorem dX7_about_103 : decode cX7_about 103 = .ok (.invokevirtual 107, 3) := by decide +kernel
theorem dX7_about_106 : decode cX7_about 106 = .ok (.ireturn, 1) := by decide +kernel
theorem dX7_about_107 : decode cX7_about 107 = .ok (.aload_n 0, 1) := by decide +kernel
theorem dX7_about_108 : decode cX7_about 108 = .ok (.getfield 43, 3) := by decide +kernel
theorem dX7_about_111 : decode cX7_about 111 = .ok (.getfield 110, 3) := by decide +kernel
theorem dX7_about_114 : decode cX7_about 114 = .ok (.ireturn, 1) := by decide +kernel
theorem dX7_about_115 : decode cX7_about 115 = .ok (.aload_n 0, 1) := by decide +kernel
theorem dX7_about_116 : decode cX7_about 116 = .ok (.getfield 50, 3) := by decide +kernel
theorem dX7_about_119 : decode cX7_about 119 = .ok (.getfield 111, 3) := by decide +kernel
theorem dX7_about_122 : decode cX7_about 122 = .ok (.ireturn, 1) := by decide +kernel
theorem dX7_about_123 : decode cX7_about 123 = .ok (.aload_n 0, 1) := by decide +kernel
theorem dX7_about_124 : decode cX7_about 124 = .ok (.getfield 12, 3) := by decide +kernel
theorem dX7_about_127 : decode cX7_about 127 = .ok (.getfield 112, 3) := by decide +kernel
theorem dX7_about_130 : decode cX7_about 130 = .ok (.ireturn, 1) := by decide +kernel
theorem dX7_about_131 : decode cX7_about 131 = .ok (.bipush (-2), 2) := by decide +kernel
theorem dX7_about_133 : decode cX7_about 133 = .ok (.ireturn, 1) := by decide +kernel
theorem dX7_slip_0 : decode cX7_slip 0 = .ok (.iload_n 1, 1) := by decide +kernel
theorem dX7_slip_1 : decode cX7_slip 1 = .ok (.invokestatic 113, 3) := by decide +kernel
theorem dX7_slip_4 : decode cX7_slip 4 = .ok (.ifCond .ne 5, 3) := by decide +kernel
theorem dX7_slip_7 : decode cX7_slip 7 = .ok (.iconst (-1), 1) := by decide +kernel
theorem dX7_slip_8 : decode cX7_slip 8 = .ok (.ireturn, 1) := by decide +kernel
theorem dX7_slip_9 : decode cX7_slip 9 = .ok (.iload_n 2, 1) := by decide +kernel
theorem dX7_slip_10 : decode cX7_slip 10 = .ok (.tableswitch 63 0 3 #[30, 39, 48, 57], 30) := by decide +kernel
theorem dX7_slip_40 : decode cX7_slip 40 = .ok (.aload_n 0, 1) := by decide +kernel
theorem dX7_slip_41 : decode cX7_slip 41 = .ok (.getfield 26, 3) := by decide +kernel
theorem dX7_slip_44 : decode cX7_slip 44 = .ok (.iload_n 1, 1) := by decide +kernel
theorem dX7_slip_45 : decode cX7_slip 45 = .ok (.invokevirtual 117, 3) := by decide +kernel
theorem dX7_slip_48 : decode cX7_slip 48 = .ok (.ireturn, 1) := by decide +kernel
theorem dX7_slip_49 : decode cX7_slip 49 = .ok (.aload_n 0, 1) := by decide +kernel
theorem dX7_slip_50 : decode cX7_slip 50 = .ok (.getfield 26, 3) := by decide +kernel
theorem dX7_slip_53 : decode cX7_slip 53 = .ok (.iload_n 1, 1) := by decide +kernel
theorem dX7_slip_54 : decode cX7_slip 54 = .ok (.invokevirtual 120, 3) := by decide +kernel
theorem dX7_slip_57 : decode cX7_slip 57 = .ok (.ireturn, 1) := by decide +kernel
theorem dX7_slip_58 : decode cX7_slip 58 = .ok (.aload_n 0, 1) := by decide +kernel
theorem dX7_slip_59 : decode cX7_slip 59 = .ok (.getfield 26, 3) := by decide +kernel
theorem dX7_slip_62 : decode cX7_slip 62 = .ok (.iload_n 1, 1) := by decide +kernel
theorem dX7_slip_63 : decode cX7_slip 63 = .ok (.invokevirtual 123, 3) := by decide +kernel
theorem dX7_slip_66 : decode cX7_slip 66 = .ok (.ireturn, 1) := by decide +kernel
theorem dX7_slip_67 : decode cX7_slip 67 = .ok (.aload_n 0, 1) := by decide +kernel
theorem dX7_slip_68 : decode cX7_slip 68 = .ok (.iload_n 1, 1) := by decide +kernel
theorem dX7_slip_69 : decode cX7_slip 69 = .ok (.invokevirtual 126, 3) := by decide +kernel
theorem dX7_slip_72 : decode cX7_slip 72 = .ok (.ireturn, 1) := by decide +kernel
theorem dX7_slip_73 : decode cX7_slip 73 = .ok (.bipush (-2), 2) := by decide +kernel
theorem dX7_slip_75 : decode cX7_slip 75 = .ok (.ireturn, 1) := by decide +kernel
theorem dX7_spike_0 : decode cX7_spike 0 = .ok (.iload_n 1, 1) := by decide +kernel
theorem dX7_spike_1 : decode cX7_spike 1 = .ok (.invokestatic 129, 3) := by decide +kernel
theorem dX7_spike_4 : decode cX7_spike 4 = .ok (.ifCond .ne 5, 3) := by decide +kernel
theorem dX7_spike_7 : decode cX7_spike 7 = .ok (.iconst (-1), 1) := by decide +kernel
theorem dX7_spike_8 : decode cX7_spike 8 = .ok (.ireturn, 1) := by decide +kernel
theorem dX7_spike_9 : decode cX7_spike 9 = .ok (.iload_n 2, 1) := by decide +kernel
theorem dX7_spike_10 : decode cX7_spike 10 = .ok (.tableswitch 54 0 2 #[26, 35, 45], 26) := by decide +kernel
theorem dX7_spike_36 : decode cX7_spike 36 = .ok (.aload_n 0, 1) := by decide +kernel
theorem dX7_spike_37 : decode cX7_spike 37 = .ok (.getfield 26, 3) := by decide +kernel
theorem dX7_spike_40 : decode cX7_spike 40 = .ok (.iload_n 1, 1) := by decide +kernel
theorem dX7_spike_41 : decode cX7_spike 41 = .ok (.invokevirtual 132, 3) := by decide +kernel
theorem dX7_spike_44 : decode cX7_spike 44 = .ok (.ireturn, 1) := by decide +kernel
theorem dX7_spike_45 : decode cX7_spike 45 = .ok (.aload_n 0, 1) := by decide +kernel
theorem dX7_spike_46 : decode cX7_spike 46 = .ok (.getfield 26, 3) := by decide +kernel
theorem dX7_spike_49 : decode cX7_spike 49 = .ok (.iload_n 1, 1) := by decide +kernel
theorem dX7_spike_50 : decode cX7_spike 50 = .ok (.iconst 0, 1) := by decide +kernel
theorem dX7_spike_51 : decode cX7_spike 51 = .ok (.invokevirtual 135, 3) := by decide +kernel
theorem dX7_spike_54 : decode cX7_spike 54 = .ok (.ireturn, 1) := by decide +kernel
theorem dX7_spike_55 : decode cX7_spike 55 = .ok (.aload_n 0, 1) := by decide +kernel
theorem dX7_spike_56 : decode cX7_spike 56 = .ok (.getfield 26, 3) := by decide +kernel
theorem dX7_spike_59 : decode cX7_spike 59 = .ok (.iload_n 1, 1) := by decide +kernel
theorem dX7_spike_60 : decode cX7_spike 60 = .ok (.invokevirtual 139, 3) := by decide +kernel
theorem dX7_spike_63 : decode cX7_spike 63 = .ok (.ireturn, 1) := by decide +kernel
theorem dX7_spike_64 : decode cX7_spike 64 = .ok (.bipush (-2), 2) := by decide +kernel
theorem dX7_spike_66 : decode cX7_spike 66 = .ok (.ireturn, 1) := by decide +kernel
theorem dX7_thing_0 : decode cX7_thing 0 = .ok (.aload_n 0, 1) := by decide +kernel
theorem dX7_thing_1 : decode cX7_thing 1 = .ok (.getfield 36, 3) := by decide +kernel
theorem dX7_thing_4 : decode cX7_thing 4 = .ok (.iload_n 1, 1) := by decide +kernel
theorem dX7_thing_5 : decode cX7_thing 5 = .ok (.invokevirtual 142, 3) := by decide +kernel
theorem dX7_thing_8 : decode cX7_thing 8 = .ok (.ifCond .ne 5, 3) := by decide +kernel
theorem dX7_thing_11 : decode cX7_thing 11 = .ok (.iconst (-1), 1) := by decide +kernel
theorem dX7_thing_12 : decode cX7_thing 12 = .ok (.ireturn, 1) := by decide +kernel
theorem dX7_thing_13 : decode cX7_thing 13 = .ok (.iload_n 2, 1) := by decide +kernel
theorem dX7_thing_14 : decode cX7_thing 14 = .ok (.tableswitch 79 0 4 #[34, 43, 43, 43, 55], 34) := by decide +kernel
theorem dX7_thing_48 : decode cX7_thing 48 = .ok (.aload_n 0, 1) := by decide +kernel
theorem dX7_thing_49 : decode cX7_thing 49 = .ok (.getfield 36, 3) := by decide +kernel
theorem dX7_thing_52 : decode cX7_thing 52 = .ok (.iload_n 1, 1) := by decide +kernel
theorem dX7_thing_53 : decode cX7_thing 53 = .ok (.invokevirtual 145, 3) := by decide +kernel
theorem dX7_thing_56 : decode cX7_thing 56 = .ok (.ireturn, 1) := by decide +kernel
theorem dX7_thing_57 : decode cX7_thing 57 = .ok (.aload_n 0, 1) := by decide +kernel
theorem dX7_thing_58 : decode cX7_thing 58 = .ok (.getfield 36, 3) := by decide +kernel
theorem dX7_thing_61 : decode cX7_thing 61 = .ok (.iload_n 1, 1) := by decide +kernel
theorem dX7_thing_62 : decode cX7_thing 62 = .ok (.iload_n 2, 1) := by decide +kernel
theorem dX7_thing_63 : decode cX7_thing 63 = .ok (.iconst 1, 1) := by decide +kernel
theorem dX7_thing_64 : decode cX7_thing 64 = .ok (.isub, 1) := by decide +kernel
theorem dX7_thing_65 : decode cX7_thing 65 = .ok (.invokevirtual 148, 3) := by decide +kernel
theorem dX7_thing_68 : decode cX7_thing 68 = .ok (.ireturn, 1) := by decide +kernel
theorem dX7_thing_69 : decode cX7_thing 69 = .ok (.aload_n 0, 1) := by decide +kernel
theorem dX7_thing_70 : decode cX7_thing 70 = .ok (.getfield 36, 3) := by decide +kernel
theorem dX7_thing_73 : decode cX7_thing 73 = .ok (.iload_n 1, 1) := by decide +kernel
theorem dX7_thing_74 : decode cX7_thing 74 = .ok (.aload_n 0, 1) := by decide +kernel
theorem dX7_thing_75 : decode cX7_thing 75 = .ok (.getfield 26, 3) := by decide +kernel
theorem dX7_thing_78 : decode cX7_thing 78 = .ok (.invokevirtual 86, 3) := by decide +kernel
theorem dX7_thing_81 : decode cX7_thing 81 = .ok (.invokevirtual 151, 3) := by decide +kernel
theorem dX7_thing_84 : decode cX7_thing 84 = .ok (.ifCond .eq 7, 3) := by decide +kernel
theorem dX7_thing_87 : decode cX7_thing 87 = .ok (.iconst 1, 1) := by decide +kernel
theorem dX7_thing_88 : decode cX7_thing 88 = .ok (.goto 4, 3) := by decide +kernel
theorem dX7_thing_91 : decode cX7_thing 91 = .ok (.iconst 0, 1) := by decide +kernel
theorem dX7_thing_92 : decode cX7_thing 92 = .ok (.ireturn, 1) := by decide +kernel
theorem dX7_thing_93 : decode cX7_thing 93 = .ok (.bipush (-2), 2) := by decide +kernel
theorem dX7_thing_95 : decode cX7_thing 95 = .ok (.ireturn, 1) := by decide +kernel
theorem dX7_put_0 : decode cX7_put 0 = .ok (.aload_n 0, 1) := by decide +kernel
theorem dX7_put_1 : decode cX7_put 1 = .ok (.aload_n 0, 1) := by decide +kernel
theorem dX7_put_2 : decode cX7_put 2 = .ok (.getfield 26, 3) := by decide +kernel
theorem dX7_put_5 : decode cX7_put 5 = .ok (.invokevirtual 155, 3) := by decide +kernel
theorem dX7_put_8 : decode cX7_put 8 = .ok (.aload_n 0, 1) := by decide +kernel
theorem dX7_put_9 : decode cX7_put 9 = .ok (.getfield 26, 3) := by decide +kernel
theorem dX7_put_12 : decode cX7_put 12 = .ok (.iload_n 1, 1) := by decide +kernel
theorem dX7_put_13 : decode cX7_put 13 = .ok (.iload_n 2, 1) := by decide +kernel
theorem dX7_put_14 : decode cX7_put 14 = .ok (.invokevirtual 159, 3) := by decide +kernel
theorem dX7_put_17 : decode cX7_put 17 = .ok (.invokevirtual 162, 3) := by decide +kernel
theorem dX7_put_20 : decode cX7_put 20 = .ok (.ireturn, 1) := by decide +kernel
theorem dX7_take_0 : decode cX7_take 0 = .ok (.aload_n 0, 1) := by decide +kernel
theorem dX7_take_1 : decode cX7_take 1 = .ok (.aload_n 0, 1) := by decide +kernel
theorem dX7_take_2 : decode cX7_take 2 = .ok (.getfield 26, 3) := by decide +kernel
theorem dX7_take_5 : decode cX7_take 5 = .ok (.invokevirtual 155, 3) := by decide +kernel
theorem dX7_take_8 : decode cX7_take 8 = .ok (.aload_n 0, 1) := by decide +kernel
theorem dX7_take_9 : decode cX7_take 9 = .ok (.getfield 26, 3) := by decide +kernel
theorem dX7_take_12 : decode cX7_take 12 = .ok (.iload_n 1, 1) := by decide +kernel
theorem dX7_take_13 : decode cX7_take 13 = .ok (.invokevirtual 166, 3) := by decide +kernel
theorem dX7_take_16 : decode cX7_take 16 = .ok (.invokevirtual 162, 3) := by decide +kernel
theorem dX7_take_19 : decode cX7_take 19 = .ok (.ireturn, 1) := by decide +kernel
theorem dX7_tear_0 : decode cX7_tear 0 = .ok (.aload_n 0, 1) := by decide +kernel
theorem dX7_tear_1 : decode cX7_tear 1 = .ok (.aload_n 0, 1) := by decide +kernel
theorem dX7_tear_2 : decode cX7_tear 2 = .ok (.getfield 26, 3) := by decide +kernel
theorem dX7_tear_5 : decode cX7_tear 5 = .ok (.invokevirtual 155, 3) := by decide +kernel
theorem dX7_tear_8 : decode cX7_tear 8 = .ok (.aload_n 0, 1) := by decide +kernel
theorem dX7_tear_9 : decode cX7_tear 9 = .ok (.getfield 26, 3) := by decide +kernel
theorem dX7_tear_12 : decode cX7_tear 12 = .ok (.iload_n 1, 1) := by decide +kernel
theorem dX7_tear_13 : decode cX7_tear 13 = .ok (.invokevirtual 169, 3) := by decide +kernel
theorem dX7_tear_16 : decode cX7_tear 16 = .ok (.invokevirtual 162, 3) := by decide +kernel
theorem dX7_tear_19 : decode cX7_tear 19 = .ok (.ireturn, 1) := by decide +kernel
theorem dX7_forge_0 : decode cX7_forge 0 = .ok (.aload_n 0, 1) := by decide +kernel
theorem dX7_forge_1 : decode cX7_forge 1 = .ok (.aload_n 0, 1) := by decide +kernel
theorem dX7_forge_2 : decode cX7_forge 2 = .ok (.getfield 26, 3) := by decide +kernel
theorem dX7_forge_5 : decode cX7_forge 5 = .ok (.invokevirtual 155, 3) := by decide +kernel
theorem dX7_forge_8 : decode cX7_forge 8 = .ok (.aload_n 0, 1) := by decide +kernel
theorem dX7_forge_9 : decode cX7_forge 9 = .ok (.getfield 26, 3) := by decide +kernel
theorem dX7_forge_12 : decode cX7_forge 12 = .ok (.iload_n 1, 1) := by decide +kernel
theorem dX7_forge_13 : decode cX7_forge 13 = .ok (.invokevirtual 172, 3) := by decide +kernel
theorem dX7_forge_16 : decode cX7_forge 16 = .ok (.invokevirtual 162, 3) := by decide +kernel
theorem dX7_forge_19 : decode cX7_forge 19 = .ok (.ireturn, 1) := by decide +kernel
theorem dX7_night_0 : decode cX7_night 0 = .ok (.aload_n 0, 1) := by decide +kernel
theorem dX7_night_1 : decode cX7_night 1 = .ok (.aload_n 0, 1) := by decide +kernel
theorem dX7_night_2 : decode cX7_night 2 = .ok (.getfield 26, 3) := by decide +kernel
theorem dX7_night_5 : decode cX7_night 5 = .ok (.invokevirtual 155, 3) := by decide +kernel
theorem dX7_night_8 : decode cX7_night 8 = .ok (.aload_n 0, 1) := by decide +kernel
theorem dX7_night_9 : decode cX7_night 9 = .ok (.getfield 26, 3) := by decide +kernel
theorem dX7_night_12 : decode cX7_night 12 = .ok (.invokevirtual 175, 3) := by decide +kernel
theorem dX7_night_15 : decode cX7_night 15 = .ok (.invokevirtual 162, 3) := by decide +kernel
theorem dX7_night_18 : decode cX7_night 18 = .ok (.ireturn, 1) := by decide +kernel
theorem dX7_audit_0 : decode cX7_audit 0 = .ok (.aload_n 0, 1) := by decide +kernel
theorem dX7_audit_1 : decode cX7_audit 1 = .ok (.aload_n 0, 1) := by decide +kernel
theorem dX7_audit_2 : decode cX7_audit 2 = .ok (.getfield 26, 3) := by decide +kernel
theorem dX7_audit_5 : decode cX7_audit 5 = .ok (.invokevirtual 155, 3) := by decide +kernel
theorem dX7_audit_8 : decode cX7_audit 8 = .ok (.aload_n 0, 1) := by decide +kernel
theorem dX7_audit_9 : decode cX7_audit 9 = .ok (.getfield 26, 3) := by decide +kernel
theorem dX7_audit_12 : decode cX7_audit 12 = .ok (.iload_n 1, 1) := by decide +kernel
theorem dX7_audit_13 : decode cX7_audit 13 = .ok (.invokevirtual 178, 3) := by decide +kernel
theorem dX7_audit_16 : decode cX7_audit 16 = .ok (.invokevirtual 162, 3) := by decide +kernel
theorem dX7_audit_19 : decode cX7_audit 19 = .ok (.ireturn, 1) := by decide +kernel
theorem dX7_undo_0 : decode cX7_undo 0 = .ok (.aload_n 0, 1) := by decide +kernel
theorem dX7_undo_1 : decode cX7_undo 1 = .ok (.getfield 43, 3) := by decide +kernel
theorem dX7_undo_4 : decode cX7_undo 4 = .ok (.getfield 110, 3) := by decide +kernel
theorem dX7_undo_7 : decode cX7_undo 7 = .ok (.ifCond .ne 6, 3) := by decide +kernel
theorem dX7_undo_10 : decode cX7_undo 10 = .ok (.bipush (-3), 2) := by decide +kernel
theorem dX7_undo_12 : decode cX7_undo 12 = .ok (.ireturn, 1) := by decide +kernel
theorem dX7_undo_13 : decode cX7_undo 13 = .ok (.aload_n 0, 1) := by decide +kernel
theorem dX7_undo_14 : decode cX7_undo 14 = .ok (.getfield 26, 3) := by decide +kernel
theorem dX7_undo_17 : decode cX7_undo 17 = .ok (.aload_n 0, 1) := by decide +kernel
theorem dX7_undo_18 : decode cX7_undo 18 = .ok (.getfield 43, 3) := by decide +kernel
theorem dX7_undo_21 : decode cX7_undo 21 = .ok (.invokevirtual 181, 3) := by decide +kernel
theorem dX7_undo_24 : decode cX7_undo 24 = .ok (.invokevirtual 184, 3) := by decide +kernel
theorem dX7_undo_27 : decode cX7_undo 27 = .ok (.aload_n 0, 1) := by decide +kernel
theorem dX7_undo_28 : decode cX7_undo 28 = .ok (.getfield 43, 3) := by decide +kernel
theorem dX7_undo_31 : decode cX7_undo 31 = .ok (.getfield 110, 3) := by decide +kernel
theorem dX7_undo_34 : decode cX7_undo 34 = .ok (.ireturn, 1) := by decide +kernel
theorem dX7_later_0 : decode cX7_later 0 = .ok (.iload_n 1, 1) := by decide +kernel
theorem dX7_later_1 : decode cX7_later 1 = .ok (.ifCond .lt 9, 3) := by decide +kernel
theorem dX7_later_4 : decode cX7_later 4 = .ok (.iload_n 1, 1) := by decide +kernel
theorem dX7_later_5 : decode cX7_later 5 = .ok (.bipush 20, 2) := by decide +kernel
theorem dX7_later_7 : decode cX7_later 7 = .ok (.if_icmp .le 6, 3) := by decide +kernel
theorem dX7_later_10 : decode cX7_later 10 = .ok (.bipush (-2), 2) := by decide +kernel
theorem dX7_later_12 : decode cX7_later 12 = .ok (.ireturn, 1) := by decide +kernel
theorem dX7_later_13 : decode cX7_later 13 = .ok (.aload_n 0, 1) := by decide +kernel
theorem dX7_later_14 : decode cX7_later 14 = .ok (.getfield 30, 3) := by decide +kernel
theorem dX7_later_17 : decode cX7_later 17 = .ok (.aload_n 0, 1) := by decide +kernel
theorem dX7_later_18 : decode cX7_later 18 = .ok (.getfield 26, 3) := by decide +kernel
theorem dX7_later_21 : decode cX7_later 21 = .ok (.invokevirtual 74, 3) := by decide +kernel
theorem dX7_later_24 : decode cX7_later 24 = .ok (.iconst 0, 1) := by decide +kernel
theorem dX7_later_25 : decode cX7_later 25 = .ok (.istore_n 2, 1) := by decide +kernel
theorem dX7_later_26 : decode cX7_later 26 = .ok (.iload_n 2, 1) := by decide +kernel
theorem dX7_later_27 : decode cX7_later 27 = .ok (.iload_n 1, 1) := by decide +kernel
theorem dX7_later_28 : decode cX7_later 28 = .ok (.if_icmp .ge 17, 3) := by decide +kernel
theorem dX7_later_31 : decode cX7_later 31 = .ok (.aload_n 0, 1) := by decide +kernel
theorem dX7_later_32 : decode cX7_later 32 = .ok (.getfield 30, 3) := by decide +kernel
theorem dX7_later_35 : decode cX7_later 35 = .ok (.invokevirtual 175, 3) := by decide +kernel
theorem dX7_later_38 : decode cX7_later 38 = .ok (.pop, 1) := by decide +kernel
theorem dX7_later_39 : decode cX7_later 39 = .ok (.iinc 2 1, 3) := by decide +kernel
theorem dX7_later_42 : decode cX7_later 42 = .ok (.goto (-16), 3) := by decide +kernel
theorem dX7_later_45 : decode cX7_later 45 = .ok (.aload_n 0, 1) := by decide +kernel
theorem dX7_later_46 : decode cX7_later 46 = .ok (.getfield 36, 3) := by decide +kernel
theorem dX7_later_49 : decode cX7_later 49 = .ok (.aload_n 0, 1) := by decide +kernel
theorem dX7_later_50 : decode cX7_later 50 = .ok (.getfield 30, 3) := by decide +kernel
theorem dX7_later_53 : decode cX7_later 53 = .ok (.invokevirtual 86, 3) := by decide +kernel
theorem dX7_later_56 : decode cX7_later 56 = .ok (.invokevirtual 107, 3) := by decide +kernel
theorem dX7_later_59 : decode cX7_later 59 = .ok (.ireturn, 1) := by decide +kernel
theorem dX7_lasts_0 : decode cX7_lasts 0 = .ok (.aload_n 0, 1) := by decide +kernel
theorem dX7_lasts_1 : decode cX7_lasts 1 = .ok (.getfield 36, 3) := by decide +kernel
theorem dX7_lasts_4 : decode cX7_lasts 4 = .ok (.iload_n 1, 1) := by decide +kernel
theorem dX7_lasts_5 : decode cX7_lasts 5 = .ok (.invokevirtual 142, 3) := by decide +kernel
theorem dX7_lasts_8 : decode cX7_lasts 8 = .ok (.ifCond .ne 5, 3) := by decide +kernel
theorem dX7_lasts_11 : decode cX7_lasts 11 = .ok (.iconst (-1), 1) := by decide +kernel
theorem dX7_lasts_12 : decode cX7_lasts 12 = .ok (.ireturn, 1) := by decide +kernel
theorem dX7_lasts_13 : decode cX7_lasts 13 = .ok (.aload_n 0, 1) := by decide +kernel
theorem dX7_lasts_14 : decode cX7_lasts 14 = .ok (.getfield 36, 3) := by decide +kernel
theorem dX7_lasts_17 : decode cX7_lasts 17 = .ok (.iload_n 1, 1) := by decide +kernel
theorem dX7_lasts_18 : decode cX7_lasts 18 = .ok (.aload_n 0, 1) := by decide +kernel
theorem dX7_lasts_19 : decode cX7_lasts 19 = .ok (.getfield 26, 3) := by decide +kernel
theorem dX7_lasts_22 : decode cX7_lasts 22 = .ok (.invokevirtual 86, 3) := by decide +kernel
theorem dX7_lasts_25 : decode cX7_lasts 25 = .ok (.invokevirtual 151, 3) := by decide +kernel
theorem dX7_lasts_28 : decode cX7_lasts 28 = .ok (.ifCond .ne 6, 3) := by decide +kernel
theorem dX7_lasts_31 : decode cX7_lasts 31 = .ok (.bipush (-3), 2) := by decide +kernel
theorem dX7_lasts_33 : decode cX7_lasts 33 = .ok (.ireturn, 1) := by decide +kernel
theorem dX7_lasts_34 : decode cX7_lasts 34 = .ok (.aload_n 0, 1) := by decide +kernel
theorem dX7_lasts_35 : decode cX7_lasts 35 = .ok (.getfield 30, 3) := by decide +kernel
theorem dX7_lasts_38 : decode cX7_lasts 38 = .ok (.aload_n 0, 1) := by decide +kernel
theorem dX7_lasts_39 : decode cX7_lasts 39 = .ok (.getfield 26, 3) := by decide +kernel
theorem dX7_lasts_42 : decode cX7_lasts 42 = .ok (.invokevirtual 74, 3) := by decide +kernel
theorem dX7_lasts_45 : decode cX7_lasts 45 = .ok (.iconst 1, 1) := by decide +kernel
theorem dX7_lasts_46 : decode cX7_lasts 46 = .ok (.istore_n 2, 1) := by decide +kernel
theorem dX7_lasts_47 : decode cX7_lasts 47 = .ok (.iload_n 2, 1) := by decide +kernel
theorem dX7_lasts_48 : decode cX7_lasts 48 = .ok (.bipush 20, 2) := by decide +kernel
theorem dX7_lasts_50 : decode cX7_lasts 50 = .ok (.if_icmp .gt 37, 3) := by decide +kernel
theorem dX7_lasts_53 : decode cX7_lasts 53 = .ok (.aload_n 0, 1) := by decide +kernel
theorem dX7_lasts_54 : decode cX7_lasts 54 = .ok (.getfield 30, 3) := by decide +kernel
theorem dX7_lasts_57 : decode cX7_lasts 57 = .ok (.invokevirtual 175, 3) := by decide +kernel
theorem dX7_lasts_60 : decode cX7_lasts 60 = .ok (.pop, 1) := by decide +kernel
theorem dX7_lasts_61 : decode cX7_lasts 61 = .ok (.aload_n 0, 1) := by decide +kernel
theorem dX7_lasts_62 : decode cX7_lasts 62 = .ok (.getfield 36, 3) := by decide +kernel
theorem dX7_lasts_65 : decode cX7_lasts 65 = .ok (.iload_n 1, 1) := by decide +kernel
theorem dX7_lasts_66 : decode cX7_lasts 66 = .ok (.aload_n 0, 1) := by decide +kernel
theorem dX7_lasts_67 : decode cX7_lasts 67 = .ok (.getfield 30, 3) := by decide +kernel
theorem dX7_lasts_70 : decode cX7_lasts 70 = .ok (.invokevirtual 86, 3) := by decide +kernel
theorem dX7_lasts_73 : decode cX7_lasts 73 = .ok (.invokevirtual 151, 3) := by decide +kernel
theorem dX7_lasts_76 : decode cX7_lasts 76 = .ok (.ifCond .ne 5, 3) := by decide +kernel
theorem dX7_lasts_79 : decode cX7_lasts 79 = .ok (.iload_n 2, 1) := by decide +kernel
theorem dX7_lasts_80 : decode cX7_lasts 80 = .ok (.ireturn, 1) := by decide +kernel
theorem dX7_lasts_81 : decode cX7_lasts 81 = .ok (.iinc 2 1, 3) := by decide +kernel
theorem dX7_lasts_84 : decode cX7_lasts 84 = .ok (.goto (-37), 3) := by decide +kernel
theorem dX7_lasts_87 : decode cX7_lasts 87 = .ok (.bipush (-9), 2) := by decide +kernel
theorem dX7_lasts_89 : decode cX7_lasts 89 = .ok (.ireturn, 1) := by decide +kernel
theorem dX7_wants_0 : decode cX7_wants 0 = .ok (.aload_n 0, 1) := by decide +kernel
theorem dX7_wants_1 : decode cX7_wants 1 = .ok (.getfield 36, 3) := by decide +kernel
theorem dX7_wants_4 : decode cX7_wants 4 = .ok (.iload_n 1, 1) := by decide +kernel
theorem dX7_wants_5 : decode cX7_wants 5 = .ok (.invokevirtual 142, 3) := by decide +kernel
theorem dX7_wants_8 : decode cX7_wants 8 = .ok (.ifCond .ne 5, 3) := by decide +kernel
theorem dX7_wants_11 : decode cX7_wants 11 = .ok (.iconst (-1), 1) := by decide +kernel
theorem dX7_wants_12 : decode cX7_wants 12 = .ok (.ireturn, 1) := by decide +kernel
theorem dX7_wants_13 : decode cX7_wants 13 = .ok (.aload_n 0, 1) := by decide +kernel
theorem dX7_wants_14 : decode cX7_wants 14 = .ok (.iload_n 1, 1) := by decide +kernel
theorem dX7_wants_15 : decode cX7_wants 15 = .ok (.sipush 255, 3) := by decide +kernel
theorem dX7_wants_18 : decode cX7_wants 18 = .ok (.aload_n 0, 1) := by decide +kernel
theorem dX7_wants_19 : decode cX7_wants 19 = .ok (.getfield 26, 3) := by decide +kernel
theorem dX7_wants_22 : decode cX7_wants 22 = .ok (.invokevirtual 86, 3) := by decide +kernel
theorem dX7_wants_25 : decode cX7_wants 25 = .ok (.isub, 1) := by decide +kernel
theorem dX7_wants_26 : decode cX7_wants 26 = .ok (.iconst 1, 1) := by decide +kernel
theorem dX7_wants_27 : decode cX7_wants 27 = .ok (.invokevirtual 188, 3) := by decide +kernel
theorem dX7_wants_30 : decode cX7_wants 30 = .ok (.ireturn, 1) := by decide +kernel
theorem dX7_breaks_0 : decode cX7_breaks 0 = .ok (.aload_n 0, 1) := by decide +kernel
theorem dX7_breaks_1 : decode cX7_breaks 1 = .ok (.getfield 36, 3) := by decide +kernel
theorem dX7_breaks_4 : decode cX7_breaks 4 = .ok (.iload_n 1, 1) := by decide +kernel
theorem dX7_breaks_5 : decode cX7_breaks 5 = .ok (.invokevirtual 142, 3) := by decide +kernel
theorem dX7_breaks_8 : decode cX7_breaks 8 = .ok (.ifCond .ne 5, 3) := by decide +kernel
theorem dX7_breaks_11 : decode cX7_breaks 11 = .ok (.iconst (-1), 1) := by decide +kernel
theorem dX7_breaks_12 : decode cX7_breaks 12 = .ok (.ireturn, 1) := by decide +kernel
theorem dX7_breaks_13 : decode cX7_breaks 13 = .ok (.aload_n 0, 1) := by decide +kernel
theorem dX7_breaks_14 : decode cX7_breaks 14 = .ok (.iload_n 1, 1) := by decide +kernel
theorem dX7_breaks_15 : decode cX7_breaks 15 = .ok (.aload_n 0, 1) := by decide +kernel
theorem dX7_breaks_16 : decode cX7_breaks 16 = .ok (.getfield 26, 3) := by decide +kernel
theorem dX7_breaks_19 : decode cX7_breaks 19 = .ok (.invokevirtual 86, 3) := by decide +kernel
theorem dX7_breaks_22 : decode cX7_breaks 22 = .ok (.iconst 0, 1) := by decide +kernel
theorem dX7_breaks_23 : decode cX7_breaks 23 = .ok (.invokevirtual 188, 3) := by decide +kernel
theorem dX7_breaks_26 : decode cX7_breaks 26 = .ok (.ireturn, 1) := by decide +kernel
theorem dX7_judge_0 : decode cX7_judge 0 = .ok (.iload_n 1, 1) := by decide +kernel
theorem dX7_judge_1 : decode cX7_judge 1 = .ok (.iconst 1, 1) := by decide +kernel
theorem dX7_judge_2 : decode cX7_judge 2 = .ok (.if_icmp .lt 8, 3) := by decide +kernel
theorem dX7_judge_5 : decode cX7_judge 5 = .ok (.iload_n 1, 1) := by decide +kernel
theorem dX7_judge_6 : decode cX7_judge 6 = .ok (.iconst 4, 1) := by decide +kernel
theorem dX7_judge_7 : decode cX7_judge 7 = .ok (.if_icmp .le 6, 3) := by decide +kernel
theorem dX7_judge_10 : decode cX7_judge 10 = .ok (.bipush (-2), 2) := by decide +kernel
theorem dX7_judge_12 : decode cX7_judge 12 = .ok (.ireturn, 1) := by decide +kernel
theorem dX7_judge_13 : decode cX7_judge 13 = .ok (.lload_n 2, 1) := by decide +kernel
theorem dX7_judge_14 : decode cX7_judge 14 = .ok (.lconst 0, 1) := by decide +kernel
theorem dX7_judge_15 : decode cX7_judge 15 = .ok (.lcmp, 1) := by decide +kernel
theorem dX7_judge_16 : decode cX7_judge 16 = .ok (.ifCond .lt 13, 3) := by decide +kernel
theorem dX7_judge_19 : decode cX7_judge 19 = .ok (.lload_n 2, 1) := by decide +kernel
theorem dX7_judge_20 : decode cX7_judge 20 = .ok (.iload_n 1, 1) := by decide +kernel
theorem dX7_judge_21 : decode cX7_judge 21 = .ok (.invokestatic 192, 3) := by decide +kernel
theorem dX7_judge_24 : decode cX7_judge 24 = .ok (.lconst 0, 1) := by decide +kernel
theorem dX7_judge_25 : decode cX7_judge 25 = .ok (.lcmp, 1) := by decide +kernel
theorem dX7_judge_26 : decode cX7_judge 26 = .ok (.ifCond .eq 6, 3) := by decide +kernel
theorem dX7_judge_29 : decode cX7_judge 29 = .ok (.bipush (-2), 2) := by decide +kernel
theorem dX7_judge_31 : decode cX7_judge 31 = .ok (.ireturn, 1) := by decide +kernel
theorem dX7_judge_32 : decode cX7_judge 32 = .ok (.aload_n 0, 1) := by decide +kernel
theorem dX7_judge_33 : decode cX7_judge 33 = .ok (.getfield 30, 3) := by decide +kernel
theorem dX7_judge_36 : decode cX7_judge 36 = .ok (.aload_n 0, 1) := by decide +kernel
theorem dX7_judge_37 : decode cX7_judge 37 = .ok (.getfield 26, 3) := by decide +kernel
theorem dX7_judge_40 : decode cX7_judge 40 = .ok (.invokevirtual 74, 3) := by decide +kernel
theorem dX7_judge_43 : decode cX7_judge 43 = .ok (.iconst 0, 1) := by decide +kernel
theorem dX7_judge_44 : decode cX7_judge 44 = .ok (.istore 4, 2) := by decide +kernel
theorem dX7_judge_46 : decode cX7_judge 46 = .ok (.iload 4, 2) := by decide +kernel
theorem dX7_judge_48 : decode cX7_judge 48 = .ok (.iload_n 1, 1) := by decide +kernel
theorem dX7_judge_49 : decode cX7_judge 49 = .ok (.if_icmp .ge 54, 3) := by decide +kernel
theorem dX7_judge_52 : decode cX7_judge 52 = .ok (.lload_n 2, 1) := by decide +kernel
theorem dX7_judge_53 : decode cX7_judge 53 = .ok (.iload_n 1, 1) := by decide +kernel
theorem dX7_judge_54 : decode cX7_judge 54 = .ok (.iconst 1, 1) := by decide +kernel
theorem dX7_judge_55 : decode cX7_judge 55 = .ok (.isub, 1) := by decide +kernel
theorem dX7_judge_56 : decode cX7_judge 56 = .ok (.iload 4, 2) := by decide +kernel
theorem dX7_judge_58 : decode cX7_judge 58 = .ok (.isub, 1) := by decide +kernel
theorem dX7_judge_59 : decode cX7_judge 59 = .ok (.invokestatic 192, 3) := by decide +kernel
theorem dX7_judge_62 : decode cX7_judge 62 = .ok (.ldc2_w 196, 3) := by decide +kernel
theorem dX7_judge_65 : decode cX7_judge 65 = .ok (.lrem, 1) := by decide +kernel
theorem dX7_judge_66 : decode cX7_judge 66 = .ok (.l2i, 1) := by decide +kernel
theorem dX7_judge_67 : decode cX7_judge 67 = .ok (.istore 5, 2) := by decide +kernel
theorem dX7_judge_69 : decode cX7_judge 69 = .ok (.aload_n 0, 1) := by decide +kernel
theorem dX7_judge_70 : decode cX7_judge 70 = .ok (.iload 5, 2) := by decide +kernel
theorem dX7_judge_72 : decode cX7_judge 72 = .ok (.bipush 100, 2) := by decide +kernel
theorem dX7_judge_74 : decode cX7_judge 74 = .ok (.idiv, 1) := by decide +kernel
theorem dX7_judge_75 : decode cX7_judge 75 = .ok (.iload 5, 2) := by decide +kernel
theorem dX7_judge_77 : decode cX7_judge 77 = .ok (.bipush 10, 2) := by decide +kernel
theorem dX7_judge_79 : decode cX7_judge 79 = .ok (.idiv, 1) := by decide +kernel
theorem dX7_judge_80 : decode cX7_judge 80 = .ok (.bipush 10, 2) := by decide +kernel
theorem dX7_judge_82 : decode cX7_judge 82 = .ok (.irem, 1) := by decide +kernel
theorem dX7_judge_83 : decode cX7_judge 83 = .ok (.iload 5, 2) := by decide +kernel
theorem dX7_judge_85 : decode cX7_judge 85 = .ok (.bipush 10, 2) := by decide +kernel
theorem dX7_judge_87 : decode cX7_judge 87 = .ok (.irem, 1) := by decide +kernel
theorem dX7_judge_88 : decode cX7_judge 88 = .ok (.invokevirtual 198, 3) := by decide +kernel
theorem dX7_judge_91 : decode cX7_judge 91 = .ok (.ifCond .ne 6, 3) := by decide +kernel
theorem dX7_judge_94 : decode cX7_judge 94 = .ok (.iload 4, 2) := by decide +kernel
theorem dX7_judge_96 : decode cX7_judge 96 = .ok (.ireturn, 1) := by decide +kernel
theorem dX7_judge_97 : decode cX7_judge 97 = .ok (.iinc 4 1, 3) := by decide +kernel
theorem dX7_judge_100 : decode cX7_judge 100 = .ok (.goto (-54), 3) := by decide +kernel
theorem dX7_judge_103 : decode cX7_judge 103 = .ok (.bipush (-9), 2) := by decide +kernel
theorem dX7_judge_105 : decode cX7_judge 105 = .ok (.ireturn, 1) := by decide +kernel
theorem dX7_share_0 : decode cX7_share 0 = .ok (.iload_n 1, 1) := by decide +kernel
theorem dX7_share_1 : decode cX7_share 1 = .ok (.invokestatic 113, 3) := by decide +kernel
theorem dX7_share_4 : decode cX7_share 4 = .ok (.ifCond .ne 5, 3) := by decide +kernel
theorem dX7_share_7 : decode cX7_share 7 = .ok (.iconst (-1), 1) := by decide +kernel
theorem dX7_share_8 : decode cX7_share 8 = .ok (.ireturn, 1) := by decide +kernel
theorem dX7_share_9 : decode cX7_share 9 = .ok (.aload_n 0, 1) := by decide +kernel
theorem dX7_share_10 : decode cX7_share 10 = .ok (.getfield 26, 3) := by decide +kernel
theorem dX7_share_13 : decode cX7_share 13 = .ok (.invokevirtual 86, 3) := by decide +kernel
theorem dX7_share_16 : decode cX7_share 16 = .ok (.istore_n 3, 1) := by decide +kernel
theorem dX7_share_17 : decode cX7_share 17 = .ok (.iload_n 3, 1) := by decide +kernel
theorem dX7_share_18 : decode cX7_share 18 = .ok (.iload_n 1, 1) := by decide +kernel
theorem dX7_share_19 : decode cX7_share 19 = .ok (.ishr, 1) := by decide +kernel
theorem dX7_share_20 : decode cX7_share 20 = .ok (.iconst 1, 1) := by decide +kernel
theorem dX7_share_21 : decode cX7_share 21 = .ok (.iand, 1) := by decide +kernel
theorem dX7_share_22 : decode cX7_share 22 = .ok (.ifCond .ne 10, 3) := by decide +kernel
theorem dX7_share_25 : decode cX7_share 25 = .ok (.iconst 0, 1) := by decide +kernel
theorem dX7_share_26 : decode cX7_share 26 = .ok (.iconst 1, 1) := by decide +kernel
theorem dX7_share_27 : decode cX7_share 27 = .ok (.iload_n 2, 1) := by decide +kernel
theorem dX7_share_28 : decode cX7_share 28 = .ok (.invokestatic 202, 3) := by decide +kernel
theorem dX7_share_31 : decode cX7_share 31 = .ok (.ireturn, 1) := by decide +kernel
theorem dX7_share_32 : decode cX7_share 32 = .ok (.aload_n 0, 1) := by decide +kernel
theorem dX7_share_33 : decode cX7_share 33 = .ok (.iload_n 1, 1) := by decide +kernel
theorem dX7_share_34 : decode cX7_share 34 = .ok (.iload_n 3, 1) := by decide +kernel
theorem dX7_share_35 : decode cX7_share 35 = .ok (.invokevirtual 205, 3) := by decide +kernel
theorem dX7_share_38 : decode cX7_share 38 = .ok (.iload_n 3, 1) := by decide +kernel
theorem dX7_share_39 : decode cX7_share 39 = .ok (.invokestatic 89, 3) := by decide +kernel
theorem dX7_share_42 : decode cX7_share 42 = .ok (.invokestatic 208, 3) := by decide +kernel
theorem dX7_share_45 : decode cX7_share 45 = .ok (.iload_n 2, 1) := by decide +kernel
theorem dX7_share_46 : decode cX7_share 46 = .ok (.invokestatic 202, 3) := by decide +kernel
theorem dX7_share_49 : decode cX7_share 49 = .ok (.ireturn, 1) := by decide +kernel
theorem dX7_swear_0 : decode cX7_swear 0 = .ok (.aload_n 0, 1) := by decide +kernel
theorem dX7_swear_1 : decode cX7_swear 1 = .ok (.getfield 36, 3) := by decide +kernel
theorem dX7_swear_4 : decode cX7_swear 4 = .ok (.iload_n 1, 1) := by decide +kernel
theorem dX7_swear_5 : decode cX7_swear 5 = .ok (.invokevirtual 142, 3) := by decide +kernel
theorem dX7_swear_8 : decode cX7_swear 8 = .ok (.ifCond .ne 5, 3) := by decide +kernel
theorem dX7_swear_11 : decode cX7_swear 11 = .ok (.iconst (-1), 1) := by decide +kernel
theorem dX7_swear_12 : decode cX7_swear 12 = .ok (.ireturn, 1) := by decide +kernel
theorem dX7_swear_13 : decode cX7_swear 13 = .ok (.iload_n 2, 1) := by decide +kernel
theorem dX7_swear_14 : decode cX7_swear 14 = .ok (.ifCond .eq 11, 3) := by decide +kernel
theorem dX7_swear_17 : decode cX7_swear 17 = .ok (.iload_n 2, 1) := by decide +kernel
theorem dX7_swear_18 : decode cX7_swear 18 = .ok (.iconst 1, 1) := by decide +kernel
theorem dX7_swear_19 : decode cX7_swear 19 = .ok (.if_icmp .eq 6, 3) := by decide +kernel
theorem dX7_swear_22 : decode cX7_swear 22 = .ok (.bipush (-2), 2) := by decide +kernel
theorem dX7_swear_24 : decode cX7_swear 24 = .ok (.ireturn, 1) := by decide +kernel
theorem dX7_swear_25 : decode cX7_swear 25 = .ok (.aload_n 0, 1) := by decide +kernel
theorem dX7_swear_26 : decode cX7_swear 26 = .ok (.getfield 50, 3) := by decide +kernel
theorem dX7_swear_29 : decode cX7_swear 29 = .ok (.iload_n 1, 1) := by decide +kernel
theorem dX7_swear_30 : decode cX7_swear 30 = .ok (.iload_n 2, 1) := by decide +kernel
theorem dX7_swear_31 : decode cX7_swear 31 = .ok (.invokevirtual 211, 3) := by decide +kernel
theorem dX7_swear_34 : decode cX7_swear 34 = .ok (.ireturn, 1) := by decide +kernel
theorem dX7_unswear_0 : decode cX7_unswear 0 = .ok (.aload_n 0, 1) := by decide +kernel
theorem dX7_unswear_1 : decode cX7_unswear 1 = .ok (.getfield 50, 3) := by decide +kernel
theorem dX7_unswear_4 : decode cX7_unswear 4 = .ok (.invokevirtual 213, 3) := by decide +kernel
theorem dX7_unswear_7 : decode cX7_unswear 7 = .ok (.ireturn, 1) := by decide +kernel
theorem dX7_may_0 : decode cX7_may 0 = .ok (.iload_n 1, 1) := by decide +kernel
theorem dX7_may_1 : decode cX7_may 1 = .ok (.ifCond .eq 11, 3) := by decide +kernel
theorem dX7_may_4 : decode cX7_may 4 = .ok (.iload_n 1, 1) := by decide +kernel
theorem dX7_may_5 : decode cX7_may 5 = .ok (.iconst 1, 1) := by decide +kernel
theorem dX7_may_6 : decode cX7_may 6 = .ok (.if_icmp .eq 6, 3) := by decide +kernel
theorem dX7_may_9 : decode cX7_may 9 = .ok (.bipush (-2), 2) := by decide +kernel
theorem dX7_may_11 : decode cX7_may 11 = .ok (.ireturn, 1) := by decide +kernel
theorem dX7_may_12 : decode cX7_may 12 = .ok (.iconst 0, 1) := by decide +kernel
theorem dX7_may_13 : decode cX7_may 13 = .ok (.istore_n 2, 1) := by decide +kernel
theorem dX7_may_14 : decode cX7_may 14 = .ok (.bipush (-9), 2) := by decide +kernel
theorem dX7_may_16 : decode cX7_may 16 = .ok (.istore_n 3, 1) := by decide +kernel
theorem dX7_may_17 : decode cX7_may 17 = .ok (.iconst 0, 1) := by decide +kernel
theorem dX7_may_18 : decode cX7_may 18 = .ok (.istore 4, 2) := by decide +kernel
theorem dX7_may_20 : decode cX7_may 20 = .ok (.iload 4, 2) := by decide +kernel
theorem dX7_may_22 : decode cX7_may 22 = .ok (.sipush 256, 3) := by decide +kernel
theorem dX7_may_25 : decode cX7_may 25 = .ok (.if_icmp .ge 41, 3) := by decide +kernel
theorem dX7_may_28 : decode cX7_may 28 = .ok (.aload_n 0, 1) := by decide +kernel
theorem dX7_may_29 : decode cX7_may 29 = .ok (.getfield 50, 3) := by decide +kernel
theorem dX7_may_32 : decode cX7_may 32 = .ok (.aload_n 0, 1) := by decide +kernel
theorem dX7_may_33 : decode cX7_may 33 = .ok (.getfield 36, 3) := by decide +kernel
theorem dX7_may_36 : decode cX7_may 36 = .ok (.iload 4, 2) := by decide +kernel
theorem dX7_may_38 : decode cX7_may 38 = .ok (.invokevirtual 214, 3) := by decide +kernel
theorem dX7_may_41 : decode cX7_may 41 = .ok (.ifCond .eq 19, 3) := by decide +kernel
theorem dX7_may_44 : decode cX7_may 44 = .ok (.iinc 2 1, 3) := by decide +kernel
theorem dX7_may_47 : decode cX7_may 47 = .ok (.iload_n 3, 1) := by decide +kernel
theorem dX7_may_48 : decode cX7_may 48 = .ok (.bipush (-9), 2) := by decide +kernel
theorem dX7_may_50 : decode cX7_may 50 = .ok (.if_icmp .ne 8, 3) := by decide +kernel
theorem dX7_may_53 : decode cX7_may 53 = .ok (.iload 4, 2) := by decide +kernel
theorem dX7_may_55 : decode cX7_may 55 = .ok (.goto 4, 3) := by decide +kernel
theorem dX7_may_58 : decode cX7_may 58 = .ok (.iload_n 3, 1) := by decide +kernel
theorem dX7_may_59 : decode cX7_may 59 = .ok (.istore_n 3, 1) := by decide +kernel
theorem dX7_may_60 : decode cX7_may 60 = .ok (.iinc 4 1, 3) := by decide +kernel
theorem dX7_may_63 : decode cX7_may 63 = .ok (.goto (-43), 3) := by decide +kernel
theorem dX7_may_66 : decode cX7_may 66 = .ok (.iload_n 1, 1) := by decide +kernel
theorem dX7_may_67 : decode cX7_may 67 = .ok (.ifCond .ne 7, 3) := by decide +kernel
theorem dX7_may_70 : decode cX7_may 70 = .ok (.iload_n 2, 1) := by decide +kernel
theorem dX7_may_71 : decode cX7_may 71 = .ok (.goto 4, 3) := by decide +kernel
theorem dX7_may_74 : decode cX7_may 74 = .ok (.iload_n 3, 1) := by decide +kernel
theorem dX7_may_75 : decode cX7_may 75 = .ok (.ireturn, 1) := by decide +kernel
theorem dX7_rests_0 : decode cX7_rests 0 = .ok (.aload_n 0, 1) := by decide +kernel
theorem dX7_rests_1 : decode cX7_rests 1 = .ok (.getfield 36, 3) := by decide +kernel
theorem dX7_rests_4 : decode cX7_rests 4 = .ok (.iload_n 1, 1) := by decide +kernel
theorem dX7_rests_5 : decode cX7_rests 5 = .ok (.invokevirtual 142, 3) := by decide +kernel
theorem dX7_rests_8 : decode cX7_rests 8 = .ok (.ifCond .eq 14, 3) := by decide +kernel
theorem dX7_rests_11 : decode cX7_rests 11 = .ok (.aload_n 0, 1) := by decide +kernel
theorem dX7_rests_12 : decode cX7_rests 12 = .ok (.getfield 36, 3) := by decide +kernel
theorem dX7_rests_15 : decode cX7_rests 15 = .ok (.iload_n 2, 1) := by decide +kernel
theorem dX7_rests_16 : decode cX7_rests 16 = .ok (.invokevirtual 142, 3) := by decide +kernel
theorem dX7_rests_19 : decode cX7_rests 19 = .ok (.ifCond .ne 5, 3) := by decide +kernel
theorem dX7_rests_22 : decode cX7_rests 22 = .ok (.iconst (-1), 1) := by decide +kernel
theorem dX7_rests_23 : decode cX7_rests 23 = .ok (.ireturn, 1) := by decide +kernel
theorem dX7_rests_24 : decode cX7_rests 24 = .ok (.iload_n 1, 1) := by decide +kernel
theorem dX7_rests_25 : decode cX7_rests 25 = .ok (.iload_n 2, 1) := by decide +kernel
theorem dX7_rests_26 : decode cX7_rests 26 = .ok (.if_icmp .eq 12, 3) := by decide +kernel
theorem dX7_rests_29 : decode cX7_rests 29 = .ok (.iload_n 3, 1) := by decide +kernel
theorem dX7_rests_30 : decode cX7_rests 30 = .ok (.ifCond .eq 11, 3) := by decide +kernel
theorem dX7_rests_33 : decode cX7_rests 33 = .ok (.iload_n 3, 1) := by decide +kernel
theorem dX7_rests_34 : decode cX7_rests 34 = .ok (.iconst 1, 1) := by decide +kernel
theorem dX7_rests_35 : decode cX7_rests 35 = .ok (.if_icmp .eq 6, 3) := by decide +kernel
theorem dX7_rests_38 : decode cX7_rests 38 = .ok (.bipush (-2), 2) := by decide +kernel
theorem dX7_rests_40 : decode cX7_rests 40 = .ok (.ireturn, 1) := by decide +kernel
theorem dX7_rests_41 : decode cX7_rests 41 = .ok (.iconst 0, 1) := by decide +kernel
theorem dX7_rests_42 : decode cX7_rests 42 = .ok (.istore 4, 2) := by decide +kernel
theorem dX7_rests_44 : decode cX7_rests 44 = .ok (.bipush (-9), 2) := by decide +kernel
theorem dX7_rests_46 : decode cX7_rests 46 = .ok (.istore 5, 2) := by decide +kernel
theorem dX7_rests_48 : decode cX7_rests 48 = .ok (.iconst 0, 1) := by decide +kernel
theorem dX7_rests_49 : decode cX7_rests 49 = .ok (.istore 6, 2) := by decide +kernel
theorem dX7_rests_51 : decode cX7_rests 51 = .ok (.iload 6, 2) := by decide +kernel
theorem dX7_rests_53 : decode cX7_rests 53 = .ok (.iconst 3, 1) := by decide +kernel
theorem dX7_rests_54 : decode cX7_rests 54 = .ok (.if_icmp .ge 75, 3) := by decide +kernel
theorem dX7_rests_57 : decode cX7_rests 57 = .ok (.iconst 0, 1) := by decide +kernel
theorem dX7_rests_58 : decode cX7_rests 58 = .ok (.istore 7, 2) := by decide +kernel
theorem dX7_rests_60 : decode cX7_rests 60 = .ok (.iload 7, 2) := by decide +kernel
theorem dX7_rests_62 : decode cX7_rests 62 = .ok (.iconst 3, 1) := by decide +kernel
theorem dX7_rests_63 : decode cX7_rests 63 = .ok (.if_icmp .ge 60, 3) := by decide +kernel
theorem dX7_rests_66 : decode cX7_rests 66 = .ok (.aload_n 0, 1) := by decide +kernel
theorem dX7_rests_67 : decode cX7_rests 67 = .ok (.iload_n 1, 1) := by decide +kernel
theorem dX7_rests_68 : decode cX7_rests 68 = .ok (.iload_n 2, 1) := by decide +kernel
theorem dX7_rests_69 : decode cX7_rests 69 = .ok (.iload 6, 2) := by decide +kernel
theorem dX7_rests_71 : decode cX7_rests 71 = .ok (.iload 7, 2) := by decide +kernel
theorem dX7_rests_73 : decode cX7_rests 73 = .ok (.invokevirtual 218, 3) := by decide +kernel
theorem dX7_rests_76 : decode cX7_rests 76 = .ok (.ifCond .eq 41, 3) := by decide +kernel
theorem dX7_rests_79 : decode cX7_rests 79 = .ok (.aload_n 0, 1) := by decide +kernel
theorem dX7_rests_80 : decode cX7_rests 80 = .ok (.iload_n 2, 1) := by decide +kernel
theorem dX7_rests_81 : decode cX7_rests 81 = .ok (.iload_n 1, 1) := by decide +kernel
theorem dX7_rests_82 : decode cX7_rests 82 = .ok (.iload 7, 2) := by decide +kernel
theorem dX7_rests_84 : decode cX7_rests 84 = .ok (.iload 6, 2) := by decide +kernel
theorem dX7_rests_86 : decode cX7_rests 86 = .ok (.invokevirtual 218, 3) := by decide +kernel
theorem dX7_rests_89 : decode cX7_rests 89 = .ok (.ifCond .eq 28, 3) := by decide +kernel
theorem dX7_rests_92 : decode cX7_rests 92 = .ok (.iinc 4 1, 3) := by decide +kernel
theorem dX7_rests_95 : decode cX7_rests 95 = .ok (.iload 5, 2) := by decide +kernel
theorem dX7_rests_97 : decode cX7_rests 97 = .ok (.bipush (-9), 2) := by decide +kernel
theorem dX7_rests_99 : decode cX7_rests 99 = .ok (.if_icmp .ne 14, 3) := by decide +kernel
theorem dX7_rests_102 : decode cX7_rests 102 = .ok (.bipush 10, 2) := by decide +kernel
theorem dX7_rests_104 : decode cX7_rests 104 = .ok (.iload 6, 2) := by decide +kernel
theorem dX7_rests_106 : decode cX7_rests 106 = .ok (.imul, 1) := by decide +kernel
theorem dX7_rests_107 : decode cX7_rests 107 = .ok (.iload 7, 2) := by decide +kernel
theorem dX7_rests_109 : decode cX7_rests 109 = .ok (.iadd, 1) := by decide +kernel
theorem dX7_rests_110 : decode cX7_rests 110 = .ok (.goto 5, 3) := by decide +kernel
theorem dX7_rests_113 : decode cX7_rests 113 = .ok (.iload 5, 2) := by decide +kernel
theorem dX7_rests_115 : decode cX7_rests 115 = .ok (.istore 5, 2) := by decide +kernel
theorem dX7_rests_117 : decode cX7_rests 117 = .ok (.iinc 7 1, 3) := by decide +kernel
theorem dX7_rests_120 : decode cX7_rests 120 = .ok (.goto (-60), 3) := by decide +kernel
theorem dX7_rests_123 : decode cX7_rests 123 = .ok (.iinc 6 1, 3) := by decide +kernel
theorem dX7_rests_126 : decode cX7_rests 126 = .ok (.goto (-75), 3) := by decide +kernel
theorem dX7_rests_129 : decode cX7_rests 129 = .ok (.iload_n 3, 1) := by decide +kernel
theorem dX7_rests_130 : decode cX7_rests 130 = .ok (.ifCond .ne 8, 3) := by decide +kernel
theorem dX7_rests_133 : decode cX7_rests 133 = .ok (.iload 4, 2) := by decide +kernel
theorem dX7_rests_135 : decode cX7_rests 135 = .ok (.goto 5, 3) := by decide +kernel
theorem dX7_rests_138 : decode cX7_rests 138 = .ok (.iload 5, 2) := by decide +kernel
theorem dX7_rests_140 : decode cX7_rests 140 = .ok (.ireturn, 1) := by decide +kernel
theorem dX7_fires_0 : decode cX7_fires 0 = .ok (.aload_n 0, 1) := by decide +kernel
theorem dX7_fires_1 : decode cX7_fires 1 = .ok (.getfield 36, 3) := by decide +kernel
theorem dX7_fires_4 : decode cX7_fires 4 = .ok (.iload_n 1, 1) := by decide +kernel
theorem dX7_fires_5 : decode cX7_fires 5 = .ok (.invokevirtual 142, 3) := by decide +kernel
theorem dX7_fires_8 : decode cX7_fires 8 = .ok (.ifCond .ne 5, 3) := by decide +kernel
theorem dX7_fires_11 : decode cX7_fires 11 = .ok (.iconst (-1), 1) := by decide +kernel
theorem dX7_fires_12 : decode cX7_fires 12 = .ok (.ireturn, 1) := by decide +kernel
theorem dX7_fires_13 : decode cX7_fires 13 = .ok (.iload_n 2, 1) := by decide +kernel
theorem dX7_fires_14 : decode cX7_fires 14 = .ok (.ifCond .lt 9, 3) := by decide +kernel
theorem dX7_fires_17 : decode cX7_fires 17 = .ok (.iload_n 2, 1) := by decide +kernel
theorem dX7_fires_18 : decode cX7_fires 18 = .ok (.bipush 10, 2) := by decide +kernel
theorem dX7_fires_20 : decode cX7_fires 20 = .ok (.if_icmp .le 6, 3) := by decide +kernel
theorem dX7_fires_23 : decode cX7_fires 23 = .ok (.bipush (-2), 2) := by decide +kernel
theorem dX7_fires_25 : decode cX7_fires 25 = .ok (.ireturn, 1) := by decide +kernel
theorem dX7_fires_26 : decode cX7_fires 26 = .ok (.iconst 0, 1) := by decide +kernel
theorem dX7_fires_27 : decode cX7_fires 27 = .ok (.istore 4, 2) := by decide +kernel
theorem dX7_fires_29 : decode cX7_fires 29 = .ok (.iconst 0, 1) := by decide +kernel
theorem dX7_fires_30 : decode cX7_fires 30 = .ok (.istore 5, 2) := by decide +kernel
theorem dX7_fires_32 : decode cX7_fires 32 = .ok (.iconst 0, 1) := by decide +kernel
theorem dX7_fires_33 : decode cX7_fires 33 = .ok (.istore 6, 2) := by decide +kernel
theorem dX7_fires_35 : decode cX7_fires 35 = .ok (.iload 6, 2) := by decide +kernel
theorem dX7_fires_37 : decode cX7_fires 37 = .ok (.bipush 8, 2) := by decide +kernel
theorem dX7_fires_39 : decode cX7_fires 39 = .ok (.if_icmp .ge 48, 3) := by decide +kernel
theorem dX7_fires_42 : decode cX7_fires 42 = .ok (.iload 6, 2) := by decide +kernel
theorem dX7_fires_44 : decode cX7_fires 44 = .ok (.iload_n 2, 1) := by decide +kernel
theorem dX7_fires_45 : decode cX7_fires 45 = .ok (.invokestatic 222, 3) := by decide +kernel
theorem dX7_fires_48 : decode cX7_fires 48 = .ok (.istore 7, 2) := by decide +kernel
theorem dX7_fires_50 : decode cX7_fires 50 = .ok (.iload 5, 2) := by decide +kernel
theorem dX7_fires_52 : decode cX7_fires 52 = .ok (.iload 7, 2) := by decide +kernel
theorem dX7_fires_54 : decode cX7_fires 54 = .ok (.iadd, 1) := by decide +kernel
theorem dX7_fires_55 : decode cX7_fires 55 = .ok (.istore 5, 2) := by decide +kernel
theorem dX7_fires_57 : decode cX7_fires 57 = .ok (.aload_n 0, 1) := by decide +kernel
theorem dX7_fires_58 : decode cX7_fires 58 = .ok (.getfield 36, 3) := by decide +kernel
theorem dX7_fires_61 : decode cX7_fires 61 = .ok (.iload_n 1, 1) := by decide +kernel
theorem dX7_fires_62 : decode cX7_fires 62 = .ok (.aload_n 0, 1) := by decide +kernel
theorem dX7_fires_63 : decode cX7_fires 63 = .ok (.iload 6, 2) := by decide +kernel
theorem dX7_fires_65 : decode cX7_fires 65 = .ok (.invokevirtual 225, 3) := by decide +kernel
theorem dX7_fires_68 : decode cX7_fires 68 = .ok (.invokevirtual 151, 3) := by decide +kernel
theorem dX7_fires_71 : decode cX7_fires 71 = .ok (.ifCond .eq 10, 3) := by decide +kernel
theorem dX7_fires_74 : decode cX7_fires 74 = .ok (.iload 4, 2) := by decide +kernel
theorem dX7_fires_76 : decode cX7_fires 76 = .ok (.iload 7, 2) := by decide +kernel
theorem dX7_fires_78 : decode cX7_fires 78 = .ok (.iadd, 1) := by decide +kernel
theorem dX7_fires_79 : decode cX7_fires 79 = .ok (.istore 4, 2) := by decide +kernel
theorem dX7_fires_81 : decode cX7_fires 81 = .ok (.iinc 6 1, 3) := by decide +kernel
theorem dX7_fires_84 : decode cX7_fires 84 = .ok (.goto (-49), 3) := by decide +kernel
theorem dX7_fires_87 : decode cX7_fires 87 = .ok (.iload 4, 2) := by decide +kernel
theorem dX7_fires_89 : decode cX7_fires 89 = .ok (.iload 5, 2) := by decide +kernel
theorem dX7_fires_91 : decode cX7_fires 91 = .ok (.iload_n 3, 1) := by decide +kernel
theorem dX7_fires_92 : decode cX7_fires 92 = .ok (.invokestatic 202, 3) := by decide +kernel
theorem dX7_fires_95 : decode cX7_fires 95 = .ok (.ireturn, 1) := by decide +kernel
theorem dX7_seed_0 : decode cX7_seed 0 = .ok (.aload_n 0, 1) := by decide +kernel
theorem dX7_seed_1 : decode cX7_seed 1 = .ok (.getfield 228, 3) := by decide +kernel
theorem dX7_seed_4 : decode cX7_seed 4 = .ok (.lstore_n 3, 1) := by decide +kernel
theorem dX7_seed_5 : decode cX7_seed 5 = .ok (.aload_n 0, 1) := by decide +kernel
theorem dX7_seed_6 : decode cX7_seed 6 = .ok (.lload_n 1, 1) := by decide +kernel
theorem dX7_seed_7 : decode cX7_seed 7 = .ok (.putfield 228, 3) := by decide +kernel
theorem dX7_seed_10 : decode cX7_seed 10 = .ok (.lload_n 3, 1) := by decide +kernel
theorem dX7_seed_11 : decode cX7_seed 11 = .ok (.lreturn, 1) := by decide +kernel
theorem dX7_years_0 : decode cX7_years 0 = .ok (.iload_n 1, 1) := by decide +kernel
theorem dX7_years_1 : decode cX7_years 1 = .ok (.iconst 1, 1) := by decide +kernel
theorem dX7_years_2 : decode cX7_years 2 = .ok (.if_icmp .lt 9, 3) := by decide +kernel
theorem dX7_years_5 : decode cX7_years 5 = .ok (.iload_n 1, 1) := by decide +kernel
theorem dX7_years_6 : decode cX7_years 6 = .ok (.bipush 30, 2) := by decide +kernel
theorem dX7_years_8 : decode cX7_years 8 = .ok (.if_icmp .le 6, 3) := by decide +kernel
theorem dX7_years_11 : decode cX7_years 11 = .ok (.bipush (-2), 2) := by decide +kernel
theorem dX7_years_13 : decode cX7_years 13 = .ok (.ireturn, 1) := by decide +kernel
theorem dX7_years_14 : decode cX7_years 14 = .ok (.aload_n 0, 1) := by decide +kernel
theorem dX7_years_15 : decode cX7_years 15 = .ok (.getfield 30, 3) := by decide +kernel
theorem dX7_years_18 : decode cX7_years 18 = .ok (.aload_n 0, 1) := by decide +kernel
theorem dX7_years_19 : decode cX7_years 19 = .ok (.getfield 26, 3) := by decide +kernel
theorem dX7_years_22 : decode cX7_years 22 = .ok (.invokevirtual 74, 3) := by decide +kernel
theorem dX7_years_25 : decode cX7_years 25 = .ok (.iconst 0, 1) := by decide +kernel
theorem dX7_years_26 : decode cX7_years 26 = .ok (.istore_n 2, 1) := by decide +kernel
theorem dX7_years_27 : decode cX7_years 27 = .ok (.iconst 0, 1) := by decide +kernel
theorem dX7_years_28 : decode cX7_years 28 = .ok (.istore_n 3, 1) := by decide +kernel
theorem dX7_years_29 : decode cX7_years 29 = .ok (.iload_n 3, 1) := by decide +kernel
theorem dX7_years_30 : decode cX7_years 30 = .ok (.iload_n 1, 1) := by decide +kernel
theorem dX7_years_31 : decode cX7_years 31 = .ok (.if_icmp .ge 61, 3) := by decide +kernel
theorem dX7_years_34 : decode cX7_years 34 = .ok (.aload_n 0, 1) := by decide +kernel
theorem dX7_years_35 : decode cX7_years 35 = .ok (.aload_n 0, 1) := by decide +kernel
theorem dX7_years_36 : decode cX7_years 36 = .ok (.getfield 228, 3) := by decide +kernel
theorem dX7_years_39 : decode cX7_years 39 = .ok (.ldc2_w 232, 3) := by decide +kernel
theorem dX7_years_42 : decode cX7_years 42 = .ok (.lmul, 1) := by decide +kernel
theorem dX7_years_43 : decode cX7_years 43 = .ok (.ldc2_w 234, 3) := by decide +kernel
theorem dX7_years_46 : decode cX7_years 46 = .ok (.ladd, 1) := by decide +kernel
theorem dX7_years_47 : decode cX7_years 47 = .ok (.putfield 228, 3) := by decide +kernel
theorem dX7_years_50 : decode cX7_years 50 = .ok (.aload_n 0, 1) := by decide +kernel
theorem dX7_years_51 : decode cX7_years 51 = .ok (.aload_n 0, 1) := by decide +kernel
theorem dX7_years_52 : decode cX7_years 52 = .ok (.getfield 228, 3) := by decide +kernel
theorem dX7_years_55 : decode cX7_years 55 = .ok (.bipush 33, 2) := by decide +kernel
theorem dX7_years_57 : decode cX7_years 57 = .ok (.lushr, 1) := by decide +kernel
theorem dX7_years_58 : decode cX7_years 58 = .ok (.ldc2_w 236, 3) := by decide +kernel
theorem dX7_years_61 : decode cX7_years 61 = .ok (.lrem, 1) := by decide +kernel
theorem dX7_years_62 : decode cX7_years 62 = .ok (.l2i, 1) := by decide +kernel
theorem dX7_years_63 : decode cX7_years 63 = .ok (.invokevirtual 238, 3) := by decide +kernel
theorem dX7_years_66 : decode cX7_years 66 = .ok (.iload_n 2, 1) := by decide +kernel
theorem dX7_years_67 : decode cX7_years 67 = .ok (.aload_n 0, 1) := by decide +kernel
theorem dX7_years_68 : decode cX7_years 68 = .ok (.getfield 36, 3) := by decide +kernel
theorem dX7_years_71 : decode cX7_years 71 = .ok (.aload_n 0, 1) := by decide +kernel
theorem dX7_years_72 : decode cX7_years 72 = .ok (.getfield 30, 3) := by decide +kernel
theorem dX7_years_75 : decode cX7_years 75 = .ok (.invokevirtual 86, 3) := by decide +kernel
theorem dX7_years_78 : decode cX7_years 78 = .ok (.invokevirtual 107, 3) := by decide +kernel
theorem dX7_years_81 : decode cX7_years 81 = .ok (.invokestatic 89, 3) := by decide +kernel
theorem dX7_years_84 : decode cX7_years 84 = .ok (.iadd, 1) := by decide +kernel
theorem dX7_years_85 : decode cX7_years 85 = .ok (.istore_n 2, 1) := by decide +kernel
theorem dX7_years_86 : decode cX7_years 86 = .ok (.iinc 3 1, 3) := by decide +kernel
theorem dX7_years_89 : decode cX7_years 89 = .ok (.goto (-60), 3) := by decide +kernel
theorem dX7_years_92 : decode cX7_years 92 = .ok (.iload_n 2, 1) := by decide +kernel
theorem dX7_years_93 : decode cX7_years 93 = .ok (.ireturn, 1) := by decide +kernel
theorem dX7_keep_0 : decode cX7_keep 0 = .ok (.iload_n 1, 1) := by decide +kernel
theorem dX7_keep_1 : decode cX7_keep 1 = .ok (.invokestatic 242, 3) := by decide +kernel
theorem dX7_keep_4 : decode cX7_keep 4 = .ok (.ifCond .ne 5, 3) := by decide +kernel
theorem dX7_keep_7 : decode cX7_keep 7 = .ok (.iconst (-1), 1) := by decide +kernel
theorem dX7_keep_8 : decode cX7_keep 8 = .ok (.ireturn, 1) := by decide +kernel
theorem dX7_keep_9 : decode cX7_keep 9 = .ok (.aload_n 0, 1) := by decide +kernel
theorem dX7_keep_10 : decode cX7_keep 10 = .ok (.getfield 57, 3) := by decide +kernel
theorem dX7_keep_13 : decode cX7_keep 13 = .ok (.iload_n 1, 1) := by decide +kernel
theorem dX7_keep_14 : decode cX7_keep 14 = .ok (.aload_n 0, 1) := by decide +kernel
theorem dX7_keep_15 : decode cX7_keep 15 = .ok (.getfield 26, 3) := by decide +kernel
theorem dX7_keep_18 : decode cX7_keep 18 = .ok (.invokevirtual 155, 3) := by decide +kernel
theorem dX7_keep_21 : decode cX7_keep 21 = .ok (.invokevirtual 245, 3) := by decide +kernel
theorem dX7_keep_24 : decode cX7_keep 24 = .ok (.aload_n 0, 1) := by decide +kernel
theorem dX7_keep_25 : decode cX7_keep 25 = .ok (.getfield 26, 3) := by decide +kernel
theorem dX7_keep_28 : decode cX7_keep 28 = .ok (.getfield 98, 3) := by decide +kernel
theorem dX7_keep_31 : decode cX7_keep 31 = .ok (.ireturn, 1) := by decide +kernel
theorem dX7_again_0 : decode cX7_again 0 = .ok (.iload_n 1, 1) := by decide +kernel
theorem dX7_again_1 : decode cX7_again 1 = .ok (.invokestatic 242, 3) := by decide +kernel
theorem dX7_again_4 : decode cX7_again 4 = .ok (.ifCond .ne 5, 3) := by decide +kernel
theorem dX7_again_7 : decode cX7_again 7 = .ok (.iconst (-1), 1) := by decide +kernel
theorem dX7_again_8 : decode cX7_again 8 = .ok (.ireturn, 1) := by decide +kernel
theorem dX7_again_9 : decode cX7_again 9 = .ok (.aload_n 0, 1) := by decide +kernel
theorem dX7_again_10 : decode cX7_again 10 = .ok (.getfield 57, 3) := by decide +kernel
theorem dX7_again_13 : decode cX7_again 13 = .ok (.iload_n 1, 1) := by decide +kernel
theorem dX7_again_14 : decode cX7_again 14 = .ok (.invokevirtual 249, 3) := by decide +kernel
theorem dX7_again_17 : decode cX7_again 17 = .ok (.ifCond .ne 6, 3) := by decide +kernel
theorem dX7_again_20 : decode cX7_again 20 = .ok (.bipush (-3), 2) := by decide +kernel
theorem dX7_again_22 : decode cX7_again 22 = .ok (.ireturn, 1) := by decide +kernel
theorem dX7_again_23 : decode cX7_again 23 = .ok (.aload_n 0, 1) := by decide +kernel
theorem dX7_again_24 : decode cX7_again 24 = .ok (.getfield 26, 3) := by decide +kernel
theorem dX7_again_27 : decode cX7_again 27 = .ok (.aload_n 0, 1) := by decide +kernel
theorem dX7_again_28 : decode cX7_again 28 = .ok (.getfield 57, 3) := by decide +kernel
theorem dX7_again_31 : decode cX7_again 31 = .ok (.iload_n 1, 1) := by decide +kernel
theorem dX7_again_32 : decode cX7_again 32 = .ok (.invokevirtual 252, 3) := by decide +kernel
theorem dX7_again_35 : decode cX7_again 35 = .ok (.invokevirtual 184, 3) := by decide +kernel
theorem dX7_again_38 : decode cX7_again 38 = .ok (.aload_n 0, 1) := by decide +kernel
theorem dX7_again_39 : decode cX7_again 39 = .ok (.getfield 43, 3) := by decide +kernel
theorem dX7_again_42 : decode cX7_again 42 = .ok (.invokevirtual 82, 3) := by decide +kernel
theorem dX7_again_45 : decode cX7_again 45 = .ok (.aload_n 0, 1) := by decide +kernel
theorem dX7_again_46 : decode cX7_again 46 = .ok (.getfield 26, 3) := by decide +kernel
theorem dX7_again_49 : decode cX7_again 49 = .ok (.getfield 98, 3) := by decide +kernel
theorem dX7_again_52 : decode cX7_again 52 = .ok (.ireturn, 1) := by decide +kernel
theorem dX7_isSlip_0 : decode cX7_isSlip 0 = .ok (.iload_n 0, 1) := by decide +kernel
theorem dX7_isSlip_1 : decode cX7_isSlip 1 = .ok (.ifCond .lt 13, 3) := by decide +kernel
theorem dX7_isSlip_4 : decode cX7_isSlip 4 = .ok (.iload_n 0, 1) := by decide +kernel
theorem dX7_isSlip_5 : decode cX7_isSlip 5 = .ok (.bipush 8, 2) := by decide +kernel
theorem dX7_isSlip_7 : decode cX7_isSlip 7 = .ok (.if_icmp .ge 7, 3) := by decide +kernel
theorem dX7_isSlip_10 : decode cX7_isSlip 10 = .ok (.iconst 1, 1) := by decide +kernel
theorem dX7_isSlip_11 : decode cX7_isSlip 11 = .ok (.goto 4, 3) := by decide +kernel
theorem dX7_isSlip_14 : decode cX7_isSlip 14 = .ok (.iconst 0, 1) := by decide +kernel
theorem dX7_isSlip_15 : decode cX7_isSlip 15 = .ok (.ireturn, 1) := by decide +kernel
theorem dX7_isSpike_0 : decode cX7_isSpike 0 = .ok (.iload_n 0, 1) := by decide +kernel
theorem dX7_isSpike_1 : decode cX7_isSpike 1 = .ok (.ifCond .lt 12, 3) := by decide +kernel
theorem dX7_isSpike_4 : decode cX7_isSpike 4 = .ok (.iload_n 0, 1) := by decide +kernel
theorem dX7_isSpike_5 : decode cX7_isSpike 5 = .ok (.iconst 3, 1) := by decide +kernel
theorem dX7_isSpike_6 : decode cX7_isSpike 6 = .ok (.if_icmp .ge 7, 3) := by decide +kernel
theorem dX7_isSpike_9 : decode cX7_isSpike 9 = .ok (.iconst 1, 1) := by decide +kernel
theorem dX7_isSpike_10 : decode cX7_isSpike 10 = .ok (.goto 4, 3) := by decide +kernel
theorem dX7_isSpike_13 : decode cX7_isSpike 13 = .ok (.iconst 0, 1) := by decide +kernel
theorem dX7_isSpike_14 : decode cX7_isSpike 14 = .ok (.ireturn, 1) := by decide +kernel
theorem dX7_isSlot_0 : decode cX7_isSlot 0 = .ok (.iload_n 0, 1) := by decide +kernel
theorem dX7_isSlot_1 : decode cX7_isSlot 1 = .ok (.ifCond .lt 12, 3) := by decide +kernel
theorem dX7_isSlot_4 : decode cX7_isSlot 4 = .ok (.iload_n 0, 1) := by decide +kernel
theorem dX7_isSlot_5 : decode cX7_isSlot 5 = .ok (.iconst 2, 1) := by decide +kernel
theorem dX7_isSlot_6 : decode cX7_isSlot 6 = .ok (.if_icmp .ge 7, 3) := by decide +kernel
theorem dX7_isSlot_9 : decode cX7_isSlot 9 = .ok (.iconst 1, 1) := by decide +kernel
theorem dX7_isSlot_10 : decode cX7_isSlot 10 = .ok (.goto 4, 3) := by decide +kernel
theorem dX7_isSlot_13 : decode cX7_isSlot 13 = .ok (.iconst 0, 1) := by decide +kernel
theorem dX7_isSlot_14 : decode cX7_isSlot 14 = .ok (.ireturn, 1) := by decide +kernel
theorem dX7_isRefusal_0 : decode cX7_isRefusal 0 = .ok (.iload_n 0, 1) := by decide +kernel
theorem dX7_isRefusal_1 : decode cX7_isRefusal 1 = .ok (.iconst (-1), 1) := by decide +kernel
theorem dX7_isRefusal_2 : decode cX7_isRefusal 2 = .ok (.if_icmp .eq 9, 3) := by decide +kernel
theorem dX7_isRefusal_5 : decode cX7_isRefusal 5 = .ok (.iload_n 0, 1) := by decide +kernel
theorem dX7_isRefusal_6 : decode cX7_isRefusal 6 = .ok (.bipush (-3), 2) := by decide +kernel
theorem dX7_isRefusal_8 : decode cX7_isRefusal 8 = .ok (.if_icmp .ne 7, 3) := by decide +kernel
theorem dX7_isRefusal_11 : decode cX7_isRefusal 11 = .ok (.iconst 1, 1) := by decide +kernel
theorem dX7_isRefusal_12 : decode cX7_isRefusal 12 = .ok (.goto 4, 3) := by decide +kernel
theorem dX7_isRefusal_15 : decode cX7_isRefusal 15 = .ok (.iconst 0, 1) := by decide +kernel
theorem dX7_isRefusal_16 : decode cX7_isRefusal 16 = .ok (.ireturn, 1) := by decide +kernel
theorem dX7_act_0 : decode cX7_act 0 = .ok (.iload_n 3, 1) := by decide +kernel
theorem dX7_act_1 : decode cX7_act 1 = .ok (.invokestatic 256, 3) := by decide +kernel
theorem dX7_act_4 : decode cX7_act 4 = .ok (.ifCond .ne 11, 3) := by decide +kernel
theorem dX7_act_7 : decode cX7_act 7 = .ok (.aload_n 0, 1) := by decide +kernel
theorem dX7_act_8 : decode cX7_act 8 = .ok (.getfield 43, 3) := by decide +kernel
theorem dX7_act_11 : decode cX7_act 11 = .ok (.lload_n 1, 1) := by decide +kernel
theorem dX7_act_12 : decode cX7_act 12 = .ok (.invokevirtual 259, 3) := by decide +kernel
theorem dX7_act_15 : decode cX7_act 15 = .ok (.iload_n 3, 1) := by decide +kernel
theorem dX7_act_16 : decode cX7_act 16 = .ok (.ireturn, 1) := by decide +kernel
theorem dX7_hangsOf_0 : decode cX7_hangsOf 0 = .ok (.aload_n 0, 1) := by decide +kernel
theorem dX7_hangsOf_1 : decode cX7_hangsOf 1 = .ok (.getfield 26, 3) := by decide +kernel
theorem dX7_hangsOf_4 : decode cX7_hangsOf 4 = .ok (.invokevirtual 86, 3) := by decide +kernel
theorem dX7_hangsOf_7 : decode cX7_hangsOf 7 = .ok (.istore_n 2, 1) := by decide +kernel
theorem dX7_hangsOf_8 : decode cX7_hangsOf 8 = .ok (.iconst 1, 1) := by decide +kernel
theorem dX7_hangsOf_9 : decode cX7_hangsOf 9 = .ok (.iload_n 1, 1) := by decide +kernel
theorem dX7_hangsOf_10 : decode cX7_hangsOf 10 = .ok (.ishl, 1) := by decide +kernel
theorem dX7_hangsOf_11 : decode cX7_hangsOf 11 = .ok (.istore_n 3, 1) := by decide +kernel
theorem dX7_hangsOf_12 : decode cX7_hangsOf 12 = .ok (.aload_n 0, 1) := by decide +kernel
theorem dX7_hangsOf_13 : decode cX7_hangsOf 13 = .ok (.getfield 36, 3) := by decide +kernel
theorem dX7_hangsOf_16 : decode cX7_hangsOf 16 = .ok (.iload_n 2, 1) := by decide +kernel
theorem dX7_hangsOf_17 : decode cX7_hangsOf 17 = .ok (.iload_n 3, 1) := by decide +kernel
theorem dX7_hangsOf_18 : decode cX7_hangsOf 18 = .ok (.ior, 1) := by decide +kernel
theorem dX7_hangsOf_19 : decode cX7_hangsOf 19 = .ok (.invokevirtual 107, 3) := by decide +kernel
theorem dX7_hangsOf_22 : decode cX7_hangsOf 22 = .ok (.aload_n 0, 1) := by decide +kernel
theorem dX7_hangsOf_23 : decode cX7_hangsOf 23 = .ok (.getfield 36, 3) := by decide +kernel
theorem dX7_hangsOf_26 : decode cX7_hangsOf 26 = .ok (.iload_n 2, 1) := by decide +kernel
theorem dX7_hangsOf_27 : decode cX7_hangsOf 27 = .ok (.iload_n 3, 1) := by decide +kernel
theorem dX7_hangsOf_28 : decode cX7_hangsOf 28 = .ok (.iconst (-1), 1) := by decide +kernel
theorem dX7_hangsOf_29 : decode cX7_hangsOf 29 = .ok (.ixor, 1) := by decide +kernel
theorem dX7_hangsOf_30 : decode cX7_hangsOf 30 = .ok (.iand, 1) := by decide +kernel
theorem dX7_hangsOf_31 : decode cX7_hangsOf 31 = .ok (.invokevirtual 107, 3) := by decide +kernel
theorem dX7_hangsOf_34 : decode cX7_hangsOf 34 = .ok (.ixor, 1) := by decide +kernel
theorem dX7_hangsOf_35 : decode cX7_hangsOf 35 = .ok (.ireturn, 1) := by decide +kernel
theorem dX7_fewestToTurn_0 : decode cX7_fewestToTurn 0 = .ok (.aload_n 0, 1) := by decide +kernel
theorem dX7_fewestToTurn_1 : decode cX7_fewestToTurn 1 = .ok (.getfield 26, 3) := by decide +kernel
theorem dX7_fewestToTurn_4 : decode cX7_fewestToTurn 4 = .ok (.invokevirtual 86, 3) := by decide +kernel
theorem dX7_fewestToTurn_7 : decode cX7_fewestToTurn 7 = .ok (.istore 4, 2) := by decide +kernel
theorem dX7_fewestToTurn_9 : decode cX7_fewestToTurn 9 = .ok (.bipush (-9), 2) := by decide +kernel
theorem dX7_fewestToTurn_11 : decode cX7_fewestToTurn 11 = .ok (.istore 5, 2) := by decide +kernel
theorem dX7_fewestToTurn_13 : decode cX7_fewestToTurn 13 = .ok (.bipush 9, 2) := by decide +kernel
theorem dX7_fewestToTurn_15 : decode cX7_fewestToTurn 15 = .ok (.istore 6, 2) := by decide +kernel
theorem dX7_fewestToTurn_17 : decode cX7_fewestToTurn 17 = .ok (.iconst 0, 1) := by decide +kernel
theorem dX7_fewestToTurn_18 : decode cX7_fewestToTurn 18 = .ok (.istore 7, 2) := by decide +kernel
theorem dX7_fewestToTurn_20 : decode cX7_fewestToTurn 20 = .ok (.iload 7, 2) := by decide +kernel
theorem dX7_fewestToTurn_22 : decode cX7_fewestToTurn 22 = .ok (.sipush 256, 3) := by decide +kernel
theorem dX7_fewestToTurn_25 : decode cX7_fewestToTurn 25 = .ok (.if_icmp .ge 57, 3) := by decide +kernel
theorem dX7_fewestToTurn_28 : decode cX7_fewestToTurn 28 = .ok (.iload 7, 2) := by decide +kernel
theorem dX7_fewestToTurn_30 : decode cX7_fewestToTurn 30 = .ok (.invokestatic 89, 3) := by decide +kernel
theorem dX7_fewestToTurn_33 : decode cX7_fewestToTurn 33 = .ok (.istore 8, 2) := by decide +kernel
theorem dX7_fewestToTurn_35 : decode cX7_fewestToTurn 35 = .ok (.iload 7, 2) := by decide +kernel
theorem dX7_fewestToTurn_37 : decode cX7_fewestToTurn 37 = .ok (.iload_n 2, 1) := by decide +kernel
theorem dX7_fewestToTurn_38 : decode cX7_fewestToTurn 38 = .ok (.iconst (-1), 1) := by decide +kernel
theorem dX7_fewestToTurn_39 : decode cX7_fewestToTurn 39 = .ok (.ixor, 1) := by decide +kernel
theorem dX7_fewestToTurn_40 : decode cX7_fewestToTurn 40 = .ok (.iand, 1) := by decide +kernel
theorem dX7_fewestToTurn_41 : decode cX7_fewestToTurn 41 = .ok (.ifCond .ne 35, 3) := by decide +kernel
theorem dX7_fewestToTurn_44 : decode cX7_fewestToTurn 44 = .ok (.iload 8, 2) := by decide +kernel
theorem dX7_fewestToTurn_46 : decode cX7_fewestToTurn 46 = .ok (.iload 6, 2) := by decide +kernel
theorem dX7_fewestToTurn_48 : decode cX7_fewestToTurn 48 = .ok (.if_icmp .ge 28, 3) := by decide +kernel
theorem dX7_fewestToTurn_51 : decode cX7_fewestToTurn 51 = .ok (.aload_n 0, 1) := by decide +kernel
theorem dX7_fewestToTurn_52 : decode cX7_fewestToTurn 52 = .ok (.getfield 36, 3) := by decide +kernel
theorem dX7_fewestToTurn_55 : decode cX7_fewestToTurn 55 = .ok (.iload_n 1, 1) := by decide +kernel
theorem dX7_fewestToTurn_56 : decode cX7_fewestToTurn 56 = .ok (.iload 4, 2) := by decide +kernel
theorem dX7_fewestToTurn_58 : decode cX7_fewestToTurn 58 = .ok (.iload 7, 2) := by decide +kernel
theorem dX7_fewestToTurn_60 : decode cX7_fewestToTurn 60 = .ok (.ixor, 1) := by decide +kernel
theorem dX7_fewestToTurn_61 : decode cX7_fewestToTurn 61 = .ok (.invokevirtual 151, 3) := by decide +kernel
theorem dX7_fewestToTurn_64 : decode cX7_fewestToTurn 64 = .ok (.iload_n 3, 1) := by decide +kernel
theorem dX7_fewestToTurn_65 : decode cX7_fewestToTurn 65 = .ok (.if_icmp .ne 11, 3) := by decide +kernel
theorem dX7_fewestToTurn_68 : decode cX7_fewestToTurn 68 = .ok (.iload 7, 2) := by decide +kernel
theorem dX7_fewestToTurn_70 : decode cX7_fewestToTurn 70 = .ok (.istore 5, 2) := by decide +kernel
theorem dX7_fewestToTurn_72 : decode cX7_fewestToTurn 72 = .ok (.iload 8, 2) := by decide +kernel
theorem dX7_fewestToTurn_74 : decode cX7_fewestToTurn 74 = .ok (.istore 6, 2) := by decide +kernel
theorem dX7_fewestToTurn_76 : decode cX7_fewestToTurn 76 = .ok (.iinc 7 1, 3) := by decide +kernel
theorem dX7_fewestToTurn_79 : decode cX7_fewestToTurn 79 = .ok (.goto (-59), 3) := by decide +kernel
theorem dX7_fewestToTurn_82 : decode cX7_fewestToTurn 82 = .ok (.iload 5, 2) := by decide +kernel
theorem dX7_fewestToTurn_84 : decode cX7_fewestToTurn 84 = .ok (.ireturn, 1) := by decide +kernel
theorem dX7_withoutLastDoings_0 : decode cX7_withoutLastDoings 0 = .ok (.lload_n 0, 1) := by decide +kernel
theorem dX7_withoutLastDoings_1 : decode cX7_withoutLastDoings 1 = .ok (.lstore_n 3, 1) := by decide +kernel
theorem dX7_withoutLastDoings_2 : decode cX7_withoutLastDoings 2 = .ok (.iconst 0, 1) := by decide +kernel
theorem dX7_withoutLastDoings_3 : decode cX7_withoutLastDoings 3 = .ok (.istore 5, 2) := by decide +kernel
theorem dX7_withoutLastDoings_5 : decode cX7_withoutLastDoings 5 = .ok (.iload 5, 2) := by decide +kernel
theorem dX7_withoutLastDoings_7 : decode cX7_withoutLastDoings 7 = .ok (.iload_n 2, 1) := by decide +kernel
theorem dX7_withoutLastDoings_8 : decode cX7_withoutLastDoings 8 = .ok (.if_icmp .ge 15, 3) := by decide +kernel
theorem dX7_withoutLastDoings_11 : decode cX7_withoutLastDoings 11 = .ok (.lload_n 3, 1) := by decide +kernel
theorem dX7_withoutLastDoings_12 : decode cX7_withoutLastDoings 12 = .ok (.ldc2_w 196, 3) := by decide +kernel
theorem dX7_withoutLastDoings_15 : decode cX7_withoutLastDoings 15 = .ok (.ldiv, 1) := by decide +kernel
theorem dX7_withoutLastDoings_16 : decode cX7_withoutLastDoings 16 = .ok (.lstore_n 3, 1) := by decide +kernel
theorem dX7_withoutLastDoings_17 : decode cX7_withoutLastDoings 17 = .ok (.iinc 5 1, 3) := by decide +kernel
theorem dX7_withoutLastDoings_20 : decode cX7_withoutLastDoings 20 = .ok (.goto (-15), 3) := by decide +kernel
theorem dX7_withoutLastDoings_23 : decode cX7_withoutLastDoings 23 = .ok (.lload_n 3, 1) := by decide +kernel
theorem dX7_withoutLastDoings_24 : decode cX7_withoutLastDoings 24 = .ok (.lreturn, 1) := by decide +kernel
theorem dX7_tryDoing_0 : decode cX7_tryDoing 0 = .ok (.iload_n 1, 1) := by decide +kernel
theorem dX7_tryDoing_1 : decode cX7_tryDoing 1 = .ok (.iconst 1, 1) := by decide +kernel
theorem dX7_tryDoing_2 : decode cX7_tryDoing 2 = .ok (.if_icmp .ne 24, 3) := by decide +kernel
theorem dX7_tryDoing_5 : decode cX7_tryDoing 5 = .ok (.aload_n 0, 1) := by decide +kernel
theorem dX7_tryDoing_6 : decode cX7_tryDoing 6 = .ok (.getfield 30, 3) := by decide +kernel
theorem dX7_tryDoing_9 : decode cX7_tryDoing 9 = .ok (.iload_n 2, 1) := by decide +kernel
theorem dX7_tryDoing_10 : decode cX7_tryDoing 10 = .ok (.iload_n 3, 1) := by decide +kernel
theorem dX7_tryDoing_11 : decode cX7_tryDoing 11 = .ok (.invokevirtual 159, 3) := by decide +kernel
theorem dX7_tryDoing_14 : decode cX7_tryDoing 14 = .ok (.invokestatic 256, 3) := by decide +kernel
theorem dX7_tryDoing_17 : decode cX7_tryDoing 17 = .ok (.ifCond .ne 7, 3) := by decide +kernel
theorem dX7_tryDoing_20 : decode cX7_tryDoing 20 = .ok (.iconst 1, 1) := by decide +kernel
theorem dX7_tryDoing_21 : decode cX7_tryDoing 21 = .ok (.goto 4, 3) := by decide +kernel
theorem dX7_tryDoing_24 : decode cX7_tryDoing 24 = .ok (.iconst 0, 1) := by decide +kernel
theorem dX7_tryDoing_25 : decode cX7_tryDoing 25 = .ok (.ireturn, 1) := by decide +kernel
theorem dX7_tryDoing_26 : decode cX7_tryDoing 26 = .ok (.iload_n 2, 1) := by decide +kernel
theorem dX7_tryDoing_27 : decode cX7_tryDoing 27 = .ok (.ifCond .eq 5, 3) := by decide +kernel
theorem dX7_tryDoing_30 : decode cX7_tryDoing 30 = .ok (.iconst 0, 1) := by decide +kernel
theorem dX7_tryDoing_31 : decode cX7_tryDoing 31 = .ok (.ireturn, 1) := by decide +kernel
theorem dX7_tryDoing_32 : decode cX7_tryDoing 32 = .ok (.iload_n 1, 1) := by decide +kernel
theorem dX7_tryDoing_33 : decode cX7_tryDoing 33 = .ok (.tableswitch 174 0 6 #[43, 174, 59, 79, 99, 119, 139], 43) := by decide +kernel
theorem dX7_tryDoing_76 : decode cX7_tryDoing 76 = .ok (.iload_n 3, 1) := by decide +kernel
theorem dX7_tryDoing_77 : decode cX7_tryDoing 77 = .ok (.ifCond .eq 5, 3) := by decide +kernel
theorem dX7_tryDoing_80 : decode cX7_tryDoing 80 = .ok (.iconst 0, 1) := by decide +kernel
theorem dX7_tryDoing_81 : decode cX7_tryDoing 81 = .ok (.ireturn, 1) := by decide +kernel
theorem dX7_tryDoing_82 : decode cX7_tryDoing 82 = .ok (.aload_n 0, 1) := by decide +kernel
theorem dX7_tryDoing_83 : decode cX7_tryDoing 83 = .ok (.getfield 30, 3) := by decide +kernel
theorem dX7_tryDoing_86 : decode cX7_tryDoing 86 = .ok (.invokevirtual 175, 3) := by decide +kernel
theorem dX7_tryDoing_89 : decode cX7_tryDoing 89 = .ok (.pop, 1) := by decide +kernel
theorem dX7_tryDoing_90 : decode cX7_tryDoing 90 = .ok (.iconst 1, 1) := by decide +kernel
theorem dX7_tryDoing_91 : decode cX7_tryDoing 91 = .ok (.ireturn, 1) := by decide +kernel
theorem dX7_tryDoing_92 : decode cX7_tryDoing 92 = .ok (.aload_n 0, 1) := by decide +kernel
theorem dX7_tryDoing_93 : decode cX7_tryDoing 93 = .ok (.getfield 30, 3) := by decide +kernel
theorem dX7_tryDoing_96 : decode cX7_tryDoing 96 = .ok (.iload_n 3, 1) := by decide +kernel
theorem dX7_tryDoing_97 : decode cX7_tryDoing 97 = .ok (.invokevirtual 166, 3) := by decide +kernel
theorem dX7_tryDoing_100 : decode cX7_tryDoing 100 = .ok (.invokestatic 256, 3) := by decide +kernel
theorem dX7_tryDoing_103 : decode cX7_tryDoing 103 = .ok (.ifCond .ne 7, 3) := by decide +kernel
theorem dX7_tryDoing_106 : decode cX7_tryDoing 106 = .ok (.iconst 1, 1) := by decide +kernel
theorem dX7_tryDoing_107 : decode cX7_tryDoing 107 = .ok (.goto 4, 3) := by decide +kernel
theorem dX7_tryDoing_110 : decode cX7_tryDoing 110 = .ok (.iconst 0, 1) := by decide +kernel
theorem dX7_tryDoing_111 : decode cX7_tryDoing 111 = .ok (.ireturn, 1) := by decide +kernel
theorem dX7_tryDoing_112 : decode cX7_tryDoing 112 = .ok (.aload_n 0, 1) := by decide +kernel
theorem dX7_tryDoing_113 : decode cX7_tryDoing 113 = .ok (.getfield 30, 3) := by decide +kernel
theorem dX7_tryDoing_116 : decode cX7_tryDoing 116 = .ok (.iload_n 3, 1) := by decide +kernel
theorem dX7_tryDoing_117 : decode cX7_tryDoing 117 = .ok (.invokevirtual 169, 3) := by decide +kernel
theorem dX7_tryDoing_120 : decode cX7_tryDoing 120 = .ok (.invokestatic 256, 3) := by decide +kernel
theorem dX7_tryDoing_123 : decode cX7_tryDoing 123 = .ok (.ifCond .ne 7, 3) := by decide +kernel
theorem dX7_tryDoing_126 : decode cX7_tryDoing 126 = .ok (.iconst 1, 1) := by decide +kernel
theorem dX7_tryDoing_127 : decode cX7_tryDoing 127 = .ok (.goto 4, 3) := by decide +kernel
theorem dX7_tryDoing_130 : decode cX7_tryDoing 130 = .ok (.iconst 0, 1) := by decide +kernel
theorem dX7_tryDoing_131 : decode cX7_tryDoing 131 = .ok (.ireturn, 1) := by decide +kernel
theorem dX7_tryDoing_132 : decode cX7_tryDoing 132 = .ok (.aload_n 0, 1) := by decide +kernel
theorem dX7_tryDoing_133 : decode cX7_tryDoing 133 = .ok (.getfield 30, 3) := by decide +kernel
theorem dX7_tryDoing_136 : decode cX7_tryDoing 136 = .ok (.iload_n 3, 1) := by decide +kernel
theorem dX7_tryDoing_137 : decode cX7_tryDoing 137 = .ok (.invokevirtual 172, 3) := by decide +kernel
theorem dX7_tryDoing_140 : decode cX7_tryDoing 140 = .ok (.invokestatic 256, 3) := by decide +kernel
theorem dX7_tryDoing_143 : decode cX7_tryDoing 143 = .ok (.ifCond .ne 7, 3) := by decide +kernel
theorem dX7_tryDoing_146 : decode cX7_tryDoing 146 = .ok (.iconst 1, 1) := by decide +kernel
theorem dX7_tryDoing_147 : decode cX7_tryDoing 147 = .ok (.goto 4, 3) := by decide +kernel
theorem dX7_tryDoing_150 : decode cX7_tryDoing 150 = .ok (.iconst 0, 1) := by decide +kernel
theorem dX7_tryDoing_151 : decode cX7_tryDoing 151 = .ok (.ireturn, 1) := by decide +kernel
theorem dX7_tryDoing_152 : decode cX7_tryDoing 152 = .ok (.aload_n 0, 1) := by decide +kernel
theorem dX7_tryDoing_153 : decode cX7_tryDoing 153 = .ok (.getfield 30, 3) := by decide +kernel
theorem dX7_tryDoing_156 : decode cX7_tryDoing 156 = .ok (.iload_n 3, 1) := by decide +kernel
theorem dX7_tryDoing_157 : decode cX7_tryDoing 157 = .ok (.invokevirtual 178, 3) := by decide +kernel
theorem dX7_tryDoing_160 : decode cX7_tryDoing 160 = .ok (.invokestatic 256, 3) := by decide +kernel
theorem dX7_tryDoing_163 : decode cX7_tryDoing 163 = .ok (.ifCond .ne 7, 3) := by decide +kernel
theorem dX7_tryDoing_166 : decode cX7_tryDoing 166 = .ok (.iconst 1, 1) := by decide +kernel
theorem dX7_tryDoing_167 : decode cX7_tryDoing 167 = .ok (.goto 4, 3) := by decide +kernel
theorem dX7_tryDoing_170 : decode cX7_tryDoing 170 = .ok (.iconst 0, 1) := by decide +kernel
theorem dX7_tryDoing_171 : decode cX7_tryDoing 171 = .ok (.ireturn, 1) := by decide +kernel
theorem dX7_tryDoing_172 : decode cX7_tryDoing 172 = .ok (.aload_n 0, 1) := by decide +kernel
theorem dX7_tryDoing_173 : decode cX7_tryDoing 173 = .ok (.getfield 36, 3) := by decide +kernel
theorem dX7_tryDoing_176 : decode cX7_tryDoing 176 = .ok (.iload_n 3, 1) := by decide +kernel
theorem dX7_tryDoing_177 : decode cX7_tryDoing 177 = .ok (.invokevirtual 142, 3) := by decide +kernel
theorem dX7_tryDoing_180 : decode cX7_tryDoing 180 = .ok (.ifCond .eq 25, 3) := by decide +kernel
theorem dX7_tryDoing_183 : decode cX7_tryDoing 183 = .ok (.aload_n 0, 1) := by decide +kernel
theorem dX7_tryDoing_184 : decode cX7_tryDoing 184 = .ok (.getfield 36, 3) := by decide +kernel
theorem dX7_tryDoing_187 : decode cX7_tryDoing 187 = .ok (.iload_n 3, 1) := by decide +kernel
theorem dX7_tryDoing_188 : decode cX7_tryDoing 188 = .ok (.aload_n 0, 1) := by decide +kernel
theorem dX7_tryDoing_189 : decode cX7_tryDoing 189 = .ok (.getfield 30, 3) := by decide +kernel
theorem dX7_tryDoing_192 : decode cX7_tryDoing 192 = .ok (.invokevirtual 86, 3) := by decide +kernel
theorem dX7_tryDoing_195 : decode cX7_tryDoing 195 = .ok (.invokevirtual 151, 3) := by decide +kernel
theorem dX7_tryDoing_198 : decode cX7_tryDoing 198 = .ok (.ifCond .eq 7, 3) := by decide +kernel
theorem dX7_tryDoing_201 : decode cX7_tryDoing 201 = .ok (.iconst 1, 1) := by decide +kernel
theorem dX7_tryDoing_202 : decode cX7_tryDoing 202 = .ok (.goto 4, 3) := by decide +kernel
theorem dX7_tryDoing_205 : decode cX7_tryDoing 205 = .ok (.iconst 0, 1) := by decide +kernel
theorem dX7_tryDoing_206 : decode cX7_tryDoing 206 = .ok (.ireturn, 1) := by decide +kernel
theorem dX7_tryDoing_207 : decode cX7_tryDoing 207 = .ok (.iconst 0, 1) := by decide +kernel
theorem dX7_tryDoing_208 : decode cX7_tryDoing 208 = .ok (.ireturn, 1) := by decide +kernel
theorem dX7_gainInAllOrders_0 : decode cX7_gainInAllOrders 0 = .ok (.iconst 1, 1) := by decide +kernel
theorem dX7_gainInAllOrders_1 : decode cX7_gainInAllOrders 1 = .ok (.iload_n 1, 1) := by decide +kernel
theorem dX7_gainInAllOrders_2 : decode cX7_gainInAllOrders 2 = .ok (.ishl, 1) := by decide +kernel
theorem dX7_gainInAllOrders_3 : decode cX7_gainInAllOrders 3 = .ok (.istore_n 3, 1) := by decide +kernel
theorem dX7_gainInAllOrders_4 : decode cX7_gainInAllOrders 4 = .ok (.iload_n 2, 1) := by decide +kernel
theorem dX7_gainInAllOrders_5 : decode cX7_gainInAllOrders 5 = .ok (.iload_n 3, 1) := by decide +kernel
theorem dX7_gainInAllOrders_6 : decode cX7_gainInAllOrders 6 = .ok (.iconst (-1), 1) := by decide +kernel
theorem dX7_gainInAllOrders_7 : decode cX7_gainInAllOrders 7 = .ok (.ixor, 1) := by decide +kernel
theorem dX7_gainInAllOrders_8 : decode cX7_gainInAllOrders 8 = .ok (.iand, 1) := by decide +kernel
theorem dX7_gainInAllOrders_9 : decode cX7_gainInAllOrders 9 = .ok (.istore 4, 2) := by decide +kernel
theorem dX7_gainInAllOrders_11 : decode cX7_gainInAllOrders 11 = .ok (.iload 4, 2) := by decide +kernel
theorem dX7_gainInAllOrders_13 : decode cX7_gainInAllOrders 13 = .ok (.invokestatic 89, 3) := by decide +kernel
theorem dX7_gainInAllOrders_16 : decode cX7_gainInAllOrders 16 = .ok (.istore 5, 2) := by decide +kernel
theorem dX7_gainInAllOrders_18 : decode cX7_gainInAllOrders 18 = .ok (.iconst 0, 1) := by decide +kernel
theorem dX7_gainInAllOrders_19 : decode cX7_gainInAllOrders 19 = .ok (.istore 6, 2) := by decide +kernel
theorem dX7_gainInAllOrders_21 : decode cX7_gainInAllOrders 21 = .ok (.iconst 0, 1) := by decide +kernel
theorem dX7_gainInAllOrders_22 : decode cX7_gainInAllOrders 22 = .ok (.istore 7, 2) := by decide +kernel
theorem dX7_gainInAllOrders_24 : decode cX7_gainInAllOrders 24 = .ok (.iload 7, 2) := by decide +kernel
theorem dX7_gainInAllOrders_26 : decode cX7_gainInAllOrders 26 = .ok (.sipush 256, 3) := by decide +kernel
theorem dX7_gainInAllOrders_29 : decode cX7_gainInAllOrders 29 = .ok (.if_icmp .ge 77, 3) := by decide +kernel
theorem dX7_gainInAllOrders_32 : decode cX7_gainInAllOrders 32 = .ok (.iload 7, 2) := by decide +kernel
theorem dX7_gainInAllOrders_34 : decode cX7_gainInAllOrders 34 = .ok (.iload 4, 2) := by decide +kernel
theorem dX7_gainInAllOrders_36 : decode cX7_gainInAllOrders 36 = .ok (.iconst (-1), 1) := by decide +kernel
theorem dX7_gainInAllOrders_37 : decode cX7_gainInAllOrders 37 = .ok (.ixor, 1) := by decide +kernel
theorem dX7_gainInAllOrders_38 : decode cX7_gainInAllOrders 38 = .ok (.iand, 1) := by decide +kernel
theorem dX7_gainInAllOrders_39 : decode cX7_gainInAllOrders 39 = .ok (.ifCond .ne 61, 3) := by decide +kernel
theorem dX7_gainInAllOrders_42 : decode cX7_gainInAllOrders 42 = .ok (.iload 7, 2) := by decide +kernel
theorem dX7_gainInAllOrders_44 : decode cX7_gainInAllOrders 44 = .ok (.invokestatic 89, 3) := by decide +kernel
theorem dX7_gainInAllOrders_47 : decode cX7_gainInAllOrders 47 = .ok (.istore 8, 2) := by decide +kernel
theorem dX7_gainInAllOrders_49 : decode cX7_gainInAllOrders 49 = .ok (.aload_n 0, 1) := by decide +kernel
theorem dX7_gainInAllOrders_50 : decode cX7_gainInAllOrders 50 = .ok (.getfield 36, 3) := by decide +kernel
theorem dX7_gainInAllOrders_53 : decode cX7_gainInAllOrders 53 = .ok (.iload 7, 2) := by decide +kernel
theorem dX7_gainInAllOrders_55 : decode cX7_gainInAllOrders 55 = .ok (.iload_n 3, 1) := by decide +kernel
theorem dX7_gainInAllOrders_56 : decode cX7_gainInAllOrders 56 = .ok (.ior, 1) := by decide +kernel
theorem dX7_gainInAllOrders_57 : decode cX7_gainInAllOrders 57 = .ok (.invokevirtual 107, 3) := by decide +kernel
theorem dX7_gainInAllOrders_60 : decode cX7_gainInAllOrders 60 = .ok (.invokestatic 89, 3) := by decide +kernel
theorem dX7_gainInAllOrders_63 : decode cX7_gainInAllOrders 63 = .ok (.aload_n 0, 1) := by decide +kernel
theorem dX7_gainInAllOrders_64 : decode cX7_gainInAllOrders 64 = .ok (.getfield 36, 3) := by decide +kernel
theorem dX7_gainInAllOrders_67 : decode cX7_gainInAllOrders 67 = .ok (.iload 7, 2) := by decide +kernel
theorem dX7_gainInAllOrders_69 : decode cX7_gainInAllOrders 69 = .ok (.invokevirtual 107, 3) := by decide +kernel
theorem dX7_gainInAllOrders_72 : decode cX7_gainInAllOrders 72 = .ok (.invokestatic 89, 3) := by decide +kernel
theorem dX7_gainInAllOrders_75 : decode cX7_gainInAllOrders 75 = .ok (.isub, 1) := by decide +kernel
theorem dX7_gainInAllOrders_76 : decode cX7_gainInAllOrders 76 = .ok (.istore 9, 2) := by decide +kernel
theorem dX7_gainInAllOrders_78 : decode cX7_gainInAllOrders 78 = .ok (.iload 6, 2) := by decide +kernel
theorem dX7_gainInAllOrders_80 : decode cX7_gainInAllOrders 80 = .ok (.iload 9, 2) := by decide +kernel
theorem dX7_gainInAllOrders_82 : decode cX7_gainInAllOrders 82 = .ok (.iload 8, 2) := by decide +kernel
theorem dX7_gainInAllOrders_84 : decode cX7_gainInAllOrders 84 = .ok (.invokestatic 208, 3) := by decide +kernel
theorem dX7_gainInAllOrders_87 : decode cX7_gainInAllOrders 87 = .ok (.imul, 1) := by decide +kernel
theorem dX7_gainInAllOrders_88 : decode cX7_gainInAllOrders 88 = .ok (.iload 5, 2) := by decide +kernel
theorem dX7_gainInAllOrders_90 : decode cX7_gainInAllOrders 90 = .ok (.iload 8, 2) := by decide +kernel
theorem dX7_gainInAllOrders_92 : decode cX7_gainInAllOrders 92 = .ok (.isub, 1) := by decide +kernel
theorem dX7_gainInAllOrders_93 : decode cX7_gainInAllOrders 93 = .ok (.invokestatic 208, 3) := by decide +kernel
theorem dX7_gainInAllOrders_96 : decode cX7_gainInAllOrders 96 = .ok (.imul, 1) := by decide +kernel
theorem dX7_gainInAllOrders_97 : decode cX7_gainInAllOrders 97 = .ok (.iadd, 1) := by decide +kernel
theorem dX7_gainInAllOrders_98 : decode cX7_gainInAllOrders 98 = .ok (.istore 6, 2) := by decide +kernel
theorem dX7_gainInAllOrders_100 : decode cX7_gainInAllOrders 100 = .ok (.iinc 7 1, 3) := by decide +kernel
theorem dX7_gainInAllOrders_103 : decode cX7_gainInAllOrders 103 = .ok (.goto (-79), 3) := by decide +kernel
theorem dX7_gainInAllOrders_106 : decode cX7_gainInAllOrders 106 = .ok (.iload 6, 2) := by decide +kernel
theorem dX7_gainInAllOrders_108 : decode cX7_gainInAllOrders 108 = .ok (.ireturn, 1) := by decide +kernel
theorem dX7_factorial_0 : decode cX7_factorial 0 = .ok (.iconst 1, 1) := by decide +kernel
theorem dX7_factorial_1 : decode cX7_factorial 1 = .ok (.istore_n 1, 1) := by decide +kernel
theorem dX7_factorial_2 : decode cX7_factorial 2 = .ok (.iconst 2, 1) := by decide +kernel
theorem dX7_factorial_3 : decode cX7_factorial 3 = .ok (.istore_n 2, 1) := by decide +kernel
theorem dX7_factorial_4 : decode cX7_factorial 4 = .ok (.iload_n 2, 1) := by decide +kernel
theorem dX7_factorial_5 : decode cX7_factorial 5 = .ok (.iload_n 0, 1) := by decide +kernel
theorem dX7_factorial_6 : decode cX7_factorial 6 = .ok (.if_icmp .gt 13, 3) := by decide +kernel
theorem dX7_factorial_9 : decode cX7_factorial 9 = .ok (.iload_n 1, 1) := by decide +kernel
theorem dX7_factorial_10 : decode cX7_factorial 10 = .ok (.iload_n 2, 1) := by decide +kernel
theorem dX7_factorial_11 : decode cX7_factorial 11 = .ok (.imul, 1) := by decide +kernel
theorem dX7_factorial_12 : decode cX7_factorial 12 = .ok (.istore_n 1, 1) := by decide +kernel
theorem dX7_factorial_13 : decode cX7_factorial 13 = .ok (.iinc 2 1, 3) := by decide +kernel
theorem dX7_factorial_16 : decode cX7_factorial 16 = .ok (.goto (-12), 3) := by decide +kernel
theorem dX7_factorial_19 : decode cX7_factorial 19 = .ok (.iload_n 1, 1) := by decide +kernel
theorem dX7_factorial_20 : decode cX7_factorial 20 = .ok (.ireturn, 1) := by decide +kernel
theorem dX7_fraction_0 : decode cX7_fraction 0 = .ok (.iload_n 2, 1) := by decide +kernel
theorem dX7_fraction_1 : decode cX7_fraction 1 = .ok (.ifCond .eq 7, 3) := by decide +kernel
theorem dX7_fraction_4 : decode cX7_fraction 4 = .ok (.iload_n 0, 1) := by decide +kernel
theorem dX7_fraction_5 : decode cX7_fraction 5 = .ok (.goto 4, 3) := by decide +kernel
theorem dX7_fraction_8 : decode cX7_fraction 8 = .ok (.iload_n 1, 1) := by decide +kernel
theorem dX7_fraction_9 : decode cX7_fraction 9 = .ok (.istore_n 3, 1) := by decide +kernel
theorem dX7_fraction_10 : decode cX7_fraction 10 = .ok (.iload_n 0, 1) := by decide +kernel
theorem dX7_fraction_11 : decode cX7_fraction 11 = .ok (.invokestatic 261, 3) := by decide +kernel
theorem dX7_fraction_14 : decode cX7_fraction 14 = .ok (.iload_n 1, 1) := by decide +kernel
theorem dX7_fraction_15 : decode cX7_fraction 15 = .ok (.invokestatic 266, 3) := by decide +kernel
theorem dX7_fraction_18 : decode cX7_fraction 18 = .ok (.istore 4, 2) := by decide +kernel
theorem dX7_fraction_20 : decode cX7_fraction 20 = .ok (.iload 4, 2) := by decide +kernel
theorem dX7_fraction_22 : decode cX7_fraction 22 = .ok (.ifCond .ne 7, 3) := by decide +kernel
theorem dX7_fraction_25 : decode cX7_fraction 25 = .ok (.iload_n 3, 1) := by decide +kernel
theorem dX7_fraction_26 : decode cX7_fraction 26 = .ok (.goto 7, 3) := by decide +kernel
theorem dX7_fraction_29 : decode cX7_fraction 29 = .ok (.iload_n 3, 1) := by decide +kernel
theorem dX7_fraction_30 : decode cX7_fraction 30 = .ok (.iload 4, 2) := by decide +kernel
theorem dX7_fraction_32 : decode cX7_fraction 32 = .ok (.idiv, 1) := by decide +kernel
theorem dX7_fraction_33 : decode cX7_fraction 33 = .ok (.ireturn, 1) := by decide +kernel
theorem dX7_commonDivisor_0 : decode cX7_commonDivisor 0 = .ok (.iload_n 0, 1) := by decide +kernel
theorem dX7_commonDivisor_1 : decode cX7_commonDivisor 1 = .ok (.istore_n 2, 1) := by decide +kernel
theorem dX7_commonDivisor_2 : decode cX7_commonDivisor 2 = .ok (.iload_n 1, 1) := by decide +kernel
theorem dX7_commonDivisor_3 : decode cX7_commonDivisor 3 = .ok (.istore_n 3, 1) := by decide +kernel
theorem dX7_commonDivisor_4 : decode cX7_commonDivisor 4 = .ok (.iconst 0, 1) := by decide +kernel
theorem dX7_commonDivisor_5 : decode cX7_commonDivisor 5 = .ok (.istore 4, 2) := by decide +kernel
theorem dX7_commonDivisor_7 : decode cX7_commonDivisor 7 = .ok (.iload 4, 2) := by decide +kernel
theorem dX7_commonDivisor_9 : decode cX7_commonDivisor 9 = .ok (.bipush 100, 2) := by decide +kernel
theorem dX7_commonDivisor_11 : decode cX7_commonDivisor 11 = .ok (.if_icmp .ge 23, 3) := by decide +kernel
theorem dX7_commonDivisor_14 : decode cX7_commonDivisor 14 = .ok (.iload_n 3, 1) := by decide +kernel
theorem dX7_commonDivisor_15 : decode cX7_commonDivisor 15 = .ok (.ifCond .eq 19, 3) := by decide +kernel
theorem dX7_commonDivisor_18 : decode cX7_commonDivisor 18 = .ok (.iload_n 2, 1) := by decide +kernel
theorem dX7_commonDivisor_19 : decode cX7_commonDivisor 19 = .ok (.iload_n 3, 1) := by decide +kernel
theorem dX7_commonDivisor_20 : decode cX7_commonDivisor 20 = .ok (.irem, 1) := by decide +kernel
theorem dX7_commonDivisor_21 : decode cX7_commonDivisor 21 = .ok (.istore 5, 2) := by decide +kernel
theorem dX7_commonDivisor_23 : decode cX7_commonDivisor 23 = .ok (.iload_n 3, 1) := by decide +kernel
theorem dX7_commonDivisor_24 : decode cX7_commonDivisor 24 = .ok (.istore_n 2, 1) := by decide +kernel
theorem dX7_commonDivisor_25 : decode cX7_commonDivisor 25 = .ok (.iload 5, 2) := by decide +kernel
theorem dX7_commonDivisor_27 : decode cX7_commonDivisor 27 = .ok (.istore_n 3, 1) := by decide +kernel
theorem dX7_commonDivisor_28 : decode cX7_commonDivisor 28 = .ok (.iinc 4 1, 3) := by decide +kernel
theorem dX7_commonDivisor_31 : decode cX7_commonDivisor 31 = .ok (.goto (-24), 3) := by decide +kernel
theorem dX7_commonDivisor_34 : decode cX7_commonDivisor 34 = .ok (.iload_n 2, 1) := by decide +kernel
theorem dX7_commonDivisor_35 : decode cX7_commonDivisor 35 = .ok (.ireturn, 1) := by decide +kernel
theorem dX7_isBest_0 : decode cX7_isBest 0 = .ok (.aload_n 0, 1) := by decide +kernel
theorem dX7_isBest_1 : decode cX7_isBest 1 = .ok (.iload_n 1, 1) := by decide +kernel
theorem dX7_isBest_2 : decode cX7_isBest 2 = .ok (.iload_n 2, 1) := by decide +kernel
theorem dX7_isBest_3 : decode cX7_isBest 3 = .ok (.iload_n 3, 1) := by decide +kernel
theorem dX7_isBest_4 : decode cX7_isBest 4 = .ok (.iload 4, 2) := by decide +kernel
theorem dX7_isBest_6 : decode cX7_isBest 6 = .ok (.invokevirtual 269, 3) := by decide +kernel
theorem dX7_isBest_9 : decode cX7_isBest 9 = .ok (.istore 5, 2) := by decide +kernel
theorem dX7_isBest_11 : decode cX7_isBest 11 = .ok (.iconst 0, 1) := by decide +kernel
theorem dX7_isBest_12 : decode cX7_isBest 12 = .ok (.istore 6, 2) := by decide +kernel
theorem dX7_isBest_14 : decode cX7_isBest 14 = .ok (.iload 6, 2) := by decide +kernel
theorem dX7_isBest_16 : decode cX7_isBest 16 = .ok (.iconst 3, 1) := by decide +kernel
theorem dX7_isBest_17 : decode cX7_isBest 17 = .ok (.if_icmp .ge 26, 3) := by decide +kernel
theorem dX7_isBest_20 : decode cX7_isBest 20 = .ok (.aload_n 0, 1) := by decide +kernel
theorem dX7_isBest_21 : decode cX7_isBest 21 = .ok (.iload_n 1, 1) := by decide +kernel
theorem dX7_isBest_22 : decode cX7_isBest 22 = .ok (.iload_n 2, 1) := by decide +kernel
theorem dX7_isBest_23 : decode cX7_isBest 23 = .ok (.iload 6, 2) := by decide +kernel
theorem dX7_isBest_25 : decode cX7_isBest 25 = .ok (.iload 4, 2) := by decide +kernel
theorem dX7_isBest_27 : decode cX7_isBest 27 = .ok (.invokevirtual 269, 3) := by decide +kernel
theorem dX7_isBest_30 : decode cX7_isBest 30 = .ok (.iload 5, 2) := by decide +kernel
theorem dX7_isBest_32 : decode cX7_isBest 32 = .ok (.if_icmp .le 5, 3) := by decide +kernel
theorem dX7_isBest_35 : decode cX7_isBest 35 = .ok (.iconst 0, 1) := by decide +kernel
theorem dX7_isBest_36 : decode cX7_isBest 36 = .ok (.ireturn, 1) := by decide +kernel
theorem dX7_isBest_37 : decode cX7_isBest 37 = .ok (.iinc 6 1, 3) := by decide +kernel
theorem dX7_isBest_40 : decode cX7_isBest 40 = .ok (.goto (-26), 3) := by decide +kernel
theorem dX7_isBest_43 : decode cX7_isBest 43 = .ok (.iconst 1, 1) := by decide +kernel
theorem dX7_isBest_44 : decode cX7_isBest 44 = .ok (.ireturn, 1) := by decide +kernel
theorem dX7_worth_0 : decode cX7_worth 0 = .ok (.aload_n 0, 1) := by decide +kernel
theorem dX7_worth_1 : decode cX7_worth 1 = .ok (.getfield 26, 3) := by decide +kernel
theorem dX7_worth_4 : decode cX7_worth 4 = .ok (.invokevirtual 86, 3) := by decide +kernel
theorem dX7_worth_7 : decode cX7_worth 7 = .ok (.istore 5, 2) := by decide +kernel
theorem dX7_worth_9 : decode cX7_worth 9 = .ok (.aload_n 0, 1) := by decide +kernel
theorem dX7_worth_10 : decode cX7_worth 10 = .ok (.getfield 36, 3) := by decide +kernel
theorem dX7_worth_13 : decode cX7_worth 13 = .ok (.iload 5, 2) := by decide +kernel
theorem dX7_worth_15 : decode cX7_worth 15 = .ok (.iload_n 3, 1) := by decide +kernel
theorem dX7_worth_16 : decode cX7_worth 16 = .ok (.iload 5, 2) := by decide +kernel
theorem dX7_worth_18 : decode cX7_worth 18 = .ok (.invokestatic 273, 3) := by decide +kernel
theorem dX7_worth_21 : decode cX7_worth 21 = .ok (.iconst (-1), 1) := by decide +kernel
theorem dX7_worth_22 : decode cX7_worth 22 = .ok (.ixor, 1) := by decide +kernel
theorem dX7_worth_23 : decode cX7_worth 23 = .ok (.iand, 1) := by decide +kernel
theorem dX7_worth_24 : decode cX7_worth 24 = .ok (.iload 4, 2) := by decide +kernel
theorem dX7_worth_26 : decode cX7_worth 26 = .ok (.iload 5, 2) := by decide +kernel
theorem dX7_worth_28 : decode cX7_worth 28 = .ok (.invokestatic 273, 3) := by decide +kernel
theorem dX7_worth_31 : decode cX7_worth 31 = .ok (.iconst (-1), 1) := by decide +kernel
theorem dX7_worth_32 : decode cX7_worth 32 = .ok (.ixor, 1) := by decide +kernel
theorem dX7_worth_33 : decode cX7_worth 33 = .ok (.iand, 1) := by decide +kernel
theorem dX7_worth_34 : decode cX7_worth 34 = .ok (.invokevirtual 107, 3) := by decide +kernel
theorem dX7_worth_37 : decode cX7_worth 37 = .ok (.istore 6, 2) := by decide +kernel
theorem dX7_worth_39 : decode cX7_worth 39 = .ok (.iconst 3, 1) := by decide +kernel
theorem dX7_worth_40 : decode cX7_worth 40 = .ok (.iload 6, 2) := by decide +kernel
theorem dX7_worth_42 : decode cX7_worth 42 = .ok (.iload_n 1, 1) := by decide +kernel
theorem dX7_worth_43 : decode cX7_worth 43 = .ok (.ishr, 1) := by decide +kernel
theorem dX7_worth_44 : decode cX7_worth 44 = .ok (.iconst 1, 1) := by decide +kernel
theorem dX7_worth_45 : decode cX7_worth 45 = .ok (.iand, 1) := by decide +kernel
theorem dX7_worth_46 : decode cX7_worth 46 = .ok (.imul, 1) := by decide +kernel
theorem dX7_worth_47 : decode cX7_worth 47 = .ok (.istore 7, 2) := by decide +kernel
theorem dX7_worth_49 : decode cX7_worth 49 = .ok (.iload_n 3, 1) := by decide +kernel
theorem dX7_worth_50 : decode cX7_worth 50 = .ok (.ifCond .eq 6, 3) := by decide +kernel
theorem dX7_worth_53 : decode cX7_worth 53 = .ok (.iinc 7 (-1), 3) := by decide +kernel
theorem dX7_worth_56 : decode cX7_worth 56 = .ok (.iload 6, 2) := by decide +kernel
theorem dX7_worth_58 : decode cX7_worth 58 = .ok (.iload_n 2, 1) := by decide +kernel
theorem dX7_worth_59 : decode cX7_worth 59 = .ok (.ishr, 1) := by decide +kernel
theorem dX7_worth_60 : decode cX7_worth 60 = .ok (.iconst 1, 1) := by decide +kernel
theorem dX7_worth_61 : decode cX7_worth 61 = .ok (.iand, 1) := by decide +kernel
theorem dX7_worth_62 : decode cX7_worth 62 = .ok (.ifCond .ne 6, 3) := by decide +kernel
theorem dX7_worth_65 : decode cX7_worth 65 = .ok (.iinc 7 1, 3) := by decide +kernel
theorem dX7_worth_68 : decode cX7_worth 68 = .ok (.iload 7, 2) := by decide +kernel
theorem dX7_worth_70 : decode cX7_worth 70 = .ok (.ireturn, 1) := by decide +kernel
theorem dX7_slipChosen_0 : decode cX7_slipChosen 0 = .ok (.iload_n 0, 1) := by decide +kernel
theorem dX7_slipChosen_1 : decode cX7_slipChosen 1 = .ok (.ifCond .ne 5, 3) := by decide +kernel
theorem dX7_slipChosen_4 : decode cX7_slipChosen 4 = .ok (.iconst 0, 1) := by decide +kernel
theorem dX7_slipChosen_5 : decode cX7_slipChosen 5 = .ok (.ireturn, 1) := by decide +kernel
theorem dX7_slipChosen_6 : decode cX7_slipChosen 6 = .ok (.iload_n 0, 1) := by decide +kernel
theorem dX7_slipChosen_7 : decode cX7_slipChosen 7 = .ok (.iconst 1, 1) := by decide +kernel
theorem dX7_slipChosen_8 : decode cX7_slipChosen 8 = .ok (.if_icmp .ne 7, 3) := by decide +kernel
theorem dX7_slipChosen_11 : decode cX7_slipChosen 11 = .ok (.iload_n 1, 1) := by decide +kernel
theorem dX7_slipChosen_12 : decode cX7_slipChosen 12 = .ok (.goto 8, 3) := by decide +kernel
theorem dX7_slipChosen_15 : decode cX7_slipChosen 15 = .ok (.iload_n 1, 1) := by decide +kernel
theorem dX7_slipChosen_16 : decode cX7_slipChosen 16 = .ok (.iload_n 1, 1) := by decide +kernel
theorem dX7_slipChosen_17 : decode cX7_slipChosen 17 = .ok (.iconst 1, 1) := by decide +kernel
theorem dX7_slipChosen_18 : decode cX7_slipChosen 18 = .ok (.isub, 1) := by decide +kernel
theorem dX7_slipChosen_19 : decode cX7_slipChosen 19 = .ok (.iand, 1) := by decide +kernel
theorem dX7_slipChosen_20 : decode cX7_slipChosen 20 = .ok (.istore_n 2, 1) := by decide +kernel
theorem dX7_slipChosen_21 : decode cX7_slipChosen 21 = .ok (.iload_n 2, 1) := by decide +kernel
theorem dX7_slipChosen_22 : decode cX7_slipChosen 22 = .ok (.iload_n 2, 1) := by decide +kernel
theorem dX7_slipChosen_23 : decode cX7_slipChosen 23 = .ok (.ineg, 1) := by decide +kernel
theorem dX7_slipChosen_24 : decode cX7_slipChosen 24 = .ok (.iand, 1) := by decide +kernel
theorem dX7_slipChosen_25 : decode cX7_slipChosen 25 = .ok (.ireturn, 1) := by decide +kernel
theorem dX7_weightOfFire_0 : decode cX7_weightOfFire 0 = .ok (.iconst 1, 1) := by decide +kernel
theorem dX7_weightOfFire_1 : decode cX7_weightOfFire 1 = .ok (.istore_n 2, 1) := by decide +kernel
theorem dX7_weightOfFire_2 : decode cX7_weightOfFire 2 = .ok (.iconst 0, 1) := by decide +kernel
theorem dX7_weightOfFire_3 : decode cX7_weightOfFire 3 = .ok (.istore_n 3, 1) := by decide +kernel
theorem dX7_weightOfFire_4 : decode cX7_weightOfFire 4 = .ok (.iload_n 3, 1) := by decide +kernel
theorem dX7_weightOfFire_5 : decode cX7_weightOfFire 5 = .ok (.iconst 3, 1) := by decide +kernel
theorem dX7_weightOfFire_6 : decode cX7_weightOfFire 6 = .ok (.if_icmp .ge 29, 3) := by decide +kernel
theorem dX7_weightOfFire_9 : decode cX7_weightOfFire 9 = .ok (.iload_n 2, 1) := by decide +kernel
theorem dX7_weightOfFire_10 : decode cX7_weightOfFire 10 = .ok (.iload_n 0, 1) := by decide +kernel
theorem dX7_weightOfFire_11 : decode cX7_weightOfFire 11 = .ok (.iload_n 3, 1) := by decide +kernel
theorem dX7_weightOfFire_12 : decode cX7_weightOfFire 12 = .ok (.ishr, 1) := by decide +kernel
theorem dX7_weightOfFire_13 : decode cX7_weightOfFire 13 = .ok (.iconst 1, 1) := by decide +kernel
theorem dX7_weightOfFire_14 : decode cX7_weightOfFire 14 = .ok (.iand, 1) := by decide +kernel
theorem dX7_weightOfFire_15 : decode cX7_weightOfFire 15 = .ok (.iconst 1, 1) := by decide +kernel
theorem dX7_weightOfFire_16 : decode cX7_weightOfFire 16 = .ok (.if_icmp .ne 7, 3) := by decide +kernel
theorem dX7_weightOfFire_19 : decode cX7_weightOfFire 19 = .ok (.iload_n 1, 1) := by decide +kernel
theorem dX7_weightOfFire_20 : decode cX7_weightOfFire 20 = .ok (.goto 7, 3) := by decide +kernel
theorem dX7_weightOfFire_23 : decode cX7_weightOfFire 23 = .ok (.bipush 10, 2) := by decide +kernel
theorem dX7_weightOfFire_25 : decode cX7_weightOfFire 25 = .ok (.iload_n 1, 1) := by decide +kernel
theorem dX7_weightOfFire_26 : decode cX7_weightOfFire 26 = .ok (.isub, 1) := by decide +kernel
theorem dX7_weightOfFire_27 : decode cX7_weightOfFire 27 = .ok (.imul, 1) := by decide +kernel
theorem dX7_weightOfFire_28 : decode cX7_weightOfFire 28 = .ok (.istore_n 2, 1) := by decide +kernel
theorem dX7_weightOfFire_29 : decode cX7_weightOfFire 29 = .ok (.iinc 3 1, 3) := by decide +kernel
theorem dX7_weightOfFire_32 : decode cX7_weightOfFire 32 = .ok (.goto (-28), 3) := by decide +kernel
theorem dX7_weightOfFire_35 : decode cX7_weightOfFire 35 = .ok (.iload_n 2, 1) := by decide +kernel
theorem dX7_weightOfFire_36 : decode cX7_weightOfFire 36 = .ok (.ireturn, 1) := by decide +kernel
theorem dX7_leftByFire_0 : decode cX7_leftByFire 0 = .ok (.aload_n 0, 1) := by decide +kernel
theorem dX7_leftByFire_1 : decode cX7_leftByFire 1 = .ok (.getfield 26, 3) := by decide +kernel
theorem dX7_leftByFire_4 : decode cX7_leftByFire 4 = .ok (.invokevirtual 86, 3) := by decide +kernel
theorem dX7_leftByFire_7 : decode cX7_leftByFire 7 = .ok (.istore_n 2, 1) := by decide +kernel
theorem dX7_leftByFire_8 : decode cX7_leftByFire 8 = .ok (.iconst 0, 1) := by decide +kernel
theorem dX7_leftByFire_9 : decode cX7_leftByFire 9 = .ok (.istore_n 3, 1) := by decide +kernel
theorem dX7_leftByFire_10 : decode cX7_leftByFire 10 = .ok (.iload_n 3, 1) := by decide +kernel
theorem dX7_leftByFire_11 : decode cX7_leftByFire 11 = .ok (.iconst 3, 1) := by decide +kernel
theorem dX7_leftByFire_12 : decode cX7_leftByFire 12 = .ok (.if_icmp .ge 31, 3) := by decide +kernel
theorem dX7_leftByFire_15 : decode cX7_leftByFire 15 = .ok (.iload_n 1, 1) := by decide +kernel
theorem dX7_leftByFire_16 : decode cX7_leftByFire 16 = .ok (.iload_n 3, 1) := by decide +kernel
theorem dX7_leftByFire_17 : decode cX7_leftByFire 17 = .ok (.ishr, 1) := by decide +kernel
theorem dX7_leftByFire_18 : decode cX7_leftByFire 18 = .ok (.iconst 1, 1) := by decide +kernel
theorem dX7_leftByFire_19 : decode cX7_leftByFire 19 = .ok (.iand, 1) := by decide +kernel
theorem dX7_leftByFire_20 : decode cX7_leftByFire 20 = .ok (.iconst 1, 1) := by decide +kernel
theorem dX7_leftByFire_21 : decode cX7_leftByFire 21 = .ok (.if_icmp .ne 16, 3) := by decide +kernel
theorem dX7_leftByFire_24 : decode cX7_leftByFire 24 = .ok (.iload_n 2, 1) := by decide +kernel
theorem dX7_leftByFire_25 : decode cX7_leftByFire 25 = .ok (.aload_n 0, 1) := by decide +kernel
theorem dX7_leftByFire_26 : decode cX7_leftByFire 26 = .ok (.getfield 26, 3) := by decide +kernel
theorem dX7_leftByFire_29 : decode cX7_leftByFire 29 = .ok (.iload_n 3, 1) := by decide +kernel
theorem dX7_leftByFire_30 : decode cX7_leftByFire 30 = .ok (.invokevirtual 276, 3) := by decide +kernel
theorem dX7_leftByFire_33 : decode cX7_leftByFire 33 = .ok (.iconst (-1), 1) := by decide +kernel
theorem dX7_leftByFire_34 : decode cX7_leftByFire 34 = .ok (.ixor, 1) := by decide +kernel
theorem dX7_leftByFire_35 : decode cX7_leftByFire 35 = .ok (.iand, 1) := by decide +kernel
theorem dX7_leftByFire_36 : decode cX7_leftByFire 36 = .ok (.istore_n 2, 1) := by decide +kernel
theorem dX7_leftByFire_37 : decode cX7_leftByFire 37 = .ok (.iinc 3 1, 3) := by decide +kernel
theorem dX7_leftByFire_40 : decode cX7_leftByFire 40 = .ok (.goto (-30), 3) := by decide +kernel
theorem dX7_leftByFire_43 : decode cX7_leftByFire 43 = .ok (.iload_n 2, 1) := by decide +kernel
theorem dX7_leftByFire_44 : decode cX7_leftByFire 44 = .ok (.ireturn, 1) := by decide +kernel
theorem dX7_passYear_0 : decode cX7_passYear 0 = .ok (.iload_n 1, 1) := by decide +kernel
theorem dX7_passYear_1 : decode cX7_passYear 1 = .ok (.bipush 24, 2) := by decide +kernel
theorem dX7_passYear_3 : decode cX7_passYear 3 = .ok (.if_icmp .ge 20, 3) := by decide +kernel
theorem dX7_passYear_6 : decode cX7_passYear 6 = .ok (.aload_n 0, 1) := by decide +kernel
theorem dX7_passYear_7 : decode cX7_passYear 7 = .ok (.getfield 30, 3) := by decide +kernel
theorem dX7_passYear_10 : decode cX7_passYear 10 = .ok (.iload_n 1, 1) := by decide +kernel
theorem dX7_passYear_11 : decode cX7_passYear 11 = .ok (.iconst 3, 1) := by decide +kernel
theorem dX7_passYear_12 : decode cX7_passYear 12 = .ok (.idiv, 1) := by decide +kernel
theorem dX7_passYear_13 : decode cX7_passYear 13 = .ok (.iload_n 1, 1) := by decide +kernel
theorem dX7_passYear_14 : decode cX7_passYear 14 = .ok (.iconst 3, 1) := by decide +kernel
theorem dX7_passYear_15 : decode cX7_passYear 15 = .ok (.irem, 1) := by decide +kernel
theorem dX7_passYear_16 : decode cX7_passYear 16 = .ok (.invokevirtual 159, 3) := by decide +kernel
theorem dX7_passYear_19 : decode cX7_passYear 19 = .ok (.pop, 1) := by decide +kernel
theorem dX7_passYear_20 : decode cX7_passYear 20 = .ok (.goto 53, 3) := by decide +kernel
theorem dX7_passYear_23 : decode cX7_passYear 23 = .ok (.iload_n 1, 1) := by decide +kernel
theorem dX7_passYear_24 : decode cX7_passYear 24 = .ok (.bipush 27, 2) := by decide +kernel
theorem dX7_passYear_26 : decode cX7_passYear 26 = .ok (.if_icmp .ge 18, 3) := by decide +kernel
theorem dX7_passYear_29 : decode cX7_passYear 29 = .ok (.aload_n 0, 1) := by decide +kernel
theorem dX7_passYear_30 : decode cX7_passYear 30 = .ok (.getfield 30, 3) := by decide +kernel
theorem dX7_passYear_33 : decode cX7_passYear 33 = .ok (.iload_n 1, 1) := by decide +kernel
theorem dX7_passYear_34 : decode cX7_passYear 34 = .ok (.bipush 24, 2) := by decide +kernel
theorem dX7_passYear_36 : decode cX7_passYear 36 = .ok (.isub, 1) := by decide +kernel
theorem dX7_passYear_37 : decode cX7_passYear 37 = .ok (.invokevirtual 166, 3) := by decide +kernel
theorem dX7_passYear_40 : decode cX7_passYear 40 = .ok (.pop, 1) := by decide +kernel
theorem dX7_passYear_41 : decode cX7_passYear 41 = .ok (.goto 32, 3) := by decide +kernel
theorem dX7_passYear_44 : decode cX7_passYear 44 = .ok (.iload_n 1, 1) := by decide +kernel
theorem dX7_passYear_45 : decode cX7_passYear 45 = .ok (.bipush 30, 2) := by decide +kernel
theorem dX7_passYear_47 : decode cX7_passYear 47 = .ok (.if_icmp .ge 18, 3) := by decide +kernel
theorem dX7_passYear_50 : decode cX7_passYear 50 = .ok (.aload_n 0, 1) := by decide +kernel
theorem dX7_passYear_51 : decode cX7_passYear 51 = .ok (.getfield 30, 3) := by decide +kernel
theorem dX7_passYear_54 : decode cX7_passYear 54 = .ok (.iload_n 1, 1) := by decide +kernel
theorem dX7_passYear_55 : decode cX7_passYear 55 = .ok (.bipush 27, 2) := by decide +kernel
theorem dX7_passYear_57 : decode cX7_passYear 57 = .ok (.isub, 1) := by decide +kernel
theorem dX7_passYear_58 : decode cX7_passYear 58 = .ok (.invokevirtual 178, 3) := by decide +kernel
theorem dX7_passYear_61 : decode cX7_passYear 61 = .ok (.pop, 1) := by decide +kernel
theorem dX7_passYear_62 : decode cX7_passYear 62 = .ok (.goto 11, 3) := by decide +kernel
theorem dX7_passYear_65 : decode cX7_passYear 65 = .ok (.aload_n 0, 1) := by decide +kernel
theorem dX7_passYear_66 : decode cX7_passYear 66 = .ok (.getfield 30, 3) := by decide +kernel
theorem dX7_passYear_69 : decode cX7_passYear 69 = .ok (.invokevirtual 175, 3) := by decide +kernel
theorem dX7_passYear_72 : decode cX7_passYear 72 = .ok (.pop, 1) := by decide +kernel
theorem dX7_passYear_73 : decode cX7_passYear 73 = .ok (.return_, 1) := by decide +kernel
theorem dJ6_bitCount_0f7a4_0 : decode cJ6_bitCount_0f7a4 0 = .ok (.iload_n 0, 1) := by decide +kernel
theorem dJ6_bitCount_0f7a4_1 : decode cJ6_bitCount_0f7a4 1 = .ok (.iload_n 0, 1) := by decide +kernel
theorem dJ6_bitCount_0f7a4_2 : decode cJ6_bitCount_0f7a4 2 = .ok (.iconst 1, 1) := by decide +kernel
theorem dJ6_bitCount_0f7a4_3 : decode cJ6_bitCount_0f7a4 3 = .ok (.iushr, 1) := by decide +kernel
theorem dJ6_bitCount_0f7a4_4 : decode cJ6_bitCount_0f7a4 4 = .ok (.ldc_w 265, 3) := by decide +kernel
theorem dJ6_bitCount_0f7a4_7 : decode cJ6_bitCount_0f7a4 7 = .ok (.iand, 1) := by decide +kernel
theorem dJ6_bitCount_0f7a4_8 : decode cJ6_bitCount_0f7a4 8 = .ok (.isub, 1) := by decide +kernel
theorem dJ6_bitCount_0f7a4_9 : decode cJ6_bitCount_0f7a4 9 = .ok (.istore_n 0, 1) := by decide +kernel
theorem dJ6_bitCount_0f7a4_10 : decode cJ6_bitCount_0f7a4 10 = .ok (.iload_n 0, 1) := by decide +kernel
theorem dJ6_bitCount_0f7a4_11 : decode cJ6_bitCount_0f7a4 11 = .ok (.ldc_w 266, 3) := by decide +kernel
theorem dJ6_bitCount_0f7a4_14 : decode cJ6_bitCount_0f7a4 14 = .ok (.iand, 1) := by decide +kernel
theorem dJ6_bitCount_0f7a4_15 : decode cJ6_bitCount_0f7a4 15 = .ok (.iload_n 0, 1) := by decide +kernel
theorem dJ6_bitCount_0f7a4_16 : decode cJ6_bitCount_0f7a4 16 = .ok (.iconst 2, 1) := by decide +kernel
theorem dJ6_bitCount_0f7a4_17 : decode cJ6_bitCount_0f7a4 17 = .ok (.iushr, 1) := by decide +kernel
theorem dJ6_bitCount_0f7a4_18 : decode cJ6_bitCount_0f7a4 18 = .ok (.ldc_w 266, 3) := by decide +kernel
theorem dJ6_bitCount_0f7a4_21 : decode cJ6_bitCount_0f7a4 21 = .ok (.iand, 1) := by decide +kernel
theorem dJ6_bitCount_0f7a4_22 : decode cJ6_bitCount_0f7a4 22 = .ok (.iadd, 1) := by decide +kernel
theorem dJ6_bitCount_0f7a4_23 : decode cJ6_bitCount_0f7a4 23 = .ok (.istore_n 0, 1) := by decide +kernel
theorem dJ6_bitCount_0f7a4_24 : decode cJ6_bitCount_0f7a4 24 = .ok (.iload_n 0, 1) := by decide +kernel
theorem dJ6_bitCount_0f7a4_25 : decode cJ6_bitCount_0f7a4 25 = .ok (.iload_n 0, 1) := by decide +kernel
theorem dJ6_bitCount_0f7a4_26 : decode cJ6_bitCount_0f7a4 26 = .ok (.iconst 4, 1) := by decide +kernel
theorem dJ6_bitCount_0f7a4_27 : decode cJ6_bitCount_0f7a4 27 = .ok (.iushr, 1) := by decide +kernel
theorem dJ6_bitCount_0f7a4_28 : decode cJ6_bitCount_0f7a4 28 = .ok (.iadd, 1) := by decide +kernel
theorem dJ6_bitCount_0f7a4_29 : decode cJ6_bitCount_0f7a4 29 = .ok (.ldc_w 267, 3) := by decide +kernel
theorem dJ6_bitCount_0f7a4_32 : decode cJ6_bitCount_0f7a4 32 = .ok (.iand, 1) := by decide +kernel
theorem dJ6_bitCount_0f7a4_33 : decode cJ6_bitCount_0f7a4 33 = .ok (.istore_n 0, 1) := by decide +kernel
theorem dJ6_bitCount_0f7a4_34 : decode cJ6_bitCount_0f7a4 34 = .ok (.iload_n 0, 1) := by decide +kernel
theorem dJ6_bitCount_0f7a4_35 : decode cJ6_bitCount_0f7a4 35 = .ok (.iload_n 0, 1) := by decide +kernel
theorem dJ6_bitCount_0f7a4_36 : decode cJ6_bitCount_0f7a4 36 = .ok (.bipush 8, 2) := by decide +kernel
theorem dJ6_bitCount_0f7a4_38 : decode cJ6_bitCount_0f7a4 38 = .ok (.iushr, 1) := by decide +kernel
theorem dJ6_bitCount_0f7a4_39 : decode cJ6_bitCount_0f7a4 39 = .ok (.iadd, 1) := by decide +kernel
theorem dJ6_bitCount_0f7a4_40 : decode cJ6_bitCount_0f7a4 40 = .ok (.istore_n 0, 1) := by decide +kernel
theorem dJ6_bitCount_0f7a4_41 : decode cJ6_bitCount_0f7a4 41 = .ok (.iload_n 0, 1) := by decide +kernel
theorem dJ6_bitCount_0f7a4_42 : decode cJ6_bitCount_0f7a4 42 = .ok (.iload_n 0, 1) := by decide +kernel
theorem dJ6_bitCount_0f7a4_43 : decode cJ6_bitCount_0f7a4 43 = .ok (.bipush 16, 2) := by decide +kernel
theorem dJ6_bitCount_0f7a4_45 : decode cJ6_bitCount_0f7a4 45 = .ok (.iushr, 1) := by decide +kernel
theorem dJ6_bitCount_0f7a4_46 : decode cJ6_bitCount_0f7a4 46 = .ok (.iadd, 1) := by decide +kernel
theorem dJ6_bitCount_0f7a4_47 : decode cJ6_bitCount_0f7a4 47 = .ok (.istore_n 0, 1) := by decide +kernel
theorem dJ6_bitCount_0f7a4_48 : decode cJ6_bitCount_0f7a4 48 = .ok (.iload_n 0, 1) := by decide +kernel
theorem dJ6_bitCount_0f7a4_49 : decode cJ6_bitCount_0f7a4 49 = .ok (.bipush 63, 2) := by decide +kernel
theorem dJ6_bitCount_0f7a4_51 : decode cJ6_bitCount_0f7a4 51 = .ok (.iand, 1) := by decide +kernel
theorem dJ6_bitCount_0f7a4_52 : decode cJ6_bitCount_0f7a4 52 = .ok (.ireturn, 1) := by decide +kernel
theorem dJ9_abs_0f7a4_0 : decode cJ9_abs_0f7a4 0 = .ok (.iload_n 0, 1) := by decide +kernel
theorem dJ9_abs_0f7a4_1 : decode cJ9_abs_0f7a4 1 = .ok (.ifCond .ge 8, 3) := by decide +kernel
theorem dJ9_abs_0f7a4_4 : decode cJ9_abs_0f7a4 4 = .ok (.iload_n 0, 1) := by decide +kernel
theorem dJ9_abs_0f7a4_5 : decode cJ9_abs_0f7a4 5 = .ok (.ineg, 1) := by decide +kernel
theorem dJ9_abs_0f7a4_6 : decode cJ9_abs_0f7a4 6 = .ok (.goto 4, 3) := by decide +kernel
theorem dJ9_abs_0f7a4_9 : decode cJ9_abs_0f7a4 9 = .ok (.iload_n 0, 1) := by decide +kernel
theorem dJ9_abs_0f7a4_10 : decode cJ9_abs_0f7a4 10 = .ok (.ireturn, 1) := by decide +kernel
