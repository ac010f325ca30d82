theorem dX0_init_0 : decode cX0_init 0 = .ok (.aload_n 0, 1) := by decide +kernel
theorem dX0_init_1 : decode cX0_init 1 = .ok (.invokespecial 3, 3) := by decide +kernel
theorem dX0_init_4 : decode cX0_init 4 = .ok (.aload_n 0, 1) := by decide +kernel
theorem dX0_init_5 : decode cX0_init 5 = .ok (.bipush 10, 2) := by decide +kernel
theorem dX0_init_7 : decode cX0_init 7 = .ok (.newarray .int, 2) := by decide +kernel
theorem dX0_init_9 : decode cX0_init 9 = .ok (.putfield 9, 3) := by decide +kernel
theorem dX0_init_12 : decode cX0_init 12 = .ok (.aload_n 0, 1) := by decide +kernel
theorem dX0_init_13 : decode cX0_init 13 = .ok (.bipush 10, 2) := by decide +kernel
theorem dX0_init_15 : decode cX0_init 15 = .ok (.newarray .int, 2) := by decide +kernel
theorem dX0_init_17 : decode cX0_init 17 = .ok (.putfield 15, 3) := by decide +kernel
theorem dX0_init_20 : decode cX0_init 20 = .ok (.aload_n 0, 1) := by decide +kernel
theorem dX0_init_21 : decode cX0_init 21 = .ok (.bipush 10, 2) := by decide +kernel
theorem dX0_init_23 : decode cX0_init 23 = .ok (.newarray .int, 2) := by decide +kernel
theorem dX0_init_25 : decode cX0_init 25 = .ok (.putfield 18, 3) := by decide +kernel
theorem dX0_init_28 : decode cX0_init 28 = .ok (.aload_n 0, 1) := by decide +kernel
theorem dX0_init_29 : decode cX0_init 29 = .ok (.bipush 10, 2) := by decide +kernel
theorem dX0_init_31 : decode cX0_init 31 = .ok (.newarray .int, 2) := by decide +kernel
theorem dX0_init_33 : decode cX0_init 33 = .ok (.putfield 21, 3) := by decide +kernel
theorem dX0_init_36 : decode cX0_init 36 = .ok (.aload_n 0, 1) := by decide +kernel
theorem dX0_init_37 : decode cX0_init 37 = .ok (.bipush 10, 2) := by decide +kernel
theorem dX0_init_39 : decode cX0_init 39 = .ok (.newarray .boolean, 2) := by decide +kernel
theorem dX0_init_41 : decode cX0_init 41 = .ok (.putfield 24, 3) := by decide +kernel
theorem dX0_init_44 : decode cX0_init 44 = .ok (.return_, 1) := by decide +kernel
theorem dX0_add_0 : decode cX0_add 0 = .ok (.aload_n 0, 1) := by decide +kernel
theorem dX0_add_1 : decode cX0_add 1 = .ok (.getfield 28, 3) := by decide +kernel
theorem dX0_add_4 : decode cX0_add 4 = .ok (.bipush 10, 2) := by decide +kernel
theorem dX0_add_6 : decode cX0_add 6 = .ok (.if_icmp .ge 65, 3) := by decide +kernel
theorem dX0_add_9 : decode cX0_add 9 = .ok (.aload_n 0, 1) := by decide +kernel
theorem dX0_add_10 : decode cX0_add 10 = .ok (.getfield 9, 3) := by decide +kernel
theorem dX0_add_13 : decode cX0_add 13 = .ok (.aload_n 0, 1) := by decide +kernel
theorem dX0_add_14 : decode cX0_add 14 = .ok (.getfield 28, 3) := by decide +kernel
theorem dX0_add_17 : decode cX0_add 17 = .ok (.iload_n 1, 1) := by decide +kernel
theorem dX0_add_18 : decode cX0_add 18 = .ok (.iastore, 1) := by decide +kernel
theorem dX0_add_19 : decode cX0_add 19 = .ok (.aload_n 0, 1) := by decide +kernel
theorem dX0_add_20 : decode cX0_add 20 = .ok (.getfield 15, 3) := by decide +kernel
theorem dX0_add_23 : decode cX0_add 23 = .ok (.aload_n 0, 1) := by decide +kernel
theorem dX0_add_24 : decode cX0_add 24 = .ok (.getfield 28, 3) := by decide +kernel
theorem dX0_add_27 : decode cX0_add 27 = .ok (.iload_n 2, 1) := by decide +kernel
theorem dX0_add_28 : decode cX0_add 28 = .ok (.iastore, 1) := by decide +kernel
theorem dX0_add_29 : decode cX0_add 29 = .ok (.aload_n 0, 1) := by decide +kernel
theorem dX0_add_30 : decode cX0_add 30 = .ok (.getfield 18, 3) := by decide +kernel
theorem dX0_add_33 : decode cX0_add 33 = .ok (.aload_n 0, 1) := by decide +kernel
theorem dX0_add_34 : decode cX0_add 34 = .ok (.getfield 28, 3) := by decide +kernel
theorem dX0_add_37 : decode cX0_add 37 = .ok (.iload_n 3, 1) := by decide +kernel
theorem dX0_add_38 : decode cX0_add 38 = .ok (.iastore, 1) := by decide +kernel
theorem dX0_add_39 : decode cX0_add 39 = .ok (.aload_n 0, 1) := by decide +kernel
theorem dX0_add_40 : decode cX0_add 40 = .ok (.getfield 21, 3) := by decide +kernel
theorem dX0_add_43 : decode cX0_add 43 = .ok (.aload_n 0, 1) := by decide +kernel
theorem dX0_add_44 : decode cX0_add 44 = .ok (.getfield 28, 3) := by decide +kernel
theorem dX0_add_47 : decode cX0_add 47 = .ok (.iload 4, 2) := by decide +kernel
theorem dX0_add_49 : decode cX0_add 49 = .ok (.iastore, 1) := by decide +kernel
theorem dX0_add_50 : decode cX0_add 50 = .ok (.aload_n 0, 1) := by decide +kernel
theorem dX0_add_51 : decode cX0_add 51 = .ok (.getfield 24, 3) := by decide +kernel
theorem dX0_add_54 : decode cX0_add 54 = .ok (.aload_n 0, 1) := by decide +kernel
theorem dX0_add_55 : decode cX0_add 55 = .ok (.getfield 28, 3) := by decide +kernel
theorem dX0_add_58 : decode cX0_add 58 = .ok (.iload 5, 2) := by decide +kernel
theorem dX0_add_60 : decode cX0_add 60 = .ok (.bastore, 1) := by decide +kernel
theorem dX0_add_61 : decode cX0_add 61 = .ok (.aload_n 0, 1) := by decide +kernel
theorem dX0_add_62 : decode cX0_add 62 = .ok (.dup, 1) := by decide +kernel
theorem dX0_add_63 : decode cX0_add 63 = .ok (.getfield 28, 3) := by decide +kernel
theorem dX0_add_66 : decode cX0_add 66 = .ok (.iconst 1, 1) := by decide +kernel
theorem dX0_add_67 : decode cX0_add 67 = .ok (.iadd, 1) := by decide +kernel
theorem dX0_add_68 : decode cX0_add 68 = .ok (.putfield 28, 3) := by decide +kernel
theorem dX0_add_71 : decode cX0_add 71 = .ok (.return_, 1) := by decide +kernel
theorem dX0_standingAt_0 : decode cX0_standingAt 0 = .ok (.iconst 0, 1) := by decide +kernel
theorem dX0_standingAt_1 : decode cX0_standingAt 1 = .ok (.istore_n 2, 1) := by decide +kernel
theorem dX0_standingAt_2 : decode cX0_standingAt 2 = .ok (.iload_n 2, 1) := by decide +kernel
theorem dX0_standingAt_3 : decode cX0_standingAt 3 = .ok (.aload_n 0, 1) := by decide +kernel
theorem dX0_standingAt_4 : decode cX0_standingAt 4 = .ok (.getfield 28, 3) := by decide +kernel
theorem dX0_standingAt_7 : decode cX0_standingAt 7 = .ok (.if_icmp .ge 21, 3) := by decide +kernel
theorem dX0_standingAt_10 : decode cX0_standingAt 10 = .ok (.aload_n 0, 1) := by decide +kernel
theorem dX0_standingAt_11 : decode cX0_standingAt 11 = .ok (.getfield 18, 3) := by decide +kernel
theorem dX0_standingAt_14 : decode cX0_standingAt 14 = .ok (.iload_n 2, 1) := by decide +kernel
theorem dX0_standingAt_15 : decode cX0_standingAt 15 = .ok (.iaload, 1) := by decide +kernel
theorem dX0_standingAt_16 : decode cX0_standingAt 16 = .ok (.iload_n 1, 1) := by decide +kernel
theorem dX0_standingAt_17 : decode cX0_standingAt 17 = .ok (.if_icmp .ne 5, 3) := by decide +kernel
theorem dX0_standingAt_20 : decode cX0_standingAt 20 = .ok (.iload_n 2, 1) := by decide +kernel
theorem dX0_standingAt_21 : decode cX0_standingAt 21 = .ok (.ireturn, 1) := by decide +kernel
theorem dX0_standingAt_22 : decode cX0_standingAt 22 = .ok (.iinc 2 1, 3) := by decide +kernel
theorem dX0_standingAt_25 : decode cX0_standingAt 25 = .ok (.goto (-23), 3) := by decide +kernel
theorem dX0_standingAt_28 : decode cX0_standingAt 28 = .ok (.iconst (-1), 1) := by decide +kernel
theorem dX0_standingAt_29 : decode cX0_standingAt 29 = .ok (.ireturn, 1) := by decide +kernel
theorem dX0_markedOnes_0 : decode cX0_markedOnes 0 = .ok (.iconst 0, 1) := by decide +kernel
theorem dX0_markedOnes_1 : decode cX0_markedOnes 1 = .ok (.istore_n 1, 1) := by decide +kernel
theorem dX0_markedOnes_2 : decode cX0_markedOnes 2 = .ok (.iconst 0, 1) := by decide +kernel
theorem dX0_markedOnes_3 : decode cX0_markedOnes 3 = .ok (.istore_n 2, 1) := by decide +kernel
theorem dX0_markedOnes_4 : decode cX0_markedOnes 4 = .ok (.iload_n 2, 1) := by decide +kernel
theorem dX0_markedOnes_5 : decode cX0_markedOnes 5 = .ok (.aload_n 0, 1) := by decide +kernel
theorem dX0_markedOnes_6 : decode cX0_markedOnes 6 = .ok (.getfield 28, 3) := by decide +kernel
theorem dX0_markedOnes_9 : decode cX0_markedOnes 9 = .ok (.if_icmp .ge 21, 3) := by decide +kernel
theorem dX0_markedOnes_12 : decode cX0_markedOnes 12 = .ok (.aload_n 0, 1) := by decide +kernel
theorem dX0_markedOnes_13 : decode cX0_markedOnes 13 = .ok (.getfield 24, 3) := by decide +kernel
theorem dX0_markedOnes_16 : decode cX0_markedOnes 16 = .ok (.iload_n 2, 1) := by decide +kernel
theorem dX0_markedOnes_17 : decode cX0_markedOnes 17 = .ok (.baload, 1) := by decide +kernel
theorem dX0_markedOnes_18 : decode cX0_markedOnes 18 = .ok (.ifCond .eq 6, 3) := by decide +kernel
theorem dX0_markedOnes_21 : decode cX0_markedOnes 21 = .ok (.iinc 1 1, 3) := by decide +kernel
theorem dX0_markedOnes_24 : decode cX0_markedOnes 24 = .ok (.iinc 2 1, 3) := by decide +kernel
theorem dX0_markedOnes_27 : decode cX0_markedOnes 27 = .ok (.goto (-23), 3) := by decide +kernel
theorem dX0_markedOnes_30 : decode cX0_markedOnes 30 = .ok (.iload_n 1, 1) := by decide +kernel
theorem dX0_markedOnes_31 : decode cX0_markedOnes 31 = .ok (.ireturn, 1) := by decide +kernel
theorem dX0_markOthers_0 : decode cX0_markOthers 0 = .ok (.iconst 0, 1) := by decide +kernel
theorem dX0_markOthers_1 : decode cX0_markOthers 1 = .ok (.istore_n 3, 1) := by decide +kernel
theorem dX0_markOthers_2 : decode cX0_markOthers 2 = .ok (.iload_n 3, 1) := by decide +kernel
theorem dX0_markOthers_3 : decode cX0_markOthers 3 = .ok (.aload_n 0, 1) := by decide +kernel
theorem dX0_markOthers_4 : decode cX0_markOthers 4 = .ok (.getfield 28, 3) := by decide +kernel
theorem dX0_markOthers_7 : decode cX0_markOthers 7 = .ok (.if_icmp .ge 29, 3) := by decide +kernel
theorem dX0_markOthers_10 : decode cX0_markOthers 10 = .ok (.aload_n 0, 1) := by decide +kernel
theorem dX0_markOthers_11 : decode cX0_markOthers 11 = .ok (.getfield 24, 3) := by decide +kernel
theorem dX0_markOthers_14 : decode cX0_markOthers 14 = .ok (.iload_n 3, 1) := by decide +kernel
theorem dX0_markOthers_15 : decode cX0_markOthers 15 = .ok (.iload_n 2, 1) := by decide +kernel
theorem dX0_markOthers_16 : decode cX0_markOthers 16 = .ok (.ifCond .eq 12, 3) := by decide +kernel
theorem dX0_markOthers_19 : decode cX0_markOthers 19 = .ok (.iload_n 3, 1) := by decide +kernel
theorem dX0_markOthers_20 : decode cX0_markOthers 20 = .ok (.iload_n 1, 1) := by decide +kernel
theorem dX0_markOthers_21 : decode cX0_markOthers 21 = .ok (.if_icmp .eq 7, 3) := by decide +kernel
theorem dX0_markOthers_24 : decode cX0_markOthers 24 = .ok (.iconst 1, 1) := by decide +kernel
theorem dX0_markOthers_25 : decode cX0_markOthers 25 = .ok (.goto 4, 3) := by decide +kernel
theorem dX0_markOthers_28 : decode cX0_markOthers 28 = .ok (.iconst 0, 1) := by decide +kernel
theorem dX0_markOthers_29 : decode cX0_markOthers 29 = .ok (.bastore, 1) := by decide +kernel
theorem dX0_markOthers_30 : decode cX0_markOthers 30 = .ok (.iinc 3 1, 3) := by decide +kernel
theorem dX0_markOthers_33 : decode cX0_markOthers 33 = .ok (.goto (-31), 3) := by decide +kernel
theorem dX0_markOthers_36 : decode cX0_markOthers 36 = .ok (.return_, 1) := by decide +kernel
theorem dX0_optionOf_0 : decode cX0_optionOf 0 = .ok (.iconst 2, 1) := by decide +kernel
theorem dX0_optionOf_1 : decode cX0_optionOf 1 = .ok (.aload_n 0, 1) := by decide +kernel
theorem dX0_optionOf_2 : decode cX0_optionOf 2 = .ok (.getfield 21, 3) := by decide +kernel
theorem dX0_optionOf_5 : decode cX0_optionOf 5 = .ok (.iload_n 1, 1) := by decide +kernel
theorem dX0_optionOf_6 : decode cX0_optionOf 6 = .ok (.iaload, 1) := by decide +kernel
theorem dX0_optionOf_7 : decode cX0_optionOf 7 = .ok (.iconst 1, 1) := by decide +kernel
theorem dX0_optionOf_8 : decode cX0_optionOf 8 = .ok (.iadd, 1) := by decide +kernel
theorem dX0_optionOf_9 : decode cX0_optionOf 9 = .ok (.imul, 1) := by decide +kernel
theorem dX0_optionOf_10 : decode cX0_optionOf 10 = .ok (.aload_n 0, 1) := by decide +kernel
theorem dX0_optionOf_11 : decode cX0_optionOf 11 = .ok (.getfield 24, 3) := by decide +kernel
theorem dX0_optionOf_14 : decode cX0_optionOf 14 = .ok (.iload_n 1, 1) := by decide +kernel
theorem dX0_optionOf_15 : decode cX0_optionOf 15 = .ok (.baload, 1) := by decide +kernel
theorem dX0_optionOf_16 : decode cX0_optionOf 16 = .ok (.ifCond .eq 7, 3) := by decide +kernel
theorem dX0_optionOf_19 : decode cX0_optionOf 19 = .ok (.iconst 1, 1) := by decide +kernel
theorem dX0_optionOf_20 : decode cX0_optionOf 20 = .ok (.goto 4, 3) := by decide +kernel
theorem dX0_optionOf_23 : decode cX0_optionOf 23 = .ok (.iconst 0, 1) := by decide +kernel
theorem dX0_optionOf_24 : decode cX0_optionOf 24 = .ok (.iadd, 1) := by decide +kernel
theorem dX0_optionOf_25 : decode cX0_optionOf 25 = .ok (.ireturn, 1) := by decide +kernel
theorem dX0_setOption_0 : decode cX0_setOption 0 = .ok (.aload_n 0, 1) := by decide +kernel
theorem dX0_setOption_1 : decode cX0_setOption 1 = .ok (.getfield 21, 3) := by decide +kernel
theorem dX0_setOption_4 : decode cX0_setOption 4 = .ok (.iload_n 1, 1) := by decide +kernel
theorem dX0_setOption_5 : decode cX0_setOption 5 = .ok (.iload_n 2, 1) := by decide +kernel
theorem dX0_setOption_6 : decode cX0_setOption 6 = .ok (.iconst 2, 1) := by decide +kernel
theorem dX0_setOption_7 : decode cX0_setOption 7 = .ok (.idiv, 1) := by decide +kernel
theorem dX0_setOption_8 : decode cX0_setOption 8 = .ok (.iconst 1, 1) := by decide +kernel
theorem dX0_setOption_9 : decode cX0_setOption 9 = .ok (.isub, 1) := by decide +kernel
theorem dX0_setOption_10 : decode cX0_setOption 10 = .ok (.iastore, 1) := by decide +kernel
theorem dX0_setOption_11 : decode cX0_setOption 11 = .ok (.aload_n 0, 1) := by decide +kernel
theorem dX0_setOption_12 : decode cX0_setOption 12 = .ok (.getfield 24, 3) := by decide +kernel
theorem dX0_setOption_15 : decode cX0_setOption 15 = .ok (.iload_n 1, 1) := by decide +kernel
theorem dX0_setOption_16 : decode cX0_setOption 16 = .ok (.iload_n 2, 1) := by decide +kernel
theorem dX0_setOption_17 : decode cX0_setOption 17 = .ok (.iconst 2, 1) := by decide +kernel
theorem dX0_setOption_18 : decode cX0_setOption 18 = .ok (.irem, 1) := by decide +kernel
theorem dX0_setOption_19 : decode cX0_setOption 19 = .ok (.iconst 1, 1) := by decide +kernel
theorem dX0_setOption_20 : decode cX0_setOption 20 = .ok (.if_icmp .ne 7, 3) := by decide +kernel
theorem dX0_setOption_23 : decode cX0_setOption 23 = .ok (.iconst 1, 1) := by decide +kernel
theorem dX0_setOption_24 : decode cX0_setOption 24 = .ok (.goto 4, 3) := by decide +kernel
theorem dX0_setOption_27 : decode cX0_setOption 27 = .ok (.iconst 0, 1) := by decide +kernel
theorem dX0_setOption_28 : decode cX0_setOption 28 = .ok (.bastore, 1) := by decide +kernel
theorem dX0_setOption_29 : decode cX0_setOption 29 = .ok (.return_, 1) := by decide +kernel
theorem dX0_copyFrom_0 : decode cX0_copyFrom 0 = .ok (.aload_n 0, 1) := by decide +kernel
theorem dX0_copyFrom_1 : decode cX0_copyFrom 1 = .ok (.aload_n 1, 1) := by decide +kernel
theorem dX0_copyFrom_2 : decode cX0_copyFrom 2 = .ok (.getfield 28, 3) := by decide +kernel
theorem dX0_copyFrom_5 : decode cX0_copyFrom 5 = .ok (.putfield 28, 3) := by decide +kernel
theorem dX0_copyFrom_8 : decode cX0_copyFrom 8 = .ok (.aload_n 1, 1) := by decide +kernel
theorem dX0_copyFrom_9 : decode cX0_copyFrom 9 = .ok (.getfield 9, 3) := by decide +kernel
theorem dX0_copyFrom_12 : decode cX0_copyFrom 12 = .ok (.iconst 0, 1) := by decide +kernel
theorem dX0_copyFrom_13 : decode cX0_copyFrom 13 = .ok (.aload_n 0, 1) := by decide +kernel
theorem dX0_copyFrom_14 : decode cX0_copyFrom 14 = .ok (.getfield 9, 3) := by decide +kernel
theorem dX0_copyFrom_17 : decode cX0_copyFrom 17 = .ok (.iconst 0, 1) := by decide +kernel
theorem dX0_copyFrom_18 : decode cX0_copyFrom 18 = .ok (.aload_n 0, 1) := by decide +kernel
theorem dX0_copyFrom_19 : decode cX0_copyFrom 19 = .ok (.getfield 9, 3) := by decide +kernel
theorem dX0_copyFrom_22 : decode cX0_copyFrom 22 = .ok (.arraylength, 1) := by decide +kernel
theorem dX0_copyFrom_23 : decode cX0_copyFrom 23 = .ok (.invokestatic 32, 3) := by decide +kernel
theorem dX0_copyFrom_26 : decode cX0_copyFrom 26 = .ok (.aload_n 1, 1) := by decide +kernel
theorem dX0_copyFrom_27 : decode cX0_copyFrom 27 = .ok (.getfield 15, 3) := by decide +kernel
theorem dX0_copyFrom_30 : decode cX0_copyFrom 30 = .ok (.iconst 0, 1) := by decide +kernel
theorem dX0_copyFrom_31 : decode cX0_copyFrom 31 = .ok (.aload_n 0, 1) := by decide +kernel
theorem dX0_copyFrom_32 : decode cX0_copyFrom 32 = .ok (.getfield 15, 3) := by decide +kernel
theorem dX0_copyFrom_35 : decode cX0_copyFrom 35 = .ok (.iconst 0, 1) := by decide +kernel
theorem dX0_copyFrom_36 : decode cX0_copyFrom 36 = .ok (.aload_n 0, 1) := by decide +kernel
theorem dX0_copyFrom_37 : decode cX0_copyFrom 37 = .ok (.getfield 15, 3) := by decide +kernel
theorem dX0_copyFrom_40 : decode cX0_copyFrom 40 = .ok (.arraylength, 1) := by decide +kernel
theorem dX0_copyFrom_41 : decode cX0_copyFrom 41 = .ok (.invokestatic 32, 3) := by decide +kernel
theorem dX0_copyFrom_44 : decode cX0_copyFrom 44 = .ok (.aload_n 1, 1) := by decide +kernel
theorem dX0_copyFrom_45 : decode cX0_copyFrom 45 = .ok (.getfield 18, 3) := by decide +kernel
theorem dX0_copyFrom_48 : decode cX0_copyFrom 48 = .ok (.iconst 0, 1) := by decide +kernel
theorem dX0_copyFrom_49 : decode cX0_copyFrom 49 = .ok (.aload_n 0, 1) := by decide +kernel
theorem dX0_copyFrom_50 : decode cX0_copyFrom 50 = .ok (.getfield 18, 3) := by decide +kernel
theorem dX0_copyFrom_53 : decode cX0_copyFrom 53 = .ok (.iconst 0, 1) := by decide +kernel
theorem dX0_copyFrom_54 : decode cX0_copyFrom 54 = .ok (.aload_n 0, 1) := by decide +kernel
theorem dX0_copyFrom_55 : decode cX0_copyFrom 55 = .ok (.getfield 18, 3) := by decide +kernel
theorem dX0_copyFrom_58 : decode cX0_copyFrom 58 = .ok (.arraylength, 1) := by decide +kernel
theorem dX0_copyFrom_59 : decode cX0_copyFrom 59 = .ok (.invokestatic 32, 3) := by decide +kernel
theorem dX0_copyFrom_62 : decode cX0_copyFrom 62 = .ok (.aload_n 1, 1) := by decide +kernel
theorem dX0_copyFrom_63 : decode cX0_copyFrom 63 = .ok (.getfield 21, 3) := by decide +kernel
theorem dX0_copyFrom_66 : decode cX0_copyFrom 66 = .ok (.iconst 0, 1) := by decide +kernel
theorem dX0_copyFrom_67 : decode cX0_copyFrom 67 = .ok (.aload_n 0, 1) := by decide +kernel
theorem dX0_copyFrom_68 : decode cX0_copyFrom 68 = .ok (.getfield 21, 3) := by decide +kernel
theorem dX0_copyFrom_71 : decode cX0_copyFrom 71 = .ok (.iconst 0, 1) := by decide +kernel
theorem dX0_copyFrom_72 : decode cX0_copyFrom 72 = .ok (.aload_n 0, 1) := by decide +kernel
theorem dX0_copyFrom_73 : decode cX0_copyFrom 73 = .ok (.getfield 21, 3) := by decide +kernel
theorem dX0_copyFrom_76 : decode cX0_copyFrom 76 = .ok (.arraylength, 1) := by decide +kernel
theorem dX0_copyFrom_77 : decode cX0_copyFrom 77 = .ok (.invokestatic 32, 3) := by decide +kernel
theorem dX0_copyFrom_80 : decode cX0_copyFrom 80 = .ok (.iconst 0, 1) := by decide +kernel
theorem dX0_copyFrom_81 : decode cX0_copyFrom 81 = .ok (.istore_n 2, 1) := by decide +kernel
theorem dX0_copyFrom_82 : decode cX0_copyFrom 82 = .ok (.iload_n 2, 1) := by decide +kernel
theorem dX0_copyFrom_83 : decode cX0_copyFrom 83 = .ok (.bipush 10, 2) := by decide +kernel
theorem dX0_copyFrom_85 : decode cX0_copyFrom 85 = .ok (.if_icmp .ge 21, 3) := by decide +kernel
theorem dX0_copyFrom_88 : decode cX0_copyFrom 88 = .ok (.aload_n 0, 1) := by decide +kernel
theorem dX0_copyFrom_89 : decode cX0_copyFrom 89 = .ok (.getfield 24, 3) := by decide +kernel
theorem dX0_copyFrom_92 : decode cX0_copyFrom 92 = .ok (.iload_n 2, 1) := by decide +kernel
theorem dX0_copyFrom_93 : decode cX0_copyFrom 93 = .ok (.aload_n 1, 1) := by decide +kernel
theorem dX0_copyFrom_94 : decode cX0_copyFrom 94 = .ok (.getfield 24, 3) := by decide +kernel
theorem dX0_copyFrom_97 : decode cX0_copyFrom 97 = .ok (.iload_n 2, 1) := by decide +kernel
theorem dX0_copyFrom_98 : decode cX0_copyFrom 98 = .ok (.baload, 1) := by decide +kernel
theorem dX0_copyFrom_99 : decode cX0_copyFrom 99 = .ok (.bastore, 1) := by decide +kernel
theorem dX0_copyFrom_100 : decode cX0_copyFrom 100 = .ok (.iinc 2 1, 3) := by decide +kernel
theorem dX0_copyFrom_103 : decode cX0_copyFrom 103 = .ok (.goto (-21), 3) := by decide +kernel
theorem dX0_copyFrom_106 : decode cX0_copyFrom 106 = .ok (.return_, 1) := by decide +kernel
theorem dX1_init_0 : decode cX1_init 0 = .ok (.aload_n 0, 1) := by decide +kernel
theorem dX1_init_1 : decode cX1_init 1 = .ok (.invokespecial 3, 3) := by decide +kernel
theorem dX1_init_4 : decode cX1_init 4 = .ok (.aload_n 0, 1) := by decide +kernel
theorem dX1_init_5 : decode cX1_init 5 = .ok (.iconst 5, 1) := by decide +kernel
theorem dX1_init_6 : decode cX1_init 6 = .ok (.newarray .int, 2) := by decide +kernel
theorem dX1_init_8 : decode cX1_init 8 = .ok (.putfield 9, 3) := by decide +kernel
theorem dX1_init_11 : decode cX1_init 11 = .ok (.aload_n 0, 1) := by decide +kernel
theorem dX1_init_12 : decode cX1_init 12 = .ok (.iconst 5, 1) := by decide +kernel
theorem dX1_init_13 : decode cX1_init 13 = .ok (.newarray .int, 2) := by decide +kernel
theorem dX1_init_15 : decode cX1_init 15 = .ok (.putfield 15, 3) := by decide +kernel
theorem dX1_init_18 : decode cX1_init 18 = .ok (.return_, 1) := by decide +kernel
theorem dX1_add_0 : decode cX1_add 0 = .ok (.aload_n 0, 1) := by decide +kernel
theorem dX1_add_1 : decode cX1_add 1 = .ok (.getfield 18, 3) := by decide +kernel
theorem dX1_add_4 : decode cX1_add 4 = .ok (.iconst 4, 1) := by decide +kernel
theorem dX1_add_5 : decode cX1_add 5 = .ok (.if_icmp .gt 33, 3) := by decide +kernel
theorem dX1_add_8 : decode cX1_add 8 = .ok (.aload_n 0, 1) := by decide +kernel
theorem dX1_add_9 : decode cX1_add 9 = .ok (.getfield 9, 3) := by decide +kernel
theorem dX1_add_12 : decode cX1_add 12 = .ok (.aload_n 0, 1) := by decide +kernel
theorem dX1_add_13 : decode cX1_add 13 = .ok (.getfield 18, 3) := by decide +kernel
theorem dX1_add_16 : decode cX1_add 16 = .ok (.iload_n 1, 1) := by decide +kernel
theorem dX1_add_17 : decode cX1_add 17 = .ok (.iastore, 1) := by decide +kernel
theorem dX1_add_18 : decode cX1_add 18 = .ok (.aload_n 0, 1) := by decide +kernel
theorem dX1_add_19 : decode cX1_add 19 = .ok (.getfield 15, 3) := by decide +kernel
theorem dX1_add_22 : decode cX1_add 22 = .ok (.aload_n 0, 1) := by decide +kernel
theorem dX1_add_23 : decode cX1_add 23 = .ok (.getfield 18, 3) := by decide +kernel
theorem dX1_add_26 : decode cX1_add 26 = .ok (.iload_n 2, 1) := by decide +kernel
theorem dX1_add_27 : decode cX1_add 27 = .ok (.iastore, 1) := by decide +kernel
theorem dX1_add_28 : decode cX1_add 28 = .ok (.aload_n 0, 1) := by decide +kernel
theorem dX1_add_29 : decode cX1_add 29 = .ok (.dup, 1) := by decide +kernel
theorem dX1_add_30 : decode cX1_add 30 = .ok (.getfield 18, 3) := by decide +kernel
theorem dX1_add_33 : decode cX1_add 33 = .ok (.iconst 1, 1) := by decide +kernel
theorem dX1_add_34 : decode cX1_add 34 = .ok (.iadd, 1) := by decide +kernel
theorem dX1_add_35 : decode cX1_add 35 = .ok (.putfield 18, 3) := by decide +kernel
theorem dX1_add_38 : decode cX1_add 38 = .ok (.return_, 1) := by decide +kernel
theorem dX1_copyFrom_0 : decode cX1_copyFrom 0 = .ok (.aload_n 0, 1) := by decide +kernel
theorem dX1_copyFrom_1 : decode cX1_copyFrom 1 = .ok (.aload_n 1, 1) := by decide +kernel
theorem dX1_copyFrom_2 : decode cX1_copyFrom 2 = .ok (.getfield 18, 3) := by decide +kernel
theorem dX1_copyFrom_5 : decode cX1_copyFrom 5 = .ok (.putfield 18, 3) := by decide +kernel
theorem dX1_copyFrom_8 : decode cX1_copyFrom 8 = .ok (.aload_n 1, 1) := by decide +kernel
theorem dX1_copyFrom_9 : decode cX1_copyFrom 9 = .ok (.getfield 9, 3) := by decide +kernel
theorem dX1_copyFrom_12 : decode cX1_copyFrom 12 = .ok (.iconst 0, 1) := by decide +kernel
theorem dX1_copyFrom_13 : decode cX1_copyFrom 13 = .ok (.aload_n 0, 1) := by decide +kernel
theorem dX1_copyFrom_14 : decode cX1_copyFrom 14 = .ok (.getfield 9, 3) := by decide +kernel
theorem dX1_copyFrom_17 : decode cX1_copyFrom 17 = .ok (.iconst 0, 1) := by decide +kernel
theorem dX1_copyFrom_18 : decode cX1_copyFrom 18 = .ok (.aload_n 0, 1) := by decide +kernel
theorem dX1_copyFrom_19 : decode cX1_copyFrom 19 = .ok (.getfield 9, 3) := by decide +kernel
theorem dX1_copyFrom_22 : decode cX1_copyFrom 22 = .ok (.arraylength, 1) := by decide +kernel
theorem dX1_copyFrom_23 : decode cX1_copyFrom 23 = .ok (.invokestatic 22, 3) := by decide +kernel
theorem dX1_copyFrom_26 : decode cX1_copyFrom 26 = .ok (.aload_n 1, 1) := by decide +kernel
theorem dX1_copyFrom_27 : decode cX1_copyFrom 27 = .ok (.getfield 15, 3) := by decide +kernel
theorem dX1_copyFrom_30 : decode cX1_copyFrom 30 = .ok (.iconst 0, 1) := by decide +kernel
theorem dX1_copyFrom_31 : decode cX1_copyFrom 31 = .ok (.aload_n 0, 1) := by decide +kernel
theorem dX1_copyFrom_32 : decode cX1_copyFrom 32 = .ok (.getfield 15, 3) := by decide +kernel
theorem dX1_copyFrom_35 : decode cX1_copyFrom 35 = .ok (.iconst 0, 1) := by decide +kernel
theorem dX1_copyFrom_36 : decode cX1_copyFrom 36 = .ok (.aload_n 0, 1) := by decide +kernel
theorem dX1_copyFrom_37 : decode cX1_copyFrom 37 = .ok (.getfield 15, 3) := by decide +kernel
theorem dX1_copyFrom_40 : decode cX1_copyFrom 40 = .ok (.arraylength, 1) := by decide +kernel
theorem dX1_copyFrom_41 : decode cX1_copyFrom 41 = .ok (.invokestatic 22, 3) := by decide +kernel
theorem dX1_copyFrom_44 : decode cX1_copyFrom 44 = .ok (.return_, 1) := by decide +kernel
theorem dX2_init_0 : decode cX2_init 0 = .ok (.aload_n 0, 1) := by decide +kernel
theorem dX2_init_1 : decode cX2_init 1 = .ok (.invokespecial 3, 3) := by decide +kernel
theorem dX2_init_4 : decode cX2_init 4 = .ok (.aload_n 0, 1) := by decide +kernel
theorem dX2_init_5 : decode cX2_init 5 = .ok (.iconst 5, 1) := by decide +kernel
theorem dX2_init_6 : decode cX2_init 6 = .ok (.newarray .int, 2) := by decide +kernel
theorem dX2_init_8 : decode cX2_init 8 = .ok (.putfield 9, 3) := by decide +kernel
theorem dX2_init_11 : decode cX2_init 11 = .ok (.aload_n 0, 1) := by decide +kernel
theorem dX2_init_12 : decode cX2_init 12 = .ok (.bipush 15, 2) := by decide +kernel
theorem dX2_init_14 : decode cX2_init 14 = .ok (.newarray .int, 2) := by decide +kernel
theorem dX2_init_16 : decode cX2_init 16 = .ok (.putfield 15, 3) := by decide +kernel
theorem dX2_init_19 : decode cX2_init 19 = .ok (.return_, 1) := by decide +kernel
theorem dX2_add_0 : decode cX2_add 0 = .ok (.aload_n 0, 1) := by decide +kernel
theorem dX2_add_1 : decode cX2_add 1 = .ok (.getfield 18, 3) := by decide +kernel
theorem dX2_add_4 : decode cX2_add 4 = .ok (.iconst 5, 1) := by decide +kernel
theorem dX2_add_5 : decode cX2_add 5 = .ok (.if_icmp .ge 64, 3) := by decide +kernel
theorem dX2_add_8 : decode cX2_add 8 = .ok (.aload_n 0, 1) := by decide +kernel
theorem dX2_add_9 : decode cX2_add 9 = .ok (.getfield 9, 3) := by decide +kernel
theorem dX2_add_12 : decode cX2_add 12 = .ok (.aload_n 0, 1) := by decide +kernel
theorem dX2_add_13 : decode cX2_add 13 = .ok (.getfield 18, 3) := by decide +kernel
theorem dX2_add_16 : decode cX2_add 16 = .ok (.iload_n 1, 1) := by decide +kernel
theorem dX2_add_17 : decode cX2_add 17 = .ok (.iastore, 1) := by decide +kernel
theorem dX2_add_18 : decode cX2_add 18 = .ok (.aload_n 0, 1) := by decide +kernel
theorem dX2_add_19 : decode cX2_add 19 = .ok (.getfield 15, 3) := by decide +kernel
theorem dX2_add_22 : decode cX2_add 22 = .ok (.iconst 3, 1) := by decide +kernel
theorem dX2_add_23 : decode cX2_add 23 = .ok (.aload_n 0, 1) := by decide +kernel
theorem dX2_add_24 : decode cX2_add 24 = .ok (.getfield 18, 3) := by decide +kernel
theorem dX2_add_27 : decode cX2_add 27 = .ok (.imul, 1) := by decide +kernel
theorem dX2_add_28 : decode cX2_add 28 = .ok (.iload_n 2, 1) := by decide +kernel
theorem dX2_add_29 : decode cX2_add 29 = .ok (.iastore, 1) := by decide +kernel
theorem dX2_add_30 : decode cX2_add 30 = .ok (.aload_n 0, 1) := by decide +kernel
theorem dX2_add_31 : decode cX2_add 31 = .ok (.getfield 15, 3) := by decide +kernel
theorem dX2_add_34 : decode cX2_add 34 = .ok (.iconst 3, 1) := by decide +kernel
theorem dX2_add_35 : decode cX2_add 35 = .ok (.aload_n 0, 1) := by decide +kernel
theorem dX2_add_36 : decode cX2_add 36 = .ok (.getfield 18, 3) := by decide +kernel
theorem dX2_add_39 : decode cX2_add 39 = .ok (.imul, 1) := by decide +kernel
theorem dX2_add_40 : decode cX2_add 40 = .ok (.iconst 1, 1) := by decide +kernel
theorem dX2_add_41 : decode cX2_add 41 = .ok (.iadd, 1) := by decide +kernel
theorem dX2_add_42 : decode cX2_add 42 = .ok (.iload_n 3, 1) := by decide +kernel
theorem dX2_add_43 : decode cX2_add 43 = .ok (.iastore, 1) := by decide +kernel
theorem dX2_add_44 : decode cX2_add 44 = .ok (.aload_n 0, 1) := by decide +kernel
theorem dX2_add_45 : decode cX2_add 45 = .ok (.getfield 15, 3) := by decide +kernel
theorem dX2_add_48 : decode cX2_add 48 = .ok (.iconst 3, 1) := by decide +kernel
theorem dX2_add_49 : decode cX2_add 49 = .ok (.aload_n 0, 1) := by decide +kernel
theorem dX2_add_50 : decode cX2_add 50 = .ok (.getfield 18, 3) := by decide +kernel
theorem dX2_add_53 : decode cX2_add 53 = .ok (.imul, 1) := by decide +kernel
theorem dX2_add_54 : decode cX2_add 54 = .ok (.iconst 2, 1) := by decide +kernel
theorem dX2_add_55 : decode cX2_add 55 = .ok (.iadd, 1) := by decide +kernel
theorem dX2_add_56 : decode cX2_add 56 = .ok (.iload 4, 2) := by decide +kernel
theorem dX2_add_58 : decode cX2_add 58 = .ok (.iastore, 1) := by decide +kernel
theorem dX2_add_59 : decode cX2_add 59 = .ok (.aload_n 0, 1) := by decide +kernel
theorem dX2_add_60 : decode cX2_add 60 = .ok (.dup, 1) := by decide +kernel
theorem dX2_add_61 : decode cX2_add 61 = .ok (.getfield 18, 3) := by decide +kernel
theorem dX2_add_64 : decode cX2_add 64 = .ok (.iconst 1, 1) := by decide +kernel
theorem dX2_add_65 : decode cX2_add 65 = .ok (.iadd, 1) := by decide +kernel
theorem dX2_add_66 : decode cX2_add 66 = .ok (.putfield 18, 3) := by decide +kernel
theorem dX2_add_69 : decode cX2_add 69 = .ok (.return_, 1) := by decide +kernel
theorem dX2_copyFrom_0 : decode cX2_copyFrom 0 = .ok (.aload_n 0, 1) := by decide +kernel
theorem dX2_copyFrom_1 : decode cX2_copyFrom 1 = .ok (.aload_n 1, 1) := by decide +kernel
theorem dX2_copyFrom_2 : decode cX2_copyFrom 2 = .ok (.getfield 18, 3) := by decide +kernel
theorem dX2_copyFrom_5 : decode cX2_copyFrom 5 = .ok (.putfield 18, 3) := by decide +kernel
theorem dX2_copyFrom_8 : decode cX2_copyFrom 8 = .ok (.aload_n 1, 1) := by decide +kernel
theorem dX2_copyFrom_9 : decode cX2_copyFrom 9 = .ok (.getfield 9, 3) := by decide +kernel
theorem dX2_copyFrom_12 : decode cX2_copyFrom 12 = .ok (.iconst 0, 1) := by decide +kernel
theorem dX2_copyFrom_13 : decode cX2_copyFrom 13 = .ok (.aload_n 0, 1) := by decide +kernel
theorem dX2_copyFrom_14 : decode cX2_copyFrom 14 = .ok (.getfield 9, 3) := by decide +kernel
theorem dX2_copyFrom_17 : decode cX2_copyFrom 17 = .ok (.iconst 0, 1) := by decide +kernel
theorem dX2_copyFrom_18 : decode cX2_copyFrom 18 = .ok (.aload_n 0, 1) := by decide +kernel
theorem dX2_copyFrom_19 : decode cX2_copyFrom 19 = .ok (.getfield 9, 3) := by decide +kernel
theorem dX2_copyFrom_22 : decode cX2_copyFrom 22 = .ok (.arraylength, 1) := by decide +kernel
theorem dX2_copyFrom_23 : decode cX2_copyFrom 23 = .ok (.invokestatic 22, 3) := by decide +kernel
theorem dX2_copyFrom_26 : decode cX2_copyFrom 26 = .ok (.aload_n 1, 1) := by decide +kernel
theorem dX2_copyFrom_27 : decode cX2_copyFrom 27 = .ok (.getfield 15, 3) := by decide +kernel
theorem dX2_copyFrom_30 : decode cX2_copyFrom 30 = .ok (.iconst 0, 1) := by decide +kernel
theorem dX2_copyFrom_31 : decode cX2_copyFrom 31 = .ok (.aload_n 0, 1) := by decide +kernel
theorem dX2_copyFrom_32 : decode cX2_copyFrom 32 = .ok (.getfield 15, 3) := by decide +kernel
theorem dX2_copyFrom_35 : decode cX2_copyFrom 35 = .ok (.iconst 0, 1) := by decide +kernel
theorem dX2_copyFrom_36 : decode cX2_copyFrom 36 = .ok (.aload_n 0, 1) := by decide +kernel
theorem dX2_copyFrom_37 : decode cX2_copyFrom 37 = .ok (.getfield 15, 3) := by decide +kernel
theorem dX2_copyFrom_40 : decode cX2_copyFrom 40 = .ok (.arraylength, 1) := by decide +kernel
theorem dX2_copyFrom_41 : decode cX2_copyFrom 41 = .ok (.invokestatic 22, 3) := by decide +kernel
theorem dX2_copyFrom_44 : decode cX2_copyFrom 44 = .ok (.return_, 1) := by decide +kernel
theorem dX3_init_0 : decode cX3_init 0 = .ok (.aload_n 0, 1) := by decide +kernel
theorem dX3_init_1 : decode cX3_init 1 = .ok (.invokespecial 5, 3) := by decide +kernel
theorem dX3_init_4 : decode cX3_init 4 = .ok (.aload_n 0, 1) := by decide +kernel
theorem dX3_init_5 : decode cX3_init 5 = .ok (.bipush 10, 2) := by decide +kernel
theorem dX3_init_7 : decode cX3_init 7 = .ok (.newarray .int, 2) := by decide +kernel
theorem dX3_init_9 : decode cX3_init 9 = .ok (.putfield 11, 3) := by decide +kernel
theorem dX3_init_12 : decode cX3_init 12 = .ok (.aload_n 0, 1) := by decide +kernel
theorem dX3_init_13 : decode cX3_init 13 = .ok (.bipush 10, 2) := by decide +kernel
theorem dX3_init_15 : decode cX3_init 15 = .ok (.newarray .int, 2) := by decide +kernel
theorem dX3_init_17 : decode cX3_init 17 = .ok (.putfield 15, 3) := by decide +kernel
theorem dX3_init_20 : decode cX3_init 20 = .ok (.aload_n 0, 1) := by decide +kernel
theorem dX3_init_21 : decode cX3_init 21 = .ok (.bipush 66, 2) := by decide +kernel
theorem dX3_init_23 : decode cX3_init 23 = .ok (.newarray .int, 2) := by decide +kernel
theorem dX3_init_25 : decode cX3_init 25 = .ok (.putfield 18, 3) := by decide +kernel
theorem dX3_init_28 : decode cX3_init 28 = .ok (.aload_n 0, 1) := by decide +kernel
theorem dX3_init_29 : decode cX3_init 29 = .ok (.bipush 6, 2) := by decide +kernel
theorem dX3_init_31 : decode cX3_init 31 = .ok (.newarray .int, 2) := by decide +kernel
theorem dX3_init_33 : decode cX3_init 33 = .ok (.putfield 21, 3) := by decide +kernel
theorem dX3_init_36 : decode cX3_init 36 = .ok (.aload_n 0, 1) := by decide +kernel
theorem dX3_init_37 : decode cX3_init 37 = .ok (.bipush 11, 2) := by decide +kernel
theorem dX3_init_39 : decode cX3_init 39 = .ok (.newarray .int, 2) := by decide +kernel
theorem dX3_init_41 : decode cX3_init 41 = .ok (.putfield 24, 3) := by decide +kernel
theorem dX3_init_44 : decode cX3_init 44 = .ok (.aload_n 0, 1) := by decide +kernel
theorem dX3_init_45 : decode cX3_init 45 = .ok (.bipush 60, 2) := by decide +kernel
theorem dX3_init_47 : decode cX3_init 47 = .ok (.newarray .long, 2) := by decide +kernel
theorem dX3_init_49 : decode cX3_init 49 = .ok (.putfield 27, 3) := by decide +kernel
theorem dX3_init_52 : decode cX3_init 52 = .ok (.aload_n 0, 1) := by decide +kernel
theorem dX3_init_53 : decode cX3_init 53 = .ok (.new 31, 3) := by decide +kernel
theorem dX3_init_56 : decode cX3_init 56 = .ok (.dup, 1) := by decide +kernel
theorem dX3_init_57 : decode cX3_init 57 = .ok (.invokespecial 33, 3) := by decide +kernel
theorem dX3_init_60 : decode cX3_init 60 = .ok (.putfield 34, 3) := by decide +kernel
theorem dX3_init_63 : decode cX3_init 63 = .ok (.aload_n 0, 1) := by decide +kernel
theorem dX3_init_64 : decode cX3_init 64 = .ok (.new 31, 3) := by decide +kernel
theorem dX3_init_67 : decode cX3_init 67 = .ok (.dup, 1) := by decide +kernel
theorem dX3_init_68 : decode cX3_init 68 = .ok (.invokespecial 33, 3) := by decide +kernel
theorem dX3_init_71 : decode cX3_init 71 = .ok (.putfield 38, 3) := by decide +kernel
theorem dX3_init_74 : decode cX3_init 74 = .ok (.return_, 1) := by decide +kernel
theorem dX3_lookAt_0 : decode cX3_lookAt 0 = .ok (.aload_n 0, 1) := by decide +kernel
theorem dX3_lookAt_1 : decode cX3_lookAt 1 = .ok (.aload_n 1, 1) := by decide +kernel
theorem dX3_lookAt_2 : decode cX3_lookAt 2 = .ok (.iconst 0, 1) := by decide +kernel
theorem dX3_lookAt_3 : decode cX3_lookAt 3 = .ok (.invokevirtual 41, 3) := by decide +kernel
theorem dX3_lookAt_6 : decode cX3_lookAt 6 = .ok (.return_, 1) := by decide +kernel
theorem dX3_lookAtBaited_0 : decode cX3_lookAtBaited 0 = .ok (.aload_n 0, 1) := by decide +kernel
theorem dX3_lookAtBaited_1 : decode cX3_lookAtBaited 1 = .ok (.aload_n 1, 1) := by decide +kernel
theorem dX3_lookAtBaited_2 : decode cX3_lookAtBaited 2 = .ok (.getfield 45, 3) := by decide +kernel
theorem dX3_lookAtBaited_5 : decode cX3_lookAtBaited 5 = .ok (.getfield 51, 3) := by decide +kernel
theorem dX3_lookAtBaited_8 : decode cX3_lookAtBaited 8 = .ok (.putfield 57, 3) := by decide +kernel
theorem dX3_lookAtBaited_11 : decode cX3_lookAtBaited 11 = .ok (.aload_n 1, 1) := by decide +kernel
theorem dX3_lookAtBaited_12 : decode cX3_lookAtBaited 12 = .ok (.getfield 45, 3) := by decide +kernel
theorem dX3_lookAtBaited_15 : decode cX3_lookAtBaited 15 = .ok (.invokevirtual 60, 3) := by decide +kernel
theorem dX3_lookAtBaited_18 : decode cX3_lookAtBaited 18 = .ok (.istore_n 3, 1) := by decide +kernel
theorem dX3_lookAtBaited_19 : decode cX3_lookAtBaited 19 = .ok (.iconst 0, 1) := by decide +kernel
theorem dX3_lookAtBaited_20 : decode cX3_lookAtBaited 20 = .ok (.istore 4, 2) := by decide +kernel
theorem dX3_lookAtBaited_22 : decode cX3_lookAtBaited 22 = .ok (.iload 4, 2) := by decide +kernel
theorem dX3_lookAtBaited_24 : decode cX3_lookAtBaited 24 = .ok (.aload_n 1, 1) := by decide +kernel
theorem dX3_lookAtBaited_25 : decode cX3_lookAtBaited 25 = .ok (.getfield 45, 3) := by decide +kernel
theorem dX3_lookAtBaited_28 : decode cX3_lookAtBaited 28 = .ok (.getfield 51, 3) := by decide +kernel
theorem dX3_lookAtBaited_31 : decode cX3_lookAtBaited 31 = .ok (.if_icmp .ge 44, 3) := by decide +kernel
theorem dX3_lookAtBaited_34 : decode cX3_lookAtBaited 34 = .ok (.aload_n 0, 1) := by decide +kernel
theorem dX3_lookAtBaited_35 : decode cX3_lookAtBaited 35 = .ok (.getfield 11, 3) := by decide +kernel
theorem dX3_lookAtBaited_38 : decode cX3_lookAtBaited 38 = .ok (.iload 4, 2) := by decide +kernel
theorem dX3_lookAtBaited_40 : decode cX3_lookAtBaited 40 = .ok (.aload_n 1, 1) := by decide +kernel
theorem dX3_lookAtBaited_41 : decode cX3_lookAtBaited 41 = .ok (.aload_n 1, 1) := by decide +kernel
theorem dX3_lookAtBaited_42 : decode cX3_lookAtBaited 42 = .ok (.getfield 45, 3) := by decide +kernel
theorem dX3_lookAtBaited_45 : decode cX3_lookAtBaited 45 = .ok (.getfield 64, 3) := by decide +kernel
theorem dX3_lookAtBaited_48 : decode cX3_lookAtBaited 48 = .ok (.iload 4, 2) := by decide +kernel
theorem dX3_lookAtBaited_50 : decode cX3_lookAtBaited 50 = .ok (.iaload, 1) := by decide +kernel
theorem dX3_lookAtBaited_51 : decode cX3_lookAtBaited 51 = .ok (.invokevirtual 67, 3) := by decide +kernel
theorem dX3_lookAtBaited_54 : decode cX3_lookAtBaited 54 = .ok (.iastore, 1) := by decide +kernel
theorem dX3_lookAtBaited_55 : decode cX3_lookAtBaited 55 = .ok (.aload_n 0, 1) := by decide +kernel
theorem dX3_lookAtBaited_56 : decode cX3_lookAtBaited 56 = .ok (.getfield 15, 3) := by decide +kernel
theorem dX3_lookAtBaited_59 : decode cX3_lookAtBaited 59 = .ok (.iload 4, 2) := by decide +kernel
theorem dX3_lookAtBaited_61 : decode cX3_lookAtBaited 61 = .ok (.aload_n 1, 1) := by decide +kernel
theorem dX3_lookAtBaited_62 : decode cX3_lookAtBaited 62 = .ok (.iload 4, 2) := by decide +kernel
theorem dX3_lookAtBaited_64 : decode cX3_lookAtBaited 64 = .ok (.iload_n 3, 1) := by decide +kernel
theorem dX3_lookAtBaited_65 : decode cX3_lookAtBaited 65 = .ok (.invokevirtual 71, 3) := by decide +kernel
theorem dX3_lookAtBaited_68 : decode cX3_lookAtBaited 68 = .ok (.iastore, 1) := by decide +kernel
theorem dX3_lookAtBaited_69 : decode cX3_lookAtBaited 69 = .ok (.iinc 4 1, 3) := by decide +kernel
theorem dX3_lookAtBaited_72 : decode cX3_lookAtBaited 72 = .ok (.goto (-50), 3) := by decide +kernel
theorem dX3_lookAtBaited_75 : decode cX3_lookAtBaited 75 = .ok (.iconst 0, 1) := by decide +kernel
theorem dX3_lookAtBaited_76 : decode cX3_lookAtBaited 76 = .ok (.istore 4, 2) := by decide +kernel
theorem dX3_lookAtBaited_78 : decode cX3_lookAtBaited 78 = .ok (.iload 4, 2) := by decide +kernel
theorem dX3_lookAtBaited_80 : decode cX3_lookAtBaited 80 = .ok (.aload_n 1, 1) := by decide +kernel
theorem dX3_lookAtBaited_81 : decode cX3_lookAtBaited 81 = .ok (.getfield 75, 3) := by decide +kernel
theorem dX3_lookAtBaited_84 : decode cX3_lookAtBaited 84 = .ok (.getfield 79, 3) := by decide +kernel
theorem dX3_lookAtBaited_87 : decode cX3_lookAtBaited 87 = .ok (.if_icmp .ge 17, 3) := by decide +kernel
theorem dX3_lookAtBaited_90 : decode cX3_lookAtBaited 90 = .ok (.aload_n 0, 1) := by decide +kernel
theorem dX3_lookAtBaited_91 : decode cX3_lookAtBaited 91 = .ok (.aload_n 1, 1) := by decide +kernel
theorem dX3_lookAtBaited_92 : decode cX3_lookAtBaited 92 = .ok (.iload 4, 2) := by decide +kernel
theorem dX3_lookAtBaited_94 : decode cX3_lookAtBaited 94 = .ok (.iload_n 2, 1) := by decide +kernel
theorem dX3_lookAtBaited_95 : decode cX3_lookAtBaited 95 = .ok (.invokevirtual 82, 3) := by decide +kernel
theorem dX3_lookAtBaited_98 : decode cX3_lookAtBaited 98 = .ok (.iinc 4 1, 3) := by decide +kernel
theorem dX3_lookAtBaited_101 : decode cX3_lookAtBaited 101 = .ok (.goto (-23), 3) := by decide +kernel
theorem dX3_lookAtBaited_104 : decode cX3_lookAtBaited 104 = .ok (.return_, 1) := by decide +kernel
theorem dX3_orderFor_0 : decode cX3_orderFor 0 = .ok (.aload_n 0, 1) := by decide +kernel
theorem dX3_orderFor_1 : decode cX3_orderFor 1 = .ok (.getfield 21, 3) := by decide +kernel
theorem dX3_orderFor_4 : decode cX3_orderFor 4 = .ok (.iload_n 2, 1) := by decide +kernel
theorem dX3_orderFor_5 : decode cX3_orderFor 5 = .ok (.iconst 0, 1) := by decide +kernel
theorem dX3_orderFor_6 : decode cX3_orderFor 6 = .ok (.iastore, 1) := by decide +kernel
theorem dX3_orderFor_7 : decode cX3_orderFor 7 = .ok (.aload_n 1, 1) := by decide +kernel
theorem dX3_orderFor_8 : decode cX3_orderFor 8 = .ok (.getfield 75, 3) := by decide +kernel
theorem dX3_orderFor_11 : decode cX3_orderFor 11 = .ok (.getfield 86, 3) := by decide +kernel
theorem dX3_orderFor_14 : decode cX3_orderFor 14 = .ok (.iload_n 2, 1) := by decide +kernel
theorem dX3_orderFor_15 : decode cX3_orderFor 15 = .ok (.iaload, 1) := by decide +kernel
theorem dX3_orderFor_16 : decode cX3_orderFor 16 = .ok (.istore 4, 2) := by decide +kernel
theorem dX3_orderFor_18 : decode cX3_orderFor 18 = .ok (.iconst 0, 1) := by decide +kernel
theorem dX3_orderFor_19 : decode cX3_orderFor 19 = .ok (.istore 5, 2) := by decide +kernel
theorem dX3_orderFor_21 : decode cX3_orderFor 21 = .ok (.iload 5, 2) := by decide +kernel
theorem dX3_orderFor_23 : decode cX3_orderFor 23 = .ok (.aload_n 1, 1) := by decide +kernel
theorem dX3_orderFor_24 : decode cX3_orderFor 24 = .ok (.getfield 45, 3) := by decide +kernel
theorem dX3_orderFor_27 : decode cX3_orderFor 27 = .ok (.getfield 51, 3) := by decide +kernel
theorem dX3_orderFor_30 : decode cX3_orderFor 30 = .ok (.if_icmp .ge 94, 3) := by decide +kernel
theorem dX3_orderFor_33 : decode cX3_orderFor 33 = .ok (.aload_n 1, 1) := by decide +kernel
theorem dX3_orderFor_34 : decode cX3_orderFor 34 = .ok (.iload_n 2, 1) := by decide +kernel
theorem dX3_orderFor_35 : decode cX3_orderFor 35 = .ok (.iload 5, 2) := by decide +kernel
theorem dX3_orderFor_37 : decode cX3_orderFor 37 = .ok (.aload_n 0, 1) := by decide +kernel
theorem dX3_orderFor_38 : decode cX3_orderFor 38 = .ok (.getfield 11, 3) := by decide +kernel
theorem dX3_orderFor_41 : decode cX3_orderFor 41 = .ok (.iload 5, 2) := by decide +kernel
theorem dX3_orderFor_43 : decode cX3_orderFor 43 = .ok (.iaload, 1) := by decide +kernel
theorem dX3_orderFor_44 : decode cX3_orderFor 44 = .ok (.invokevirtual 89, 3) := by decide +kernel
theorem dX3_orderFor_47 : decode cX3_orderFor 47 = .ok (.istore 6, 2) := by decide +kernel
theorem dX3_orderFor_49 : decode cX3_orderFor 49 = .ok (.aload_n 0, 1) := by decide +kernel
theorem dX3_orderFor_50 : decode cX3_orderFor 50 = .ok (.getfield 15, 3) := by decide +kernel
theorem dX3_orderFor_53 : decode cX3_orderFor 53 = .ok (.iload 5, 2) := by decide +kernel
theorem dX3_orderFor_55 : decode cX3_orderFor 55 = .ok (.iaload, 1) := by decide +kernel
theorem dX3_orderFor_56 : decode cX3_orderFor 56 = .ok (.iload 6, 2) := by decide +kernel
theorem dX3_orderFor_58 : decode cX3_orderFor 58 = .ok (.isub, 1) := by decide +kernel
theorem dX3_orderFor_59 : decode cX3_orderFor 59 = .ok (.istore 7, 2) := by decide +kernel
theorem dX3_orderFor_61 : decode cX3_orderFor 61 = .ok (.iload 4, 2) := by decide +kernel
theorem dX3_orderFor_63 : decode cX3_orderFor 63 = .ok (.iconst 2, 1) := by decide +kernel
theorem dX3_orderFor_64 : decode cX3_orderFor 64 = .ok (.if_icmp .ne 17, 3) := by decide +kernel
theorem dX3_orderFor_67 : decode cX3_orderFor 67 = .ok (.iload 5, 2) := by decide +kernel
theorem dX3_orderFor_69 : decode cX3_orderFor 69 = .ok (.aload_n 1, 1) := by decide +kernel
theorem dX3_orderFor_70 : decode cX3_orderFor 70 = .ok (.getfield 75, 3) := by decide +kernel
theorem dX3_orderFor_73 : decode cX3_orderFor 73 = .ok (.getfield 93, 3) := by decide +kernel
theorem dX3_orderFor_76 : decode cX3_orderFor 76 = .ok (.iload_n 2, 1) := by decide +kernel
theorem dX3_orderFor_77 : decode cX3_orderFor 77 = .ok (.iaload, 1) := by decide +kernel
theorem dX3_orderFor_78 : decode cX3_orderFor 78 = .ok (.if_icmp .ne 7, 3) := by decide +kernel
theorem dX3_orderFor_81 : decode cX3_orderFor 81 = .ok (.iconst 1, 1) := by decide +kernel
theorem dX3_orderFor_82 : decode cX3_orderFor 82 = .ok (.goto 4, 3) := by decide +kernel
theorem dX3_orderFor_85 : decode cX3_orderFor 85 = .ok (.iconst 0, 1) := by decide +kernel
theorem dX3_orderFor_86 : decode cX3_orderFor 86 = .ok (.istore 8, 2) := by decide +kernel
theorem dX3_orderFor_88 : decode cX3_orderFor 88 = .ok (.iload 7, 2) := by decide +kernel
theorem dX3_orderFor_90 : decode cX3_orderFor 90 = .ok (.ifCond .le 28, 3) := by decide +kernel
theorem dX3_orderFor_93 : decode cX3_orderFor 93 = .ok (.iload 8, 2) := by decide +kernel
theorem dX3_orderFor_95 : decode cX3_orderFor 95 = .ok (.ifCond .eq 23, 3) := by decide +kernel
theorem dX3_orderFor_98 : decode cX3_orderFor 98 = .ok (.aload_n 0, 1) := by decide +kernel
theorem dX3_orderFor_99 : decode cX3_orderFor 99 = .ok (.iload_n 2, 1) := by decide +kernel
theorem dX3_orderFor_100 : decode cX3_orderFor 100 = .ok (.iload 5, 2) := by decide +kernel
theorem dX3_orderFor_102 : decode cX3_orderFor 102 = .ok (.iload 4, 2) := by decide +kernel
theorem dX3_orderFor_104 : decode cX3_orderFor 104 = .ok (.ifCond .ne 9, 3) := by decide +kernel
theorem dX3_orderFor_107 : decode cX3_orderFor 107 = .ok (.iload 7, 2) := by decide +kernel
theorem dX3_orderFor_109 : decode cX3_orderFor 109 = .ok (.ineg, 1) := by decide +kernel
theorem dX3_orderFor_110 : decode cX3_orderFor 110 = .ok (.goto 5, 3) := by decide +kernel
theorem dX3_orderFor_113 : decode cX3_orderFor 113 = .ok (.iload 6, 2) := by decide +kernel
theorem dX3_orderFor_115 : decode cX3_orderFor 115 = .ok (.invokevirtual 96, 3) := by decide +kernel
theorem dX3_orderFor_118 : decode cX3_orderFor 118 = .ok (.iinc 5 1, 3) := by decide +kernel
theorem dX3_orderFor_121 : decode cX3_orderFor 121 = .ok (.goto (-100), 3) := by decide +kernel
theorem dX3_orderFor_124 : decode cX3_orderFor 124 = .ok (.iload_n 3, 1) := by decide +kernel
theorem dX3_orderFor_125 : decode cX3_orderFor 125 = .ok (.ifCond .le 29, 3) := by decide +kernel
theorem dX3_orderFor_128 : decode cX3_orderFor 128 = .ok (.iload 4, 2) := by decide +kernel
theorem dX3_orderFor_130 : decode cX3_orderFor 130 = .ok (.iconst 2, 1) := by decide +kernel
theorem dX3_orderFor_131 : decode cX3_orderFor 131 = .ok (.if_icmp .eq 23, 3) := by decide +kernel
theorem dX3_orderFor_134 : decode cX3_orderFor 134 = .ok (.aload_n 0, 1) := by decide +kernel
theorem dX3_orderFor_135 : decode cX3_orderFor 135 = .ok (.iload_n 2, 1) := by decide +kernel
theorem dX3_orderFor_136 : decode cX3_orderFor 136 = .ok (.aload_n 0, 1) := by decide +kernel
theorem dX3_orderFor_137 : decode cX3_orderFor 137 = .ok (.getfield 57, 3) := by decide +kernel
theorem dX3_orderFor_140 : decode cX3_orderFor 140 = .ok (.iload 4, 2) := by decide +kernel
theorem dX3_orderFor_142 : decode cX3_orderFor 142 = .ok (.ifCond .ne 8, 3) := by decide +kernel
theorem dX3_orderFor_145 : decode cX3_orderFor 145 = .ok (.iload_n 3, 1) := by decide +kernel
theorem dX3_orderFor_146 : decode cX3_orderFor 146 = .ok (.ineg, 1) := by decide +kernel
theorem dX3_orderFor_147 : decode cX3_orderFor 147 = .ok (.goto 4, 3) := by decide +kernel
theorem dX3_orderFor_150 : decode cX3_orderFor 150 = .ok (.iconst 0, 1) := by decide +kernel
theorem dX3_orderFor_151 : decode cX3_orderFor 151 = .ok (.invokevirtual 96, 3) := by decide +kernel
theorem dX3_orderFor_154 : decode cX3_orderFor 154 = .ok (.return_, 1) := by decide +kernel
theorem dX3_putInOrder_0 : decode cX3_putInOrder 0 = .ok (.iload_n 1, 1) := by decide +kernel
theorem dX3_putInOrder_1 : decode cX3_putInOrder 1 = .ok (.bipush 11, 2) := by decide +kernel
theorem dX3_putInOrder_3 : decode cX3_putInOrder 3 = .ok (.imul, 1) := by decide +kernel
theorem dX3_putInOrder_4 : decode cX3_putInOrder 4 = .ok (.istore 4, 2) := by decide +kernel
theorem dX3_putInOrder_6 : decode cX3_putInOrder 6 = .ok (.aload_n 0, 1) := by decide +kernel
theorem dX3_putInOrder_7 : decode cX3_putInOrder 7 = .ok (.getfield 21, 3) := by decide +kernel
theorem dX3_putInOrder_10 : decode cX3_putInOrder 10 = .ok (.iload_n 1, 1) := by decide +kernel
theorem dX3_putInOrder_11 : decode cX3_putInOrder 11 = .ok (.iaload, 1) := by decide +kernel
theorem dX3_putInOrder_12 : decode cX3_putInOrder 12 = .ok (.istore 5, 2) := by decide +kernel
theorem dX3_putInOrder_14 : decode cX3_putInOrder 14 = .ok (.iload 5, 2) := by decide +kernel
theorem dX3_putInOrder_16 : decode cX3_putInOrder 16 = .ok (.bipush 11, 2) := by decide +kernel
theorem dX3_putInOrder_18 : decode cX3_putInOrder 18 = .ok (.if_icmp .lt 4, 3) := by decide +kernel
theorem dX3_putInOrder_21 : decode cX3_putInOrder 21 = .ok (.return_, 1) := by decide +kernel
theorem dX3_putInOrder_22 : decode cX3_putInOrder 22 = .ok (.iload 5, 2) := by decide +kernel
theorem dX3_putInOrder_24 : decode cX3_putInOrder 24 = .ok (.ifCond .le 60, 3) := by decide +kernel
theorem dX3_putInOrder_27 : decode cX3_putInOrder 27 = .ok (.aload_n 0, 1) := by decide +kernel
theorem dX3_putInOrder_28 : decode cX3_putInOrder 28 = .ok (.getfield 24, 3) := by decide +kernel
theorem dX3_putInOrder_31 : decode cX3_putInOrder 31 = .ok (.iload 5, 2) := by decide +kernel
theorem dX3_putInOrder_33 : decode cX3_putInOrder 33 = .ok (.iconst 1, 1) := by decide +kernel
theorem dX3_putInOrder_34 : decode cX3_putInOrder 34 = .ok (.isub, 1) := by decide +kernel
theorem dX3_putInOrder_35 : decode cX3_putInOrder 35 = .ok (.iaload, 1) := by decide +kernel
theorem dX3_putInOrder_36 : decode cX3_putInOrder 36 = .ok (.iload_n 3, 1) := by decide +kernel
theorem dX3_putInOrder_37 : decode cX3_putInOrder 37 = .ok (.if_icmp .le 47, 3) := by decide +kernel
theorem dX3_putInOrder_40 : decode cX3_putInOrder 40 = .ok (.aload_n 0, 1) := by decide +kernel
theorem dX3_putInOrder_41 : decode cX3_putInOrder 41 = .ok (.getfield 24, 3) := by decide +kernel
theorem dX3_putInOrder_44 : decode cX3_putInOrder 44 = .ok (.iload 5, 2) := by decide +kernel
theorem dX3_putInOrder_46 : decode cX3_putInOrder 46 = .ok (.aload_n 0, 1) := by decide +kernel
theorem dX3_putInOrder_47 : decode cX3_putInOrder 47 = .ok (.getfield 24, 3) := by decide +kernel
theorem dX3_putInOrder_50 : decode cX3_putInOrder 50 = .ok (.iload 5, 2) := by decide +kernel
theorem dX3_putInOrder_52 : decode cX3_putInOrder 52 = .ok (.iconst 1, 1) := by decide +kernel
theorem dX3_putInOrder_53 : decode cX3_putInOrder 53 = .ok (.isub, 1) := by decide +kernel
theorem dX3_putInOrder_54 : decode cX3_putInOrder 54 = .ok (.iaload, 1) := by decide +kernel
theorem dX3_putInOrder_55 : decode cX3_putInOrder 55 = .ok (.iastore, 1) := by decide +kernel
theorem dX3_putInOrder_56 : decode cX3_putInOrder 56 = .ok (.aload_n 0, 1) := by decide +kernel
theorem dX3_putInOrder_57 : decode cX3_putInOrder 57 = .ok (.getfield 18, 3) := by decide +kernel
theorem dX3_putInOrder_60 : decode cX3_putInOrder 60 = .ok (.iload 4, 2) := by decide +kernel
theorem dX3_putInOrder_62 : decode cX3_putInOrder 62 = .ok (.iload 5, 2) := by decide +kernel
theorem dX3_putInOrder_64 : decode cX3_putInOrder 64 = .ok (.iadd, 1) := by decide +kernel
theorem dX3_putInOrder_65 : decode cX3_putInOrder 65 = .ok (.aload_n 0, 1) := by decide +kernel
theorem dX3_putInOrder_66 : decode cX3_putInOrder 66 = .ok (.getfield 18, 3) := by decide +kernel
theorem dX3_putInOrder_69 : decode cX3_putInOrder 69 = .ok (.iload 4, 2) := by decide +kernel
theorem dX3_putInOrder_71 : decode cX3_putInOrder 71 = .ok (.iload 5, 2) := by decide +kernel
theorem dX3_putInOrder_73 : decode cX3_putInOrder 73 = .ok (.iadd, 1) := by decide +kernel
theorem dX3_putInOrder_74 : decode cX3_putInOrder 74 = .ok (.iconst 1, 1) := by decide +kernel
theorem dX3_putInOrder_75 : decode cX3_putInOrder 75 = .ok (.isub, 1) := by decide +kernel
theorem dX3_putInOrder_76 : decode cX3_putInOrder 76 = .ok (.iaload, 1) := by decide +kernel
theorem dX3_putInOrder_77 : decode cX3_putInOrder 77 = .ok (.iastore, 1) := by decide +kernel
theorem dX3_putInOrder_78 : decode cX3_putInOrder 78 = .ok (.iinc 5 (-1), 3) := by decide +kernel
theorem dX3_putInOrder_81 : decode cX3_putInOrder 81 = .ok (.goto (-59), 3) := by decide +kernel
theorem dX3_putInOrder_84 : decode cX3_putInOrder 84 = .ok (.aload_n 0, 1) := by decide +kernel
theorem dX3_putInOrder_85 : decode cX3_putInOrder 85 = .ok (.getfield 24, 3) := by decide +kernel
theorem dX3_putInOrder_88 : decode cX3_putInOrder 88 = .ok (.iload 5, 2) := by decide +kernel
theorem dX3_putInOrder_90 : decode cX3_putInOrder 90 = .ok (.iload_n 3, 1) := by decide +kernel
theorem dX3_putInOrder_91 : decode cX3_putInOrder 91 = .ok (.iastore, 1) := by decide +kernel
theorem dX3_putInOrder_92 : decode cX3_putInOrder 92 = .ok (.aload_n 0, 1) := by decide +kernel
theorem dX3_putInOrder_93 : decode cX3_putInOrder 93 = .ok (.getfield 18, 3) := by decide +kernel
theorem dX3_putInOrder_96 : decode cX3_putInOrder 96 = .ok (.iload 4, 2) := by decide +kernel
theorem dX3_putInOrder_98 : decode cX3_putInOrder 98 = .ok (.iload 5, 2) := by decide +kernel
theorem dX3_putInOrder_100 : decode cX3_putInOrder 100 = .ok (.iadd, 1) := by decide +kernel
theorem dX3_putInOrder_101 : decode cX3_putInOrder 101 = .ok (.iload_n 2, 1) := by decide +kernel
theorem dX3_putInOrder_102 : decode cX3_putInOrder 102 = .ok (.iastore, 1) := by decide +kernel
theorem dX3_putInOrder_103 : decode cX3_putInOrder 103 = .ok (.aload_n 0, 1) := by decide +kernel
theorem dX3_putInOrder_104 : decode cX3_putInOrder 104 = .ok (.getfield 21, 3) := by decide +kernel
theorem dX3_putInOrder_107 : decode cX3_putInOrder 107 = .ok (.iload_n 1, 1) := by decide +kernel
theorem dX3_putInOrder_108 : decode cX3_putInOrder 108 = .ok (.dup2, 1) := by decide +kernel
theorem dX3_putInOrder_109 : decode cX3_putInOrder 109 = .ok (.iaload, 1) := by decide +kernel
theorem dX3_putInOrder_110 : decode cX3_putInOrder 110 = .ok (.iconst 1, 1) := by decide +kernel
theorem dX3_putInOrder_111 : decode cX3_putInOrder 111 = .ok (.iadd, 1) := by decide +kernel
theorem dX3_putInOrder_112 : decode cX3_putInOrder 112 = .ok (.iastore, 1) := by decide +kernel
theorem dX3_putInOrder_113 : decode cX3_putInOrder 113 = .ok (.return_, 1) := by decide +kernel
theorem dX3_pick_0 : decode cX3_pick 0 = .ok (.iload_n 1, 1) := by decide +kernel
theorem dX3_pick_1 : decode cX3_pick 1 = .ok (.bipush 11, 2) := by decide +kernel
theorem dX3_pick_3 : decode cX3_pick 3 = .ok (.imul, 1) := by decide +kernel
theorem dX3_pick_4 : decode cX3_pick 4 = .ok (.istore_n 3, 1) := by decide +kernel
theorem dX3_pick_5 : decode cX3_pick 5 = .ok (.iconst 0, 1) := by decide +kernel
theorem dX3_pick_6 : decode cX3_pick 6 = .ok (.istore 4, 2) := by decide +kernel
theorem dX3_pick_8 : decode cX3_pick 8 = .ok (.iload 4, 2) := by decide +kernel
theorem dX3_pick_10 : decode cX3_pick 10 = .ok (.aload_n 0, 1) := by decide +kernel
theorem dX3_pick_11 : decode cX3_pick 11 = .ok (.getfield 21, 3) := by decide +kernel
theorem dX3_pick_14 : decode cX3_pick 14 = .ok (.iload_n 1, 1) := by decide +kernel
theorem dX3_pick_15 : decode cX3_pick 15 = .ok (.iaload, 1) := by decide +kernel
theorem dX3_pick_16 : decode cX3_pick 16 = .ok (.if_icmp .ge 32, 3) := by decide +kernel
theorem dX3_pick_19 : decode cX3_pick 19 = .ok (.aload_n 0, 1) := by decide +kernel
theorem dX3_pick_20 : decode cX3_pick 20 = .ok (.getfield 18, 3) := by decide +kernel
theorem dX3_pick_23 : decode cX3_pick 23 = .ok (.iload_n 3, 1) := by decide +kernel
theorem dX3_pick_24 : decode cX3_pick 24 = .ok (.iload 4, 2) := by decide +kernel
theorem dX3_pick_26 : decode cX3_pick 26 = .ok (.iadd, 1) := by decide +kernel
theorem dX3_pick_27 : decode cX3_pick 27 = .ok (.iaload, 1) := by decide +kernel
theorem dX3_pick_28 : decode cX3_pick 28 = .ok (.istore 5, 2) := by decide +kernel
theorem dX3_pick_30 : decode cX3_pick 30 = .ok (.iload_n 2, 1) := by decide +kernel
theorem dX3_pick_31 : decode cX3_pick 31 = .ok (.iload 5, 2) := by decide +kernel
theorem dX3_pick_33 : decode cX3_pick 33 = .ok (.ishr, 1) := by decide +kernel
theorem dX3_pick_34 : decode cX3_pick 34 = .ok (.iconst 1, 1) := by decide +kernel
theorem dX3_pick_35 : decode cX3_pick 35 = .ok (.iand, 1) := by decide +kernel
theorem dX3_pick_36 : decode cX3_pick 36 = .ok (.ifCond .ne 6, 3) := by decide +kernel
theorem dX3_pick_39 : decode cX3_pick 39 = .ok (.iload 5, 2) := by decide +kernel
theorem dX3_pick_41 : decode cX3_pick 41 = .ok (.ireturn, 1) := by decide +kernel
theorem dX3_pick_42 : decode cX3_pick 42 = .ok (.iinc 4 1, 3) := by decide +kernel
theorem dX3_pick_45 : decode cX3_pick 45 = .ok (.goto (-37), 3) := by decide +kernel
theorem dX3_pick_48 : decode cX3_pick 48 = .ok (.iconst (-1), 1) := by decide +kernel
theorem dX3_pick_49 : decode cX3_pick 49 = .ok (.ireturn, 1) := by decide +kernel
theorem dX3_netOf_0 : decode cX3_netOf 0 = .ok (.aload_n 0, 1) := by decide +kernel
theorem dX3_netOf_1 : decode cX3_netOf 1 = .ok (.getfield 15, 3) := by decide +kernel
theorem dX3_netOf_4 : decode cX3_netOf 4 = .ok (.iload_n 3, 1) := by decide +kernel
theorem dX3_netOf_5 : decode cX3_netOf 5 = .ok (.iaload, 1) := by decide +kernel
theorem dX3_netOf_6 : decode cX3_netOf 6 = .ok (.aload_n 1, 1) := by decide +kernel
theorem dX3_netOf_7 : decode cX3_netOf 7 = .ok (.iload_n 2, 1) := by decide +kernel
theorem dX3_netOf_8 : decode cX3_netOf 8 = .ok (.iload_n 3, 1) := by decide +kernel
theorem dX3_netOf_9 : decode cX3_netOf 9 = .ok (.aload_n 0, 1) := by decide +kernel
theorem dX3_netOf_10 : decode cX3_netOf 10 = .ok (.getfield 11, 3) := by decide +kernel
theorem dX3_netOf_13 : decode cX3_netOf 13 = .ok (.iload_n 3, 1) := by decide +kernel
theorem dX3_netOf_14 : decode cX3_netOf 14 = .ok (.iaload, 1) := by decide +kernel
theorem dX3_netOf_15 : decode cX3_netOf 15 = .ok (.invokevirtual 89, 3) := by decide +kernel
theorem dX3_netOf_18 : decode cX3_netOf 18 = .ok (.isub, 1) := by decide +kernel
theorem dX3_netOf_19 : decode cX3_netOf 19 = .ok (.ireturn, 1) := by decide +kernel
theorem dX3_wantedBy_0 : decode cX3_wantedBy 0 = .ok (.iconst 0, 1) := by decide +kernel
theorem dX3_wantedBy_1 : decode cX3_wantedBy 1 = .ok (.istore_n 3, 1) := by decide +kernel
theorem dX3_wantedBy_2 : decode cX3_wantedBy 2 = .ok (.iconst 0, 1) := by decide +kernel
theorem dX3_wantedBy_3 : decode cX3_wantedBy 3 = .ok (.istore 4, 2) := by decide +kernel
theorem dX3_wantedBy_5 : decode cX3_wantedBy 5 = .ok (.iload 4, 2) := by decide +kernel
theorem dX3_wantedBy_7 : decode cX3_wantedBy 7 = .ok (.aload_n 1, 1) := by decide +kernel
theorem dX3_wantedBy_8 : decode cX3_wantedBy 8 = .ok (.getfield 45, 3) := by decide +kernel
theorem dX3_wantedBy_11 : decode cX3_wantedBy 11 = .ok (.getfield 51, 3) := by decide +kernel
theorem dX3_wantedBy_14 : decode cX3_wantedBy 14 = .ok (.if_icmp .ge 23, 3) := by decide +kernel
theorem dX3_wantedBy_17 : decode cX3_wantedBy 17 = .ok (.aload_n 0, 1) := by decide +kernel
theorem dX3_wantedBy_18 : decode cX3_wantedBy 18 = .ok (.aload_n 1, 1) := by decide +kernel
theorem dX3_wantedBy_19 : decode cX3_wantedBy 19 = .ok (.iload_n 2, 1) := by decide +kernel
theorem dX3_wantedBy_20 : decode cX3_wantedBy 20 = .ok (.iload 4, 2) := by decide +kernel
theorem dX3_wantedBy_22 : decode cX3_wantedBy 22 = .ok (.invokevirtual 100, 3) := by decide +kernel
theorem dX3_wantedBy_25 : decode cX3_wantedBy 25 = .ok (.ifCond .le 6, 3) := by decide +kernel
theorem dX3_wantedBy_28 : decode cX3_wantedBy 28 = .ok (.iinc 3 1, 3) := by decide +kernel
theorem dX3_wantedBy_31 : decode cX3_wantedBy 31 = .ok (.iinc 4 1, 3) := by decide +kernel
theorem dX3_wantedBy_34 : decode cX3_wantedBy 34 = .ok (.goto (-29), 3) := by decide +kernel
theorem dX3_wantedBy_37 : decode cX3_wantedBy 37 = .ok (.iload_n 3, 1) := by decide +kernel
theorem dX3_wantedBy_38 : decode cX3_wantedBy 38 = .ok (.ireturn, 1) := by decide +kernel
theorem dX3_play_0 : decode cX3_play 0 = .ok (.aload_n 0, 1) := by decide +kernel
theorem dX3_play_1 : decode cX3_play 1 = .ok (.aload_n 1, 1) := by decide +kernel
theorem dX3_play_2 : decode cX3_play 2 = .ok (.iconst 0, 1) := by decide +kernel
theorem dX3_play_3 : decode cX3_play 3 = .ok (.invokevirtual 41, 3) := by decide +kernel
theorem dX3_play_6 : decode cX3_play 6 = .ok (.aload_n 0, 1) := by decide +kernel
theorem dX3_play_7 : decode cX3_play 7 = .ok (.invokevirtual 104, 3) := by decide +kernel
theorem dX3_play_10 : decode cX3_play 10 = .ok (.iconst 0, 1) := by decide +kernel
theorem dX3_play_11 : decode cX3_play 11 = .ok (.istore_n 2, 1) := by decide +kernel
theorem dX3_play_12 : decode cX3_play 12 = .ok (.iload_n 2, 1) := by decide +kernel
theorem dX3_play_13 : decode cX3_play 13 = .ok (.aload_n 1, 1) := by decide +kernel
theorem dX3_play_14 : decode cX3_play 14 = .ok (.getfield 75, 3) := by decide +kernel
theorem dX3_play_17 : decode cX3_play 17 = .ok (.getfield 79, 3) := by decide +kernel
theorem dX3_play_20 : decode cX3_play 20 = .ok (.if_icmp .ge 23, 3) := by decide +kernel
theorem dX3_play_23 : decode cX3_play 23 = .ok (.aload_n 0, 1) := by decide +kernel
theorem dX3_play_24 : decode cX3_play 24 = .ok (.iload_n 2, 1) := by decide +kernel
theorem dX3_play_25 : decode cX3_play 25 = .ok (.aload_n 1, 1) := by decide +kernel
theorem dX3_play_26 : decode cX3_play 26 = .ok (.getfield 75, 3) := by decide +kernel
theorem dX3_play_29 : decode cX3_play 29 = .ok (.getfield 107, 3) := by decide +kernel
theorem dX3_play_32 : decode cX3_play 32 = .ok (.iload_n 2, 1) := by decide +kernel
theorem dX3_play_33 : decode cX3_play 33 = .ok (.iaload, 1) := by decide +kernel
theorem dX3_play_34 : decode cX3_play 34 = .ok (.invokevirtual 110, 3) := by decide +kernel
theorem dX3_play_37 : decode cX3_play 37 = .ok (.iinc 2 1, 3) := by decide +kernel
theorem dX3_play_40 : decode cX3_play 40 = .ok (.goto (-28), 3) := by decide +kernel
theorem dX3_play_43 : decode cX3_play 43 = .ok (.return_, 1) := by decide +kernel
theorem dX3_begin_0 : decode cX3_begin 0 = .ok (.iconst 0, 1) := by decide +kernel
theorem dX3_begin_1 : decode cX3_begin 1 = .ok (.istore_n 1, 1) := by decide +kernel
theorem dX3_begin_2 : decode cX3_begin 2 = .ok (.iload_n 1, 1) := by decide +kernel
theorem dX3_begin_3 : decode cX3_begin 3 = .ok (.aload_n 0, 1) := by decide +kernel
theorem dX3_begin_4 : decode cX3_begin 4 = .ok (.getfield 27, 3) := by decide +kernel
theorem dX3_begin_7 : decode cX3_begin 7 = .ok (.arraylength, 1) := by decide +kernel
theorem dX3_begin_8 : decode cX3_begin 8 = .ok (.if_icmp .ge 16, 3) := by decide +kernel
theorem dX3_begin_11 : decode cX3_begin 11 = .ok (.aload_n 0, 1) := by decide +kernel
theorem dX3_begin_12 : decode cX3_begin 12 = .ok (.getfield 27, 3) := by decide +kernel
theorem dX3_begin_15 : decode cX3_begin 15 = .ok (.iload_n 1, 1) := by decide +kernel
theorem dX3_begin_16 : decode cX3_begin 16 = .ok (.lconst 0, 1) := by decide +kernel
theorem dX3_begin_17 : decode cX3_begin 17 = .ok (.lastore, 1) := by decide +kernel
theorem dX3_begin_18 : decode cX3_begin 18 = .ok (.iinc 1 1, 3) := by decide +kernel
theorem dX3_begin_21 : decode cX3_begin 21 = .ok (.goto (-19), 3) := by decide +kernel
theorem dX3_begin_24 : decode cX3_begin 24 = .ok (.aload_n 0, 1) := by decide +kernel
theorem dX3_begin_25 : decode cX3_begin 25 = .ok (.getfield 34, 3) := by decide +kernel
theorem dX3_begin_28 : decode cX3_begin 28 = .ok (.invokevirtual 114, 3) := by decide +kernel
theorem dX3_begin_31 : decode cX3_begin 31 = .ok (.aload_n 0, 1) := by decide +kernel
theorem dX3_begin_32 : decode cX3_begin 32 = .ok (.getfield 34, 3) := by decide +kernel
theorem dX3_begin_35 : decode cX3_begin 35 = .ok (.iconst 0, 1) := by decide +kernel
theorem dX3_begin_36 : decode cX3_begin 36 = .ok (.ldc2_w 117, 3) := by decide +kernel
theorem dX3_begin_39 : decode cX3_begin 39 = .ok (.invokevirtual 119, 3) := by decide +kernel
theorem dX3_begin_42 : decode cX3_begin 42 = .ok (.return_, 1) := by decide +kernel
theorem dX3_letCome_0 : decode cX3_letCome 0 = .ok (.aload_n 0, 1) := by decide +kernel
theorem dX3_letCome_1 : decode cX3_letCome 1 = .ok (.getfield 38, 3) := by decide +kernel
theorem dX3_letCome_4 : decode cX3_letCome 4 = .ok (.invokevirtual 114, 3) := by decide +kernel
theorem dX3_letCome_7 : decode cX3_letCome 7 = .ok (.iconst 0, 1) := by decide +kernel
theorem dX3_letCome_8 : decode cX3_letCome 8 = .ok (.istore_n 3, 1) := by decide +kernel
theorem dX3_letCome_9 : decode cX3_letCome 9 = .ok (.iload_n 3, 1) := by decide +kernel
theorem dX3_letCome_10 : decode cX3_letCome 10 = .ok (.aload_n 0, 1) := by decide +kernel
theorem dX3_letCome_11 : decode cX3_letCome 11 = .ok (.getfield 34, 3) := by decide +kernel
theorem dX3_letCome_14 : decode cX3_letCome 14 = .ok (.getfield 123, 3) := by decide +kernel
theorem dX3_letCome_17 : decode cX3_letCome 17 = .ok (.if_icmp .ge 113, 3) := by decide +kernel
theorem dX3_letCome_20 : decode cX3_letCome 20 = .ok (.aload_n 0, 1) := by decide +kernel
theorem dX3_letCome_21 : decode cX3_letCome 21 = .ok (.getfield 34, 3) := by decide +kernel
theorem dX3_letCome_24 : decode cX3_letCome 24 = .ok (.getfield 126, 3) := by decide +kernel
theorem dX3_letCome_27 : decode cX3_letCome 27 = .ok (.iload_n 3, 1) := by decide +kernel
theorem dX3_letCome_28 : decode cX3_letCome 28 = .ok (.iaload, 1) := by decide +kernel
theorem dX3_letCome_29 : decode cX3_letCome 29 = .ok (.istore 4, 2) := by decide +kernel
theorem dX3_letCome_31 : decode cX3_letCome 31 = .ok (.aload_n 0, 1) := by decide +kernel
theorem dX3_letCome_32 : decode cX3_letCome 32 = .ok (.getfield 34, 3) := by decide +kernel
theorem dX3_letCome_35 : decode cX3_letCome 35 = .ok (.getfield 129, 3) := by decide +kernel
theorem dX3_letCome_38 : decode cX3_letCome 38 = .ok (.iload_n 3, 1) := by decide +kernel
theorem dX3_letCome_39 : decode cX3_letCome 39 = .ok (.laload, 1) := by decide +kernel
theorem dX3_letCome_40 : decode cX3_letCome 40 = .ok (.lstore 5, 2) := by decide +kernel
theorem dX3_letCome_42 : decode cX3_letCome 42 = .ok (.iload 4, 2) := by decide +kernel
theorem dX3_letCome_44 : decode cX3_letCome 44 = .ok (.iload_n 1, 1) := by decide +kernel
theorem dX3_letCome_45 : decode cX3_letCome 45 = .ok (.invokestatic 132, 3) := by decide +kernel
theorem dX3_letCome_48 : decode cX3_letCome 48 = .ok (.ifCond .eq 7, 3) := by decide +kernel
theorem dX3_letCome_51 : decode cX3_letCome 51 = .ok (.iconst (-1), 1) := by decide +kernel
theorem dX3_letCome_52 : decode cX3_letCome 52 = .ok (.goto 14, 3) := by decide +kernel
theorem dX3_letCome_55 : decode cX3_letCome 55 = .ok (.aload_n 0, 1) := by decide +kernel
theorem dX3_letCome_56 : decode cX3_letCome 56 = .ok (.iload_n 1, 1) := by decide +kernel
theorem dX3_letCome_57 : decode cX3_letCome 57 = .ok (.iload 4, 2) := by decide +kernel
theorem dX3_letCome_59 : decode cX3_letCome 59 = .ok (.sipush 2047, 3) := by decide +kernel
theorem dX3_letCome_62 : decode cX3_letCome 62 = .ok (.iand, 1) := by decide +kernel
theorem dX3_letCome_63 : decode cX3_letCome 63 = .ok (.invokevirtual 136, 3) := by decide +kernel
theorem dX3_letCome_66 : decode cX3_letCome 66 = .ok (.istore 7, 2) := by decide +kernel
theorem dX3_letCome_68 : decode cX3_letCome 68 = .ok (.iload 7, 2) := by decide +kernel
theorem dX3_letCome_70 : decode cX3_letCome 70 = .ok (.iconst (-1), 1) := by decide +kernel
theorem dX3_letCome_71 : decode cX3_letCome 71 = .ok (.if_icmp .ne 17, 3) := by decide +kernel
theorem dX3_letCome_74 : decode cX3_letCome 74 = .ok (.aload_n 0, 1) := by decide +kernel
theorem dX3_letCome_75 : decode cX3_letCome 75 = .ok (.getfield 38, 3) := by decide +kernel
theorem dX3_letCome_78 : decode cX3_letCome 78 = .ok (.iload 4, 2) := by decide +kernel
theorem dX3_letCome_80 : decode cX3_letCome 80 = .ok (.lload 5, 2) := by decide +kernel
theorem dX3_letCome_82 : decode cX3_letCome 82 = .ok (.invokevirtual 119, 3) := by decide +kernel
theorem dX3_letCome_85 : decode cX3_letCome 85 = .ok (.goto 39, 3) := by decide +kernel
theorem dX3_letCome_88 : decode cX3_letCome 88 = .ok (.lload 5, 2) := by decide +kernel
theorem dX3_letCome_90 : decode cX3_letCome 90 = .ok (.iload_n 2, 1) := by decide +kernel
theorem dX3_letCome_91 : decode cX3_letCome 91 = .ok (.i2l, 1) := by decide +kernel
theorem dX3_letCome_92 : decode cX3_letCome 92 = .ok (.lmul, 1) := by decide +kernel
theorem dX3_letCome_93 : decode cX3_letCome 93 = .ok (.ldc2_w 139, 3) := by decide +kernel
theorem dX3_letCome_96 : decode cX3_letCome 96 = .ok (.ldiv, 1) := by decide +kernel
theorem dX3_letCome_97 : decode cX3_letCome 97 = .ok (.lstore 8, 2) := by decide +kernel
theorem dX3_letCome_99 : decode cX3_letCome 99 = .ok (.aload_n 0, 1) := by decide +kernel
theorem dX3_letCome_100 : decode cX3_letCome 100 = .ok (.getfield 38, 3) := by decide +kernel
theorem dX3_letCome_103 : decode cX3_letCome 103 = .ok (.iload 4, 2) := by decide +kernel
theorem dX3_letCome_105 : decode cX3_letCome 105 = .ok (.lload 5, 2) := by decide +kernel
theorem dX3_letCome_107 : decode cX3_letCome 107 = .ok (.lload 8, 2) := by decide +kernel
theorem dX3_letCome_109 : decode cX3_letCome 109 = .ok (.lsub, 1) := by decide +kernel
theorem dX3_letCome_110 : decode cX3_letCome 110 = .ok (.invokevirtual 119, 3) := by decide +kernel
theorem dX3_letCome_113 : decode cX3_letCome 113 = .ok (.aload_n 0, 1) := by decide +kernel
theorem dX3_letCome_114 : decode cX3_letCome 114 = .ok (.iload 4, 2) := by decide +kernel
theorem dX3_letCome_116 : decode cX3_letCome 116 = .ok (.iload_n 1, 1) := by decide +kernel
theorem dX3_letCome_117 : decode cX3_letCome 117 = .ok (.iload 7, 2) := by decide +kernel
theorem dX3_letCome_119 : decode cX3_letCome 119 = .ok (.lload 8, 2) := by decide +kernel
theorem dX3_letCome_121 : decode cX3_letCome 121 = .ok (.invokevirtual 141, 3) := by decide +kernel
theorem dX3_letCome_124 : decode cX3_letCome 124 = .ok (.iinc 3 1, 3) := by decide +kernel
theorem dX3_letCome_127 : decode cX3_letCome 127 = .ok (.goto (-118), 3) := by decide +kernel
theorem dX3_letCome_130 : decode cX3_letCome 130 = .ok (.aload_n 0, 1) := by decide +kernel
theorem dX3_letCome_131 : decode cX3_letCome 131 = .ok (.invokevirtual 145, 3) := by decide +kernel
theorem dX3_letCome_134 : decode cX3_letCome 134 = .ok (.return_, 1) := by decide +kernel
theorem dX3_letTake_0 : decode cX3_letTake 0 = .ok (.iload_n 1, 1) := by decide +kernel
theorem dX3_letTake_1 : decode cX3_letTake 1 = .ok (.iconst 1, 1) := by decide +kernel
theorem dX3_letTake_2 : decode cX3_letTake 2 = .ok (.iload_n 3, 1) := by decide +kernel
theorem dX3_letTake_3 : decode cX3_letTake 3 = .ok (.ishl, 1) := by decide +kernel
theorem dX3_letTake_4 : decode cX3_letTake 4 = .ok (.ior, 1) := by decide +kernel
theorem dX3_letTake_5 : decode cX3_letTake 5 = .ok (.istore 6, 2) := by decide +kernel
theorem dX3_letTake_7 : decode cX3_letTake 7 = .ok (.iload_n 3, 1) := by decide +kernel
theorem dX3_letTake_8 : decode cX3_letTake 8 = .ok (.aload_n 0, 1) := by decide +kernel
theorem dX3_letTake_9 : decode cX3_letTake 9 = .ok (.getfield 57, 3) := by decide +kernel
theorem dX3_letTake_12 : decode cX3_letTake 12 = .ok (.if_icmp .ne 50, 3) := by decide +kernel
theorem dX3_letTake_15 : decode cX3_letTake 15 = .ok (.lload 4, 2) := by decide +kernel
theorem dX3_letTake_17 : decode cX3_letTake 17 = .ok (.aload_n 0, 1) := by decide +kernel
theorem dX3_letTake_18 : decode cX3_letTake 18 = .ok (.getfield 148, 3) := by decide +kernel
theorem dX3_letTake_21 : decode cX3_letTake 21 = .ok (.i2l, 1) := by decide +kernel
theorem dX3_letTake_22 : decode cX3_letTake 22 = .ok (.lmul, 1) := by decide +kernel
theorem dX3_letTake_23 : decode cX3_letTake 23 = .ok (.ldc2_w 139, 3) := by decide +kernel
theorem dX3_letTake_26 : decode cX3_letTake 26 = .ok (.ldiv, 1) := by decide +kernel
theorem dX3_letTake_27 : decode cX3_letTake 27 = .ok (.lstore 7, 2) := by decide +kernel
theorem dX3_letTake_29 : decode cX3_letTake 29 = .ok (.aload_n 0, 1) := by decide +kernel
theorem dX3_letTake_30 : decode cX3_letTake 30 = .ok (.getfield 38, 3) := by decide +kernel
theorem dX3_letTake_33 : decode cX3_letTake 33 = .ok (.iload 6, 2) := by decide +kernel
theorem dX3_letTake_35 : decode cX3_letTake 35 = .ok (.iload_n 2, 1) := by decide +kernel
theorem dX3_letTake_36 : decode cX3_letTake 36 = .ok (.invokestatic 151, 3) := by decide +kernel
theorem dX3_letTake_39 : decode cX3_letTake 39 = .ok (.ior, 1) := by decide +kernel
theorem dX3_letTake_40 : decode cX3_letTake 40 = .ok (.lload 7, 2) := by decide +kernel
theorem dX3_letTake_42 : decode cX3_letTake 42 = .ok (.invokevirtual 119, 3) := by decide +kernel
theorem dX3_letTake_45 : decode cX3_letTake 45 = .ok (.aload_n 0, 1) := by decide +kernel
theorem dX3_letTake_46 : decode cX3_letTake 46 = .ok (.getfield 38, 3) := by decide +kernel
theorem dX3_letTake_49 : decode cX3_letTake 49 = .ok (.iload 6, 2) := by decide +kernel
theorem dX3_letTake_51 : decode cX3_letTake 51 = .ok (.lload 4, 2) := by decide +kernel
theorem dX3_letTake_53 : decode cX3_letTake 53 = .ok (.lload 7, 2) := by decide +kernel
theorem dX3_letTake_55 : decode cX3_letTake 55 = .ok (.lsub, 1) := by decide +kernel
theorem dX3_letTake_56 : decode cX3_letTake 56 = .ok (.invokevirtual 119, 3) := by decide +kernel
theorem dX3_letTake_59 : decode cX3_letTake 59 = .ok (.goto 30, 3) := by decide +kernel
theorem dX3_letTake_62 : decode cX3_letTake 62 = .ok (.aload_n 0, 1) := by decide +kernel
theorem dX3_letTake_63 : decode cX3_letTake 63 = .ok (.getfield 27, 3) := by decide +kernel
theorem dX3_letTake_66 : decode cX3_letTake 66 = .ok (.iload_n 2, 1) := by decide +kernel
theorem dX3_letTake_67 : decode cX3_letTake 67 = .ok (.bipush 10, 2) := by decide +kernel
theorem dX3_letTake_69 : decode cX3_letTake 69 = .ok (.imul, 1) := by decide +kernel
theorem dX3_letTake_70 : decode cX3_letTake 70 = .ok (.iload_n 3, 1) := by decide +kernel
theorem dX3_letTake_71 : decode cX3_letTake 71 = .ok (.iadd, 1) := by decide +kernel
theorem dX3_letTake_72 : decode cX3_letTake 72 = .ok (.dup2, 1) := by decide +kernel
theorem dX3_letTake_73 : decode cX3_letTake 73 = .ok (.laload, 1) := by decide +kernel
theorem dX3_letTake_74 : decode cX3_letTake 74 = .ok (.lload 4, 2) := by decide +kernel
theorem dX3_letTake_76 : decode cX3_letTake 76 = .ok (.ladd, 1) := by decide +kernel
theorem dX3_letTake_77 : decode cX3_letTake 77 = .ok (.lastore, 1) := by decide +kernel
theorem dX3_letTake_78 : decode cX3_letTake 78 = .ok (.aload_n 0, 1) := by decide +kernel
theorem dX3_letTake_79 : decode cX3_letTake 79 = .ok (.getfield 38, 3) := by decide +kernel
theorem dX3_letTake_82 : decode cX3_letTake 82 = .ok (.iload 6, 2) := by decide +kernel
theorem dX3_letTake_84 : decode cX3_letTake 84 = .ok (.lload 4, 2) := by decide +kernel
theorem dX3_letTake_86 : decode cX3_letTake 86 = .ok (.invokevirtual 119, 3) := by decide +kernel
theorem dX3_letTake_89 : decode cX3_letTake 89 = .ok (.return_, 1) := by decide +kernel
theorem dX3_turn_0 : decode cX3_turn 0 = .ok (.aload_n 0, 1) := by decide +kernel
theorem dX3_turn_1 : decode cX3_turn 1 = .ok (.getfield 34, 3) := by decide +kernel
theorem dX3_turn_4 : decode cX3_turn 4 = .ok (.astore_n 1, 1) := by decide +kernel
theorem dX3_turn_5 : decode cX3_turn 5 = .ok (.aload_n 0, 1) := by decide +kernel
theorem dX3_turn_6 : decode cX3_turn 6 = .ok (.aload_n 0, 1) := by decide +kernel
theorem dX3_turn_7 : decode cX3_turn 7 = .ok (.getfield 38, 3) := by decide +kernel
theorem dX3_turn_10 : decode cX3_turn 10 = .ok (.putfield 34, 3) := by decide +kernel
theorem dX3_turn_13 : decode cX3_turn 13 = .ok (.aload_n 0, 1) := by decide +kernel
theorem dX3_turn_14 : decode cX3_turn 14 = .ok (.aload_n 1, 1) := by decide +kernel
theorem dX3_turn_15 : decode cX3_turn 15 = .ok (.putfield 38, 3) := by decide +kernel
theorem dX3_turn_18 : decode cX3_turn 18 = .ok (.return_, 1) := by decide +kernel
theorem dX3_caughtBit_0 : decode cX3_caughtBit 0 = .ok (.iconst 1, 1) := by decide +kernel
theorem dX3_caughtBit_1 : decode cX3_caughtBit 1 = .ok (.bipush 11, 2) := by decide +kernel
theorem dX3_caughtBit_3 : decode cX3_caughtBit 3 = .ok (.iload_n 0, 1) := by decide +kernel
theorem dX3_caughtBit_4 : decode cX3_caughtBit 4 = .ok (.iadd, 1) := by decide +kernel
theorem dX3_caughtBit_5 : decode cX3_caughtBit 5 = .ok (.ishl, 1) := by decide +kernel
theorem dX3_caughtBit_6 : decode cX3_caughtBit 6 = .ok (.ireturn, 1) := by decide +kernel
theorem dX3_isCaught_0 : decode cX3_isCaught 0 = .ok (.iload_n 0, 1) := by decide +kernel
theorem dX3_isCaught_1 : decode cX3_isCaught 1 = .ok (.iload_n 1, 1) := by decide +kernel
theorem dX3_isCaught_2 : decode cX3_isCaught 2 = .ok (.invokestatic 151, 3) := by decide +kernel
theorem dX3_isCaught_5 : decode cX3_isCaught 5 = .ok (.iand, 1) := by decide +kernel
theorem dX3_isCaught_6 : decode cX3_isCaught 6 = .ok (.ifCond .eq 7, 3) := by decide +kernel
theorem dX3_isCaught_9 : decode cX3_isCaught 9 = .ok (.iconst 1, 1) := by decide +kernel
theorem dX3_isCaught_10 : decode cX3_isCaught 10 = .ok (.goto 4, 3) := by decide +kernel
theorem dX3_isCaught_13 : decode cX3_isCaught 13 = .ok (.iconst 0, 1) := by decide +kernel
theorem dX3_isCaught_14 : decode cX3_isCaught 14 = .ok (.ireturn, 1) := by decide +kernel
theorem dX3_playBaited_0 : decode cX3_playBaited 0 = .ok (.aload_n 0, 1) := by decide +kernel
theorem dX3_playBaited_1 : decode cX3_playBaited 1 = .ok (.aload_n 1, 1) := by decide +kernel
theorem dX3_playBaited_2 : decode cX3_playBaited 2 = .ok (.iload_n 2, 1) := by decide +kernel
theorem dX3_playBaited_3 : decode cX3_playBaited 3 = .ok (.invokevirtual 41, 3) := by decide +kernel
theorem dX3_playBaited_6 : decode cX3_playBaited 6 = .ok (.aload_n 0, 1) := by decide +kernel
theorem dX3_playBaited_7 : decode cX3_playBaited 7 = .ok (.iload_n 3, 1) := by decide +kernel
theorem dX3_playBaited_8 : decode cX3_playBaited 8 = .ok (.putfield 148, 3) := by decide +kernel
theorem dX3_playBaited_11 : decode cX3_playBaited 11 = .ok (.aload_n 0, 1) := by decide +kernel
theorem dX3_playBaited_12 : decode cX3_playBaited 12 = .ok (.invokevirtual 104, 3) := by decide +kernel
theorem dX3_playBaited_15 : decode cX3_playBaited 15 = .ok (.iconst 0, 1) := by decide +kernel
theorem dX3_playBaited_16 : decode cX3_playBaited 16 = .ok (.istore 4, 2) := by decide +kernel
theorem dX3_playBaited_18 : decode cX3_playBaited 18 = .ok (.iload 4, 2) := by decide +kernel
theorem dX3_playBaited_20 : decode cX3_playBaited 20 = .ok (.aload_n 1, 1) := by decide +kernel
theorem dX3_playBaited_21 : decode cX3_playBaited 21 = .ok (.getfield 154, 3) := by decide +kernel
theorem dX3_playBaited_24 : decode cX3_playBaited 24 = .ok (.if_icmp .ge 50, 3) := by decide +kernel
theorem dX3_playBaited_27 : decode cX3_playBaited 27 = .ok (.iconst 0, 1) := by decide +kernel
theorem dX3_playBaited_28 : decode cX3_playBaited 28 = .ok (.istore 5, 2) := by decide +kernel
theorem dX3_playBaited_30 : decode cX3_playBaited 30 = .ok (.iload 5, 2) := by decide +kernel
theorem dX3_playBaited_32 : decode cX3_playBaited 32 = .ok (.aload_n 1, 1) := by decide +kernel
theorem dX3_playBaited_33 : decode cX3_playBaited 33 = .ok (.getfield 75, 3) := by decide +kernel
theorem dX3_playBaited_36 : decode cX3_playBaited 36 = .ok (.getfield 79, 3) := by decide +kernel
theorem dX3_playBaited_39 : decode cX3_playBaited 39 = .ok (.if_icmp .ge 25, 3) := by decide +kernel
theorem dX3_playBaited_42 : decode cX3_playBaited 42 = .ok (.aload_n 0, 1) := by decide +kernel
theorem dX3_playBaited_43 : decode cX3_playBaited 43 = .ok (.iload 5, 2) := by decide +kernel
theorem dX3_playBaited_45 : decode cX3_playBaited 45 = .ok (.aload_n 1, 1) := by decide +kernel
theorem dX3_playBaited_46 : decode cX3_playBaited 46 = .ok (.getfield 75, 3) := by decide +kernel
theorem dX3_playBaited_49 : decode cX3_playBaited 49 = .ok (.getfield 107, 3) := by decide +kernel
theorem dX3_playBaited_52 : decode cX3_playBaited 52 = .ok (.iload 5, 2) := by decide +kernel
theorem dX3_playBaited_54 : decode cX3_playBaited 54 = .ok (.iaload, 1) := by decide +kernel
theorem dX3_playBaited_55 : decode cX3_playBaited 55 = .ok (.invokevirtual 110, 3) := by decide +kernel
theorem dX3_playBaited_58 : decode cX3_playBaited 58 = .ok (.iinc 5 1, 3) := by decide +kernel
theorem dX3_playBaited_61 : decode cX3_playBaited 61 = .ok (.goto (-31), 3) := by decide +kernel
theorem dX3_playBaited_64 : decode cX3_playBaited 64 = .ok (.aload_n 0, 1) := by decide +kernel
theorem dX3_playBaited_65 : decode cX3_playBaited 65 = .ok (.invokevirtual 157, 3) := by decide +kernel
theorem dX3_playBaited_68 : decode cX3_playBaited 68 = .ok (.iinc 4 1, 3) := by decide +kernel
theorem dX3_playBaited_71 : decode cX3_playBaited 71 = .ok (.goto (-53), 3) := by decide +kernel
theorem dX3_playBaited_74 : decode cX3_playBaited 74 = .ok (.return_, 1) := by decide +kernel
theorem dX3_bringBack_0 : decode cX3_bringBack 0 = .ok (.aload_n 0, 1) := by decide +kernel
theorem dX3_bringBack_1 : decode cX3_bringBack 1 = .ok (.getfield 38, 3) := by decide +kernel
theorem dX3_bringBack_4 : decode cX3_bringBack 4 = .ok (.invokevirtual 114, 3) := by decide +kernel
theorem dX3_bringBack_7 : decode cX3_bringBack 7 = .ok (.iconst 0, 1) := by decide +kernel
theorem dX3_bringBack_8 : decode cX3_bringBack 8 = .ok (.istore_n 1, 1) := by decide +kernel
theorem dX3_bringBack_9 : decode cX3_bringBack 9 = .ok (.iload_n 1, 1) := by decide +kernel
theorem dX3_bringBack_10 : decode cX3_bringBack 10 = .ok (.aload_n 0, 1) := by decide +kernel
theorem dX3_bringBack_11 : decode cX3_bringBack 11 = .ok (.getfield 34, 3) := by decide +kernel
theorem dX3_bringBack_14 : decode cX3_bringBack 14 = .ok (.getfield 123, 3) := by decide +kernel
theorem dX3_bringBack_17 : decode cX3_bringBack 17 = .ok (.if_icmp .ge 38, 3) := by decide +kernel
theorem dX3_bringBack_20 : decode cX3_bringBack 20 = .ok (.aload_n 0, 1) := by decide +kernel
theorem dX3_bringBack_21 : decode cX3_bringBack 21 = .ok (.getfield 38, 3) := by decide +kernel
theorem dX3_bringBack_24 : decode cX3_bringBack 24 = .ok (.aload_n 0, 1) := by decide +kernel
theorem dX3_bringBack_25 : decode cX3_bringBack 25 = .ok (.getfield 34, 3) := by decide +kernel
theorem dX3_bringBack_28 : decode cX3_bringBack 28 = .ok (.getfield 126, 3) := by decide +kernel
theorem dX3_bringBack_31 : decode cX3_bringBack 31 = .ok (.iload_n 1, 1) := by decide +kernel
theorem dX3_bringBack_32 : decode cX3_bringBack 32 = .ok (.iaload, 1) := by decide +kernel
theorem dX3_bringBack_33 : decode cX3_bringBack 33 = .ok (.sipush (-2048), 3) := by decide +kernel
theorem dX3_bringBack_36 : decode cX3_bringBack 36 = .ok (.iand, 1) := by decide +kernel
theorem dX3_bringBack_37 : decode cX3_bringBack 37 = .ok (.aload_n 0, 1) := by decide +kernel
theorem dX3_bringBack_38 : decode cX3_bringBack 38 = .ok (.getfield 34, 3) := by decide +kernel
theorem dX3_bringBack_41 : decode cX3_bringBack 41 = .ok (.getfield 129, 3) := by decide +kernel
theorem dX3_bringBack_44 : decode cX3_bringBack 44 = .ok (.iload_n 1, 1) := by decide +kernel
theorem dX3_bringBack_45 : decode cX3_bringBack 45 = .ok (.laload, 1) := by decide +kernel
theorem dX3_bringBack_46 : decode cX3_bringBack 46 = .ok (.invokevirtual 119, 3) := by decide +kernel
theorem dX3_bringBack_49 : decode cX3_bringBack 49 = .ok (.iinc 1 1, 3) := by decide +kernel
theorem dX3_bringBack_52 : decode cX3_bringBack 52 = .ok (.goto (-43), 3) := by decide +kernel
theorem dX3_bringBack_55 : decode cX3_bringBack 55 = .ok (.aload_n 0, 1) := by decide +kernel
theorem dX3_bringBack_56 : decode cX3_bringBack 56 = .ok (.invokevirtual 145, 3) := by decide +kernel
theorem dX3_bringBack_59 : decode cX3_bringBack 59 = .ok (.return_, 1) := by decide +kernel
theorem dX3_partsOf_0 : decode cX3_partsOf 0 = .ok (.lconst 0, 1) := by decide +kernel
theorem dX3_partsOf_1 : decode cX3_partsOf 1 = .ok (.lstore_n 2, 1) := by decide +kernel
theorem dX3_partsOf_2 : decode cX3_partsOf 2 = .ok (.iconst 0, 1) := by decide +kernel
theorem dX3_partsOf_3 : decode cX3_partsOf 3 = .ok (.istore 4, 2) := by decide +kernel
theorem dX3_partsOf_5 : decode cX3_partsOf 5 = .ok (.iload 4, 2) := by decide +kernel
theorem dX3_partsOf_7 : decode cX3_partsOf 7 = .ok (.aload_n 0, 1) := by decide +kernel
theorem dX3_partsOf_8 : decode cX3_partsOf 8 = .ok (.getfield 34, 3) := by decide +kernel
theorem dX3_partsOf_11 : decode cX3_partsOf 11 = .ok (.getfield 123, 3) := by decide +kernel
theorem dX3_partsOf_14 : decode cX3_partsOf 14 = .ok (.if_icmp .ge 36, 3) := by decide +kernel
theorem dX3_partsOf_17 : decode cX3_partsOf 17 = .ok (.aload_n 0, 1) := by decide +kernel
theorem dX3_partsOf_18 : decode cX3_partsOf 18 = .ok (.getfield 34, 3) := by decide +kernel
theorem dX3_partsOf_21 : decode cX3_partsOf 21 = .ok (.getfield 126, 3) := by decide +kernel
theorem dX3_partsOf_24 : decode cX3_partsOf 24 = .ok (.iload 4, 2) := by decide +kernel
theorem dX3_partsOf_26 : decode cX3_partsOf 26 = .ok (.iaload, 1) := by decide +kernel
theorem dX3_partsOf_27 : decode cX3_partsOf 27 = .ok (.iload_n 1, 1) := by decide +kernel
theorem dX3_partsOf_28 : decode cX3_partsOf 28 = .ok (.if_icmp .ne 16, 3) := by decide +kernel
theorem dX3_partsOf_31 : decode cX3_partsOf 31 = .ok (.lload_n 2, 1) := by decide +kernel
theorem dX3_partsOf_32 : decode cX3_partsOf 32 = .ok (.aload_n 0, 1) := by decide +kernel
theorem dX3_partsOf_33 : decode cX3_partsOf 33 = .ok (.getfield 34, 3) := by decide +kernel
theorem dX3_partsOf_36 : decode cX3_partsOf 36 = .ok (.getfield 129, 3) := by decide +kernel
theorem dX3_partsOf_39 : decode cX3_partsOf 39 = .ok (.iload 4, 2) := by decide +kernel
theorem dX3_partsOf_41 : decode cX3_partsOf 41 = .ok (.laload, 1) := by decide +kernel
theorem dX3_partsOf_42 : decode cX3_partsOf 42 = .ok (.ladd, 1) := by decide +kernel
theorem dX3_partsOf_43 : decode cX3_partsOf 43 = .ok (.lstore_n 2, 1) := by decide +kernel
theorem dX3_partsOf_44 : decode cX3_partsOf 44 = .ok (.iinc 4 1, 3) := by decide +kernel
theorem dX3_partsOf_47 : decode cX3_partsOf 47 = .ok (.goto (-42), 3) := by decide +kernel
theorem dX3_partsOf_50 : decode cX3_partsOf 50 = .ok (.lload_n 2, 1) := by decide +kernel
theorem dX3_partsOf_51 : decode cX3_partsOf 51 = .ok (.lreturn, 1) := by decide +kernel
theorem dX3_partsOfMany_0 : decode cX3_partsOfMany 0 = .ok (.lconst 0, 1) := by decide +kernel
theorem dX3_partsOfMany_1 : decode cX3_partsOfMany 1 = .ok (.lstore_n 2, 1) := by decide +kernel
theorem dX3_partsOfMany_2 : decode cX3_partsOfMany 2 = .ok (.iconst 0, 1) := by decide +kernel
theorem dX3_partsOfMany_3 : decode cX3_partsOfMany 3 = .ok (.istore 4, 2) := by decide +kernel
theorem dX3_partsOfMany_5 : decode cX3_partsOfMany 5 = .ok (.iload 4, 2) := by decide +kernel
theorem dX3_partsOfMany_7 : decode cX3_partsOfMany 7 = .ok (.aload_n 0, 1) := by decide +kernel
theorem dX3_partsOfMany_8 : decode cX3_partsOfMany 8 = .ok (.getfield 34, 3) := by decide +kernel
theorem dX3_partsOfMany_11 : decode cX3_partsOfMany 11 = .ok (.getfield 123, 3) := by decide +kernel
theorem dX3_partsOfMany_14 : decode cX3_partsOfMany 14 = .ok (.if_icmp .ge 43, 3) := by decide +kernel
theorem dX3_partsOfMany_17 : decode cX3_partsOfMany 17 = .ok (.aload_n 0, 1) := by decide +kernel
theorem dX3_partsOfMany_18 : decode cX3_partsOfMany 18 = .ok (.getfield 34, 3) := by decide +kernel
theorem dX3_partsOfMany_21 : decode cX3_partsOfMany 21 = .ok (.getfield 126, 3) := by decide +kernel
theorem dX3_partsOfMany_24 : decode cX3_partsOfMany 24 = .ok (.iload 4, 2) := by decide +kernel
theorem dX3_partsOfMany_26 : decode cX3_partsOfMany 26 = .ok (.iaload, 1) := by decide +kernel
theorem dX3_partsOfMany_27 : decode cX3_partsOfMany 27 = .ok (.sipush 2047, 3) := by decide +kernel
theorem dX3_partsOfMany_30 : decode cX3_partsOfMany 30 = .ok (.iand, 1) := by decide +kernel
theorem dX3_partsOfMany_31 : decode cX3_partsOfMany 31 = .ok (.invokestatic 160, 3) := by decide +kernel
theorem dX3_partsOfMany_34 : decode cX3_partsOfMany 34 = .ok (.iload_n 1, 1) := by decide +kernel
theorem dX3_partsOfMany_35 : decode cX3_partsOfMany 35 = .ok (.if_icmp .ne 16, 3) := by decide +kernel
theorem dX3_partsOfMany_38 : decode cX3_partsOfMany 38 = .ok (.lload_n 2, 1) := by decide +kernel
theorem dX3_partsOfMany_39 : decode cX3_partsOfMany 39 = .ok (.aload_n 0, 1) := by decide +kernel
theorem dX3_partsOfMany_40 : decode cX3_partsOfMany 40 = .ok (.getfield 34, 3) := by decide +kernel
theorem dX3_partsOfMany_43 : decode cX3_partsOfMany 43 = .ok (.getfield 129, 3) := by decide +kernel
theorem dX3_partsOfMany_46 : decode cX3_partsOfMany 46 = .ok (.iload 4, 2) := by decide +kernel
theorem dX3_partsOfMany_48 : decode cX3_partsOfMany 48 = .ok (.laload, 1) := by decide +kernel
theorem dX3_partsOfMany_49 : decode cX3_partsOfMany 49 = .ok (.ladd, 1) := by decide +kernel
theorem dX3_partsOfMany_50 : decode cX3_partsOfMany 50 = .ok (.lstore_n 2, 1) := by decide +kernel
theorem dX3_partsOfMany_51 : decode cX3_partsOfMany 51 = .ok (.iinc 4 1, 3) := by decide +kernel
theorem dX3_partsOfMany_54 : decode cX3_partsOfMany 54 = .ok (.goto (-49), 3) := by decide +kernel
theorem dX3_partsOfMany_57 : decode cX3_partsOfMany 57 = .ok (.lload_n 2, 1) := by decide +kernel
theorem dX3_partsOfMany_58 : decode cX3_partsOfMany 58 = .ok (.lreturn, 1) := by decide +kernel
theorem dX3_partsCaught_0 : decode cX3_partsCaught 0 = .ok (.lconst 0, 1) := by decide +kernel
theorem dX3_partsCaught_1 : decode cX3_partsCaught 1 = .ok (.lstore_n 2, 1) := by decide +kernel
theorem dX3_partsCaught_2 : decode cX3_partsCaught 2 = .ok (.iconst 0, 1) := by decide +kernel
theorem dX3_partsCaught_3 : decode cX3_partsCaught 3 = .ok (.istore 4, 2) := by decide +kernel
theorem dX3_partsCaught_5 : decode cX3_partsCaught 5 = .ok (.iload 4, 2) := by decide +kernel
theorem dX3_partsCaught_7 : decode cX3_partsCaught 7 = .ok (.aload_n 0, 1) := by decide +kernel
theorem dX3_partsCaught_8 : decode cX3_partsCaught 8 = .ok (.getfield 34, 3) := by decide +kernel
theorem dX3_partsCaught_11 : decode cX3_partsCaught 11 = .ok (.getfield 123, 3) := by decide +kernel
theorem dX3_partsCaught_14 : decode cX3_partsCaught 14 = .ok (.if_icmp .ge 39, 3) := by decide +kernel
theorem dX3_partsCaught_17 : decode cX3_partsCaught 17 = .ok (.aload_n 0, 1) := by decide +kernel
theorem dX3_partsCaught_18 : decode cX3_partsCaught 18 = .ok (.getfield 34, 3) := by decide +kernel
theorem dX3_partsCaught_21 : decode cX3_partsCaught 21 = .ok (.getfield 126, 3) := by decide +kernel
theorem dX3_partsCaught_24 : decode cX3_partsCaught 24 = .ok (.iload 4, 2) := by decide +kernel
theorem dX3_partsCaught_26 : decode cX3_partsCaught 26 = .ok (.iaload, 1) := by decide +kernel
theorem dX3_partsCaught_27 : decode cX3_partsCaught 27 = .ok (.iload_n 1, 1) := by decide +kernel
theorem dX3_partsCaught_28 : decode cX3_partsCaught 28 = .ok (.invokestatic 132, 3) := by decide +kernel
theorem dX3_partsCaught_31 : decode cX3_partsCaught 31 = .ok (.ifCond .eq 16, 3) := by decide +kernel
theorem dX3_partsCaught_34 : decode cX3_partsCaught 34 = .ok (.lload_n 2, 1) := by decide +kernel
theorem dX3_partsCaught_35 : decode cX3_partsCaught 35 = .ok (.aload_n 0, 1) := by decide +kernel
theorem dX3_partsCaught_36 : decode cX3_partsCaught 36 = .ok (.getfield 34, 3) := by decide +kernel
theorem dX3_partsCaught_39 : decode cX3_partsCaught 39 = .ok (.getfield 129, 3) := by decide +kernel
theorem dX3_partsCaught_42 : decode cX3_partsCaught 42 = .ok (.iload 4, 2) := by decide +kernel
theorem dX3_partsCaught_44 : decode cX3_partsCaught 44 = .ok (.laload, 1) := by decide +kernel
theorem dX3_partsCaught_45 : decode cX3_partsCaught 45 = .ok (.ladd, 1) := by decide +kernel
theorem dX3_partsCaught_46 : decode cX3_partsCaught 46 = .ok (.lstore_n 2, 1) := by decide +kernel
theorem dX3_partsCaught_47 : decode cX3_partsCaught 47 = .ok (.iinc 4 1, 3) := by decide +kernel
theorem dX3_partsCaught_50 : decode cX3_partsCaught 50 = .ok (.goto (-45), 3) := by decide +kernel
theorem dX3_partsCaught_53 : decode cX3_partsCaught 53 = .ok (.lload_n 2, 1) := by decide +kernel
theorem dX3_partsCaught_54 : decode cX3_partsCaught 54 = .ok (.lreturn, 1) := by decide +kernel
theorem dX3_hadBy_0 : decode cX3_hadBy 0 = .ok (.aload_n 0, 1) := by decide +kernel
theorem dX3_hadBy_1 : decode cX3_hadBy 1 = .ok (.getfield 27, 3) := by decide +kernel
theorem dX3_hadBy_4 : decode cX3_hadBy 4 = .ok (.iload_n 1, 1) := by decide +kernel
theorem dX3_hadBy_5 : decode cX3_hadBy 5 = .ok (.bipush 10, 2) := by decide +kernel
theorem dX3_hadBy_7 : decode cX3_hadBy 7 = .ok (.imul, 1) := by decide +kernel
theorem dX3_hadBy_8 : decode cX3_hadBy 8 = .ok (.iload_n 2, 1) := by decide +kernel
theorem dX3_hadBy_9 : decode cX3_hadBy 9 = .ok (.iadd, 1) := by decide +kernel
theorem dX3_hadBy_10 : decode cX3_hadBy 10 = .ok (.laload, 1) := by decide +kernel
theorem dX3_hadBy_11 : decode cX3_hadBy 11 = .ok (.lreturn, 1) := by decide +kernel
theorem dX3_riskOf_0 : decode cX3_riskOf 0 = .ok (.lconst 0, 1) := by decide +kernel
theorem dX3_riskOf_1 : decode cX3_riskOf 1 = .ok (.lstore_n 2, 1) := by decide +kernel
theorem dX3_riskOf_2 : decode cX3_riskOf 2 = .ok (.iconst 0, 1) := by decide +kernel
theorem dX3_riskOf_3 : decode cX3_riskOf 3 = .ok (.istore 4, 2) := by decide +kernel
theorem dX3_riskOf_5 : decode cX3_riskOf 5 = .ok (.iload 4, 2) := by decide +kernel
theorem dX3_riskOf_7 : decode cX3_riskOf 7 = .ok (.bipush 6, 2) := by decide +kernel
theorem dX3_riskOf_9 : decode cX3_riskOf 9 = .ok (.if_icmp .ge 19, 3) := by decide +kernel
theorem dX3_riskOf_12 : decode cX3_riskOf 12 = .ok (.lload_n 2, 1) := by decide +kernel
theorem dX3_riskOf_13 : decode cX3_riskOf 13 = .ok (.aload_n 0, 1) := by decide +kernel
theorem dX3_riskOf_14 : decode cX3_riskOf 14 = .ok (.iload 4, 2) := by decide +kernel
theorem dX3_riskOf_16 : decode cX3_riskOf 16 = .ok (.iload_n 1, 1) := by decide +kernel
theorem dX3_riskOf_17 : decode cX3_riskOf 17 = .ok (.invokevirtual 165, 3) := by decide +kernel
theorem dX3_riskOf_20 : decode cX3_riskOf 20 = .ok (.ladd, 1) := by decide +kernel
theorem dX3_riskOf_21 : decode cX3_riskOf 21 = .ok (.lstore_n 2, 1) := by decide +kernel
theorem dX3_riskOf_22 : decode cX3_riskOf 22 = .ok (.iinc 4 1, 3) := by decide +kernel
theorem dX3_riskOf_25 : decode cX3_riskOf 25 = .ok (.goto (-20), 3) := by decide +kernel
theorem dX3_riskOf_28 : decode cX3_riskOf 28 = .ok (.lload_n 2, 1) := by decide +kernel
theorem dX3_riskOf_29 : decode cX3_riskOf 29 = .ok (.lreturn, 1) := by decide +kernel
theorem dX3_costOf_0 : decode cX3_costOf 0 = .ok (.aload_n 1, 1) := by decide +kernel
theorem dX3_costOf_1 : decode cX3_costOf 1 = .ok (.iload_n 2, 1) := by decide +kernel
theorem dX3_costOf_2 : decode cX3_costOf 2 = .ok (.invokevirtual 169, 3) := by decide +kernel
theorem dX3_costOf_5 : decode cX3_costOf 5 = .ok (.lstore 4, 2) := by decide +kernel
theorem dX3_costOf_7 : decode cX3_costOf 7 = .ok (.aload_n 1, 1) := by decide +kernel
theorem dX3_costOf_8 : decode cX3_costOf 8 = .ok (.getfield 154, 3) := by decide +kernel
theorem dX3_costOf_11 : decode cX3_costOf 11 = .ok (.i2l, 1) := by decide +kernel
theorem dX3_costOf_12 : decode cX3_costOf 12 = .ok (.aload_n 1, 1) := by decide +kernel
theorem dX3_costOf_13 : decode cX3_costOf 13 = .ok (.getfield 45, 3) := by decide +kernel
theorem dX3_costOf_16 : decode cX3_costOf 16 = .ok (.getfield 173, 3) := by decide +kernel
theorem dX3_costOf_19 : decode cX3_costOf 19 = .ok (.iload_n 2, 1) := by decide +kernel
theorem dX3_costOf_20 : decode cX3_costOf 20 = .ok (.iaload, 1) := by decide +kernel
theorem dX3_costOf_21 : decode cX3_costOf 21 = .ok (.i2l, 1) := by decide +kernel
theorem dX3_costOf_22 : decode cX3_costOf 22 = .ok (.lmul, 1) := by decide +kernel
theorem dX3_costOf_23 : decode cX3_costOf 23 = .ok (.aload_n 0, 1) := by decide +kernel
theorem dX3_costOf_24 : decode cX3_costOf 24 = .ok (.iload_n 2, 1) := by decide +kernel
theorem dX3_costOf_25 : decode cX3_costOf 25 = .ok (.invokevirtual 176, 3) := by decide +kernel
theorem dX3_costOf_28 : decode cX3_costOf 28 = .ok (.lmul, 1) := by decide +kernel
theorem dX3_costOf_29 : decode cX3_costOf 29 = .ok (.ldc2_w 179, 3) := by decide +kernel
theorem dX3_costOf_32 : decode cX3_costOf 32 = .ok (.ldiv, 1) := by decide +kernel
theorem dX3_costOf_33 : decode cX3_costOf 33 = .ok (.lstore 6, 2) := by decide +kernel
theorem dX3_costOf_35 : decode cX3_costOf 35 = .ok (.iload_n 3, 1) := by decide +kernel
theorem dX3_costOf_36 : decode cX3_costOf 36 = .ok (.lookupswitch 34 #[(0, 28), (1, 31)], 28) := by decide +kernel
theorem dX3_costOf_64 : decode cX3_costOf 64 = .ok (.lload 4, 2) := by decide +kernel
theorem dX3_costOf_66 : decode cX3_costOf 66 = .ok (.lreturn, 1) := by decide +kernel
theorem dX3_costOf_67 : decode cX3_costOf 67 = .ok (.lload 6, 2) := by decide +kernel
theorem dX3_costOf_69 : decode cX3_costOf 69 = .ok (.lreturn, 1) := by decide +kernel
theorem dX3_costOf_70 : decode cX3_costOf 70 = .ok (.lload 4, 2) := by decide +kernel
theorem dX3_costOf_72 : decode cX3_costOf 72 = .ok (.lload 6, 2) := by decide +kernel
theorem dX3_costOf_74 : decode cX3_costOf 74 = .ok (.ladd, 1) := by decide +kernel
theorem dX3_costOf_75 : decode cX3_costOf 75 = .ok (.aload_n 1, 1) := by decide +kernel
theorem dX3_costOf_76 : decode cX3_costOf 76 = .ok (.invokevirtual 181, 3) := by decide +kernel
theorem dX3_costOf_79 : decode cX3_costOf 79 = .ok (.ladd, 1) := by decide +kernel
theorem dX3_costOf_80 : decode cX3_costOf 80 = .ok (.lreturn, 1) := by decide +kernel
theorem dX3_costOfAll_0 : decode cX3_costOfAll 0 = .ok (.lconst 0, 1) := by decide +kernel
theorem dX3_costOfAll_1 : decode cX3_costOfAll 1 = .ok (.lstore_n 3, 1) := by decide +kernel
theorem dX3_costOfAll_2 : decode cX3_costOfAll 2 = .ok (.iconst 0, 1) := by decide +kernel
theorem dX3_costOfAll_3 : decode cX3_costOfAll 3 = .ok (.istore 5, 2) := by decide +kernel
theorem dX3_costOfAll_5 : decode cX3_costOfAll 5 = .ok (.iload 5, 2) := by decide +kernel
theorem dX3_costOfAll_7 : decode cX3_costOfAll 7 = .ok (.aload_n 1, 1) := by decide +kernel
theorem dX3_costOfAll_8 : decode cX3_costOfAll 8 = .ok (.getfield 45, 3) := by decide +kernel
theorem dX3_costOfAll_11 : decode cX3_costOfAll 11 = .ok (.getfield 51, 3) := by decide +kernel
theorem dX3_costOfAll_14 : decode cX3_costOfAll 14 = .ok (.if_icmp .ge 20, 3) := by decide +kernel
theorem dX3_costOfAll_17 : decode cX3_costOfAll 17 = .ok (.lload_n 3, 1) := by decide +kernel
theorem dX3_costOfAll_18 : decode cX3_costOfAll 18 = .ok (.aload_n 0, 1) := by decide +kernel
theorem dX3_costOfAll_19 : decode cX3_costOfAll 19 = .ok (.aload_n 1, 1) := by decide +kernel
theorem dX3_costOfAll_20 : decode cX3_costOfAll 20 = .ok (.iload 5, 2) := by decide +kernel
theorem dX3_costOfAll_22 : decode cX3_costOfAll 22 = .ok (.iload_n 2, 1) := by decide +kernel
theorem dX3_costOfAll_23 : decode cX3_costOfAll 23 = .ok (.invokevirtual 185, 3) := by decide +kernel
theorem dX3_costOfAll_26 : decode cX3_costOfAll 26 = .ok (.ladd, 1) := by decide +kernel
theorem dX3_costOfAll_27 : decode cX3_costOfAll 27 = .ok (.lstore_n 3, 1) := by decide +kernel
theorem dX3_costOfAll_28 : decode cX3_costOfAll 28 = .ok (.iinc 5 1, 3) := by decide +kernel
theorem dX3_costOfAll_31 : decode cX3_costOfAll 31 = .ok (.goto (-26), 3) := by decide +kernel
theorem dX3_costOfAll_34 : decode cX3_costOfAll 34 = .ok (.lload_n 3, 1) := by decide +kernel
theorem dX3_costOfAll_35 : decode cX3_costOfAll 35 = .ok (.lreturn, 1) := by decide +kernel
theorem dX3_baitedLoss_0 : decode cX3_baitedLoss 0 = .ok (.lconst 0, 1) := by decide +kernel
theorem dX3_baitedLoss_1 : decode cX3_baitedLoss 1 = .ok (.lstore_n 2, 1) := by decide +kernel
theorem dX3_baitedLoss_2 : decode cX3_baitedLoss 2 = .ok (.iconst 0, 1) := by decide +kernel
theorem dX3_baitedLoss_3 : decode cX3_baitedLoss 3 = .ok (.istore 4, 2) := by decide +kernel
theorem dX3_baitedLoss_5 : decode cX3_baitedLoss 5 = .ok (.iload 4, 2) := by decide +kernel
theorem dX3_baitedLoss_7 : decode cX3_baitedLoss 7 = .ok (.aload_n 1, 1) := by decide +kernel
theorem dX3_baitedLoss_8 : decode cX3_baitedLoss 8 = .ok (.getfield 45, 3) := by decide +kernel
theorem dX3_baitedLoss_11 : decode cX3_baitedLoss 11 = .ok (.getfield 51, 3) := by decide +kernel
theorem dX3_baitedLoss_14 : decode cX3_baitedLoss 14 = .ok (.if_icmp .ge 30, 3) := by decide +kernel
theorem dX3_baitedLoss_17 : decode cX3_baitedLoss 17 = .ok (.lload_n 2, 1) := by decide +kernel
theorem dX3_baitedLoss_18 : decode cX3_baitedLoss 18 = .ok (.aload_n 1, 1) := by decide +kernel
theorem dX3_baitedLoss_19 : decode cX3_baitedLoss 19 = .ok (.getfield 45, 3) := by decide +kernel
theorem dX3_baitedLoss_22 : decode cX3_baitedLoss 22 = .ok (.getfield 173, 3) := by decide +kernel
theorem dX3_baitedLoss_25 : decode cX3_baitedLoss 25 = .ok (.iload 4, 2) := by decide +kernel
theorem dX3_baitedLoss_27 : decode cX3_baitedLoss 27 = .ok (.iaload, 1) := by decide +kernel
theorem dX3_baitedLoss_28 : decode cX3_baitedLoss 28 = .ok (.i2l, 1) := by decide +kernel
theorem dX3_baitedLoss_29 : decode cX3_baitedLoss 29 = .ok (.aload_n 0, 1) := by decide +kernel
theorem dX3_baitedLoss_30 : decode cX3_baitedLoss 30 = .ok (.iload 4, 2) := by decide +kernel
theorem dX3_baitedLoss_32 : decode cX3_baitedLoss 32 = .ok (.invokevirtual 176, 3) := by decide +kernel
theorem dX3_baitedLoss_35 : decode cX3_baitedLoss 35 = .ok (.lmul, 1) := by decide +kernel
theorem dX3_baitedLoss_36 : decode cX3_baitedLoss 36 = .ok (.ladd, 1) := by decide +kernel
theorem dX3_baitedLoss_37 : decode cX3_baitedLoss 37 = .ok (.lstore_n 2, 1) := by decide +kernel
theorem dX3_baitedLoss_38 : decode cX3_baitedLoss 38 = .ok (.iinc 4 1, 3) := by decide +kernel
theorem dX3_baitedLoss_41 : decode cX3_baitedLoss 41 = .ok (.goto (-36), 3) := by decide +kernel
theorem dX3_baitedLoss_44 : decode cX3_baitedLoss 44 = .ok (.lload_n 2, 1) := by decide +kernel
theorem dX3_baitedLoss_45 : decode cX3_baitedLoss 45 = .ok (.ldc2_w 179, 3) := by decide +kernel
theorem dX3_baitedLoss_48 : decode cX3_baitedLoss 48 = .ok (.ldiv, 1) := by decide +kernel
theorem dX3_baitedLoss_49 : decode cX3_baitedLoss 49 = .ok (.lreturn, 1) := by decide +kernel
theorem dX3_leastLure_0 : decode cX3_leastLure 0 = .ok (.aload_n 0, 1) := by decide +kernel
theorem dX3_leastLure_1 : decode cX3_leastLure 1 = .ok (.iload_n 2, 1) := by decide +kernel
theorem dX3_leastLure_2 : decode cX3_leastLure 2 = .ok (.iconst 0, 1) := by decide +kernel
theorem dX3_leastLure_3 : decode cX3_leastLure 3 = .ok (.invokevirtual 136, 3) := by decide +kernel
theorem dX3_leastLure_6 : decode cX3_leastLure 6 = .ok (.istore_n 3, 1) := by decide +kernel
theorem dX3_leastLure_7 : decode cX3_leastLure 7 = .ok (.aload_n 1, 1) := by decide +kernel
theorem dX3_leastLure_8 : decode cX3_leastLure 8 = .ok (.getfield 75, 3) := by decide +kernel
theorem dX3_leastLure_11 : decode cX3_leastLure 11 = .ok (.getfield 86, 3) := by decide +kernel
theorem dX3_leastLure_14 : decode cX3_leastLure 14 = .ok (.iload_n 2, 1) := by decide +kernel
theorem dX3_leastLure_15 : decode cX3_leastLure 15 = .ok (.iaload, 1) := by decide +kernel
theorem dX3_leastLure_16 : decode cX3_leastLure 16 = .ok (.istore 4, 2) := by decide +kernel
theorem dX3_leastLure_18 : decode cX3_leastLure 18 = .ok (.iload 4, 2) := by decide +kernel
theorem dX3_leastLure_20 : decode cX3_leastLure 20 = .ok (.iconst 2, 1) := by decide +kernel
theorem dX3_leastLure_21 : decode cX3_leastLure 21 = .ok (.if_icmp .ne 7, 3) := by decide +kernel
theorem dX3_leastLure_24 : decode cX3_leastLure 24 = .ok (.sipush 10000, 3) := by decide +kernel
theorem dX3_leastLure_27 : decode cX3_leastLure 27 = .ok (.ireturn, 1) := by decide +kernel
theorem dX3_leastLure_28 : decode cX3_leastLure 28 = .ok (.iload_n 3, 1) := by decide +kernel
theorem dX3_leastLure_29 : decode cX3_leastLure 29 = .ok (.iconst (-1), 1) := by decide +kernel
theorem dX3_leastLure_30 : decode cX3_leastLure 30 = .ok (.if_icmp .ne 5, 3) := by decide +kernel
theorem dX3_leastLure_33 : decode cX3_leastLure 33 = .ok (.iconst 1, 1) := by decide +kernel
theorem dX3_leastLure_34 : decode cX3_leastLure 34 = .ok (.ireturn, 1) := by decide +kernel
theorem dX3_leastLure_35 : decode cX3_leastLure 35 = .ok (.iload 4, 2) := by decide +kernel
theorem dX3_leastLure_37 : decode cX3_leastLure 37 = .ok (.ifCond .ne 13, 3) := by decide +kernel
theorem dX3_leastLure_40 : decode cX3_leastLure 40 = .ok (.aload_n 0, 1) := by decide +kernel
theorem dX3_leastLure_41 : decode cX3_leastLure 41 = .ok (.aload_n 1, 1) := by decide +kernel
theorem dX3_leastLure_42 : decode cX3_leastLure 42 = .ok (.iload_n 2, 1) := by decide +kernel
theorem dX3_leastLure_43 : decode cX3_leastLure 43 = .ok (.iload_n 3, 1) := by decide +kernel
theorem dX3_leastLure_44 : decode cX3_leastLure 44 = .ok (.invokevirtual 100, 3) := by decide +kernel
theorem dX3_leastLure_47 : decode cX3_leastLure 47 = .ok (.iconst 1, 1) := by decide +kernel
theorem dX3_leastLure_48 : decode cX3_leastLure 48 = .ok (.iadd, 1) := by decide +kernel
theorem dX3_leastLure_49 : decode cX3_leastLure 49 = .ok (.ireturn, 1) := by decide +kernel
theorem dX3_leastLure_50 : decode cX3_leastLure 50 = .ok (.aload_n 1, 1) := by decide +kernel
theorem dX3_leastLure_51 : decode cX3_leastLure 51 = .ok (.iload_n 2, 1) := by decide +kernel
theorem dX3_leastLure_52 : decode cX3_leastLure 52 = .ok (.iload_n 3, 1) := by decide +kernel
theorem dX3_leastLure_53 : decode cX3_leastLure 53 = .ok (.aload_n 0, 1) := by decide +kernel
theorem dX3_leastLure_54 : decode cX3_leastLure 54 = .ok (.getfield 11, 3) := by decide +kernel
theorem dX3_leastLure_57 : decode cX3_leastLure 57 = .ok (.iload_n 3, 1) := by decide +kernel
theorem dX3_leastLure_58 : decode cX3_leastLure 58 = .ok (.iaload, 1) := by decide +kernel
theorem dX3_leastLure_59 : decode cX3_leastLure 59 = .ok (.invokevirtual 89, 3) := by decide +kernel
theorem dX3_leastLure_62 : decode cX3_leastLure 62 = .ok (.ifCond .ne 9, 3) := by decide +kernel
theorem dX3_leastLure_65 : decode cX3_leastLure 65 = .ok (.sipush 10000, 3) := by decide +kernel
theorem dX3_leastLure_68 : decode cX3_leastLure 68 = .ok (.goto 4, 3) := by decide +kernel
theorem dX3_leastLure_71 : decode cX3_leastLure 71 = .ok (.iconst 1, 1) := by decide +kernel
theorem dX3_leastLure_72 : decode cX3_leastLure 72 = .ok (.ireturn, 1) := by decide +kernel
theorem dX3_drawYear_0 : decode cX3_drawYear 0 = .ok (.aload_n 3, 1) := by decide +kernel
theorem dX3_drawYear_1 : decode cX3_drawYear 1 = .ok (.invokevirtual 189, 3) := by decide +kernel
theorem dX3_drawYear_4 : decode cX3_drawYear 4 = .ok (.iload_n 2, 1) := by decide +kernel
theorem dX3_drawYear_5 : decode cX3_drawYear 5 = .ok (.i2l, 1) := by decide +kernel
theorem dX3_drawYear_6 : decode cX3_drawYear 6 = .ok (.lstore 4, 2) := by decide +kernel
theorem dX3_drawYear_8 : decode cX3_drawYear 8 = .ok (.iconst 0, 1) := by decide +kernel
theorem dX3_drawYear_9 : decode cX3_drawYear 9 = .ok (.istore 6, 2) := by decide +kernel
theorem dX3_drawYear_11 : decode cX3_drawYear 11 = .ok (.iconst 0, 1) := by decide +kernel
theorem dX3_drawYear_12 : decode cX3_drawYear 12 = .ok (.istore 7, 2) := by decide +kernel
theorem dX3_drawYear_14 : decode cX3_drawYear 14 = .ok (.iload 7, 2) := by decide +kernel
theorem dX3_drawYear_16 : decode cX3_drawYear 16 = .ok (.aload_n 1, 1) := by decide +kernel
theorem dX3_drawYear_17 : decode cX3_drawYear 17 = .ok (.getfield 154, 3) := by decide +kernel
theorem dX3_drawYear_20 : decode cX3_drawYear 20 = .ok (.if_icmp .ge 102, 3) := by decide +kernel
theorem dX3_drawYear_23 : decode cX3_drawYear 23 = .ok (.iconst 0, 1) := by decide +kernel
theorem dX3_drawYear_24 : decode cX3_drawYear 24 = .ok (.istore 8, 2) := by decide +kernel
theorem dX3_drawYear_26 : decode cX3_drawYear 26 = .ok (.iconst 0, 1) := by decide +kernel
theorem dX3_drawYear_27 : decode cX3_drawYear 27 = .ok (.istore 9, 2) := by decide +kernel
theorem dX3_drawYear_29 : decode cX3_drawYear 29 = .ok (.iload 9, 2) := by decide +kernel
theorem dX3_drawYear_31 : decode cX3_drawYear 31 = .ok (.aload_n 1, 1) := by decide +kernel
theorem dX3_drawYear_32 : decode cX3_drawYear 32 = .ok (.getfield 75, 3) := by decide +kernel
theorem dX3_drawYear_35 : decode cX3_drawYear 35 = .ok (.getfield 79, 3) := by decide +kernel
theorem dX3_drawYear_38 : decode cX3_drawYear 38 = .ok (.if_icmp .ge 59, 3) := by decide +kernel
theorem dX3_drawYear_41 : decode cX3_drawYear 41 = .ok (.ldc2_w 192, 3) := by decide +kernel
theorem dX3_drawYear_44 : decode cX3_drawYear 44 = .ok (.lload 4, 2) := by decide +kernel
theorem dX3_drawYear_46 : decode cX3_drawYear 46 = .ok (.lmul, 1) := by decide +kernel
theorem dX3_drawYear_47 : decode cX3_drawYear 47 = .ok (.ldc2_w 194, 3) := by decide +kernel
theorem dX3_drawYear_50 : decode cX3_drawYear 50 = .ok (.ladd, 1) := by decide +kernel
theorem dX3_drawYear_51 : decode cX3_drawYear 51 = .ok (.ldc2_w 196, 3) := by decide +kernel
theorem dX3_drawYear_54 : decode cX3_drawYear 54 = .ok (.land, 1) := by decide +kernel
theorem dX3_drawYear_55 : decode cX3_drawYear 55 = .ok (.lstore 4, 2) := by decide +kernel
theorem dX3_drawYear_57 : decode cX3_drawYear 57 = .ok (.lload 4, 2) := by decide +kernel
theorem dX3_drawYear_59 : decode cX3_drawYear 59 = .ok (.ldc2_w 198, 3) := by decide +kernel
theorem dX3_drawYear_62 : decode cX3_drawYear 62 = .ok (.ldiv, 1) := by decide +kernel
theorem dX3_drawYear_63 : decode cX3_drawYear 63 = .ok (.ldc2_w 139, 3) := by decide +kernel
theorem dX3_drawYear_66 : decode cX3_drawYear 66 = .ok (.lrem, 1) := by decide +kernel
theorem dX3_drawYear_67 : decode cX3_drawYear 67 = .ok (.aload_n 1, 1) := by decide +kernel
theorem dX3_drawYear_68 : decode cX3_drawYear 68 = .ok (.getfield 75, 3) := by decide +kernel
theorem dX3_drawYear_71 : decode cX3_drawYear 71 = .ok (.getfield 107, 3) := by decide +kernel
theorem dX3_drawYear_74 : decode cX3_drawYear 74 = .ok (.iload 9, 2) := by decide +kernel
theorem dX3_drawYear_76 : decode cX3_drawYear 76 = .ok (.iaload, 1) := by decide +kernel
theorem dX3_drawYear_77 : decode cX3_drawYear 77 = .ok (.i2l, 1) := by decide +kernel
theorem dX3_drawYear_78 : decode cX3_drawYear 78 = .ok (.lcmp, 1) := by decide +kernel
theorem dX3_drawYear_79 : decode cX3_drawYear 79 = .ok (.ifCond .ge 12, 3) := by decide +kernel
theorem dX3_drawYear_82 : decode cX3_drawYear 82 = .ok (.iload 8, 2) := by decide +kernel
theorem dX3_drawYear_84 : decode cX3_drawYear 84 = .ok (.iconst 1, 1) := by decide +kernel
theorem dX3_drawYear_85 : decode cX3_drawYear 85 = .ok (.iload 9, 2) := by decide +kernel
theorem dX3_drawYear_87 : decode cX3_drawYear 87 = .ok (.ishl, 1) := by decide +kernel
theorem dX3_drawYear_88 : decode cX3_drawYear 88 = .ok (.ior, 1) := by decide +kernel
theorem dX3_drawYear_89 : decode cX3_drawYear 89 = .ok (.istore 8, 2) := by decide +kernel
theorem dX3_drawYear_91 : decode cX3_drawYear 91 = .ok (.iinc 9 1, 3) := by decide +kernel
theorem dX3_drawYear_94 : decode cX3_drawYear 94 = .ok (.goto (-65), 3) := by decide +kernel
theorem dX3_drawYear_97 : decode cX3_drawYear 97 = .ok (.iload 6, 2) := by decide +kernel
theorem dX3_drawYear_99 : decode cX3_drawYear 99 = .ok (.aload_n 0, 1) := by decide +kernel
theorem dX3_drawYear_100 : decode cX3_drawYear 100 = .ok (.iload 8, 2) := by decide +kernel
theorem dX3_drawYear_102 : decode cX3_drawYear 102 = .ok (.aload_n 1, 1) := by decide +kernel
theorem dX3_drawYear_103 : decode cX3_drawYear 103 = .ok (.getfield 75, 3) := by decide +kernel
theorem dX3_drawYear_106 : decode cX3_drawYear 106 = .ok (.getfield 79, 3) := by decide +kernel
theorem dX3_drawYear_109 : decode cX3_drawYear 109 = .ok (.aload_n 3, 1) := by decide +kernel
theorem dX3_drawYear_110 : decode cX3_drawYear 110 = .ok (.invokevirtual 200, 3) := by decide +kernel
theorem dX3_drawYear_113 : decode cX3_drawYear 113 = .ok (.iadd, 1) := by decide +kernel
theorem dX3_drawYear_114 : decode cX3_drawYear 114 = .ok (.istore 6, 2) := by decide +kernel
theorem dX3_drawYear_116 : decode cX3_drawYear 116 = .ok (.iinc 7 1, 3) := by decide +kernel
theorem dX3_drawYear_119 : decode cX3_drawYear 119 = .ok (.goto (-105), 3) := by decide +kernel
theorem dX3_drawYear_122 : decode cX3_drawYear 122 = .ok (.iload 6, 2) := by decide +kernel
theorem dX3_drawYear_124 : decode cX3_drawYear 124 = .ok (.ireturn, 1) := by decide +kernel
theorem dX3_letAllCome_0 : decode cX3_letAllCome 0 = .ok (.iconst 0, 1) := by decide +kernel
theorem dX3_letAllCome_1 : decode cX3_letAllCome 1 = .ok (.istore 4, 2) := by decide +kernel
theorem dX3_letAllCome_3 : decode cX3_letAllCome 3 = .ok (.iconst 0, 1) := by decide +kernel
theorem dX3_letAllCome_4 : decode cX3_letAllCome 4 = .ok (.istore 5, 2) := by decide +kernel
theorem dX3_letAllCome_6 : decode cX3_letAllCome 6 = .ok (.iload 5, 2) := by decide +kernel
theorem dX3_letAllCome_8 : decode cX3_letAllCome 8 = .ok (.iload_n 2, 1) := by decide +kernel
theorem dX3_letAllCome_9 : decode cX3_letAllCome 9 = .ok (.if_icmp .ge 79, 3) := by decide +kernel
theorem dX3_letAllCome_12 : decode cX3_letAllCome 12 = .ok (.iload_n 1, 1) := by decide +kernel
theorem dX3_letAllCome_13 : decode cX3_letAllCome 13 = .ok (.iload 5, 2) := by decide +kernel
theorem dX3_letAllCome_15 : decode cX3_letAllCome 15 = .ok (.ishr, 1) := by decide +kernel
theorem dX3_letAllCome_16 : decode cX3_letAllCome 16 = .ok (.iconst 1, 1) := by decide +kernel
theorem dX3_letAllCome_17 : decode cX3_letAllCome 17 = .ok (.iand, 1) := by decide +kernel
theorem dX3_letAllCome_18 : decode cX3_letAllCome 18 = .ok (.iconst 1, 1) := by decide +kernel
theorem dX3_letAllCome_19 : decode cX3_letAllCome 19 = .ok (.if_icmp .ne 14, 3) := by decide +kernel
theorem dX3_letAllCome_22 : decode cX3_letAllCome 22 = .ok (.aload_n 0, 1) := by decide +kernel
theorem dX3_letAllCome_23 : decode cX3_letAllCome 23 = .ok (.iload 5, 2) := by decide +kernel
theorem dX3_letAllCome_25 : decode cX3_letAllCome 25 = .ok (.iload 4, 2) := by decide +kernel
theorem dX3_letAllCome_27 : decode cX3_letAllCome 27 = .ok (.invokevirtual 136, 3) := by decide +kernel
theorem dX3_letAllCome_30 : decode cX3_letAllCome 30 = .ok (.goto 4, 3) := by decide +kernel
theorem dX3_letAllCome_33 : decode cX3_letAllCome 33 = .ok (.iconst (-1), 1) := by decide +kernel
theorem dX3_letAllCome_34 : decode cX3_letAllCome 34 = .ok (.istore 6, 2) := by decide +kernel
theorem dX3_letAllCome_36 : decode cX3_letAllCome 36 = .ok (.iload 6, 2) := by decide +kernel
theorem dX3_letAllCome_38 : decode cX3_letAllCome 38 = .ok (.iconst (-1), 1) := by decide +kernel
theorem dX3_letAllCome_39 : decode cX3_letAllCome 39 = .ok (.if_icmp .eq 43, 3) := by decide +kernel
theorem dX3_letAllCome_42 : decode cX3_letAllCome 42 = .ok (.iload 6, 2) := by decide +kernel
theorem dX3_letAllCome_44 : decode cX3_letAllCome 44 = .ok (.aload_n 0, 1) := by decide +kernel
theorem dX3_letAllCome_45 : decode cX3_letAllCome 45 = .ok (.getfield 57, 3) := by decide +kernel
theorem dX3_letAllCome_48 : decode cX3_letAllCome 48 = .ok (.if_icmp .eq 34, 3) := by decide +kernel
theorem dX3_letAllCome_51 : decode cX3_letAllCome 51 = .ok (.iload 4, 2) := by decide +kernel
theorem dX3_letAllCome_53 : decode cX3_letAllCome 53 = .ok (.iconst 1, 1) := by decide +kernel
theorem dX3_letAllCome_54 : decode cX3_letAllCome 54 = .ok (.iload 6, 2) := by decide +kernel
theorem dX3_letAllCome_56 : decode cX3_letAllCome 56 = .ok (.ishl, 1) := by decide +kernel
theorem dX3_letAllCome_57 : decode cX3_letAllCome 57 = .ok (.ior, 1) := by decide +kernel
theorem dX3_letAllCome_58 : decode cX3_letAllCome 58 = .ok (.istore 4, 2) := by decide +kernel
theorem dX3_letAllCome_60 : decode cX3_letAllCome 60 = .ok (.aload_n 3, 1) := by decide +kernel
theorem dX3_letAllCome_61 : decode cX3_letAllCome 61 = .ok (.getfield 204, 3) := by decide +kernel
theorem dX3_letAllCome_64 : decode cX3_letAllCome 64 = .ok (.iload 6, 2) := by decide +kernel
theorem dX3_letAllCome_66 : decode cX3_letAllCome 66 = .ok (.dup2, 1) := by decide +kernel
theorem dX3_letAllCome_67 : decode cX3_letAllCome 67 = .ok (.iaload, 1) := by decide +kernel
theorem dX3_letAllCome_68 : decode cX3_letAllCome 68 = .ok (.iconst 1, 1) := by decide +kernel
theorem dX3_letAllCome_69 : decode cX3_letAllCome 69 = .ok (.iadd, 1) := by decide +kernel
theorem dX3_letAllCome_70 : decode cX3_letAllCome 70 = .ok (.iastore, 1) := by decide +kernel
theorem dX3_letAllCome_71 : decode cX3_letAllCome 71 = .ok (.aload_n 3, 1) := by decide +kernel
theorem dX3_letAllCome_72 : decode cX3_letAllCome 72 = .ok (.getfield 207, 3) := by decide +kernel
theorem dX3_letAllCome_75 : decode cX3_letAllCome 75 = .ok (.iload 5, 2) := by decide +kernel
theorem dX3_letAllCome_77 : decode cX3_letAllCome 77 = .ok (.dup2, 1) := by decide +kernel
theorem dX3_letAllCome_78 : decode cX3_letAllCome 78 = .ok (.iaload, 1) := by decide +kernel
theorem dX3_letAllCome_79 : decode cX3_letAllCome 79 = .ok (.iconst 1, 1) := by decide +kernel
theorem dX3_letAllCome_80 : decode cX3_letAllCome 80 = .ok (.iadd, 1) := by decide +kernel
theorem dX3_letAllCome_81 : decode cX3_letAllCome 81 = .ok (.iastore, 1) := by decide +kernel
theorem dX3_letAllCome_82 : decode cX3_letAllCome 82 = .ok (.iinc 5 1, 3) := by decide +kernel
theorem dX3_letAllCome_85 : decode cX3_letAllCome 85 = .ok (.goto (-79), 3) := by decide +kernel
theorem dX3_letAllCome_88 : decode cX3_letAllCome 88 = .ok (.iload 4, 2) := by decide +kernel
theorem dX3_letAllCome_90 : decode cX3_letAllCome 90 = .ok (.invokestatic 160, 3) := by decide +kernel
theorem dX3_letAllCome_93 : decode cX3_letAllCome 93 = .ok (.ireturn, 1) := by decide +kernel
theorem dX4_init_0 : decode cX4_init 0 = .ok (.aload_n 0, 1) := by decide +kernel
theorem dX4_init_1 : decode cX4_init 1 = .ok (.invokespecial 3, 3) := by decide +kernel
theorem dX4_init_4 : decode cX4_init 4 = .ok (.aload_n 0, 1) := by decide +kernel
theorem dX4_init_5 : decode cX4_init 5 = .ok (.new 9, 3) := by decide +kernel
theorem dX4_init_8 : decode cX4_init 8 = .ok (.dup, 1) := by decide +kernel
theorem dX4_init_9 : decode cX4_init 9 = .ok (.invokespecial 11, 3) := by decide +kernel
theorem dX4_init_12 : decode cX4_init 12 = .ok (.putfield 12, 3) := by decide +kernel
theorem dX4_init_15 : decode cX4_init 15 = .ok (.aload_n 0, 1) := by decide +kernel
theorem dX4_init_16 : decode cX4_init 16 = .ok (.new 18, 3) := by decide +kernel
theorem dX4_init_19 : decode cX4_init 19 = .ok (.dup, 1) := by decide +kernel
theorem dX4_init_20 : decode cX4_init 20 = .ok (.invokespecial 20, 3) := by decide +kernel
theorem dX4_init_23 : decode cX4_init 23 = .ok (.putfield 21, 3) := by decide +kernel
theorem dX4_init_26 : decode cX4_init 26 = .ok (.aload_n 0, 1) := by decide +kernel
theorem dX4_init_27 : decode cX4_init 27 = .ok (.new 25, 3) := by decide +kernel
theorem dX4_init_30 : decode cX4_init 30 = .ok (.dup, 1) := by decide +kernel
theorem dX4_init_31 : decode cX4_init 31 = .ok (.invokespecial 27, 3) := by decide +kernel
theorem dX4_init_34 : decode cX4_init 34 = .ok (.putfield 28, 3) := by decide +kernel
theorem dX4_init_37 : decode cX4_init 37 = .ok (.aload_n 0, 1) := by decide +kernel
theorem dX4_init_38 : decode cX4_init 38 = .ok (.new 32, 3) := by decide +kernel
theorem dX4_init_41 : decode cX4_init 41 = .ok (.dup, 1) := by decide +kernel
theorem dX4_init_42 : decode cX4_init 42 = .ok (.invokespecial 34, 3) := by decide +kernel
theorem dX4_init_45 : decode cX4_init 45 = .ok (.putfield 35, 3) := by decide +kernel
theorem dX4_init_48 : decode cX4_init 48 = .ok (.aload_n 0, 1) := by decide +kernel
theorem dX4_init_49 : decode cX4_init 49 = .ok (.new 39, 3) := by decide +kernel
theorem dX4_init_52 : decode cX4_init 52 = .ok (.dup, 1) := by decide +kernel
theorem dX4_init_53 : decode cX4_init 53 = .ok (.invokespecial 41, 3) := by decide +kernel
theorem dX4_init_56 : decode cX4_init 56 = .ok (.putfield 42, 3) := by decide +kernel
theorem dX4_init_59 : decode cX4_init 59 = .ok (.return_, 1) := by decide +kernel
theorem dX4_wipe_0 : decode cX4_wipe 0 = .ok (.aload_n 0, 1) := by decide +kernel
theorem dX4_wipe_1 : decode cX4_wipe 1 = .ok (.iconst 0, 1) := by decide +kernel
theorem dX4_wipe_2 : decode cX4_wipe 2 = .ok (.putfield 46, 3) := by decide +kernel
theorem dX4_wipe_5 : decode cX4_wipe 5 = .ok (.aload_n 0, 1) := by decide +kernel
theorem dX4_wipe_6 : decode cX4_wipe 6 = .ok (.iconst 0, 1) := by decide +kernel
theorem dX4_wipe_7 : decode cX4_wipe 7 = .ok (.putfield 50, 3) := by decide +kernel
theorem dX4_wipe_10 : decode cX4_wipe 10 = .ok (.aload_n 0, 1) := by decide +kernel
theorem dX4_wipe_11 : decode cX4_wipe 11 = .ok (.iconst 0, 1) := by decide +kernel
theorem dX4_wipe_12 : decode cX4_wipe 12 = .ok (.putfield 53, 3) := by decide +kernel
theorem dX4_wipe_15 : decode cX4_wipe 15 = .ok (.aload_n 0, 1) := by decide +kernel
theorem dX4_wipe_16 : decode cX4_wipe 16 = .ok (.getfield 12, 3) := by decide +kernel
theorem dX4_wipe_19 : decode cX4_wipe 19 = .ok (.iconst 0, 1) := by decide +kernel
theorem dX4_wipe_20 : decode cX4_wipe 20 = .ok (.putfield 56, 3) := by decide +kernel
theorem dX4_wipe_23 : decode cX4_wipe 23 = .ok (.aload_n 0, 1) := by decide +kernel
theorem dX4_wipe_24 : decode cX4_wipe 24 = .ok (.getfield 21, 3) := by decide +kernel
theorem dX4_wipe_27 : decode cX4_wipe 27 = .ok (.iconst 0, 1) := by decide +kernel
theorem dX4_wipe_28 : decode cX4_wipe 28 = .ok (.putfield 59, 3) := by decide +kernel
theorem dX4_wipe_31 : decode cX4_wipe 31 = .ok (.aload_n 0, 1) := by decide +kernel
theorem dX4_wipe_32 : decode cX4_wipe 32 = .ok (.getfield 28, 3) := by decide +kernel
theorem dX4_wipe_35 : decode cX4_wipe 35 = .ok (.iconst 0, 1) := by decide +kernel
theorem dX4_wipe_36 : decode cX4_wipe 36 = .ok (.putfield 60, 3) := by decide +kernel
theorem dX4_wipe_39 : decode cX4_wipe 39 = .ok (.aload_n 0, 1) := by decide +kernel
theorem dX4_wipe_40 : decode cX4_wipe 40 = .ok (.getfield 35, 3) := by decide +kernel
theorem dX4_wipe_43 : decode cX4_wipe 43 = .ok (.iconst 0, 1) := by decide +kernel
theorem dX4_wipe_44 : decode cX4_wipe 44 = .ok (.putfield 61, 3) := by decide +kernel
theorem dX4_wipe_47 : decode cX4_wipe 47 = .ok (.aload_n 0, 1) := by decide +kernel
theorem dX4_wipe_48 : decode cX4_wipe 48 = .ok (.iconst 0, 1) := by decide +kernel
theorem dX4_wipe_49 : decode cX4_wipe 49 = .ok (.putfield 62, 3) := by decide +kernel
theorem dX4_wipe_52 : decode cX4_wipe 52 = .ok (.aload_n 0, 1) := by decide +kernel
theorem dX4_wipe_53 : decode cX4_wipe 53 = .ok (.iconst 0, 1) := by decide +kernel
theorem dX4_wipe_54 : decode cX4_wipe 54 = .ok (.putfield 66, 3) := by decide +kernel
theorem dX4_wipe_57 : decode cX4_wipe 57 = .ok (.aload_n 0, 1) := by decide +kernel
theorem dX4_wipe_58 : decode cX4_wipe 58 = .ok (.iconst 0, 1) := by decide +kernel
theorem dX4_wipe_59 : decode cX4_wipe 59 = .ok (.putfield 69, 3) := by decide +kernel
theorem dX4_wipe_62 : decode cX4_wipe 62 = .ok (.aload_n 0, 1) := by decide +kernel
theorem dX4_wipe_63 : decode cX4_wipe 63 = .ok (.iconst 0, 1) := by decide +kernel
theorem dX4_wipe_64 : decode cX4_wipe 64 = .ok (.putfield 72, 3) := by decide +kernel
theorem dX4_wipe_67 : decode cX4_wipe 67 = .ok (.aload_n 0, 1) := by decide +kernel
theorem dX4_wipe_68 : decode cX4_wipe 68 = .ok (.iconst 0, 1) := by decide +kernel
theorem dX4_wipe_69 : decode cX4_wipe 69 = .ok (.putfield 75, 3) := by decide +kernel
theorem dX4_wipe_72 : decode cX4_wipe 72 = .ok (.aload_n 0, 1) := by decide +kernel
theorem dX4_wipe_73 : decode cX4_wipe 73 = .ok (.iconst 0, 1) := by decide +kernel
theorem dX4_wipe_74 : decode cX4_wipe 74 = .ok (.putfield 78, 3) := by decide +kernel
theorem dX4_wipe_77 : decode cX4_wipe 77 = .ok (.aload_n 0, 1) := by decide +kernel
theorem dX4_wipe_78 : decode cX4_wipe 78 = .ok (.iconst 0, 1) := by decide +kernel
theorem dX4_wipe_79 : decode cX4_wipe 79 = .ok (.putfield 81, 3) := by decide +kernel
theorem dX4_wipe_82 : decode cX4_wipe 82 = .ok (.aload_n 0, 1) := by decide +kernel
theorem dX4_wipe_83 : decode cX4_wipe 83 = .ok (.iconst 0, 1) := by decide +kernel
theorem dX4_wipe_84 : decode cX4_wipe 84 = .ok (.putfield 84, 3) := by decide +kernel
theorem dX4_wipe_87 : decode cX4_wipe 87 = .ok (.aload_n 0, 1) := by decide +kernel
theorem dX4_wipe_88 : decode cX4_wipe 88 = .ok (.getfield 42, 3) := by decide +kernel
theorem dX4_wipe_91 : decode cX4_wipe 91 = .ok (.iconst 0, 1) := by decide +kernel
theorem dX4_wipe_92 : decode cX4_wipe 92 = .ok (.putfield 87, 3) := by decide +kernel
theorem dX4_wipe_95 : decode cX4_wipe 95 = .ok (.return_, 1) := by decide +kernel
theorem dX4_copyFrom_0 : decode cX4_copyFrom 0 = .ok (.aload_n 0, 1) := by decide +kernel
theorem dX4_copyFrom_1 : decode cX4_copyFrom 1 = .ok (.aload_n 1, 1) := by decide +kernel
theorem dX4_copyFrom_2 : decode cX4_copyFrom 2 = .ok (.getfield 46, 3) := by decide +kernel
theorem dX4_copyFrom_5 : decode cX4_copyFrom 5 = .ok (.putfield 46, 3) := by decide +kernel
theorem dX4_copyFrom_8 : decode cX4_copyFrom 8 = .ok (.aload_n 0, 1) := by decide +kernel
theorem dX4_copyFrom_9 : decode cX4_copyFrom 9 = .ok (.aload_n 1, 1) := by decide +kernel
theorem dX4_copyFrom_10 : decode cX4_copyFrom 10 = .ok (.getfield 50, 3) := by decide +kernel
theorem dX4_copyFrom_13 : decode cX4_copyFrom 13 = .ok (.putfield 50, 3) := by decide +kernel
theorem dX4_copyFrom_16 : decode cX4_copyFrom 16 = .ok (.aload_n 0, 1) := by decide +kernel
theorem dX4_copyFrom_17 : decode cX4_copyFrom 17 = .ok (.aload_n 1, 1) := by decide +kernel
theorem dX4_copyFrom_18 : decode cX4_copyFrom 18 = .ok (.getfield 53, 3) := by decide +kernel
theorem dX4_copyFrom_21 : decode cX4_copyFrom 21 = .ok (.putfield 53, 3) := by decide +kernel
theorem dX4_copyFrom_24 : decode cX4_copyFrom 24 = .ok (.aload_n 0, 1) := by decide +kernel
theorem dX4_copyFrom_25 : decode cX4_copyFrom 25 = .ok (.getfield 12, 3) := by decide +kernel
theorem dX4_copyFrom_28 : decode cX4_copyFrom 28 = .ok (.aload_n 1, 1) := by decide +kernel
theorem dX4_copyFrom_29 : decode cX4_copyFrom 29 = .ok (.getfield 12, 3) := by decide +kernel
theorem dX4_copyFrom_32 : decode cX4_copyFrom 32 = .ok (.invokevirtual 90, 3) := by decide +kernel
theorem dX4_copyFrom_35 : decode cX4_copyFrom 35 = .ok (.aload_n 0, 1) := by decide +kernel
theorem dX4_copyFrom_36 : decode cX4_copyFrom 36 = .ok (.getfield 21, 3) := by decide +kernel
theorem dX4_copyFrom_39 : decode cX4_copyFrom 39 = .ok (.aload_n 1, 1) := by decide +kernel
theorem dX4_copyFrom_40 : decode cX4_copyFrom 40 = .ok (.getfield 21, 3) := by decide +kernel
theorem dX4_copyFrom_43 : decode cX4_copyFrom 43 = .ok (.invokevirtual 94, 3) := by decide +kernel
theorem dX4_copyFrom_46 : decode cX4_copyFrom 46 = .ok (.aload_n 0, 1) := by decide +kernel
theorem dX4_copyFrom_47 : decode cX4_copyFrom 47 = .ok (.getfield 28, 3) := by decide +kernel
theorem dX4_copyFrom_50 : decode cX4_copyFrom 50 = .ok (.aload_n 1, 1) := by decide +kernel
theorem dX4_copyFrom_51 : decode cX4_copyFrom 51 = .ok (.getfield 28, 3) := by decide +kernel
theorem dX4_copyFrom_54 : decode cX4_copyFrom 54 = .ok (.invokevirtual 97, 3) := by decide +kernel
theorem dX4_copyFrom_57 : decode cX4_copyFrom 57 = .ok (.aload_n 0, 1) := by decide +kernel
theorem dX4_copyFrom_58 : decode cX4_copyFrom 58 = .ok (.getfield 35, 3) := by decide +kernel
theorem dX4_copyFrom_61 : decode cX4_copyFrom 61 = .ok (.aload_n 1, 1) := by decide +kernel
theorem dX4_copyFrom_62 : decode cX4_copyFrom 62 = .ok (.getfield 35, 3) := by decide +kernel
theorem dX4_copyFrom_65 : decode cX4_copyFrom 65 = .ok (.invokevirtual 100, 3) := by decide +kernel
theorem dX4_copyFrom_68 : decode cX4_copyFrom 68 = .ok (.aload_n 0, 1) := by decide +kernel
theorem dX4_copyFrom_69 : decode cX4_copyFrom 69 = .ok (.aload_n 1, 1) := by decide +kernel
theorem dX4_copyFrom_70 : decode cX4_copyFrom 70 = .ok (.getfield 62, 3) := by decide +kernel
theorem dX4_copyFrom_73 : decode cX4_copyFrom 73 = .ok (.putfield 62, 3) := by decide +kernel
theorem dX4_copyFrom_76 : decode cX4_copyFrom 76 = .ok (.aload_n 0, 1) := by decide +kernel
theorem dX4_copyFrom_77 : decode cX4_copyFrom 77 = .ok (.aload_n 1, 1) := by decide +kernel
theorem dX4_copyFrom_78 : decode cX4_copyFrom 78 = .ok (.getfield 66, 3) := by decide +kernel
theorem dX4_copyFrom_81 : decode cX4_copyFrom 81 = .ok (.putfield 66, 3) := by decide +kernel
theorem dX4_copyFrom_84 : decode cX4_copyFrom 84 = .ok (.aload_n 0, 1) := by decide +kernel
theorem dX4_copyFrom_85 : decode cX4_copyFrom 85 = .ok (.aload_n 1, 1) := by decide +kernel
theorem dX4_copyFrom_86 : decode cX4_copyFrom 86 = .ok (.getfield 69, 3) := by decide +kernel
theorem dX4_copyFrom_89 : decode cX4_copyFrom 89 = .ok (.putfield 69, 3) := by decide +kernel
theorem dX4_copyFrom_92 : decode cX4_copyFrom 92 = .ok (.aload_n 0, 1) := by decide +kernel
theorem dX4_copyFrom_93 : decode cX4_copyFrom 93 = .ok (.aload_n 1, 1) := by decide +kernel
theorem dX4_copyFrom_94 : decode cX4_copyFrom 94 = .ok (.getfield 72, 3) := by decide +kernel
theorem dX4_copyFrom_97 : decode cX4_copyFrom 97 = .ok (.putfield 72, 3) := by decide +kernel
theorem dX4_copyFrom_100 : decode cX4_copyFrom 100 = .ok (.aload_n 0, 1) := by decide +kernel
theorem dX4_copyFrom_101 : decode cX4_copyFrom 101 = .ok (.aload_n 1, 1) := by decide +kernel
theorem dX4_copyFrom_102 : decode cX4_copyFrom 102 = .ok (.getfield 75, 3) := by decide +kernel
theorem dX4_copyFrom_105 : decode cX4_copyFrom 105 = .ok (.putfield 75, 3) := by decide +kernel
theorem dX4_copyFrom_108 : decode cX4_copyFrom 108 = .ok (.aload_n 0, 1) := by decide +kernel
theorem dX4_copyFrom_109 : decode cX4_copyFrom 109 = .ok (.aload_n 1, 1) := by decide +kernel
theorem dX4_copyFrom_110 : decode cX4_copyFrom 110 = .ok (.getfield 78, 3) := by decide +kernel
theorem dX4_copyFrom_113 : decode cX4_copyFrom 113 = .ok (.putfield 78, 3) := by decide +kernel
theorem dX4_copyFrom_116 : decode cX4_copyFrom 116 = .ok (.aload_n 0, 1) := by decide +kernel
theorem dX4_copyFrom_117 : decode cX4_copyFrom 117 = .ok (.aload_n 1, 1) := by decide +kernel
theorem dX4_copyFrom_118 : decode cX4_copyFrom 118 = .ok (.getfield 81, 3) := by decide +kernel
theorem dX4_copyFrom_121 : decode cX4_copyFrom 121 = .ok (.putfield 81, 3) := by decide +kernel
theorem dX4_copyFrom_124 : decode cX4_copyFrom 124 = .ok (.aload_n 0, 1) := by decide +kernel
theorem dX4_copyFrom_125 : decode cX4_copyFrom 125 = .ok (.aload_n 1, 1) := by decide +kernel
theorem dX4_copyFrom_126 : decode cX4_copyFrom 126 = .ok (.getfield 84, 3) := by decide +kernel
theorem dX4_copyFrom_129 : decode cX4_copyFrom 129 = .ok (.putfield 84, 3) := by decide +kernel
theorem dX4_copyFrom_132 : decode cX4_copyFrom 132 = .ok (.aload_n 0, 1) := by decide +kernel
theorem dX4_copyFrom_133 : decode cX4_copyFrom 133 = .ok (.getfield 42, 3) := by decide +kernel
theorem dX4_copyFrom_136 : decode cX4_copyFrom 136 = .ok (.aload_n 1, 1) := by decide +kernel
theorem dX4_copyFrom_137 : decode cX4_copyFrom 137 = .ok (.getfield 42, 3) := by decide +kernel
theorem dX4_copyFrom_140 : decode cX4_copyFrom 140 = .ok (.invokevirtual 103, 3) := by decide +kernel
theorem dX4_copyFrom_143 : decode cX4_copyFrom 143 = .ok (.return_, 1) := by decide +kernel
theorem dX4_isTold_0 : decode cX4_isTold 0 = .ok (.aload_n 0, 1) := by decide +kernel
theorem dX4_isTold_1 : decode cX4_isTold 1 = .ok (.getfield 53, 3) := by decide +kernel
theorem dX4_isTold_4 : decode cX4_isTold 4 = .ok (.ifCond .le 7, 3) := by decide +kernel
theorem dX4_isTold_7 : decode cX4_isTold 7 = .ok (.iconst 1, 1) := by decide +kernel
theorem dX4_isTold_8 : decode cX4_isTold 8 = .ok (.goto 4, 3) := by decide +kernel
theorem dX4_isTold_11 : decode cX4_isTold 11 = .ok (.iconst 0, 1) := by decide +kernel
theorem dX4_isTold_12 : decode cX4_isTold 12 = .ok (.ireturn, 1) := by decide +kernel
theorem dX4_hasPlace_0 : decode cX4_hasPlace 0 = .ok (.iload_n 1, 1) := by decide +kernel
theorem dX4_hasPlace_1 : decode cX4_hasPlace 1 = .ok (.ifCond .lt 15, 3) := by decide +kernel
theorem dX4_hasPlace_4 : decode cX4_hasPlace 4 = .ok (.iload_n 1, 1) := by decide +kernel
theorem dX4_hasPlace_5 : decode cX4_hasPlace 5 = .ok (.aload_n 0, 1) := by decide +kernel
theorem dX4_hasPlace_6 : decode cX4_hasPlace 6 = .ok (.getfield 46, 3) := by decide +kernel
theorem dX4_hasPlace_9 : decode cX4_hasPlace 9 = .ok (.if_icmp .ge 7, 3) := by decide +kernel
theorem dX4_hasPlace_12 : decode cX4_hasPlace 12 = .ok (.iconst 1, 1) := by decide +kernel
theorem dX4_hasPlace_13 : decode cX4_hasPlace 13 = .ok (.goto 4, 3) := by decide +kernel
theorem dX4_hasPlace_16 : decode cX4_hasPlace 16 = .ok (.iconst 0, 1) := by decide +kernel
theorem dX4_hasPlace_17 : decode cX4_hasPlace 17 = .ok (.ireturn, 1) := by decide +kernel
theorem dX4_hasLock_0 : decode cX4_hasLock 0 = .ok (.iload_n 1, 1) := by decide +kernel
theorem dX4_hasLock_1 : decode cX4_hasLock 1 = .ok (.ifCond .lt 18, 3) := by decide +kernel
theorem dX4_hasLock_4 : decode cX4_hasLock 4 = .ok (.iload_n 1, 1) := by decide +kernel
theorem dX4_hasLock_5 : decode cX4_hasLock 5 = .ok (.aload_n 0, 1) := by decide +kernel
theorem dX4_hasLock_6 : decode cX4_hasLock 6 = .ok (.getfield 21, 3) := by decide +kernel
theorem dX4_hasLock_9 : decode cX4_hasLock 9 = .ok (.getfield 59, 3) := by decide +kernel
theorem dX4_hasLock_12 : decode cX4_hasLock 12 = .ok (.if_icmp .ge 7, 3) := by decide +kernel
theorem dX4_hasLock_15 : decode cX4_hasLock 15 = .ok (.iconst 1, 1) := by decide +kernel
theorem dX4_hasLock_16 : decode cX4_hasLock 16 = .ok (.goto 4, 3) := by decide +kernel
theorem dX4_hasLock_19 : decode cX4_hasLock 19 = .ok (.iconst 0, 1) := by decide +kernel
theorem dX4_hasLock_20 : decode cX4_hasLock 20 = .ok (.ireturn, 1) := by decide +kernel
theorem dX4_hasBike_0 : decode cX4_hasBike 0 = .ok (.iload_n 1, 1) := by decide +kernel
theorem dX4_hasBike_1 : decode cX4_hasBike 1 = .ok (.ifCond .lt 18, 3) := by decide +kernel
theorem dX4_hasBike_4 : decode cX4_hasBike 4 = .ok (.iload_n 1, 1) := by decide +kernel
theorem dX4_hasBike_5 : decode cX4_hasBike 5 = .ok (.aload_n 0, 1) := by decide +kernel
theorem dX4_hasBike_6 : decode cX4_hasBike 6 = .ok (.getfield 28, 3) := by decide +kernel
theorem dX4_hasBike_9 : decode cX4_hasBike 9 = .ok (.getfield 60, 3) := by decide +kernel
theorem dX4_hasBike_12 : decode cX4_hasBike 12 = .ok (.if_icmp .ge 7, 3) := by decide +kernel
theorem dX4_hasBike_15 : decode cX4_hasBike 15 = .ok (.iconst 1, 1) := by decide +kernel
theorem dX4_hasBike_16 : decode cX4_hasBike 16 = .ok (.goto 4, 3) := by decide +kernel
theorem dX4_hasBike_19 : decode cX4_hasBike 19 = .ok (.iconst 0, 1) := by decide +kernel
theorem dX4_hasBike_20 : decode cX4_hasBike 20 = .ok (.ireturn, 1) := by decide +kernel
theorem dX4_hasThief_0 : decode cX4_hasThief 0 = .ok (.iload_n 1, 1) := by decide +kernel
theorem dX4_hasThief_1 : decode cX4_hasThief 1 = .ok (.ifCond .lt 18, 3) := by decide +kernel
theorem dX4_hasThief_4 : decode cX4_hasThief 4 = .ok (.iload_n 1, 1) := by decide +kernel
theorem dX4_hasThief_5 : decode cX4_hasThief 5 = .ok (.aload_n 0, 1) := by decide +kernel
theorem dX4_hasThief_6 : decode cX4_hasThief 6 = .ok (.getfield 35, 3) := by decide +kernel
theorem dX4_hasThief_9 : decode cX4_hasThief 9 = .ok (.getfield 61, 3) := by decide +kernel
theorem dX4_hasThief_12 : decode cX4_hasThief 12 = .ok (.if_icmp .ge 7, 3) := by decide +kernel
theorem dX4_hasThief_15 : decode cX4_hasThief 15 = .ok (.iconst 1, 1) := by decide +kernel
theorem dX4_hasThief_16 : decode cX4_hasThief 16 = .ok (.goto 4, 3) := by decide +kernel
theorem dX4_hasThief_19 : decode cX4_hasThief 19 = .ok (.iconst 0, 1) := by decide +kernel
theorem dX4_hasThief_20 : decode cX4_hasThief 20 = .ok (.ireturn, 1) := by decide +kernel
theorem dX4_hasOption_0 : decode cX4_hasOption 0 = .ok (.iload_n 1, 1) := by decide +kernel
theorem dX4_hasOption_1 : decode cX4_hasOption 1 = .ok (.ifCond .lt 15, 3) := by decide +kernel
theorem dX4_hasOption_4 : decode cX4_hasOption 4 = .ok (.iload_n 1, 1) := by decide +kernel
theorem dX4_hasOption_5 : decode cX4_hasOption 5 = .ok (.aload_n 0, 1) := by decide +kernel
theorem dX4_hasOption_6 : decode cX4_hasOption 6 = .ok (.invokevirtual 106, 3) := by decide +kernel
theorem dX4_hasOption_9 : decode cX4_hasOption 9 = .ok (.if_icmp .ge 7, 3) := by decide +kernel
theorem dX4_hasOption_12 : decode cX4_hasOption 12 = .ok (.iconst 1, 1) := by decide +kernel
theorem dX4_hasOption_13 : decode cX4_hasOption 13 = .ok (.goto 4, 3) := by decide +kernel
theorem dX4_hasOption_16 : decode cX4_hasOption 16 = .ok (.iconst 0, 1) := by decide +kernel
theorem dX4_hasOption_17 : decode cX4_hasOption 17 = .ok (.ireturn, 1) := by decide +kernel
theorem dX4_hasSet_0 : decode cX4_hasSet 0 = .ok (.iload_n 1, 1) := by decide +kernel
theorem dX4_hasSet_1 : decode cX4_hasSet 1 = .ok (.ifCond .lt 20, 3) := by decide +kernel
theorem dX4_hasSet_4 : decode cX4_hasSet 4 = .ok (.iload_n 1, 1) := by decide +kernel
theorem dX4_hasSet_5 : decode cX4_hasSet 5 = .ok (.iconst 1, 1) := by decide +kernel
theorem dX4_hasSet_6 : decode cX4_hasSet 6 = .ok (.aload_n 0, 1) := by decide +kernel
theorem dX4_hasSet_7 : decode cX4_hasSet 7 = .ok (.getfield 28, 3) := by decide +kernel
theorem dX4_hasSet_10 : decode cX4_hasSet 10 = .ok (.getfield 60, 3) := by decide +kernel
theorem dX4_hasSet_13 : decode cX4_hasSet 13 = .ok (.ishl, 1) := by decide +kernel
theorem dX4_hasSet_14 : decode cX4_hasSet 14 = .ok (.if_icmp .ge 7, 3) := by decide +kernel
theorem dX4_hasSet_17 : decode cX4_hasSet 17 = .ok (.iconst 1, 1) := by decide +kernel
theorem dX4_hasSet_18 : decode cX4_hasSet 18 = .ok (.goto 4, 3) := by decide +kernel
theorem dX4_hasSet_21 : decode cX4_hasSet 21 = .ok (.iconst 0, 1) := by decide +kernel
theorem dX4_hasSet_22 : decode cX4_hasSet 22 = .ok (.ireturn, 1) := by decide +kernel
theorem dX4_options_0 : decode cX4_options 0 = .ok (.aload_n 0, 1) := by decide +kernel
theorem dX4_options_1 : decode cX4_options 1 = .ok (.invokevirtual 110, 3) := by decide +kernel
theorem dX4_options_4 : decode cX4_options 4 = .ok (.ifCond .eq 17, 3) := by decide +kernel
theorem dX4_options_7 : decode cX4_options 7 = .ok (.iconst 2, 1) := by decide +kernel
theorem dX4_options_8 : decode cX4_options 8 = .ok (.aload_n 0, 1) := by decide +kernel
theorem dX4_options_9 : decode cX4_options 9 = .ok (.getfield 21, 3) := by decide +kernel
theorem dX4_options_12 : decode cX4_options 12 = .ok (.getfield 59, 3) := by decide +kernel
theorem dX4_options_15 : decode cX4_options 15 = .ok (.iconst 1, 1) := by decide +kernel
theorem dX4_options_16 : decode cX4_options 16 = .ok (.iadd, 1) := by decide +kernel
theorem dX4_options_17 : decode cX4_options 17 = .ok (.imul, 1) := by decide +kernel
theorem dX4_options_18 : decode cX4_options 18 = .ok (.goto 4, 3) := by decide +kernel
theorem dX4_options_21 : decode cX4_options 21 = .ok (.iconst 0, 1) := by decide +kernel
theorem dX4_options_22 : decode cX4_options 22 = .ok (.ireturn, 1) := by decide +kernel
theorem dX4_lightOf_0 : decode cX4_lightOf 0 = .ok (.aload_n 0, 1) := by decide +kernel
theorem dX4_lightOf_1 : decode cX4_lightOf 1 = .ok (.getfield 84, 3) := by decide +kernel
theorem dX4_lightOf_4 : decode cX4_lightOf 4 = .ok (.ifCond .eq 10, 3) := by decide +kernel
theorem dX4_lightOf_7 : decode cX4_lightOf 7 = .ok (.aload_n 0, 1) := by decide +kernel
theorem dX4_lightOf_8 : decode cX4_lightOf 8 = .ok (.getfield 81, 3) := by decide +kernel
theorem dX4_lightOf_11 : decode cX4_lightOf 11 = .ok (.goto 4, 3) := by decide +kernel
theorem dX4_lightOf_14 : decode cX4_lightOf 14 = .ok (.iconst 0, 1) := by decide +kernel
theorem dX4_lightOf_15 : decode cX4_lightOf 15 = .ok (.istore_n 2, 1) := by decide +kernel
theorem dX4_lightOf_16 : decode cX4_lightOf 16 = .ok (.iconst 0, 1) := by decide +kernel
theorem dX4_lightOf_17 : decode cX4_lightOf 17 = .ok (.istore_n 3, 1) := by decide +kernel
theorem dX4_lightOf_18 : decode cX4_lightOf 18 = .ok (.iload_n 3, 1) := by decide +kernel
theorem dX4_lightOf_19 : decode cX4_lightOf 19 = .ok (.aload_n 0, 1) := by decide +kernel
theorem dX4_lightOf_20 : decode cX4_lightOf 20 = .ok (.getfield 12, 3) := by decide +kernel
theorem dX4_lightOf_23 : decode cX4_lightOf 23 = .ok (.getfield 56, 3) := by decide +kernel
theorem dX4_lightOf_26 : decode cX4_lightOf 26 = .ok (.if_icmp .ge 40, 3) := by decide +kernel
theorem dX4_lightOf_29 : decode cX4_lightOf 29 = .ok (.iload_n 2, 1) := by decide +kernel
theorem dX4_lightOf_30 : decode cX4_lightOf 30 = .ok (.iconst 0, 1) := by decide +kernel
theorem dX4_lightOf_31 : decode cX4_lightOf 31 = .ok (.aload_n 0, 1) := by decide +kernel
theorem dX4_lightOf_32 : decode cX4_lightOf 32 = .ok (.getfield 12, 3) := by decide +kernel
theorem dX4_lightOf_35 : decode cX4_lightOf 35 = .ok (.getfield 114, 3) := by decide +kernel
theorem dX4_lightOf_38 : decode cX4_lightOf 38 = .ok (.iload_n 3, 1) := by decide +kernel
theorem dX4_lightOf_39 : decode cX4_lightOf 39 = .ok (.iaload, 1) := by decide +kernel
theorem dX4_lightOf_40 : decode cX4_lightOf 40 = .ok (.iload_n 1, 1) := by decide +kernel
theorem dX4_lightOf_41 : decode cX4_lightOf 41 = .ok (.aload_n 0, 1) := by decide +kernel
theorem dX4_lightOf_42 : decode cX4_lightOf 42 = .ok (.getfield 12, 3) := by decide +kernel
theorem dX4_lightOf_45 : decode cX4_lightOf 45 = .ok (.getfield 118, 3) := by decide +kernel
theorem dX4_lightOf_48 : decode cX4_lightOf 48 = .ok (.iload_n 3, 1) := by decide +kernel
theorem dX4_lightOf_49 : decode cX4_lightOf 49 = .ok (.iaload, 1) := by decide +kernel
theorem dX4_lightOf_50 : decode cX4_lightOf 50 = .ok (.isub, 1) := by decide +kernel
theorem dX4_lightOf_51 : decode cX4_lightOf 51 = .ok (.invokestatic 121, 3) := by decide +kernel
theorem dX4_lightOf_54 : decode cX4_lightOf 54 = .ok (.isub, 1) := by decide +kernel
theorem dX4_lightOf_55 : decode cX4_lightOf 55 = .ok (.invokestatic 127, 3) := by decide +kernel
theorem dX4_lightOf_58 : decode cX4_lightOf 58 = .ok (.iadd, 1) := by decide +kernel
theorem dX4_lightOf_59 : decode cX4_lightOf 59 = .ok (.istore_n 2, 1) := by decide +kernel
theorem dX4_lightOf_60 : decode cX4_lightOf 60 = .ok (.iinc 3 1, 3) := by decide +kernel
theorem dX4_lightOf_63 : decode cX4_lightOf 63 = .ok (.goto (-45), 3) := by decide +kernel
theorem dX4_lightOf_66 : decode cX4_lightOf 66 = .ok (.iload_n 2, 1) := by decide +kernel
theorem dX4_lightOf_67 : decode cX4_lightOf 67 = .ok (.ireturn, 1) := by decide +kernel
theorem dX4_troubleOf_0 : decode cX4_troubleOf 0 = .ok (.aload_n 0, 1) := by decide +kernel
theorem dX4_troubleOf_1 : decode cX4_troubleOf 1 = .ok (.getfield 28, 3) := by decide +kernel
theorem dX4_troubleOf_4 : decode cX4_troubleOf 4 = .ok (.getfield 131, 3) := by decide +kernel
theorem dX4_troubleOf_7 : decode cX4_troubleOf 7 = .ok (.iload_n 2, 1) := by decide +kernel
theorem dX4_troubleOf_8 : decode cX4_troubleOf 8 = .ok (.iaload, 1) := by decide +kernel
theorem dX4_troubleOf_9 : decode cX4_troubleOf 9 = .ok (.istore 4, 2) := by decide +kernel
theorem dX4_troubleOf_11 : decode cX4_troubleOf 11 = .ok (.iload 4, 2) := by decide +kernel
theorem dX4_troubleOf_13 : decode cX4_troubleOf 13 = .ok (.iconst (-1), 1) := by decide +kernel
theorem dX4_troubleOf_14 : decode cX4_troubleOf 14 = .ok (.if_icmp .ne 7, 3) := by decide +kernel
theorem dX4_troubleOf_17 : decode cX4_troubleOf 17 = .ok (.iconst 0, 1) := by decide +kernel
theorem dX4_troubleOf_18 : decode cX4_troubleOf 18 = .ok (.goto 25, 3) := by decide +kernel
theorem dX4_troubleOf_21 : decode cX4_troubleOf 21 = .ok (.aload_n 0, 1) := by decide +kernel
theorem dX4_troubleOf_22 : decode cX4_troubleOf 22 = .ok (.getfield 21, 3) := by decide +kernel
theorem dX4_troubleOf_25 : decode cX4_troubleOf 25 = .ok (.getfield 134, 3) := by decide +kernel
theorem dX4_troubleOf_28 : decode cX4_troubleOf 28 = .ok (.iconst 3, 1) := by decide +kernel
theorem dX4_troubleOf_29 : decode cX4_troubleOf 29 = .ok (.iload 4, 2) := by decide +kernel
theorem dX4_troubleOf_31 : decode cX4_troubleOf 31 = .ok (.imul, 1) := by decide +kernel
theorem dX4_troubleOf_32 : decode cX4_troubleOf 32 = .ok (.aload_n 0, 1) := by decide +kernel
theorem dX4_troubleOf_33 : decode cX4_troubleOf 33 = .ok (.getfield 35, 3) := by decide +kernel
theorem dX4_troubleOf_36 : decode cX4_troubleOf 36 = .ok (.getfield 137, 3) := by decide +kernel
theorem dX4_troubleOf_39 : decode cX4_troubleOf 39 = .ok (.iload_n 1, 1) := by decide +kernel
theorem dX4_troubleOf_40 : decode cX4_troubleOf 40 = .ok (.iaload, 1) := by decide +kernel
theorem dX4_troubleOf_41 : decode cX4_troubleOf 41 = .ok (.iadd, 1) := by decide +kernel
theorem dX4_troubleOf_42 : decode cX4_troubleOf 42 = .ok (.iaload, 1) := by decide +kernel
theorem dX4_troubleOf_43 : decode cX4_troubleOf 43 = .ok (.istore 5, 2) := by decide +kernel
theorem dX4_troubleOf_45 : decode cX4_troubleOf 45 = .ok (.iload 5, 2) := by decide +kernel
theorem dX4_troubleOf_47 : decode cX4_troubleOf 47 = .ok (.aload_n 0, 1) := by decide +kernel
theorem dX4_troubleOf_48 : decode cX4_troubleOf 48 = .ok (.getfield 35, 3) := by decide +kernel
theorem dX4_troubleOf_51 : decode cX4_troubleOf 51 = .ok (.getfield 140, 3) := by decide +kernel
theorem dX4_troubleOf_54 : decode cX4_troubleOf 54 = .ok (.iload_n 1, 1) := by decide +kernel
theorem dX4_troubleOf_55 : decode cX4_troubleOf 55 = .ok (.iaload, 1) := by decide +kernel
theorem dX4_troubleOf_56 : decode cX4_troubleOf 56 = .ok (.imul, 1) := by decide +kernel
theorem dX4_troubleOf_57 : decode cX4_troubleOf 57 = .ok (.iconst 1, 1) := by decide +kernel
theorem dX4_troubleOf_58 : decode cX4_troubleOf 58 = .ok (.iload_n 3, 1) := by decide +kernel
theorem dX4_troubleOf_59 : decode cX4_troubleOf 59 = .ok (.iadd, 1) := by decide +kernel
theorem dX4_troubleOf_60 : decode cX4_troubleOf 60 = .ok (.imul, 1) := by decide +kernel
theorem dX4_troubleOf_61 : decode cX4_troubleOf 61 = .ok (.bipush 100, 2) := by decide +kernel
theorem dX4_troubleOf_63 : decode cX4_troubleOf 63 = .ok (.idiv, 1) := by decide +kernel
theorem dX4_troubleOf_64 : decode cX4_troubleOf 64 = .ok (.ireturn, 1) := by decide +kernel
theorem dX4_gainOf_0 : decode cX4_gainOf 0 = .ok (.aload_n 0, 1) := by decide +kernel
theorem dX4_gainOf_1 : decode cX4_gainOf 1 = .ok (.getfield 28, 3) := by decide +kernel
theorem dX4_gainOf_4 : decode cX4_gainOf 4 = .ok (.getfield 143, 3) := by decide +kernel
theorem dX4_gainOf_7 : decode cX4_gainOf 7 = .ok (.iload_n 1, 1) := by decide +kernel
theorem dX4_gainOf_8 : decode cX4_gainOf 8 = .ok (.iaload, 1) := by decide +kernel
theorem dX4_gainOf_9 : decode cX4_gainOf 9 = .ok (.istore_n 3, 1) := by decide +kernel
theorem dX4_gainOf_10 : decode cX4_gainOf 10 = .ok (.bipush 100, 2) := by decide +kernel
theorem dX4_gainOf_12 : decode cX4_gainOf 12 = .ok (.aload_n 0, 1) := by decide +kernel
theorem dX4_gainOf_13 : decode cX4_gainOf 13 = .ok (.getfield 28, 3) := by decide +kernel
theorem dX4_gainOf_16 : decode cX4_gainOf 16 = .ok (.getfield 60, 3) := by decide +kernel
theorem dX4_gainOf_19 : decode cX4_gainOf 19 = .ok (.imul, 1) := by decide +kernel
theorem dX4_gainOf_20 : decode cX4_gainOf 20 = .ok (.istore 4, 2) := by decide +kernel
theorem dX4_gainOf_22 : decode cX4_gainOf 22 = .ok (.aload_n 0, 1) := by decide +kernel
theorem dX4_gainOf_23 : decode cX4_gainOf 23 = .ok (.getfield 72, 3) := by decide +kernel
theorem dX4_gainOf_26 : decode cX4_gainOf 26 = .ok (.ifCond .eq 23, 3) := by decide +kernel
theorem dX4_gainOf_29 : decode cX4_gainOf 29 = .ok (.iload 4, 2) := by decide +kernel
theorem dX4_gainOf_31 : decode cX4_gainOf 31 = .ok (.ifCond .le 18, 3) := by decide +kernel
theorem dX4_gainOf_34 : decode cX4_gainOf 34 = .ok (.iload_n 3, 1) := by decide +kernel
theorem dX4_gainOf_35 : decode cX4_gainOf 35 = .ok (.iload 4, 2) := by decide +kernel
theorem dX4_gainOf_37 : decode cX4_gainOf 37 = .ok (.aload_n 0, 1) := by decide +kernel
theorem dX4_gainOf_38 : decode cX4_gainOf 38 = .ok (.getfield 69, 3) := by decide +kernel
theorem dX4_gainOf_41 : decode cX4_gainOf 41 = .ok (.iload_n 2, 1) := by decide +kernel
theorem dX4_gainOf_42 : decode cX4_gainOf 42 = .ok (.imul, 1) := by decide +kernel
theorem dX4_gainOf_43 : decode cX4_gainOf 43 = .ok (.isub, 1) := by decide +kernel
theorem dX4_gainOf_44 : decode cX4_gainOf 44 = .ok (.imul, 1) := by decide +kernel
theorem dX4_gainOf_45 : decode cX4_gainOf 45 = .ok (.iload 4, 2) := by decide +kernel
theorem dX4_gainOf_47 : decode cX4_gainOf 47 = .ok (.idiv, 1) := by decide +kernel
theorem dX4_gainOf_48 : decode cX4_gainOf 48 = .ok (.ireturn, 1) := by decide +kernel
theorem dX4_gainOf_49 : decode cX4_gainOf 49 = .ok (.aload_n 0, 1) := by decide +kernel
theorem dX4_gainOf_50 : decode cX4_gainOf 50 = .ok (.getfield 28, 3) := by decide +kernel
theorem dX4_gainOf_53 : decode cX4_gainOf 53 = .ok (.getfield 146, 3) := by decide +kernel
theorem dX4_gainOf_56 : decode cX4_gainOf 56 = .ok (.iload_n 1, 1) := by decide +kernel
theorem dX4_gainOf_57 : decode cX4_gainOf 57 = .ok (.baload, 1) := by decide +kernel
theorem dX4_gainOf_58 : decode cX4_gainOf 58 = .ok (.ifCond .eq 18, 3) := by decide +kernel
theorem dX4_gainOf_61 : decode cX4_gainOf 61 = .ok (.iload_n 3, 1) := by decide +kernel
theorem dX4_gainOf_62 : decode cX4_gainOf 62 = .ok (.bipush 100, 2) := by decide +kernel
theorem dX4_gainOf_64 : decode cX4_gainOf 64 = .ok (.aload_n 0, 1) := by decide +kernel
theorem dX4_gainOf_65 : decode cX4_gainOf 65 = .ok (.getfield 69, 3) := by decide +kernel
theorem dX4_gainOf_68 : decode cX4_gainOf 68 = .ok (.isub, 1) := by decide +kernel
theorem dX4_gainOf_69 : decode cX4_gainOf 69 = .ok (.imul, 1) := by decide +kernel
theorem dX4_gainOf_70 : decode cX4_gainOf 70 = .ok (.bipush 100, 2) := by decide +kernel
theorem dX4_gainOf_72 : decode cX4_gainOf 72 = .ok (.idiv, 1) := by decide +kernel
theorem dX4_gainOf_73 : decode cX4_gainOf 73 = .ok (.goto 4, 3) := by decide +kernel
theorem dX4_gainOf_76 : decode cX4_gainOf 76 = .ok (.iload_n 3, 1) := by decide +kernel
theorem dX4_gainOf_77 : decode cX4_gainOf 77 = .ok (.ireturn, 1) := by decide +kernel
theorem dX4_paidFor_0 : decode cX4_paidFor 0 = .ok (.aload_n 0, 1) := by decide +kernel
theorem dX4_paidFor_1 : decode cX4_paidFor 1 = .ok (.getfield 28, 3) := by decide +kernel
theorem dX4_paidFor_4 : decode cX4_paidFor 4 = .ok (.getfield 131, 3) := by decide +kernel
theorem dX4_paidFor_7 : decode cX4_paidFor 7 = .ok (.iload_n 1, 1) := by decide +kernel
theorem dX4_paidFor_8 : decode cX4_paidFor 8 = .ok (.iaload, 1) := by decide +kernel
theorem dX4_paidFor_9 : decode cX4_paidFor 9 = .ok (.istore_n 2, 1) := by decide +kernel
theorem dX4_paidFor_10 : decode cX4_paidFor 10 = .ok (.iload_n 2, 1) := by decide +kernel
theorem dX4_paidFor_11 : decode cX4_paidFor 11 = .ok (.iconst (-1), 1) := by decide +kernel
theorem dX4_paidFor_12 : decode cX4_paidFor 12 = .ok (.if_icmp .ne 7, 3) := by decide +kernel
theorem dX4_paidFor_15 : decode cX4_paidFor 15 = .ok (.iconst 0, 1) := by decide +kernel
theorem dX4_paidFor_16 : decode cX4_paidFor 16 = .ok (.goto 12, 3) := by decide +kernel
theorem dX4_paidFor_19 : decode cX4_paidFor 19 = .ok (.aload_n 0, 1) := by decide +kernel
theorem dX4_paidFor_20 : decode cX4_paidFor 20 = .ok (.getfield 21, 3) := by decide +kernel
theorem dX4_paidFor_23 : decode cX4_paidFor 23 = .ok (.getfield 150, 3) := by decide +kernel
theorem dX4_paidFor_26 : decode cX4_paidFor 26 = .ok (.iload_n 2, 1) := by decide +kernel
theorem dX4_paidFor_27 : decode cX4_paidFor 27 = .ok (.iaload, 1) := by decide +kernel
theorem dX4_paidFor_28 : decode cX4_paidFor 28 = .ok (.istore_n 3, 1) := by decide +kernel
theorem dX4_paidFor_29 : decode cX4_paidFor 29 = .ok (.ldc2_w 153, 3) := by decide +kernel
theorem dX4_paidFor_32 : decode cX4_paidFor 32 = .ok (.iload_n 3, 1) := by decide +kernel
theorem dX4_paidFor_33 : decode cX4_paidFor 33 = .ok (.aload_n 0, 1) := by decide +kernel
theorem dX4_paidFor_34 : decode cX4_paidFor 34 = .ok (.getfield 28, 3) := by decide +kernel
theorem dX4_paidFor_37 : decode cX4_paidFor 37 = .ok (.getfield 146, 3) := by decide +kernel
theorem dX4_paidFor_40 : decode cX4_paidFor 40 = .ok (.iload_n 1, 1) := by decide +kernel
theorem dX4_paidFor_41 : decode cX4_paidFor 41 = .ok (.baload, 1) := by decide +kernel
theorem dX4_paidFor_42 : decode cX4_paidFor 42 = .ok (.ifCond .eq 10, 3) := by decide +kernel
theorem dX4_paidFor_45 : decode cX4_paidFor 45 = .ok (.aload_n 0, 1) := by decide +kernel
theorem dX4_paidFor_46 : decode cX4_paidFor 46 = .ok (.getfield 66, 3) := by decide +kernel
theorem dX4_paidFor_49 : decode cX4_paidFor 49 = .ok (.goto 4, 3) := by decide +kernel
theorem dX4_paidFor_52 : decode cX4_paidFor 52 = .ok (.iconst 0, 1) := by decide +kernel
theorem dX4_paidFor_53 : decode cX4_paidFor 53 = .ok (.iadd, 1) := by decide +kernel
theorem dX4_paidFor_54 : decode cX4_paidFor 54 = .ok (.i2l, 1) := by decide +kernel
theorem dX4_paidFor_55 : decode cX4_paidFor 55 = .ok (.lmul, 1) := by decide +kernel
theorem dX4_paidFor_56 : decode cX4_paidFor 56 = .ok (.lreturn, 1) := by decide +kernel
theorem dX4_wages_0 : decode cX4_wages 0 = .ok (.ldc2_w 153, 3) := by decide +kernel
theorem dX4_wages_3 : decode cX4_wages 3 = .ok (.aload_n 0, 1) := by decide +kernel
theorem dX4_wages_4 : decode cX4_wages 4 = .ok (.getfield 78, 3) := by decide +kernel
theorem dX4_wages_7 : decode cX4_wages 7 = .ok (.i2l, 1) := by decide +kernel
theorem dX4_wages_8 : decode cX4_wages 8 = .ok (.lmul, 1) := by decide +kernel
theorem dX4_wages_9 : decode cX4_wages 9 = .ok (.aload_n 0, 1) := by decide +kernel
theorem dX4_wages_10 : decode cX4_wages 10 = .ok (.getfield 50, 3) := by decide +kernel
theorem dX4_wages_13 : decode cX4_wages 13 = .ok (.i2l, 1) := by decide +kernel
theorem dX4_wages_14 : decode cX4_wages 14 = .ok (.lmul, 1) := by decide +kernel
theorem dX4_wages_15 : decode cX4_wages 15 = .ok (.lreturn, 1) := by decide +kernel
theorem dX4_wageShare_0 : decode cX4_wageShare 0 = .ok (.aload_n 0, 1) := by decide +kernel
theorem dX4_wageShare_1 : decode cX4_wageShare 1 = .ok (.getfield 84, 3) := by decide +kernel
theorem dX4_wageShare_4 : decode cX4_wageShare 4 = .ok (.ifCond .eq 29, 3) := by decide +kernel
theorem dX4_wageShare_7 : decode cX4_wageShare 7 = .ok (.aload_n 0, 1) := by decide +kernel
theorem dX4_wageShare_8 : decode cX4_wageShare 8 = .ok (.getfield 28, 3) := by decide +kernel
theorem dX4_wageShare_11 : decode cX4_wageShare 11 = .ok (.getfield 60, 3) := by decide +kernel
theorem dX4_wageShare_14 : decode cX4_wageShare 14 = .ok (.ifCond .le 19, 3) := by decide +kernel
theorem dX4_wageShare_17 : decode cX4_wageShare 17 = .ok (.aload_n 0, 1) := by decide +kernel
theorem dX4_wageShare_18 : decode cX4_wageShare 18 = .ok (.invokevirtual 155, 3) := by decide +kernel
theorem dX4_wageShare_21 : decode cX4_wageShare 21 = .ok (.aload_n 0, 1) := by decide +kernel
theorem dX4_wageShare_22 : decode cX4_wageShare 22 = .ok (.getfield 28, 3) := by decide +kernel
theorem dX4_wageShare_25 : decode cX4_wageShare 25 = .ok (.getfield 60, 3) := by decide +kernel
theorem dX4_wageShare_28 : decode cX4_wageShare 28 = .ok (.i2l, 1) := by decide +kernel
theorem dX4_wageShare_29 : decode cX4_wageShare 29 = .ok (.ldiv, 1) := by decide +kernel
theorem dX4_wageShare_30 : decode cX4_wageShare 30 = .ok (.goto 4, 3) := by decide +kernel
theorem dX4_wageShare_33 : decode cX4_wageShare 33 = .ok (.lconst 0, 1) := by decide +kernel
theorem dX4_wageShare_34 : decode cX4_wageShare 34 = .ok (.lreturn, 1) := by decide +kernel
theorem dX4_worthTaken_0 : decode cX4_worthTaken 0 = .ok (.lconst 0, 1) := by decide +kernel
theorem dX4_worthTaken_1 : decode cX4_worthTaken 1 = .ok (.lstore_n 2, 1) := by decide +kernel
theorem dX4_worthTaken_2 : decode cX4_worthTaken 2 = .ok (.iconst 0, 1) := by decide +kernel
theorem dX4_worthTaken_3 : decode cX4_worthTaken 3 = .ok (.istore 4, 2) := by decide +kernel
theorem dX4_worthTaken_5 : decode cX4_worthTaken 5 = .ok (.iload 4, 2) := by decide +kernel
theorem dX4_worthTaken_7 : decode cX4_worthTaken 7 = .ok (.aload_n 0, 1) := by decide +kernel
theorem dX4_worthTaken_8 : decode cX4_worthTaken 8 = .ok (.getfield 28, 3) := by decide +kernel
theorem dX4_worthTaken_11 : decode cX4_worthTaken 11 = .ok (.getfield 60, 3) := by decide +kernel
theorem dX4_worthTaken_14 : decode cX4_worthTaken 14 = .ok (.if_icmp .ge 32, 3) := by decide +kernel
theorem dX4_worthTaken_17 : decode cX4_worthTaken 17 = .ok (.lload_n 2, 1) := by decide +kernel
theorem dX4_worthTaken_18 : decode cX4_worthTaken 18 = .ok (.aload_n 1, 1) := by decide +kernel
theorem dX4_worthTaken_19 : decode cX4_worthTaken 19 = .ok (.getfield 159, 3) := by decide +kernel
theorem dX4_worthTaken_22 : decode cX4_worthTaken 22 = .ok (.iload 4, 2) := by decide +kernel
theorem dX4_worthTaken_24 : decode cX4_worthTaken 24 = .ok (.iaload, 1) := by decide +kernel
theorem dX4_worthTaken_25 : decode cX4_worthTaken 25 = .ok (.i2l, 1) := by decide +kernel
theorem dX4_worthTaken_26 : decode cX4_worthTaken 26 = .ok (.aload_n 0, 1) := by decide +kernel
theorem dX4_worthTaken_27 : decode cX4_worthTaken 27 = .ok (.getfield 28, 3) := by decide +kernel
theorem dX4_worthTaken_30 : decode cX4_worthTaken 30 = .ok (.getfield 162, 3) := by decide +kernel
theorem dX4_worthTaken_33 : decode cX4_worthTaken 33 = .ok (.iload 4, 2) := by decide +kernel
theorem dX4_worthTaken_35 : decode cX4_worthTaken 35 = .ok (.iaload, 1) := by decide +kernel
theorem dX4_worthTaken_36 : decode cX4_worthTaken 36 = .ok (.i2l, 1) := by decide +kernel
theorem dX4_worthTaken_37 : decode cX4_worthTaken 37 = .ok (.lmul, 1) := by decide +kernel
theorem dX4_worthTaken_38 : decode cX4_worthTaken 38 = .ok (.ladd, 1) := by decide +kernel
theorem dX4_worthTaken_39 : decode cX4_worthTaken 39 = .ok (.lstore_n 2, 1) := by decide +kernel
theorem dX4_worthTaken_40 : decode cX4_worthTaken 40 = .ok (.iinc 4 1, 3) := by decide +kernel
theorem dX4_worthTaken_43 : decode cX4_worthTaken 43 = .ok (.goto (-38), 3) := by decide +kernel
theorem dX4_worthTaken_46 : decode cX4_worthTaken 46 = .ok (.lload_n 2, 1) := by decide +kernel
theorem dX4_worthTaken_47 : decode cX4_worthTaken 47 = .ok (.lreturn, 1) := by decide +kernel
theorem dX5_init_0 : decode cX5_init 0 = .ok (.aload_n 0, 1) := by decide +kernel
theorem dX5_init_1 : decode cX5_init 1 = .ok (.invokespecial 3, 3) := by decide +kernel
theorem dX5_init_4 : decode cX5_init 4 = .ok (.aload_n 0, 1) := by decide +kernel
theorem dX5_init_5 : decode cX5_init 5 = .ok (.new 9, 3) := by decide +kernel
theorem dX5_init_8 : decode cX5_init 8 = .ok (.dup, 1) := by decide +kernel
theorem dX5_init_9 : decode cX5_init 9 = .ok (.invokespecial 11, 3) := by decide +kernel
theorem dX5_init_12 : decode cX5_init 12 = .ok (.putfield 12, 3) := by decide +kernel
theorem dX5_init_15 : decode cX5_init 15 = .ok (.aload_n 0, 1) := by decide +kernel
theorem dX5_init_16 : decode cX5_init 16 = .ok (.iconst (-1), 1) := by decide +kernel
theorem dX5_init_17 : decode cX5_init 17 = .ok (.putfield 18, 3) := by decide +kernel
theorem dX5_init_20 : decode cX5_init 20 = .ok (.return_, 1) := by decide +kernel
theorem dX5_readInto_0 : decode cX5_readInto 0 = .ok (.aload_n 0, 1) := by decide +kernel
theorem dX5_readInto_1 : decode cX5_readInto 1 = .ok (.iconst 0, 1) := by decide +kernel
theorem dX5_readInto_2 : decode cX5_readInto 2 = .ok (.putfield 22, 3) := by decide +kernel
theorem dX5_readInto_5 : decode cX5_readInto 5 = .ok (.aload_n 0, 1) := by decide +kernel
theorem dX5_readInto_6 : decode cX5_readInto 6 = .ok (.iconst (-1), 1) := by decide +kernel
theorem dX5_readInto_7 : decode cX5_readInto 7 = .ok (.putfield 18, 3) := by decide +kernel
theorem dX5_readInto_10 : decode cX5_readInto 10 = .ok (.aload_n 1, 1) := by decide +kernel
theorem dX5_readInto_11 : decode cX5_readInto 11 = .ok (.invokevirtual 25, 3) := by decide +kernel
theorem dX5_readInto_14 : decode cX5_readInto 14 = .ok (.aload_n 0, 1) := by decide +kernel
theorem dX5_readInto_15 : decode cX5_readInto 15 = .ok (.getfield 12, 3) := by decide +kernel
theorem dX5_readInto_18 : decode cX5_readInto 18 = .ok (.invokevirtual 30, 3) := by decide +kernel
theorem dX5_readInto_21 : decode cX5_readInto 21 = .ok (.iconst 0, 1) := by decide +kernel
theorem dX5_readInto_22 : decode cX5_readInto 22 = .ok (.istore_n 2, 1) := by decide +kernel
theorem dX5_readInto_23 : decode cX5_readInto 23 = .ok (.iload_n 2, 1) := by decide +kernel
theorem dX5_readInto_24 : decode cX5_readInto 24 = .ok (.sipush 1600, 3) := by decide +kernel
theorem dX5_readInto_27 : decode cX5_readInto 27 = .ok (.if_icmp .ge 31, 3) := by decide +kernel
theorem dX5_readInto_30 : decode cX5_readInto 30 = .ok (.aload_n 0, 1) := by decide +kernel
theorem dX5_readInto_31 : decode cX5_readInto 31 = .ok (.getfield 22, 3) := by decide +kernel
theorem dX5_readInto_34 : decode cX5_readInto 34 = .ok (.ifCond .ne 24, 3) := by decide +kernel
theorem dX5_readInto_37 : decode cX5_readInto 37 = .ok (.aload_n 0, 1) := by decide +kernel
theorem dX5_readInto_38 : decode cX5_readInto 38 = .ok (.getfield 12, 3) := by decide +kernel
theorem dX5_readInto_41 : decode cX5_readInto 41 = .ok (.getfield 33, 3) := by decide +kernel
theorem dX5_readInto_44 : decode cX5_readInto 44 = .ok (.ifCond .eq 14, 3) := by decide +kernel
theorem dX5_readInto_47 : decode cX5_readInto 47 = .ok (.aload_n 0, 1) := by decide +kernel
theorem dX5_readInto_48 : decode cX5_readInto 48 = .ok (.aload_n 1, 1) := by decide +kernel
theorem dX5_readInto_49 : decode cX5_readInto 49 = .ok (.invokevirtual 36, 3) := by decide +kernel
theorem dX5_readInto_52 : decode cX5_readInto 52 = .ok (.iinc 2 1, 3) := by decide +kernel
theorem dX5_readInto_55 : decode cX5_readInto 55 = .ok (.goto (-32), 3) := by decide +kernel
theorem dX5_readInto_58 : decode cX5_readInto 58 = .ok (.aload_n 0, 1) := by decide +kernel
theorem dX5_readInto_59 : decode cX5_readInto 59 = .ok (.getfield 22, 3) := by decide +kernel
theorem dX5_readInto_62 : decode cX5_readInto 62 = .ok (.ifCond .ne 7, 3) := by decide +kernel
theorem dX5_readInto_65 : decode cX5_readInto 65 = .ok (.iconst 1, 1) := by decide +kernel
theorem dX5_readInto_66 : decode cX5_readInto 66 = .ok (.goto 4, 3) := by decide +kernel
theorem dX5_readInto_69 : decode cX5_readInto 69 = .ok (.iconst 0, 1) := by decide +kernel
theorem dX5_readInto_70 : decode cX5_readInto 70 = .ok (.ireturn, 1) := by decide +kernel
theorem dX5_readLine_0 : decode cX5_readLine 0 = .ok (.aload_n 1, 1) := by decide +kernel
theorem dX5_readLine_1 : decode cX5_readLine 1 = .ok (.getfield 40, 3) := by decide +kernel
theorem dX5_readLine_4 : decode cX5_readLine 4 = .ok (.ifCond .ne 11, 3) := by decide +kernel
theorem dX5_readLine_7 : decode cX5_readLine 7 = .ok (.aload_n 0, 1) := by decide +kernel
theorem dX5_readLine_8 : decode cX5_readLine 8 = .ok (.aload_n 1, 1) := by decide +kernel
theorem dX5_readLine_9 : decode cX5_readLine 9 = .ok (.invokevirtual 43, 3) := by decide +kernel
theorem dX5_readLine_12 : decode cX5_readLine 12 = .ok (.goto 248, 3) := by decide +kernel
theorem dX5_readLine_15 : decode cX5_readLine 15 = .ok (.aload_n 0, 1) := by decide +kernel
theorem dX5_readLine_16 : decode cX5_readLine 16 = .ok (.getfield 12, 3) := by decide +kernel
theorem dX5_readLine_19 : decode cX5_readLine 19 = .ok (.ldc 46, 2) := by decide +kernel
theorem dX5_readLine_21 : decode cX5_readLine 21 = .ok (.invokevirtual 48, 3) := by decide +kernel
theorem dX5_readLine_24 : decode cX5_readLine 24 = .ok (.ifCond .eq 32, 3) := by decide +kernel
theorem dX5_readLine_27 : decode cX5_readLine 27 = .ok (.aload_n 0, 1) := by decide +kernel
theorem dX5_readLine_28 : decode cX5_readLine 28 = .ok (.aload_n 1, 1) := by decide +kernel
theorem dX5_readLine_29 : decode cX5_readLine 29 = .ok (.getfield 52, 3) := by decide +kernel
theorem dX5_readLine_32 : decode cX5_readLine 32 = .ok (.getfield 56, 3) := by decide +kernel
theorem dX5_readLine_35 : decode cX5_readLine 35 = .ok (.iconst 4, 1) := by decide +kernel
theorem dX5_readLine_36 : decode cX5_readLine 36 = .ok (.if_icmp .ge 7, 3) := by decide +kernel
theorem dX5_readLine_39 : decode cX5_readLine 39 = .ok (.iconst 1, 1) := by decide +kernel
theorem dX5_readLine_40 : decode cX5_readLine 40 = .ok (.goto 4, 3) := by decide +kernel
theorem dX5_readLine_43 : decode cX5_readLine 43 = .ok (.iconst 0, 1) := by decide +kernel
theorem dX5_readLine_44 : decode cX5_readLine 44 = .ok (.iconst 3, 1) := by decide +kernel
theorem dX5_readLine_45 : decode cX5_readLine 45 = .ok (.invokevirtual 61, 3) := by decide +kernel
theorem dX5_readLine_48 : decode cX5_readLine 48 = .ok (.aload_n 0, 1) := by decide +kernel
theorem dX5_readLine_49 : decode cX5_readLine 49 = .ok (.aload_n 1, 1) := by decide +kernel
theorem dX5_readLine_50 : decode cX5_readLine 50 = .ok (.invokevirtual 65, 3) := by decide +kernel
theorem dX5_readLine_53 : decode cX5_readLine 53 = .ok (.goto 207, 3) := by decide +kernel
theorem dX5_readLine_56 : decode cX5_readLine 56 = .ok (.aload_n 0, 1) := by decide +kernel
theorem dX5_readLine_57 : decode cX5_readLine 57 = .ok (.getfield 12, 3) := by decide +kernel
theorem dX5_readLine_60 : decode cX5_readLine 60 = .ok (.ldc 68, 2) := by decide +kernel
theorem dX5_readLine_62 : decode cX5_readLine 62 = .ok (.invokevirtual 48, 3) := by decide +kernel
theorem dX5_readLine_65 : decode cX5_readLine 65 = .ok (.ifCond .eq 32, 3) := by decide +kernel
theorem dX5_readLine_68 : decode cX5_readLine 68 = .ok (.aload_n 0, 1) := by decide +kernel
theorem dX5_readLine_69 : decode cX5_readLine 69 = .ok (.aload_n 1, 1) := by decide +kernel
theorem dX5_readLine_70 : decode cX5_readLine 70 = .ok (.getfield 70, 3) := by decide +kernel
theorem dX5_readLine_73 : decode cX5_readLine 73 = .ok (.getfield 74, 3) := by decide +kernel
theorem dX5_readLine_76 : decode cX5_readLine 76 = .ok (.iconst 5, 1) := by decide +kernel
theorem dX5_readLine_77 : decode cX5_readLine 77 = .ok (.if_icmp .ge 7, 3) := by decide +kernel
theorem dX5_readLine_80 : decode cX5_readLine 80 = .ok (.iconst 1, 1) := by decide +kernel
theorem dX5_readLine_81 : decode cX5_readLine 81 = .ok (.goto 4, 3) := by decide +kernel
theorem dX5_readLine_84 : decode cX5_readLine 84 = .ok (.iconst 0, 1) := by decide +kernel
theorem dX5_readLine_85 : decode cX5_readLine 85 = .ok (.iconst 3, 1) := by decide +kernel
theorem dX5_readLine_86 : decode cX5_readLine 86 = .ok (.invokevirtual 61, 3) := by decide +kernel
theorem dX5_readLine_89 : decode cX5_readLine 89 = .ok (.aload_n 0, 1) := by decide +kernel
theorem dX5_readLine_90 : decode cX5_readLine 90 = .ok (.aload_n 1, 1) := by decide +kernel
theorem dX5_readLine_91 : decode cX5_readLine 91 = .ok (.invokevirtual 77, 3) := by decide +kernel
theorem dX5_readLine_94 : decode cX5_readLine 94 = .ok (.goto 166, 3) := by decide +kernel
theorem dX5_readLine_97 : decode cX5_readLine 97 = .ok (.aload_n 0, 1) := by decide +kernel
theorem dX5_readLine_98 : decode cX5_readLine 98 = .ok (.getfield 12, 3) := by decide +kernel
theorem dX5_readLine_101 : decode cX5_readLine 101 = .ok (.ldc 80, 2) := by decide +kernel
theorem dX5_readLine_103 : decode cX5_readLine 103 = .ok (.invokevirtual 48, 3) := by decide +kernel
theorem dX5_readLine_106 : decode cX5_readLine 106 = .ok (.ifCond .eq 33, 3) := by decide +kernel
theorem dX5_readLine_109 : decode cX5_readLine 109 = .ok (.aload_n 0, 1) := by decide +kernel
theorem dX5_readLine_110 : decode cX5_readLine 110 = .ok (.aload_n 1, 1) := by decide +kernel
theorem dX5_readLine_111 : decode cX5_readLine 111 = .ok (.getfield 82, 3) := by decide +kernel
theorem dX5_readLine_114 : decode cX5_readLine 114 = .ok (.getfield 86, 3) := by decide +kernel
theorem dX5_readLine_117 : decode cX5_readLine 117 = .ok (.bipush 10, 2) := by decide +kernel
theorem dX5_readLine_119 : decode cX5_readLine 119 = .ok (.if_icmp .ge 7, 3) := by decide +kernel
theorem dX5_readLine_122 : decode cX5_readLine 122 = .ok (.iconst 1, 1) := by decide +kernel
theorem dX5_readLine_123 : decode cX5_readLine 123 = .ok (.goto 4, 3) := by decide +kernel
theorem dX5_readLine_126 : decode cX5_readLine 126 = .ok (.iconst 0, 1) := by decide +kernel
theorem dX5_readLine_127 : decode cX5_readLine 127 = .ok (.iconst 3, 1) := by decide +kernel
theorem dX5_readLine_128 : decode cX5_readLine 128 = .ok (.invokevirtual 61, 3) := by decide +kernel
theorem dX5_readLine_131 : decode cX5_readLine 131 = .ok (.aload_n 0, 1) := by decide +kernel
theorem dX5_readLine_132 : decode cX5_readLine 132 = .ok (.aload_n 1, 1) := by decide +kernel
theorem dX5_readLine_133 : decode cX5_readLine 133 = .ok (.invokevirtual 89, 3) := by decide +kernel
theorem dX5_readLine_136 : decode cX5_readLine 136 = .ok (.goto 124, 3) := by decide +kernel
theorem dX5_readLine_139 : decode cX5_readLine 139 = .ok (.aload_n 0, 1) := by decide +kernel
theorem dX5_readLine_140 : decode cX5_readLine 140 = .ok (.getfield 12, 3) := by decide +kernel
theorem dX5_readLine_143 : decode cX5_readLine 143 = .ok (.ldc 92, 2) := by decide +kernel
theorem dX5_readLine_145 : decode cX5_readLine 145 = .ok (.invokevirtual 48, 3) := by decide +kernel
theorem dX5_readLine_148 : decode cX5_readLine 148 = .ok (.ifCond .eq 33, 3) := by decide +kernel
theorem dX5_readLine_151 : decode cX5_readLine 151 = .ok (.aload_n 0, 1) := by decide +kernel
theorem dX5_readLine_152 : decode cX5_readLine 152 = .ok (.aload_n 1, 1) := by decide +kernel
theorem dX5_readLine_153 : decode cX5_readLine 153 = .ok (.getfield 94, 3) := by decide +kernel
theorem dX5_readLine_156 : decode cX5_readLine 156 = .ok (.getfield 98, 3) := by decide +kernel
theorem dX5_readLine_159 : decode cX5_readLine 159 = .ok (.bipush 6, 2) := by decide +kernel
theorem dX5_readLine_161 : decode cX5_readLine 161 = .ok (.if_icmp .ge 7, 3) := by decide +kernel
theorem dX5_readLine_164 : decode cX5_readLine 164 = .ok (.iconst 1, 1) := by decide +kernel
theorem dX5_readLine_165 : decode cX5_readLine 165 = .ok (.goto 4, 3) := by decide +kernel
theorem dX5_readLine_168 : decode cX5_readLine 168 = .ok (.iconst 0, 1) := by decide +kernel
theorem dX5_readLine_169 : decode cX5_readLine 169 = .ok (.iconst 3, 1) := by decide +kernel
theorem dX5_readLine_170 : decode cX5_readLine 170 = .ok (.invokevirtual 61, 3) := by decide +kernel
theorem dX5_readLine_173 : decode cX5_readLine 173 = .ok (.aload_n 0, 1) := by decide +kernel
theorem dX5_readLine_174 : decode cX5_readLine 174 = .ok (.aload_n 1, 1) := by decide +kernel
theorem dX5_readLine_175 : decode cX5_readLine 175 = .ok (.invokevirtual 101, 3) := by decide +kernel
theorem dX5_readLine_178 : decode cX5_readLine 178 = .ok (.goto 82, 3) := by decide +kernel
theorem dX5_readLine_181 : decode cX5_readLine 181 = .ok (.aload_n 0, 1) := by decide +kernel
theorem dX5_readLine_182 : decode cX5_readLine 182 = .ok (.getfield 12, 3) := by decide +kernel
theorem dX5_readLine_185 : decode cX5_readLine 185 = .ok (.ldc 104, 2) := by decide +kernel
theorem dX5_readLine_187 : decode cX5_readLine 187 = .ok (.invokevirtual 48, 3) := by decide +kernel
theorem dX5_readLine_190 : decode cX5_readLine 190 = .ok (.ifCond .eq 28, 3) := by decide +kernel
theorem dX5_readLine_193 : decode cX5_readLine 193 = .ok (.aload_n 0, 1) := by decide +kernel
theorem dX5_readLine_194 : decode cX5_readLine 194 = .ok (.aload_n 1, 1) := by decide +kernel
theorem dX5_readLine_195 : decode cX5_readLine 195 = .ok (.getfield 106, 3) := by decide +kernel
theorem dX5_readLine_198 : decode cX5_readLine 198 = .ok (.ifCond .ne 7, 3) := by decide +kernel
theorem dX5_readLine_201 : decode cX5_readLine 201 = .ok (.iconst 1, 1) := by decide +kernel
theorem dX5_readLine_202 : decode cX5_readLine 202 = .ok (.goto 4, 3) := by decide +kernel
theorem dX5_readLine_205 : decode cX5_readLine 205 = .ok (.iconst 0, 1) := by decide +kernel
theorem dX5_readLine_206 : decode cX5_readLine 206 = .ok (.iconst 2, 1) := by decide +kernel
theorem dX5_readLine_207 : decode cX5_readLine 207 = .ok (.invokevirtual 61, 3) := by decide +kernel
theorem dX5_readLine_210 : decode cX5_readLine 210 = .ok (.aload_n 0, 1) := by decide +kernel
theorem dX5_readLine_211 : decode cX5_readLine 211 = .ok (.aload_n 1, 1) := by decide +kernel
theorem dX5_readLine_212 : decode cX5_readLine 212 = .ok (.invokevirtual 110, 3) := by decide +kernel
theorem dX5_readLine_215 : decode cX5_readLine 215 = .ok (.goto 45, 3) := by decide +kernel
theorem dX5_readLine_218 : decode cX5_readLine 218 = .ok (.aload_n 0, 1) := by decide +kernel
theorem dX5_readLine_219 : decode cX5_readLine 219 = .ok (.getfield 12, 3) := by decide +kernel
theorem dX5_readLine_222 : decode cX5_readLine 222 = .ok (.ldc 113, 2) := by decide +kernel
theorem dX5_readLine_224 : decode cX5_readLine 224 = .ok (.invokevirtual 48, 3) := by decide +kernel
theorem dX5_readLine_227 : decode cX5_readLine 227 = .ok (.ifCond .eq 28, 3) := by decide +kernel
theorem dX5_readLine_230 : decode cX5_readLine 230 = .ok (.aload_n 0, 1) := by decide +kernel
theorem dX5_readLine_231 : decode cX5_readLine 231 = .ok (.aload_n 1, 1) := by decide +kernel
theorem dX5_readLine_232 : decode cX5_readLine 232 = .ok (.getfield 115, 3) := by decide +kernel
theorem dX5_readLine_235 : decode cX5_readLine 235 = .ok (.ifCond .ne 7, 3) := by decide +kernel
theorem dX5_readLine_238 : decode cX5_readLine 238 = .ok (.iconst 1, 1) := by decide +kernel
theorem dX5_readLine_239 : decode cX5_readLine 239 = .ok (.goto 4, 3) := by decide +kernel
theorem dX5_readLine_242 : decode cX5_readLine 242 = .ok (.iconst 0, 1) := by decide +kernel
theorem dX5_readLine_243 : decode cX5_readLine 243 = .ok (.iconst 2, 1) := by decide +kernel
theorem dX5_readLine_244 : decode cX5_readLine 244 = .ok (.invokevirtual 61, 3) := by decide +kernel
theorem dX5_readLine_247 : decode cX5_readLine 247 = .ok (.aload_n 0, 1) := by decide +kernel
theorem dX5_readLine_248 : decode cX5_readLine 248 = .ok (.aload_n 1, 1) := by decide +kernel
theorem dX5_readLine_249 : decode cX5_readLine 249 = .ok (.invokevirtual 118, 3) := by decide +kernel
theorem dX5_readLine_252 : decode cX5_readLine 252 = .ok (.goto 8, 3) := by decide +kernel
theorem dX5_readLine_255 : decode cX5_readLine 255 = .ok (.aload_n 0, 1) := by decide +kernel
theorem dX5_readLine_256 : decode cX5_readLine 256 = .ok (.iconst 1, 1) := by decide +kernel
theorem dX5_readLine_257 : decode cX5_readLine 257 = .ok (.invokevirtual 121, 3) := by decide +kernel
theorem dX5_readLine_260 : decode cX5_readLine 260 = .ok (.aload_n 0, 1) := by decide +kernel
theorem dX5_readLine_261 : decode cX5_readLine 261 = .ok (.invokevirtual 125, 3) := by decide +kernel
theorem dX5_readLine_264 : decode cX5_readLine 264 = .ok (.aload_n 1, 1) := by decide +kernel
theorem dX5_readLine_265 : decode cX5_readLine 265 = .ok (.dup, 1) := by decide +kernel
theorem dX5_readLine_266 : decode cX5_readLine 266 = .ok (.getfield 40, 3) := by decide +kernel
theorem dX5_readLine_269 : decode cX5_readLine 269 = .ok (.iconst 1, 1) := by decide +kernel
theorem dX5_readLine_270 : decode cX5_readLine 270 = .ok (.iadd, 1) := by decide +kernel
theorem dX5_readLine_271 : decode cX5_readLine 271 = .ok (.putfield 40, 3) := by decide +kernel
theorem dX5_readLine_274 : decode cX5_readLine 274 = .ok (.return_, 1) := by decide +kernel
theorem dX5_readHead_0 : decode cX5_readHead 0 = .ok (.iload_n 1, 1) := by decide +kernel
theorem dX5_readHead_1 : decode cX5_readHead 1 = .ok (.ifCond .eq 13, 3) := by decide +kernel
theorem dX5_readHead_4 : decode cX5_readHead 4 = .ok (.aload_n 0, 1) := by decide +kernel
theorem dX5_readHead_5 : decode cX5_readHead 5 = .ok (.getfield 12, 3) := by decide +kernel
theorem dX5_readHead_8 : decode cX5_readHead 8 = .ok (.invokevirtual 128, 3) := by decide +kernel
theorem dX5_readHead_11 : decode cX5_readHead 11 = .ok (.goto 8, 3) := by decide +kernel
theorem dX5_readHead_14 : decode cX5_readHead 14 = .ok (.aload_n 0, 1) := by decide +kernel
theorem dX5_readHead_15 : decode cX5_readHead 15 = .ok (.iload_n 2, 1) := by decide +kernel
theorem dX5_readHead_16 : decode cX5_readHead 16 = .ok (.invokevirtual 121, 3) := by decide +kernel
theorem dX5_readHead_19 : decode cX5_readHead 19 = .ok (.return_, 1) := by decide +kernel
theorem dX5_readRail_0 : decode cX5_readRail 0 = .ok (.aload_n 0, 1) := by decide +kernel
theorem dX5_readRail_1 : decode cX5_readRail 1 = .ok (.ldc 131, 2) := by decide +kernel
theorem dX5_readRail_3 : decode cX5_readRail 3 = .ok (.invokevirtual 133, 3) := by decide +kernel
theorem dX5_readRail_6 : decode cX5_readRail 6 = .ok (.aload_n 0, 1) := by decide +kernel
theorem dX5_readRail_7 : decode cX5_readRail 7 = .ok (.ldc 137, 2) := by decide +kernel
theorem dX5_readRail_9 : decode cX5_readRail 9 = .ok (.invokevirtual 133, 3) := by decide +kernel
theorem dX5_readRail_12 : decode cX5_readRail 12 = .ok (.aload_n 1, 1) := by decide +kernel
theorem dX5_readRail_13 : decode cX5_readRail 13 = .ok (.aload_n 0, 1) := by decide +kernel
theorem dX5_readRail_14 : decode cX5_readRail 14 = .ok (.iconst 1, 1) := by decide +kernel
theorem dX5_readRail_15 : decode cX5_readRail 15 = .ok (.bipush 20, 2) := by decide +kernel
theorem dX5_readRail_17 : decode cX5_readRail 17 = .ok (.invokevirtual 139, 3) := by decide +kernel
theorem dX5_readRail_20 : decode cX5_readRail 20 = .ok (.putfield 143, 3) := by decide +kernel
theorem dX5_readRail_23 : decode cX5_readRail 23 = .ok (.aload_n 0, 1) := by decide +kernel
theorem dX5_readRail_24 : decode cX5_readRail 24 = .ok (.ldc 145, 2) := by decide +kernel
theorem dX5_readRail_26 : decode cX5_readRail 26 = .ok (.invokevirtual 133, 3) := by decide +kernel
theorem dX5_readRail_29 : decode cX5_readRail 29 = .ok (.aload_n 1, 1) := by decide +kernel
theorem dX5_readRail_30 : decode cX5_readRail 30 = .ok (.aload_n 0, 1) := by decide +kernel
theorem dX5_readRail_31 : decode cX5_readRail 31 = .ok (.iconst 1, 1) := by decide +kernel
theorem dX5_readRail_32 : decode cX5_readRail 32 = .ok (.bipush 60, 2) := by decide +kernel
theorem dX5_readRail_34 : decode cX5_readRail 34 = .ok (.invokevirtual 139, 3) := by decide +kernel
theorem dX5_readRail_37 : decode cX5_readRail 37 = .ok (.putfield 147, 3) := by decide +kernel
theorem dX5_readRail_40 : decode cX5_readRail 40 = .ok (.return_, 1) := by decide +kernel
theorem dX5_readLamp_0 : decode cX5_readLamp 0 = .ok (.aload_n 0, 1) := by decide +kernel
theorem dX5_readLamp_1 : decode cX5_readLamp 1 = .ok (.ldc 149, 2) := by decide +kernel
theorem dX5_readLamp_3 : decode cX5_readLamp 3 = .ok (.invokevirtual 133, 3) := by decide +kernel
theorem dX5_readLamp_6 : decode cX5_readLamp 6 = .ok (.aload_n 0, 1) := by decide +kernel
theorem dX5_readLamp_7 : decode cX5_readLamp 7 = .ok (.iconst 0, 1) := by decide +kernel
theorem dX5_readLamp_8 : decode cX5_readLamp 8 = .ok (.aload_n 1, 1) := by decide +kernel
theorem dX5_readLamp_9 : decode cX5_readLamp 9 = .ok (.getfield 143, 3) := by decide +kernel
theorem dX5_readLamp_12 : decode cX5_readLamp 12 = .ok (.iconst 1, 1) := by decide +kernel
theorem dX5_readLamp_13 : decode cX5_readLamp 13 = .ok (.isub, 1) := by decide +kernel
theorem dX5_readLamp_14 : decode cX5_readLamp 14 = .ok (.invokevirtual 139, 3) := by decide +kernel
theorem dX5_readLamp_17 : decode cX5_readLamp 17 = .ok (.istore_n 2, 1) := by decide +kernel
theorem dX5_readLamp_18 : decode cX5_readLamp 18 = .ok (.aload_n 0, 1) := by decide +kernel
theorem dX5_readLamp_19 : decode cX5_readLamp 19 = .ok (.ldc 151, 2) := by decide +kernel
theorem dX5_readLamp_21 : decode cX5_readLamp 21 = .ok (.invokevirtual 133, 3) := by decide +kernel
theorem dX5_readLamp_24 : decode cX5_readLamp 24 = .ok (.aload_n 0, 1) := by decide +kernel
theorem dX5_readLamp_25 : decode cX5_readLamp 25 = .ok (.iconst 0, 1) := by decide +kernel
theorem dX5_readLamp_26 : decode cX5_readLamp 26 = .ok (.bipush 99, 2) := by decide +kernel
theorem dX5_readLamp_28 : decode cX5_readLamp 28 = .ok (.invokevirtual 139, 3) := by decide +kernel
theorem dX5_readLamp_31 : decode cX5_readLamp 31 = .ok (.istore_n 3, 1) := by decide +kernel
theorem dX5_readLamp_32 : decode cX5_readLamp 32 = .ok (.aload_n 0, 1) := by decide +kernel
theorem dX5_readLamp_33 : decode cX5_readLamp 33 = .ok (.getfield 22, 3) := by decide +kernel
theorem dX5_readLamp_36 : decode cX5_readLamp 36 = .ok (.ifCond .ne 12, 3) := by decide +kernel
theorem dX5_readLamp_39 : decode cX5_readLamp 39 = .ok (.aload_n 1, 1) := by decide +kernel
theorem dX5_readLamp_40 : decode cX5_readLamp 40 = .ok (.getfield 52, 3) := by decide +kernel
theorem dX5_readLamp_43 : decode cX5_readLamp 43 = .ok (.iload_n 2, 1) := by decide +kernel
theorem dX5_readLamp_44 : decode cX5_readLamp 44 = .ok (.iload_n 3, 1) := by decide +kernel
theorem dX5_readLamp_45 : decode cX5_readLamp 45 = .ok (.invokevirtual 153, 3) := by decide +kernel
theorem dX5_readLamp_48 : decode cX5_readLamp 48 = .ok (.return_, 1) := by decide +kernel
theorem dX5_readLock_0 : decode cX5_readLock 0 = .ok (.aload_n 0, 1) := by decide +kernel
theorem dX5_readLock_1 : decode cX5_readLock 1 = .ok (.ldc 157, 2) := by decide +kernel
theorem dX5_readLock_3 : decode cX5_readLock 3 = .ok (.invokevirtual 133, 3) := by decide +kernel
theorem dX5_readLock_6 : decode cX5_readLock 6 = .ok (.aload_n 0, 1) := by decide +kernel
theorem dX5_readLock_7 : decode cX5_readLock 7 = .ok (.iconst 0, 1) := by decide +kernel
theorem dX5_readLock_8 : decode cX5_readLock 8 = .ok (.sipush 999, 3) := by decide +kernel
theorem dX5_readLock_11 : decode cX5_readLock 11 = .ok (.invokevirtual 139, 3) := by decide +kernel
theorem dX5_readLock_14 : decode cX5_readLock 14 = .ok (.istore_n 2, 1) := by decide +kernel
theorem dX5_readLock_15 : decode cX5_readLock 15 = .ok (.aload_n 0, 1) := by decide +kernel
theorem dX5_readLock_16 : decode cX5_readLock 16 = .ok (.ldc 159, 2) := by decide +kernel
theorem dX5_readLock_18 : decode cX5_readLock 18 = .ok (.invokevirtual 133, 3) := by decide +kernel
theorem dX5_readLock_21 : decode cX5_readLock 21 = .ok (.aload_n 0, 1) := by decide +kernel
theorem dX5_readLock_22 : decode cX5_readLock 22 = .ok (.iconst 1, 1) := by decide +kernel
theorem dX5_readLock_23 : decode cX5_readLock 23 = .ok (.sipush 999, 3) := by decide +kernel
theorem dX5_readLock_26 : decode cX5_readLock 26 = .ok (.invokevirtual 139, 3) := by decide +kernel
theorem dX5_readLock_29 : decode cX5_readLock 29 = .ok (.istore_n 3, 1) := by decide +kernel
theorem dX5_readLock_30 : decode cX5_readLock 30 = .ok (.aload_n 0, 1) := by decide +kernel
theorem dX5_readLock_31 : decode cX5_readLock 31 = .ok (.iconst 1, 1) := by decide +kernel
theorem dX5_readLock_32 : decode cX5_readLock 32 = .ok (.sipush 999, 3) := by decide +kernel
theorem dX5_readLock_35 : decode cX5_readLock 35 = .ok (.invokevirtual 139, 3) := by decide +kernel
theorem dX5_readLock_38 : decode cX5_readLock 38 = .ok (.istore 4, 2) := by decide +kernel
theorem dX5_readLock_40 : decode cX5_readLock 40 = .ok (.aload_n 0, 1) := by decide +kernel
theorem dX5_readLock_41 : decode cX5_readLock 41 = .ok (.iconst 1, 1) := by decide +kernel
theorem dX5_readLock_42 : decode cX5_readLock 42 = .ok (.sipush 999, 3) := by decide +kernel
theorem dX5_readLock_45 : decode cX5_readLock 45 = .ok (.invokevirtual 139, 3) := by decide +kernel
theorem dX5_readLock_48 : decode cX5_readLock 48 = .ok (.istore 5, 2) := by decide +kernel
theorem dX5_readLock_50 : decode cX5_readLock 50 = .ok (.aload_n 0, 1) := by decide +kernel
theorem dX5_readLock_51 : decode cX5_readLock 51 = .ok (.getfield 22, 3) := by decide +kernel
theorem dX5_readLock_54 : decode cX5_readLock 54 = .ok (.ifCond .ne 16, 3) := by decide +kernel
theorem dX5_readLock_57 : decode cX5_readLock 57 = .ok (.aload_n 1, 1) := by decide +kernel
theorem dX5_readLock_58 : decode cX5_readLock 58 = .ok (.getfield 70, 3) := by decide +kernel
theorem dX5_readLock_61 : decode cX5_readLock 61 = .ok (.iload_n 2, 1) := by decide +kernel
theorem dX5_readLock_62 : decode cX5_readLock 62 = .ok (.iload_n 3, 1) := by decide +kernel
theorem dX5_readLock_63 : decode cX5_readLock 63 = .ok (.iload 4, 2) := by decide +kernel
theorem dX5_readLock_65 : decode cX5_readLock 65 = .ok (.iload 5, 2) := by decide +kernel
theorem dX5_readLock_67 : decode cX5_readLock 67 = .ok (.invokevirtual 161, 3) := by decide +kernel
theorem dX5_readLock_70 : decode cX5_readLock 70 = .ok (.return_, 1) := by decide +kernel
theorem dX5_readBike_0 : decode cX5_readBike 0 = .ok (.aload_n 0, 1) := by decide +kernel
theorem dX5_readBike_1 : decode cX5_readBike 1 = .ok (.ldc 164, 2) := by decide +kernel
theorem dX5_readBike_3 : decode cX5_readBike 3 = .ok (.invokevirtual 133, 3) := by decide +kernel
theorem dX5_readBike_6 : decode cX5_readBike 6 = .ok (.aload_n 0, 1) := by decide +kernel
theorem dX5_readBike_7 : decode cX5_readBike 7 = .ok (.iconst 0, 1) := by decide +kernel
theorem dX5_readBike_8 : decode cX5_readBike 8 = .ok (.sipush 9999, 3) := by decide +kernel
theorem dX5_readBike_11 : decode cX5_readBike 11 = .ok (.invokevirtual 139, 3) := by decide +kernel
theorem dX5_readBike_14 : decode cX5_readBike 14 = .ok (.istore_n 2, 1) := by decide +kernel
theorem dX5_readBike_15 : decode cX5_readBike 15 = .ok (.aload_n 0, 1) := by decide +kernel
theorem dX5_readBike_16 : decode cX5_readBike 16 = .ok (.ldc 166, 2) := by decide +kernel
theorem dX5_readBike_18 : decode cX5_readBike 18 = .ok (.invokevirtual 133, 3) := by decide +kernel
theorem dX5_readBike_21 : decode cX5_readBike 21 = .ok (.aload_n 0, 1) := by decide +kernel
theorem dX5_readBike_22 : decode cX5_readBike 22 = .ok (.iconst 0, 1) := by decide +kernel
theorem dX5_readBike_23 : decode cX5_readBike 23 = .ok (.sipush 9999, 3) := by decide +kernel
theorem dX5_readBike_26 : decode cX5_readBike 26 = .ok (.invokevirtual 139, 3) := by decide +kernel
theorem dX5_readBike_29 : decode cX5_readBike 29 = .ok (.istore_n 3, 1) := by decide +kernel
theorem dX5_readBike_30 : decode cX5_readBike 30 = .ok (.aload_n 0, 1) := by decide +kernel
theorem dX5_readBike_31 : decode cX5_readBike 31 = .ok (.ldc 149, 2) := by decide +kernel
theorem dX5_readBike_33 : decode cX5_readBike 33 = .ok (.invokevirtual 133, 3) := by decide +kernel
theorem dX5_readBike_36 : decode cX5_readBike 36 = .ok (.aload_n 0, 1) := by decide +kernel
theorem dX5_readBike_37 : decode cX5_readBike 37 = .ok (.getfield 12, 3) := by decide +kernel
theorem dX5_readBike_40 : decode cX5_readBike 40 = .ok (.getfield 33, 3) := by decide +kernel
theorem dX5_readBike_43 : decode cX5_readBike 43 = .ok (.iconst 2, 1) := by decide +kernel
theorem dX5_readBike_44 : decode cX5_readBike 44 = .ok (.if_icmp .ne 26, 3) := by decide +kernel
theorem dX5_readBike_47 : decode cX5_readBike 47 = .ok (.aload_n 1, 1) := by decide +kernel
theorem dX5_readBike_48 : decode cX5_readBike 48 = .ok (.getfield 82, 3) := by decide +kernel
theorem dX5_readBike_51 : decode cX5_readBike 51 = .ok (.aload_n 0, 1) := by decide +kernel
theorem dX5_readBike_52 : decode cX5_readBike 52 = .ok (.getfield 12, 3) := by decide +kernel
theorem dX5_readBike_55 : decode cX5_readBike 55 = .ok (.getfield 168, 3) := by decide +kernel
theorem dX5_readBike_58 : decode cX5_readBike 58 = .ok (.invokevirtual 171, 3) := by decide +kernel
theorem dX5_readBike_61 : decode cX5_readBike 61 = .ok (.iconst (-1), 1) := by decide +kernel
theorem dX5_readBike_62 : decode cX5_readBike 62 = .ok (.if_icmp .eq 8, 3) := by decide +kernel
theorem dX5_readBike_65 : decode cX5_readBike 65 = .ok (.aload_n 0, 1) := by decide +kernel
theorem dX5_readBike_66 : decode cX5_readBike 66 = .ok (.iconst 2, 1) := by decide +kernel
theorem dX5_readBike_67 : decode cX5_readBike 67 = .ok (.invokevirtual 121, 3) := by decide +kernel
theorem dX5_readBike_70 : decode cX5_readBike 70 = .ok (.aload_n 0, 1) := by decide +kernel
theorem dX5_readBike_71 : decode cX5_readBike 71 = .ok (.iconst 0, 1) := by decide +kernel
theorem dX5_readBike_72 : decode cX5_readBike 72 = .ok (.aload_n 1, 1) := by decide +kernel
theorem dX5_readBike_73 : decode cX5_readBike 73 = .ok (.getfield 143, 3) := by decide +kernel
theorem dX5_readBike_76 : decode cX5_readBike 76 = .ok (.iconst 1, 1) := by decide +kernel
theorem dX5_readBike_77 : decode cX5_readBike 77 = .ok (.isub, 1) := by decide +kernel
theorem dX5_readBike_78 : decode cX5_readBike 78 = .ok (.invokevirtual 139, 3) := by decide +kernel
theorem dX5_readBike_81 : decode cX5_readBike 81 = .ok (.istore 4, 2) := by decide +kernel
theorem dX5_readBike_83 : decode cX5_readBike 83 = .ok (.iconst (-1), 1) := by decide +kernel
theorem dX5_readBike_84 : decode cX5_readBike 84 = .ok (.istore 5, 2) := by decide +kernel
theorem dX5_readBike_86 : decode cX5_readBike 86 = .ok (.aload_n 0, 1) := by decide +kernel
theorem dX5_readBike_87 : decode cX5_readBike 87 = .ok (.ldc 68, 2) := by decide +kernel
theorem dX5_readBike_89 : decode cX5_readBike 89 = .ok (.invokevirtual 175, 3) := by decide +kernel
theorem dX5_readBike_92 : decode cX5_readBike 92 = .ok (.ifCond .eq 19, 3) := by decide +kernel
theorem dX5_readBike_95 : decode cX5_readBike 95 = .ok (.aload_n 0, 1) := by decide +kernel
theorem dX5_readBike_96 : decode cX5_readBike 96 = .ok (.iconst 0, 1) := by decide +kernel
theorem dX5_readBike_97 : decode cX5_readBike 97 = .ok (.aload_n 1, 1) := by decide +kernel
theorem dX5_readBike_98 : decode cX5_readBike 98 = .ok (.getfield 70, 3) := by decide +kernel
theorem dX5_readBike_101 : decode cX5_readBike 101 = .ok (.getfield 74, 3) := by decide +kernel
theorem dX5_readBike_104 : decode cX5_readBike 104 = .ok (.iconst 1, 1) := by decide +kernel
theorem dX5_readBike_105 : decode cX5_readBike 105 = .ok (.isub, 1) := by decide +kernel
theorem dX5_readBike_106 : decode cX5_readBike 106 = .ok (.invokevirtual 139, 3) := by decide +kernel
theorem dX5_readBike_109 : decode cX5_readBike 109 = .ok (.istore 5, 2) := by decide +kernel
theorem dX5_readBike_111 : decode cX5_readBike 111 = .ok (.aload_n 0, 1) := by decide +kernel
theorem dX5_readBike_112 : decode cX5_readBike 112 = .ok (.ldc 178, 2) := by decide +kernel
theorem dX5_readBike_114 : decode cX5_readBike 114 = .ok (.invokevirtual 175, 3) := by decide +kernel
theorem dX5_readBike_117 : decode cX5_readBike 117 = .ok (.istore 6, 2) := by decide +kernel
theorem dX5_readBike_119 : decode cX5_readBike 119 = .ok (.aload_n 0, 1) := by decide +kernel
theorem dX5_readBike_120 : decode cX5_readBike 120 = .ok (.getfield 22, 3) := by decide +kernel
theorem dX5_readBike_123 : decode cX5_readBike 123 = .ok (.ifCond .ne 18, 3) := by decide +kernel
theorem dX5_readBike_126 : decode cX5_readBike 126 = .ok (.aload_n 1, 1) := by decide +kernel
theorem dX5_readBike_127 : decode cX5_readBike 127 = .ok (.getfield 82, 3) := by decide +kernel
theorem dX5_readBike_130 : decode cX5_readBike 130 = .ok (.iload_n 2, 1) := by decide +kernel
theorem dX5_readBike_131 : decode cX5_readBike 131 = .ok (.iload_n 3, 1) := by decide +kernel
theorem dX5_readBike_132 : decode cX5_readBike 132 = .ok (.iload 4, 2) := by decide +kernel
theorem dX5_readBike_134 : decode cX5_readBike 134 = .ok (.iload 5, 2) := by decide +kernel
theorem dX5_readBike_136 : decode cX5_readBike 136 = .ok (.iload 6, 2) := by decide +kernel
theorem dX5_readBike_138 : decode cX5_readBike 138 = .ok (.invokevirtual 180, 3) := by decide +kernel
theorem dX5_readBike_141 : decode cX5_readBike 141 = .ok (.return_, 1) := by decide +kernel
theorem dX5_readThief_0 : decode cX5_readThief 0 = .ok (.aload_n 0, 1) := by decide +kernel
theorem dX5_readThief_1 : decode cX5_readThief 1 = .ok (.ldc 183, 2) := by decide +kernel
theorem dX5_readThief_3 : decode cX5_readThief 3 = .ok (.invokevirtual 133, 3) := by decide +kernel
theorem dX5_readThief_6 : decode cX5_readThief 6 = .ok (.aload_n 0, 1) := by decide +kernel
theorem dX5_readThief_7 : decode cX5_readThief 7 = .ok (.iconst 0, 1) := by decide +kernel
theorem dX5_readThief_8 : decode cX5_readThief 8 = .ok (.iconst 2, 1) := by decide +kernel
theorem dX5_readThief_9 : decode cX5_readThief 9 = .ok (.invokevirtual 139, 3) := by decide +kernel
theorem dX5_readThief_12 : decode cX5_readThief 12 = .ok (.istore_n 2, 1) := by decide +kernel
theorem dX5_readThief_13 : decode cX5_readThief 13 = .ok (.aload_n 0, 1) := by decide +kernel
theorem dX5_readThief_14 : decode cX5_readThief 14 = .ok (.ldc 185, 2) := by decide +kernel
theorem dX5_readThief_16 : decode cX5_readThief 16 = .ok (.invokevirtual 133, 3) := by decide +kernel
theorem dX5_readThief_19 : decode cX5_readThief 19 = .ok (.aload_n 0, 1) := by decide +kernel
theorem dX5_readThief_20 : decode cX5_readThief 20 = .ok (.iconst 0, 1) := by decide +kernel
theorem dX5_readThief_21 : decode cX5_readThief 21 = .ok (.bipush 100, 2) := by decide +kernel
theorem dX5_readThief_23 : decode cX5_readThief 23 = .ok (.invokevirtual 139, 3) := by decide +kernel
theorem dX5_readThief_26 : decode cX5_readThief 26 = .ok (.istore_n 3, 1) := by decide +kernel
theorem dX5_readThief_27 : decode cX5_readThief 27 = .ok (.aload_n 0, 1) := by decide +kernel
theorem dX5_readThief_28 : decode cX5_readThief 28 = .ok (.ldc 187, 2) := by decide +kernel
theorem dX5_readThief_30 : decode cX5_readThief 30 = .ok (.invokevirtual 133, 3) := by decide +kernel
theorem dX5_readThief_33 : decode cX5_readThief 33 = .ok (.aload_n 0, 1) := by decide +kernel
theorem dX5_readThief_34 : decode cX5_readThief 34 = .ok (.iconst 0, 1) := by decide +kernel
theorem dX5_readThief_35 : decode cX5_readThief 35 = .ok (.bipush 99, 2) := by decide +kernel
theorem dX5_readThief_37 : decode cX5_readThief 37 = .ok (.invokevirtual 139, 3) := by decide +kernel
theorem dX5_readThief_40 : decode cX5_readThief 40 = .ok (.istore 4, 2) := by decide +kernel
theorem dX5_readThief_42 : decode cX5_readThief 42 = .ok (.iconst 2, 1) := by decide +kernel
theorem dX5_readThief_43 : decode cX5_readThief 43 = .ok (.istore 5, 2) := by decide +kernel
theorem dX5_readThief_45 : decode cX5_readThief 45 = .ok (.iconst (-1), 1) := by decide +kernel
theorem dX5_readThief_46 : decode cX5_readThief 46 = .ok (.istore 6, 2) := by decide +kernel
theorem dX5_readThief_48 : decode cX5_readThief 48 = .ok (.aload_n 0, 1) := by decide +kernel
theorem dX5_readThief_49 : decode cX5_readThief 49 = .ok (.ldc 189, 2) := by decide +kernel
theorem dX5_readThief_51 : decode cX5_readThief 51 = .ok (.invokevirtual 175, 3) := by decide +kernel
theorem dX5_readThief_54 : decode cX5_readThief 54 = .ok (.ifCond .eq 9, 3) := by decide +kernel
theorem dX5_readThief_57 : decode cX5_readThief 57 = .ok (.iconst 0, 1) := by decide +kernel
theorem dX5_readThief_58 : decode cX5_readThief 58 = .ok (.istore 5, 2) := by decide +kernel
theorem dX5_readThief_60 : decode cX5_readThief 60 = .ok (.goto 40, 3) := by decide +kernel
theorem dX5_readThief_63 : decode cX5_readThief 63 = .ok (.aload_n 0, 1) := by decide +kernel
theorem dX5_readThief_64 : decode cX5_readThief 64 = .ok (.ldc 191, 2) := by decide +kernel
theorem dX5_readThief_66 : decode cX5_readThief 66 = .ok (.invokevirtual 175, 3) := by decide +kernel
theorem dX5_readThief_69 : decode cX5_readThief 69 = .ok (.ifCond .eq 9, 3) := by decide +kernel
theorem dX5_readThief_72 : decode cX5_readThief 72 = .ok (.iconst 1, 1) := by decide +kernel
theorem dX5_readThief_73 : decode cX5_readThief 73 = .ok (.istore 5, 2) := by decide +kernel
theorem dX5_readThief_75 : decode cX5_readThief 75 = .ok (.goto 25, 3) := by decide +kernel
theorem dX5_readThief_78 : decode cX5_readThief 78 = .ok (.aload_n 0, 1) := by decide +kernel
theorem dX5_readThief_79 : decode cX5_readThief 79 = .ok (.ldc 193, 2) := by decide +kernel
theorem dX5_readThief_81 : decode cX5_readThief 81 = .ok (.invokevirtual 133, 3) := by decide +kernel
theorem dX5_readThief_84 : decode cX5_readThief 84 = .ok (.aload_n 0, 1) := by decide +kernel
theorem dX5_readThief_85 : decode cX5_readThief 85 = .ok (.iconst 0, 1) := by decide +kernel
theorem dX5_readThief_86 : decode cX5_readThief 86 = .ok (.aload_n 1, 1) := by decide +kernel
theorem dX5_readThief_87 : decode cX5_readThief 87 = .ok (.getfield 82, 3) := by decide +kernel
theorem dX5_readThief_90 : decode cX5_readThief 90 = .ok (.getfield 86, 3) := by decide +kernel
theorem dX5_readThief_93 : decode cX5_readThief 93 = .ok (.iconst 1, 1) := by decide +kernel
theorem dX5_readThief_94 : decode cX5_readThief 94 = .ok (.isub, 1) := by decide +kernel
theorem dX5_readThief_95 : decode cX5_readThief 95 = .ok (.invokevirtual 139, 3) := by decide +kernel
theorem dX5_readThief_98 : decode cX5_readThief 98 = .ok (.istore 6, 2) := by decide +kernel
theorem dX5_readThief_100 : decode cX5_readThief 100 = .ok (.aload_n 0, 1) := by decide +kernel
theorem dX5_readThief_101 : decode cX5_readThief 101 = .ok (.getfield 22, 3) := by decide +kernel
theorem dX5_readThief_104 : decode cX5_readThief 104 = .ok (.ifCond .ne 18, 3) := by decide +kernel
theorem dX5_readThief_107 : decode cX5_readThief 107 = .ok (.aload_n 1, 1) := by decide +kernel
theorem dX5_readThief_108 : decode cX5_readThief 108 = .ok (.getfield 94, 3) := by decide +kernel
theorem dX5_readThief_111 : decode cX5_readThief 111 = .ok (.iload_n 2, 1) := by decide +kernel
theorem dX5_readThief_112 : decode cX5_readThief 112 = .ok (.iload_n 3, 1) := by decide +kernel
theorem dX5_readThief_113 : decode cX5_readThief 113 = .ok (.iload 4, 2) := by decide +kernel
theorem dX5_readThief_115 : decode cX5_readThief 115 = .ok (.iload 5, 2) := by decide +kernel
theorem dX5_readThief_117 : decode cX5_readThief 117 = .ok (.iload 6, 2) := by decide +kernel
theorem dX5_readThief_119 : decode cX5_readThief 119 = .ok (.invokevirtual 195, 3) := by decide +kernel
theorem dX5_readThief_122 : decode cX5_readThief 122 = .ok (.return_, 1) := by decide +kernel
theorem dX5_readMark_0 : decode cX5_readMark 0 = .ok (.aload_n 0, 1) := by decide +kernel
theorem dX5_readMark_1 : decode cX5_readMark 1 = .ok (.ldc 157, 2) := by decide +kernel
theorem dX5_readMark_3 : decode cX5_readMark 3 = .ok (.invokevirtual 133, 3) := by decide +kernel
theorem dX5_readMark_6 : decode cX5_readMark 6 = .ok (.aload_n 1, 1) := by decide +kernel
theorem dX5_readMark_7 : decode cX5_readMark 7 = .ok (.aload_n 0, 1) := by decide +kernel
theorem dX5_readMark_8 : decode cX5_readMark 8 = .ok (.iconst 0, 1) := by decide +kernel
theorem dX5_readMark_9 : decode cX5_readMark 9 = .ok (.sipush 999, 3) := by decide +kernel
theorem dX5_readMark_12 : decode cX5_readMark 12 = .ok (.invokevirtual 139, 3) := by decide +kernel
theorem dX5_readMark_15 : decode cX5_readMark 15 = .ok (.putfield 198, 3) := by decide +kernel
theorem dX5_readMark_18 : decode cX5_readMark 18 = .ok (.aload_n 0, 1) := by decide +kernel
theorem dX5_readMark_19 : decode cX5_readMark 19 = .ok (.ldc 201, 2) := by decide +kernel
theorem dX5_readMark_21 : decode cX5_readMark 21 = .ok (.invokevirtual 133, 3) := by decide +kernel
theorem dX5_readMark_24 : decode cX5_readMark 24 = .ok (.aload_n 1, 1) := by decide +kernel
theorem dX5_readMark_25 : decode cX5_readMark 25 = .ok (.aload_n 0, 1) := by decide +kernel
theorem dX5_readMark_26 : decode cX5_readMark 26 = .ok (.iconst 0, 1) := by decide +kernel
theorem dX5_readMark_27 : decode cX5_readMark 27 = .ok (.bipush 100, 2) := by decide +kernel
theorem dX5_readMark_29 : decode cX5_readMark 29 = .ok (.invokevirtual 139, 3) := by decide +kernel
theorem dX5_readMark_32 : decode cX5_readMark 32 = .ok (.putfield 203, 3) := by decide +kernel
theorem dX5_readMark_35 : decode cX5_readMark 35 = .ok (.aload_n 1, 1) := by decide +kernel
theorem dX5_readMark_36 : decode cX5_readMark 36 = .ok (.aload_n 0, 1) := by decide +kernel
theorem dX5_readMark_37 : decode cX5_readMark 37 = .ok (.ldc 205, 2) := by decide +kernel
theorem dX5_readMark_39 : decode cX5_readMark 39 = .ok (.invokevirtual 175, 3) := by decide +kernel
theorem dX5_readMark_42 : decode cX5_readMark 42 = .ok (.putfield 207, 3) := by decide +kernel
theorem dX5_readMark_45 : decode cX5_readMark 45 = .ok (.aload_n 1, 1) := by decide +kernel
theorem dX5_readMark_46 : decode cX5_readMark 46 = .ok (.iconst 1, 1) := by decide +kernel
theorem dX5_readMark_47 : decode cX5_readMark 47 = .ok (.putfield 106, 3) := by decide +kernel
theorem dX5_readMark_50 : decode cX5_readMark 50 = .ok (.return_, 1) := by decide +kernel
theorem dX5_readWatch_0 : decode cX5_readWatch 0 = .ok (.aload_n 0, 1) := by decide +kernel
theorem dX5_readWatch_1 : decode cX5_readWatch 1 = .ok (.ldc 209, 2) := by decide +kernel
theorem dX5_readWatch_3 : decode cX5_readWatch 3 = .ok (.invokevirtual 133, 3) := by decide +kernel
theorem dX5_readWatch_6 : decode cX5_readWatch 6 = .ok (.aload_n 1, 1) := by decide +kernel
theorem dX5_readWatch_7 : decode cX5_readWatch 7 = .ok (.aload_n 0, 1) := by decide +kernel
theorem dX5_readWatch_8 : decode cX5_readWatch 8 = .ok (.iconst 0, 1) := by decide +kernel
theorem dX5_readWatch_9 : decode cX5_readWatch 9 = .ok (.sipush 999, 3) := by decide +kernel
theorem dX5_readWatch_12 : decode cX5_readWatch 12 = .ok (.invokevirtual 139, 3) := by decide +kernel
theorem dX5_readWatch_15 : decode cX5_readWatch 15 = .ok (.putfield 211, 3) := by decide +kernel
theorem dX5_readWatch_18 : decode cX5_readWatch 18 = .ok (.aload_n 0, 1) := by decide +kernel
theorem dX5_readWatch_19 : decode cX5_readWatch 19 = .ok (.ldc 213, 2) := by decide +kernel
theorem dX5_readWatch_21 : decode cX5_readWatch 21 = .ok (.invokevirtual 133, 3) := by decide +kernel
theorem dX5_readWatch_24 : decode cX5_readWatch 24 = .ok (.aload_n 1, 1) := by decide +kernel
theorem dX5_readWatch_25 : decode cX5_readWatch 25 = .ok (.aload_n 0, 1) := by decide +kernel
theorem dX5_readWatch_26 : decode cX5_readWatch 26 = .ok (.iconst 0, 1) := by decide +kernel
theorem dX5_readWatch_27 : decode cX5_readWatch 27 = .ok (.bipush 99, 2) := by decide +kernel
theorem dX5_readWatch_29 : decode cX5_readWatch 29 = .ok (.invokevirtual 139, 3) := by decide +kernel
theorem dX5_readWatch_32 : decode cX5_readWatch 32 = .ok (.putfield 215, 3) := by decide +kernel
theorem dX5_readWatch_35 : decode cX5_readWatch 35 = .ok (.aload_n 1, 1) := by decide +kernel
theorem dX5_readWatch_36 : decode cX5_readWatch 36 = .ok (.iconst 1, 1) := by decide +kernel
theorem dX5_readWatch_37 : decode cX5_readWatch 37 = .ok (.putfield 115, 3) := by decide +kernel
theorem dX5_readWatch_40 : decode cX5_readWatch 40 = .ok (.return_, 1) := by decide +kernel
theorem dX5_readWord_0 : decode cX5_readWord 0 = .ok (.aload_n 0, 1) := by decide +kernel
theorem dX5_readWord_1 : decode cX5_readWord 1 = .ok (.getfield 22, 3) := by decide +kernel
theorem dX5_readWord_4 : decode cX5_readWord 4 = .ok (.ifCond .ne 24, 3) := by decide +kernel
theorem dX5_readWord_7 : decode cX5_readWord 7 = .ok (.aload_n 0, 1) := by decide +kernel
theorem dX5_readWord_8 : decode cX5_readWord 8 = .ok (.getfield 12, 3) := by decide +kernel
theorem dX5_readWord_11 : decode cX5_readWord 11 = .ok (.aload_n 1, 1) := by decide +kernel
theorem dX5_readWord_12 : decode cX5_readWord 12 = .ok (.invokevirtual 48, 3) := by decide +kernel
theorem dX5_readWord_15 : decode cX5_readWord 15 = .ok (.ifCond .eq 13, 3) := by decide +kernel
theorem dX5_readWord_18 : decode cX5_readWord 18 = .ok (.aload_n 0, 1) := by decide +kernel
theorem dX5_readWord_19 : decode cX5_readWord 19 = .ok (.getfield 12, 3) := by decide +kernel
theorem dX5_readWord_22 : decode cX5_readWord 22 = .ok (.invokevirtual 128, 3) := by decide +kernel
theorem dX5_readWord_25 : decode cX5_readWord 25 = .ok (.goto 8, 3) := by decide +kernel
theorem dX5_readWord_28 : decode cX5_readWord 28 = .ok (.aload_n 0, 1) := by decide +kernel
theorem dX5_readWord_29 : decode cX5_readWord 29 = .ok (.iconst 1, 1) := by decide +kernel
theorem dX5_readWord_30 : decode cX5_readWord 30 = .ok (.invokevirtual 121, 3) := by decide +kernel
theorem dX5_readWord_33 : decode cX5_readWord 33 = .ok (.return_, 1) := by decide +kernel
theorem dX5_readIf_0 : decode cX5_readIf 0 = .ok (.aload_n 0, 1) := by decide +kernel
theorem dX5_readIf_1 : decode cX5_readIf 1 = .ok (.getfield 22, 3) := by decide +kernel
theorem dX5_readIf_4 : decode cX5_readIf 4 = .ok (.ifCond .ne 18, 3) := by decide +kernel
theorem dX5_readIf_7 : decode cX5_readIf 7 = .ok (.aload_n 0, 1) := by decide +kernel
theorem dX5_readIf_8 : decode cX5_readIf 8 = .ok (.getfield 12, 3) := by decide +kernel
theorem dX5_readIf_11 : decode cX5_readIf 11 = .ok (.aload_n 1, 1) := by decide +kernel
theorem dX5_readIf_12 : decode cX5_readIf 12 = .ok (.invokevirtual 48, 3) := by decide +kernel
theorem dX5_readIf_15 : decode cX5_readIf 15 = .ok (.ifCond .eq 7, 3) := by decide +kernel
theorem dX5_readIf_18 : decode cX5_readIf 18 = .ok (.iconst 1, 1) := by decide +kernel
theorem dX5_readIf_19 : decode cX5_readIf 19 = .ok (.goto 4, 3) := by decide +kernel
theorem dX5_readIf_22 : decode cX5_readIf 22 = .ok (.iconst 0, 1) := by decide +kernel
theorem dX5_readIf_23 : decode cX5_readIf 23 = .ok (.istore_n 2, 1) := by decide +kernel
theorem dX5_readIf_24 : decode cX5_readIf 24 = .ok (.iload_n 2, 1) := by decide +kernel
theorem dX5_readIf_25 : decode cX5_readIf 25 = .ok (.ifCond .eq 10, 3) := by decide +kernel
theorem dX5_readIf_28 : decode cX5_readIf 28 = .ok (.aload_n 0, 1) := by decide +kernel
theorem dX5_readIf_29 : decode cX5_readIf 29 = .ok (.getfield 12, 3) := by decide +kernel
theorem dX5_readIf_32 : decode cX5_readIf 32 = .ok (.invokevirtual 128, 3) := by decide +kernel
theorem dX5_readIf_35 : decode cX5_readIf 35 = .ok (.iload_n 2, 1) := by decide +kernel
theorem dX5_readIf_36 : decode cX5_readIf 36 = .ok (.ireturn, 1) := by decide +kernel
theorem dX5_readSign_0 : decode cX5_readSign 0 = .ok (.aload_n 0, 1) := by decide +kernel
theorem dX5_readSign_1 : decode cX5_readSign 1 = .ok (.getfield 22, 3) := by decide +kernel
theorem dX5_readSign_4 : decode cX5_readSign 4 = .ok (.ifCond .ne 24, 3) := by decide +kernel
theorem dX5_readSign_7 : decode cX5_readSign 7 = .ok (.aload_n 0, 1) := by decide +kernel
theorem dX5_readSign_8 : decode cX5_readSign 8 = .ok (.getfield 12, 3) := by decide +kernel
theorem dX5_readSign_11 : decode cX5_readSign 11 = .ok (.getfield 33, 3) := by decide +kernel
theorem dX5_readSign_14 : decode cX5_readSign 14 = .ok (.iconst 3, 1) := by decide +kernel
theorem dX5_readSign_15 : decode cX5_readSign 15 = .ok (.if_icmp .ne 13, 3) := by decide +kernel
theorem dX5_readSign_18 : decode cX5_readSign 18 = .ok (.aload_n 0, 1) := by decide +kernel
theorem dX5_readSign_19 : decode cX5_readSign 19 = .ok (.getfield 12, 3) := by decide +kernel
theorem dX5_readSign_22 : decode cX5_readSign 22 = .ok (.invokevirtual 128, 3) := by decide +kernel
theorem dX5_readSign_25 : decode cX5_readSign 25 = .ok (.goto 8, 3) := by decide +kernel
theorem dX5_readSign_28 : decode cX5_readSign 28 = .ok (.aload_n 0, 1) := by decide +kernel
theorem dX5_readSign_29 : decode cX5_readSign 29 = .ok (.iconst 1, 1) := by decide +kernel
theorem dX5_readSign_30 : decode cX5_readSign 30 = .ok (.invokevirtual 121, 3) := by decide +kernel
theorem dX5_readSign_33 : decode cX5_readSign 33 = .ok (.return_, 1) := by decide +kernel
theorem dX5_readNumber_0 : decode cX5_readNumber 0 = .ok (.aload_n 0, 1) := by decide +kernel
theorem dX5_readNumber_1 : decode cX5_readNumber 1 = .ok (.getfield 12, 3) := by decide +kernel
theorem dX5_readNumber_4 : decode cX5_readNumber 4 = .ok (.getfield 33, 3) := by decide +kernel
theorem dX5_readNumber_7 : decode cX5_readNumber 7 = .ok (.iconst 2, 1) := by decide +kernel
theorem dX5_readNumber_8 : decode cX5_readNumber 8 = .ok (.if_icmp .eq 11, 3) := by decide +kernel
theorem dX5_readNumber_11 : decode cX5_readNumber 11 = .ok (.aload_n 0, 1) := by decide +kernel
theorem dX5_readNumber_12 : decode cX5_readNumber 12 = .ok (.iconst 1, 1) := by decide +kernel
theorem dX5_readNumber_13 : decode cX5_readNumber 13 = .ok (.invokevirtual 121, 3) := by decide +kernel
theorem dX5_readNumber_16 : decode cX5_readNumber 16 = .ok (.goto 30, 3) := by decide +kernel
theorem dX5_readNumber_19 : decode cX5_readNumber 19 = .ok (.aload_n 0, 1) := by decide +kernel
theorem dX5_readNumber_20 : decode cX5_readNumber 20 = .ok (.getfield 12, 3) := by decide +kernel
theorem dX5_readNumber_23 : decode cX5_readNumber 23 = .ok (.getfield 168, 3) := by decide +kernel
theorem dX5_readNumber_26 : decode cX5_readNumber 26 = .ok (.iload_n 1, 1) := by decide +kernel
theorem dX5_readNumber_27 : decode cX5_readNumber 27 = .ok (.if_icmp .lt 14, 3) := by decide +kernel
theorem dX5_readNumber_30 : decode cX5_readNumber 30 = .ok (.aload_n 0, 1) := by decide +kernel
theorem dX5_readNumber_31 : decode cX5_readNumber 31 = .ok (.getfield 12, 3) := by decide +kernel
theorem dX5_readNumber_34 : decode cX5_readNumber 34 = .ok (.getfield 168, 3) := by decide +kernel
theorem dX5_readNumber_37 : decode cX5_readNumber 37 = .ok (.iload_n 2, 1) := by decide +kernel
theorem dX5_readNumber_38 : decode cX5_readNumber 38 = .ok (.if_icmp .le 8, 3) := by decide +kernel
theorem dX5_readNumber_41 : decode cX5_readNumber 41 = .ok (.aload_n 0, 1) := by decide +kernel
theorem dX5_readNumber_42 : decode cX5_readNumber 42 = .ok (.iconst 2, 1) := by decide +kernel
theorem dX5_readNumber_43 : decode cX5_readNumber 43 = .ok (.invokevirtual 121, 3) := by decide +kernel
theorem dX5_readNumber_46 : decode cX5_readNumber 46 = .ok (.aload_n 0, 1) := by decide +kernel
theorem dX5_readNumber_47 : decode cX5_readNumber 47 = .ok (.getfield 22, 3) := by decide +kernel
theorem dX5_readNumber_50 : decode cX5_readNumber 50 = .ok (.ifCond .eq 5, 3) := by decide +kernel
theorem dX5_readNumber_53 : decode cX5_readNumber 53 = .ok (.iload_n 1, 1) := by decide +kernel
theorem dX5_readNumber_54 : decode cX5_readNumber 54 = .ok (.ireturn, 1) := by decide +kernel
theorem dX5_readNumber_55 : decode cX5_readNumber 55 = .ok (.aload_n 0, 1) := by decide +kernel
theorem dX5_readNumber_56 : decode cX5_readNumber 56 = .ok (.getfield 12, 3) := by decide +kernel
theorem dX5_readNumber_59 : decode cX5_readNumber 59 = .ok (.getfield 168, 3) := by decide +kernel
theorem dX5_readNumber_62 : decode cX5_readNumber 62 = .ok (.istore_n 3, 1) := by decide +kernel
theorem dX5_readNumber_63 : decode cX5_readNumber 63 = .ok (.aload_n 0, 1) := by decide +kernel
theorem dX5_readNumber_64 : decode cX5_readNumber 64 = .ok (.getfield 12, 3) := by decide +kernel
theorem dX5_readNumber_67 : decode cX5_readNumber 67 = .ok (.invokevirtual 128, 3) := by decide +kernel
theorem dX5_readNumber_70 : decode cX5_readNumber 70 = .ok (.iload_n 3, 1) := by decide +kernel
theorem dX5_readNumber_71 : decode cX5_readNumber 71 = .ok (.ireturn, 1) := by decide +kernel
theorem dX5_fail_0 : decode cX5_fail 0 = .ok (.aload_n 0, 1) := by decide +kernel
theorem dX5_fail_1 : decode cX5_fail 1 = .ok (.getfield 22, 3) := by decide +kernel
theorem dX5_fail_4 : decode cX5_fail 4 = .ok (.ifCond .ne 19, 3) := by decide +kernel
theorem dX5_fail_7 : decode cX5_fail 7 = .ok (.aload_n 0, 1) := by decide +kernel
theorem dX5_fail_8 : decode cX5_fail 8 = .ok (.iload_n 1, 1) := by decide +kernel
theorem dX5_fail_9 : decode cX5_fail 9 = .ok (.putfield 22, 3) := by decide +kernel
theorem dX5_fail_12 : decode cX5_fail 12 = .ok (.aload_n 0, 1) := by decide +kernel
theorem dX5_fail_13 : decode cX5_fail 13 = .ok (.aload_n 0, 1) := by decide +kernel
theorem dX5_fail_14 : decode cX5_fail 14 = .ok (.getfield 12, 3) := by decide +kernel
theorem dX5_fail_17 : decode cX5_fail 17 = .ok (.getfield 217, 3) := by decide +kernel
theorem dX5_fail_20 : decode cX5_fail 20 = .ok (.putfield 18, 3) := by decide +kernel
theorem dX5_fail_23 : decode cX5_fail 23 = .ok (.return_, 1) := by decide +kernel
theorem dX6_init_0 : decode cX6_init 0 = .ok (.aload_n 0, 1) := by decide +kernel
theorem dX6_init_1 : decode cX6_init 1 = .ok (.invokespecial 1, 3) := by decide +kernel
theorem dX6_init_4 : decode cX6_init 4 = .ok (.aload_n 0, 1) := by decide +kernel
theorem dX6_init_5 : decode cX6_init 5 = .ok (.sipush 240, 3) := by decide +kernel
theorem dX6_init_8 : decode cX6_init 8 = .ok (.newarray .long, 2) := by decide +kernel
theorem dX6_init_10 : decode cX6_init 10 = .ok (.putfield 9, 3) := by decide +kernel
theorem dX6_init_13 : decode cX6_init 13 = .ok (.aload_n 0, 1) := by decide +kernel
theorem dX6_init_14 : decode cX6_init 14 = .ok (.iconst 4, 1) := by decide +kernel
theorem dX6_init_15 : decode cX6_init 15 = .ok (.newarray .int, 2) := by decide +kernel
theorem dX6_init_17 : decode cX6_init 17 = .ok (.putfield 13, 3) := by decide +kernel
theorem dX6_init_20 : decode cX6_init 20 = .ok (.aload_n 0, 1) := by decide +kernel
theorem dX6_init_21 : decode cX6_init 21 = .ok (.iconst 4, 1) := by decide +kernel
theorem dX6_init_22 : decode cX6_init 22 = .ok (.newarray .int, 2) := by decide +kernel
theorem dX6_init_24 : decode cX6_init 24 = .ok (.putfield 17, 3) := by decide +kernel
theorem dX6_init_27 : decode cX6_init 27 = .ok (.return_, 1) := by decide +kernel
theorem dX6_isSlot_0 : decode cX6_isSlot 0 = .ok (.iload_n 1, 1) := by decide +kernel
theorem dX6_isSlot_1 : decode cX6_isSlot 1 = .ok (.ifCond .lt 12, 3) := by decide +kernel
theorem dX6_isSlot_4 : decode cX6_isSlot 4 = .ok (.iload_n 1, 1) := by decide +kernel
theorem dX6_isSlot_5 : decode cX6_isSlot 5 = .ok (.iconst 4, 1) := by decide +kernel
theorem dX6_isSlot_6 : decode cX6_isSlot 6 = .ok (.if_icmp .ge 7, 3) := by decide +kernel
theorem dX6_isSlot_9 : decode cX6_isSlot 9 = .ok (.iconst 1, 1) := by decide +kernel
theorem dX6_isSlot_10 : decode cX6_isSlot 10 = .ok (.goto 4, 3) := by decide +kernel
theorem dX6_isSlot_13 : decode cX6_isSlot 13 = .ok (.iconst 0, 1) := by decide +kernel
theorem dX6_isSlot_14 : decode cX6_isSlot 14 = .ok (.ireturn, 1) := by decide +kernel
theorem dX6_hasRow_0 : decode cX6_hasRow 0 = .ok (.aload_n 0, 1) := by decide +kernel
theorem dX6_hasRow_1 : decode cX6_hasRow 1 = .ok (.getfield 17, 3) := by decide +kernel
theorem dX6_hasRow_4 : decode cX6_hasRow 4 = .ok (.iload_n 1, 1) := by decide +kernel
theorem dX6_hasRow_5 : decode cX6_hasRow 5 = .ok (.iaload, 1) := by decide +kernel
theorem dX6_hasRow_6 : decode cX6_hasRow 6 = .ok (.ifCond .le 7, 3) := by decide +kernel
theorem dX6_hasRow_9 : decode cX6_hasRow 9 = .ok (.iconst 1, 1) := by decide +kernel
theorem dX6_hasRow_10 : decode cX6_hasRow 10 = .ok (.goto 4, 3) := by decide +kernel
theorem dX6_hasRow_13 : decode cX6_hasRow 13 = .ok (.iconst 0, 1) := by decide +kernel
theorem dX6_hasRow_14 : decode cX6_hasRow 14 = .ok (.ireturn, 1) := by decide +kernel
theorem dX6_areAlike_0 : decode cX6_areAlike 0 = .ok (.aload_n 0, 1) := by decide +kernel
theorem dX6_areAlike_1 : decode cX6_areAlike 1 = .ok (.getfield 17, 3) := by decide +kernel
theorem dX6_areAlike_4 : decode cX6_areAlike 4 = .ok (.iload_n 1, 1) := by decide +kernel
theorem dX6_areAlike_5 : decode cX6_areAlike 5 = .ok (.iaload, 1) := by decide +kernel
theorem dX6_areAlike_6 : decode cX6_areAlike 6 = .ok (.aload_n 0, 1) := by decide +kernel
theorem dX6_areAlike_7 : decode cX6_areAlike 7 = .ok (.getfield 17, 3) := by decide +kernel
theorem dX6_areAlike_10 : decode cX6_areAlike 10 = .ok (.iload_n 2, 1) := by decide +kernel
theorem dX6_areAlike_11 : decode cX6_areAlike 11 = .ok (.iaload, 1) := by decide +kernel
theorem dX6_areAlike_12 : decode cX6_areAlike 12 = .ok (.if_icmp .ne 7, 3) := by decide +kernel
theorem dX6_areAlike_15 : decode cX6_areAlike 15 = .ok (.iconst 1, 1) := by decide +kernel
theorem dX6_areAlike_16 : decode cX6_areAlike 16 = .ok (.goto 4, 3) := by decide +kernel
theorem dX6_areAlike_19 : decode cX6_areAlike 19 = .ok (.iconst 0, 1) := by decide +kernel
theorem dX6_areAlike_20 : decode cX6_areAlike 20 = .ok (.ireturn, 1) := by decide +kernel
theorem dX6_sizeOf_0 : decode cX6_sizeOf 0 = .ok (.aload_n 0, 1) := by decide +kernel
theorem dX6_sizeOf_1 : decode cX6_sizeOf 1 = .ok (.getfield 13, 3) := by decide +kernel
theorem dX6_sizeOf_4 : decode cX6_sizeOf 4 = .ok (.iload_n 1, 1) := by decide +kernel
theorem dX6_sizeOf_5 : decode cX6_sizeOf 5 = .ok (.iaload, 1) := by decide +kernel
theorem dX6_sizeOf_6 : decode cX6_sizeOf 6 = .ok (.ireturn, 1) := by decide +kernel
theorem dX6_numberAt_0 : decode cX6_numberAt 0 = .ok (.aload_n 0, 1) := by decide +kernel
theorem dX6_numberAt_1 : decode cX6_numberAt 1 = .ok (.getfield 9, 3) := by decide +kernel
theorem dX6_numberAt_4 : decode cX6_numberAt 4 = .ok (.iload_n 1, 1) := by decide +kernel
theorem dX6_numberAt_5 : decode cX6_numberAt 5 = .ok (.bipush 60, 2) := by decide +kernel
theorem dX6_numberAt_7 : decode cX6_numberAt 7 = .ok (.imul, 1) := by decide +kernel
theorem dX6_numberAt_8 : decode cX6_numberAt 8 = .ok (.iload_n 2, 1) := by decide +kernel
theorem dX6_numberAt_9 : decode cX6_numberAt 9 = .ok (.iadd, 1) := by decide +kernel
theorem dX6_numberAt_10 : decode cX6_numberAt 10 = .ok (.laload, 1) := by decide +kernel
theorem dX6_numberAt_11 : decode cX6_numberAt 11 = .ok (.lreturn, 1) := by decide +kernel
theorem dX6_hasAll_0 : decode cX6_hasAll 0 = .ok (.iload_n 2, 1) := by decide +kernel
theorem dX6_hasAll_1 : decode cX6_hasAll 1 = .ok (.ifCond .lt 27, 3) := by decide +kernel
theorem dX6_hasAll_4 : decode cX6_hasAll 4 = .ok (.iload_n 3, 1) := by decide +kernel
theorem dX6_hasAll_5 : decode cX6_hasAll 5 = .ok (.ifCond .lt 23, 3) := by decide +kernel
theorem dX6_hasAll_8 : decode cX6_hasAll 8 = .ok (.iload_n 2, 1) := by decide +kernel
theorem dX6_hasAll_9 : decode cX6_hasAll 9 = .ok (.i2l, 1) := by decide +kernel
theorem dX6_hasAll_10 : decode cX6_hasAll 10 = .ok (.iload_n 3, 1) := by decide +kernel
theorem dX6_hasAll_11 : decode cX6_hasAll 11 = .ok (.i2l, 1) := by decide +kernel
theorem dX6_hasAll_12 : decode cX6_hasAll 12 = .ok (.ladd, 1) := by decide +kernel
theorem dX6_hasAll_13 : decode cX6_hasAll 13 = .ok (.aload_n 0, 1) := by decide +kernel
theorem dX6_hasAll_14 : decode cX6_hasAll 14 = .ok (.getfield 13, 3) := by decide +kernel
theorem dX6_hasAll_17 : decode cX6_hasAll 17 = .ok (.iload_n 1, 1) := by decide +kernel
theorem dX6_hasAll_18 : decode cX6_hasAll 18 = .ok (.iaload, 1) := by decide +kernel
theorem dX6_hasAll_19 : decode cX6_hasAll 19 = .ok (.i2l, 1) := by decide +kernel
theorem dX6_hasAll_20 : decode cX6_hasAll 20 = .ok (.lcmp, 1) := by decide +kernel
theorem dX6_hasAll_21 : decode cX6_hasAll 21 = .ok (.ifCond .gt 7, 3) := by decide +kernel
theorem dX6_hasAll_24 : decode cX6_hasAll 24 = .ok (.iconst 1, 1) := by decide +kernel
theorem dX6_hasAll_25 : decode cX6_hasAll 25 = .ok (.goto 4, 3) := by decide +kernel
theorem dX6_hasAll_28 : decode cX6_hasAll 28 = .ok (.iconst 0, 1) := by decide +kernel
theorem dX6_hasAll_29 : decode cX6_hasAll 29 = .ok (.ireturn, 1) := by decide +kernel
theorem dX6_rows_0 : decode cX6_rows 0 = .ok (.iconst 0, 1) := by decide +kernel
theorem dX6_rows_1 : decode cX6_rows 1 = .ok (.istore_n 1, 1) := by decide +kernel
theorem dX6_rows_2 : decode cX6_rows 2 = .ok (.iconst 0, 1) := by decide +kernel
theorem dX6_rows_3 : decode cX6_rows 3 = .ok (.istore_n 2, 1) := by decide +kernel
theorem dX6_rows_4 : decode cX6_rows 4 = .ok (.iload_n 2, 1) := by decide +kernel
theorem dX6_rows_5 : decode cX6_rows 5 = .ok (.iconst 4, 1) := by decide +kernel
theorem dX6_rows_6 : decode cX6_rows 6 = .ok (.if_icmp .ge 20, 3) := by decide +kernel
theorem dX6_rows_9 : decode cX6_rows 9 = .ok (.aload_n 0, 1) := by decide +kernel
theorem dX6_rows_10 : decode cX6_rows 10 = .ok (.iload_n 2, 1) := by decide +kernel
theorem dX6_rows_11 : decode cX6_rows 11 = .ok (.invokevirtual 20, 3) := by decide +kernel
theorem dX6_rows_14 : decode cX6_rows 14 = .ok (.ifCond .eq 6, 3) := by decide +kernel
theorem dX6_rows_17 : decode cX6_rows 17 = .ok (.iinc 1 1, 3) := by decide +kernel
theorem dX6_rows_20 : decode cX6_rows 20 = .ok (.iinc 2 1, 3) := by decide +kernel
theorem dX6_rows_23 : decode cX6_rows 23 = .ok (.goto (-19), 3) := by decide +kernel
theorem dX6_rows_26 : decode cX6_rows 26 = .ok (.iload_n 1, 1) := by decide +kernel
theorem dX6_rows_27 : decode cX6_rows 27 = .ok (.ireturn, 1) := by decide +kernel
theorem dX6_make_0 : decode cX6_make 0 = .ok (.aload_n 0, 1) := by decide +kernel
theorem dX6_make_1 : decode cX6_make 1 = .ok (.getfield 17, 3) := by decide +kernel
theorem dX6_make_4 : decode cX6_make 4 = .ok (.iload_n 1, 1) := by decide +kernel
theorem dX6_make_5 : decode cX6_make 5 = .ok (.iload_n 2, 1) := by decide +kernel
theorem dX6_make_6 : decode cX6_make 6 = .ok (.iconst 1, 1) := by decide +kernel
theorem dX6_make_7 : decode cX6_make 7 = .ok (.iadd, 1) := by decide +kernel
theorem dX6_make_8 : decode cX6_make 8 = .ok (.iastore, 1) := by decide +kernel
theorem dX6_make_9 : decode cX6_make 9 = .ok (.aload_n 0, 1) := by decide +kernel
theorem dX6_make_10 : decode cX6_make 10 = .ok (.getfield 13, 3) := by decide +kernel
theorem dX6_make_13 : decode cX6_make 13 = .ok (.iload_n 1, 1) := by decide +kernel
theorem dX6_make_14 : decode cX6_make 14 = .ok (.iload_n 3, 1) := by decide +kernel
theorem dX6_make_15 : decode cX6_make 15 = .ok (.iastore, 1) := by decide +kernel
theorem dX6_make_16 : decode cX6_make 16 = .ok (.iconst 0, 1) := by decide +kernel
theorem dX6_make_17 : decode cX6_make 17 = .ok (.istore 4, 2) := by decide +kernel
theorem dX6_make_19 : decode cX6_make 19 = .ok (.iload 4, 2) := by decide +kernel
theorem dX6_make_21 : decode cX6_make 21 = .ok (.iload_n 3, 1) := by decide +kernel
theorem dX6_make_22 : decode cX6_make 22 = .ok (.if_icmp .ge 22, 3) := by decide +kernel
theorem dX6_make_25 : decode cX6_make 25 = .ok (.aload_n 0, 1) := by decide +kernel
theorem dX6_make_26 : decode cX6_make 26 = .ok (.getfield 9, 3) := by decide +kernel
theorem dX6_make_29 : decode cX6_make 29 = .ok (.iload_n 1, 1) := by decide +kernel
theorem dX6_make_30 : decode cX6_make 30 = .ok (.bipush 60, 2) := by decide +kernel
theorem dX6_make_32 : decode cX6_make 32 = .ok (.imul, 1) := by decide +kernel
theorem dX6_make_33 : decode cX6_make 33 = .ok (.iload 4, 2) := by decide +kernel
theorem dX6_make_35 : decode cX6_make 35 = .ok (.iadd, 1) := by decide +kernel
theorem dX6_make_36 : decode cX6_make 36 = .ok (.lconst 0, 1) := by decide +kernel
theorem dX6_make_37 : decode cX6_make 37 = .ok (.lastore, 1) := by decide +kernel
theorem dX6_make_38 : decode cX6_make 38 = .ok (.iinc 4 1, 3) := by decide +kernel
theorem dX6_make_41 : decode cX6_make 41 = .ok (.goto (-22), 3) := by decide +kernel
theorem dX6_make_44 : decode cX6_make 44 = .ok (.return_, 1) := by decide +kernel
theorem dX6_put_0 : decode cX6_put 0 = .ok (.aload_n 0, 1) := by decide +kernel
theorem dX6_put_1 : decode cX6_put 1 = .ok (.getfield 9, 3) := by decide +kernel
theorem dX6_put_4 : decode cX6_put 4 = .ok (.iload_n 1, 1) := by decide +kernel
theorem dX6_put_5 : decode cX6_put 5 = .ok (.bipush 60, 2) := by decide +kernel
theorem dX6_put_7 : decode cX6_put 7 = .ok (.imul, 1) := by decide +kernel
theorem dX6_put_8 : decode cX6_put 8 = .ok (.iload_n 2, 1) := by decide +kernel
theorem dX6_put_9 : decode cX6_put 9 = .ok (.iadd, 1) := by decide +kernel
theorem dX6_put_10 : decode cX6_put 10 = .ok (.lload_n 3, 1) := by decide +kernel
theorem dX6_put_11 : decode cX6_put 11 = .ok (.aload_n 0, 1) := by decide +kernel
theorem dX6_put_12 : decode cX6_put 12 = .ok (.getfield 17, 3) := by decide +kernel
theorem dX6_put_15 : decode cX6_put 15 = .ok (.iload_n 1, 1) := by decide +kernel
theorem dX6_put_16 : decode cX6_put 16 = .ok (.iaload, 1) := by decide +kernel
theorem dX6_put_17 : decode cX6_put 17 = .ok (.iconst 1, 1) := by decide +kernel
theorem dX6_put_18 : decode cX6_put 18 = .ok (.isub, 1) := by decide +kernel
theorem dX6_put_19 : decode cX6_put 19 = .ok (.invokestatic 24, 3) := by decide +kernel
theorem dX6_put_22 : decode cX6_put 22 = .ok (.lastore, 1) := by decide +kernel
theorem dX6_put_23 : decode cX6_put 23 = .ok (.return_, 1) := by decide +kernel
theorem dX6_cut_0 : decode cX6_cut 0 = .ok (.iload_n 2, 1) := by decide +kernel
theorem dX6_cut_1 : decode cX6_cut 1 = .ok (.tableswitch 41 0 2 #[27, 32, 37], 27) := by decide +kernel
theorem dX6_cut_28 : decode cX6_cut 28 = .ok (.lload_n 0, 1) := by decide +kernel
theorem dX6_cut_29 : decode cX6_cut 29 = .ok (.l2i, 1) := by decide +kernel
theorem dX6_cut_30 : decode cX6_cut 30 = .ok (.i2b, 1) := by decide +kernel
theorem dX6_cut_31 : decode cX6_cut 31 = .ok (.i2l, 1) := by decide +kernel
theorem dX6_cut_32 : decode cX6_cut 32 = .ok (.lreturn, 1) := by decide +kernel
theorem dX6_cut_33 : decode cX6_cut 33 = .ok (.lload_n 0, 1) := by decide +kernel
theorem dX6_cut_34 : decode cX6_cut 34 = .ok (.l2i, 1) := by decide +kernel
theorem dX6_cut_35 : decode cX6_cut 35 = .ok (.i2s, 1) := by decide +kernel
theorem dX6_cut_36 : decode cX6_cut 36 = .ok (.i2l, 1) := by decide +kernel
theorem dX6_cut_37 : decode cX6_cut 37 = .ok (.lreturn, 1) := by decide +kernel
theorem dX6_cut_38 : decode cX6_cut 38 = .ok (.lload_n 0, 1) := by decide +kernel
theorem dX6_cut_39 : decode cX6_cut 39 = .ok (.l2i, 1) := by decide +kernel
theorem dX6_cut_40 : decode cX6_cut 40 = .ok (.i2l, 1) := by decide +kernel
theorem dX6_cut_41 : decode cX6_cut 41 = .ok (.lreturn, 1) := by decide +kernel
theorem dX6_cut_42 : decode cX6_cut 42 = .ok (.lload_n 0, 1) := by decide +kernel
theorem dX6_cut_43 : decode cX6_cut 43 = .ok (.lreturn, 1) := by decide +kernel
theorem dX6_copy_0 : decode cX6_copy 0 = .ok (.aload_n 0, 1) := by decide +kernel
theorem dX6_copy_1 : decode cX6_copy 1 = .ok (.getfield 9, 3) := by decide +kernel
theorem dX6_copy_4 : decode cX6_copy 4 = .ok (.iload_n 1, 1) := by decide +kernel
theorem dX6_copy_5 : decode cX6_copy 5 = .ok (.bipush 60, 2) := by decide +kernel
theorem dX6_copy_7 : decode cX6_copy 7 = .ok (.imul, 1) := by decide +kernel
theorem dX6_copy_8 : decode cX6_copy 8 = .ok (.iload_n 2, 1) := by decide +kernel
theorem dX6_copy_9 : decode cX6_copy 9 = .ok (.iadd, 1) := by decide +kernel
theorem dX6_copy_10 : decode cX6_copy 10 = .ok (.aload_n 0, 1) := by decide +kernel
theorem dX6_copy_11 : decode cX6_copy 11 = .ok (.getfield 9, 3) := by decide +kernel
theorem dX6_copy_14 : decode cX6_copy 14 = .ok (.iload_n 3, 1) := by decide +kernel
theorem dX6_copy_15 : decode cX6_copy 15 = .ok (.bipush 60, 2) := by decide +kernel
theorem dX6_copy_17 : decode cX6_copy 17 = .ok (.imul, 1) := by decide +kernel
theorem dX6_copy_18 : decode cX6_copy 18 = .ok (.iload 4, 2) := by decide +kernel
theorem dX6_copy_20 : decode cX6_copy 20 = .ok (.iadd, 1) := by decide +kernel
theorem dX6_copy_21 : decode cX6_copy 21 = .ok (.iload 5, 2) := by decide +kernel
theorem dX6_copy_23 : decode cX6_copy 23 = .ok (.invokestatic 28, 3) := by decide +kernel
theorem dX6_copy_26 : decode cX6_copy 26 = .ok (.return_, 1) := by decide +kernel
theorem dX6_tellsNights_0 : decode cX6_tellsNights 0 = .ok (.aload_n 0, 1) := by decide +kernel
theorem dX6_tellsNights_1 : decode cX6_tellsNights 1 = .ok (.getfield 13, 3) := by decide +kernel
theorem dX6_tellsNights_4 : decode cX6_tellsNights 4 = .ok (.iload_n 1, 1) := by decide +kernel
theorem dX6_tellsNights_5 : decode cX6_tellsNights 5 = .ok (.iaload, 1) := by decide +kernel
theorem dX6_tellsNights_6 : decode cX6_tellsNights 6 = .ok (.iload_n 2, 1) := by decide +kernel
theorem dX6_tellsNights_7 : decode cX6_tellsNights 7 = .ok (.if_icmp .le 5, 3) := by decide +kernel
theorem dX6_tellsNights_10 : decode cX6_tellsNights 10 = .ok (.iconst 0, 1) := by decide +kernel
theorem dX6_tellsNights_11 : decode cX6_tellsNights 11 = .ok (.ireturn, 1) := by decide +kernel
theorem dX6_tellsNights_12 : decode cX6_tellsNights 12 = .ok (.iconst 0, 1) := by decide +kernel
theorem dX6_tellsNights_13 : decode cX6_tellsNights 13 = .ok (.istore 4, 2) := by decide +kernel
theorem dX6_tellsNights_15 : decode cX6_tellsNights 15 = .ok (.iload 4, 2) := by decide +kernel
theorem dX6_tellsNights_17 : decode cX6_tellsNights 17 = .ok (.aload_n 0, 1) := by decide +kernel
theorem dX6_tellsNights_18 : decode cX6_tellsNights 18 = .ok (.getfield 13, 3) := by decide +kernel
theorem dX6_tellsNights_21 : decode cX6_tellsNights 21 = .ok (.iload_n 1, 1) := by decide +kernel
theorem dX6_tellsNights_22 : decode cX6_tellsNights 22 = .ok (.iaload, 1) := by decide +kernel
theorem dX6_tellsNights_23 : decode cX6_tellsNights 23 = .ok (.if_icmp .ge 25, 3) := by decide +kernel
theorem dX6_tellsNights_26 : decode cX6_tellsNights 26 = .ok (.aload_n 0, 1) := by decide +kernel
theorem dX6_tellsNights_27 : decode cX6_tellsNights 27 = .ok (.iload_n 1, 1) := by decide +kernel
theorem dX6_tellsNights_28 : decode cX6_tellsNights 28 = .ok (.iload 4, 2) := by decide +kernel
theorem dX6_tellsNights_30 : decode cX6_tellsNights 30 = .ok (.invokevirtual 34, 3) := by decide +kernel
theorem dX6_tellsNights_33 : decode cX6_tellsNights 33 = .ok (.iload_n 3, 1) := by decide +kernel
theorem dX6_tellsNights_34 : decode cX6_tellsNights 34 = .ok (.lshr, 1) := by decide +kernel
theorem dX6_tellsNights_35 : decode cX6_tellsNights 35 = .ok (.lconst 0, 1) := by decide +kernel
theorem dX6_tellsNights_36 : decode cX6_tellsNights 36 = .ok (.lcmp, 1) := by decide +kernel
theorem dX6_tellsNights_37 : decode cX6_tellsNights 37 = .ok (.ifCond .eq 5, 3) := by decide +kernel
theorem dX6_tellsNights_40 : decode cX6_tellsNights 40 = .ok (.iconst 0, 1) := by decide +kernel
theorem dX6_tellsNights_41 : decode cX6_tellsNights 41 = .ok (.ireturn, 1) := by decide +kernel
theorem dX6_tellsNights_42 : decode cX6_tellsNights 42 = .ok (.iinc 4 1, 3) := by decide +kernel
theorem dX6_tellsNights_45 : decode cX6_tellsNights 45 = .ok (.goto (-30), 3) := by decide +kernel
theorem dX6_tellsNights_48 : decode cX6_tellsNights 48 = .ok (.iconst 1, 1) := by decide +kernel
theorem dX6_tellsNights_49 : decode cX6_tellsNights 49 = .ok (.ireturn, 1) := by decide +kernel
theorem dX7_init_0 : decode cX7_init 0 = .ok (.aload_n 0, 1) := by decide +kernel
theorem dX7_init_1 : decode cX7_init 1 = .ok (.invokespecial 1, 3) := by decide +kernel
theorem dX7_init_4 : decode cX7_init 4 = .ok (.aload_n 0, 1) := by decide +kernel
theorem dX7_init_5 : decode cX7_init 5 = .ok (.sipush 1536, 3) := by decide +kernel
theorem dX7_init_8 : decode cX7_init 8 = .ok (.newarray .int, 2) := by decide +kernel
theorem dX7_init_10 : decode cX7_init 10 = .ok (.putfield 9, 3) := by decide +kernel
theorem dX7_init_13 : decode cX7_init 13 = .ok (.aload_n 0, 1) := by decide +kernel
theorem dX7_init_14 : decode cX7_init 14 = .ok (.sipush 1536, 3) := by decide +kernel
theorem dX7_init_17 : decode cX7_init 17 = .ok (.newarray .long, 2) := by decide +kernel
theorem dX7_init_19 : decode cX7_init 19 = .ok (.putfield 13, 3) := by decide +kernel
theorem dX7_init_22 : decode cX7_init 22 = .ok (.aload_n 0, 1) := by decide +kernel
theorem dX7_init_23 : decode cX7_init 23 = .ok (.sipush 1536, 3) := by decide +kernel
theorem dX7_init_26 : decode cX7_init 26 = .ok (.newarray .int, 2) := by decide +kernel
theorem dX7_init_28 : decode cX7_init 28 = .ok (.putfield 17, 3) := by decide +kernel
theorem dX7_init_31 : decode cX7_init 31 = .ok (.aload_n 0, 1) := by decide +kernel
theorem dX7_init_32 : decode cX7_init 32 = .ok (.sipush 4096, 3) := by decide +kernel
theorem dX7_init_35 : decode cX7_init 35 = .ok (.newarray .int, 2) := by decide +kernel
theorem dX7_init_37 : decode cX7_init 37 = .ok (.putfield 20, 3) := by decide +kernel
theorem dX7_init_40 : decode cX7_init 40 = .ok (.return_, 1) := by decide +kernel
theorem dX7_wipe_0 : decode cX7_wipe 0 = .ok (.iconst 0, 1) := by decide +kernel
theorem dX7_wipe_1 : decode cX7_wipe 1 = .ok (.istore_n 1, 1) := by decide +kernel
theorem dX7_wipe_2 : decode cX7_wipe 2 = .ok (.iload_n 1, 1) := by decide +kernel
theorem dX7_wipe_3 : decode cX7_wipe 3 = .ok (.aload_n 0, 1) := by decide +kernel
theorem dX7_wipe_4 : decode cX7_wipe 4 = .ok (.getfield 23, 3) := by decide +kernel
theorem dX7_wipe_7 : decode cX7_wipe 7 = .ok (.if_icmp .ge 21, 3) := by decide +kernel
theorem dX7_wipe_10 : decode cX7_wipe 10 = .ok (.aload_n 0, 1) := by decide +kernel
theorem dX7_wipe_11 : decode cX7_wipe 11 = .ok (.getfield 20, 3) := by decide +kernel
theorem dX7_wipe_14 : decode cX7_wipe 14 = .ok (.aload_n 0, 1) := by decide +kernel
theorem dX7_wipe_15 : decode cX7_wipe 15 = .ok (.getfield 17, 3) := by decide +kernel
theorem dX7_wipe_18 : decode cX7_wipe 18 = .ok (.iload_n 1, 1) := by decide +kernel
theorem dX7_wipe_19 : decode cX7_wipe 19 = .ok (.iaload, 1) := by decide +kernel
theorem dX7_wipe_20 : decode cX7_wipe 20 = .ok (.iconst 0, 1) := by decide +kernel
theorem dX7_wipe_21 : decode cX7_wipe 21 = .ok (.iastore, 1) := by decide +kernel
theorem dX7_wipe_22 : decode cX7_wipe 22 = .ok (.iinc 1 1, 3) := by decide +kernel
theorem dX7_wipe_25 : decode cX7_wipe 25 = .ok (.goto (-23), 3) := by decide +kernel
theorem dX7_wipe_28 : decode cX7_wipe 28 = .ok (.aload_n 0, 1) := by decide +kernel
theorem dX7_wipe_29 : decode cX7_wipe 29 = .ok (.iconst 0, 1) := by decide +kernel
theorem dX7_wipe_30 : decode cX7_wipe 30 = .ok (.putfield 23, 3) := by decide +kernel
theorem dX7_wipe_33 : decode cX7_wipe 33 = .ok (.return_, 1) := by decide +kernel
theorem dX7_put_0 : decode cX7_put 0 = .ok (.lload_n 2, 1) := by decide +kernel
theorem dX7_put_1 : decode cX7_put 1 = .ok (.lconst 0, 1) := by decide +kernel
theorem dX7_put_2 : decode cX7_put 2 = .ok (.lcmp, 1) := by decide +kernel
theorem dX7_put_3 : decode cX7_put 3 = .ok (.ifCond .ne 4, 3) := by decide +kernel
theorem dX7_put_6 : decode cX7_put 6 = .ok (.return_, 1) := by decide +kernel
theorem dX7_put_7 : decode cX7_put 7 = .ok (.iload_n 1, 1) := by decide +kernel
theorem dX7_put_8 : decode cX7_put 8 = .ok (.ldc 27, 2) := by decide +kernel
theorem dX7_put_10 : decode cX7_put 10 = .ok (.imul, 1) := by decide +kernel
theorem dX7_put_11 : decode cX7_put 11 = .ok (.bipush 20, 2) := by decide +kernel
theorem dX7_put_13 : decode cX7_put 13 = .ok (.iushr, 1) := by decide +kernel
theorem dX7_put_14 : decode cX7_put 14 = .ok (.istore 4, 2) := by decide +kernel
theorem dX7_put_16 : decode cX7_put 16 = .ok (.iconst 0, 1) := by decide +kernel
theorem dX7_put_17 : decode cX7_put 17 = .ok (.istore 5, 2) := by decide +kernel
theorem dX7_put_19 : decode cX7_put 19 = .ok (.iload 5, 2) := by decide +kernel
theorem dX7_put_21 : decode cX7_put 21 = .ok (.sipush 4096, 3) := by decide +kernel
theorem dX7_put_24 : decode cX7_put 24 = .ok (.if_icmp .ge 63, 3) := by decide +kernel
theorem dX7_put_27 : decode cX7_put 27 = .ok (.aload_n 0, 1) := by decide +kernel
theorem dX7_put_28 : decode cX7_put 28 = .ok (.getfield 20, 3) := by decide +kernel
theorem dX7_put_31 : decode cX7_put 31 = .ok (.iload 4, 2) := by decide +kernel
theorem dX7_put_33 : decode cX7_put 33 = .ok (.iaload, 1) := by decide +kernel
theorem dX7_put_34 : decode cX7_put 34 = .ok (.ifCond .eq 53, 3) := by decide +kernel
theorem dX7_put_37 : decode cX7_put 37 = .ok (.aload_n 0, 1) := by decide +kernel
theorem dX7_put_38 : decode cX7_put 38 = .ok (.getfield 20, 3) := by decide +kernel
theorem dX7_put_41 : decode cX7_put 41 = .ok (.iload 4, 2) := by decide +kernel
theorem dX7_put_43 : decode cX7_put 43 = .ok (.iaload, 1) := by decide +kernel
theorem dX7_put_44 : decode cX7_put 44 = .ok (.iconst 1, 1) := by decide +kernel
theorem dX7_put_45 : decode cX7_put 45 = .ok (.isub, 1) := by decide +kernel
theorem dX7_put_46 : decode cX7_put 46 = .ok (.istore 6, 2) := by decide +kernel
theorem dX7_put_48 : decode cX7_put 48 = .ok (.aload_n 0, 1) := by decide +kernel
theorem dX7_put_49 : decode cX7_put 49 = .ok (.getfield 9, 3) := by decide +kernel
theorem dX7_put_52 : decode cX7_put 52 = .ok (.iload 6, 2) := by decide +kernel
theorem dX7_put_54 : decode cX7_put 54 = .ok (.iaload, 1) := by decide +kernel
theorem dX7_put_55 : decode cX7_put 55 = .ok (.iload_n 1, 1) := by decide +kernel
theorem dX7_put_56 : decode cX7_put 56 = .ok (.if_icmp .ne 15, 3) := by decide +kernel
theorem dX7_put_59 : decode cX7_put 59 = .ok (.aload_n 0, 1) := by decide +kernel
theorem dX7_put_60 : decode cX7_put 60 = .ok (.getfield 13, 3) := by decide +kernel
theorem dX7_put_63 : decode cX7_put 63 = .ok (.iload 6, 2) := by decide +kernel
theorem dX7_put_65 : decode cX7_put 65 = .ok (.dup2, 1) := by decide +kernel
theorem dX7_put_66 : decode cX7_put 66 = .ok (.laload, 1) := by decide +kernel
theorem dX7_put_67 : decode cX7_put 67 = .ok (.lload_n 2, 1) := by decide +kernel
theorem dX7_put_68 : decode cX7_put 68 = .ok (.ladd, 1) := by decide +kernel
theorem dX7_put_69 : decode cX7_put 69 = .ok (.lastore, 1) := by decide +kernel
theorem dX7_put_70 : decode cX7_put 70 = .ok (.return_, 1) := by decide +kernel
theorem dX7_put_71 : decode cX7_put 71 = .ok (.iload 4, 2) := by decide +kernel
theorem dX7_put_73 : decode cX7_put 73 = .ok (.iconst 1, 1) := by decide +kernel
theorem dX7_put_74 : decode cX7_put 74 = .ok (.iadd, 1) := by decide +kernel
theorem dX7_put_75 : decode cX7_put 75 = .ok (.sipush 4095, 3) := by decide +kernel
theorem dX7_put_78 : decode cX7_put 78 = .ok (.iand, 1) := by decide +kernel
theorem dX7_put_79 : decode cX7_put 79 = .ok (.istore 4, 2) := by decide +kernel
theorem dX7_put_81 : decode cX7_put 81 = .ok (.iinc 5 1, 3) := by decide +kernel
theorem dX7_put_84 : decode cX7_put 84 = .ok (.goto (-65), 3) := by decide +kernel
theorem dX7_put_87 : decode cX7_put 87 = .ok (.aload_n 0, 1) := by decide +kernel
theorem dX7_put_88 : decode cX7_put 88 = .ok (.getfield 23, 3) := by decide +kernel
theorem dX7_put_91 : decode cX7_put 91 = .ok (.sipush 1536, 3) := by decide +kernel
theorem dX7_put_94 : decode cX7_put 94 = .ok (.if_icmp .ge 55, 3) := by decide +kernel
theorem dX7_put_97 : decode cX7_put 97 = .ok (.aload_n 0, 1) := by decide +kernel
theorem dX7_put_98 : decode cX7_put 98 = .ok (.getfield 9, 3) := by decide +kernel
theorem dX7_put_101 : decode cX7_put 101 = .ok (.aload_n 0, 1) := by decide +kernel
theorem dX7_put_102 : decode cX7_put 102 = .ok (.getfield 23, 3) := by decide +kernel
theorem dX7_put_105 : decode cX7_put 105 = .ok (.iload_n 1, 1) := by decide +kernel
theorem dX7_put_106 : decode cX7_put 106 = .ok (.iastore, 1) := by decide +kernel
theorem dX7_put_107 : decode cX7_put 107 = .ok (.aload_n 0, 1) := by decide +kernel
theorem dX7_put_108 : decode cX7_put 108 = .ok (.getfield 13, 3) := by decide +kernel
theorem dX7_put_111 : decode cX7_put 111 = .ok (.aload_n 0, 1) := by decide +kernel
theorem dX7_put_112 : decode cX7_put 112 = .ok (.getfield 23, 3) := by decide +kernel
theorem dX7_put_115 : decode cX7_put 115 = .ok (.lload_n 2, 1) := by decide +kernel
theorem dX7_put_116 : decode cX7_put 116 = .ok (.lastore, 1) := by decide +kernel
theorem dX7_put_117 : decode cX7_put 117 = .ok (.aload_n 0, 1) := by decide +kernel
theorem dX7_put_118 : decode cX7_put 118 = .ok (.getfield 17, 3) := by decide +kernel
theorem dX7_put_121 : decode cX7_put 121 = .ok (.aload_n 0, 1) := by decide +kernel
theorem dX7_put_122 : decode cX7_put 122 = .ok (.getfield 23, 3) := by decide +kernel
theorem dX7_put_125 : decode cX7_put 125 = .ok (.iload 4, 2) := by decide +kernel
theorem dX7_put_127 : decode cX7_put 127 = .ok (.iastore, 1) := by decide +kernel
theorem dX7_put_128 : decode cX7_put 128 = .ok (.aload_n 0, 1) := by decide +kernel
theorem dX7_put_129 : decode cX7_put 129 = .ok (.dup, 1) := by decide +kernel
theorem dX7_put_130 : decode cX7_put 130 = .ok (.getfield 23, 3) := by decide +kernel
theorem dX7_put_133 : decode cX7_put 133 = .ok (.iconst 1, 1) := by decide +kernel
theorem dX7_put_134 : decode cX7_put 134 = .ok (.iadd, 1) := by decide +kernel
theorem dX7_put_135 : decode cX7_put 135 = .ok (.putfield 23, 3) := by decide +kernel
theorem dX7_put_138 : decode cX7_put 138 = .ok (.aload_n 0, 1) := by decide +kernel
theorem dX7_put_139 : decode cX7_put 139 = .ok (.getfield 20, 3) := by decide +kernel
theorem dX7_put_142 : decode cX7_put 142 = .ok (.iload 4, 2) := by decide +kernel
theorem dX7_put_144 : decode cX7_put 144 = .ok (.aload_n 0, 1) := by decide +kernel
theorem dX7_put_145 : decode cX7_put 145 = .ok (.getfield 23, 3) := by decide +kernel
theorem dX7_put_148 : decode cX7_put 148 = .ok (.iastore, 1) := by decide +kernel
theorem dX7_put_149 : decode cX7_put 149 = .ok (.return_, 1) := by decide +kernel
theorem dX8_init_0 : decode cX8_init 0 = .ok (.aload_n 0, 1) := by decide +kernel
theorem dX8_init_1 : decode cX8_init 1 = .ok (.invokespecial 3, 3) := by decide +kernel
theorem dX8_init_4 : decode cX8_init 4 = .ok (.aload_n 0, 1) := by decide +kernel
theorem dX8_init_5 : decode cX8_init 5 = .ok (.sipush 1600, 3) := by decide +kernel
theorem dX8_init_8 : decode cX8_init 8 = .ok (.newarray .byte, 2) := by decide +kernel
theorem dX8_init_10 : decode cX8_init 10 = .ok (.putfield 9, 3) := by decide +kernel
theorem dX8_init_13 : decode cX8_init 13 = .ok (.return_, 1) := by decide +kernel
theorem dX8_append_0 : decode cX8_append 0 = .ok (.bipush 24, 2) := by decide +kernel
theorem dX8_append_2 : decode cX8_append 2 = .ok (.istore_n 2, 1) := by decide +kernel
theorem dX8_append_3 : decode cX8_append 3 = .ok (.iload_n 2, 1) := by decide +kernel
theorem dX8_append_4 : decode cX8_append 4 = .ok (.ifCond .lt 42, 3) := by decide +kernel
theorem dX8_append_7 : decode cX8_append 7 = .ok (.aload_n 0, 1) := by decide +kernel
theorem dX8_append_8 : decode cX8_append 8 = .ok (.getfield 15, 3) := by decide +kernel
theorem dX8_append_11 : decode cX8_append 11 = .ok (.sipush 1600, 3) := by decide +kernel
theorem dX8_append_14 : decode cX8_append 14 = .ok (.if_icmp .ge 32, 3) := by decide +kernel
theorem dX8_append_17 : decode cX8_append 17 = .ok (.aload_n 0, 1) := by decide +kernel
theorem dX8_append_18 : decode cX8_append 18 = .ok (.getfield 9, 3) := by decide +kernel
theorem dX8_append_21 : decode cX8_append 21 = .ok (.aload_n 0, 1) := by decide +kernel
theorem dX8_append_22 : decode cX8_append 22 = .ok (.getfield 15, 3) := by decide +kernel
theorem dX8_append_25 : decode cX8_append 25 = .ok (.iload_n 1, 1) := by decide +kernel
theorem dX8_append_26 : decode cX8_append 26 = .ok (.iload_n 2, 1) := by decide +kernel
theorem dX8_append_27 : decode cX8_append 27 = .ok (.iushr, 1) := by decide +kernel
theorem dX8_append_28 : decode cX8_append 28 = .ok (.i2b, 1) := by decide +kernel
theorem dX8_append_29 : decode cX8_append 29 = .ok (.bastore, 1) := by decide +kernel
theorem dX8_append_30 : decode cX8_append 30 = .ok (.aload_n 0, 1) := by decide +kernel
theorem dX8_append_31 : decode cX8_append 31 = .ok (.dup, 1) := by decide +kernel
theorem dX8_append_32 : decode cX8_append 32 = .ok (.getfield 15, 3) := by decide +kernel
theorem dX8_append_35 : decode cX8_append 35 = .ok (.iconst 1, 1) := by decide +kernel
theorem dX8_append_36 : decode cX8_append 36 = .ok (.iadd, 1) := by decide +kernel
theorem dX8_append_37 : decode cX8_append 37 = .ok (.putfield 15, 3) := by decide +kernel
theorem dX8_append_40 : decode cX8_append 40 = .ok (.iinc 2 (-8), 3) := by decide +kernel
theorem dX8_append_43 : decode cX8_append 43 = .ok (.goto (-40), 3) := by decide +kernel
theorem dX8_append_46 : decode cX8_append 46 = .ok (.return_, 1) := by decide +kernel
theorem dX8_rewind_0 : decode cX8_rewind 0 = .ok (.aload_n 0, 1) := by decide +kernel
theorem dX8_rewind_1 : decode cX8_rewind 1 = .ok (.iconst 0, 1) := by decide +kernel
theorem dX8_rewind_2 : decode cX8_rewind 2 = .ok (.putfield 19, 3) := by decide +kernel
theorem dX8_rewind_5 : decode cX8_rewind 5 = .ok (.aload_n 0, 1) := by decide +kernel
theorem dX8_rewind_6 : decode cX8_rewind 6 = .ok (.invokevirtual 22, 3) := by decide +kernel
theorem dX8_rewind_9 : decode cX8_rewind 9 = .ok (.return_, 1) := by decide +kernel
theorem dX8_step_0 : decode cX8_step 0 = .ok (.aload_n 0, 1) := by decide +kernel
theorem dX8_step_1 : decode cX8_step 1 = .ok (.aload_n 0, 1) := by decide +kernel
theorem dX8_step_2 : decode cX8_step 2 = .ok (.getfield 19, 3) := by decide +kernel
theorem dX8_step_5 : decode cX8_step 5 = .ok (.putfield 25, 3) := by decide +kernel
theorem dX8_step_8 : decode cX8_step 8 = .ok (.aload_n 0, 1) := by decide +kernel
theorem dX8_step_9 : decode cX8_step 9 = .ok (.getfield 25, 3) := by decide +kernel
theorem dX8_step_12 : decode cX8_step 12 = .ok (.aload_n 0, 1) := by decide +kernel
theorem dX8_step_13 : decode cX8_step 13 = .ok (.getfield 15, 3) := by decide +kernel
theorem dX8_step_16 : decode cX8_step 16 = .ok (.if_icmp .ge 28, 3) := by decide +kernel
theorem dX8_step_19 : decode cX8_step 19 = .ok (.aload_n 0, 1) := by decide +kernel
theorem dX8_step_20 : decode cX8_step 20 = .ok (.aload_n 0, 1) := by decide +kernel
theorem dX8_step_21 : decode cX8_step 21 = .ok (.getfield 25, 3) := by decide +kernel
theorem dX8_step_24 : decode cX8_step 24 = .ok (.invokevirtual 28, 3) := by decide +kernel
theorem dX8_step_27 : decode cX8_step 27 = .ok (.iconst 4, 1) := by decide +kernel
theorem dX8_step_28 : decode cX8_step 28 = .ok (.if_icmp .ne 16, 3) := by decide +kernel
theorem dX8_step_31 : decode cX8_step 31 = .ok (.aload_n 0, 1) := by decide +kernel
theorem dX8_step_32 : decode cX8_step 32 = .ok (.dup, 1) := by decide +kernel
theorem dX8_step_33 : decode cX8_step 33 = .ok (.getfield 25, 3) := by decide +kernel
theorem dX8_step_36 : decode cX8_step 36 = .ok (.iconst 1, 1) := by decide +kernel
theorem dX8_step_37 : decode cX8_step 37 = .ok (.iadd, 1) := by decide +kernel
theorem dX8_step_38 : decode cX8_step 38 = .ok (.putfield 25, 3) := by decide +kernel
theorem dX8_step_41 : decode cX8_step 41 = .ok (.goto (-33), 3) := by decide +kernel
theorem dX8_step_44 : decode cX8_step 44 = .ok (.aload_n 0, 1) := by decide +kernel
theorem dX8_step_45 : decode cX8_step 45 = .ok (.aload_n 0, 1) := by decide +kernel
theorem dX8_step_46 : decode cX8_step 46 = .ok (.aload_n 0, 1) := by decide +kernel
theorem dX8_step_47 : decode cX8_step 47 = .ok (.getfield 25, 3) := by decide +kernel
theorem dX8_step_50 : decode cX8_step 50 = .ok (.invokevirtual 28, 3) := by decide +kernel
theorem dX8_step_53 : decode cX8_step 53 = .ok (.putfield 32, 3) := by decide +kernel
theorem dX8_step_56 : decode cX8_step 56 = .ok (.aload_n 0, 1) := by decide +kernel
theorem dX8_step_57 : decode cX8_step 57 = .ok (.iconst 0, 1) := by decide +kernel
theorem dX8_step_58 : decode cX8_step 58 = .ok (.putfield 35, 3) := by decide +kernel
theorem dX8_step_61 : decode cX8_step 61 = .ok (.aload_n 0, 1) := by decide +kernel
theorem dX8_step_62 : decode cX8_step 62 = .ok (.aload_n 0, 1) := by decide +kernel
theorem dX8_step_63 : decode cX8_step 63 = .ok (.getfield 25, 3) := by decide +kernel
theorem dX8_step_66 : decode cX8_step 66 = .ok (.putfield 19, 3) := by decide +kernel
theorem dX8_step_69 : decode cX8_step 69 = .ok (.aload_n 0, 1) := by decide +kernel
theorem dX8_step_70 : decode cX8_step 70 = .ok (.getfield 32, 3) := by decide +kernel
theorem dX8_step_73 : decode cX8_step 73 = .ok (.ifCond .eq 7, 3) := by decide +kernel
theorem dX8_step_76 : decode cX8_step 76 = .ok (.iconst 1, 1) := by decide +kernel
theorem dX8_step_77 : decode cX8_step 77 = .ok (.goto 4, 3) := by decide +kernel
theorem dX8_step_80 : decode cX8_step 80 = .ok (.iconst 0, 1) := by decide +kernel
theorem dX8_step_81 : decode cX8_step 81 = .ok (.istore_n 1, 1) := by decide +kernel
theorem dX8_step_82 : decode cX8_step 82 = .ok (.iload_n 1, 1) := by decide +kernel
theorem dX8_step_83 : decode cX8_step 83 = .ok (.ifCond .eq 101, 3) := by decide +kernel
theorem dX8_step_86 : decode cX8_step 86 = .ok (.aload_n 0, 1) := by decide +kernel
theorem dX8_step_87 : decode cX8_step 87 = .ok (.getfield 19, 3) := by decide +kernel
theorem dX8_step_90 : decode cX8_step 90 = .ok (.aload_n 0, 1) := by decide +kernel
theorem dX8_step_91 : decode cX8_step 91 = .ok (.getfield 15, 3) := by decide +kernel
theorem dX8_step_94 : decode cX8_step 94 = .ok (.if_icmp .ge 90, 3) := by decide +kernel
theorem dX8_step_97 : decode cX8_step 97 = .ok (.aload_n 0, 1) := by decide +kernel
theorem dX8_step_98 : decode cX8_step 98 = .ok (.getfield 32, 3) := by decide +kernel
theorem dX8_step_101 : decode cX8_step 101 = .ok (.iconst 2, 1) := by decide +kernel
theorem dX8_step_102 : decode cX8_step 102 = .ok (.if_icmp .ne 32, 3) := by decide +kernel
theorem dX8_step_105 : decode cX8_step 105 = .ok (.aload_n 0, 1) := by decide +kernel
theorem dX8_step_106 : decode cX8_step 106 = .ok (.ldc 38, 2) := by decide +kernel
theorem dX8_step_108 : decode cX8_step 108 = .ok (.bipush 10, 2) := by decide +kernel
theorem dX8_step_110 : decode cX8_step 110 = .ok (.aload_n 0, 1) := by decide +kernel
theorem dX8_step_111 : decode cX8_step 111 = .ok (.getfield 35, 3) := by decide +kernel
theorem dX8_step_114 : decode cX8_step 114 = .ok (.imul, 1) := by decide +kernel
theorem dX8_step_115 : decode cX8_step 115 = .ok (.aload_n 0, 1) := by decide +kernel
theorem dX8_step_116 : decode cX8_step 116 = .ok (.getfield 9, 3) := by decide +kernel
theorem dX8_step_119 : decode cX8_step 119 = .ok (.aload_n 0, 1) := by decide +kernel
theorem dX8_step_120 : decode cX8_step 120 = .ok (.getfield 19, 3) := by decide +kernel
theorem dX8_step_123 : decode cX8_step 123 = .ok (.baload, 1) := by decide +kernel
theorem dX8_step_124 : decode cX8_step 124 = .ok (.iadd, 1) := by decide +kernel
theorem dX8_step_125 : decode cX8_step 125 = .ok (.bipush 48, 2) := by decide +kernel
theorem dX8_step_127 : decode cX8_step 127 = .ok (.isub, 1) := by decide +kernel
theorem dX8_step_128 : decode cX8_step 128 = .ok (.invokestatic 39, 3) := by decide +kernel
theorem dX8_step_131 : decode cX8_step 131 = .ok (.putfield 35, 3) := by decide +kernel
theorem dX8_step_134 : decode cX8_step 134 = .ok (.aload_n 0, 1) := by decide +kernel
theorem dX8_step_135 : decode cX8_step 135 = .ok (.dup, 1) := by decide +kernel
theorem dX8_step_136 : decode cX8_step 136 = .ok (.getfield 19, 3) := by decide +kernel
theorem dX8_step_139 : decode cX8_step 139 = .ok (.iconst 1, 1) := by decide +kernel
theorem dX8_step_140 : decode cX8_step 140 = .ok (.iadd, 1) := by decide +kernel
theorem dX8_step_141 : decode cX8_step 141 = .ok (.putfield 19, 3) := by decide +kernel
theorem dX8_step_144 : decode cX8_step 144 = .ok (.aload_n 0, 1) := by decide +kernel
theorem dX8_step_145 : decode cX8_step 145 = .ok (.getfield 32, 3) := by decide +kernel
theorem dX8_step_148 : decode cX8_step 148 = .ok (.iconst 1, 1) := by decide +kernel
theorem dX8_step_149 : decode cX8_step 149 = .ok (.if_icmp .eq 11, 3) := by decide +kernel
theorem dX8_step_152 : decode cX8_step 152 = .ok (.aload_n 0, 1) := by decide +kernel
theorem dX8_step_153 : decode cX8_step 153 = .ok (.getfield 32, 3) := by decide +kernel
theorem dX8_step_156 : decode cX8_step 156 = .ok (.iconst 2, 1) := by decide +kernel
theorem dX8_step_157 : decode cX8_step 157 = .ok (.if_icmp .ne 22, 3) := by decide +kernel
theorem dX8_step_160 : decode cX8_step 160 = .ok (.aload_n 0, 1) := by decide +kernel
theorem dX8_step_161 : decode cX8_step 161 = .ok (.aload_n 0, 1) := by decide +kernel
theorem dX8_step_162 : decode cX8_step 162 = .ok (.getfield 19, 3) := by decide +kernel
theorem dX8_step_165 : decode cX8_step 165 = .ok (.invokevirtual 28, 3) := by decide +kernel
theorem dX8_step_168 : decode cX8_step 168 = .ok (.aload_n 0, 1) := by decide +kernel
theorem dX8_step_169 : decode cX8_step 169 = .ok (.getfield 32, 3) := by decide +kernel
theorem dX8_step_172 : decode cX8_step 172 = .ok (.if_icmp .ne 7, 3) := by decide +kernel
theorem dX8_step_175 : decode cX8_step 175 = .ok (.iconst 1, 1) := by decide +kernel
theorem dX8_step_176 : decode cX8_step 176 = .ok (.goto 4, 3) := by decide +kernel
theorem dX8_step_179 : decode cX8_step 179 = .ok (.iconst 0, 1) := by decide +kernel
theorem dX8_step_180 : decode cX8_step 180 = .ok (.istore_n 1, 1) := by decide +kernel
theorem dX8_step_181 : decode cX8_step 181 = .ok (.goto (-99), 3) := by decide +kernel
theorem dX8_step_184 : decode cX8_step 184 = .ok (.return_, 1) := by decide +kernel
theorem dX8_kindAt_0 : decode cX8_kindAt 0 = .ok (.iload_n 1, 1) := by decide +kernel
theorem dX8_kindAt_1 : decode cX8_kindAt 1 = .ok (.ifCond .lt 11, 3) := by decide +kernel
theorem dX8_kindAt_4 : decode cX8_kindAt 4 = .ok (.iload_n 1, 1) := by decide +kernel
theorem dX8_kindAt_5 : decode cX8_kindAt 5 = .ok (.aload_n 0, 1) := by decide +kernel
theorem dX8_kindAt_6 : decode cX8_kindAt 6 = .ok (.getfield 15, 3) := by decide +kernel
theorem dX8_kindAt_9 : decode cX8_kindAt 9 = .ok (.if_icmp .lt 5, 3) := by decide +kernel
theorem dX8_kindAt_12 : decode cX8_kindAt 12 = .ok (.iconst 0, 1) := by decide +kernel
theorem dX8_kindAt_13 : decode cX8_kindAt 13 = .ok (.ireturn, 1) := by decide +kernel
theorem dX8_kindAt_14 : decode cX8_kindAt 14 = .ok (.aload_n 0, 1) := by decide +kernel
theorem dX8_kindAt_15 : decode cX8_kindAt 15 = .ok (.getfield 9, 3) := by decide +kernel
theorem dX8_kindAt_18 : decode cX8_kindAt 18 = .ok (.iload_n 1, 1) := by decide +kernel
theorem dX8_kindAt_19 : decode cX8_kindAt 19 = .ok (.baload, 1) := by decide +kernel
theorem dX8_kindAt_20 : decode cX8_kindAt 20 = .ok (.istore_n 2, 1) := by decide +kernel
theorem dX8_kindAt_21 : decode cX8_kindAt 21 = .ok (.iload_n 2, 1) := by decide +kernel
theorem dX8_kindAt_22 : decode cX8_kindAt 22 = .ok (.bipush 97, 2) := by decide +kernel
theorem dX8_kindAt_24 : decode cX8_kindAt 24 = .ok (.if_icmp .lt 11, 3) := by decide +kernel
theorem dX8_kindAt_27 : decode cX8_kindAt 27 = .ok (.iload_n 2, 1) := by decide +kernel
theorem dX8_kindAt_28 : decode cX8_kindAt 28 = .ok (.bipush 122, 2) := by decide +kernel
theorem dX8_kindAt_30 : decode cX8_kindAt 30 = .ok (.if_icmp .gt 5, 3) := by decide +kernel
theorem dX8_kindAt_33 : decode cX8_kindAt 33 = .ok (.iconst 1, 1) := by decide +kernel
theorem dX8_kindAt_34 : decode cX8_kindAt 34 = .ok (.ireturn, 1) := by decide +kernel
theorem dX8_kindAt_35 : decode cX8_kindAt 35 = .ok (.iload_n 2, 1) := by decide +kernel
theorem dX8_kindAt_36 : decode cX8_kindAt 36 = .ok (.bipush 48, 2) := by decide +kernel
theorem dX8_kindAt_38 : decode cX8_kindAt 38 = .ok (.if_icmp .lt 11, 3) := by decide +kernel
theorem dX8_kindAt_41 : decode cX8_kindAt 41 = .ok (.iload_n 2, 1) := by decide +kernel
theorem dX8_kindAt_42 : decode cX8_kindAt 42 = .ok (.bipush 57, 2) := by decide +kernel
theorem dX8_kindAt_44 : decode cX8_kindAt 44 = .ok (.if_icmp .gt 5, 3) := by decide +kernel
theorem dX8_kindAt_47 : decode cX8_kindAt 47 = .ok (.iconst 2, 1) := by decide +kernel
theorem dX8_kindAt_48 : decode cX8_kindAt 48 = .ok (.ireturn, 1) := by decide +kernel
theorem dX8_kindAt_49 : decode cX8_kindAt 49 = .ok (.iload_n 2, 1) := by decide +kernel
theorem dX8_kindAt_50 : decode cX8_kindAt 50 = .ok (.bipush 32, 2) := by decide +kernel
theorem dX8_kindAt_52 : decode cX8_kindAt 52 = .ok (.if_icmp .eq 9, 3) := by decide +kernel
theorem dX8_kindAt_55 : decode cX8_kindAt 55 = .ok (.iload_n 2, 1) := by decide +kernel
theorem dX8_kindAt_56 : decode cX8_kindAt 56 = .ok (.bipush 10, 2) := by decide +kernel
theorem dX8_kindAt_58 : decode cX8_kindAt 58 = .ok (.if_icmp .ne 5, 3) := by decide +kernel
theorem dX8_kindAt_61 : decode cX8_kindAt 61 = .ok (.iconst 4, 1) := by decide +kernel
theorem dX8_kindAt_62 : decode cX8_kindAt 62 = .ok (.ireturn, 1) := by decide +kernel
theorem dX8_kindAt_63 : decode cX8_kindAt 63 = .ok (.iload_n 2, 1) := by decide +kernel
theorem dX8_kindAt_64 : decode cX8_kindAt 64 = .ok (.bipush 59, 2) := by decide +kernel
theorem dX8_kindAt_66 : decode cX8_kindAt 66 = .ok (.if_icmp .ne 7, 3) := by decide +kernel
theorem dX8_kindAt_69 : decode cX8_kindAt 69 = .ok (.iconst 3, 1) := by decide +kernel
theorem dX8_kindAt_70 : decode cX8_kindAt 70 = .ok (.goto 4, 3) := by decide +kernel
theorem dX8_kindAt_73 : decode cX8_kindAt 73 = .ok (.iconst 5, 1) := by decide +kernel
theorem dX8_kindAt_74 : decode cX8_kindAt 74 = .ok (.ireturn, 1) := by decide +kernel
theorem dX8_isWord_0 : decode cX8_isWord 0 = .ok (.aload_n 0, 1) := by decide +kernel
theorem dX8_isWord_1 : decode cX8_isWord 1 = .ok (.getfield 32, 3) := by decide +kernel
theorem dX8_isWord_4 : decode cX8_isWord 4 = .ok (.iconst 1, 1) := by decide +kernel
theorem dX8_isWord_5 : decode cX8_isWord 5 = .ok (.if_icmp .ne 19, 3) := by decide +kernel
theorem dX8_isWord_8 : decode cX8_isWord 8 = .ok (.aload_n 0, 1) := by decide +kernel
theorem dX8_isWord_9 : decode cX8_isWord 9 = .ok (.getfield 19, 3) := by decide +kernel
theorem dX8_isWord_12 : decode cX8_isWord 12 = .ok (.aload_n 0, 1) := by decide +kernel
theorem dX8_isWord_13 : decode cX8_isWord 13 = .ok (.getfield 25, 3) := by decide +kernel
theorem dX8_isWord_16 : decode cX8_isWord 16 = .ok (.isub, 1) := by decide +kernel
theorem dX8_isWord_17 : decode cX8_isWord 17 = .ok (.aload_n 1, 1) := by decide +kernel
theorem dX8_isWord_18 : decode cX8_isWord 18 = .ok (.invokevirtual 45, 3) := by decide +kernel
theorem dX8_isWord_21 : decode cX8_isWord 21 = .ok (.if_icmp .eq 5, 3) := by decide +kernel
theorem dX8_isWord_24 : decode cX8_isWord 24 = .ok (.iconst 0, 1) := by decide +kernel
theorem dX8_isWord_25 : decode cX8_isWord 25 = .ok (.ireturn, 1) := by decide +kernel
theorem dX8_isWord_26 : decode cX8_isWord 26 = .ok (.iconst 0, 1) := by decide +kernel
theorem dX8_isWord_27 : decode cX8_isWord 27 = .ok (.istore_n 2, 1) := by decide +kernel
theorem dX8_isWord_28 : decode cX8_isWord 28 = .ok (.iload_n 2, 1) := by decide +kernel
theorem dX8_isWord_29 : decode cX8_isWord 29 = .ok (.aload_n 1, 1) := by decide +kernel
theorem dX8_isWord_30 : decode cX8_isWord 30 = .ok (.invokevirtual 45, 3) := by decide +kernel
theorem dX8_isWord_33 : decode cX8_isWord 33 = .ok (.if_icmp .ge 30, 3) := by decide +kernel
theorem dX8_isWord_36 : decode cX8_isWord 36 = .ok (.aload_n 0, 1) := by decide +kernel
theorem dX8_isWord_37 : decode cX8_isWord 37 = .ok (.getfield 9, 3) := by decide +kernel
theorem dX8_isWord_40 : decode cX8_isWord 40 = .ok (.aload_n 0, 1) := by decide +kernel
theorem dX8_isWord_41 : decode cX8_isWord 41 = .ok (.getfield 25, 3) := by decide +kernel
theorem dX8_isWord_44 : decode cX8_isWord 44 = .ok (.iload_n 2, 1) := by decide +kernel
theorem dX8_isWord_45 : decode cX8_isWord 45 = .ok (.iadd, 1) := by decide +kernel
theorem dX8_isWord_46 : decode cX8_isWord 46 = .ok (.baload, 1) := by decide +kernel
theorem dX8_isWord_47 : decode cX8_isWord 47 = .ok (.aload_n 1, 1) := by decide +kernel
theorem dX8_isWord_48 : decode cX8_isWord 48 = .ok (.iload_n 2, 1) := by decide +kernel
theorem dX8_isWord_49 : decode cX8_isWord 49 = .ok (.invokevirtual 50, 3) := by decide +kernel
theorem dX8_isWord_52 : decode cX8_isWord 52 = .ok (.if_icmp .eq 5, 3) := by decide +kernel
theorem dX8_isWord_55 : decode cX8_isWord 55 = .ok (.iconst 0, 1) := by decide +kernel
theorem dX8_isWord_56 : decode cX8_isWord 56 = .ok (.ireturn, 1) := by decide +kernel
theorem dX8_isWord_57 : decode cX8_isWord 57 = .ok (.iinc 2 1, 3) := by decide +kernel
theorem dX8_isWord_60 : decode cX8_isWord 60 = .ok (.goto (-32), 3) := by decide +kernel
theorem dX8_isWord_63 : decode cX8_isWord 63 = .ok (.iconst 1, 1) := by decide +kernel
theorem dX8_isWord_64 : decode cX8_isWord 64 = .ok (.ireturn, 1) := by decide +kernel
theorem dX9_init_0 : decode cX9_init 0 = .ok (.aload_n 0, 1) := by decide +kernel
theorem dX9_init_1 : decode cX9_init 1 = .ok (.invokespecial 3, 3) := by decide +kernel
theorem dX9_init_4 : decode cX9_init 4 = .ok (.aload_n 0, 1) := by decide +kernel
theorem dX9_init_5 : decode cX9_init 5 = .ok (.bipush 6, 2) := by decide +kernel
theorem dX9_init_7 : decode cX9_init 7 = .ok (.newarray .int, 2) := by decide +kernel
theorem dX9_init_9 : decode cX9_init 9 = .ok (.putfield 9, 3) := by decide +kernel
theorem dX9_init_12 : decode cX9_init 12 = .ok (.aload_n 0, 1) := by decide +kernel
theorem dX9_init_13 : decode cX9_init 13 = .ok (.bipush 6, 2) := by decide +kernel
theorem dX9_init_15 : decode cX9_init 15 = .ok (.newarray .int, 2) := by decide +kernel
theorem dX9_init_17 : decode cX9_init 17 = .ok (.putfield 15, 3) := by decide +kernel
theorem dX9_init_20 : decode cX9_init 20 = .ok (.aload_n 0, 1) := by decide +kernel
theorem dX9_init_21 : decode cX9_init 21 = .ok (.bipush 6, 2) := by decide +kernel
theorem dX9_init_23 : decode cX9_init 23 = .ok (.newarray .int, 2) := by decide +kernel
theorem dX9_init_25 : decode cX9_init 25 = .ok (.putfield 18, 3) := by decide +kernel
theorem dX9_init_28 : decode cX9_init 28 = .ok (.aload_n 0, 1) := by decide +kernel
theorem dX9_init_29 : decode cX9_init 29 = .ok (.bipush 6, 2) := by decide +kernel
theorem dX9_init_31 : decode cX9_init 31 = .ok (.newarray .int, 2) := by decide +kernel
theorem dX9_init_33 : decode cX9_init 33 = .ok (.putfield 21, 3) := by decide +kernel
theorem dX9_init_36 : decode cX9_init 36 = .ok (.aload_n 0, 1) := by decide +kernel
theorem dX9_init_37 : decode cX9_init 37 = .ok (.bipush 6, 2) := by decide +kernel
theorem dX9_init_39 : decode cX9_init 39 = .ok (.newarray .int, 2) := by decide +kernel
theorem dX9_init_41 : decode cX9_init 41 = .ok (.putfield 24, 3) := by decide +kernel
theorem dX9_init_44 : decode cX9_init 44 = .ok (.return_, 1) := by decide +kernel
theorem dX9_add_0 : decode cX9_add 0 = .ok (.aload_n 0, 1) := by decide +kernel
theorem dX9_add_1 : decode cX9_add 1 = .ok (.getfield 27, 3) := by decide +kernel
theorem dX9_add_4 : decode cX9_add 4 = .ok (.bipush 6, 2) := by decide +kernel
theorem dX9_add_6 : decode cX9_add 6 = .ok (.if_icmp .ge 65, 3) := by decide +kernel
theorem dX9_add_9 : decode cX9_add 9 = .ok (.aload_n 0, 1) := by decide +kernel
theorem dX9_add_10 : decode cX9_add 10 = .ok (.getfield 9, 3) := by decide +kernel
theorem dX9_add_13 : decode cX9_add 13 = .ok (.aload_n 0, 1) := by decide +kernel
theorem dX9_add_14 : decode cX9_add 14 = .ok (.getfield 27, 3) := by decide +kernel
theorem dX9_add_17 : decode cX9_add 17 = .ok (.iload_n 1, 1) := by decide +kernel
theorem dX9_add_18 : decode cX9_add 18 = .ok (.iastore, 1) := by decide +kernel
theorem dX9_add_19 : decode cX9_add 19 = .ok (.aload_n 0, 1) := by decide +kernel
theorem dX9_add_20 : decode cX9_add 20 = .ok (.getfield 15, 3) := by decide +kernel
theorem dX9_add_23 : decode cX9_add 23 = .ok (.aload_n 0, 1) := by decide +kernel
theorem dX9_add_24 : decode cX9_add 24 = .ok (.getfield 27, 3) := by decide +kernel
theorem dX9_add_27 : decode cX9_add 27 = .ok (.iload_n 2, 1) := by decide +kernel
theorem dX9_add_28 : decode cX9_add 28 = .ok (.iastore, 1) := by decide +kernel
theorem dX9_add_29 : decode cX9_add 29 = .ok (.aload_n 0, 1) := by decide +kernel
theorem dX9_add_30 : decode cX9_add 30 = .ok (.getfield 18, 3) := by decide +kernel
theorem dX9_add_33 : decode cX9_add 33 = .ok (.aload_n 0, 1) := by decide +kernel
theorem dX9_add_34 : decode cX9_add 34 = .ok (.getfield 27, 3) := by decide +kernel
theorem dX9_add_37 : decode cX9_add 37 = .ok (.iload_n 3, 1) := by decide +kernel
theorem dX9_add_38 : decode cX9_add 38 = .ok (.iastore, 1) := by decide +kernel
theorem dX9_add_39 : decode cX9_add 39 = .ok (.aload_n 0, 1) := by decide +kernel
theorem dX9_add_40 : decode cX9_add 40 = .ok (.getfield 21, 3) := by decide +kernel
theorem dX9_add_43 : decode cX9_add 43 = .ok (.aload_n 0, 1) := by decide +kernel
theorem dX9_add_44 : decode cX9_add 44 = .ok (.getfield 27, 3) := by decide +kernel
theorem dX9_add_47 : decode cX9_add 47 = .ok (.iload 4, 2) := by decide +kernel
theorem dX9_add_49 : decode cX9_add 49 = .ok (.iastore, 1) := by decide +kernel
theorem dX9_add_50 : decode cX9_add 50 = .ok (.aload_n 0, 1) := by decide +kernel
theorem dX9_add_51 : decode cX9_add 51 = .ok (.getfield 24, 3) := by decide +kernel
theorem dX9_add_54 : decode cX9_add 54 = .ok (.aload_n 0, 1) := by decide +kernel
theorem dX9_add_55 : decode cX9_add 55 = .ok (.getfield 27, 3) := by decide +kernel
theorem dX9_add_58 : decode cX9_add 58 = .ok (.iload 5, 2) := by decide +kernel
theorem dX9_add_60 : decode cX9_add 60 = .ok (.iastore, 1) := by decide +kernel
theorem dX9_add_61 : decode cX9_add 61 = .ok (.aload_n 0, 1) := by decide +kernel
theorem dX9_add_62 : decode cX9_add 62 = .ok (.dup, 1) := by decide +kernel
theorem dX9_add_63 : decode cX9_add 63 = .ok (.getfield 27, 3) := by decide +kernel
theorem dX9_add_66 : decode cX9_add 66 = .ok (.iconst 1, 1) := by decide +kernel
theorem dX9_add_67 : decode cX9_add 67 = .ok (.iadd, 1) := by decide +kernel
theorem dX9_add_68 : decode cX9_add 68 = .ok (.putfield 27, 3) := by decide +kernel
theorem dX9_add_71 : decode cX9_add 71 = .ok (.return_, 1) := by decide +kernel
theorem dX9_copyFrom_0 : decode cX9_copyFrom 0 = .ok (.aload_n 0, 1) := by decide +kernel
theorem dX9_copyFrom_1 : decode cX9_copyFrom 1 = .ok (.aload_n 1, 1) := by decide +kernel
theorem dX9_copyFrom_2 : decode cX9_copyFrom 2 = .ok (.getfield 27, 3) := by decide +kernel
theorem dX9_copyFrom_5 : decode cX9_copyFrom 5 = .ok (.putfield 27, 3) := by decide +kernel
theorem dX9_copyFrom_8 : decode cX9_copyFrom 8 = .ok (.aload_n 1, 1) := by decide +kernel
theorem dX9_copyFrom_9 : decode cX9_copyFrom 9 = .ok (.getfield 9, 3) := by decide +kernel
theorem dX9_copyFrom_12 : decode cX9_copyFrom 12 = .ok (.iconst 0, 1) := by decide +kernel
theorem dX9_copyFrom_13 : decode cX9_copyFrom 13 = .ok (.aload_n 0, 1) := by decide +kernel
theorem dX9_copyFrom_14 : decode cX9_copyFrom 14 = .ok (.getfield 9, 3) := by decide +kernel
theorem dX9_copyFrom_17 : decode cX9_copyFrom 17 = .ok (.iconst 0, 1) := by decide +kernel
theorem dX9_copyFrom_18 : decode cX9_copyFrom 18 = .ok (.aload_n 0, 1) := by decide +kernel
theorem dX9_copyFrom_19 : decode cX9_copyFrom 19 = .ok (.getfield 9, 3) := by decide +kernel
theorem dX9_copyFrom_22 : decode cX9_copyFrom 22 = .ok (.arraylength, 1) := by decide +kernel
theorem dX9_copyFrom_23 : decode cX9_copyFrom 23 = .ok (.invokestatic 31, 3) := by decide +kernel
theorem dX9_copyFrom_26 : decode cX9_copyFrom 26 = .ok (.aload_n 1, 1) := by decide +kernel
theorem dX9_copyFrom_27 : decode cX9_copyFrom 27 = .ok (.getfield 15, 3) := by decide +kernel
theorem dX9_copyFrom_30 : decode cX9_copyFrom 30 = .ok (.iconst 0, 1) := by decide +kernel
theorem dX9_copyFrom_31 : decode cX9_copyFrom 31 = .ok (.aload_n 0, 1) := by decide +kernel
theorem dX9_copyFrom_32 : decode cX9_copyFrom 32 = .ok (.getfield 15, 3) := by decide +kernel
theorem dX9_copyFrom_35 : decode cX9_copyFrom 35 = .ok (.iconst 0, 1) := by decide +kernel
theorem dX9_copyFrom_36 : decode cX9_copyFrom 36 = .ok (.aload_n 0, 1) := by decide +kernel
theorem dX9_copyFrom_37 : decode cX9_copyFrom 37 = .ok (.getfield 15, 3) := by decide +kernel
theorem dX9_copyFrom_40 : decode cX9_copyFrom 40 = .ok (.arraylength, 1) := by decide +kernel
theorem dX9_copyFrom_41 : decode cX9_copyFrom 41 = .ok (.invokestatic 31, 3) := by decide +kernel
theorem dX9_copyFrom_44 : decode cX9_copyFrom 44 = .ok (.aload_n 1, 1) := by decide +kernel
theorem dX9_copyFrom_45 : decode cX9_copyFrom 45 = .ok (.getfield 18, 3) := by decide +kernel
theorem dX9_copyFrom_48 : decode cX9_copyFrom 48 = .ok (.iconst 0, 1) := by decide +kernel
theorem dX9_copyFrom_49 : decode cX9_copyFrom 49 = .ok (.aload_n 0, 1) := by decide +kernel
theorem dX9_copyFrom_50 : decode cX9_copyFrom 50 = .ok (.getfield 18, 3) := by decide +kernel
theorem dX9_copyFrom_53 : decode cX9_copyFrom 53 = .ok (.iconst 0, 1) := by decide +kernel
theorem dX9_copyFrom_54 : decode cX9_copyFrom 54 = .ok (.aload_n 0, 1) := by decide +kernel
theorem dX9_copyFrom_55 : decode cX9_copyFrom 55 = .ok (.getfield 18, 3) := by decide +kernel
theorem dX9_copyFrom_58 : decode cX9_copyFrom 58 = .ok (.arraylength, 1) := by decide +kernel
theorem dX9_copyFrom_59 : decode cX9_copyFrom 59 = .ok (.invokestatic 31, 3) := by decide +kernel
theorem dX9_copyFrom_62 : decode cX9_copyFrom 62 = .ok (.aload_n 1, 1) := by decide +kernel
theorem dX9_copyFrom_63 : decode cX9_copyFrom 63 = .ok (.getfield 21, 3) := by decide +kernel
theorem dX9_copyFrom_66 : decode cX9_copyFrom 66 = .ok (.iconst 0, 1) := by decide +kernel
theorem dX9_copyFrom_67 : decode cX9_copyFrom 67 = .ok (.aload_n 0, 1) := by decide +kernel
theorem dX9_copyFrom_68 : decode cX9_copyFrom 68 = .ok (.getfield 21, 3) := by decide +kernel
theorem dX9_copyFrom_71 : decode cX9_copyFrom 71 = .ok (.iconst 0, 1) := by decide +kernel
theorem dX9_copyFrom_72 : decode cX9_copyFrom 72 = .ok (.aload_n 0, 1) := by decide +kernel
theorem dX9_copyFrom_73 : decode cX9_copyFrom 73 = .ok (.getfield 21, 3) := by decide +kernel
theorem dX9_copyFrom_76 : decode cX9_copyFrom 76 = .ok (.arraylength, 1) := by decide +kernel
theorem dX9_copyFrom_77 : decode cX9_copyFrom 77 = .ok (.invokestatic 31, 3) := by decide +kernel
theorem dX9_copyFrom_80 : decode cX9_copyFrom 80 = .ok (.aload_n 1, 1) := by decide +kernel
theorem dX9_copyFrom_81 : decode cX9_copyFrom 81 = .ok (.getfield 24, 3) := by decide +kernel
theorem dX9_copyFrom_84 : decode cX9_copyFrom 84 = .ok (.iconst 0, 1) := by decide +kernel
theorem dX9_copyFrom_85 : decode cX9_copyFrom 85 = .ok (.aload_n 0, 1) := by decide +kernel
theorem dX9_copyFrom_86 : decode cX9_copyFrom 86 = .ok (.getfield 24, 3) := by decide +kernel
theorem dX9_copyFrom_89 : decode cX9_copyFrom 89 = .ok (.iconst 0, 1) := by decide +kernel
theorem dX9_copyFrom_90 : decode cX9_copyFrom 90 = .ok (.aload_n 0, 1) := by decide +kernel
theorem dX9_copyFrom_91 : decode cX9_copyFrom 91 = .ok (.getfield 24, 3) := by decide +kernel
theorem dX9_copyFrom_94 : decode cX9_copyFrom 94 = .ok (.arraylength, 1) := by decide +kernel
theorem dX9_copyFrom_95 : decode cX9_copyFrom 95 = .ok (.invokestatic 31, 3) := by decide +kernel
theorem dX9_copyFrom_98 : decode cX9_copyFrom 98 = .ok (.return_, 1) := by decide +kernel
theorem dX10_init_0 : decode cX10_init 0 = .ok (.aload_n 0, 1) := by decide +kernel
theorem dX10_init_1 : decode cX10_init 1 = .ok (.invokespecial 3, 3) := by decide +kernel
theorem dX10_init_4 : decode cX10_init 4 = .ok (.aload_n 0, 1) := by decide +kernel
theorem dX10_init_5 : decode cX10_init 5 = .ok (.bipush 10, 2) := by decide +kernel
theorem dX10_init_7 : decode cX10_init 7 = .ok (.newarray .int, 2) := by decide +kernel
theorem dX10_init_9 : decode cX10_init 9 = .ok (.putfield 9, 3) := by decide +kernel
theorem dX10_init_12 : decode cX10_init 12 = .ok (.aload_n 0, 1) := by decide +kernel
theorem dX10_init_13 : decode cX10_init 13 = .ok (.bipush 6, 2) := by decide +kernel
theorem dX10_init_15 : decode cX10_init 15 = .ok (.newarray .int, 2) := by decide +kernel
theorem dX10_init_17 : decode cX10_init 17 = .ok (.putfield 15, 3) := by decide +kernel
theorem dX10_init_20 : decode cX10_init 20 = .ok (.return_, 1) := by decide +kernel
theorem dX10_begin_0 : decode cX10_begin 0 = .ok (.aload_n 0, 1) := by decide +kernel
theorem dX10_begin_1 : decode cX10_begin 1 = .ok (.iconst 1, 1) := by decide +kernel
theorem dX10_begin_2 : decode cX10_begin 2 = .ok (.putfield 18, 3) := by decide +kernel
theorem dX10_begin_5 : decode cX10_begin 5 = .ok (.iconst 0, 1) := by decide +kernel
theorem dX10_begin_6 : decode cX10_begin 6 = .ok (.istore_n 1, 1) := by decide +kernel
theorem dX10_begin_7 : decode cX10_begin 7 = .ok (.iload_n 1, 1) := by decide +kernel
theorem dX10_begin_8 : decode cX10_begin 8 = .ok (.bipush 10, 2) := by decide +kernel
theorem dX10_begin_10 : decode cX10_begin 10 = .ok (.if_icmp .ge 16, 3) := by decide +kernel
theorem dX10_begin_13 : decode cX10_begin 13 = .ok (.aload_n 0, 1) := by decide +kernel
theorem dX10_begin_14 : decode cX10_begin 14 = .ok (.getfield 9, 3) := by decide +kernel
theorem dX10_begin_17 : decode cX10_begin 17 = .ok (.iload_n 1, 1) := by decide +kernel
theorem dX10_begin_18 : decode cX10_begin 18 = .ok (.iconst 0, 1) := by decide +kernel
theorem dX10_begin_19 : decode cX10_begin 19 = .ok (.iastore, 1) := by decide +kernel
theorem dX10_begin_20 : decode cX10_begin 20 = .ok (.iinc 1 1, 3) := by decide +kernel
theorem dX10_begin_23 : decode cX10_begin 23 = .ok (.goto (-16), 3) := by decide +kernel
theorem dX10_begin_26 : decode cX10_begin 26 = .ok (.iconst 0, 1) := by decide +kernel
theorem dX10_begin_27 : decode cX10_begin 27 = .ok (.istore_n 1, 1) := by decide +kernel
theorem dX10_begin_28 : decode cX10_begin 28 = .ok (.iload_n 1, 1) := by decide +kernel
theorem dX10_begin_29 : decode cX10_begin 29 = .ok (.bipush 6, 2) := by decide +kernel
theorem dX10_begin_31 : decode cX10_begin 31 = .ok (.if_icmp .ge 16, 3) := by decide +kernel
theorem dX10_begin_34 : decode cX10_begin 34 = .ok (.aload_n 0, 1) := by decide +kernel
theorem dX10_begin_35 : decode cX10_begin 35 = .ok (.getfield 15, 3) := by decide +kernel
theorem dX10_begin_38 : decode cX10_begin 38 = .ok (.iload_n 1, 1) := by decide +kernel
theorem dX10_begin_39 : decode cX10_begin 39 = .ok (.iconst 0, 1) := by decide +kernel
theorem dX10_begin_40 : decode cX10_begin 40 = .ok (.iastore, 1) := by decide +kernel
theorem dX10_begin_41 : decode cX10_begin 41 = .ok (.iinc 1 1, 3) := by decide +kernel
theorem dX10_begin_44 : decode cX10_begin 44 = .ok (.goto (-16), 3) := by decide +kernel
theorem dX10_begin_47 : decode cX10_begin 47 = .ok (.return_, 1) := by decide +kernel
theorem dX10_copyFrom_0 : decode cX10_copyFrom 0 = .ok (.aload_n 0, 1) := by decide +kernel
theorem dX10_copyFrom_1 : decode cX10_copyFrom 1 = .ok (.aload_n 1, 1) := by decide +kernel
theorem dX10_copyFrom_2 : decode cX10_copyFrom 2 = .ok (.getfield 18, 3) := by decide +kernel
theorem dX10_copyFrom_5 : decode cX10_copyFrom 5 = .ok (.putfield 18, 3) := by decide +kernel
theorem dX10_copyFrom_8 : decode cX10_copyFrom 8 = .ok (.aload_n 1, 1) := by decide +kernel
theorem dX10_copyFrom_9 : decode cX10_copyFrom 9 = .ok (.getfield 9, 3) := by decide +kernel
theorem dX10_copyFrom_12 : decode cX10_copyFrom 12 = .ok (.iconst 0, 1) := by decide +kernel
theorem dX10_copyFrom_13 : decode cX10_copyFrom 13 = .ok (.aload_n 0, 1) := by decide +kernel
theorem dX10_copyFrom_14 : decode cX10_copyFrom 14 = .ok (.getfield 9, 3) := by decide +kernel
theorem dX10_copyFrom_17 : decode cX10_copyFrom 17 = .ok (.iconst 0, 1) := by decide +kernel
theorem dX10_copyFrom_18 : decode cX10_copyFrom 18 = .ok (.aload_n 0, 1) := by decide +kernel
theorem dX10_copyFrom_19 : decode cX10_copyFrom 19 = .ok (.getfield 9, 3) := by decide +kernel
theorem dX10_copyFrom_22 : decode cX10_copyFrom 22 = .ok (.arraylength, 1) := by decide +kernel
theorem dX10_copyFrom_23 : decode cX10_copyFrom 23 = .ok (.invokestatic 22, 3) := by decide +kernel
theorem dX10_copyFrom_26 : decode cX10_copyFrom 26 = .ok (.aload_n 1, 1) := by decide +kernel
theorem dX10_copyFrom_27 : decode cX10_copyFrom 27 = .ok (.getfield 15, 3) := by decide +kernel
theorem dX10_copyFrom_30 : decode cX10_copyFrom 30 = .ok (.iconst 0, 1) := by decide +kernel
theorem dX10_copyFrom_31 : decode cX10_copyFrom 31 = .ok (.aload_n 0, 1) := by decide +kernel
theorem dX10_copyFrom_32 : decode cX10_copyFrom 32 = .ok (.getfield 15, 3) := by decide +kernel
theorem dX10_copyFrom_35 : decode cX10_copyFrom 35 = .ok (.iconst 0, 1) := by decide +kernel
theorem dX10_copyFrom_36 : decode cX10_copyFrom 36 = .ok (.aload_n 0, 1) := by decide +kernel
theorem dX10_copyFrom_37 : decode cX10_copyFrom 37 = .ok (.getfield 15, 3) := by decide +kernel
theorem dX10_copyFrom_40 : decode cX10_copyFrom 40 = .ok (.arraylength, 1) := by decide +kernel
theorem dX10_copyFrom_41 : decode cX10_copyFrom 41 = .ok (.invokestatic 22, 3) := by decide +kernel
theorem dX10_copyFrom_44 : decode cX10_copyFrom 44 = .ok (.return_, 1) := by decide +kernel
