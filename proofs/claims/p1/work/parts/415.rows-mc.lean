theorem dX12_where_95 : decode cX12_where 95 = .ok (.iload 6, 2) := by decide +kernel
theorem dX12_where_97 : decode cX12_where 97 = .ok (.iastore, 1) := by decide +kernel
theorem dX12_where_98 : decode cX12_where 98 = .ok (.aload_n 0, 1) := by decide +kernel
theorem dX12_where_99 : decode cX12_where 99 = .ok (.iload_n 1, 1) := by decide +kernel
theorem dX12_where_100 : decode cX12_where 100 = .ok (.invokevirtual 414, 3) := by decide +kernel
theorem dX12_where_103 : decode cX12_where 103 = .ok (.lstore 8, 2) := by decide +kernel
theorem dX12_where_105 : decode cX12_where 105 = .ok (.iload_n 3, 1) := by decide +kernel
theorem dX12_where_106 : decode cX12_where 106 = .ok (.iconst (-1), 1) := by decide +kernel
theorem dX12_where_107 : decode cX12_where 107 = .ok (.if_icmp .eq 14, 3) := by decide +kernel
theorem dX12_where_110 : decode cX12_where 110 = .ok (.lload 8, 2) := by decide +kernel
theorem dX12_where_112 : decode cX12_where 112 = .ok (.lload 4, 2) := by decide +kernel
theorem dX12_where_114 : decode cX12_where 114 = .ok (.lcmp, 1) := by decide +kernel
theorem dX12_where_115 : decode cX12_where 115 = .ok (.ifCond .lt 6, 3) := by decide +kernel
theorem dX12_where_118 : decode cX12_where 118 = .ok (.goto 10, 3) := by decide +kernel
theorem dX12_where_121 : decode cX12_where 121 = .ok (.iload 6, 2) := by decide +kernel
theorem dX12_where_123 : decode cX12_where 123 = .ok (.istore_n 3, 1) := by decide +kernel
theorem dX12_where_124 : decode cX12_where 124 = .ok (.lload 8, 2) := by decide +kernel
theorem dX12_where_126 : decode cX12_where 126 = .ok (.lstore 4, 2) := by decide +kernel
theorem dX12_where_128 : decode cX12_where 128 = .ok (.iinc 6 1, 3) := by decide +kernel
theorem dX12_where_131 : decode cX12_where 131 = .ok (.goto (-94), 3) := by decide +kernel
theorem dX12_where_134 : decode cX12_where 134 = .ok (.aload_n 0, 1) := by decide +kernel
theorem dX12_where_135 : decode cX12_where 135 = .ok (.getfield 55, 3) := by decide +kernel
theorem dX12_where_138 : decode cX12_where 138 = .ok (.iconst 0, 1) := by decide +kernel
theorem dX12_where_139 : decode cX12_where 139 = .ok (.iload_n 1, 1) := by decide +kernel
theorem dX12_where_140 : decode cX12_where 140 = .ok (.invokestatic 323, 3) := by decide +kernel
theorem dX12_where_143 : decode cX12_where 143 = .ok (.iconst 2, 1) := by decide +kernel
theorem dX12_where_144 : decode cX12_where 144 = .ok (.iadd, 1) := by decide +kernel
theorem dX12_where_145 : decode cX12_where 145 = .ok (.iload_n 2, 1) := by decide +kernel
theorem dX12_where_146 : decode cX12_where 146 = .ok (.iastore, 1) := by decide +kernel
theorem dX12_where_147 : decode cX12_where 147 = .ok (.iload_n 3, 1) := by decide +kernel
theorem dX12_where_148 : decode cX12_where 148 = .ok (.ireturn, 1) := by decide +kernel
theorem dX12_litBy_0 : decode cX12_litBy 0 = .ok (.aload_n 0, 1) := by decide +kernel
theorem dX12_litBy_1 : decode cX12_litBy 1 = .ok (.iload_n 1, 1) := by decide +kernel
theorem dX12_litBy_2 : decode cX12_litBy 2 = .ok (.putfield 309, 3) := by decide +kernel
theorem dX12_litBy_5 : decode cX12_litBy 5 = .ok (.aload_n 0, 1) := by decide +kernel
theorem dX12_litBy_6 : decode cX12_litBy 6 = .ok (.iload_n 2, 1) := by decide +kernel
theorem dX12_litBy_7 : decode cX12_litBy 7 = .ok (.putfield 306, 3) := by decide +kernel
theorem dX12_litBy_10 : decode cX12_litBy 10 = .ok (.aload_n 0, 1) := by decide +kernel
theorem dX12_litBy_11 : decode cX12_litBy 11 = .ok (.iconst 1, 1) := by decide +kernel
theorem dX12_litBy_12 : decode cX12_litBy 12 = .ok (.invokevirtual 398, 3) := by decide +kernel
theorem dX12_litBy_15 : decode cX12_litBy 15 = .ok (.lstore_n 3, 1) := by decide +kernel
theorem dX12_litBy_16 : decode cX12_litBy 16 = .ok (.aload_n 0, 1) := by decide +kernel
theorem dX12_litBy_17 : decode cX12_litBy 17 = .ok (.iconst 0, 1) := by decide +kernel
theorem dX12_litBy_18 : decode cX12_litBy 18 = .ok (.putfield 306, 3) := by decide +kernel
theorem dX12_litBy_21 : decode cX12_litBy 21 = .ok (.aload_n 0, 1) := by decide +kernel
theorem dX12_litBy_22 : decode cX12_litBy 22 = .ok (.iconst 0, 1) := by decide +kernel
theorem dX12_litBy_23 : decode cX12_litBy 23 = .ok (.putfield 309, 3) := by decide +kernel
theorem dX12_litBy_26 : decode cX12_litBy 26 = .ok (.lload_n 3, 1) := by decide +kernel
theorem dX12_litBy_27 : decode cX12_litBy 27 = .ok (.lreturn, 1) := by decide +kernel
theorem dX12_isBright_0 : decode cX12_isBright 0 = .ok (.iload_n 0, 1) := by decide +kernel
theorem dX12_isBright_1 : decode cX12_isBright 1 = .ok (.i2l, 1) := by decide +kernel
theorem dX12_isBright_2 : decode cX12_isBright 2 = .ok (.lconst 0, 1) := by decide +kernel
theorem dX12_isBright_3 : decode cX12_isBright 3 = .ok (.ldc2_w 464, 3) := by decide +kernel
theorem dX12_isBright_6 : decode cX12_isBright 6 = .ok (.invokestatic 119, 3) := by decide +kernel
theorem dX12_isBright_9 : decode cX12_isBright 9 = .ok (.ireturn, 1) := by decide +kernel
theorem dX12_lamp_0 : decode cX12_lamp 0 = .ok (.aload_n 0, 1) := by decide +kernel
theorem dX12_lamp_1 : decode cX12_lamp 1 = .ok (.iconst 0, 1) := by decide +kernel
theorem dX12_lamp_2 : decode cX12_lamp 2 = .ok (.putfield 114, 3) := by decide +kernel
theorem dX12_lamp_5 : decode cX12_lamp 5 = .ok (.aload_n 0, 1) := by decide +kernel
theorem dX12_lamp_6 : decode cX12_lamp 6 = .ok (.invokevirtual 354, 3) := by decide +kernel
theorem dX12_lamp_9 : decode cX12_lamp 9 = .ok (.ifCond .eq 10, 3) := by decide +kernel
theorem dX12_lamp_12 : decode cX12_lamp 12 = .ok (.iload_n 1, 1) := by decide +kernel
theorem dX12_lamp_13 : decode cX12_lamp 13 = .ok (.invokestatic 466, 3) := by decide +kernel
theorem dX12_lamp_16 : decode cX12_lamp 16 = .ok (.ifCond .ne 6, 3) := by decide +kernel
theorem dX12_lamp_19 : decode cX12_lamp 19 = .ok (.bipush (-2), 2) := by decide +kernel
theorem dX12_lamp_21 : decode cX12_lamp 21 = .ok (.ireturn, 1) := by decide +kernel
theorem dX12_lamp_22 : decode cX12_lamp 22 = .ok (.iconst (-1), 1) := by decide +kernel
theorem dX12_lamp_23 : decode cX12_lamp 23 = .ok (.istore_n 2, 1) := by decide +kernel
theorem dX12_lamp_24 : decode cX12_lamp 24 = .ok (.lconst 0, 1) := by decide +kernel
theorem dX12_lamp_25 : decode cX12_lamp 25 = .ok (.lstore_n 3, 1) := by decide +kernel
theorem dX12_lamp_26 : decode cX12_lamp 26 = .ok (.iconst 0, 1) := by decide +kernel
theorem dX12_lamp_27 : decode cX12_lamp 27 = .ok (.istore 5, 2) := by decide +kernel
theorem dX12_lamp_29 : decode cX12_lamp 29 = .ok (.iload 5, 2) := by decide +kernel
theorem dX12_lamp_31 : decode cX12_lamp 31 = .ok (.aload_n 0, 1) := by decide +kernel
theorem dX12_lamp_32 : decode cX12_lamp 32 = .ok (.getfield 34, 3) := by decide +kernel
theorem dX12_lamp_35 : decode cX12_lamp 35 = .ok (.iconst 0, 1) := by decide +kernel
theorem dX12_lamp_36 : decode cX12_lamp 36 = .ok (.iaload, 1) := by decide +kernel
theorem dX12_lamp_37 : decode cX12_lamp 37 = .ok (.if_icmp .ge 39, 3) := by decide +kernel
theorem dX12_lamp_40 : decode cX12_lamp 40 = .ok (.aload_n 0, 1) := by decide +kernel
theorem dX12_lamp_41 : decode cX12_lamp 41 = .ok (.iload 5, 2) := by decide +kernel
theorem dX12_lamp_43 : decode cX12_lamp 43 = .ok (.iload_n 1, 1) := by decide +kernel
theorem dX12_lamp_44 : decode cX12_lamp 44 = .ok (.invokevirtual 469, 3) := by decide +kernel
theorem dX12_lamp_47 : decode cX12_lamp 47 = .ok (.lstore 6, 2) := by decide +kernel
theorem dX12_lamp_49 : decode cX12_lamp 49 = .ok (.iload_n 2, 1) := by decide +kernel
theorem dX12_lamp_50 : decode cX12_lamp 50 = .ok (.iconst (-1), 1) := by decide +kernel
theorem dX12_lamp_51 : decode cX12_lamp 51 = .ok (.if_icmp .eq 13, 3) := by decide +kernel
theorem dX12_lamp_54 : decode cX12_lamp 54 = .ok (.lload 6, 2) := by decide +kernel
theorem dX12_lamp_56 : decode cX12_lamp 56 = .ok (.lload_n 3, 1) := by decide +kernel
theorem dX12_lamp_57 : decode cX12_lamp 57 = .ok (.lcmp, 1) := by decide +kernel
theorem dX12_lamp_58 : decode cX12_lamp 58 = .ok (.ifCond .lt 6, 3) := by decide +kernel
theorem dX12_lamp_61 : decode cX12_lamp 61 = .ok (.goto 9, 3) := by decide +kernel
theorem dX12_lamp_64 : decode cX12_lamp 64 = .ok (.iload 5, 2) := by decide +kernel
theorem dX12_lamp_66 : decode cX12_lamp 66 = .ok (.istore_n 2, 1) := by decide +kernel
theorem dX12_lamp_67 : decode cX12_lamp 67 = .ok (.lload 6, 2) := by decide +kernel
theorem dX12_lamp_69 : decode cX12_lamp 69 = .ok (.lstore_n 3, 1) := by decide +kernel
theorem dX12_lamp_70 : decode cX12_lamp 70 = .ok (.iinc 5 1, 3) := by decide +kernel
theorem dX12_lamp_73 : decode cX12_lamp 73 = .ok (.goto (-44), 3) := by decide +kernel
theorem dX12_lamp_76 : decode cX12_lamp 76 = .ok (.iload_n 2, 1) := by decide +kernel
theorem dX12_lamp_77 : decode cX12_lamp 77 = .ok (.ireturn, 1) := by decide +kernel
theorem dX12_lit_0 : decode cX12_lit 0 = .ok (.aload_n 0, 1) := by decide +kernel
theorem dX12_lit_1 : decode cX12_lit 1 = .ok (.iconst 0, 1) := by decide +kernel
theorem dX12_lit_2 : decode cX12_lit 2 = .ok (.putfield 114, 3) := by decide +kernel
theorem dX12_lit_5 : decode cX12_lit 5 = .ok (.aload_n 0, 1) := by decide +kernel
theorem dX12_lit_6 : decode cX12_lit 6 = .ok (.iload_n 1, 1) := by decide +kernel
theorem dX12_lit_7 : decode cX12_lit 7 = .ok (.invokevirtual 312, 3) := by decide +kernel
theorem dX12_lit_10 : decode cX12_lit 10 = .ok (.ifCond .eq 19, 3) := by decide +kernel
theorem dX12_lit_13 : decode cX12_lit 13 = .ok (.iload_n 2, 1) := by decide +kernel
theorem dX12_lit_14 : decode cX12_lit 14 = .ok (.invokestatic 466, 3) := by decide +kernel
theorem dX12_lit_17 : decode cX12_lit 17 = .ok (.ifCond .eq 12, 3) := by decide +kernel
theorem dX12_lit_20 : decode cX12_lit 20 = .ok (.aload_n 0, 1) := by decide +kernel
theorem dX12_lit_21 : decode cX12_lit 21 = .ok (.iload_n 1, 1) := by decide +kernel
theorem dX12_lit_22 : decode cX12_lit 22 = .ok (.iload_n 2, 1) := by decide +kernel
theorem dX12_lit_23 : decode cX12_lit 23 = .ok (.invokevirtual 469, 3) := by decide +kernel
theorem dX12_lit_26 : decode cX12_lit 26 = .ok (.goto 6, 3) := by decide +kernel
theorem dX12_lit_29 : decode cX12_lit 29 = .ok (.ldc2_w 360, 3) := by decide +kernel
theorem dX12_lit_32 : decode cX12_lit 32 = .ok (.lreturn, 1) := by decide +kernel
theorem dX12_watch_0 : decode cX12_watch 0 = .ok (.aload_n 0, 1) := by decide +kernel
theorem dX12_watch_1 : decode cX12_watch 1 = .ok (.iconst 0, 1) := by decide +kernel
theorem dX12_watch_2 : decode cX12_watch 2 = .ok (.putfield 114, 3) := by decide +kernel
theorem dX12_watch_5 : decode cX12_watch 5 = .ok (.aload_n 0, 1) := by decide +kernel
theorem dX12_watch_6 : decode cX12_watch 6 = .ok (.getfield 64, 3) := by decide +kernel
theorem dX12_watch_9 : decode cX12_watch 9 = .ok (.iconst 3, 1) := by decide +kernel
theorem dX12_watch_10 : decode cX12_watch 10 = .ok (.iaload, 1) := by decide +kernel
theorem dX12_watch_11 : decode cX12_watch 11 = .ok (.ifCond .ne 6, 3) := by decide +kernel
theorem dX12_watch_14 : decode cX12_watch 14 = .ok (.bipush (-2), 2) := by decide +kernel
theorem dX12_watch_16 : decode cX12_watch 16 = .ok (.ireturn, 1) := by decide +kernel
theorem dX12_watch_17 : decode cX12_watch 17 = .ok (.aload_n 0, 1) := by decide +kernel
theorem dX12_watch_18 : decode cX12_watch 18 = .ok (.getfield 64, 3) := by decide +kernel
theorem dX12_watch_21 : decode cX12_watch 21 = .ok (.bipush 6, 2) := by decide +kernel
theorem dX12_watch_23 : decode cX12_watch 23 = .ok (.iaload, 1) := by decide +kernel
theorem dX12_watch_24 : decode cX12_watch 24 = .ok (.istore_n 2, 1) := by decide +kernel
theorem dX12_watch_25 : decode cX12_watch 25 = .ok (.aload_n 0, 1) := by decide +kernel
theorem dX12_watch_26 : decode cX12_watch 26 = .ok (.getfield 64, 3) := by decide +kernel
theorem dX12_watch_29 : decode cX12_watch 29 = .ok (.bipush 6, 2) := by decide +kernel
theorem dX12_watch_31 : decode cX12_watch 31 = .ok (.iload_n 1, 1) := by decide +kernel
theorem dX12_watch_32 : decode cX12_watch 32 = .ok (.ifCond .eq 7, 3) := by decide +kernel
theorem dX12_watch_35 : decode cX12_watch 35 = .ok (.iconst 1, 1) := by decide +kernel
theorem dX12_watch_36 : decode cX12_watch 36 = .ok (.goto 4, 3) := by decide +kernel
theorem dX12_watch_39 : decode cX12_watch 39 = .ok (.iconst 0, 1) := by decide +kernel
theorem dX12_watch_40 : decode cX12_watch 40 = .ok (.iastore, 1) := by decide +kernel
theorem dX12_watch_41 : decode cX12_watch 41 = .ok (.iload_n 2, 1) := by decide +kernel
theorem dX12_watch_42 : decode cX12_watch 42 = .ok (.ireturn, 1) := by decide +kernel
theorem dX12_laysWatch_0 : decode cX12_laysWatch 0 = .ok (.aload_n 0, 1) := by decide +kernel
theorem dX12_laysWatch_1 : decode cX12_laysWatch 1 = .ok (.getfield 64, 3) := by decide +kernel
theorem dX12_laysWatch_4 : decode cX12_laysWatch 4 = .ok (.bipush 6, 2) := by decide +kernel
theorem dX12_laysWatch_6 : decode cX12_laysWatch 6 = .ok (.iaload, 1) := by decide +kernel
theorem dX12_laysWatch_7 : decode cX12_laysWatch 7 = .ok (.istore_n 1, 1) := by decide +kernel
theorem dX12_laysWatch_8 : decode cX12_laysWatch 8 = .ok (.aload_n 0, 1) := by decide +kernel
theorem dX12_laysWatch_9 : decode cX12_laysWatch 9 = .ok (.getfield 64, 3) := by decide +kernel
theorem dX12_laysWatch_12 : decode cX12_laysWatch 12 = .ok (.bipush 6, 2) := by decide +kernel
theorem dX12_laysWatch_14 : decode cX12_laysWatch 14 = .ok (.iconst 0, 1) := by decide +kernel
theorem dX12_laysWatch_15 : decode cX12_laysWatch 15 = .ok (.iastore, 1) := by decide +kernel
theorem dX12_laysWatch_16 : decode cX12_laysWatch 16 = .ok (.aload_n 0, 1) := by decide +kernel
theorem dX12_laysWatch_17 : decode cX12_laysWatch 17 = .ok (.invokevirtual 362, 3) := by decide +kernel
theorem dX12_laysWatch_20 : decode cX12_laysWatch 20 = .ok (.iconst 0, 1) := by decide +kernel
theorem dX12_laysWatch_21 : decode cX12_laysWatch 21 = .ok (.istore_n 2, 1) := by decide +kernel
theorem dX12_laysWatch_22 : decode cX12_laysWatch 22 = .ok (.iload_n 2, 1) := by decide +kernel
theorem dX12_laysWatch_23 : decode cX12_laysWatch 23 = .ok (.aload_n 0, 1) := by decide +kernel
theorem dX12_laysWatch_24 : decode cX12_laysWatch 24 = .ok (.getfield 52, 3) := by decide +kernel
theorem dX12_laysWatch_27 : decode cX12_laysWatch 27 = .ok (.iconst 0, 1) := by decide +kernel
theorem dX12_laysWatch_28 : decode cX12_laysWatch 28 = .ok (.iaload, 1) := by decide +kernel
theorem dX12_laysWatch_29 : decode cX12_laysWatch 29 = .ok (.if_icmp .ge 20, 3) := by decide +kernel
theorem dX12_laysWatch_32 : decode cX12_laysWatch 32 = .ok (.aload_n 0, 1) := by decide +kernel
theorem dX12_laysWatch_33 : decode cX12_laysWatch 33 = .ok (.getfield 98, 3) := by decide +kernel
theorem dX12_laysWatch_36 : decode cX12_laysWatch 36 = .ok (.iload_n 2, 1) := by decide +kernel
theorem dX12_laysWatch_37 : decode cX12_laysWatch 37 = .ok (.aload_n 0, 1) := by decide +kernel
theorem dX12_laysWatch_38 : decode cX12_laysWatch 38 = .ok (.iload_n 2, 1) := by decide +kernel
theorem dX12_laysWatch_39 : decode cX12_laysWatch 39 = .ok (.invokevirtual 382, 3) := by decide +kernel
theorem dX12_laysWatch_42 : decode cX12_laysWatch 42 = .ok (.lastore, 1) := by decide +kernel
theorem dX12_laysWatch_43 : decode cX12_laysWatch 43 = .ok (.iinc 2 1, 3) := by decide +kernel
theorem dX12_laysWatch_46 : decode cX12_laysWatch 46 = .ok (.goto (-24), 3) := by decide +kernel
theorem dX12_laysWatch_49 : decode cX12_laysWatch 49 = .ok (.aload_n 0, 1) := by decide +kernel
theorem dX12_laysWatch_50 : decode cX12_laysWatch 50 = .ok (.getfield 64, 3) := by decide +kernel
theorem dX12_laysWatch_53 : decode cX12_laysWatch 53 = .ok (.bipush 6, 2) := by decide +kernel
theorem dX12_laysWatch_55 : decode cX12_laysWatch 55 = .ok (.iconst 1, 1) := by decide +kernel
theorem dX12_laysWatch_56 : decode cX12_laysWatch 56 = .ok (.iastore, 1) := by decide +kernel
theorem dX12_laysWatch_57 : decode cX12_laysWatch 57 = .ok (.aload_n 0, 1) := by decide +kernel
theorem dX12_laysWatch_58 : decode cX12_laysWatch 58 = .ok (.invokevirtual 362, 3) := by decide +kernel
theorem dX12_laysWatch_61 : decode cX12_laysWatch 61 = .ok (.iconst 0, 1) := by decide +kernel
theorem dX12_laysWatch_62 : decode cX12_laysWatch 62 = .ok (.istore_n 2, 1) := by decide +kernel
theorem dX12_laysWatch_63 : decode cX12_laysWatch 63 = .ok (.iload_n 2, 1) := by decide +kernel
theorem dX12_laysWatch_64 : decode cX12_laysWatch 64 = .ok (.aload_n 0, 1) := by decide +kernel
theorem dX12_laysWatch_65 : decode cX12_laysWatch 65 = .ok (.getfield 52, 3) := by decide +kernel
theorem dX12_laysWatch_68 : decode cX12_laysWatch 68 = .ok (.iconst 0, 1) := by decide +kernel
theorem dX12_laysWatch_69 : decode cX12_laysWatch 69 = .ok (.iaload, 1) := by decide +kernel
theorem dX12_laysWatch_70 : decode cX12_laysWatch 70 = .ok (.if_icmp .ge 23, 3) := by decide +kernel
theorem dX12_laysWatch_73 : decode cX12_laysWatch 73 = .ok (.aload_n 0, 1) := by decide +kernel
theorem dX12_laysWatch_74 : decode cX12_laysWatch 74 = .ok (.getfield 98, 3) := by decide +kernel
theorem dX12_laysWatch_77 : decode cX12_laysWatch 77 = .ok (.iload_n 2, 1) := by decide +kernel
theorem dX12_laysWatch_78 : decode cX12_laysWatch 78 = .ok (.dup2, 1) := by decide +kernel
theorem dX12_laysWatch_79 : decode cX12_laysWatch 79 = .ok (.laload, 1) := by decide +kernel
theorem dX12_laysWatch_80 : decode cX12_laysWatch 80 = .ok (.aload_n 0, 1) := by decide +kernel
theorem dX12_laysWatch_81 : decode cX12_laysWatch 81 = .ok (.iload_n 2, 1) := by decide +kernel
theorem dX12_laysWatch_82 : decode cX12_laysWatch 82 = .ok (.invokevirtual 382, 3) := by decide +kernel
theorem dX12_laysWatch_85 : decode cX12_laysWatch 85 = .ok (.lsub, 1) := by decide +kernel
theorem dX12_laysWatch_86 : decode cX12_laysWatch 86 = .ok (.lastore, 1) := by decide +kernel
theorem dX12_laysWatch_87 : decode cX12_laysWatch 87 = .ok (.iinc 2 1, 3) := by decide +kernel
theorem dX12_laysWatch_90 : decode cX12_laysWatch 90 = .ok (.goto (-27), 3) := by decide +kernel
theorem dX12_laysWatch_93 : decode cX12_laysWatch 93 = .ok (.aload_n 0, 1) := by decide +kernel
theorem dX12_laysWatch_94 : decode cX12_laysWatch 94 = .ok (.getfield 64, 3) := by decide +kernel
theorem dX12_laysWatch_97 : decode cX12_laysWatch 97 = .ok (.bipush 6, 2) := by decide +kernel
theorem dX12_laysWatch_99 : decode cX12_laysWatch 99 = .ok (.iload_n 1, 1) := by decide +kernel
theorem dX12_laysWatch_100 : decode cX12_laysWatch 100 = .ok (.iastore, 1) := by decide +kernel
theorem dX12_laysWatch_101 : decode cX12_laysWatch 101 = .ok (.return_, 1) := by decide +kernel
theorem dX12_penny_0 : decode cX12_penny 0 = .ok (.aload_n 0, 1) := by decide +kernel
theorem dX12_penny_1 : decode cX12_penny 1 = .ok (.iconst 0, 1) := by decide +kernel
theorem dX12_penny_2 : decode cX12_penny 2 = .ok (.putfield 114, 3) := by decide +kernel
theorem dX12_penny_5 : decode cX12_penny 5 = .ok (.aload_n 0, 1) := by decide +kernel
theorem dX12_penny_6 : decode cX12_penny 6 = .ok (.getfield 64, 3) := by decide +kernel
theorem dX12_penny_9 : decode cX12_penny 9 = .ok (.iconst 3, 1) := by decide +kernel
theorem dX12_penny_10 : decode cX12_penny 10 = .ok (.iaload, 1) := by decide +kernel
theorem dX12_penny_11 : decode cX12_penny 11 = .ok (.ifCond .ne 7, 3) := by decide +kernel
theorem dX12_penny_14 : decode cX12_penny 14 = .ok (.ldc2_w 456, 3) := by decide +kernel
theorem dX12_penny_17 : decode cX12_penny 17 = .ok (.lreturn, 1) := by decide +kernel
theorem dX12_penny_18 : decode cX12_penny 18 = .ok (.aload_n 0, 1) := by decide +kernel
theorem dX12_penny_19 : decode cX12_penny 19 = .ok (.invokevirtual 472, 3) := by decide +kernel
theorem dX12_penny_22 : decode cX12_penny 22 = .ok (.aload_n 0, 1) := by decide +kernel
theorem dX12_penny_23 : decode cX12_penny 23 = .ok (.invokevirtual 385, 3) := by decide +kernel
theorem dX12_penny_26 : decode cX12_penny 26 = .ok (.lneg, 1) := by decide +kernel
theorem dX12_penny_27 : decode cX12_penny 27 = .ok (.lstore_n 1, 1) := by decide +kernel
theorem dX12_penny_28 : decode cX12_penny 28 = .ok (.iconst 0, 1) := by decide +kernel
theorem dX12_penny_29 : decode cX12_penny 29 = .ok (.istore_n 3, 1) := by decide +kernel
theorem dX12_penny_30 : decode cX12_penny 30 = .ok (.iload_n 3, 1) := by decide +kernel
theorem dX12_penny_31 : decode cX12_penny 31 = .ok (.aload_n 0, 1) := by decide +kernel
theorem dX12_penny_32 : decode cX12_penny 32 = .ok (.getfield 52, 3) := by decide +kernel
theorem dX12_penny_35 : decode cX12_penny 35 = .ok (.iconst 0, 1) := by decide +kernel
theorem dX12_penny_36 : decode cX12_penny 36 = .ok (.iaload, 1) := by decide +kernel
theorem dX12_penny_37 : decode cX12_penny 37 = .ok (.if_icmp .ge 18, 3) := by decide +kernel
theorem dX12_penny_40 : decode cX12_penny 40 = .ok (.lload_n 1, 1) := by decide +kernel
theorem dX12_penny_41 : decode cX12_penny 41 = .ok (.aload_n 0, 1) := by decide +kernel
theorem dX12_penny_42 : decode cX12_penny 42 = .ok (.getfield 98, 3) := by decide +kernel
theorem dX12_penny_45 : decode cX12_penny 45 = .ok (.iload_n 3, 1) := by decide +kernel
theorem dX12_penny_46 : decode cX12_penny 46 = .ok (.laload, 1) := by decide +kernel
theorem dX12_penny_47 : decode cX12_penny 47 = .ok (.ladd, 1) := by decide +kernel
theorem dX12_penny_48 : decode cX12_penny 48 = .ok (.lstore_n 1, 1) := by decide +kernel
theorem dX12_penny_49 : decode cX12_penny 49 = .ok (.iinc 3 1, 3) := by decide +kernel
theorem dX12_penny_52 : decode cX12_penny 52 = .ok (.goto (-22), 3) := by decide +kernel
theorem dX12_penny_55 : decode cX12_penny 55 = .ok (.lload_n 1, 1) := by decide +kernel
theorem dX12_penny_56 : decode cX12_penny 56 = .ok (.lreturn, 1) := by decide +kernel
theorem dX12_enough_0 : decode cX12_enough 0 = .ok (.aload_n 0, 1) := by decide +kernel
theorem dX12_enough_1 : decode cX12_enough 1 = .ok (.iconst 0, 1) := by decide +kernel
theorem dX12_enough_2 : decode cX12_enough 2 = .ok (.putfield 114, 3) := by decide +kernel
theorem dX12_enough_5 : decode cX12_enough 5 = .ok (.aload_n 0, 1) := by decide +kernel
theorem dX12_enough_6 : decode cX12_enough 6 = .ok (.getfield 64, 3) := by decide +kernel
theorem dX12_enough_9 : decode cX12_enough 9 = .ok (.iconst 3, 1) := by decide +kernel
theorem dX12_enough_10 : decode cX12_enough 10 = .ok (.iaload, 1) := by decide +kernel
theorem dX12_enough_11 : decode cX12_enough 11 = .ok (.ifCond .ne 6, 3) := by decide +kernel
theorem dX12_enough_14 : decode cX12_enough 14 = .ok (.bipush (-2), 2) := by decide +kernel
theorem dX12_enough_16 : decode cX12_enough 16 = .ok (.ireturn, 1) := by decide +kernel
theorem dX12_enough_17 : decode cX12_enough 17 = .ok (.aload_n 0, 1) := by decide +kernel
theorem dX12_enough_18 : decode cX12_enough 18 = .ok (.invokevirtual 472, 3) := by decide +kernel
theorem dX12_enough_21 : decode cX12_enough 21 = .ok (.aload_n 0, 1) := by decide +kernel
theorem dX12_enough_22 : decode cX12_enough 22 = .ok (.invokevirtual 385, 3) := by decide +kernel
theorem dX12_enough_25 : decode cX12_enough 25 = .ok (.lstore_n 1, 1) := by decide +kernel
theorem dX12_enough_26 : decode cX12_enough 26 = .ok (.iconst 0, 1) := by decide +kernel
theorem dX12_enough_27 : decode cX12_enough 27 = .ok (.istore_n 3, 1) := by decide +kernel
theorem dX12_enough_28 : decode cX12_enough 28 = .ok (.iconst 0, 1) := by decide +kernel
theorem dX12_enough_29 : decode cX12_enough 29 = .ok (.istore 4, 2) := by decide +kernel
theorem dX12_enough_31 : decode cX12_enough 31 = .ok (.iload 4, 2) := by decide +kernel
theorem dX12_enough_33 : decode cX12_enough 33 = .ok (.aload_n 0, 1) := by decide +kernel
theorem dX12_enough_34 : decode cX12_enough 34 = .ok (.getfield 52, 3) := by decide +kernel
theorem dX12_enough_37 : decode cX12_enough 37 = .ok (.iconst 0, 1) := by decide +kernel
theorem dX12_enough_38 : decode cX12_enough 38 = .ok (.iaload, 1) := by decide +kernel
theorem dX12_enough_39 : decode cX12_enough 39 = .ok (.if_icmp .gt 103, 3) := by decide +kernel
theorem dX12_enough_42 : decode cX12_enough 42 = .ok (.lload_n 1, 1) := by decide +kernel
theorem dX12_enough_43 : decode cX12_enough 43 = .ok (.lconst 0, 1) := by decide +kernel
theorem dX12_enough_44 : decode cX12_enough 44 = .ok (.lcmp, 1) := by decide +kernel
theorem dX12_enough_45 : decode cX12_enough 45 = .ok (.ifCond .gt 6, 3) := by decide +kernel
theorem dX12_enough_48 : decode cX12_enough 48 = .ok (.iload 4, 2) := by decide +kernel
theorem dX12_enough_50 : decode cX12_enough 50 = .ok (.ireturn, 1) := by decide +kernel
theorem dX12_enough_51 : decode cX12_enough 51 = .ok (.iconst (-1), 1) := by decide +kernel
theorem dX12_enough_52 : decode cX12_enough 52 = .ok (.istore 5, 2) := by decide +kernel
theorem dX12_enough_54 : decode cX12_enough 54 = .ok (.iconst 0, 1) := by decide +kernel
theorem dX12_enough_55 : decode cX12_enough 55 = .ok (.istore 6, 2) := by decide +kernel
theorem dX12_enough_57 : decode cX12_enough 57 = .ok (.iload 6, 2) := by decide +kernel
theorem dX12_enough_59 : decode cX12_enough 59 = .ok (.aload_n 0, 1) := by decide +kernel
theorem dX12_enough_60 : decode cX12_enough 60 = .ok (.getfield 52, 3) := by decide +kernel
theorem dX12_enough_63 : decode cX12_enough 63 = .ok (.iconst 0, 1) := by decide +kernel
theorem dX12_enough_64 : decode cX12_enough 64 = .ok (.iaload, 1) := by decide +kernel
theorem dX12_enough_65 : decode cX12_enough 65 = .ok (.if_icmp .ge 46, 3) := by decide +kernel
theorem dX12_enough_68 : decode cX12_enough 68 = .ok (.iload_n 3, 1) := by decide +kernel
theorem dX12_enough_69 : decode cX12_enough 69 = .ok (.iload 6, 2) := by decide +kernel
theorem dX12_enough_71 : decode cX12_enough 71 = .ok (.ishr, 1) := by decide +kernel
theorem dX12_enough_72 : decode cX12_enough 72 = .ok (.iconst 1, 1) := by decide +kernel
theorem dX12_enough_73 : decode cX12_enough 73 = .ok (.iand, 1) := by decide +kernel
theorem dX12_enough_74 : decode cX12_enough 74 = .ok (.ifCond .ne 31, 3) := by decide +kernel
theorem dX12_enough_77 : decode cX12_enough 77 = .ok (.iload 5, 2) := by decide +kernel
theorem dX12_enough_79 : decode cX12_enough 79 = .ok (.iconst (-1), 1) := by decide +kernel
theorem dX12_enough_80 : decode cX12_enough 80 = .ok (.if_icmp .eq 21, 3) := by decide +kernel
theorem dX12_enough_83 : decode cX12_enough 83 = .ok (.aload_n 0, 1) := by decide +kernel
theorem dX12_enough_84 : decode cX12_enough 84 = .ok (.getfield 98, 3) := by decide +kernel
theorem dX12_enough_87 : decode cX12_enough 87 = .ok (.iload 6, 2) := by decide +kernel
theorem dX12_enough_89 : decode cX12_enough 89 = .ok (.laload, 1) := by decide +kernel
theorem dX12_enough_90 : decode cX12_enough 90 = .ok (.aload_n 0, 1) := by decide +kernel
theorem dX12_enough_91 : decode cX12_enough 91 = .ok (.getfield 98, 3) := by decide +kernel
theorem dX12_enough_94 : decode cX12_enough 94 = .ok (.iload 5, 2) := by decide +kernel
theorem dX12_enough_96 : decode cX12_enough 96 = .ok (.laload, 1) := by decide +kernel
theorem dX12_enough_97 : decode cX12_enough 97 = .ok (.lcmp, 1) := by decide +kernel
theorem dX12_enough_98 : decode cX12_enough 98 = .ok (.ifCond .le 7, 3) := by decide +kernel
theorem dX12_enough_101 : decode cX12_enough 101 = .ok (.iload 6, 2) := by decide +kernel
theorem dX12_enough_103 : decode cX12_enough 103 = .ok (.istore 5, 2) := by decide +kernel
theorem dX12_enough_105 : decode cX12_enough 105 = .ok (.iinc 6 1, 3) := by decide +kernel
theorem dX12_enough_108 : decode cX12_enough 108 = .ok (.goto (-51), 3) := by decide +kernel
theorem dX12_enough_111 : decode cX12_enough 111 = .ok (.iload 5, 2) := by decide +kernel
theorem dX12_enough_113 : decode cX12_enough 113 = .ok (.iconst (-1), 1) := by decide +kernel
theorem dX12_enough_114 : decode cX12_enough 114 = .ok (.if_icmp .ne 5, 3) := by decide +kernel
theorem dX12_enough_117 : decode cX12_enough 117 = .ok (.iconst (-1), 1) := by decide +kernel
theorem dX12_enough_118 : decode cX12_enough 118 = .ok (.ireturn, 1) := by decide +kernel
theorem dX12_enough_119 : decode cX12_enough 119 = .ok (.iload_n 3, 1) := by decide +kernel
theorem dX12_enough_120 : decode cX12_enough 120 = .ok (.iconst 1, 1) := by decide +kernel
theorem dX12_enough_121 : decode cX12_enough 121 = .ok (.iload 5, 2) := by decide +kernel
theorem dX12_enough_123 : decode cX12_enough 123 = .ok (.ishl, 1) := by decide +kernel
theorem dX12_enough_124 : decode cX12_enough 124 = .ok (.ior, 1) := by decide +kernel
theorem dX12_enough_125 : decode cX12_enough 125 = .ok (.istore_n 3, 1) := by decide +kernel
theorem dX12_enough_126 : decode cX12_enough 126 = .ok (.lload_n 1, 1) := by decide +kernel
theorem dX12_enough_127 : decode cX12_enough 127 = .ok (.aload_n 0, 1) := by decide +kernel
theorem dX12_enough_128 : decode cX12_enough 128 = .ok (.getfield 98, 3) := by decide +kernel
theorem dX12_enough_131 : decode cX12_enough 131 = .ok (.iload 5, 2) := by decide +kernel
theorem dX12_enough_133 : decode cX12_enough 133 = .ok (.laload, 1) := by decide +kernel
theorem dX12_enough_134 : decode cX12_enough 134 = .ok (.lsub, 1) := by decide +kernel
theorem dX12_enough_135 : decode cX12_enough 135 = .ok (.lstore_n 1, 1) := by decide +kernel
theorem dX12_enough_136 : decode cX12_enough 136 = .ok (.iinc 4 1, 3) := by decide +kernel
theorem dX12_enough_139 : decode cX12_enough 139 = .ok (.goto (-108), 3) := by decide +kernel
theorem dX12_enough_142 : decode cX12_enough 142 = .ok (.iconst (-1), 1) := by decide +kernel
theorem dX12_enough_143 : decode cX12_enough 143 = .ok (.ireturn, 1) := by decide +kernel
theorem dX12_marksSet_0 : decode cX12_marksSet 0 = .ok (.iconst 0, 1) := by decide +kernel
theorem dX12_marksSet_1 : decode cX12_marksSet 1 = .ok (.istore_n 2, 1) := by decide +kernel
theorem dX12_marksSet_2 : decode cX12_marksSet 2 = .ok (.iload_n 2, 1) := by decide +kernel
theorem dX12_marksSet_3 : decode cX12_marksSet 3 = .ok (.aload_n 0, 1) := by decide +kernel
theorem dX12_marksSet_4 : decode cX12_marksSet 4 = .ok (.getfield 52, 3) := by decide +kernel
theorem dX12_marksSet_7 : decode cX12_marksSet 7 = .ok (.iconst 0, 1) := by decide +kernel
theorem dX12_marksSet_8 : decode cX12_marksSet 8 = .ok (.iaload, 1) := by decide +kernel
theorem dX12_marksSet_9 : decode cX12_marksSet 9 = .ok (.if_icmp .ge 26, 3) := by decide +kernel
theorem dX12_marksSet_12 : decode cX12_marksSet 12 = .ok (.aload_n 0, 1) := by decide +kernel
theorem dX12_marksSet_13 : decode cX12_marksSet 13 = .ok (.getfield 55, 3) := by decide +kernel
theorem dX12_marksSet_16 : decode cX12_marksSet 16 = .ok (.iconst 0, 1) := by decide +kernel
theorem dX12_marksSet_17 : decode cX12_marksSet 17 = .ok (.iload_n 2, 1) := by decide +kernel
theorem dX12_marksSet_18 : decode cX12_marksSet 18 = .ok (.invokestatic 323, 3) := by decide +kernel
theorem dX12_marksSet_21 : decode cX12_marksSet 21 = .ok (.iconst 4, 1) := by decide +kernel
theorem dX12_marksSet_22 : decode cX12_marksSet 22 = .ok (.iadd, 1) := by decide +kernel
theorem dX12_marksSet_23 : decode cX12_marksSet 23 = .ok (.iload_n 1, 1) := by decide +kernel
theorem dX12_marksSet_24 : decode cX12_marksSet 24 = .ok (.iload_n 2, 1) := by decide +kernel
theorem dX12_marksSet_25 : decode cX12_marksSet 25 = .ok (.ishr, 1) := by decide +kernel
theorem dX12_marksSet_26 : decode cX12_marksSet 26 = .ok (.iconst 1, 1) := by decide +kernel
theorem dX12_marksSet_27 : decode cX12_marksSet 27 = .ok (.iand, 1) := by decide +kernel
theorem dX12_marksSet_28 : decode cX12_marksSet 28 = .ok (.iastore, 1) := by decide +kernel
theorem dX12_marksSet_29 : decode cX12_marksSet 29 = .ok (.iinc 2 1, 3) := by decide +kernel
theorem dX12_marksSet_32 : decode cX12_marksSet 32 = .ok (.goto (-30), 3) := by decide +kernel
theorem dX12_marksSet_35 : decode cX12_marksSet 35 = .ok (.return_, 1) := by decide +kernel
theorem dX12_isWanted_0 : decode cX12_isWanted 0 = .ok (.aload_n 0, 1) := by decide +kernel
theorem dX12_isWanted_1 : decode cX12_isWanted 1 = .ok (.iconst (-1), 1) := by decide +kernel
theorem dX12_isWanted_2 : decode cX12_isWanted 2 = .ok (.invokevirtual 343, 3) := by decide +kernel
theorem dX12_isWanted_5 : decode cX12_isWanted 5 = .ok (.iconst 0, 1) := by decide +kernel
theorem dX12_isWanted_6 : decode cX12_isWanted 6 = .ok (.istore_n 1, 1) := by decide +kernel
theorem dX12_isWanted_7 : decode cX12_isWanted 7 = .ok (.iload_n 1, 1) := by decide +kernel
theorem dX12_isWanted_8 : decode cX12_isWanted 8 = .ok (.aload_n 0, 1) := by decide +kernel
theorem dX12_isWanted_9 : decode cX12_isWanted 9 = .ok (.getfield 58, 3) := by decide +kernel
theorem dX12_isWanted_12 : decode cX12_isWanted 12 = .ok (.iconst 0, 1) := by decide +kernel
theorem dX12_isWanted_13 : decode cX12_isWanted 13 = .ok (.iaload, 1) := by decide +kernel
theorem dX12_isWanted_14 : decode cX12_isWanted 14 = .ok (.if_icmp .ge 19, 3) := by decide +kernel
theorem dX12_isWanted_17 : decode cX12_isWanted 17 = .ok (.aload_n 0, 1) := by decide +kernel
theorem dX12_isWanted_18 : decode cX12_isWanted 18 = .ok (.iload_n 1, 1) := by decide +kernel
theorem dX12_isWanted_19 : decode cX12_isWanted 19 = .ok (.invokevirtual 349, 3) := by decide +kernel
theorem dX12_isWanted_22 : decode cX12_isWanted 22 = .ok (.ifCond .le 5, 3) := by decide +kernel
theorem dX12_isWanted_25 : decode cX12_isWanted 25 = .ok (.iconst 1, 1) := by decide +kernel
theorem dX12_isWanted_26 : decode cX12_isWanted 26 = .ok (.ireturn, 1) := by decide +kernel
theorem dX12_isWanted_27 : decode cX12_isWanted 27 = .ok (.iinc 1 1, 3) := by decide +kernel
theorem dX12_isWanted_30 : decode cX12_isWanted 30 = .ok (.goto (-23), 3) := by decide +kernel
theorem dX12_isWanted_33 : decode cX12_isWanted 33 = .ok (.iconst 0, 1) := by decide +kernel
theorem dX12_isWanted_34 : decode cX12_isWanted 34 = .ok (.ireturn, 1) := by decide +kernel
theorem dX12_marks_0 : decode cX12_marks 0 = .ok (.aload_n 0, 1) := by decide +kernel
theorem dX12_marks_1 : decode cX12_marks 1 = .ok (.iconst 0, 1) := by decide +kernel
theorem dX12_marks_2 : decode cX12_marks 2 = .ok (.putfield 114, 3) := by decide +kernel
theorem dX12_marks_5 : decode cX12_marks 5 = .ok (.aload_n 0, 1) := by decide +kernel
theorem dX12_marks_6 : decode cX12_marks 6 = .ok (.invokevirtual 354, 3) := by decide +kernel
theorem dX12_marks_9 : decode cX12_marks 9 = .ok (.ifCond .ne 6, 3) := by decide +kernel
theorem dX12_marks_12 : decode cX12_marks 12 = .ok (.bipush (-2), 2) := by decide +kernel
theorem dX12_marks_14 : decode cX12_marks 14 = .ok (.ireturn, 1) := by decide +kernel
theorem dX12_marks_15 : decode cX12_marks 15 = .ok (.aload_n 0, 1) := by decide +kernel
theorem dX12_marks_16 : decode cX12_marks 16 = .ok (.invokevirtual 438, 3) := by decide +kernel
theorem dX12_marks_19 : decode cX12_marks 19 = .ok (.iconst (-1), 1) := by decide +kernel
theorem dX12_marks_20 : decode cX12_marks 20 = .ok (.istore_n 1, 1) := by decide +kernel
theorem dX12_marks_21 : decode cX12_marks 21 = .ok (.iconst 0, 1) := by decide +kernel
theorem dX12_marks_22 : decode cX12_marks 22 = .ok (.istore_n 2, 1) := by decide +kernel
theorem dX12_marks_23 : decode cX12_marks 23 = .ok (.iload_n 2, 1) := by decide +kernel
theorem dX12_marks_24 : decode cX12_marks 24 = .ok (.aload_n 0, 1) := by decide +kernel
theorem dX12_marks_25 : decode cX12_marks 25 = .ok (.getfield 52, 3) := by decide +kernel
theorem dX12_marks_28 : decode cX12_marks 28 = .ok (.iconst 0, 1) := by decide +kernel
theorem dX12_marks_29 : decode cX12_marks 29 = .ok (.iaload, 1) := by decide +kernel
theorem dX12_marks_30 : decode cX12_marks 30 = .ok (.if_icmp .gt 36, 3) := by decide +kernel
theorem dX12_marks_33 : decode cX12_marks 33 = .ok (.iload_n 1, 1) := by decide +kernel
theorem dX12_marks_34 : decode cX12_marks 34 = .ok (.iconst (-1), 1) := by decide +kernel
theorem dX12_marks_35 : decode cX12_marks 35 = .ok (.if_icmp .ne 31, 3) := by decide +kernel
theorem dX12_marks_38 : decode cX12_marks 38 = .ok (.aload_n 0, 1) := by decide +kernel
theorem dX12_marks_39 : decode cX12_marks 39 = .ok (.iconst 1, 1) := by decide +kernel
theorem dX12_marks_40 : decode cX12_marks 40 = .ok (.iload_n 2, 1) := by decide +kernel
theorem dX12_marks_41 : decode cX12_marks 41 = .ok (.ishl, 1) := by decide +kernel
theorem dX12_marks_42 : decode cX12_marks 42 = .ok (.iconst 1, 1) := by decide +kernel
theorem dX12_marks_43 : decode cX12_marks 43 = .ok (.isub, 1) := by decide +kernel
theorem dX12_marks_44 : decode cX12_marks 44 = .ok (.invokevirtual 475, 3) := by decide +kernel
theorem dX12_marks_47 : decode cX12_marks 47 = .ok (.aload_n 0, 1) := by decide +kernel
theorem dX12_marks_48 : decode cX12_marks 48 = .ok (.invokevirtual 478, 3) := by decide +kernel
theorem dX12_marks_51 : decode cX12_marks 51 = .ok (.ifCond .eq 7, 3) := by decide +kernel
theorem dX12_marks_54 : decode cX12_marks 54 = .ok (.iconst (-1), 1) := by decide +kernel
theorem dX12_marks_55 : decode cX12_marks 55 = .ok (.goto 4, 3) := by decide +kernel
theorem dX12_marks_58 : decode cX12_marks 58 = .ok (.iload_n 2, 1) := by decide +kernel
theorem dX12_marks_59 : decode cX12_marks 59 = .ok (.istore_n 1, 1) := by decide +kernel
theorem dX12_marks_60 : decode cX12_marks 60 = .ok (.iinc 2 1, 3) := by decide +kernel
theorem dX12_marks_63 : decode cX12_marks 63 = .ok (.goto (-40), 3) := by decide +kernel
theorem dX12_marks_66 : decode cX12_marks 66 = .ok (.aload_n 0, 1) := by decide +kernel
theorem dX12_marks_67 : decode cX12_marks 67 = .ok (.invokevirtual 441, 3) := by decide +kernel
theorem dX12_marks_70 : decode cX12_marks 70 = .ok (.iload_n 1, 1) := by decide +kernel
theorem dX12_marks_71 : decode cX12_marks 71 = .ok (.ireturn, 1) := by decide +kernel
theorem dX12_hides_0 : decode cX12_hides 0 = .ok (.aload_n 0, 1) := by decide +kernel
theorem dX12_hides_1 : decode cX12_hides 1 = .ok (.iconst 0, 1) := by decide +kernel
theorem dX12_hides_2 : decode cX12_hides 2 = .ok (.putfield 114, 3) := by decide +kernel
theorem dX12_hides_5 : decode cX12_hides 5 = .ok (.aload_n 0, 1) := by decide +kernel
theorem dX12_hides_6 : decode cX12_hides 6 = .ok (.iload_n 1, 1) := by decide +kernel
theorem dX12_hides_7 : decode cX12_hides 7 = .ok (.invokevirtual 318, 3) := by decide +kernel
theorem dX12_hides_10 : decode cX12_hides 10 = .ok (.ifCond .ne 7, 3) := by decide +kernel
theorem dX12_hides_13 : decode cX12_hides 13 = .ok (.ldc2_w 456, 3) := by decide +kernel
theorem dX12_hides_16 : decode cX12_hides 16 = .ok (.lreturn, 1) := by decide +kernel
theorem dX12_hides_17 : decode cX12_hides 17 = .ok (.aload_n 0, 1) := by decide +kernel
theorem dX12_hides_18 : decode cX12_hides 18 = .ok (.invokevirtual 438, 3) := by decide +kernel
theorem dX12_hides_21 : decode cX12_hides 21 = .ok (.aload_n 0, 1) := by decide +kernel
theorem dX12_hides_22 : decode cX12_hides 22 = .ok (.iconst 0, 1) := by decide +kernel
theorem dX12_hides_23 : decode cX12_hides 23 = .ok (.invokevirtual 475, 3) := by decide +kernel
theorem dX12_hides_26 : decode cX12_hides 26 = .ok (.aload_n 0, 1) := by decide +kernel
theorem dX12_hides_27 : decode cX12_hides 27 = .ok (.invokevirtual 362, 3) := by decide +kernel
theorem dX12_hides_30 : decode cX12_hides 30 = .ok (.aload_n 0, 1) := by decide +kernel
theorem dX12_hides_31 : decode cX12_hides 31 = .ok (.iload_n 1, 1) := by decide +kernel
theorem dX12_hides_32 : decode cX12_hides 32 = .ok (.invokevirtual 382, 3) := by decide +kernel
theorem dX12_hides_35 : decode cX12_hides 35 = .ok (.lstore_n 2, 1) := by decide +kernel
theorem dX12_hides_36 : decode cX12_hides 36 = .ok (.aload_n 0, 1) := by decide +kernel
theorem dX12_hides_37 : decode cX12_hides 37 = .ok (.iconst 1, 1) := by decide +kernel
theorem dX12_hides_38 : decode cX12_hides 38 = .ok (.aload_n 0, 1) := by decide +kernel
theorem dX12_hides_39 : decode cX12_hides 39 = .ok (.getfield 52, 3) := by decide +kernel
theorem dX12_hides_42 : decode cX12_hides 42 = .ok (.iconst 0, 1) := by decide +kernel
theorem dX12_hides_43 : decode cX12_hides 43 = .ok (.iaload, 1) := by decide +kernel
theorem dX12_hides_44 : decode cX12_hides 44 = .ok (.ishl, 1) := by decide +kernel
theorem dX12_hides_45 : decode cX12_hides 45 = .ok (.iconst 1, 1) := by decide +kernel
theorem dX12_hides_46 : decode cX12_hides 46 = .ok (.isub, 1) := by decide +kernel
theorem dX12_hides_47 : decode cX12_hides 47 = .ok (.iconst 1, 1) := by decide +kernel
theorem dX12_hides_48 : decode cX12_hides 48 = .ok (.iload_n 1, 1) := by decide +kernel
theorem dX12_hides_49 : decode cX12_hides 49 = .ok (.ishl, 1) := by decide +kernel
theorem dX12_hides_50 : decode cX12_hides 50 = .ok (.iconst (-1), 1) := by decide +kernel
theorem dX12_hides_51 : decode cX12_hides 51 = .ok (.ixor, 1) := by decide +kernel
theorem dX12_hides_52 : decode cX12_hides 52 = .ok (.iand, 1) := by decide +kernel
theorem dX12_hides_53 : decode cX12_hides 53 = .ok (.invokevirtual 475, 3) := by decide +kernel
theorem dX12_hides_56 : decode cX12_hides 56 = .ok (.aload_n 0, 1) := by decide +kernel
theorem dX12_hides_57 : decode cX12_hides 57 = .ok (.invokevirtual 362, 3) := by decide +kernel
theorem dX12_hides_60 : decode cX12_hides 60 = .ok (.lload_n 2, 1) := by decide +kernel
theorem dX12_hides_61 : decode cX12_hides 61 = .ok (.aload_n 0, 1) := by decide +kernel
theorem dX12_hides_62 : decode cX12_hides 62 = .ok (.iload_n 1, 1) := by decide +kernel
theorem dX12_hides_63 : decode cX12_hides 63 = .ok (.invokevirtual 382, 3) := by decide +kernel
theorem dX12_hides_66 : decode cX12_hides 66 = .ok (.lsub, 1) := by decide +kernel
theorem dX12_hides_67 : decode cX12_hides 67 = .ok (.lstore_n 2, 1) := by decide +kernel
theorem dX12_hides_68 : decode cX12_hides 68 = .ok (.aload_n 0, 1) := by decide +kernel
theorem dX12_hides_69 : decode cX12_hides 69 = .ok (.invokevirtual 441, 3) := by decide +kernel
theorem dX12_hides_72 : decode cX12_hides 72 = .ok (.lload_n 2, 1) := by decide +kernel
theorem dX12_hides_73 : decode cX12_hides 73 = .ok (.lreturn, 1) := by decide +kernel
theorem dX12_state_0 : decode cX12_state 0 = .ok (.bipush 64, 2) := by decide +kernel
theorem dX12_state_2 : decode cX12_state 2 = .ok (.iload_n 0, 1) := by decide +kernel
theorem dX12_state_3 : decode cX12_state 3 = .ok (.imul, 1) := by decide +kernel
theorem dX12_state_4 : decode cX12_state 4 = .ok (.iload_n 1, 1) := by decide +kernel
theorem dX12_state_5 : decode cX12_state 5 = .ok (.iadd, 1) := by decide +kernel
theorem dX12_state_6 : decode cX12_state 6 = .ok (.ireturn, 1) := by decide +kernel
theorem dX12_thiefGoes_0 : decode cX12_thiefGoes 0 = .ok (.iconst 2, 1) := by decide +kernel
theorem dX12_thiefGoes_1 : decode cX12_thiefGoes 1 = .ok (.aload_n 0, 1) := by decide +kernel
theorem dX12_thiefGoes_2 : decode cX12_thiefGoes 2 = .ok (.getfield 52, 3) := by decide +kernel
theorem dX12_thiefGoes_5 : decode cX12_thiefGoes 5 = .ok (.iconst 0, 1) := by decide +kernel
theorem dX12_thiefGoes_6 : decode cX12_thiefGoes 6 = .ok (.iaload, 1) := by decide +kernel
theorem dX12_thiefGoes_7 : decode cX12_thiefGoes 7 = .ok (.ishl, 1) := by decide +kernel
theorem dX12_thiefGoes_8 : decode cX12_thiefGoes 8 = .ok (.istore_n 3, 1) := by decide +kernel
theorem dX12_thiefGoes_9 : decode cX12_thiefGoes 9 = .ok (.iconst 1, 1) := by decide +kernel
theorem dX12_thiefGoes_10 : decode cX12_thiefGoes 10 = .ok (.aload_n 0, 1) := by decide +kernel
theorem dX12_thiefGoes_11 : decode cX12_thiefGoes 11 = .ok (.getfield 58, 3) := by decide +kernel
theorem dX12_thiefGoes_14 : decode cX12_thiefGoes 14 = .ok (.iconst 0, 1) := by decide +kernel
theorem dX12_thiefGoes_15 : decode cX12_thiefGoes 15 = .ok (.iaload, 1) := by decide +kernel
theorem dX12_thiefGoes_16 : decode cX12_thiefGoes 16 = .ok (.ishl, 1) := by decide +kernel
theorem dX12_thiefGoes_17 : decode cX12_thiefGoes 17 = .ok (.istore 4, 2) := by decide +kernel
theorem dX12_thiefGoes_19 : decode cX12_thiefGoes 19 = .ok (.iconst 0, 1) := by decide +kernel
theorem dX12_thiefGoes_20 : decode cX12_thiefGoes 20 = .ok (.istore 5, 2) := by decide +kernel
theorem dX12_thiefGoes_22 : decode cX12_thiefGoes 22 = .ok (.iload 5, 2) := by decide +kernel
theorem dX12_thiefGoes_24 : decode cX12_thiefGoes 24 = .ok (.iload_n 3, 1) := by decide +kernel
theorem dX12_thiefGoes_25 : decode cX12_thiefGoes 25 = .ok (.if_icmp .ge 79, 3) := by decide +kernel
theorem dX12_thiefGoes_28 : decode cX12_thiefGoes 28 = .ok (.iconst 0, 1) := by decide +kernel
theorem dX12_thiefGoes_29 : decode cX12_thiefGoes 29 = .ok (.istore 6, 2) := by decide +kernel
theorem dX12_thiefGoes_31 : decode cX12_thiefGoes 31 = .ok (.iload 6, 2) := by decide +kernel
theorem dX12_thiefGoes_33 : decode cX12_thiefGoes 33 = .ok (.iload 4, 2) := by decide +kernel
theorem dX12_thiefGoes_35 : decode cX12_thiefGoes 35 = .ok (.if_icmp .ge 63, 3) := by decide +kernel
theorem dX12_thiefGoes_38 : decode cX12_thiefGoes 38 = .ok (.aload_n 0, 1) := by decide +kernel
theorem dX12_thiefGoes_39 : decode cX12_thiefGoes 39 = .ok (.getfield 105, 3) := by decide +kernel
theorem dX12_thiefGoes_42 : decode cX12_thiefGoes 42 = .ok (.iload 5, 2) := by decide +kernel
theorem dX12_thiefGoes_44 : decode cX12_thiefGoes 44 = .ok (.iload 6, 2) := by decide +kernel
theorem dX12_thiefGoes_46 : decode cX12_thiefGoes 46 = .ok (.invokestatic 481, 3) := by decide +kernel
theorem dX12_thiefGoes_49 : decode cX12_thiefGoes 49 = .ok (.iload 6, 2) := by decide +kernel
theorem dX12_thiefGoes_51 : decode cX12_thiefGoes 51 = .ok (.iload_n 1, 1) := by decide +kernel
theorem dX12_thiefGoes_52 : decode cX12_thiefGoes 52 = .ok (.ishr, 1) := by decide +kernel
theorem dX12_thiefGoes_53 : decode cX12_thiefGoes 53 = .ok (.iconst 1, 1) := by decide +kernel
theorem dX12_thiefGoes_54 : decode cX12_thiefGoes 54 = .ok (.iand, 1) := by decide +kernel
theorem dX12_thiefGoes_55 : decode cX12_thiefGoes 55 = .ok (.iconst 1, 1) := by decide +kernel
theorem dX12_thiefGoes_56 : decode cX12_thiefGoes 56 = .ok (.if_icmp .ne 7, 3) := by decide +kernel
theorem dX12_thiefGoes_59 : decode cX12_thiefGoes 59 = .ok (.lconst 0, 1) := by decide +kernel
theorem dX12_thiefGoes_60 : decode cX12_thiefGoes 60 = .ok (.goto 31, 3) := by decide +kernel
theorem dX12_thiefGoes_63 : decode cX12_thiefGoes 63 = .ok (.aload_n 0, 1) := by decide +kernel
theorem dX12_thiefGoes_64 : decode cX12_thiefGoes 64 = .ok (.getfield 102, 3) := by decide +kernel
theorem dX12_thiefGoes_67 : decode cX12_thiefGoes 67 = .ok (.iload 5, 2) := by decide +kernel
theorem dX12_thiefGoes_69 : decode cX12_thiefGoes 69 = .ok (.iload 6, 2) := by decide +kernel
theorem dX12_thiefGoes_71 : decode cX12_thiefGoes 71 = .ok (.invokestatic 481, 3) := by decide +kernel
theorem dX12_thiefGoes_74 : decode cX12_thiefGoes 74 = .ok (.laload, 1) := by decide +kernel
theorem dX12_thiefGoes_75 : decode cX12_thiefGoes 75 = .ok (.aload_n 0, 1) := by decide +kernel
theorem dX12_thiefGoes_76 : decode cX12_thiefGoes 76 = .ok (.getfield 61, 3) := by decide +kernel
theorem dX12_thiefGoes_79 : decode cX12_thiefGoes 79 = .ok (.iconst 5, 1) := by decide +kernel
theorem dX12_thiefGoes_80 : decode cX12_thiefGoes 80 = .ok (.iload_n 1, 1) := by decide +kernel
theorem dX12_thiefGoes_81 : decode cX12_thiefGoes 81 = .ok (.imul, 1) := by decide +kernel
theorem dX12_thiefGoes_82 : decode cX12_thiefGoes 82 = .ok (.iconst 1, 1) := by decide +kernel
theorem dX12_thiefGoes_83 : decode cX12_thiefGoes 83 = .ok (.iadd, 1) := by decide +kernel
theorem dX12_thiefGoes_84 : decode cX12_thiefGoes 84 = .ok (.iaload, 1) := by decide +kernel
theorem dX12_thiefGoes_85 : decode cX12_thiefGoes 85 = .ok (.i2l, 1) := by decide +kernel
theorem dX12_thiefGoes_86 : decode cX12_thiefGoes 86 = .ok (.lmul, 1) := by decide +kernel
theorem dX12_thiefGoes_87 : decode cX12_thiefGoes 87 = .ok (.ldc2_w 325, 3) := by decide +kernel
theorem dX12_thiefGoes_90 : decode cX12_thiefGoes 90 = .ok (.ldiv, 1) := by decide +kernel
theorem dX12_thiefGoes_91 : decode cX12_thiefGoes 91 = .ok (.lastore, 1) := by decide +kernel
theorem dX12_thiefGoes_92 : decode cX12_thiefGoes 92 = .ok (.iinc 6 1, 3) := by decide +kernel
theorem dX12_thiefGoes_95 : decode cX12_thiefGoes 95 = .ok (.goto (-64), 3) := by decide +kernel
theorem dX12_thiefGoes_98 : decode cX12_thiefGoes 98 = .ok (.iinc 5 1, 3) := by decide +kernel
theorem dX12_thiefGoes_101 : decode cX12_thiefGoes 101 = .ok (.goto (-79), 3) := by decide +kernel
theorem dX12_thiefGoes_104 : decode cX12_thiefGoes 104 = .ok (.iconst 0, 1) := by decide +kernel
theorem dX12_thiefGoes_105 : decode cX12_thiefGoes 105 = .ok (.istore 5, 2) := by decide +kernel
theorem dX12_thiefGoes_107 : decode cX12_thiefGoes 107 = .ok (.iload 5, 2) := by decide +kernel
theorem dX12_thiefGoes_109 : decode cX12_thiefGoes 109 = .ok (.iload_n 3, 1) := by decide +kernel
theorem dX12_thiefGoes_110 : decode cX12_thiefGoes 110 = .ok (.if_icmp .ge 161, 3) := by decide +kernel
theorem dX12_thiefGoes_113 : decode cX12_thiefGoes 113 = .ok (.aload_n 0, 1) := by decide +kernel
theorem dX12_thiefGoes_114 : decode cX12_thiefGoes 114 = .ok (.iload_n 1, 1) := by decide +kernel
theorem dX12_thiefGoes_115 : decode cX12_thiefGoes 115 = .ok (.iload 5, 2) := by decide +kernel
theorem dX12_thiefGoes_117 : decode cX12_thiefGoes 117 = .ok (.invokevirtual 346, 3) := by decide +kernel
theorem dX12_thiefGoes_120 : decode cX12_thiefGoes 120 = .ok (.istore 6, 2) := by decide +kernel
theorem dX12_thiefGoes_122 : decode cX12_thiefGoes 122 = .ok (.iload 6, 2) := by decide +kernel
theorem dX12_thiefGoes_124 : decode cX12_thiefGoes 124 = .ok (.iconst (-1), 1) := by decide +kernel
theorem dX12_thiefGoes_125 : decode cX12_thiefGoes 125 = .ok (.if_icmp .ne 6, 3) := by decide +kernel
theorem dX12_thiefGoes_128 : decode cX12_thiefGoes 128 = .ok (.goto 137, 3) := by decide +kernel
theorem dX12_thiefGoes_131 : decode cX12_thiefGoes 131 = .ok (.iconst 0, 1) := by decide +kernel
theorem dX12_thiefGoes_132 : decode cX12_thiefGoes 132 = .ok (.istore 7, 2) := by decide +kernel
theorem dX12_thiefGoes_134 : decode cX12_thiefGoes 134 = .ok (.iload 7, 2) := by decide +kernel
theorem dX12_thiefGoes_136 : decode cX12_thiefGoes 136 = .ok (.iload 4, 2) := by decide +kernel
theorem dX12_thiefGoes_138 : decode cX12_thiefGoes 138 = .ok (.if_icmp .ge 127, 3) := by decide +kernel
theorem dX12_thiefGoes_141 : decode cX12_thiefGoes 141 = .ok (.aload_n 0, 1) := by decide +kernel
theorem dX12_thiefGoes_142 : decode cX12_thiefGoes 142 = .ok (.getfield 105, 3) := by decide +kernel
theorem dX12_thiefGoes_145 : decode cX12_thiefGoes 145 = .ok (.iload 5, 2) := by decide +kernel
theorem dX12_thiefGoes_147 : decode cX12_thiefGoes 147 = .ok (.iload 7, 2) := by decide +kernel
theorem dX12_thiefGoes_149 : decode cX12_thiefGoes 149 = .ok (.invokestatic 481, 3) := by decide +kernel
theorem dX12_thiefGoes_152 : decode cX12_thiefGoes 152 = .ok (.laload, 1) := by decide +kernel
theorem dX12_thiefGoes_153 : decode cX12_thiefGoes 153 = .ok (.lstore 8, 2) := by decide +kernel
theorem dX12_thiefGoes_155 : decode cX12_thiefGoes 155 = .ok (.lload 8, 2) := by decide +kernel
theorem dX12_thiefGoes_157 : decode cX12_thiefGoes 157 = .ok (.lconst 0, 1) := by decide +kernel
theorem dX12_thiefGoes_158 : decode cX12_thiefGoes 158 = .ok (.lcmp, 1) := by decide +kernel
theorem dX12_thiefGoes_159 : decode cX12_thiefGoes 159 = .ok (.ifCond .ne 6, 3) := by decide +kernel
theorem dX12_thiefGoes_162 : decode cX12_thiefGoes 162 = .ok (.goto 97, 3) := by decide +kernel
theorem dX12_thiefGoes_165 : decode cX12_thiefGoes 165 = .ok (.iload 6, 2) := by decide +kernel
theorem dX12_thiefGoes_167 : decode cX12_thiefGoes 167 = .ok (.aload_n 0, 1) := by decide +kernel
theorem dX12_thiefGoes_168 : decode cX12_thiefGoes 168 = .ok (.getfield 52, 3) := by decide +kernel
theorem dX12_thiefGoes_171 : decode cX12_thiefGoes 171 = .ok (.iconst 0, 1) := by decide +kernel
theorem dX12_thiefGoes_172 : decode cX12_thiefGoes 172 = .ok (.iaload, 1) := by decide +kernel
theorem dX12_thiefGoes_173 : decode cX12_thiefGoes 173 = .ok (.if_icmp .ne 15, 3) := by decide +kernel
theorem dX12_thiefGoes_176 : decode cX12_thiefGoes 176 = .ok (.lload 8, 2) := by decide +kernel
theorem dX12_thiefGoes_178 : decode cX12_thiefGoes 178 = .ok (.iload_n 2, 1) := by decide +kernel
theorem dX12_thiefGoes_179 : decode cX12_thiefGoes 179 = .ok (.i2l, 1) := by decide +kernel
theorem dX12_thiefGoes_180 : decode cX12_thiefGoes 180 = .ok (.lmul, 1) := by decide +kernel
theorem dX12_thiefGoes_181 : decode cX12_thiefGoes 181 = .ok (.ldc2_w 325, 3) := by decide +kernel
theorem dX12_thiefGoes_184 : decode cX12_thiefGoes 184 = .ok (.ldiv, 1) := by decide +kernel
theorem dX12_thiefGoes_185 : decode cX12_thiefGoes 185 = .ok (.goto 4, 3) := by decide +kernel
theorem dX12_thiefGoes_188 : decode cX12_thiefGoes 188 = .ok (.lconst 0, 1) := by decide +kernel
theorem dX12_thiefGoes_189 : decode cX12_thiefGoes 189 = .ok (.lstore 10, 2) := by decide +kernel
theorem dX12_thiefGoes_191 : decode cX12_thiefGoes 191 = .ok (.aload_n 0, 1) := by decide +kernel
theorem dX12_thiefGoes_192 : decode cX12_thiefGoes 192 = .ok (.getfield 102, 3) := by decide +kernel
theorem dX12_thiefGoes_195 : decode cX12_thiefGoes 195 = .ok (.iload 5, 2) := by decide +kernel
theorem dX12_thiefGoes_197 : decode cX12_thiefGoes 197 = .ok (.iload 7, 2) := by decide +kernel
theorem dX12_thiefGoes_199 : decode cX12_thiefGoes 199 = .ok (.invokestatic 481, 3) := by decide +kernel
theorem dX12_thiefGoes_202 : decode cX12_thiefGoes 202 = .ok (.dup2, 1) := by decide +kernel
theorem dX12_thiefGoes_203 : decode cX12_thiefGoes 203 = .ok (.laload, 1) := by decide +kernel
theorem dX12_thiefGoes_204 : decode cX12_thiefGoes 204 = .ok (.lload 8, 2) := by decide +kernel
theorem dX12_thiefGoes_206 : decode cX12_thiefGoes 206 = .ok (.lsub, 1) := by decide +kernel
theorem dX12_thiefGoes_207 : decode cX12_thiefGoes 207 = .ok (.lastore, 1) := by decide +kernel
theorem dX12_thiefGoes_208 : decode cX12_thiefGoes 208 = .ok (.aload_n 0, 1) := by decide +kernel
theorem dX12_thiefGoes_209 : decode cX12_thiefGoes 209 = .ok (.getfield 102, 3) := by decide +kernel
theorem dX12_thiefGoes_212 : decode cX12_thiefGoes 212 = .ok (.iload 5, 2) := by decide +kernel
theorem dX12_thiefGoes_214 : decode cX12_thiefGoes 214 = .ok (.iconst 1, 1) := by decide +kernel
theorem dX12_thiefGoes_215 : decode cX12_thiefGoes 215 = .ok (.iload 6, 2) := by decide +kernel
theorem dX12_thiefGoes_217 : decode cX12_thiefGoes 217 = .ok (.ishl, 1) := by decide +kernel
theorem dX12_thiefGoes_218 : decode cX12_thiefGoes 218 = .ok (.ior, 1) := by decide +kernel
theorem dX12_thiefGoes_219 : decode cX12_thiefGoes 219 = .ok (.iload 7, 2) := by decide +kernel
theorem dX12_thiefGoes_221 : decode cX12_thiefGoes 221 = .ok (.iconst 1, 1) := by decide +kernel
theorem dX12_thiefGoes_222 : decode cX12_thiefGoes 222 = .ok (.iload_n 1, 1) := by decide +kernel
theorem dX12_thiefGoes_223 : decode cX12_thiefGoes 223 = .ok (.ishl, 1) := by decide +kernel
theorem dX12_thiefGoes_224 : decode cX12_thiefGoes 224 = .ok (.ior, 1) := by decide +kernel
theorem dX12_thiefGoes_225 : decode cX12_thiefGoes 225 = .ok (.invokestatic 481, 3) := by decide +kernel
theorem dX12_thiefGoes_228 : decode cX12_thiefGoes 228 = .ok (.dup2, 1) := by decide +kernel
theorem dX12_thiefGoes_229 : decode cX12_thiefGoes 229 = .ok (.laload, 1) := by decide +kernel
theorem dX12_thiefGoes_230 : decode cX12_thiefGoes 230 = .ok (.lload 10, 2) := by decide +kernel
theorem dX12_thiefGoes_232 : decode cX12_thiefGoes 232 = .ok (.ladd, 1) := by decide +kernel
theorem dX12_thiefGoes_233 : decode cX12_thiefGoes 233 = .ok (.lastore, 1) := by decide +kernel
theorem dX12_thiefGoes_234 : decode cX12_thiefGoes 234 = .ok (.aload_n 0, 1) := by decide +kernel
theorem dX12_thiefGoes_235 : decode cX12_thiefGoes 235 = .ok (.getfield 102, 3) := by decide +kernel
theorem dX12_thiefGoes_238 : decode cX12_thiefGoes 238 = .ok (.iload 5, 2) := by decide +kernel
theorem dX12_thiefGoes_240 : decode cX12_thiefGoes 240 = .ok (.iconst 1, 1) := by decide +kernel
theorem dX12_thiefGoes_241 : decode cX12_thiefGoes 241 = .ok (.iload 6, 2) := by decide +kernel
theorem dX12_thiefGoes_243 : decode cX12_thiefGoes 243 = .ok (.ishl, 1) := by decide +kernel
theorem dX12_thiefGoes_244 : decode cX12_thiefGoes 244 = .ok (.ior, 1) := by decide +kernel
theorem dX12_thiefGoes_245 : decode cX12_thiefGoes 245 = .ok (.iload 7, 2) := by decide +kernel
theorem dX12_thiefGoes_247 : decode cX12_thiefGoes 247 = .ok (.invokestatic 481, 3) := by decide +kernel
theorem dX12_thiefGoes_250 : decode cX12_thiefGoes 250 = .ok (.dup2, 1) := by decide +kernel
theorem dX12_thiefGoes_251 : decode cX12_thiefGoes 251 = .ok (.laload, 1) := by decide +kernel
theorem dX12_thiefGoes_252 : decode cX12_thiefGoes 252 = .ok (.lload 8, 2) := by decide +kernel
theorem dX12_thiefGoes_254 : decode cX12_thiefGoes 254 = .ok (.lload 10, 2) := by decide +kernel
theorem dX12_thiefGoes_256 : decode cX12_thiefGoes 256 = .ok (.lsub, 1) := by decide +kernel
theorem dX12_thiefGoes_257 : decode cX12_thiefGoes 257 = .ok (.ladd, 1) := by decide +kernel
theorem dX12_thiefGoes_258 : decode cX12_thiefGoes 258 = .ok (.lastore, 1) := by decide +kernel
theorem dX12_thiefGoes_259 : decode cX12_thiefGoes 259 = .ok (.iinc 7 1, 3) := by decide +kernel
theorem dX12_thiefGoes_262 : decode cX12_thiefGoes 262 = .ok (.goto (-128), 3) := by decide +kernel
theorem dX12_thiefGoes_265 : decode cX12_thiefGoes 265 = .ok (.iinc 5 1, 3) := by decide +kernel
theorem dX12_thiefGoes_268 : decode cX12_thiefGoes 268 = .ok (.goto (-161), 3) := by decide +kernel
theorem dX12_thiefGoes_271 : decode cX12_thiefGoes 271 = .ok (.return_, 1) := by decide +kernel
theorem dX12_baits_0 : decode cX12_baits 0 = .ok (.aload_n 0, 1) := by decide +kernel
theorem dX12_baits_1 : decode cX12_baits 1 = .ok (.iload_n 2, 1) := by decide +kernel
theorem dX12_baits_2 : decode cX12_baits 2 = .ok (.invokevirtual 343, 3) := by decide +kernel
theorem dX12_baits_5 : decode cX12_baits 5 = .ok (.iconst 2, 1) := by decide +kernel
theorem dX12_baits_6 : decode cX12_baits 6 = .ok (.aload_n 0, 1) := by decide +kernel
theorem dX12_baits_7 : decode cX12_baits 7 = .ok (.getfield 52, 3) := by decide +kernel
theorem dX12_baits_10 : decode cX12_baits 10 = .ok (.iconst 0, 1) := by decide +kernel
theorem dX12_baits_11 : decode cX12_baits 11 = .ok (.iaload, 1) := by decide +kernel
theorem dX12_baits_12 : decode cX12_baits 12 = .ok (.ishl, 1) := by decide +kernel
theorem dX12_baits_13 : decode cX12_baits 13 = .ok (.istore 4, 2) := by decide +kernel
theorem dX12_baits_15 : decode cX12_baits 15 = .ok (.iconst 1, 1) := by decide +kernel
theorem dX12_baits_16 : decode cX12_baits 16 = .ok (.aload_n 0, 1) := by decide +kernel
theorem dX12_baits_17 : decode cX12_baits 17 = .ok (.getfield 58, 3) := by decide +kernel
theorem dX12_baits_20 : decode cX12_baits 20 = .ok (.iconst 0, 1) := by decide +kernel
theorem dX12_baits_21 : decode cX12_baits 21 = .ok (.iaload, 1) := by decide +kernel
theorem dX12_baits_22 : decode cX12_baits 22 = .ok (.ishl, 1) := by decide +kernel
theorem dX12_baits_23 : decode cX12_baits 23 = .ok (.istore 5, 2) := by decide +kernel
theorem dX12_baits_25 : decode cX12_baits 25 = .ok (.aload_n 0, 1) := by decide +kernel
theorem dX12_baits_26 : decode cX12_baits 26 = .ok (.lconst 0, 1) := by decide +kernel
theorem dX12_baits_27 : decode cX12_baits 27 = .ok (.putfield 484, 3) := by decide +kernel
theorem dX12_baits_30 : decode cX12_baits 30 = .ok (.iconst 0, 1) := by decide +kernel
theorem dX12_baits_31 : decode cX12_baits 31 = .ok (.istore 6, 2) := by decide +kernel
theorem dX12_baits_33 : decode cX12_baits 33 = .ok (.iload 6, 2) := by decide +kernel
theorem dX12_baits_35 : decode cX12_baits 35 = .ok (.iload 5, 2) := by decide +kernel
theorem dX12_baits_37 : decode cX12_baits 37 = .ok (.if_icmp .ge 28, 3) := by decide +kernel
theorem dX12_baits_40 : decode cX12_baits 40 = .ok (.aload_n 0, 1) := by decide +kernel
theorem dX12_baits_41 : decode cX12_baits 41 = .ok (.getfield 108, 3) := by decide +kernel
theorem dX12_baits_44 : decode cX12_baits 44 = .ok (.iload 6, 2) := by decide +kernel
theorem dX12_baits_46 : decode cX12_baits 46 = .ok (.iload 6, 2) := by decide +kernel
theorem dX12_baits_48 : decode cX12_baits 48 = .ok (.ifCond .ne 9, 3) := by decide +kernel
theorem dX12_baits_51 : decode cX12_baits 51 = .ok (.ldc2_w 352, 3) := by decide +kernel
theorem dX12_baits_54 : decode cX12_baits 54 = .ok (.goto 4, 3) := by decide +kernel
theorem dX12_baits_57 : decode cX12_baits 57 = .ok (.lconst 0, 1) := by decide +kernel
theorem dX12_baits_58 : decode cX12_baits 58 = .ok (.lastore, 1) := by decide +kernel
theorem dX12_baits_59 : decode cX12_baits 59 = .ok (.iinc 6 1, 3) := by decide +kernel
theorem dX12_baits_62 : decode cX12_baits 62 = .ok (.goto (-29), 3) := by decide +kernel
theorem dX12_baits_65 : decode cX12_baits 65 = .ok (.iconst 0, 1) := by decide +kernel
theorem dX12_baits_66 : decode cX12_baits 66 = .ok (.istore 6, 2) := by decide +kernel
theorem dX12_baits_68 : decode cX12_baits 68 = .ok (.iload 6, 2) := by decide +kernel
theorem dX12_baits_70 : decode cX12_baits 70 = .ok (.aload_n 0, 1) := by decide +kernel
theorem dX12_baits_71 : decode cX12_baits 71 = .ok (.getfield 37, 3) := by decide +kernel
theorem dX12_baits_74 : decode cX12_baits 74 = .ok (.iconst 0, 1) := by decide +kernel
theorem dX12_baits_75 : decode cX12_baits 75 = .ok (.iaload, 1) := by decide +kernel
theorem dX12_baits_76 : decode cX12_baits 76 = .ok (.if_icmp .ge 253, 3) := by decide +kernel
theorem dX12_baits_79 : decode cX12_baits 79 = .ok (.iconst 0, 1) := by decide +kernel
theorem dX12_baits_80 : decode cX12_baits 80 = .ok (.istore 7, 2) := by decide +kernel
theorem dX12_baits_82 : decode cX12_baits 82 = .ok (.iload 7, 2) := by decide +kernel
theorem dX12_baits_84 : decode cX12_baits 84 = .ok (.iload 4, 2) := by decide +kernel
theorem dX12_baits_86 : decode cX12_baits 86 = .ok (.if_icmp .ge 53, 3) := by decide +kernel
theorem dX12_baits_89 : decode cX12_baits 89 = .ok (.iconst 0, 1) := by decide +kernel
theorem dX12_baits_90 : decode cX12_baits 90 = .ok (.istore 8, 2) := by decide +kernel
theorem dX12_baits_92 : decode cX12_baits 92 = .ok (.iload 8, 2) := by decide +kernel
theorem dX12_baits_94 : decode cX12_baits 94 = .ok (.iload 5, 2) := by decide +kernel
theorem dX12_baits_96 : decode cX12_baits 96 = .ok (.if_icmp .ge 37, 3) := by decide +kernel
theorem dX12_baits_99 : decode cX12_baits 99 = .ok (.aload_n 0, 1) := by decide +kernel
theorem dX12_baits_100 : decode cX12_baits 100 = .ok (.getfield 102, 3) := by decide +kernel
theorem dX12_baits_103 : decode cX12_baits 103 = .ok (.iload 7, 2) := by decide +kernel
theorem dX12_baits_105 : decode cX12_baits 105 = .ok (.iload 8, 2) := by decide +kernel
theorem dX12_baits_107 : decode cX12_baits 107 = .ok (.invokestatic 481, 3) := by decide +kernel
theorem dX12_baits_110 : decode cX12_baits 110 = .ok (.iload 7, 2) := by decide +kernel
theorem dX12_baits_112 : decode cX12_baits 112 = .ok (.ifCond .ne 13, 3) := by decide +kernel
theorem dX12_baits_115 : decode cX12_baits 115 = .ok (.aload_n 0, 1) := by decide +kernel
theorem dX12_baits_116 : decode cX12_baits 116 = .ok (.getfield 108, 3) := by decide +kernel
theorem dX12_baits_119 : decode cX12_baits 119 = .ok (.iload 8, 2) := by decide +kernel
theorem dX12_baits_121 : decode cX12_baits 121 = .ok (.laload, 1) := by decide +kernel
theorem dX12_baits_122 : decode cX12_baits 122 = .ok (.goto 4, 3) := by decide +kernel
theorem dX12_baits_125 : decode cX12_baits 125 = .ok (.lconst 0, 1) := by decide +kernel
theorem dX12_baits_126 : decode cX12_baits 126 = .ok (.lastore, 1) := by decide +kernel
theorem dX12_baits_127 : decode cX12_baits 127 = .ok (.iinc 8 1, 3) := by decide +kernel
theorem dX12_baits_130 : decode cX12_baits 130 = .ok (.goto (-38), 3) := by decide +kernel
theorem dX12_baits_133 : decode cX12_baits 133 = .ok (.iinc 7 1, 3) := by decide +kernel
theorem dX12_baits_136 : decode cX12_baits 136 = .ok (.goto (-54), 3) := by decide +kernel
theorem dX12_baits_139 : decode cX12_baits 139 = .ok (.iconst 0, 1) := by decide +kernel
theorem dX12_baits_140 : decode cX12_baits 140 = .ok (.istore 7, 2) := by decide +kernel
theorem dX12_baits_142 : decode cX12_baits 142 = .ok (.iload 7, 2) := by decide +kernel
theorem dX12_baits_144 : decode cX12_baits 144 = .ok (.aload_n 0, 1) := by decide +kernel
theorem dX12_baits_145 : decode cX12_baits 145 = .ok (.getfield 58, 3) := by decide +kernel
theorem dX12_baits_148 : decode cX12_baits 148 = .ok (.iconst 0, 1) := by decide +kernel
theorem dX12_baits_149 : decode cX12_baits 149 = .ok (.iaload, 1) := by decide +kernel
theorem dX12_baits_150 : decode cX12_baits 150 = .ok (.if_icmp .ge 16, 3) := by decide +kernel
theorem dX12_baits_153 : decode cX12_baits 153 = .ok (.aload_n 0, 1) := by decide +kernel
theorem dX12_baits_154 : decode cX12_baits 154 = .ok (.iload 7, 2) := by decide +kernel
theorem dX12_baits_156 : decode cX12_baits 156 = .ok (.iload_n 3, 1) := by decide +kernel
theorem dX12_baits_157 : decode cX12_baits 157 = .ok (.invokevirtual 487, 3) := by decide +kernel
theorem dX12_baits_160 : decode cX12_baits 160 = .ok (.iinc 7 1, 3) := by decide +kernel
theorem dX12_baits_163 : decode cX12_baits 163 = .ok (.goto (-21), 3) := by decide +kernel
theorem dX12_baits_166 : decode cX12_baits 166 = .ok (.iconst 0, 1) := by decide +kernel
theorem dX12_baits_167 : decode cX12_baits 167 = .ok (.istore 7, 2) := by decide +kernel
theorem dX12_baits_169 : decode cX12_baits 169 = .ok (.iload 7, 2) := by decide +kernel
theorem dX12_baits_171 : decode cX12_baits 171 = .ok (.iload 5, 2) := by decide +kernel
theorem dX12_baits_173 : decode cX12_baits 173 = .ok (.if_icmp .ge 17, 3) := by decide +kernel
theorem dX12_baits_176 : decode cX12_baits 176 = .ok (.aload_n 0, 1) := by decide +kernel
theorem dX12_baits_177 : decode cX12_baits 177 = .ok (.getfield 108, 3) := by decide +kernel
theorem dX12_baits_180 : decode cX12_baits 180 = .ok (.iload 7, 2) := by decide +kernel
theorem dX12_baits_182 : decode cX12_baits 182 = .ok (.lconst 0, 1) := by decide +kernel
theorem dX12_baits_183 : decode cX12_baits 183 = .ok (.lastore, 1) := by decide +kernel
theorem dX12_baits_184 : decode cX12_baits 184 = .ok (.iinc 7 1, 3) := by decide +kernel
theorem dX12_baits_187 : decode cX12_baits 187 = .ok (.goto (-18), 3) := by decide +kernel
theorem dX12_baits_190 : decode cX12_baits 190 = .ok (.iconst 0, 1) := by decide +kernel
theorem dX12_baits_191 : decode cX12_baits 191 = .ok (.istore 7, 2) := by decide +kernel
theorem dX12_baits_193 : decode cX12_baits 193 = .ok (.iload 7, 2) := by decide +kernel
theorem dX12_baits_195 : decode cX12_baits 195 = .ok (.iload 4, 2) := by decide +kernel
theorem dX12_baits_197 : decode cX12_baits 197 = .ok (.if_icmp .ge 126, 3) := by decide +kernel
theorem dX12_baits_200 : decode cX12_baits 200 = .ok (.iconst 0, 1) := by decide +kernel
theorem dX12_baits_201 : decode cX12_baits 201 = .ok (.istore 8, 2) := by decide +kernel
theorem dX12_baits_203 : decode cX12_baits 203 = .ok (.iconst 0, 1) := by decide +kernel
theorem dX12_baits_204 : decode cX12_baits 204 = .ok (.istore 9, 2) := by decide +kernel
theorem dX12_baits_206 : decode cX12_baits 206 = .ok (.iload 9, 2) := by decide +kernel
theorem dX12_baits_208 : decode cX12_baits 208 = .ok (.aload_n 0, 1) := by decide +kernel
theorem dX12_baits_209 : decode cX12_baits 209 = .ok (.getfield 52, 3) := by decide +kernel
theorem dX12_baits_212 : decode cX12_baits 212 = .ok (.iconst 0, 1) := by decide +kernel
theorem dX12_baits_213 : decode cX12_baits 213 = .ok (.iaload, 1) := by decide +kernel
theorem dX12_baits_214 : decode cX12_baits 214 = .ok (.if_icmp .ge 40, 3) := by decide +kernel
theorem dX12_baits_217 : decode cX12_baits 217 = .ok (.iload 8, 2) := by decide +kernel
theorem dX12_baits_219 : decode cX12_baits 219 = .ok (.iload 7, 2) := by decide +kernel
theorem dX12_baits_221 : decode cX12_baits 221 = .ok (.iload 9, 2) := by decide +kernel
theorem dX12_baits_223 : decode cX12_baits 223 = .ok (.ishr, 1) := by decide +kernel
theorem dX12_baits_224 : decode cX12_baits 224 = .ok (.iconst 1, 1) := by decide +kernel
theorem dX12_baits_225 : decode cX12_baits 225 = .ok (.iand, 1) := by decide +kernel
theorem dX12_baits_226 : decode cX12_baits 226 = .ok (.iconst 1, 1) := by decide +kernel
theorem dX12_baits_227 : decode cX12_baits 227 = .ok (.if_icmp .ne 17, 3) := by decide +kernel
theorem dX12_baits_230 : decode cX12_baits 230 = .ok (.aload_n 0, 1) := by decide +kernel
theorem dX12_baits_231 : decode cX12_baits 231 = .ok (.getfield 55, 3) := by decide +kernel
theorem dX12_baits_234 : decode cX12_baits 234 = .ok (.iconst 0, 1) := by decide +kernel
theorem dX12_baits_235 : decode cX12_baits 235 = .ok (.iload 9, 2) := by decide +kernel
theorem dX12_baits_237 : decode cX12_baits 237 = .ok (.invokestatic 323, 3) := by decide +kernel
theorem dX12_baits_240 : decode cX12_baits 240 = .ok (.iaload, 1) := by decide +kernel
theorem dX12_baits_241 : decode cX12_baits 241 = .ok (.goto 4, 3) := by decide +kernel
theorem dX12_baits_244 : decode cX12_baits 244 = .ok (.iconst 0, 1) := by decide +kernel
theorem dX12_baits_245 : decode cX12_baits 245 = .ok (.iadd, 1) := by decide +kernel
theorem dX12_baits_246 : decode cX12_baits 246 = .ok (.istore 8, 2) := by decide +kernel
theorem dX12_baits_248 : decode cX12_baits 248 = .ok (.iinc 9 1, 3) := by decide +kernel
theorem dX12_baits_251 : decode cX12_baits 251 = .ok (.goto (-45), 3) := by decide +kernel
theorem dX12_baits_254 : decode cX12_baits 254 = .ok (.iconst 0, 1) := by decide +kernel
theorem dX12_baits_255 : decode cX12_baits 255 = .ok (.istore 9, 2) := by decide +kernel
theorem dX12_baits_257 : decode cX12_baits 257 = .ok (.iload 9, 2) := by decide +kernel
theorem dX12_baits_259 : decode cX12_baits 259 = .ok (.iload 5, 2) := by decide +kernel
theorem dX12_baits_261 : decode cX12_baits 261 = .ok (.if_icmp .ge 56, 3) := by decide +kernel
theorem dX12_baits_264 : decode cX12_baits 264 = .ok (.aload_n 0, 1) := by decide +kernel
theorem dX12_baits_265 : decode cX12_baits 265 = .ok (.getfield 108, 3) := by decide +kernel
theorem dX12_baits_268 : decode cX12_baits 268 = .ok (.iload 9, 2) := by decide +kernel
theorem dX12_baits_270 : decode cX12_baits 270 = .ok (.dup2, 1) := by decide +kernel
theorem dX12_baits_271 : decode cX12_baits 271 = .ok (.laload, 1) := by decide +kernel
theorem dX12_baits_272 : decode cX12_baits 272 = .ok (.aload_n 0, 1) := by decide +kernel
theorem dX12_baits_273 : decode cX12_baits 273 = .ok (.getfield 102, 3) := by decide +kernel
theorem dX12_baits_276 : decode cX12_baits 276 = .ok (.iload 7, 2) := by decide +kernel
theorem dX12_baits_278 : decode cX12_baits 278 = .ok (.iload 9, 2) := by decide +kernel
theorem dX12_baits_280 : decode cX12_baits 280 = .ok (.invokestatic 481, 3) := by decide +kernel
theorem dX12_baits_283 : decode cX12_baits 283 = .ok (.laload, 1) := by decide +kernel
theorem dX12_baits_284 : decode cX12_baits 284 = .ok (.ladd, 1) := by decide +kernel
theorem dX12_baits_285 : decode cX12_baits 285 = .ok (.lastore, 1) := by decide +kernel
theorem dX12_baits_286 : decode cX12_baits 286 = .ok (.aload_n 0, 1) := by decide +kernel
theorem dX12_baits_287 : decode cX12_baits 287 = .ok (.dup, 1) := by decide +kernel
theorem dX12_baits_288 : decode cX12_baits 288 = .ok (.getfield 484, 3) := by decide +kernel
theorem dX12_baits_291 : decode cX12_baits 291 = .ok (.aload_n 0, 1) := by decide +kernel
theorem dX12_baits_292 : decode cX12_baits 292 = .ok (.getfield 102, 3) := by decide +kernel
theorem dX12_baits_295 : decode cX12_baits 295 = .ok (.iload 7, 2) := by decide +kernel
theorem dX12_baits_297 : decode cX12_baits 297 = .ok (.iload 9, 2) := by decide +kernel
theorem dX12_baits_299 : decode cX12_baits 299 = .ok (.invokestatic 481, 3) := by decide +kernel
theorem dX12_baits_302 : decode cX12_baits 302 = .ok (.laload, 1) := by decide +kernel
theorem dX12_baits_303 : decode cX12_baits 303 = .ok (.iload 8, 2) := by decide +kernel
theorem dX12_baits_305 : decode cX12_baits 305 = .ok (.i2l, 1) := by decide +kernel
theorem dX12_baits_306 : decode cX12_baits 306 = .ok (.lmul, 1) := by decide +kernel
theorem dX12_baits_307 : decode cX12_baits 307 = .ok (.ladd, 1) := by decide +kernel
theorem dX12_baits_308 : decode cX12_baits 308 = .ok (.putfield 484, 3) := by decide +kernel
theorem dX12_baits_311 : decode cX12_baits 311 = .ok (.iinc 9 1, 3) := by decide +kernel
theorem dX12_baits_314 : decode cX12_baits 314 = .ok (.goto (-57), 3) := by decide +kernel
theorem dX12_baits_317 : decode cX12_baits 317 = .ok (.iinc 7 1, 3) := by decide +kernel
theorem dX12_baits_320 : decode cX12_baits 320 = .ok (.goto (-127), 3) := by decide +kernel
theorem dX12_baits_323 : decode cX12_baits 323 = .ok (.iinc 6 1, 3) := by decide +kernel
theorem dX12_baits_326 : decode cX12_baits 326 = .ok (.goto (-258), 3) := by decide +kernel
theorem dX12_baits_329 : decode cX12_baits 329 = .ok (.return_, 1) := by decide +kernel
theorem dX12_whyNot_0 : decode cX12_whyNot 0 = .ok (.aload_n 0, 1) := by decide +kernel
theorem dX12_whyNot_1 : decode cX12_whyNot 1 = .ok (.iload_n 1, 1) := by decide +kernel
theorem dX12_whyNot_2 : decode cX12_whyNot 2 = .ok (.invokevirtual 312, 3) := by decide +kernel
theorem dX12_whyNot_5 : decode cX12_whyNot 5 = .ok (.ifCond .eq 27, 3) := by decide +kernel
theorem dX12_whyNot_8 : decode cX12_whyNot 8 = .ok (.iload_n 2, 1) := by decide +kernel
theorem dX12_whyNot_9 : decode cX12_whyNot 9 = .ok (.i2l, 1) := by decide +kernel
theorem dX12_whyNot_10 : decode cX12_whyNot 10 = .ok (.lconst 0, 1) := by decide +kernel
theorem dX12_whyNot_11 : decode cX12_whyNot 11 = .ok (.ldc2_w 490, 3) := by decide +kernel
theorem dX12_whyNot_14 : decode cX12_whyNot 14 = .ok (.invokestatic 119, 3) := by decide +kernel
theorem dX12_whyNot_17 : decode cX12_whyNot 17 = .ok (.ifCond .eq 15, 3) := by decide +kernel
theorem dX12_whyNot_20 : decode cX12_whyNot 20 = .ok (.iload_n 3, 1) := by decide +kernel
theorem dX12_whyNot_21 : decode cX12_whyNot 21 = .ok (.i2l, 1) := by decide +kernel
theorem dX12_whyNot_22 : decode cX12_whyNot 22 = .ok (.lconst 0, 1) := by decide +kernel
theorem dX12_whyNot_23 : decode cX12_whyNot 23 = .ok (.ldc2_w 325, 3) := by decide +kernel
theorem dX12_whyNot_26 : decode cX12_whyNot 26 = .ok (.invokestatic 119, 3) := by decide +kernel
theorem dX12_whyNot_29 : decode cX12_whyNot 29 = .ok (.ifCond .ne 6, 3) := by decide +kernel
theorem dX12_whyNot_32 : decode cX12_whyNot 32 = .ok (.bipush (-2), 2) := by decide +kernel
theorem dX12_whyNot_34 : decode cX12_whyNot 34 = .ok (.ireturn, 1) := by decide +kernel
theorem dX12_whyNot_35 : decode cX12_whyNot 35 = .ok (.aload_n 0, 1) := by decide +kernel
theorem dX12_whyNot_36 : decode cX12_whyNot 36 = .ok (.iload_n 1, 1) := by decide +kernel
theorem dX12_whyNot_37 : decode cX12_whyNot 37 = .ok (.invokevirtual 461, 3) := by decide +kernel
theorem dX12_whyNot_40 : decode cX12_whyNot 40 = .ok (.iconst (-1), 1) := by decide +kernel
theorem dX12_whyNot_41 : decode cX12_whyNot 41 = .ok (.if_icmp .eq 8, 3) := by decide +kernel
theorem dX12_whyNot_44 : decode cX12_whyNot 44 = .ok (.bipush (-5), 2) := by decide +kernel
theorem dX12_whyNot_46 : decode cX12_whyNot 46 = .ok (.goto 4, 3) := by decide +kernel
theorem dX12_whyNot_49 : decode cX12_whyNot 49 = .ok (.iconst 0, 1) := by decide +kernel
theorem dX12_whyNot_50 : decode cX12_whyNot 50 = .ok (.ireturn, 1) := by decide +kernel
theorem dX12_bait_0 : decode cX12_bait 0 = .ok (.aload_n 0, 1) := by decide +kernel
theorem dX12_bait_1 : decode cX12_bait 1 = .ok (.iconst 0, 1) := by decide +kernel
theorem dX12_bait_2 : decode cX12_bait 2 = .ok (.putfield 114, 3) := by decide +kernel
theorem dX12_bait_5 : decode cX12_bait 5 = .ok (.aload_n 0, 1) := by decide +kernel
theorem dX12_bait_6 : decode cX12_bait 6 = .ok (.iload_n 1, 1) := by decide +kernel
theorem dX12_bait_7 : decode cX12_bait 7 = .ok (.iload_n 2, 1) := by decide +kernel
theorem dX12_bait_8 : decode cX12_bait 8 = .ok (.iload_n 3, 1) := by decide +kernel
theorem dX12_bait_9 : decode cX12_bait 9 = .ok (.invokevirtual 492, 3) := by decide +kernel
theorem dX12_bait_12 : decode cX12_bait 12 = .ok (.istore 4, 2) := by decide +kernel
theorem dX12_bait_14 : decode cX12_bait 14 = .ok (.iload 4, 2) := by decide +kernel
theorem dX12_bait_16 : decode cX12_bait 16 = .ok (.ifCond .eq 7, 3) := by decide +kernel
theorem dX12_bait_19 : decode cX12_bait 19 = .ok (.iload 4, 2) := by decide +kernel
theorem dX12_bait_21 : decode cX12_bait 21 = .ok (.i2l, 1) := by decide +kernel
theorem dX12_bait_22 : decode cX12_bait 22 = .ok (.lreturn, 1) := by decide +kernel
theorem dX12_bait_23 : decode cX12_bait 23 = .ok (.aload_n 0, 1) := by decide +kernel
theorem dX12_bait_24 : decode cX12_bait 24 = .ok (.iload_n 1, 1) := by decide +kernel
theorem dX12_bait_25 : decode cX12_bait 25 = .ok (.iload_n 2, 1) := by decide +kernel
theorem dX12_bait_26 : decode cX12_bait 26 = .ok (.iload_n 3, 1) := by decide +kernel
theorem dX12_bait_27 : decode cX12_bait 27 = .ok (.invokevirtual 495, 3) := by decide +kernel
theorem dX12_bait_30 : decode cX12_bait 30 = .ok (.aload_n 0, 1) := by decide +kernel
theorem dX12_bait_31 : decode cX12_bait 31 = .ok (.getfield 484, 3) := by decide +kernel
theorem dX12_bait_34 : decode cX12_bait 34 = .ok (.ldc2_w 377, 3) := by decide +kernel
theorem dX12_bait_37 : decode cX12_bait 37 = .ok (.ldiv, 1) := by decide +kernel
theorem dX12_bait_38 : decode cX12_bait 38 = .ok (.lreturn, 1) := by decide +kernel
theorem dX12_caught_0 : decode cX12_caught 0 = .ok (.aload_n 0, 1) := by decide +kernel
theorem dX12_caught_1 : decode cX12_caught 1 = .ok (.iconst 0, 1) := by decide +kernel
theorem dX12_caught_2 : decode cX12_caught 2 = .ok (.putfield 114, 3) := by decide +kernel
theorem dX12_caught_5 : decode cX12_caught 5 = .ok (.aload_n 0, 1) := by decide +kernel
theorem dX12_caught_6 : decode cX12_caught 6 = .ok (.iload_n 1, 1) := by decide +kernel
theorem dX12_caught_7 : decode cX12_caught 7 = .ok (.invokevirtual 330, 3) := by decide +kernel
theorem dX12_caught_10 : decode cX12_caught 10 = .ok (.ifCond .ne 7, 3) := by decide +kernel
theorem dX12_caught_13 : decode cX12_caught 13 = .ok (.ldc2_w 360, 3) := by decide +kernel
theorem dX12_caught_16 : decode cX12_caught 16 = .ok (.lreturn, 1) := by decide +kernel
theorem dX12_caught_17 : decode cX12_caught 17 = .ok (.aload_n 0, 1) := by decide +kernel
theorem dX12_caught_18 : decode cX12_caught 18 = .ok (.iload_n 2, 1) := by decide +kernel
theorem dX12_caught_19 : decode cX12_caught 19 = .ok (.iload_n 3, 1) := by decide +kernel
theorem dX12_caught_20 : decode cX12_caught 20 = .ok (.iload 4, 2) := by decide +kernel
theorem dX12_caught_22 : decode cX12_caught 22 = .ok (.invokevirtual 492, 3) := by decide +kernel
theorem dX12_caught_25 : decode cX12_caught 25 = .ok (.istore 5, 2) := by decide +kernel
theorem dX12_caught_27 : decode cX12_caught 27 = .ok (.iload 5, 2) := by decide +kernel
theorem dX12_caught_29 : decode cX12_caught 29 = .ok (.ifCond .eq 7, 3) := by decide +kernel
theorem dX12_caught_32 : decode cX12_caught 32 = .ok (.iload 5, 2) := by decide +kernel
theorem dX12_caught_34 : decode cX12_caught 34 = .ok (.i2l, 1) := by decide +kernel
theorem dX12_caught_35 : decode cX12_caught 35 = .ok (.lreturn, 1) := by decide +kernel
theorem dX12_caught_36 : decode cX12_caught 36 = .ok (.aload_n 0, 1) := by decide +kernel
theorem dX12_caught_37 : decode cX12_caught 37 = .ok (.iload_n 2, 1) := by decide +kernel
theorem dX12_caught_38 : decode cX12_caught 38 = .ok (.iload_n 3, 1) := by decide +kernel
theorem dX12_caught_39 : decode cX12_caught 39 = .ok (.iload 4, 2) := by decide +kernel
theorem dX12_caught_41 : decode cX12_caught 41 = .ok (.invokevirtual 495, 3) := by decide +kernel
theorem dX12_caught_44 : decode cX12_caught 44 = .ok (.lconst 0, 1) := by decide +kernel
theorem dX12_caught_45 : decode cX12_caught 45 = .ok (.lstore 6, 2) := by decide +kernel
theorem dX12_caught_47 : decode cX12_caught 47 = .ok (.iconst 0, 1) := by decide +kernel
theorem dX12_caught_48 : decode cX12_caught 48 = .ok (.istore 8, 2) := by decide +kernel
theorem dX12_caught_50 : decode cX12_caught 50 = .ok (.iload 8, 2) := by decide +kernel
theorem dX12_caught_52 : decode cX12_caught 52 = .ok (.iconst 1, 1) := by decide +kernel
theorem dX12_caught_53 : decode cX12_caught 53 = .ok (.aload_n 0, 1) := by decide +kernel
theorem dX12_caught_54 : decode cX12_caught 54 = .ok (.getfield 58, 3) := by decide +kernel
theorem dX12_caught_57 : decode cX12_caught 57 = .ok (.iconst 0, 1) := by decide +kernel
theorem dX12_caught_58 : decode cX12_caught 58 = .ok (.iaload, 1) := by decide +kernel
theorem dX12_caught_59 : decode cX12_caught 59 = .ok (.ishl, 1) := by decide +kernel
theorem dX12_caught_60 : decode cX12_caught 60 = .ok (.if_icmp .ge 35, 3) := by decide +kernel
theorem dX12_caught_63 : decode cX12_caught 63 = .ok (.lload 6, 2) := by decide +kernel
theorem dX12_caught_65 : decode cX12_caught 65 = .ok (.iload 8, 2) := by decide +kernel
theorem dX12_caught_67 : decode cX12_caught 67 = .ok (.iload_n 1, 1) := by decide +kernel
theorem dX12_caught_68 : decode cX12_caught 68 = .ok (.ishr, 1) := by decide +kernel
theorem dX12_caught_69 : decode cX12_caught 69 = .ok (.iconst 1, 1) := by decide +kernel
theorem dX12_caught_70 : decode cX12_caught 70 = .ok (.iand, 1) := by decide +kernel
theorem dX12_caught_71 : decode cX12_caught 71 = .ok (.iconst 1, 1) := by decide +kernel
theorem dX12_caught_72 : decode cX12_caught 72 = .ok (.if_icmp .ne 13, 3) := by decide +kernel
theorem dX12_caught_75 : decode cX12_caught 75 = .ok (.aload_n 0, 1) := by decide +kernel
theorem dX12_caught_76 : decode cX12_caught 76 = .ok (.getfield 108, 3) := by decide +kernel
theorem dX12_caught_79 : decode cX12_caught 79 = .ok (.iload 8, 2) := by decide +kernel
theorem dX12_caught_81 : decode cX12_caught 81 = .ok (.laload, 1) := by decide +kernel
theorem dX12_caught_82 : decode cX12_caught 82 = .ok (.goto 4, 3) := by decide +kernel
theorem dX12_caught_85 : decode cX12_caught 85 = .ok (.lconst 0, 1) := by decide +kernel
theorem dX12_caught_86 : decode cX12_caught 86 = .ok (.ladd, 1) := by decide +kernel
theorem dX12_caught_87 : decode cX12_caught 87 = .ok (.lstore 6, 2) := by decide +kernel
theorem dX12_caught_89 : decode cX12_caught 89 = .ok (.iinc 8 1, 3) := by decide +kernel
theorem dX12_caught_92 : decode cX12_caught 92 = .ok (.goto (-42), 3) := by decide +kernel
theorem dX12_caught_95 : decode cX12_caught 95 = .ok (.lload 6, 2) := by decide +kernel
theorem dX12_caught_97 : decode cX12_caught 97 = .ok (.lreturn, 1) := by decide +kernel
theorem dX12_lures_0 : decode cX12_lures 0 = .ok (.aload_n 0, 1) := by decide +kernel
theorem dX12_lures_1 : decode cX12_lures 1 = .ok (.iconst 0, 1) := by decide +kernel
theorem dX12_lures_2 : decode cX12_lures 2 = .ok (.putfield 114, 3) := by decide +kernel
theorem dX12_lures_5 : decode cX12_lures 5 = .ok (.aload_n 0, 1) := by decide +kernel
theorem dX12_lures_6 : decode cX12_lures 6 = .ok (.iload_n 1, 1) := by decide +kernel
theorem dX12_lures_7 : decode cX12_lures 7 = .ok (.iconst 0, 1) := by decide +kernel
theorem dX12_lures_8 : decode cX12_lures 8 = .ok (.iconst 0, 1) := by decide +kernel
theorem dX12_lures_9 : decode cX12_lures 9 = .ok (.invokevirtual 492, 3) := by decide +kernel
theorem dX12_lures_12 : decode cX12_lures 12 = .ok (.istore_n 2, 1) := by decide +kernel
theorem dX12_lures_13 : decode cX12_lures 13 = .ok (.iload_n 2, 1) := by decide +kernel
theorem dX12_lures_14 : decode cX12_lures 14 = .ok (.ifCond .eq 5, 3) := by decide +kernel
theorem dX12_lures_17 : decode cX12_lures 17 = .ok (.iload_n 2, 1) := by decide +kernel
theorem dX12_lures_18 : decode cX12_lures 18 = .ok (.ireturn, 1) := by decide +kernel
theorem dX12_lures_19 : decode cX12_lures 19 = .ok (.aload_n 0, 1) := by decide +kernel
theorem dX12_lures_20 : decode cX12_lures 20 = .ok (.iconst 0, 1) := by decide +kernel
theorem dX12_lures_21 : decode cX12_lures 21 = .ok (.invokevirtual 343, 3) := by decide +kernel
theorem dX12_lures_24 : decode cX12_lures 24 = .ok (.iconst 0, 1) := by decide +kernel
theorem dX12_lures_25 : decode cX12_lures 25 = .ok (.istore_n 3, 1) := by decide +kernel
theorem dX12_lures_26 : decode cX12_lures 26 = .ok (.iload_n 3, 1) := by decide +kernel
theorem dX12_lures_27 : decode cX12_lures 27 = .ok (.sipush 9999, 3) := by decide +kernel
theorem dX12_lures_30 : decode cX12_lures 30 = .ok (.if_icmp .gt 65, 3) := by decide +kernel
theorem dX12_lures_33 : decode cX12_lures 33 = .ok (.iconst 0, 1) := by decide +kernel
theorem dX12_lures_34 : decode cX12_lures 34 = .ok (.istore 4, 2) := by decide +kernel
theorem dX12_lures_36 : decode cX12_lures 36 = .ok (.iload 4, 2) := by decide +kernel
theorem dX12_lures_38 : decode cX12_lures 38 = .ok (.aload_n 0, 1) := by decide +kernel
theorem dX12_lures_39 : decode cX12_lures 39 = .ok (.getfield 58, 3) := by decide +kernel
theorem dX12_lures_42 : decode cX12_lures 42 = .ok (.iconst 0, 1) := by decide +kernel
theorem dX12_lures_43 : decode cX12_lures 43 = .ok (.iaload, 1) := by decide +kernel
theorem dX12_lures_44 : decode cX12_lures 44 = .ok (.if_icmp .ge 45, 3) := by decide +kernel
theorem dX12_lures_47 : decode cX12_lures 47 = .ok (.aload_n 0, 1) := by decide +kernel
theorem dX12_lures_48 : decode cX12_lures 48 = .ok (.getfield 80, 3) := by decide +kernel
theorem dX12_lures_51 : decode cX12_lures 51 = .ok (.bipush 11, 2) := by decide +kernel
theorem dX12_lures_53 : decode cX12_lures 53 = .ok (.iload 4, 2) := by decide +kernel
theorem dX12_lures_55 : decode cX12_lures 55 = .ok (.imul, 1) := by decide +kernel
theorem dX12_lures_56 : decode cX12_lures 56 = .ok (.aload_n 0, 1) := by decide +kernel
theorem dX12_lures_57 : decode cX12_lures 57 = .ok (.getfield 52, 3) := by decide +kernel
theorem dX12_lures_60 : decode cX12_lures 60 = .ok (.iconst 0, 1) := by decide +kernel
theorem dX12_lures_61 : decode cX12_lures 61 = .ok (.iaload, 1) := by decide +kernel
theorem dX12_lures_62 : decode cX12_lures 62 = .ok (.iadd, 1) := by decide +kernel
theorem dX12_lures_63 : decode cX12_lures 63 = .ok (.iload_n 3, 1) := by decide +kernel
theorem dX12_lures_64 : decode cX12_lures 64 = .ok (.iastore, 1) := by decide +kernel
theorem dX12_lures_65 : decode cX12_lures 65 = .ok (.aload_n 0, 1) := by decide +kernel
theorem dX12_lures_66 : decode cX12_lures 66 = .ok (.iload 4, 2) := by decide +kernel
theorem dX12_lures_68 : decode cX12_lures 68 = .ok (.iconst 0, 1) := by decide +kernel
theorem dX12_lures_69 : decode cX12_lures 69 = .ok (.invokevirtual 346, 3) := by decide +kernel
theorem dX12_lures_72 : decode cX12_lures 72 = .ok (.aload_n 0, 1) := by decide +kernel
theorem dX12_lures_73 : decode cX12_lures 73 = .ok (.getfield 52, 3) := by decide +kernel
theorem dX12_lures_76 : decode cX12_lures 76 = .ok (.iconst 0, 1) := by decide +kernel
theorem dX12_lures_77 : decode cX12_lures 77 = .ok (.iaload, 1) := by decide +kernel
theorem dX12_lures_78 : decode cX12_lures 78 = .ok (.if_icmp .ne 5, 3) := by decide +kernel
theorem dX12_lures_81 : decode cX12_lures 81 = .ok (.iload_n 3, 1) := by decide +kernel
theorem dX12_lures_82 : decode cX12_lures 82 = .ok (.ireturn, 1) := by decide +kernel
theorem dX12_lures_83 : decode cX12_lures 83 = .ok (.iinc 4 1, 3) := by decide +kernel
theorem dX12_lures_86 : decode cX12_lures 86 = .ok (.goto (-50), 3) := by decide +kernel
theorem dX12_lures_89 : decode cX12_lures 89 = .ok (.iinc 3 1, 3) := by decide +kernel
theorem dX12_lures_92 : decode cX12_lures 92 = .ok (.goto (-66), 3) := by decide +kernel
theorem dX12_lures_95 : decode cX12_lures 95 = .ok (.iconst (-1), 1) := by decide +kernel
theorem dX12_lures_96 : decode cX12_lures 96 = .ok (.ireturn, 1) := by decide +kernel
theorem dX12_covers_0 : decode cX12_covers 0 = .ok (.aload_n 0, 1) := by decide +kernel
theorem dX12_covers_1 : decode cX12_covers 1 = .ok (.iload_n 1, 1) := by decide +kernel
theorem dX12_covers_2 : decode cX12_covers 2 = .ok (.invokevirtual 408, 3) := by decide +kernel
theorem dX12_covers_5 : decode cX12_covers 5 = .ok (.istore 4, 2) := by decide +kernel
theorem dX12_covers_7 : decode cX12_covers 7 = .ok (.iconst (-1), 1) := by decide +kernel
theorem dX12_covers_8 : decode cX12_covers 8 = .ok (.istore 5, 2) := by decide +kernel
theorem dX12_covers_10 : decode cX12_covers 10 = .ok (.iconst 0, 1) := by decide +kernel
theorem dX12_covers_11 : decode cX12_covers 11 = .ok (.istore 6, 2) := by decide +kernel
theorem dX12_covers_13 : decode cX12_covers 13 = .ok (.iload 6, 2) := by decide +kernel
theorem dX12_covers_15 : decode cX12_covers 15 = .ok (.aload_n 0, 1) := by decide +kernel
theorem dX12_covers_16 : decode cX12_covers 16 = .ok (.invokevirtual 401, 3) := by decide +kernel
theorem dX12_covers_19 : decode cX12_covers 19 = .ok (.if_icmp .ge 79, 3) := by decide +kernel
theorem dX12_covers_22 : decode cX12_covers 22 = .ok (.aload_n 0, 1) := by decide +kernel
theorem dX12_covers_23 : decode cX12_covers 23 = .ok (.iload_n 1, 1) := by decide +kernel
theorem dX12_covers_24 : decode cX12_covers 24 = .ok (.iload 6, 2) := by decide +kernel
theorem dX12_covers_26 : decode cX12_covers 26 = .ok (.invokevirtual 411, 3) := by decide +kernel
theorem dX12_covers_29 : decode cX12_covers 29 = .ok (.aload_n 0, 1) := by decide +kernel
theorem dX12_covers_30 : decode cX12_covers 30 = .ok (.invokevirtual 362, 3) := by decide +kernel
theorem dX12_covers_33 : decode cX12_covers 33 = .ok (.ldc2_w 375, 3) := by decide +kernel
theorem dX12_covers_36 : decode cX12_covers 36 = .ok (.iload_n 2, 1) := by decide +kernel
theorem dX12_covers_37 : decode cX12_covers 37 = .ok (.i2l, 1) := by decide +kernel
theorem dX12_covers_38 : decode cX12_covers 38 = .ok (.lmul, 1) := by decide +kernel
theorem dX12_covers_39 : decode cX12_covers 39 = .ok (.aload_n 0, 1) := by decide +kernel
theorem dX12_covers_40 : decode cX12_covers 40 = .ok (.iload_n 1, 1) := by decide +kernel
theorem dX12_covers_41 : decode cX12_covers 41 = .ok (.invokevirtual 379, 3) := by decide +kernel
theorem dX12_covers_44 : decode cX12_covers 44 = .ok (.ladd, 1) := by decide +kernel
theorem dX12_covers_45 : decode cX12_covers 45 = .ok (.bipush 100, 2) := by decide +kernel
theorem dX12_covers_47 : decode cX12_covers 47 = .ok (.iload_n 3, 1) := by decide +kernel
theorem dX12_covers_48 : decode cX12_covers 48 = .ok (.isub, 1) := by decide +kernel
theorem dX12_covers_49 : decode cX12_covers 49 = .ok (.i2l, 1) := by decide +kernel
theorem dX12_covers_50 : decode cX12_covers 50 = .ok (.aload_n 0, 1) := by decide +kernel
theorem dX12_covers_51 : decode cX12_covers 51 = .ok (.iload_n 1, 1) := by decide +kernel
theorem dX12_covers_52 : decode cX12_covers 52 = .ok (.invokevirtual 382, 3) := by decide +kernel
theorem dX12_covers_55 : decode cX12_covers 55 = .ok (.lmul, 1) := by decide +kernel
theorem dX12_covers_56 : decode cX12_covers 56 = .ok (.ldc2_w 325, 3) := by decide +kernel
theorem dX12_covers_59 : decode cX12_covers 59 = .ok (.ldiv, 1) := by decide +kernel
theorem dX12_covers_60 : decode cX12_covers 60 = .ok (.ladd, 1) := by decide +kernel
theorem dX12_covers_61 : decode cX12_covers 61 = .ok (.lstore 7, 2) := by decide +kernel
theorem dX12_covers_63 : decode cX12_covers 63 = .ok (.iload 5, 2) := by decide +kernel
theorem dX12_covers_65 : decode cX12_covers 65 = .ok (.iconst (-1), 1) := by decide +kernel
theorem dX12_covers_66 : decode cX12_covers 66 = .ok (.if_icmp .eq 16, 3) := by decide +kernel
theorem dX12_covers_69 : decode cX12_covers 69 = .ok (.lload 7, 2) := by decide +kernel
theorem dX12_covers_71 : decode cX12_covers 71 = .ok (.aload_n 0, 1) := by decide +kernel
theorem dX12_covers_72 : decode cX12_covers 72 = .ok (.getfield 499, 3) := by decide +kernel
theorem dX12_covers_75 : decode cX12_covers 75 = .ok (.lcmp, 1) := by decide +kernel
theorem dX12_covers_76 : decode cX12_covers 76 = .ok (.ifCond .lt 6, 3) := by decide +kernel
theorem dX12_covers_79 : decode cX12_covers 79 = .ok (.goto 13, 3) := by decide +kernel
theorem dX12_covers_82 : decode cX12_covers 82 = .ok (.iload 6, 2) := by decide +kernel
theorem dX12_covers_84 : decode cX12_covers 84 = .ok (.istore 5, 2) := by decide +kernel
theorem dX12_covers_86 : decode cX12_covers 86 = .ok (.aload_n 0, 1) := by decide +kernel
theorem dX12_covers_87 : decode cX12_covers 87 = .ok (.lload 7, 2) := by decide +kernel
theorem dX12_covers_89 : decode cX12_covers 89 = .ok (.putfield 499, 3) := by decide +kernel
theorem dX12_covers_92 : decode cX12_covers 92 = .ok (.iinc 6 1, 3) := by decide +kernel
theorem dX12_covers_95 : decode cX12_covers 95 = .ok (.goto (-82), 3) := by decide +kernel
theorem dX12_covers_98 : decode cX12_covers 98 = .ok (.aload_n 0, 1) := by decide +kernel
theorem dX12_covers_99 : decode cX12_covers 99 = .ok (.iload_n 1, 1) := by decide +kernel
theorem dX12_covers_100 : decode cX12_covers 100 = .ok (.iload 4, 2) := by decide +kernel
theorem dX12_covers_102 : decode cX12_covers 102 = .ok (.invokevirtual 411, 3) := by decide +kernel
theorem dX12_covers_105 : decode cX12_covers 105 = .ok (.iload 5, 2) := by decide +kernel
theorem dX12_covers_107 : decode cX12_covers 107 = .ok (.ireturn, 1) := by decide +kernel
theorem dX12_isCover_0 : decode cX12_isCover 0 = .ok (.aload_n 0, 1) := by decide +kernel
theorem dX12_isCover_1 : decode cX12_isCover 1 = .ok (.iload_n 1, 1) := by decide +kernel
theorem dX12_isCover_2 : decode cX12_isCover 2 = .ok (.invokevirtual 318, 3) := by decide +kernel
theorem dX12_isCover_5 : decode cX12_isCover 5 = .ok (.ifCond .eq 31, 3) := by decide +kernel
theorem dX12_isCover_8 : decode cX12_isCover 8 = .ok (.iload_n 2, 1) := by decide +kernel
theorem dX12_isCover_9 : decode cX12_isCover 9 = .ok (.i2l, 1) := by decide +kernel
theorem dX12_isCover_10 : decode cX12_isCover 10 = .ok (.lconst 0, 1) := by decide +kernel
theorem dX12_isCover_11 : decode cX12_isCover 11 = .ok (.ldc2_w 490, 3) := by decide +kernel
theorem dX12_isCover_14 : decode cX12_isCover 14 = .ok (.invokestatic 119, 3) := by decide +kernel
theorem dX12_isCover_17 : decode cX12_isCover 17 = .ok (.ifCond .eq 19, 3) := by decide +kernel
theorem dX12_isCover_20 : decode cX12_isCover 20 = .ok (.iload_n 3, 1) := by decide +kernel
theorem dX12_isCover_21 : decode cX12_isCover 21 = .ok (.i2l, 1) := by decide +kernel
theorem dX12_isCover_22 : decode cX12_isCover 22 = .ok (.lconst 0, 1) := by decide +kernel
theorem dX12_isCover_23 : decode cX12_isCover 23 = .ok (.ldc2_w 325, 3) := by decide +kernel
theorem dX12_isCover_26 : decode cX12_isCover 26 = .ok (.invokestatic 119, 3) := by decide +kernel
theorem dX12_isCover_29 : decode cX12_isCover 29 = .ok (.ifCond .eq 7, 3) := by decide +kernel
theorem dX12_isCover_32 : decode cX12_isCover 32 = .ok (.iconst 1, 1) := by decide +kernel
theorem dX12_isCover_33 : decode cX12_isCover 33 = .ok (.goto 4, 3) := by decide +kernel
theorem dX12_isCover_36 : decode cX12_isCover 36 = .ok (.iconst 0, 1) := by decide +kernel
theorem dX12_isCover_37 : decode cX12_isCover 37 = .ok (.ireturn, 1) := by decide +kernel
theorem dX12_cover_0 : decode cX12_cover 0 = .ok (.aload_n 0, 1) := by decide +kernel
theorem dX12_cover_1 : decode cX12_cover 1 = .ok (.iconst 0, 1) := by decide +kernel
theorem dX12_cover_2 : decode cX12_cover 2 = .ok (.putfield 114, 3) := by decide +kernel
theorem dX12_cover_5 : decode cX12_cover 5 = .ok (.aload_n 0, 1) := by decide +kernel
theorem dX12_cover_6 : decode cX12_cover 6 = .ok (.iload_n 1, 1) := by decide +kernel
theorem dX12_cover_7 : decode cX12_cover 7 = .ok (.iload_n 2, 1) := by decide +kernel
theorem dX12_cover_8 : decode cX12_cover 8 = .ok (.iload_n 3, 1) := by decide +kernel
theorem dX12_cover_9 : decode cX12_cover 9 = .ok (.invokevirtual 502, 3) := by decide +kernel
theorem dX12_cover_12 : decode cX12_cover 12 = .ok (.ifCond .ne 7, 3) := by decide +kernel
theorem dX12_cover_15 : decode cX12_cover 15 = .ok (.ldc2_w 360, 3) := by decide +kernel
theorem dX12_cover_18 : decode cX12_cover 18 = .ok (.lreturn, 1) := by decide +kernel
theorem dX12_cover_19 : decode cX12_cover 19 = .ok (.aload_n 0, 1) := by decide +kernel
theorem dX12_cover_20 : decode cX12_cover 20 = .ok (.iload_n 1, 1) := by decide +kernel
theorem dX12_cover_21 : decode cX12_cover 21 = .ok (.iload_n 2, 1) := by decide +kernel
theorem dX12_cover_22 : decode cX12_cover 22 = .ok (.iload_n 3, 1) := by decide +kernel
theorem dX12_cover_23 : decode cX12_cover 23 = .ok (.invokevirtual 505, 3) := by decide +kernel
theorem dX12_cover_26 : decode cX12_cover 26 = .ok (.pop, 1) := by decide +kernel
theorem dX12_cover_27 : decode cX12_cover 27 = .ok (.aload_n 0, 1) := by decide +kernel
theorem dX12_cover_28 : decode cX12_cover 28 = .ok (.getfield 499, 3) := by decide +kernel
theorem dX12_cover_31 : decode cX12_cover 31 = .ok (.lreturn, 1) := by decide +kernel
theorem dX12_careless_0 : decode cX12_careless 0 = .ok (.aload_n 0, 1) := by decide +kernel
theorem dX12_careless_1 : decode cX12_careless 1 = .ok (.iconst 0, 1) := by decide +kernel
theorem dX12_careless_2 : decode cX12_careless 2 = .ok (.putfield 114, 3) := by decide +kernel
theorem dX12_careless_5 : decode cX12_careless 5 = .ok (.aload_n 0, 1) := by decide +kernel
theorem dX12_careless_6 : decode cX12_careless 6 = .ok (.iload_n 1, 1) := by decide +kernel
theorem dX12_careless_7 : decode cX12_careless 7 = .ok (.iload_n 2, 1) := by decide +kernel
theorem dX12_careless_8 : decode cX12_careless 8 = .ok (.iload_n 3, 1) := by decide +kernel
theorem dX12_careless_9 : decode cX12_careless 9 = .ok (.invokevirtual 502, 3) := by decide +kernel
theorem dX12_careless_12 : decode cX12_careless 12 = .ok (.ifCond .eq 13, 3) := by decide +kernel
theorem dX12_careless_15 : decode cX12_careless 15 = .ok (.aload_n 0, 1) := by decide +kernel
theorem dX12_careless_16 : decode cX12_careless 16 = .ok (.iload_n 1, 1) := by decide +kernel
theorem dX12_careless_17 : decode cX12_careless 17 = .ok (.iload_n 2, 1) := by decide +kernel
theorem dX12_careless_18 : decode cX12_careless 18 = .ok (.iload_n 3, 1) := by decide +kernel
theorem dX12_careless_19 : decode cX12_careless 19 = .ok (.invokevirtual 505, 3) := by decide +kernel
theorem dX12_careless_22 : decode cX12_careless 22 = .ok (.goto 5, 3) := by decide +kernel
theorem dX12_careless_25 : decode cX12_careless 25 = .ok (.bipush (-2), 2) := by decide +kernel
theorem dX12_careless_27 : decode cX12_careless 27 = .ok (.ireturn, 1) := by decide +kernel
theorem dX12_byLaw_0 : decode cX12_byLaw 0 = .ok (.aload_n 0, 1) := by decide +kernel
theorem dX12_byLaw_1 : decode cX12_byLaw 1 = .ok (.invokevirtual 438, 3) := by decide +kernel
theorem dX12_byLaw_4 : decode cX12_byLaw 4 = .ok (.iconst 0, 1) := by decide +kernel
theorem dX12_byLaw_5 : decode cX12_byLaw 5 = .ok (.istore_n 2, 1) := by decide +kernel
theorem dX12_byLaw_6 : decode cX12_byLaw 6 = .ok (.iload_n 2, 1) := by decide +kernel
theorem dX12_byLaw_7 : decode cX12_byLaw 7 = .ok (.aload_n 0, 1) := by decide +kernel
theorem dX12_byLaw_8 : decode cX12_byLaw 8 = .ok (.getfield 52, 3) := by decide +kernel
theorem dX12_byLaw_11 : decode cX12_byLaw 11 = .ok (.iconst 0, 1) := by decide +kernel
theorem dX12_byLaw_12 : decode cX12_byLaw 12 = .ok (.iaload, 1) := by decide +kernel
theorem dX12_byLaw_13 : decode cX12_byLaw 13 = .ok (.if_icmp .ge 38, 3) := by decide +kernel
theorem dX12_byLaw_16 : decode cX12_byLaw 16 = .ok (.aload_n 0, 1) := by decide +kernel
theorem dX12_byLaw_17 : decode cX12_byLaw 17 = .ok (.getfield 55, 3) := by decide +kernel
theorem dX12_byLaw_20 : decode cX12_byLaw 20 = .ok (.iconst 0, 1) := by decide +kernel
theorem dX12_byLaw_21 : decode cX12_byLaw 21 = .ok (.iload_n 2, 1) := by decide +kernel
theorem dX12_byLaw_22 : decode cX12_byLaw 22 = .ok (.invokestatic 323, 3) := by decide +kernel
theorem dX12_byLaw_25 : decode cX12_byLaw 25 = .ok (.iconst 3, 1) := by decide +kernel
theorem dX12_byLaw_26 : decode cX12_byLaw 26 = .ok (.iadd, 1) := by decide +kernel
theorem dX12_byLaw_27 : decode cX12_byLaw 27 = .ok (.iaload, 1) := by decide +kernel
theorem dX12_byLaw_28 : decode cX12_byLaw 28 = .ok (.iload_n 1, 1) := by decide +kernel
theorem dX12_byLaw_29 : decode cX12_byLaw 29 = .ok (.if_icmp .ge 16, 3) := by decide +kernel
theorem dX12_byLaw_32 : decode cX12_byLaw 32 = .ok (.aload_n 0, 1) := by decide +kernel
theorem dX12_byLaw_33 : decode cX12_byLaw 33 = .ok (.getfield 55, 3) := by decide +kernel
theorem dX12_byLaw_36 : decode cX12_byLaw 36 = .ok (.iconst 0, 1) := by decide +kernel
theorem dX12_byLaw_37 : decode cX12_byLaw 37 = .ok (.iload_n 2, 1) := by decide +kernel
theorem dX12_byLaw_38 : decode cX12_byLaw 38 = .ok (.invokestatic 323, 3) := by decide +kernel
theorem dX12_byLaw_41 : decode cX12_byLaw 41 = .ok (.iconst 3, 1) := by decide +kernel
theorem dX12_byLaw_42 : decode cX12_byLaw 42 = .ok (.iadd, 1) := by decide +kernel
theorem dX12_byLaw_43 : decode cX12_byLaw 43 = .ok (.iload_n 1, 1) := by decide +kernel
theorem dX12_byLaw_44 : decode cX12_byLaw 44 = .ok (.iastore, 1) := by decide +kernel
theorem dX12_byLaw_45 : decode cX12_byLaw 45 = .ok (.iinc 2 1, 3) := by decide +kernel
theorem dX12_byLaw_48 : decode cX12_byLaw 48 = .ok (.goto (-42), 3) := by decide +kernel
theorem dX12_byLaw_51 : decode cX12_byLaw 51 = .ok (.aload_n 0, 1) := by decide +kernel
theorem dX12_byLaw_52 : decode cX12_byLaw 52 = .ok (.iconst 2, 1) := by decide +kernel
theorem dX12_byLaw_53 : decode cX12_byLaw 53 = .ok (.invokevirtual 398, 3) := by decide +kernel
theorem dX12_byLaw_56 : decode cX12_byLaw 56 = .ok (.lstore_n 2, 1) := by decide +kernel
theorem dX12_byLaw_57 : decode cX12_byLaw 57 = .ok (.aload_n 0, 1) := by decide +kernel
theorem dX12_byLaw_58 : decode cX12_byLaw 58 = .ok (.invokevirtual 441, 3) := by decide +kernel
theorem dX12_byLaw_61 : decode cX12_byLaw 61 = .ok (.lload_n 2, 1) := by decide +kernel
theorem dX12_byLaw_62 : decode cX12_byLaw 62 = .ok (.lreturn, 1) := by decide +kernel
theorem dX12_law_0 : decode cX12_law 0 = .ok (.aload_n 0, 1) := by decide +kernel
theorem dX12_law_1 : decode cX12_law 1 = .ok (.iconst 0, 1) := by decide +kernel
theorem dX12_law_2 : decode cX12_law 2 = .ok (.putfield 114, 3) := by decide +kernel
theorem dX12_law_5 : decode cX12_law 5 = .ok (.aload_n 0, 1) := by decide +kernel
theorem dX12_law_6 : decode cX12_law 6 = .ok (.invokevirtual 354, 3) := by decide +kernel
theorem dX12_law_9 : decode cX12_law 9 = .ok (.ifCond .eq 31, 3) := by decide +kernel
theorem dX12_law_12 : decode cX12_law 12 = .ok (.iload_n 1, 1) := by decide +kernel
theorem dX12_law_13 : decode cX12_law 13 = .ok (.i2l, 1) := by decide +kernel
theorem dX12_law_14 : decode cX12_law 14 = .ok (.ldc2_w 158, 3) := by decide +kernel
theorem dX12_law_17 : decode cX12_law 17 = .ok (.aload_n 0, 1) := by decide +kernel
theorem dX12_law_18 : decode cX12_law 18 = .ok (.getfield 46, 3) := by decide +kernel
theorem dX12_law_21 : decode cX12_law 21 = .ok (.iconst 0, 1) := by decide +kernel
theorem dX12_law_22 : decode cX12_law 22 = .ok (.iaload, 1) := by decide +kernel
theorem dX12_law_23 : decode cX12_law 23 = .ok (.iconst 1, 1) := by decide +kernel
theorem dX12_law_24 : decode cX12_law 24 = .ok (.isub, 1) := by decide +kernel
theorem dX12_law_25 : decode cX12_law 25 = .ok (.i2l, 1) := by decide +kernel
theorem dX12_law_26 : decode cX12_law 26 = .ok (.invokestatic 119, 3) := by decide +kernel
theorem dX12_law_29 : decode cX12_law 29 = .ok (.ifCond .eq 11, 3) := by decide +kernel
theorem dX12_law_32 : decode cX12_law 32 = .ok (.aload_n 0, 1) := by decide +kernel
theorem dX12_law_33 : decode cX12_law 33 = .ok (.iload_n 1, 1) := by decide +kernel
theorem dX12_law_34 : decode cX12_law 34 = .ok (.invokevirtual 508, 3) := by decide +kernel
theorem dX12_law_37 : decode cX12_law 37 = .ok (.goto 6, 3) := by decide +kernel
theorem dX12_law_40 : decode cX12_law 40 = .ok (.ldc2_w 360, 3) := by decide +kernel
theorem dX12_law_43 : decode cX12_law 43 = .ok (.lreturn, 1) := by decide +kernel
theorem dX12_laws_0 : decode cX12_laws 0 = .ok (.aload_n 0, 1) := by decide +kernel
theorem dX12_laws_1 : decode cX12_laws 1 = .ok (.iconst 0, 1) := by decide +kernel
theorem dX12_laws_2 : decode cX12_laws 2 = .ok (.putfield 114, 3) := by decide +kernel
theorem dX12_laws_5 : decode cX12_laws 5 = .ok (.aload_n 0, 1) := by decide +kernel
theorem dX12_laws_6 : decode cX12_laws 6 = .ok (.invokevirtual 354, 3) := by decide +kernel
theorem dX12_laws_9 : decode cX12_laws 9 = .ok (.ifCond .ne 6, 3) := by decide +kernel
theorem dX12_laws_12 : decode cX12_laws 12 = .ok (.bipush (-2), 2) := by decide +kernel
theorem dX12_laws_14 : decode cX12_laws 14 = .ok (.ireturn, 1) := by decide +kernel
theorem dX12_laws_15 : decode cX12_laws 15 = .ok (.iconst (-1), 1) := by decide +kernel
theorem dX12_laws_16 : decode cX12_laws 16 = .ok (.istore_n 1, 1) := by decide +kernel
theorem dX12_laws_17 : decode cX12_laws 17 = .ok (.aload_n 0, 1) := by decide +kernel
theorem dX12_laws_18 : decode cX12_laws 18 = .ok (.iconst (-1), 1) := by decide +kernel
theorem dX12_laws_19 : decode cX12_laws 19 = .ok (.invokevirtual 508, 3) := by decide +kernel
theorem dX12_laws_22 : decode cX12_laws 22 = .ok (.lstore_n 2, 1) := by decide +kernel
theorem dX12_laws_23 : decode cX12_laws 23 = .ok (.iconst 0, 1) := by decide +kernel
theorem dX12_laws_24 : decode cX12_laws 24 = .ok (.istore 4, 2) := by decide +kernel
theorem dX12_laws_26 : decode cX12_laws 26 = .ok (.iload 4, 2) := by decide +kernel
theorem dX12_laws_28 : decode cX12_laws 28 = .ok (.aload_n 0, 1) := by decide +kernel
theorem dX12_laws_29 : decode cX12_laws 29 = .ok (.getfield 46, 3) := by decide +kernel
theorem dX12_laws_32 : decode cX12_laws 32 = .ok (.iconst 0, 1) := by decide +kernel
theorem dX12_laws_33 : decode cX12_laws 33 = .ok (.iaload, 1) := by decide +kernel
theorem dX12_laws_34 : decode cX12_laws 34 = .ok (.if_icmp .ge 33, 3) := by decide +kernel
theorem dX12_laws_37 : decode cX12_laws 37 = .ok (.aload_n 0, 1) := by decide +kernel
theorem dX12_laws_38 : decode cX12_laws 38 = .ok (.iload 4, 2) := by decide +kernel
theorem dX12_laws_40 : decode cX12_laws 40 = .ok (.invokevirtual 508, 3) := by decide +kernel
theorem dX12_laws_43 : decode cX12_laws 43 = .ok (.lstore 5, 2) := by decide +kernel
theorem dX12_laws_45 : decode cX12_laws 45 = .ok (.lload 5, 2) := by decide +kernel
theorem dX12_laws_47 : decode cX12_laws 47 = .ok (.lload_n 2, 1) := by decide +kernel
theorem dX12_laws_48 : decode cX12_laws 48 = .ok (.lcmp, 1) := by decide +kernel
theorem dX12_laws_49 : decode cX12_laws 49 = .ok (.ifCond .lt 6, 3) := by decide +kernel
theorem dX12_laws_52 : decode cX12_laws 52 = .ok (.goto 9, 3) := by decide +kernel
theorem dX12_laws_55 : decode cX12_laws 55 = .ok (.iload 4, 2) := by decide +kernel
theorem dX12_laws_57 : decode cX12_laws 57 = .ok (.istore_n 1, 1) := by decide +kernel
theorem dX12_laws_58 : decode cX12_laws 58 = .ok (.lload 5, 2) := by decide +kernel
theorem dX12_laws_60 : decode cX12_laws 60 = .ok (.lstore_n 2, 1) := by decide +kernel
theorem dX12_laws_61 : decode cX12_laws 61 = .ok (.iinc 4 1, 3) := by decide +kernel
theorem dX12_laws_64 : decode cX12_laws 64 = .ok (.goto (-38), 3) := by decide +kernel
theorem dX12_laws_67 : decode cX12_laws 67 = .ok (.iload_n 1, 1) := by decide +kernel
theorem dX12_laws_68 : decode cX12_laws 68 = .ok (.ireturn, 1) := by decide +kernel
theorem dX12_netOn_0 : decode cX12_netOn 0 = .ok (.aload_n 0, 1) := by decide +kernel
theorem dX12_netOn_1 : decode cX12_netOn 1 = .ok (.getfield 61, 3) := by decide +kernel
theorem dX12_netOn_4 : decode cX12_netOn 4 = .ok (.iconst 5, 1) := by decide +kernel
theorem dX12_netOn_5 : decode cX12_netOn 5 = .ok (.iload_n 1, 1) := by decide +kernel
theorem dX12_netOn_6 : decode cX12_netOn 6 = .ok (.imul, 1) := by decide +kernel
theorem dX12_netOn_7 : decode cX12_netOn 7 = .ok (.iconst 3, 1) := by decide +kernel
theorem dX12_netOn_8 : decode cX12_netOn 8 = .ok (.iadd, 1) := by decide +kernel
theorem dX12_netOn_9 : decode cX12_netOn 9 = .ok (.iaload, 1) := by decide +kernel
theorem dX12_netOn_10 : decode cX12_netOn 10 = .ok (.istore_n 3, 1) := by decide +kernel
theorem dX12_netOn_11 : decode cX12_netOn 11 = .ok (.iconst 0, 1) := by decide +kernel
theorem dX12_netOn_12 : decode cX12_netOn 12 = .ok (.istore 4, 2) := by decide +kernel
theorem dX12_netOn_14 : decode cX12_netOn 14 = .ok (.iconst 0, 1) := by decide +kernel
theorem dX12_netOn_15 : decode cX12_netOn 15 = .ok (.istore 5, 2) := by decide +kernel
theorem dX12_netOn_17 : decode cX12_netOn 17 = .ok (.iconst 0, 1) := by decide +kernel
theorem dX12_netOn_18 : decode cX12_netOn 18 = .ok (.istore 6, 2) := by decide +kernel
theorem dX12_netOn_20 : decode cX12_netOn 20 = .ok (.iload 6, 2) := by decide +kernel
theorem dX12_netOn_22 : decode cX12_netOn 22 = .ok (.aload_n 0, 1) := by decide +kernel
theorem dX12_netOn_23 : decode cX12_netOn 23 = .ok (.getfield 52, 3) := by decide +kernel
theorem dX12_netOn_26 : decode cX12_netOn 26 = .ok (.iload_n 2, 1) := by decide +kernel
theorem dX12_netOn_27 : decode cX12_netOn 27 = .ok (.iaload, 1) := by decide +kernel
theorem dX12_netOn_28 : decode cX12_netOn 28 = .ok (.if_icmp .ge 95, 3) := by decide +kernel
theorem dX12_netOn_31 : decode cX12_netOn 31 = .ok (.aload_n 0, 1) := by decide +kernel
theorem dX12_netOn_32 : decode cX12_netOn 32 = .ok (.iload_n 1, 1) := by decide +kernel
theorem dX12_netOn_33 : decode cX12_netOn 33 = .ok (.iload_n 2, 1) := by decide +kernel
theorem dX12_netOn_34 : decode cX12_netOn 34 = .ok (.iload 6, 2) := by decide +kernel
theorem dX12_netOn_36 : decode cX12_netOn 36 = .ok (.invokevirtual 333, 3) := by decide +kernel
theorem dX12_netOn_39 : decode cX12_netOn 39 = .ok (.istore 7, 2) := by decide +kernel
theorem dX12_netOn_41 : decode cX12_netOn 41 = .ok (.aload_n 0, 1) := by decide +kernel
theorem dX12_netOn_42 : decode cX12_netOn 42 = .ok (.iload_n 2, 1) := by decide +kernel
theorem dX12_netOn_43 : decode cX12_netOn 43 = .ok (.iload 6, 2) := by decide +kernel
theorem dX12_netOn_45 : decode cX12_netOn 45 = .ok (.invokevirtual 337, 3) := by decide +kernel
theorem dX12_netOn_48 : decode cX12_netOn 48 = .ok (.iload 7, 2) := by decide +kernel
theorem dX12_netOn_50 : decode cX12_netOn 50 = .ok (.isub, 1) := by decide +kernel
theorem dX12_netOn_51 : decode cX12_netOn 51 = .ok (.istore 8, 2) := by decide +kernel
theorem dX12_netOn_53 : decode cX12_netOn 53 = .ok (.iload 8, 2) := by decide +kernel
theorem dX12_netOn_55 : decode cX12_netOn 55 = .ok (.ifCond .le 62, 3) := by decide +kernel
theorem dX12_netOn_58 : decode cX12_netOn 58 = .ok (.iload_n 3, 1) := by decide +kernel
theorem dX12_netOn_59 : decode cX12_netOn 59 = .ok (.iconst 2, 1) := by decide +kernel
theorem dX12_netOn_60 : decode cX12_netOn 60 = .ok (.if_icmp .ne 21, 3) := by decide +kernel
theorem dX12_netOn_63 : decode cX12_netOn 63 = .ok (.iload 6, 2) := by decide +kernel
theorem dX12_netOn_65 : decode cX12_netOn 65 = .ok (.aload_n 0, 1) := by decide +kernel
theorem dX12_netOn_66 : decode cX12_netOn 66 = .ok (.getfield 61, 3) := by decide +kernel
theorem dX12_netOn_69 : decode cX12_netOn 69 = .ok (.iconst 5, 1) := by decide +kernel
theorem dX12_netOn_70 : decode cX12_netOn 70 = .ok (.iload_n 1, 1) := by decide +kernel
theorem dX12_netOn_71 : decode cX12_netOn 71 = .ok (.imul, 1) := by decide +kernel
theorem dX12_netOn_72 : decode cX12_netOn 72 = .ok (.iconst 4, 1) := by decide +kernel
theorem dX12_netOn_73 : decode cX12_netOn 73 = .ok (.iadd, 1) := by decide +kernel
theorem dX12_netOn_74 : decode cX12_netOn 74 = .ok (.iaload, 1) := by decide +kernel
theorem dX12_netOn_75 : decode cX12_netOn 75 = .ok (.if_icmp .eq 6, 3) := by decide +kernel
theorem dX12_netOn_78 : decode cX12_netOn 78 = .ok (.goto 39, 3) := by decide +kernel
theorem dX12_netOn_81 : decode cX12_netOn 81 = .ok (.iload 5, 2) := by decide +kernel
theorem dX12_netOn_83 : decode cX12_netOn 83 = .ok (.ifCond .eq 26, 3) := by decide +kernel
theorem dX12_netOn_86 : decode cX12_netOn 86 = .ok (.iload_n 3, 1) := by decide +kernel
theorem dX12_netOn_87 : decode cX12_netOn 87 = .ok (.ifCond .ne 10, 3) := by decide +kernel
theorem dX12_netOn_90 : decode cX12_netOn 90 = .ok (.iload 8, 2) := by decide +kernel
theorem dX12_netOn_92 : decode cX12_netOn 92 = .ok (.iload 5, 2) := by decide +kernel
theorem dX12_netOn_94 : decode cX12_netOn 94 = .ok (.if_icmp .gt 15, 3) := by decide +kernel
theorem dX12_netOn_97 : decode cX12_netOn 97 = .ok (.iload_n 3, 1) := by decide +kernel
theorem dX12_netOn_98 : decode cX12_netOn 98 = .ok (.iconst 1, 1) := by decide +kernel
theorem dX12_netOn_99 : decode cX12_netOn 99 = .ok (.if_icmp .ne 18, 3) := by decide +kernel
theorem dX12_netOn_102 : decode cX12_netOn 102 = .ok (.iload 7, 2) := by decide +kernel
theorem dX12_netOn_104 : decode cX12_netOn 104 = .ok (.iload 4, 2) := by decide +kernel
theorem dX12_netOn_106 : decode cX12_netOn 106 = .ok (.if_icmp .ge 11, 3) := by decide +kernel
theorem dX12_netOn_109 : decode cX12_netOn 109 = .ok (.iload 8, 2) := by decide +kernel
theorem dX12_netOn_111 : decode cX12_netOn 111 = .ok (.istore 5, 2) := by decide +kernel
theorem dX12_netOn_113 : decode cX12_netOn 113 = .ok (.iload 7, 2) := by decide +kernel
theorem dX12_netOn_115 : decode cX12_netOn 115 = .ok (.istore 4, 2) := by decide +kernel
theorem dX12_netOn_117 : decode cX12_netOn 117 = .ok (.iinc 6 1, 3) := by decide +kernel
theorem dX12_netOn_120 : decode cX12_netOn 120 = .ok (.goto (-100), 3) := by decide +kernel
theorem dX12_netOn_123 : decode cX12_netOn 123 = .ok (.iload 5, 2) := by decide +kernel
theorem dX12_netOn_125 : decode cX12_netOn 125 = .ok (.ireturn, 1) := by decide +kernel
theorem dX12_rather_0 : decode cX12_rather 0 = .ok (.aload_n 0, 1) := by decide +kernel
theorem dX12_rather_1 : decode cX12_rather 1 = .ok (.iconst 0, 1) := by decide +kernel
theorem dX12_rather_2 : decode cX12_rather 2 = .ok (.putfield 114, 3) := by decide +kernel
theorem dX12_rather_5 : decode cX12_rather 5 = .ok (.aload_n 0, 1) := by decide +kernel
theorem dX12_rather_6 : decode cX12_rather 6 = .ok (.iload_n 1, 1) := by decide +kernel
theorem dX12_rather_7 : decode cX12_rather 7 = .ok (.invokevirtual 330, 3) := by decide +kernel
theorem dX12_rather_10 : decode cX12_rather 10 = .ok (.ifCond .eq 24, 3) := by decide +kernel
theorem dX12_rather_13 : decode cX12_rather 13 = .ok (.iload_n 2, 1) := by decide +kernel
theorem dX12_rather_14 : decode cX12_rather 14 = .ok (.i2l, 1) := by decide +kernel
theorem dX12_rather_15 : decode cX12_rather 15 = .ok (.lconst 0, 1) := by decide +kernel
theorem dX12_rather_16 : decode cX12_rather 16 = .ok (.ldc2_w 392, 3) := by decide +kernel
theorem dX12_rather_19 : decode cX12_rather 19 = .ok (.invokestatic 119, 3) := by decide +kernel
theorem dX12_rather_22 : decode cX12_rather 22 = .ok (.ifCond .eq 12, 3) := by decide +kernel
theorem dX12_rather_25 : decode cX12_rather 25 = .ok (.aload_n 0, 1) := by decide +kernel
theorem dX12_rather_26 : decode cX12_rather 26 = .ok (.getfield 74, 3) := by decide +kernel
theorem dX12_rather_29 : decode cX12_rather 29 = .ok (.iload_n 2, 1) := by decide +kernel
theorem dX12_rather_30 : decode cX12_rather 30 = .ok (.baload, 1) := by decide +kernel
theorem dX12_rather_31 : decode cX12_rather 31 = .ok (.ifCond .ne 6, 3) := by decide +kernel
theorem dX12_rather_34 : decode cX12_rather 34 = .ok (.bipush (-2), 2) := by decide +kernel
theorem dX12_rather_36 : decode cX12_rather 36 = .ok (.ireturn, 1) := by decide +kernel
theorem dX12_rather_37 : decode cX12_rather 37 = .ok (.aload_n 0, 1) := by decide +kernel
theorem dX12_rather_38 : decode cX12_rather 38 = .ok (.iload_n 1, 1) := by decide +kernel
theorem dX12_rather_39 : decode cX12_rather 39 = .ok (.iconst 0, 1) := by decide +kernel
theorem dX12_rather_40 : decode cX12_rather 40 = .ok (.invokevirtual 511, 3) := by decide +kernel
theorem dX12_rather_43 : decode cX12_rather 43 = .ok (.istore_n 3, 1) := by decide +kernel
theorem dX12_rather_44 : decode cX12_rather 44 = .ok (.aload_n 0, 1) := by decide +kernel
theorem dX12_rather_45 : decode cX12_rather 45 = .ok (.iload_n 1, 1) := by decide +kernel
theorem dX12_rather_46 : decode cX12_rather 46 = .ok (.iconst 1, 1) := by decide +kernel
theorem dX12_rather_47 : decode cX12_rather 47 = .ok (.iload_n 2, 1) := by decide +kernel
theorem dX12_rather_48 : decode cX12_rather 48 = .ok (.iadd, 1) := by decide +kernel
theorem dX12_rather_49 : decode cX12_rather 49 = .ok (.invokevirtual 511, 3) := by decide +kernel
theorem dX12_rather_52 : decode cX12_rather 52 = .ok (.istore 4, 2) := by decide +kernel
theorem dX12_rather_54 : decode cX12_rather 54 = .ok (.iload_n 3, 1) := by decide +kernel
theorem dX12_rather_55 : decode cX12_rather 55 = .ok (.ifCond .ne 12, 3) := by decide +kernel
theorem dX12_rather_58 : decode cX12_rather 58 = .ok (.iload 4, 2) := by decide +kernel
theorem dX12_rather_60 : decode cX12_rather 60 = .ok (.ifCond .ne 7, 3) := by decide +kernel
theorem dX12_rather_63 : decode cX12_rather 63 = .ok (.iconst (-1), 1) := by decide +kernel
theorem dX12_rather_64 : decode cX12_rather 64 = .ok (.goto 14, 3) := by decide +kernel
theorem dX12_rather_67 : decode cX12_rather 67 = .ok (.iload 4, 2) := by decide +kernel
theorem dX12_rather_69 : decode cX12_rather 69 = .ok (.iload_n 3, 1) := by decide +kernel
theorem dX12_rather_70 : decode cX12_rather 70 = .ok (.if_icmp .le 7, 3) := by decide +kernel
theorem dX12_rather_73 : decode cX12_rather 73 = .ok (.iconst 1, 1) := by decide +kernel
theorem dX12_rather_74 : decode cX12_rather 74 = .ok (.goto 4, 3) := by decide +kernel
theorem dX12_rather_77 : decode cX12_rather 77 = .ok (.iconst 0, 1) := by decide +kernel
theorem dX12_rather_78 : decode cX12_rather 78 = .ok (.ireturn, 1) := by decide +kernel
theorem dX12_draw_0 : decode cX12_draw 0 = .ok (.aload_n 0, 1) := by decide +kernel
theorem dX12_draw_1 : decode cX12_draw 1 = .ok (.ldc2_w 514, 3) := by decide +kernel
theorem dX12_draw_4 : decode cX12_draw 4 = .ok (.aload_n 0, 1) := by decide +kernel
theorem dX12_draw_5 : decode cX12_draw 5 = .ok (.getfield 516, 3) := by decide +kernel
theorem dX12_draw_8 : decode cX12_draw 8 = .ok (.lmul, 1) := by decide +kernel
theorem dX12_draw_9 : decode cX12_draw 9 = .ok (.ldc2_w 519, 3) := by decide +kernel
theorem dX12_draw_12 : decode cX12_draw 12 = .ok (.ladd, 1) := by decide +kernel
theorem dX12_draw_13 : decode cX12_draw 13 = .ok (.ldc2_w 521, 3) := by decide +kernel
theorem dX12_draw_16 : decode cX12_draw 16 = .ok (.lrem, 1) := by decide +kernel
theorem dX12_draw_17 : decode cX12_draw 17 = .ok (.putfield 516, 3) := by decide +kernel
theorem dX12_draw_20 : decode cX12_draw 20 = .ok (.aload_n 0, 1) := by decide +kernel
theorem dX12_draw_21 : decode cX12_draw 21 = .ok (.getfield 516, 3) := by decide +kernel
theorem dX12_draw_24 : decode cX12_draw 24 = .ok (.ldc2_w 523, 3) := by decide +kernel
theorem dX12_draw_27 : decode cX12_draw 27 = .ok (.ldiv, 1) := by decide +kernel
theorem dX12_draw_28 : decode cX12_draw 28 = .ok (.ldc2_w 325, 3) := by decide +kernel
theorem dX12_draw_31 : decode cX12_draw 31 = .ok (.lrem, 1) := by decide +kernel
theorem dX12_draw_32 : decode cX12_draw 32 = .ok (.l2i, 1) := by decide +kernel
theorem dX12_draw_33 : decode cX12_draw 33 = .ok (.ireturn, 1) := by decide +kernel
theorem dX12_newYear_0 : decode cX12_newYear 0 = .ok (.aload_n 0, 1) := by decide +kernel
theorem dX12_newYear_1 : decode cX12_newYear 1 = .ok (.iconst (-1), 1) := by decide +kernel
theorem dX12_newYear_2 : decode cX12_newYear 2 = .ok (.invokevirtual 343, 3) := by decide +kernel
theorem dX12_newYear_5 : decode cX12_newYear 5 = .ok (.iconst 0, 1) := by decide +kernel
theorem dX12_newYear_6 : decode cX12_newYear 6 = .ok (.istore_n 1, 1) := by decide +kernel
theorem dX12_newYear_7 : decode cX12_newYear 7 = .ok (.iload_n 1, 1) := by decide +kernel
theorem dX12_newYear_8 : decode cX12_newYear 8 = .ok (.bipush 16, 2) := by decide +kernel
theorem dX12_newYear_10 : decode cX12_newYear 10 = .ok (.if_icmp .ge 16, 3) := by decide +kernel
theorem dX12_newYear_13 : decode cX12_newYear 13 = .ok (.aload_n 0, 1) := by decide +kernel
theorem dX12_newYear_14 : decode cX12_newYear 14 = .ok (.getfield 111, 3) := by decide +kernel
theorem dX12_newYear_17 : decode cX12_newYear 17 = .ok (.iload_n 1, 1) := by decide +kernel
theorem dX12_newYear_18 : decode cX12_newYear 18 = .ok (.iconst 0, 1) := by decide +kernel
theorem dX12_newYear_19 : decode cX12_newYear 19 = .ok (.iastore, 1) := by decide +kernel
theorem dX12_newYear_20 : decode cX12_newYear 20 = .ok (.iinc 1 1, 3) := by decide +kernel
theorem dX12_newYear_23 : decode cX12_newYear 23 = .ok (.goto (-16), 3) := by decide +kernel
theorem dX12_newYear_26 : decode cX12_newYear 26 = .ok (.return_, 1) := by decide +kernel
theorem dX12_comes_0 : decode cX12_comes 0 = .ok (.aload_n 0, 1) := by decide +kernel
theorem dX12_comes_1 : decode cX12_comes 1 = .ok (.iload_n 1, 1) := by decide +kernel
theorem dX12_comes_2 : decode cX12_comes 2 = .ok (.iload_n 2, 1) := by decide +kernel
theorem dX12_comes_3 : decode cX12_comes 3 = .ok (.invokevirtual 346, 3) := by decide +kernel
theorem dX12_comes_6 : decode cX12_comes 6 = .ok (.istore_n 3, 1) := by decide +kernel
theorem dX12_comes_7 : decode cX12_comes 7 = .ok (.iload_n 3, 1) := by decide +kernel
theorem dX12_comes_8 : decode cX12_comes 8 = .ok (.iconst (-1), 1) := by decide +kernel
theorem dX12_comes_9 : decode cX12_comes 9 = .ok (.if_icmp .ne 5, 3) := by decide +kernel
theorem dX12_comes_12 : decode cX12_comes 12 = .ok (.iload_n 2, 1) := by decide +kernel
theorem dX12_comes_13 : decode cX12_comes 13 = .ok (.ireturn, 1) := by decide +kernel
theorem dX12_comes_14 : decode cX12_comes 14 = .ok (.aload_n 0, 1) := by decide +kernel
theorem dX12_comes_15 : decode cX12_comes 15 = .ok (.getfield 111, 3) := by decide +kernel
theorem dX12_comes_18 : decode cX12_comes 18 = .ok (.iload_n 3, 1) := by decide +kernel
theorem dX12_comes_19 : decode cX12_comes 19 = .ok (.dup2, 1) := by decide +kernel
theorem dX12_comes_20 : decode cX12_comes 20 = .ok (.iaload, 1) := by decide +kernel
theorem dX12_comes_21 : decode cX12_comes 21 = .ok (.iconst 1, 1) := by decide +kernel
theorem dX12_comes_22 : decode cX12_comes 22 = .ok (.iadd, 1) := by decide +kernel
theorem dX12_comes_23 : decode cX12_comes 23 = .ok (.iastore, 1) := by decide +kernel
theorem dX12_comes_24 : decode cX12_comes 24 = .ok (.aload_n 0, 1) := by decide +kernel
theorem dX12_comes_25 : decode cX12_comes 25 = .ok (.getfield 111, 3) := by decide +kernel
theorem dX12_comes_28 : decode cX12_comes 28 = .ok (.bipush 10, 2) := by decide +kernel
theorem dX12_comes_30 : decode cX12_comes 30 = .ok (.iload_n 1, 1) := by decide +kernel
theorem dX12_comes_31 : decode cX12_comes 31 = .ok (.iadd, 1) := by decide +kernel
theorem dX12_comes_32 : decode cX12_comes 32 = .ok (.dup2, 1) := by decide +kernel
theorem dX12_comes_33 : decode cX12_comes 33 = .ok (.iaload, 1) := by decide +kernel
theorem dX12_comes_34 : decode cX12_comes 34 = .ok (.iconst 1, 1) := by decide +kernel
theorem dX12_comes_35 : decode cX12_comes 35 = .ok (.iadd, 1) := by decide +kernel
theorem dX12_comes_36 : decode cX12_comes 36 = .ok (.iastore, 1) := by decide +kernel
theorem dX12_comes_37 : decode cX12_comes 37 = .ok (.iload_n 2, 1) := by decide +kernel
theorem dX12_comes_38 : decode cX12_comes 38 = .ok (.iconst 1, 1) := by decide +kernel
theorem dX12_comes_39 : decode cX12_comes 39 = .ok (.iload_n 3, 1) := by decide +kernel
theorem dX12_comes_40 : decode cX12_comes 40 = .ok (.ishl, 1) := by decide +kernel
theorem dX12_comes_41 : decode cX12_comes 41 = .ok (.ior, 1) := by decide +kernel
theorem dX12_comes_42 : decode cX12_comes 42 = .ok (.ireturn, 1) := by decide +kernel
theorem dX12_drawnAll_0 : decode cX12_drawnAll 0 = .ok (.iconst 0, 1) := by decide +kernel
theorem dX12_drawnAll_1 : decode cX12_drawnAll 1 = .ok (.istore_n 1, 1) := by decide +kernel
theorem dX12_drawnAll_2 : decode cX12_drawnAll 2 = .ok (.iconst 0, 1) := by decide +kernel
theorem dX12_drawnAll_3 : decode cX12_drawnAll 3 = .ok (.istore_n 2, 1) := by decide +kernel
theorem dX12_drawnAll_4 : decode cX12_drawnAll 4 = .ok (.iload_n 2, 1) := by decide +kernel
theorem dX12_drawnAll_5 : decode cX12_drawnAll 5 = .ok (.bipush 10, 2) := by decide +kernel
theorem dX12_drawnAll_7 : decode cX12_drawnAll 7 = .ok (.if_icmp .ge 18, 3) := by decide +kernel
theorem dX12_drawnAll_10 : decode cX12_drawnAll 10 = .ok (.iload_n 1, 1) := by decide +kernel
theorem dX12_drawnAll_11 : decode cX12_drawnAll 11 = .ok (.aload_n 0, 1) := by decide +kernel
theorem dX12_drawnAll_12 : decode cX12_drawnAll 12 = .ok (.getfield 111, 3) := by decide +kernel
theorem dX12_drawnAll_15 : decode cX12_drawnAll 15 = .ok (.iload_n 2, 1) := by decide +kernel
theorem dX12_drawnAll_16 : decode cX12_drawnAll 16 = .ok (.iaload, 1) := by decide +kernel
theorem dX12_drawnAll_17 : decode cX12_drawnAll 17 = .ok (.iadd, 1) := by decide +kernel
theorem dX12_drawnAll_18 : decode cX12_drawnAll 18 = .ok (.istore_n 1, 1) := by decide +kernel
theorem dX12_drawnAll_19 : decode cX12_drawnAll 19 = .ok (.iinc 2 1, 3) := by decide +kernel
theorem dX12_drawnAll_22 : decode cX12_drawnAll 22 = .ok (.goto (-18), 3) := by decide +kernel
theorem dX12_drawnAll_25 : decode cX12_drawnAll 25 = .ok (.iload_n 1, 1) := by decide +kernel
theorem dX12_drawnAll_26 : decode cX12_drawnAll 26 = .ok (.ireturn, 1) := by decide +kernel
theorem dX12_draws_0 : decode cX12_draws 0 = .ok (.aload_n 0, 1) := by decide +kernel
theorem dX12_draws_1 : decode cX12_draws 1 = .ok (.invokevirtual 525, 3) := by decide +kernel
theorem dX12_draws_4 : decode cX12_draws 4 = .ok (.aload_n 0, 1) := by decide +kernel
theorem dX12_draws_5 : decode cX12_draws 5 = .ok (.lload_n 1, 1) := by decide +kernel
theorem dX12_draws_6 : decode cX12_draws 6 = .ok (.putfield 516, 3) := by decide +kernel
theorem dX12_draws_9 : decode cX12_draws 9 = .ok (.iconst 0, 1) := by decide +kernel
theorem dX12_draws_10 : decode cX12_draws 10 = .ok (.istore_n 3, 1) := by decide +kernel
theorem dX12_draws_11 : decode cX12_draws 11 = .ok (.iload_n 3, 1) := by decide +kernel
theorem dX12_draws_12 : decode cX12_draws 12 = .ok (.aload_n 0, 1) := by decide +kernel
theorem dX12_draws_13 : decode cX12_draws 13 = .ok (.getfield 37, 3) := by decide +kernel
theorem dX12_draws_16 : decode cX12_draws 16 = .ok (.iconst 0, 1) := by decide +kernel
theorem dX12_draws_17 : decode cX12_draws 17 = .ok (.iaload, 1) := by decide +kernel
theorem dX12_draws_18 : decode cX12_draws 18 = .ok (.if_icmp .ge 65, 3) := by decide +kernel
theorem dX12_draws_21 : decode cX12_draws 21 = .ok (.iconst 0, 1) := by decide +kernel
theorem dX12_draws_22 : decode cX12_draws 22 = .ok (.istore 4, 2) := by decide +kernel
theorem dX12_draws_24 : decode cX12_draws 24 = .ok (.iconst 0, 1) := by decide +kernel
theorem dX12_draws_25 : decode cX12_draws 25 = .ok (.istore 5, 2) := by decide +kernel
theorem dX12_draws_27 : decode cX12_draws 27 = .ok (.iload 5, 2) := by decide +kernel
theorem dX12_draws_29 : decode cX12_draws 29 = .ok (.aload_n 0, 1) := by decide +kernel
theorem dX12_draws_30 : decode cX12_draws 30 = .ok (.getfield 58, 3) := by decide +kernel
theorem dX12_draws_33 : decode cX12_draws 33 = .ok (.iconst 0, 1) := by decide +kernel
theorem dX12_draws_34 : decode cX12_draws 34 = .ok (.iaload, 1) := by decide +kernel
theorem dX12_draws_35 : decode cX12_draws 35 = .ok (.if_icmp .ge 42, 3) := by decide +kernel
theorem dX12_draws_38 : decode cX12_draws 38 = .ok (.aload_n 0, 1) := by decide +kernel
theorem dX12_draws_39 : decode cX12_draws 39 = .ok (.invokevirtual 528, 3) := by decide +kernel
theorem dX12_draws_42 : decode cX12_draws 42 = .ok (.aload_n 0, 1) := by decide +kernel
theorem dX12_draws_43 : decode cX12_draws 43 = .ok (.getfield 61, 3) := by decide +kernel
theorem dX12_draws_46 : decode cX12_draws 46 = .ok (.iconst 5, 1) := by decide +kernel
theorem dX12_draws_47 : decode cX12_draws 47 = .ok (.iload 5, 2) := by decide +kernel
theorem dX12_draws_49 : decode cX12_draws 49 = .ok (.imul, 1) := by decide +kernel
theorem dX12_draws_50 : decode cX12_draws 50 = .ok (.iconst 1, 1) := by decide +kernel
theorem dX12_draws_51 : decode cX12_draws 51 = .ok (.iadd, 1) := by decide +kernel
theorem dX12_draws_52 : decode cX12_draws 52 = .ok (.iaload, 1) := by decide +kernel
theorem dX12_draws_53 : decode cX12_draws 53 = .ok (.if_icmp .ge 14, 3) := by decide +kernel
theorem dX12_draws_56 : decode cX12_draws 56 = .ok (.aload_n 0, 1) := by decide +kernel
theorem dX12_draws_57 : decode cX12_draws 57 = .ok (.iload 5, 2) := by decide +kernel
theorem dX12_draws_59 : decode cX12_draws 59 = .ok (.iload 4, 2) := by decide +kernel
theorem dX12_draws_61 : decode cX12_draws 61 = .ok (.invokevirtual 531, 3) := by decide +kernel
theorem dX12_draws_64 : decode cX12_draws 64 = .ok (.goto 5, 3) := by decide +kernel
theorem dX12_draws_67 : decode cX12_draws 67 = .ok (.iload 4, 2) := by decide +kernel
theorem dX12_draws_69 : decode cX12_draws 69 = .ok (.istore 4, 2) := by decide +kernel
theorem dX12_draws_71 : decode cX12_draws 71 = .ok (.iinc 5 1, 3) := by decide +kernel
theorem dX12_draws_74 : decode cX12_draws 74 = .ok (.goto (-47), 3) := by decide +kernel
theorem dX12_draws_77 : decode cX12_draws 77 = .ok (.iinc 3 1, 3) := by decide +kernel
theorem dX12_draws_80 : decode cX12_draws 80 = .ok (.goto (-69), 3) := by decide +kernel
theorem dX12_draws_83 : decode cX12_draws 83 = .ok (.return_, 1) := by decide +kernel
theorem dX12_tellsYear_0 : decode cX12_tellsYear 0 = .ok (.aload_n 0, 1) := by decide +kernel
theorem dX12_tellsYear_1 : decode cX12_tellsYear 1 = .ok (.getfield 71, 3) := by decide +kernel
theorem dX12_tellsYear_4 : decode cX12_tellsYear 4 = .ok (.iconst 0, 1) := by decide +kernel
theorem dX12_tellsYear_5 : decode cX12_tellsYear 5 = .ok (.iconst 1, 1) := by decide +kernel
theorem dX12_tellsYear_6 : decode cX12_tellsYear 6 = .ok (.iastore, 1) := by decide +kernel
theorem dX12_tellsYear_7 : decode cX12_tellsYear 7 = .ok (.iconst 0, 1) := by decide +kernel
theorem dX12_tellsYear_8 : decode cX12_tellsYear 8 = .ok (.istore_n 1, 1) := by decide +kernel
theorem dX12_tellsYear_9 : decode cX12_tellsYear 9 = .ok (.iload_n 1, 1) := by decide +kernel
theorem dX12_tellsYear_10 : decode cX12_tellsYear 10 = .ok (.bipush 16, 2) := by decide +kernel
theorem dX12_tellsYear_12 : decode cX12_tellsYear 12 = .ok (.if_icmp .ge 23, 3) := by decide +kernel
theorem dX12_tellsYear_15 : decode cX12_tellsYear 15 = .ok (.aload_n 0, 1) := by decide +kernel
theorem dX12_tellsYear_16 : decode cX12_tellsYear 16 = .ok (.getfield 71, 3) := by decide +kernel
theorem dX12_tellsYear_19 : decode cX12_tellsYear 19 = .ok (.iconst 1, 1) := by decide +kernel
theorem dX12_tellsYear_20 : decode cX12_tellsYear 20 = .ok (.iload_n 1, 1) := by decide +kernel
theorem dX12_tellsYear_21 : decode cX12_tellsYear 21 = .ok (.iadd, 1) := by decide +kernel
theorem dX12_tellsYear_22 : decode cX12_tellsYear 22 = .ok (.aload_n 0, 1) := by decide +kernel
theorem dX12_tellsYear_23 : decode cX12_tellsYear 23 = .ok (.getfield 111, 3) := by decide +kernel
theorem dX12_tellsYear_26 : decode cX12_tellsYear 26 = .ok (.iload_n 1, 1) := by decide +kernel
theorem dX12_tellsYear_27 : decode cX12_tellsYear 27 = .ok (.iaload, 1) := by decide +kernel
theorem dX12_tellsYear_28 : decode cX12_tellsYear 28 = .ok (.iastore, 1) := by decide +kernel
theorem dX12_tellsYear_29 : decode cX12_tellsYear 29 = .ok (.iinc 1 1, 3) := by decide +kernel
theorem dX12_tellsYear_32 : decode cX12_tellsYear 32 = .ok (.goto (-23), 3) := by decide +kernel
theorem dX12_tellsYear_35 : decode cX12_tellsYear 35 = .ok (.aload_n 0, 1) := by decide +kernel
theorem dX12_tellsYear_36 : decode cX12_tellsYear 36 = .ok (.invokevirtual 534, 3) := by decide +kernel
theorem dX12_tellsYear_39 : decode cX12_tellsYear 39 = .ok (.ireturn, 1) := by decide +kernel
theorem dX12_isSeed_0 : decode cX12_isSeed 0 = .ok (.iload_n 0, 1) := by decide +kernel
theorem dX12_isSeed_1 : decode cX12_isSeed 1 = .ok (.i2l, 1) := by decide +kernel
theorem dX12_isSeed_2 : decode cX12_isSeed 2 = .ok (.lconst 0, 1) := by decide +kernel
theorem dX12_isSeed_3 : decode cX12_isSeed 3 = .ok (.ldc2_w 537, 3) := by decide +kernel
theorem dX12_isSeed_6 : decode cX12_isSeed 6 = .ok (.invokestatic 119, 3) := by decide +kernel
theorem dX12_isSeed_9 : decode cX12_isSeed 9 = .ok (.ireturn, 1) := by decide +kernel
theorem dX12_run_0 : decode cX12_run 0 = .ok (.aload_n 0, 1) := by decide +kernel
theorem dX12_run_1 : decode cX12_run 1 = .ok (.iconst 0, 1) := by decide +kernel
theorem dX12_run_2 : decode cX12_run 2 = .ok (.putfield 114, 3) := by decide +kernel
theorem dX12_run_5 : decode cX12_run 5 = .ok (.iload_n 1, 1) := by decide +kernel
theorem dX12_run_6 : decode cX12_run 6 = .ok (.invokestatic 539, 3) := by decide +kernel
theorem dX12_run_9 : decode cX12_run 9 = .ok (.ifCond .eq 10, 3) := by decide +kernel
theorem dX12_run_12 : decode cX12_run 12 = .ok (.aload_n 0, 1) := by decide +kernel
theorem dX12_run_13 : decode cX12_run 13 = .ok (.invokevirtual 354, 3) := by decide +kernel
theorem dX12_run_16 : decode cX12_run 16 = .ok (.ifCond .ne 6, 3) := by decide +kernel
theorem dX12_run_19 : decode cX12_run 19 = .ok (.bipush (-2), 2) := by decide +kernel
theorem dX12_run_21 : decode cX12_run 21 = .ok (.ireturn, 1) := by decide +kernel
theorem dX12_run_22 : decode cX12_run 22 = .ok (.aload_n 0, 1) := by decide +kernel
theorem dX12_run_23 : decode cX12_run 23 = .ok (.iload_n 1, 1) := by decide +kernel
theorem dX12_run_24 : decode cX12_run 24 = .ok (.i2l, 1) := by decide +kernel
theorem dX12_run_25 : decode cX12_run 25 = .ok (.invokevirtual 542, 3) := by decide +kernel
theorem dX12_run_28 : decode cX12_run 28 = .ok (.aload_n 0, 1) := by decide +kernel
theorem dX12_run_29 : decode cX12_run 29 = .ok (.invokevirtual 545, 3) := by decide +kernel
theorem dX12_run_32 : decode cX12_run 32 = .ok (.ireturn, 1) := by decide +kernel
theorem dX12_told_0 : decode cX12_told 0 = .ok (.aload_n 0, 1) := by decide +kernel
theorem dX12_told_1 : decode cX12_told 1 = .ok (.iconst 0, 1) := by decide +kernel
theorem dX12_told_2 : decode cX12_told 2 = .ok (.putfield 114, 3) := by decide +kernel
theorem dX12_told_5 : decode cX12_told 5 = .ok (.iload_n 1, 1) := by decide +kernel
theorem dX12_told_6 : decode cX12_told 6 = .ok (.invokestatic 123, 3) := by decide +kernel
theorem dX12_told_9 : decode cX12_told 9 = .ok (.ifCond .eq 10, 3) := by decide +kernel
theorem dX12_told_12 : decode cX12_told 12 = .ok (.aload_n 0, 1) := by decide +kernel
theorem dX12_told_13 : decode cX12_told 13 = .ok (.invokevirtual 354, 3) := by decide +kernel
theorem dX12_told_16 : decode cX12_told 16 = .ok (.ifCond .ne 6, 3) := by decide +kernel
theorem dX12_told_19 : decode cX12_told 19 = .ok (.bipush (-2), 2) := by decide +kernel
theorem dX12_told_21 : decode cX12_told 21 = .ok (.ireturn, 1) := by decide +kernel
theorem dX12_told_22 : decode cX12_told 22 = .ok (.aload_n 0, 1) := by decide +kernel
theorem dX12_told_23 : decode cX12_told 23 = .ok (.getfield 7, 3) := by decide +kernel
theorem dX12_told_26 : decode cX12_told 26 = .ok (.iload_n 1, 1) := by decide +kernel
theorem dX12_told_27 : decode cX12_told 27 = .ok (.iaload, 1) := by decide +kernel
theorem dX12_told_28 : decode cX12_told 28 = .ok (.iconst (-1), 1) := by decide +kernel
theorem dX12_told_29 : decode cX12_told 29 = .ok (.if_icmp .ne 6, 3) := by decide +kernel
theorem dX12_told_32 : decode cX12_told 32 = .ok (.bipush (-6), 2) := by decide +kernel
theorem dX12_told_34 : decode cX12_told 34 = .ok (.ireturn, 1) := by decide +kernel
theorem dX12_told_35 : decode cX12_told 35 = .ok (.aload_n 0, 1) := by decide +kernel
theorem dX12_told_36 : decode cX12_told 36 = .ok (.getfield 13, 3) := by decide +kernel
theorem dX12_told_39 : decode cX12_told 39 = .ok (.iload_n 1, 1) := by decide +kernel
theorem dX12_told_40 : decode cX12_told 40 = .ok (.iaload, 1) := by decide +kernel
theorem dX12_told_41 : decode cX12_told 41 = .ok (.aload_n 0, 1) := by decide +kernel
theorem dX12_told_42 : decode cX12_told 42 = .ok (.getfield 37, 3) := by decide +kernel
theorem dX12_told_45 : decode cX12_told 45 = .ok (.iconst 0, 1) := by decide +kernel
theorem dX12_told_46 : decode cX12_told 46 = .ok (.iaload, 1) := by decide +kernel
theorem dX12_told_47 : decode cX12_told 47 = .ok (.if_icmp .le 6, 3) := by decide +kernel
theorem dX12_told_50 : decode cX12_told 50 = .ok (.bipush (-2), 2) := by decide +kernel
theorem dX12_told_52 : decode cX12_told 52 = .ok (.ireturn, 1) := by decide +kernel
theorem dX12_told_53 : decode cX12_told 53 = .ok (.iconst 0, 1) := by decide +kernel
theorem dX12_told_54 : decode cX12_told 54 = .ok (.istore_n 2, 1) := by decide +kernel
theorem dX12_told_55 : decode cX12_told 55 = .ok (.iload_n 2, 1) := by decide +kernel
theorem dX12_told_56 : decode cX12_told 56 = .ok (.aload_n 0, 1) := by decide +kernel
theorem dX12_told_57 : decode cX12_told 57 = .ok (.getfield 13, 3) := by decide +kernel
theorem dX12_told_60 : decode cX12_told 60 = .ok (.iload_n 1, 1) := by decide +kernel
theorem dX12_told_61 : decode cX12_told 61 = .ok (.iaload, 1) := by decide +kernel
theorem dX12_told_62 : decode cX12_told 62 = .ok (.if_icmp .ge 40, 3) := by decide +kernel
theorem dX12_told_65 : decode cX12_told 65 = .ok (.aload_n 0, 1) := by decide +kernel
theorem dX12_told_66 : decode cX12_told 66 = .ok (.getfield 16, 3) := by decide +kernel
theorem dX12_told_69 : decode cX12_told 69 = .ok (.bipush 60, 2) := by decide +kernel
theorem dX12_told_71 : decode cX12_told 71 = .ok (.iload_n 1, 1) := by decide +kernel
theorem dX12_told_72 : decode cX12_told 72 = .ok (.imul, 1) := by decide +kernel
theorem dX12_told_73 : decode cX12_told 73 = .ok (.iload_n 2, 1) := by decide +kernel
theorem dX12_told_74 : decode cX12_told 74 = .ok (.iadd, 1) := by decide +kernel
theorem dX12_told_75 : decode cX12_told 75 = .ok (.laload, 1) := by decide +kernel
theorem dX12_told_76 : decode cX12_told 76 = .ok (.lconst 0, 1) := by decide +kernel
theorem dX12_told_77 : decode cX12_told 77 = .ok (.lconst 1, 1) := by decide +kernel
theorem dX12_told_78 : decode cX12_told 78 = .ok (.aload_n 0, 1) := by decide +kernel
theorem dX12_told_79 : decode cX12_told 79 = .ok (.getfield 58, 3) := by decide +kernel
theorem dX12_told_82 : decode cX12_told 82 = .ok (.iconst 0, 1) := by decide +kernel
theorem dX12_told_83 : decode cX12_told 83 = .ok (.iaload, 1) := by decide +kernel
theorem dX12_told_84 : decode cX12_told 84 = .ok (.lshl, 1) := by decide +kernel
theorem dX12_told_85 : decode cX12_told 85 = .ok (.lconst 1, 1) := by decide +kernel
theorem dX12_told_86 : decode cX12_told 86 = .ok (.lsub, 1) := by decide +kernel
theorem dX12_told_87 : decode cX12_told 87 = .ok (.invokestatic 119, 3) := by decide +kernel
theorem dX12_told_90 : decode cX12_told 90 = .ok (.ifCond .ne 6, 3) := by decide +kernel
theorem dX12_told_93 : decode cX12_told 93 = .ok (.bipush (-2), 2) := by decide +kernel
theorem dX12_told_95 : decode cX12_told 95 = .ok (.ireturn, 1) := by decide +kernel
theorem dX12_told_96 : decode cX12_told 96 = .ok (.iinc 2 1, 3) := by decide +kernel
theorem dX12_told_99 : decode cX12_told 99 = .ok (.goto (-44), 3) := by decide +kernel
theorem dX12_told_102 : decode cX12_told 102 = .ok (.aload_n 0, 1) := by decide +kernel
theorem dX12_told_103 : decode cX12_told 103 = .ok (.invokevirtual 525, 3) := by decide +kernel
theorem dX12_told_106 : decode cX12_told 106 = .ok (.iconst 0, 1) := by decide +kernel
theorem dX12_told_107 : decode cX12_told 107 = .ok (.istore_n 2, 1) := by decide +kernel
theorem dX12_told_108 : decode cX12_told 108 = .ok (.iload_n 2, 1) := by decide +kernel
theorem dX12_told_109 : decode cX12_told 109 = .ok (.aload_n 0, 1) := by decide +kernel
theorem dX12_told_110 : decode cX12_told 110 = .ok (.getfield 13, 3) := by decide +kernel
theorem dX12_told_113 : decode cX12_told 113 = .ok (.iload_n 1, 1) := by decide +kernel
theorem dX12_told_114 : decode cX12_told 114 = .ok (.iaload, 1) := by decide +kernel
theorem dX12_told_115 : decode cX12_told 115 = .ok (.if_icmp .ge 64, 3) := by decide +kernel
theorem dX12_told_118 : decode cX12_told 118 = .ok (.iconst 0, 1) := by decide +kernel
theorem dX12_told_119 : decode cX12_told 119 = .ok (.istore_n 3, 1) := by decide +kernel
theorem dX12_told_120 : decode cX12_told 120 = .ok (.iconst 0, 1) := by decide +kernel
theorem dX12_told_121 : decode cX12_told 121 = .ok (.istore 4, 2) := by decide +kernel
theorem dX12_told_123 : decode cX12_told 123 = .ok (.iload 4, 2) := by decide +kernel
theorem dX12_told_125 : decode cX12_told 125 = .ok (.aload_n 0, 1) := by decide +kernel
theorem dX12_told_126 : decode cX12_told 126 = .ok (.getfield 58, 3) := by decide +kernel
theorem dX12_told_129 : decode cX12_told 129 = .ok (.iconst 0, 1) := by decide +kernel
theorem dX12_told_130 : decode cX12_told 130 = .ok (.iaload, 1) := by decide +kernel
theorem dX12_told_131 : decode cX12_told 131 = .ok (.if_icmp .ge 42, 3) := by decide +kernel
theorem dX12_told_134 : decode cX12_told 134 = .ok (.aload_n 0, 1) := by decide +kernel
theorem dX12_told_135 : decode cX12_told 135 = .ok (.getfield 16, 3) := by decide +kernel
theorem dX12_told_138 : decode cX12_told 138 = .ok (.bipush 60, 2) := by decide +kernel
theorem dX12_told_140 : decode cX12_told 140 = .ok (.iload_n 1, 1) := by decide +kernel
theorem dX12_told_141 : decode cX12_told 141 = .ok (.imul, 1) := by decide +kernel
theorem dX12_told_142 : decode cX12_told 142 = .ok (.iload_n 2, 1) := by decide +kernel
theorem dX12_told_143 : decode cX12_told 143 = .ok (.iadd, 1) := by decide +kernel
theorem dX12_told_144 : decode cX12_told 144 = .ok (.laload, 1) := by decide +kernel
theorem dX12_told_145 : decode cX12_told 145 = .ok (.iload 4, 2) := by decide +kernel
theorem dX12_told_147 : decode cX12_told 147 = .ok (.lshr, 1) := by decide +kernel
theorem dX12_told_148 : decode cX12_told 148 = .ok (.lconst 1, 1) := by decide +kernel
theorem dX12_told_149 : decode cX12_told 149 = .ok (.land, 1) := by decide +kernel
theorem dX12_told_150 : decode cX12_told 150 = .ok (.lconst 1, 1) := by decide +kernel
theorem dX12_told_151 : decode cX12_told 151 = .ok (.lcmp, 1) := by decide +kernel
theorem dX12_told_152 : decode cX12_told 152 = .ok (.ifCond .ne 13, 3) := by decide +kernel
theorem dX12_told_155 : decode cX12_told 155 = .ok (.aload_n 0, 1) := by decide +kernel
theorem dX12_told_156 : decode cX12_told 156 = .ok (.iload 4, 2) := by decide +kernel
theorem dX12_told_158 : decode cX12_told 158 = .ok (.iload_n 3, 1) := by decide +kernel
theorem dX12_told_159 : decode cX12_told 159 = .ok (.invokevirtual 531, 3) := by decide +kernel
theorem dX12_told_162 : decode cX12_told 162 = .ok (.goto 4, 3) := by decide +kernel
theorem dX12_told_165 : decode cX12_told 165 = .ok (.iload_n 3, 1) := by decide +kernel
theorem dX12_told_166 : decode cX12_told 166 = .ok (.istore_n 3, 1) := by decide +kernel
theorem dX12_told_167 : decode cX12_told 167 = .ok (.iinc 4 1, 3) := by decide +kernel
theorem dX12_told_170 : decode cX12_told 170 = .ok (.goto (-47), 3) := by decide +kernel
theorem dX12_told_173 : decode cX12_told 173 = .ok (.iinc 2 1, 3) := by decide +kernel
theorem dX12_told_176 : decode cX12_told 176 = .ok (.goto (-68), 3) := by decide +kernel
theorem dX12_told_179 : decode cX12_told 179 = .ok (.aload_n 0, 1) := by decide +kernel
theorem dX12_told_180 : decode cX12_told 180 = .ok (.invokevirtual 545, 3) := by decide +kernel
theorem dX12_told_183 : decode cX12_told 183 = .ok (.ireturn, 1) := by decide +kernel
theorem dX12_taken_0 : decode cX12_taken 0 = .ok (.aload_n 0, 1) := by decide +kernel
theorem dX12_taken_1 : decode cX12_taken 1 = .ok (.iconst 0, 1) := by decide +kernel
theorem dX12_taken_2 : decode cX12_taken 2 = .ok (.putfield 114, 3) := by decide +kernel
theorem dX12_taken_5 : decode cX12_taken 5 = .ok (.aload_n 0, 1) := by decide +kernel
theorem dX12_taken_6 : decode cX12_taken 6 = .ok (.iload_n 1, 1) := by decide +kernel
theorem dX12_taken_7 : decode cX12_taken 7 = .ok (.invokevirtual 318, 3) := by decide +kernel
theorem dX12_taken_10 : decode cX12_taken 10 = .ok (.ifCond .ne 8, 3) := by decide +kernel
theorem dX12_taken_13 : decode cX12_taken 13 = .ok (.bipush (-2), 2) := by decide +kernel
theorem dX12_taken_15 : decode cX12_taken 15 = .ok (.goto 24, 3) := by decide +kernel
theorem dX12_taken_18 : decode cX12_taken 18 = .ok (.aload_n 0, 1) := by decide +kernel
theorem dX12_taken_19 : decode cX12_taken 19 = .ok (.getfield 71, 3) := by decide +kernel
theorem dX12_taken_22 : decode cX12_taken 22 = .ok (.iconst 0, 1) := by decide +kernel
theorem dX12_taken_23 : decode cX12_taken 23 = .ok (.iaload, 1) := by decide +kernel
theorem dX12_taken_24 : decode cX12_taken 24 = .ok (.ifCond .ne 7, 3) := by decide +kernel
theorem dX12_taken_27 : decode cX12_taken 27 = .ok (.iconst (-1), 1) := by decide +kernel
theorem dX12_taken_28 : decode cX12_taken 28 = .ok (.goto 11, 3) := by decide +kernel
theorem dX12_taken_31 : decode cX12_taken 31 = .ok (.aload_n 0, 1) := by decide +kernel
theorem dX12_taken_32 : decode cX12_taken 32 = .ok (.getfield 71, 3) := by decide +kernel
theorem dX12_taken_35 : decode cX12_taken 35 = .ok (.iconst 1, 1) := by decide +kernel
theorem dX12_taken_36 : decode cX12_taken 36 = .ok (.iload_n 1, 1) := by decide +kernel
theorem dX12_taken_37 : decode cX12_taken 37 = .ok (.iadd, 1) := by decide +kernel
theorem dX12_taken_38 : decode cX12_taken 38 = .ok (.iaload, 1) := by decide +kernel
theorem dX12_taken_39 : decode cX12_taken 39 = .ok (.ireturn, 1) := by decide +kernel
theorem dX12_took_0 : decode cX12_took 0 = .ok (.aload_n 0, 1) := by decide +kernel
theorem dX12_took_1 : decode cX12_took 1 = .ok (.iconst 0, 1) := by decide +kernel
theorem dX12_took_2 : decode cX12_took 2 = .ok (.putfield 114, 3) := by decide +kernel
theorem dX12_took_5 : decode cX12_took 5 = .ok (.aload_n 0, 1) := by decide +kernel
theorem dX12_took_6 : decode cX12_took 6 = .ok (.iload_n 1, 1) := by decide +kernel
theorem dX12_took_7 : decode cX12_took 7 = .ok (.invokevirtual 330, 3) := by decide +kernel
theorem dX12_took_10 : decode cX12_took 10 = .ok (.ifCond .ne 8, 3) := by decide +kernel
theorem dX12_took_13 : decode cX12_took 13 = .ok (.bipush (-2), 2) := by decide +kernel
theorem dX12_took_15 : decode cX12_took 15 = .ok (.goto 25, 3) := by decide +kernel
theorem dX12_took_18 : decode cX12_took 18 = .ok (.aload_n 0, 1) := by decide +kernel
theorem dX12_took_19 : decode cX12_took 19 = .ok (.getfield 71, 3) := by decide +kernel
theorem dX12_took_22 : decode cX12_took 22 = .ok (.iconst 0, 1) := by decide +kernel
theorem dX12_took_23 : decode cX12_took 23 = .ok (.iaload, 1) := by decide +kernel
theorem dX12_took_24 : decode cX12_took 24 = .ok (.ifCond .ne 7, 3) := by decide +kernel
theorem dX12_took_27 : decode cX12_took 27 = .ok (.iconst (-1), 1) := by decide +kernel
theorem dX12_took_28 : decode cX12_took 28 = .ok (.goto 12, 3) := by decide +kernel
theorem dX12_took_31 : decode cX12_took 31 = .ok (.aload_n 0, 1) := by decide +kernel
theorem dX12_took_32 : decode cX12_took 32 = .ok (.getfield 71, 3) := by decide +kernel
theorem dX12_took_35 : decode cX12_took 35 = .ok (.bipush 11, 2) := by decide +kernel
theorem dX12_took_37 : decode cX12_took 37 = .ok (.iload_n 1, 1) := by decide +kernel
theorem dX12_took_38 : decode cX12_took 38 = .ok (.iadd, 1) := by decide +kernel
theorem dX12_took_39 : decode cX12_took 39 = .ok (.iaload, 1) := by decide +kernel
theorem dX12_took_40 : decode cX12_took 40 = .ok (.ireturn, 1) := by decide +kernel
theorem dX12_years_0 : decode cX12_years 0 = .ok (.aload_n 0, 1) := by decide +kernel
theorem dX12_years_1 : decode cX12_years 1 = .ok (.iconst 0, 1) := by decide +kernel
theorem dX12_years_2 : decode cX12_years 2 = .ok (.putfield 114, 3) := by decide +kernel
theorem dX12_years_5 : decode cX12_years 5 = .ok (.iload_n 1, 1) := by decide +kernel
theorem dX12_years_6 : decode cX12_years 6 = .ok (.invokestatic 539, 3) := by decide +kernel
theorem dX12_years_9 : decode cX12_years 9 = .ok (.ifCond .eq 34, 3) := by decide +kernel
theorem dX12_years_12 : decode cX12_years 12 = .ok (.iload_n 2, 1) := by decide +kernel
theorem dX12_years_13 : decode cX12_years 13 = .ok (.i2l, 1) := by decide +kernel
theorem dX12_years_14 : decode cX12_years 14 = .ok (.lconst 1, 1) := by decide +kernel
theorem dX12_years_15 : decode cX12_years 15 = .ok (.ldc2_w 325, 3) := by decide +kernel
theorem dX12_years_18 : decode cX12_years 18 = .ok (.invokestatic 119, 3) := by decide +kernel
theorem dX12_years_21 : decode cX12_years 21 = .ok (.ifCond .eq 22, 3) := by decide +kernel
theorem dX12_years_24 : decode cX12_years 24 = .ok (.iload_n 3, 1) := by decide +kernel
theorem dX12_years_25 : decode cX12_years 25 = .ok (.i2l, 1) := by decide +kernel
theorem dX12_years_26 : decode cX12_years 26 = .ok (.lconst 0, 1) := by decide +kernel
theorem dX12_years_27 : decode cX12_years 27 = .ok (.ldc2_w 392, 3) := by decide +kernel
theorem dX12_years_30 : decode cX12_years 30 = .ok (.invokestatic 119, 3) := by decide +kernel
theorem dX12_years_33 : decode cX12_years 33 = .ok (.ifCond .eq 10, 3) := by decide +kernel
theorem dX12_years_36 : decode cX12_years 36 = .ok (.aload_n 0, 1) := by decide +kernel
theorem dX12_years_37 : decode cX12_years 37 = .ok (.invokevirtual 354, 3) := by decide +kernel
theorem dX12_years_40 : decode cX12_years 40 = .ok (.ifCond .ne 7, 3) := by decide +kernel
theorem dX12_years_43 : decode cX12_years 43 = .ok (.ldc2_w 360, 3) := by decide +kernel
theorem dX12_years_46 : decode cX12_years 46 = .ok (.lreturn, 1) := by decide +kernel
theorem dX12_years_47 : decode cX12_years 47 = .ok (.lconst 0, 1) := by decide +kernel
theorem dX12_years_48 : decode cX12_years 48 = .ok (.lstore 4, 2) := by decide +kernel
theorem dX12_years_50 : decode cX12_years 50 = .ok (.iconst 0, 1) := by decide +kernel
theorem dX12_years_51 : decode cX12_years 51 = .ok (.istore 6, 2) := by decide +kernel
theorem dX12_years_53 : decode cX12_years 53 = .ok (.iload 6, 2) := by decide +kernel
theorem dX12_years_55 : decode cX12_years 55 = .ok (.iload_n 2, 1) := by decide +kernel
theorem dX12_years_56 : decode cX12_years 56 = .ok (.if_icmp .ge 113, 3) := by decide +kernel
theorem dX12_years_59 : decode cX12_years 59 = .ok (.aload_n 0, 1) := by decide +kernel
theorem dX12_years_60 : decode cX12_years 60 = .ok (.iload_n 1, 1) := by decide +kernel
theorem dX12_years_61 : decode cX12_years 61 = .ok (.i2l, 1) := by decide +kernel
theorem dX12_years_62 : decode cX12_years 62 = .ok (.iload 6, 2) := by decide +kernel
theorem dX12_years_64 : decode cX12_years 64 = .ok (.i2l, 1) := by decide +kernel
theorem dX12_years_65 : decode cX12_years 65 = .ok (.ladd, 1) := by decide +kernel
theorem dX12_years_66 : decode cX12_years 66 = .ok (.invokevirtual 542, 3) := by decide +kernel
theorem dX12_years_69 : decode cX12_years 69 = .ok (.aload_n 0, 1) := by decide +kernel
theorem dX12_years_70 : decode cX12_years 70 = .ok (.invokevirtual 534, 3) := by decide +kernel
theorem dX12_years_73 : decode cX12_years 73 = .ok (.istore 7, 2) := by decide +kernel
theorem dX12_years_75 : decode cX12_years 75 = .ok (.iload_n 3, 1) := by decide +kernel
theorem dX12_years_76 : decode cX12_years 76 = .ok (.ifCond .ne 14, 3) := by decide +kernel
theorem dX12_years_79 : decode cX12_years 79 = .ok (.lload 4, 2) := by decide +kernel
theorem dX12_years_81 : decode cX12_years 81 = .ok (.iload 7, 2) := by decide +kernel
theorem dX12_years_83 : decode cX12_years 83 = .ok (.i2l, 1) := by decide +kernel
theorem dX12_years_84 : decode cX12_years 84 = .ok (.ladd, 1) := by decide +kernel
theorem dX12_years_85 : decode cX12_years 85 = .ok (.lstore 4, 2) := by decide +kernel
theorem dX12_years_87 : decode cX12_years 87 = .ok (.goto 76, 3) := by decide +kernel
theorem dX12_years_90 : decode cX12_years 90 = .ok (.iload_n 3, 1) := by decide +kernel
theorem dX12_years_91 : decode cX12_years 91 = .ok (.iconst 1, 1) := by decide +kernel
theorem dX12_years_92 : decode cX12_years 92 = .ok (.if_icmp .ne 25, 3) := by decide +kernel
theorem dX12_years_95 : decode cX12_years 95 = .ok (.iload 7, 2) := by decide +kernel
theorem dX12_years_97 : decode cX12_years 97 = .ok (.i2l, 1) := by decide +kernel
theorem dX12_years_98 : decode cX12_years 98 = .ok (.lload 4, 2) := by decide +kernel
theorem dX12_years_100 : decode cX12_years 100 = .ok (.lcmp, 1) := by decide +kernel
theorem dX12_years_101 : decode cX12_years 101 = .ok (.ifCond .le 9, 3) := by decide +kernel
theorem dX12_years_104 : decode cX12_years 104 = .ok (.iload 7, 2) := by decide +kernel
theorem dX12_years_106 : decode cX12_years 106 = .ok (.i2l, 1) := by decide +kernel
theorem dX12_years_107 : decode cX12_years 107 = .ok (.goto 5, 3) := by decide +kernel
theorem dX12_years_110 : decode cX12_years 110 = .ok (.lload 4, 2) := by decide +kernel
theorem dX12_years_112 : decode cX12_years 112 = .ok (.lstore 4, 2) := by decide +kernel
theorem dX12_years_114 : decode cX12_years 114 = .ok (.goto 49, 3) := by decide +kernel
theorem dX12_years_117 : decode cX12_years 117 = .ok (.iconst 0, 1) := by decide +kernel
theorem dX12_years_118 : decode cX12_years 118 = .ok (.istore 8, 2) := by decide +kernel
theorem dX12_years_120 : decode cX12_years 120 = .ok (.iload 8, 2) := by decide +kernel
theorem dX12_years_122 : decode cX12_years 122 = .ok (.aload_n 0, 1) := by decide +kernel
theorem dX12_years_123 : decode cX12_years 123 = .ok (.getfield 52, 3) := by decide +kernel
theorem dX12_years_126 : decode cX12_years 126 = .ok (.iconst 0, 1) := by decide +kernel
theorem dX12_years_127 : decode cX12_years 127 = .ok (.iaload, 1) := by decide +kernel
theorem dX12_years_128 : decode cX12_years 128 = .ok (.if_icmp .ge 35, 3) := by decide +kernel
theorem dX12_years_131 : decode cX12_years 131 = .ok (.lload 4, 2) := by decide +kernel
theorem dX12_years_133 : decode cX12_years 133 = .ok (.aload_n 0, 1) := by decide +kernel
theorem dX12_years_134 : decode cX12_years 134 = .ok (.getfield 111, 3) := by decide +kernel
theorem dX12_years_137 : decode cX12_years 137 = .ok (.iload 8, 2) := by decide +kernel
theorem dX12_years_139 : decode cX12_years 139 = .ok (.iaload, 1) := by decide +kernel
theorem dX12_years_140 : decode cX12_years 140 = .ok (.i2l, 1) := by decide +kernel
theorem dX12_years_141 : decode cX12_years 141 = .ok (.aload_n 0, 1) := by decide +kernel
theorem dX12_years_142 : decode cX12_years 142 = .ok (.getfield 55, 3) := by decide +kernel
theorem dX12_years_145 : decode cX12_years 145 = .ok (.iconst 0, 1) := by decide +kernel
theorem dX12_years_146 : decode cX12_years 146 = .ok (.iload 8, 2) := by decide +kernel
theorem dX12_years_148 : decode cX12_years 148 = .ok (.invokestatic 323, 3) := by decide +kernel
theorem dX12_years_151 : decode cX12_years 151 = .ok (.iaload, 1) := by decide +kernel
theorem dX12_years_152 : decode cX12_years 152 = .ok (.i2l, 1) := by decide +kernel
theorem dX12_years_153 : decode cX12_years 153 = .ok (.lmul, 1) := by decide +kernel
theorem dX12_years_154 : decode cX12_years 154 = .ok (.ladd, 1) := by decide +kernel
theorem dX12_years_155 : decode cX12_years 155 = .ok (.lstore 4, 2) := by decide +kernel
theorem dX12_years_157 : decode cX12_years 157 = .ok (.iinc 8 1, 3) := by decide +kernel
theorem dX12_years_160 : decode cX12_years 160 = .ok (.goto (-40), 3) := by decide +kernel
theorem dX12_years_163 : decode cX12_years 163 = .ok (.iinc 6 1, 3) := by decide +kernel
theorem dX12_years_166 : decode cX12_years 166 = .ok (.goto (-113), 3) := by decide +kernel
theorem dX12_years_169 : decode cX12_years 169 = .ok (.lload 4, 2) := by decide +kernel
theorem dX12_years_171 : decode cX12_years 171 = .ok (.lreturn, 1) := by decide +kernel
theorem dX12_count_0 : decode cX12_count 0 = .ok (.aload_n 0, 1) := by decide +kernel
theorem dX12_count_1 : decode cX12_count 1 = .ok (.iconst 0, 1) := by decide +kernel
theorem dX12_count_2 : decode cX12_count 2 = .ok (.putfield 114, 3) := by decide +kernel
theorem dX12_count_5 : decode cX12_count 5 = .ok (.iconst 0, 1) := by decide +kernel
theorem dX12_count_6 : decode cX12_count 6 = .ok (.istore_n 2, 1) := by decide +kernel
theorem dX12_count_7 : decode cX12_count 7 = .ok (.iload_n 1, 1) := by decide +kernel
theorem dX12_count_8 : decode cX12_count 8 = .ok (.tableswitch 192 0 12 #[68, 75, 82, 89, 96, 103, 110, 117, 122, 128, 136, 152, 159], 68) := by decide +kernel
theorem dX12_count_76 : decode cX12_count 76 = .ok (.aload_n 0, 1) := by decide +kernel
theorem dX12_count_77 : decode cX12_count 77 = .ok (.getfield 34, 3) := by decide +kernel
theorem dX12_count_80 : decode cX12_count 80 = .ok (.iconst 0, 1) := by decide +kernel
theorem dX12_count_81 : decode cX12_count 81 = .ok (.iaload, 1) := by decide +kernel
theorem dX12_count_82 : decode cX12_count 82 = .ok (.ireturn, 1) := by decide +kernel
theorem dX12_count_83 : decode cX12_count 83 = .ok (.aload_n 0, 1) := by decide +kernel
theorem dX12_count_84 : decode cX12_count 84 = .ok (.getfield 37, 3) := by decide +kernel
theorem dX12_count_87 : decode cX12_count 87 = .ok (.iconst 0, 1) := by decide +kernel
theorem dX12_count_88 : decode cX12_count 88 = .ok (.iaload, 1) := by decide +kernel
theorem dX12_count_89 : decode cX12_count 89 = .ok (.ireturn, 1) := by decide +kernel
theorem dX12_count_90 : decode cX12_count 90 = .ok (.aload_n 0, 1) := by decide +kernel
theorem dX12_count_91 : decode cX12_count 91 = .ok (.getfield 40, 3) := by decide +kernel
theorem dX12_count_94 : decode cX12_count 94 = .ok (.iconst 0, 1) := by decide +kernel
theorem dX12_count_95 : decode cX12_count 95 = .ok (.iaload, 1) := by decide +kernel
theorem dX12_count_96 : decode cX12_count 96 = .ok (.ireturn, 1) := by decide +kernel
theorem dX12_count_97 : decode cX12_count 97 = .ok (.aload_n 0, 1) := by decide +kernel
theorem dX12_count_98 : decode cX12_count 98 = .ok (.getfield 46, 3) := by decide +kernel
theorem dX12_count_101 : decode cX12_count 101 = .ok (.iconst 0, 1) := by decide +kernel
theorem dX12_count_102 : decode cX12_count 102 = .ok (.iaload, 1) := by decide +kernel
theorem dX12_count_103 : decode cX12_count 103 = .ok (.ireturn, 1) := by decide +kernel
theorem dX12_count_104 : decode cX12_count 104 = .ok (.aload_n 0, 1) := by decide +kernel
theorem dX12_count_105 : decode cX12_count 105 = .ok (.getfield 52, 3) := by decide +kernel
theorem dX12_count_108 : decode cX12_count 108 = .ok (.iconst 0, 1) := by decide +kernel
theorem dX12_count_109 : decode cX12_count 109 = .ok (.iaload, 1) := by decide +kernel
theorem dX12_count_110 : decode cX12_count 110 = .ok (.ireturn, 1) := by decide +kernel
theorem dX12_count_111 : decode cX12_count 111 = .ok (.aload_n 0, 1) := by decide +kernel
theorem dX12_count_112 : decode cX12_count 112 = .ok (.getfield 58, 3) := by decide +kernel
theorem dX12_count_115 : decode cX12_count 115 = .ok (.iconst 0, 1) := by decide +kernel
theorem dX12_count_116 : decode cX12_count 116 = .ok (.iaload, 1) := by decide +kernel
theorem dX12_count_117 : decode cX12_count 117 = .ok (.ireturn, 1) := by decide +kernel
theorem dX12_count_118 : decode cX12_count 118 = .ok (.aload_n 0, 1) := by decide +kernel
theorem dX12_count_119 : decode cX12_count 119 = .ok (.getfield 31, 3) := by decide +kernel
theorem dX12_count_122 : decode cX12_count 122 = .ok (.iconst 0, 1) := by decide +kernel
theorem dX12_count_123 : decode cX12_count 123 = .ok (.iaload, 1) := by decide +kernel
theorem dX12_count_124 : decode cX12_count 124 = .ok (.ireturn, 1) := by decide +kernel
theorem dX12_count_125 : decode cX12_count 125 = .ok (.aload_n 0, 1) := by decide +kernel
theorem dX12_count_126 : decode cX12_count 126 = .ok (.getfield 131, 3) := by decide +kernel
theorem dX12_count_129 : decode cX12_count 129 = .ok (.ireturn, 1) := by decide +kernel
theorem dX12_count_130 : decode cX12_count 130 = .ok (.aload_n 0, 1) := by decide +kernel
theorem dX12_count_131 : decode cX12_count 131 = .ok (.iconst 0, 1) := by decide +kernel
theorem dX12_count_132 : decode cX12_count 132 = .ok (.invokevirtual 327, 3) := by decide +kernel
theorem dX12_count_135 : decode cX12_count 135 = .ok (.ireturn, 1) := by decide +kernel
theorem dX12_count_136 : decode cX12_count 136 = .ok (.aload_n 0, 1) := by decide +kernel
theorem dX12_count_137 : decode cX12_count 137 = .ok (.getfield 64, 3) := by decide +kernel
theorem dX12_count_140 : decode cX12_count 140 = .ok (.bipush 6, 2) := by decide +kernel
theorem dX12_count_142 : decode cX12_count 142 = .ok (.iaload, 1) := by decide +kernel
theorem dX12_count_143 : decode cX12_count 143 = .ok (.ireturn, 1) := by decide +kernel
theorem dX12_count_144 : decode cX12_count 144 = .ok (.aload_n 0, 1) := by decide +kernel
theorem dX12_count_145 : decode cX12_count 145 = .ok (.invokevirtual 354, 3) := by decide +kernel
theorem dX12_count_148 : decode cX12_count 148 = .ok (.ifCond .eq 10, 3) := by decide +kernel
theorem dX12_count_151 : decode cX12_count 151 = .ok (.aload_n 0, 1) := by decide +kernel
theorem dX12_count_152 : decode cX12_count 152 = .ok (.invokevirtual 401, 3) := by decide +kernel
theorem dX12_count_155 : decode cX12_count 155 = .ok (.goto 4, 3) := by decide +kernel
theorem dX12_count_158 : decode cX12_count 158 = .ok (.iconst 0, 1) := by decide +kernel
theorem dX12_count_159 : decode cX12_count 159 = .ok (.ireturn, 1) := by decide +kernel
theorem dX12_count_160 : decode cX12_count 160 = .ok (.aload_n 0, 1) := by decide +kernel
theorem dX12_count_161 : decode cX12_count 161 = .ok (.getfield 71, 3) := by decide +kernel
theorem dX12_count_164 : decode cX12_count 164 = .ok (.iconst 0, 1) := by decide +kernel
theorem dX12_count_165 : decode cX12_count 165 = .ok (.iaload, 1) := by decide +kernel
theorem dX12_count_166 : decode cX12_count 166 = .ok (.ireturn, 1) := by decide +kernel
theorem dX12_count_167 : decode cX12_count 167 = .ok (.iconst 0, 1) := by decide +kernel
theorem dX12_count_168 : decode cX12_count 168 = .ok (.istore_n 3, 1) := by decide +kernel
theorem dX12_count_169 : decode cX12_count 169 = .ok (.iload_n 3, 1) := by decide +kernel
theorem dX12_count_170 : decode cX12_count 170 = .ok (.iconst 4, 1) := by decide +kernel
theorem dX12_count_171 : decode cX12_count 171 = .ok (.if_icmp .ge 27, 3) := by decide +kernel
theorem dX12_count_174 : decode cX12_count 174 = .ok (.iload_n 2, 1) := by decide +kernel
theorem dX12_count_175 : decode cX12_count 175 = .ok (.aload_n 0, 1) := by decide +kernel
theorem dX12_count_176 : decode cX12_count 176 = .ok (.getfield 7, 3) := by decide +kernel
theorem dX12_count_179 : decode cX12_count 179 = .ok (.iload_n 3, 1) := by decide +kernel
theorem dX12_count_180 : decode cX12_count 180 = .ok (.iaload, 1) := by decide +kernel
theorem dX12_count_181 : decode cX12_count 181 = .ok (.iconst (-1), 1) := by decide +kernel
theorem dX12_count_182 : decode cX12_count 182 = .ok (.if_icmp .ne 7, 3) := by decide +kernel
theorem dX12_count_185 : decode cX12_count 185 = .ok (.iconst 0, 1) := by decide +kernel
theorem dX12_count_186 : decode cX12_count 186 = .ok (.goto 4, 3) := by decide +kernel
theorem dX12_count_189 : decode cX12_count 189 = .ok (.iconst 1, 1) := by decide +kernel
theorem dX12_count_190 : decode cX12_count 190 = .ok (.iadd, 1) := by decide +kernel
theorem dX12_count_191 : decode cX12_count 191 = .ok (.istore_n 2, 1) := by decide +kernel
theorem dX12_count_192 : decode cX12_count 192 = .ok (.iinc 3 1, 3) := by decide +kernel
theorem dX12_count_195 : decode cX12_count 195 = .ok (.goto (-26), 3) := by decide +kernel
theorem dX12_count_198 : decode cX12_count 198 = .ok (.iload_n 2, 1) := by decide +kernel
theorem dX12_count_199 : decode cX12_count 199 = .ok (.ireturn, 1) := by decide +kernel
theorem dX12_count_200 : decode cX12_count 200 = .ok (.iconst (-1), 1) := by decide +kernel
theorem dX12_count_201 : decode cX12_count 201 = .ok (.ireturn, 1) := by decide +kernel
theorem dX12_keep_0 : decode cX12_keep 0 = .ok (.aload_n 0, 1) := by decide +kernel
theorem dX12_keep_1 : decode cX12_keep 1 = .ok (.iconst 0, 1) := by decide +kernel
theorem dX12_keep_2 : decode cX12_keep 2 = .ok (.putfield 114, 3) := by decide +kernel
theorem dX12_keep_5 : decode cX12_keep 5 = .ok (.iload_n 1, 1) := by decide +kernel
theorem dX12_keep_6 : decode cX12_keep 6 = .ok (.i2l, 1) := by decide +kernel
theorem dX12_keep_7 : decode cX12_keep 7 = .ok (.lconst 0, 1) := by decide +kernel
theorem dX12_keep_8 : decode cX12_keep 8 = .ok (.ldc2_w 392, 3) := by decide +kernel
theorem dX12_keep_11 : decode cX12_keep 11 = .ok (.invokestatic 119, 3) := by decide +kernel
theorem dX12_keep_14 : decode cX12_keep 14 = .ok (.ifCond .ne 6, 3) := by decide +kernel
theorem dX12_keep_17 : decode cX12_keep 17 = .ok (.bipush (-2), 2) := by decide +kernel
theorem dX12_keep_19 : decode cX12_keep 19 = .ok (.ireturn, 1) := by decide +kernel
theorem dX12_keep_20 : decode cX12_keep 20 = .ok (.aload_n 0, 1) := by decide +kernel
theorem dX12_keep_21 : decode cX12_keep 21 = .ok (.iconst 0, 1) := by decide +kernel
theorem dX12_keep_22 : decode cX12_keep 22 = .ok (.iconst 1, 1) := by decide +kernel
theorem dX12_keep_23 : decode cX12_keep 23 = .ok (.iload_n 1, 1) := by decide +kernel
theorem dX12_keep_24 : decode cX12_keep 24 = .ok (.iadd, 1) := by decide +kernel
theorem dX12_keep_25 : decode cX12_keep 25 = .ok (.invokevirtual 291, 3) := by decide +kernel
theorem dX12_keep_28 : decode cX12_keep 28 = .ok (.aload_n 0, 1) := by decide +kernel
theorem dX12_keep_29 : decode cX12_keep 29 = .ok (.getfield 74, 3) := by decide +kernel
theorem dX12_keep_32 : decode cX12_keep 32 = .ok (.iload_n 1, 1) := by decide +kernel
theorem dX12_keep_33 : decode cX12_keep 33 = .ok (.iconst 1, 1) := by decide +kernel
theorem dX12_keep_34 : decode cX12_keep 34 = .ok (.bastore, 1) := by decide +kernel
theorem dX12_keep_35 : decode cX12_keep 35 = .ok (.iconst 0, 1) := by decide +kernel
theorem dX12_keep_36 : decode cX12_keep 36 = .ok (.ireturn, 1) := by decide +kernel
theorem dX12_back_0 : decode cX12_back 0 = .ok (.aload_n 0, 1) := by decide +kernel
theorem dX12_back_1 : decode cX12_back 1 = .ok (.iconst 0, 1) := by decide +kernel
theorem dX12_back_2 : decode cX12_back 2 = .ok (.putfield 114, 3) := by decide +kernel
theorem dX12_back_5 : decode cX12_back 5 = .ok (.iload_n 1, 1) := by decide +kernel
theorem dX12_back_6 : decode cX12_back 6 = .ok (.i2l, 1) := by decide +kernel
theorem dX12_back_7 : decode cX12_back 7 = .ok (.lconst 0, 1) := by decide +kernel
theorem dX12_back_8 : decode cX12_back 8 = .ok (.ldc2_w 392, 3) := by decide +kernel
theorem dX12_back_11 : decode cX12_back 11 = .ok (.invokestatic 119, 3) := by decide +kernel
theorem dX12_back_14 : decode cX12_back 14 = .ok (.ifCond .ne 6, 3) := by decide +kernel
theorem dX12_back_17 : decode cX12_back 17 = .ok (.bipush (-2), 2) := by decide +kernel
theorem dX12_back_19 : decode cX12_back 19 = .ok (.ireturn, 1) := by decide +kernel
theorem dX12_back_20 : decode cX12_back 20 = .ok (.aload_n 0, 1) := by decide +kernel
theorem dX12_back_21 : decode cX12_back 21 = .ok (.getfield 74, 3) := by decide +kernel
theorem dX12_back_24 : decode cX12_back 24 = .ok (.iload_n 1, 1) := by decide +kernel
theorem dX12_back_25 : decode cX12_back 25 = .ok (.baload, 1) := by decide +kernel
theorem dX12_back_26 : decode cX12_back 26 = .ok (.ifCond .ne 6, 3) := by decide +kernel
theorem dX12_back_29 : decode cX12_back 29 = .ok (.bipush (-6), 2) := by decide +kernel
theorem dX12_back_31 : decode cX12_back 31 = .ok (.ireturn, 1) := by decide +kernel
theorem dX12_back_32 : decode cX12_back 32 = .ok (.aload_n 0, 1) := by decide +kernel
theorem dX12_back_33 : decode cX12_back 33 = .ok (.iconst 1, 1) := by decide +kernel
theorem dX12_back_34 : decode cX12_back 34 = .ok (.iload_n 1, 1) := by decide +kernel
theorem dX12_back_35 : decode cX12_back 35 = .ok (.iadd, 1) := by decide +kernel
theorem dX12_back_36 : decode cX12_back 36 = .ok (.iconst 0, 1) := by decide +kernel
theorem dX12_back_37 : decode cX12_back 37 = .ok (.invokevirtual 291, 3) := by decide +kernel
theorem dX12_back_40 : decode cX12_back 40 = .ok (.iconst 0, 1) := by decide +kernel
theorem dX12_back_41 : decode cX12_back 41 = .ok (.ireturn, 1) := by decide +kernel
