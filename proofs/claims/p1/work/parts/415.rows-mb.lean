theorem dX12_markedOn_27 : decode cX12_markedOn 27 = .ok (.iadd, 1) := by decide +kernel
theorem dX12_markedOn_28 : decode cX12_markedOn 28 = .ok (.istore_n 2, 1) := by decide +kernel
theorem dX12_markedOn_29 : decode cX12_markedOn 29 = .ok (.iinc 3 1, 3) := by decide +kernel
theorem dX12_markedOn_32 : decode cX12_markedOn 32 = .ok (.goto (-28), 3) := by decide +kernel
theorem dX12_markedOn_35 : decode cX12_markedOn 35 = .ok (.iload_n 2, 1) := by decide +kernel
theorem dX12_markedOn_36 : decode cX12_markedOn 36 = .ok (.ireturn, 1) := by decide +kernel
theorem dX12_gainOf_0 : decode cX12_gainOf 0 = .ok (.iload_n 1, 1) := by decide +kernel
theorem dX12_gainOf_1 : decode cX12_gainOf 1 = .ok (.iload_n 2, 1) := by decide +kernel
theorem dX12_gainOf_2 : decode cX12_gainOf 2 = .ok (.invokestatic 323, 3) := by decide +kernel
theorem dX12_gainOf_5 : decode cX12_gainOf 5 = .ok (.istore_n 3, 1) := by decide +kernel
theorem dX12_gainOf_6 : decode cX12_gainOf 6 = .ok (.aload_n 0, 1) := by decide +kernel
theorem dX12_gainOf_7 : decode cX12_gainOf 7 = .ok (.getfield 64, 3) := by decide +kernel
theorem dX12_gainOf_10 : decode cX12_gainOf 10 = .ok (.bipush 7, 2) := by decide +kernel
theorem dX12_gainOf_12 : decode cX12_gainOf 12 = .ok (.iload_n 1, 1) := by decide +kernel
theorem dX12_gainOf_13 : decode cX12_gainOf 13 = .ok (.imul, 1) := by decide +kernel
theorem dX12_gainOf_14 : decode cX12_gainOf 14 = .ok (.iconst 1, 1) := by decide +kernel
theorem dX12_gainOf_15 : decode cX12_gainOf 15 = .ok (.iadd, 1) := by decide +kernel
theorem dX12_gainOf_16 : decode cX12_gainOf 16 = .ok (.iaload, 1) := by decide +kernel
theorem dX12_gainOf_17 : decode cX12_gainOf 17 = .ok (.istore 4, 2) := by decide +kernel
theorem dX12_gainOf_19 : decode cX12_gainOf 19 = .ok (.aload_n 0, 1) := by decide +kernel
theorem dX12_gainOf_20 : decode cX12_gainOf 20 = .ok (.getfield 64, 3) := by decide +kernel
theorem dX12_gainOf_23 : decode cX12_gainOf 23 = .ok (.bipush 7, 2) := by decide +kernel
theorem dX12_gainOf_25 : decode cX12_gainOf 25 = .ok (.iload_n 1, 1) := by decide +kernel
theorem dX12_gainOf_26 : decode cX12_gainOf 26 = .ok (.imul, 1) := by decide +kernel
theorem dX12_gainOf_27 : decode cX12_gainOf 27 = .ok (.iconst 2, 1) := by decide +kernel
theorem dX12_gainOf_28 : decode cX12_gainOf 28 = .ok (.iadd, 1) := by decide +kernel
theorem dX12_gainOf_29 : decode cX12_gainOf 29 = .ok (.iaload, 1) := by decide +kernel
theorem dX12_gainOf_30 : decode cX12_gainOf 30 = .ok (.iconst 1, 1) := by decide +kernel
theorem dX12_gainOf_31 : decode cX12_gainOf 31 = .ok (.if_icmp .ne 45, 3) := by decide +kernel
theorem dX12_gainOf_34 : decode cX12_gainOf 34 = .ok (.aload_n 0, 1) := by decide +kernel
theorem dX12_gainOf_35 : decode cX12_gainOf 35 = .ok (.getfield 55, 3) := by decide +kernel
theorem dX12_gainOf_38 : decode cX12_gainOf 38 = .ok (.iload_n 3, 1) := by decide +kernel
theorem dX12_gainOf_39 : decode cX12_gainOf 39 = .ok (.iconst 1, 1) := by decide +kernel
theorem dX12_gainOf_40 : decode cX12_gainOf 40 = .ok (.iadd, 1) := by decide +kernel
theorem dX12_gainOf_41 : decode cX12_gainOf 41 = .ok (.iaload, 1) := by decide +kernel
theorem dX12_gainOf_42 : decode cX12_gainOf 42 = .ok (.i2l, 1) := by decide +kernel
theorem dX12_gainOf_43 : decode cX12_gainOf 43 = .ok (.bipush 100, 2) := by decide +kernel
theorem dX12_gainOf_45 : decode cX12_gainOf 45 = .ok (.aload_n 0, 1) := by decide +kernel
theorem dX12_gainOf_46 : decode cX12_gainOf 46 = .ok (.getfield 52, 3) := by decide +kernel
theorem dX12_gainOf_49 : decode cX12_gainOf 49 = .ok (.iload_n 1, 1) := by decide +kernel
theorem dX12_gainOf_50 : decode cX12_gainOf 50 = .ok (.iaload, 1) := by decide +kernel
theorem dX12_gainOf_51 : decode cX12_gainOf 51 = .ok (.imul, 1) := by decide +kernel
theorem dX12_gainOf_52 : decode cX12_gainOf 52 = .ok (.iload 4, 2) := by decide +kernel
theorem dX12_gainOf_54 : decode cX12_gainOf 54 = .ok (.aload_n 0, 1) := by decide +kernel
theorem dX12_gainOf_55 : decode cX12_gainOf 55 = .ok (.iload_n 1, 1) := by decide +kernel
theorem dX12_gainOf_56 : decode cX12_gainOf 56 = .ok (.invokevirtual 327, 3) := by decide +kernel
theorem dX12_gainOf_59 : decode cX12_gainOf 59 = .ok (.imul, 1) := by decide +kernel
theorem dX12_gainOf_60 : decode cX12_gainOf 60 = .ok (.isub, 1) := by decide +kernel
theorem dX12_gainOf_61 : decode cX12_gainOf 61 = .ok (.i2l, 1) := by decide +kernel
theorem dX12_gainOf_62 : decode cX12_gainOf 62 = .ok (.lmul, 1) := by decide +kernel
theorem dX12_gainOf_63 : decode cX12_gainOf 63 = .ok (.bipush 100, 2) := by decide +kernel
theorem dX12_gainOf_65 : decode cX12_gainOf 65 = .ok (.aload_n 0, 1) := by decide +kernel
theorem dX12_gainOf_66 : decode cX12_gainOf 66 = .ok (.getfield 52, 3) := by decide +kernel
theorem dX12_gainOf_69 : decode cX12_gainOf 69 = .ok (.iload_n 1, 1) := by decide +kernel
theorem dX12_gainOf_70 : decode cX12_gainOf 70 = .ok (.iaload, 1) := by decide +kernel
theorem dX12_gainOf_71 : decode cX12_gainOf 71 = .ok (.imul, 1) := by decide +kernel
theorem dX12_gainOf_72 : decode cX12_gainOf 72 = .ok (.i2l, 1) := by decide +kernel
theorem dX12_gainOf_73 : decode cX12_gainOf 73 = .ok (.ldiv, 1) := by decide +kernel
theorem dX12_gainOf_74 : decode cX12_gainOf 74 = .ok (.l2i, 1) := by decide +kernel
theorem dX12_gainOf_75 : decode cX12_gainOf 75 = .ok (.ireturn, 1) := by decide +kernel
theorem dX12_gainOf_76 : decode cX12_gainOf 76 = .ok (.aload_n 0, 1) := by decide +kernel
theorem dX12_gainOf_77 : decode cX12_gainOf 77 = .ok (.getfield 55, 3) := by decide +kernel
theorem dX12_gainOf_80 : decode cX12_gainOf 80 = .ok (.iload_n 3, 1) := by decide +kernel
theorem dX12_gainOf_81 : decode cX12_gainOf 81 = .ok (.iconst 4, 1) := by decide +kernel
theorem dX12_gainOf_82 : decode cX12_gainOf 82 = .ok (.iadd, 1) := by decide +kernel
theorem dX12_gainOf_83 : decode cX12_gainOf 83 = .ok (.iaload, 1) := by decide +kernel
theorem dX12_gainOf_84 : decode cX12_gainOf 84 = .ok (.iconst 1, 1) := by decide +kernel
theorem dX12_gainOf_85 : decode cX12_gainOf 85 = .ok (.if_icmp .ne 23, 3) := by decide +kernel
theorem dX12_gainOf_88 : decode cX12_gainOf 88 = .ok (.aload_n 0, 1) := by decide +kernel
theorem dX12_gainOf_89 : decode cX12_gainOf 89 = .ok (.getfield 55, 3) := by decide +kernel
theorem dX12_gainOf_92 : decode cX12_gainOf 92 = .ok (.iload_n 3, 1) := by decide +kernel
theorem dX12_gainOf_93 : decode cX12_gainOf 93 = .ok (.iconst 1, 1) := by decide +kernel
theorem dX12_gainOf_94 : decode cX12_gainOf 94 = .ok (.iadd, 1) := by decide +kernel
theorem dX12_gainOf_95 : decode cX12_gainOf 95 = .ok (.iaload, 1) := by decide +kernel
theorem dX12_gainOf_96 : decode cX12_gainOf 96 = .ok (.bipush 100, 2) := by decide +kernel
theorem dX12_gainOf_98 : decode cX12_gainOf 98 = .ok (.iload 4, 2) := by decide +kernel
theorem dX12_gainOf_100 : decode cX12_gainOf 100 = .ok (.isub, 1) := by decide +kernel
theorem dX12_gainOf_101 : decode cX12_gainOf 101 = .ok (.imul, 1) := by decide +kernel
theorem dX12_gainOf_102 : decode cX12_gainOf 102 = .ok (.bipush 100, 2) := by decide +kernel
theorem dX12_gainOf_104 : decode cX12_gainOf 104 = .ok (.idiv, 1) := by decide +kernel
theorem dX12_gainOf_105 : decode cX12_gainOf 105 = .ok (.goto 11, 3) := by decide +kernel
theorem dX12_gainOf_108 : decode cX12_gainOf 108 = .ok (.aload_n 0, 1) := by decide +kernel
theorem dX12_gainOf_109 : decode cX12_gainOf 109 = .ok (.getfield 55, 3) := by decide +kernel
theorem dX12_gainOf_112 : decode cX12_gainOf 112 = .ok (.iload_n 3, 1) := by decide +kernel
theorem dX12_gainOf_113 : decode cX12_gainOf 113 = .ok (.iconst 1, 1) := by decide +kernel
theorem dX12_gainOf_114 : decode cX12_gainOf 114 = .ok (.iadd, 1) := by decide +kernel
theorem dX12_gainOf_115 : decode cX12_gainOf 115 = .ok (.iaload, 1) := by decide +kernel
theorem dX12_gainOf_116 : decode cX12_gainOf 116 = .ok (.ireturn, 1) := by decide +kernel
theorem dX12_trouble_0 : decode cX12_trouble 0 = .ok (.aload_n 0, 1) := by decide +kernel
theorem dX12_trouble_1 : decode cX12_trouble 1 = .ok (.iconst 0, 1) := by decide +kernel
theorem dX12_trouble_2 : decode cX12_trouble 2 = .ok (.putfield 114, 3) := by decide +kernel
theorem dX12_trouble_5 : decode cX12_trouble 5 = .ok (.aload_n 0, 1) := by decide +kernel
theorem dX12_trouble_6 : decode cX12_trouble 6 = .ok (.iload_n 1, 1) := by decide +kernel
theorem dX12_trouble_7 : decode cX12_trouble 7 = .ok (.invokevirtual 330, 3) := by decide +kernel
theorem dX12_trouble_10 : decode cX12_trouble 10 = .ok (.ifCond .eq 21, 3) := by decide +kernel
theorem dX12_trouble_13 : decode cX12_trouble 13 = .ok (.aload_n 0, 1) := by decide +kernel
theorem dX12_trouble_14 : decode cX12_trouble 14 = .ok (.iload_n 2, 1) := by decide +kernel
theorem dX12_trouble_15 : decode cX12_trouble 15 = .ok (.invokevirtual 318, 3) := by decide +kernel
theorem dX12_trouble_18 : decode cX12_trouble 18 = .ok (.ifCond .eq 13, 3) := by decide +kernel
theorem dX12_trouble_21 : decode cX12_trouble 21 = .ok (.aload_n 0, 1) := by decide +kernel
theorem dX12_trouble_22 : decode cX12_trouble 22 = .ok (.iload_n 1, 1) := by decide +kernel
theorem dX12_trouble_23 : decode cX12_trouble 23 = .ok (.iconst 0, 1) := by decide +kernel
theorem dX12_trouble_24 : decode cX12_trouble 24 = .ok (.iload_n 2, 1) := by decide +kernel
theorem dX12_trouble_25 : decode cX12_trouble 25 = .ok (.invokevirtual 333, 3) := by decide +kernel
theorem dX12_trouble_28 : decode cX12_trouble 28 = .ok (.goto 5, 3) := by decide +kernel
theorem dX12_trouble_31 : decode cX12_trouble 31 = .ok (.bipush (-2), 2) := by decide +kernel
theorem dX12_trouble_33 : decode cX12_trouble 33 = .ok (.ireturn, 1) := by decide +kernel
theorem dX12_gain_0 : decode cX12_gain 0 = .ok (.aload_n 0, 1) := by decide +kernel
theorem dX12_gain_1 : decode cX12_gain 1 = .ok (.iconst 0, 1) := by decide +kernel
theorem dX12_gain_2 : decode cX12_gain 2 = .ok (.putfield 114, 3) := by decide +kernel
theorem dX12_gain_5 : decode cX12_gain 5 = .ok (.aload_n 0, 1) := by decide +kernel
theorem dX12_gain_6 : decode cX12_gain 6 = .ok (.iload_n 1, 1) := by decide +kernel
theorem dX12_gain_7 : decode cX12_gain 7 = .ok (.invokevirtual 318, 3) := by decide +kernel
theorem dX12_gain_10 : decode cX12_gain 10 = .ok (.ifCond .eq 12, 3) := by decide +kernel
theorem dX12_gain_13 : decode cX12_gain 13 = .ok (.aload_n 0, 1) := by decide +kernel
theorem dX12_gain_14 : decode cX12_gain 14 = .ok (.iconst 0, 1) := by decide +kernel
theorem dX12_gain_15 : decode cX12_gain 15 = .ok (.iload_n 1, 1) := by decide +kernel
theorem dX12_gain_16 : decode cX12_gain 16 = .ok (.invokevirtual 337, 3) := by decide +kernel
theorem dX12_gain_19 : decode cX12_gain 19 = .ok (.goto 5, 3) := by decide +kernel
theorem dX12_gain_22 : decode cX12_gain 22 = .ok (.bipush (-2), 2) := by decide +kernel
theorem dX12_gain_24 : decode cX12_gain 24 = .ok (.ireturn, 1) := by decide +kernel
theorem dX12_lays_0 : decode cX12_lays 0 = .ok (.aload_n 0, 1) := by decide +kernel
theorem dX12_lays_1 : decode cX12_lays 1 = .ok (.aload_n 0, 1) := by decide +kernel
theorem dX12_lays_2 : decode cX12_lays 2 = .ok (.getfield 52, 3) := by decide +kernel
theorem dX12_lays_5 : decode cX12_lays 5 = .ok (.iconst 0, 1) := by decide +kernel
theorem dX12_lays_6 : decode cX12_lays 6 = .ok (.iaload, 1) := by decide +kernel
theorem dX12_lays_7 : decode cX12_lays 7 = .ok (.iload_n 1, 1) := by decide +kernel
theorem dX12_lays_8 : decode cX12_lays 8 = .ok (.ifCond .ge 7, 3) := by decide +kernel
theorem dX12_lays_11 : decode cX12_lays 11 = .ok (.iconst 0, 1) := by decide +kernel
theorem dX12_lays_12 : decode cX12_lays 12 = .ok (.goto 4, 3) := by decide +kernel
theorem dX12_lays_15 : decode cX12_lays 15 = .ok (.iconst 1, 1) := by decide +kernel
theorem dX12_lays_16 : decode cX12_lays 16 = .ok (.iadd, 1) := by decide +kernel
theorem dX12_lays_17 : decode cX12_lays 17 = .ok (.putfield 340, 3) := by decide +kernel
theorem dX12_lays_20 : decode cX12_lays 20 = .ok (.iconst 0, 1) := by decide +kernel
theorem dX12_lays_21 : decode cX12_lays 21 = .ok (.istore_n 2, 1) := by decide +kernel
theorem dX12_lays_22 : decode cX12_lays 22 = .ok (.iload_n 2, 1) := by decide +kernel
theorem dX12_lays_23 : decode cX12_lays 23 = .ok (.aload_n 0, 1) := by decide +kernel
theorem dX12_lays_24 : decode cX12_lays 24 = .ok (.getfield 58, 3) := by decide +kernel
theorem dX12_lays_27 : decode cX12_lays 27 = .ok (.iconst 0, 1) := by decide +kernel
theorem dX12_lays_28 : decode cX12_lays 28 = .ok (.iaload, 1) := by decide +kernel
theorem dX12_lays_29 : decode cX12_lays 29 = .ok (.if_icmp .ge 115, 3) := by decide +kernel
theorem dX12_lays_32 : decode cX12_lays 32 = .ok (.iconst 0, 1) := by decide +kernel
theorem dX12_lays_33 : decode cX12_lays 33 = .ok (.istore_n 3, 1) := by decide +kernel
theorem dX12_lays_34 : decode cX12_lays 34 = .ok (.iload_n 3, 1) := by decide +kernel
theorem dX12_lays_35 : decode cX12_lays 35 = .ok (.aload_n 0, 1) := by decide +kernel
theorem dX12_lays_36 : decode cX12_lays 36 = .ok (.getfield 52, 3) := by decide +kernel
theorem dX12_lays_39 : decode cX12_lays 39 = .ok (.iconst 0, 1) := by decide +kernel
theorem dX12_lays_40 : decode cX12_lays 40 = .ok (.iaload, 1) := by decide +kernel
theorem dX12_lays_41 : decode cX12_lays 41 = .ok (.if_icmp .ge 56, 3) := by decide +kernel
theorem dX12_lays_44 : decode cX12_lays 44 = .ok (.aload_n 0, 1) := by decide +kernel
theorem dX12_lays_45 : decode cX12_lays 45 = .ok (.getfield 77, 3) := by decide +kernel
theorem dX12_lays_48 : decode cX12_lays 48 = .ok (.bipush 11, 2) := by decide +kernel
theorem dX12_lays_50 : decode cX12_lays 50 = .ok (.iload_n 2, 1) := by decide +kernel
theorem dX12_lays_51 : decode cX12_lays 51 = .ok (.imul, 1) := by decide +kernel
theorem dX12_lays_52 : decode cX12_lays 52 = .ok (.iload_n 3, 1) := by decide +kernel
theorem dX12_lays_53 : decode cX12_lays 53 = .ok (.iadd, 1) := by decide +kernel
theorem dX12_lays_54 : decode cX12_lays 54 = .ok (.aload_n 0, 1) := by decide +kernel
theorem dX12_lays_55 : decode cX12_lays 55 = .ok (.iload_n 2, 1) := by decide +kernel
theorem dX12_lays_56 : decode cX12_lays 56 = .ok (.iconst 0, 1) := by decide +kernel
theorem dX12_lays_57 : decode cX12_lays 57 = .ok (.iload_n 3, 1) := by decide +kernel
theorem dX12_lays_58 : decode cX12_lays 58 = .ok (.invokevirtual 333, 3) := by decide +kernel
theorem dX12_lays_61 : decode cX12_lays 61 = .ok (.iastore, 1) := by decide +kernel
theorem dX12_lays_62 : decode cX12_lays 62 = .ok (.aload_n 0, 1) := by decide +kernel
theorem dX12_lays_63 : decode cX12_lays 63 = .ok (.getfield 80, 3) := by decide +kernel
theorem dX12_lays_66 : decode cX12_lays 66 = .ok (.bipush 11, 2) := by decide +kernel
theorem dX12_lays_68 : decode cX12_lays 68 = .ok (.iload_n 2, 1) := by decide +kernel
theorem dX12_lays_69 : decode cX12_lays 69 = .ok (.imul, 1) := by decide +kernel
theorem dX12_lays_70 : decode cX12_lays 70 = .ok (.iload_n 3, 1) := by decide +kernel
theorem dX12_lays_71 : decode cX12_lays 71 = .ok (.iadd, 1) := by decide +kernel
theorem dX12_lays_72 : decode cX12_lays 72 = .ok (.aload_n 0, 1) := by decide +kernel
theorem dX12_lays_73 : decode cX12_lays 73 = .ok (.iconst 0, 1) := by decide +kernel
theorem dX12_lays_74 : decode cX12_lays 74 = .ok (.iload_n 3, 1) := by decide +kernel
theorem dX12_lays_75 : decode cX12_lays 75 = .ok (.invokevirtual 337, 3) := by decide +kernel
theorem dX12_lays_78 : decode cX12_lays 78 = .ok (.aload_n 0, 1) := by decide +kernel
theorem dX12_lays_79 : decode cX12_lays 79 = .ok (.getfield 77, 3) := by decide +kernel
theorem dX12_lays_82 : decode cX12_lays 82 = .ok (.bipush 11, 2) := by decide +kernel
theorem dX12_lays_84 : decode cX12_lays 84 = .ok (.iload_n 2, 1) := by decide +kernel
theorem dX12_lays_85 : decode cX12_lays 85 = .ok (.imul, 1) := by decide +kernel
theorem dX12_lays_86 : decode cX12_lays 86 = .ok (.iload_n 3, 1) := by decide +kernel
theorem dX12_lays_87 : decode cX12_lays 87 = .ok (.iadd, 1) := by decide +kernel
theorem dX12_lays_88 : decode cX12_lays 88 = .ok (.iaload, 1) := by decide +kernel
theorem dX12_lays_89 : decode cX12_lays 89 = .ok (.isub, 1) := by decide +kernel
theorem dX12_lays_90 : decode cX12_lays 90 = .ok (.iastore, 1) := by decide +kernel
theorem dX12_lays_91 : decode cX12_lays 91 = .ok (.iinc 3 1, 3) := by decide +kernel
theorem dX12_lays_94 : decode cX12_lays 94 = .ok (.goto (-60), 3) := by decide +kernel
theorem dX12_lays_97 : decode cX12_lays 97 = .ok (.iload_n 1, 1) := by decide +kernel
theorem dX12_lays_98 : decode cX12_lays 98 = .ok (.ifCond .ge 6, 3) := by decide +kernel
theorem dX12_lays_101 : decode cX12_lays 101 = .ok (.goto 37, 3) := by decide +kernel
theorem dX12_lays_104 : decode cX12_lays 104 = .ok (.aload_n 0, 1) := by decide +kernel
theorem dX12_lays_105 : decode cX12_lays 105 = .ok (.getfield 77, 3) := by decide +kernel
theorem dX12_lays_108 : decode cX12_lays 108 = .ok (.bipush 11, 2) := by decide +kernel
theorem dX12_lays_110 : decode cX12_lays 110 = .ok (.iload_n 2, 1) := by decide +kernel
theorem dX12_lays_111 : decode cX12_lays 111 = .ok (.imul, 1) := by decide +kernel
theorem dX12_lays_112 : decode cX12_lays 112 = .ok (.aload_n 0, 1) := by decide +kernel
theorem dX12_lays_113 : decode cX12_lays 113 = .ok (.getfield 52, 3) := by decide +kernel
theorem dX12_lays_116 : decode cX12_lays 116 = .ok (.iconst 0, 1) := by decide +kernel
theorem dX12_lays_117 : decode cX12_lays 117 = .ok (.iaload, 1) := by decide +kernel
theorem dX12_lays_118 : decode cX12_lays 118 = .ok (.iadd, 1) := by decide +kernel
theorem dX12_lays_119 : decode cX12_lays 119 = .ok (.iconst 0, 1) := by decide +kernel
theorem dX12_lays_120 : decode cX12_lays 120 = .ok (.iastore, 1) := by decide +kernel
theorem dX12_lays_121 : decode cX12_lays 121 = .ok (.aload_n 0, 1) := by decide +kernel
theorem dX12_lays_122 : decode cX12_lays 122 = .ok (.getfield 80, 3) := by decide +kernel
theorem dX12_lays_125 : decode cX12_lays 125 = .ok (.bipush 11, 2) := by decide +kernel
theorem dX12_lays_127 : decode cX12_lays 127 = .ok (.iload_n 2, 1) := by decide +kernel
theorem dX12_lays_128 : decode cX12_lays 128 = .ok (.imul, 1) := by decide +kernel
theorem dX12_lays_129 : decode cX12_lays 129 = .ok (.aload_n 0, 1) := by decide +kernel
theorem dX12_lays_130 : decode cX12_lays 130 = .ok (.getfield 52, 3) := by decide +kernel
theorem dX12_lays_133 : decode cX12_lays 133 = .ok (.iconst 0, 1) := by decide +kernel
theorem dX12_lays_134 : decode cX12_lays 134 = .ok (.iaload, 1) := by decide +kernel
theorem dX12_lays_135 : decode cX12_lays 135 = .ok (.iadd, 1) := by decide +kernel
theorem dX12_lays_136 : decode cX12_lays 136 = .ok (.iload_n 1, 1) := by decide +kernel
theorem dX12_lays_137 : decode cX12_lays 137 = .ok (.iastore, 1) := by decide +kernel
theorem dX12_lays_138 : decode cX12_lays 138 = .ok (.iinc 2 1, 3) := by decide +kernel
theorem dX12_lays_141 : decode cX12_lays 141 = .ok (.goto (-119), 3) := by decide +kernel
theorem dX12_lays_144 : decode cX12_lays 144 = .ok (.return_, 1) := by decide +kernel
theorem dX12_takesOf_0 : decode cX12_takesOf 0 = .ok (.aload_n 0, 1) := by decide +kernel
theorem dX12_takesOf_1 : decode cX12_takesOf 1 = .ok (.getfield 61, 3) := by decide +kernel
theorem dX12_takesOf_4 : decode cX12_takesOf 4 = .ok (.iconst 5, 1) := by decide +kernel
theorem dX12_takesOf_5 : decode cX12_takesOf 5 = .ok (.iload_n 1, 1) := by decide +kernel
theorem dX12_takesOf_6 : decode cX12_takesOf 6 = .ok (.imul, 1) := by decide +kernel
theorem dX12_takesOf_7 : decode cX12_takesOf 7 = .ok (.iconst 3, 1) := by decide +kernel
theorem dX12_takesOf_8 : decode cX12_takesOf 8 = .ok (.iadd, 1) := by decide +kernel
theorem dX12_takesOf_9 : decode cX12_takesOf 9 = .ok (.iaload, 1) := by decide +kernel
theorem dX12_takesOf_10 : decode cX12_takesOf 10 = .ok (.istore_n 3, 1) := by decide +kernel
theorem dX12_takesOf_11 : decode cX12_takesOf 11 = .ok (.iconst (-1), 1) := by decide +kernel
theorem dX12_takesOf_12 : decode cX12_takesOf 12 = .ok (.istore 4, 2) := by decide +kernel
theorem dX12_takesOf_14 : decode cX12_takesOf 14 = .ok (.iconst 0, 1) := by decide +kernel
theorem dX12_takesOf_15 : decode cX12_takesOf 15 = .ok (.istore 5, 2) := by decide +kernel
theorem dX12_takesOf_17 : decode cX12_takesOf 17 = .ok (.iload 5, 2) := by decide +kernel
theorem dX12_takesOf_19 : decode cX12_takesOf 19 = .ok (.aload_n 0, 1) := by decide +kernel
theorem dX12_takesOf_20 : decode cX12_takesOf 20 = .ok (.getfield 340, 3) := by decide +kernel
theorem dX12_takesOf_23 : decode cX12_takesOf 23 = .ok (.if_icmp .ge 125, 3) := by decide +kernel
theorem dX12_takesOf_26 : decode cX12_takesOf 26 = .ok (.bipush 11, 2) := by decide +kernel
theorem dX12_takesOf_28 : decode cX12_takesOf 28 = .ok (.iload_n 1, 1) := by decide +kernel
theorem dX12_takesOf_29 : decode cX12_takesOf 29 = .ok (.imul, 1) := by decide +kernel
theorem dX12_takesOf_30 : decode cX12_takesOf 30 = .ok (.iload 5, 2) := by decide +kernel
theorem dX12_takesOf_32 : decode cX12_takesOf 32 = .ok (.iadd, 1) := by decide +kernel
theorem dX12_takesOf_33 : decode cX12_takesOf 33 = .ok (.istore 6, 2) := by decide +kernel
theorem dX12_takesOf_35 : decode cX12_takesOf 35 = .ok (.iload_n 2, 1) := by decide +kernel
theorem dX12_takesOf_36 : decode cX12_takesOf 36 = .ok (.iload 5, 2) := by decide +kernel
theorem dX12_takesOf_38 : decode cX12_takesOf 38 = .ok (.ishr, 1) := by decide +kernel
theorem dX12_takesOf_39 : decode cX12_takesOf 39 = .ok (.iconst 1, 1) := by decide +kernel
theorem dX12_takesOf_40 : decode cX12_takesOf 40 = .ok (.iand, 1) := by decide +kernel
theorem dX12_takesOf_41 : decode cX12_takesOf 41 = .ok (.iconst 1, 1) := by decide +kernel
theorem dX12_takesOf_42 : decode cX12_takesOf 42 = .ok (.if_icmp .eq 100, 3) := by decide +kernel
theorem dX12_takesOf_45 : decode cX12_takesOf 45 = .ok (.aload_n 0, 1) := by decide +kernel
theorem dX12_takesOf_46 : decode cX12_takesOf 46 = .ok (.getfield 80, 3) := by decide +kernel
theorem dX12_takesOf_49 : decode cX12_takesOf 49 = .ok (.iload 6, 2) := by decide +kernel
theorem dX12_takesOf_51 : decode cX12_takesOf 51 = .ok (.iaload, 1) := by decide +kernel
theorem dX12_takesOf_52 : decode cX12_takesOf 52 = .ok (.ifCond .gt 6, 3) := by decide +kernel
theorem dX12_takesOf_55 : decode cX12_takesOf 55 = .ok (.goto 87, 3) := by decide +kernel
theorem dX12_takesOf_58 : decode cX12_takesOf 58 = .ok (.iload_n 3, 1) := by decide +kernel
theorem dX12_takesOf_59 : decode cX12_takesOf 59 = .ok (.iconst 2, 1) := by decide +kernel
theorem dX12_takesOf_60 : decode cX12_takesOf 60 = .ok (.if_icmp .ne 21, 3) := by decide +kernel
theorem dX12_takesOf_63 : decode cX12_takesOf 63 = .ok (.iload 5, 2) := by decide +kernel
theorem dX12_takesOf_65 : decode cX12_takesOf 65 = .ok (.aload_n 0, 1) := by decide +kernel
theorem dX12_takesOf_66 : decode cX12_takesOf 66 = .ok (.getfield 61, 3) := by decide +kernel
theorem dX12_takesOf_69 : decode cX12_takesOf 69 = .ok (.iconst 5, 1) := by decide +kernel
theorem dX12_takesOf_70 : decode cX12_takesOf 70 = .ok (.iload_n 1, 1) := by decide +kernel
theorem dX12_takesOf_71 : decode cX12_takesOf 71 = .ok (.imul, 1) := by decide +kernel
theorem dX12_takesOf_72 : decode cX12_takesOf 72 = .ok (.iconst 4, 1) := by decide +kernel
theorem dX12_takesOf_73 : decode cX12_takesOf 73 = .ok (.iadd, 1) := by decide +kernel
theorem dX12_takesOf_74 : decode cX12_takesOf 74 = .ok (.iaload, 1) := by decide +kernel
theorem dX12_takesOf_75 : decode cX12_takesOf 75 = .ok (.if_icmp .ne 67, 3) := by decide +kernel
theorem dX12_takesOf_78 : decode cX12_takesOf 78 = .ok (.iload 5, 2) := by decide +kernel
theorem dX12_takesOf_80 : decode cX12_takesOf 80 = .ok (.ireturn, 1) := by decide +kernel
theorem dX12_takesOf_81 : decode cX12_takesOf 81 = .ok (.iload 4, 2) := by decide +kernel
theorem dX12_takesOf_83 : decode cX12_takesOf 83 = .ok (.iconst (-1), 1) := by decide +kernel
theorem dX12_takesOf_84 : decode cX12_takesOf 84 = .ok (.if_icmp .eq 54, 3) := by decide +kernel
theorem dX12_takesOf_87 : decode cX12_takesOf 87 = .ok (.iload_n 3, 1) := by decide +kernel
theorem dX12_takesOf_88 : decode cX12_takesOf 88 = .ok (.ifCond .ne 28, 3) := by decide +kernel
theorem dX12_takesOf_91 : decode cX12_takesOf 91 = .ok (.aload_n 0, 1) := by decide +kernel
theorem dX12_takesOf_92 : decode cX12_takesOf 92 = .ok (.getfield 80, 3) := by decide +kernel
theorem dX12_takesOf_95 : decode cX12_takesOf 95 = .ok (.iload 6, 2) := by decide +kernel
theorem dX12_takesOf_97 : decode cX12_takesOf 97 = .ok (.iaload, 1) := by decide +kernel
theorem dX12_takesOf_98 : decode cX12_takesOf 98 = .ok (.aload_n 0, 1) := by decide +kernel
theorem dX12_takesOf_99 : decode cX12_takesOf 99 = .ok (.getfield 80, 3) := by decide +kernel
theorem dX12_takesOf_102 : decode cX12_takesOf 102 = .ok (.bipush 11, 2) := by decide +kernel
theorem dX12_takesOf_104 : decode cX12_takesOf 104 = .ok (.iload_n 1, 1) := by decide +kernel
theorem dX12_takesOf_105 : decode cX12_takesOf 105 = .ok (.imul, 1) := by decide +kernel
theorem dX12_takesOf_106 : decode cX12_takesOf 106 = .ok (.iload 4, 2) := by decide +kernel
theorem dX12_takesOf_108 : decode cX12_takesOf 108 = .ok (.iadd, 1) := by decide +kernel
theorem dX12_takesOf_109 : decode cX12_takesOf 109 = .ok (.iaload, 1) := by decide +kernel
theorem dX12_takesOf_110 : decode cX12_takesOf 110 = .ok (.if_icmp .le 32, 3) := by decide +kernel
theorem dX12_takesOf_113 : decode cX12_takesOf 113 = .ok (.goto 25, 3) := by decide +kernel
theorem dX12_takesOf_116 : decode cX12_takesOf 116 = .ok (.aload_n 0, 1) := by decide +kernel
theorem dX12_takesOf_117 : decode cX12_takesOf 117 = .ok (.getfield 77, 3) := by decide +kernel
theorem dX12_takesOf_120 : decode cX12_takesOf 120 = .ok (.iload 6, 2) := by decide +kernel
theorem dX12_takesOf_122 : decode cX12_takesOf 122 = .ok (.iaload, 1) := by decide +kernel
theorem dX12_takesOf_123 : decode cX12_takesOf 123 = .ok (.aload_n 0, 1) := by decide +kernel
theorem dX12_takesOf_124 : decode cX12_takesOf 124 = .ok (.getfield 77, 3) := by decide +kernel
theorem dX12_takesOf_127 : decode cX12_takesOf 127 = .ok (.bipush 11, 2) := by decide +kernel
theorem dX12_takesOf_129 : decode cX12_takesOf 129 = .ok (.iload_n 1, 1) := by decide +kernel
theorem dX12_takesOf_130 : decode cX12_takesOf 130 = .ok (.imul, 1) := by decide +kernel
theorem dX12_takesOf_131 : decode cX12_takesOf 131 = .ok (.iload 4, 2) := by decide +kernel
theorem dX12_takesOf_133 : decode cX12_takesOf 133 = .ok (.iadd, 1) := by decide +kernel
theorem dX12_takesOf_134 : decode cX12_takesOf 134 = .ok (.iaload, 1) := by decide +kernel
theorem dX12_takesOf_135 : decode cX12_takesOf 135 = .ok (.if_icmp .ge 7, 3) := by decide +kernel
theorem dX12_takesOf_138 : decode cX12_takesOf 138 = .ok (.iload 5, 2) := by decide +kernel
theorem dX12_takesOf_140 : decode cX12_takesOf 140 = .ok (.istore 4, 2) := by decide +kernel
theorem dX12_takesOf_142 : decode cX12_takesOf 142 = .ok (.iinc 5 1, 3) := by decide +kernel
theorem dX12_takesOf_145 : decode cX12_takesOf 145 = .ok (.goto (-128), 3) := by decide +kernel
theorem dX12_takesOf_148 : decode cX12_takesOf 148 = .ok (.iload 4, 2) := by decide +kernel
theorem dX12_takesOf_150 : decode cX12_takesOf 150 = .ok (.ireturn, 1) := by decide +kernel
theorem dX12_takes__0 : decode cX12_takes_ 0 = .ok (.aload_n 0, 1) := by decide +kernel
theorem dX12_takes__1 : decode cX12_takes_ 1 = .ok (.iconst 0, 1) := by decide +kernel
theorem dX12_takes__2 : decode cX12_takes_ 2 = .ok (.putfield 114, 3) := by decide +kernel
theorem dX12_takes__5 : decode cX12_takes_ 5 = .ok (.aload_n 0, 1) := by decide +kernel
theorem dX12_takes__6 : decode cX12_takes_ 6 = .ok (.iload_n 1, 1) := by decide +kernel
theorem dX12_takes__7 : decode cX12_takes_ 7 = .ok (.invokevirtual 330, 3) := by decide +kernel
theorem dX12_takes__10 : decode cX12_takes_ 10 = .ok (.ifCond .eq 23, 3) := by decide +kernel
theorem dX12_takes__13 : decode cX12_takes_ 13 = .ok (.iload_n 2, 1) := by decide +kernel
theorem dX12_takes__14 : decode cX12_takes_ 14 = .ok (.i2l, 1) := by decide +kernel
theorem dX12_takes__15 : decode cX12_takes_ 15 = .ok (.lconst 0, 1) := by decide +kernel
theorem dX12_takes__16 : decode cX12_takes_ 16 = .ok (.iconst 1, 1) := by decide +kernel
theorem dX12_takes__17 : decode cX12_takes_ 17 = .ok (.aload_n 0, 1) := by decide +kernel
theorem dX12_takes__18 : decode cX12_takes_ 18 = .ok (.getfield 52, 3) := by decide +kernel
theorem dX12_takes__21 : decode cX12_takes_ 21 = .ok (.iconst 0, 1) := by decide +kernel
theorem dX12_takes__22 : decode cX12_takes_ 22 = .ok (.iaload, 1) := by decide +kernel
theorem dX12_takes__23 : decode cX12_takes_ 23 = .ok (.ishl, 1) := by decide +kernel
theorem dX12_takes__24 : decode cX12_takes_ 24 = .ok (.iconst 1, 1) := by decide +kernel
theorem dX12_takes__25 : decode cX12_takes_ 25 = .ok (.isub, 1) := by decide +kernel
theorem dX12_takes__26 : decode cX12_takes_ 26 = .ok (.i2l, 1) := by decide +kernel
theorem dX12_takes__27 : decode cX12_takes_ 27 = .ok (.invokestatic 119, 3) := by decide +kernel
theorem dX12_takes__30 : decode cX12_takes_ 30 = .ok (.ifCond .ne 6, 3) := by decide +kernel
theorem dX12_takes__33 : decode cX12_takes_ 33 = .ok (.bipush (-2), 2) := by decide +kernel
theorem dX12_takes__35 : decode cX12_takes_ 35 = .ok (.ireturn, 1) := by decide +kernel
theorem dX12_takes__36 : decode cX12_takes_ 36 = .ok (.aload_n 0, 1) := by decide +kernel
theorem dX12_takes__37 : decode cX12_takes_ 37 = .ok (.iconst (-1), 1) := by decide +kernel
theorem dX12_takes__38 : decode cX12_takes_ 38 = .ok (.invokevirtual 343, 3) := by decide +kernel
theorem dX12_takes__41 : decode cX12_takes_ 41 = .ok (.aload_n 0, 1) := by decide +kernel
theorem dX12_takes__42 : decode cX12_takes_ 42 = .ok (.iload_n 1, 1) := by decide +kernel
theorem dX12_takes__43 : decode cX12_takes_ 43 = .ok (.iload_n 2, 1) := by decide +kernel
theorem dX12_takes__44 : decode cX12_takes_ 44 = .ok (.invokevirtual 346, 3) := by decide +kernel
theorem dX12_takes__47 : decode cX12_takes_ 47 = .ok (.ireturn, 1) := by decide +kernel
theorem dX12_wantsOf_0 : decode cX12_wantsOf 0 = .ok (.iconst 0, 1) := by decide +kernel
theorem dX12_wantsOf_1 : decode cX12_wantsOf 1 = .ok (.istore_n 2, 1) := by decide +kernel
theorem dX12_wantsOf_2 : decode cX12_wantsOf 2 = .ok (.iconst 0, 1) := by decide +kernel
theorem dX12_wantsOf_3 : decode cX12_wantsOf 3 = .ok (.istore_n 3, 1) := by decide +kernel
theorem dX12_wantsOf_4 : decode cX12_wantsOf 4 = .ok (.iload_n 3, 1) := by decide +kernel
theorem dX12_wantsOf_5 : decode cX12_wantsOf 5 = .ok (.aload_n 0, 1) := by decide +kernel
theorem dX12_wantsOf_6 : decode cX12_wantsOf 6 = .ok (.getfield 52, 3) := by decide +kernel
theorem dX12_wantsOf_9 : decode cX12_wantsOf 9 = .ok (.iconst 0, 1) := by decide +kernel
theorem dX12_wantsOf_10 : decode cX12_wantsOf 10 = .ok (.iaload, 1) := by decide +kernel
theorem dX12_wantsOf_11 : decode cX12_wantsOf 11 = .ok (.if_icmp .ge 31, 3) := by decide +kernel
theorem dX12_wantsOf_14 : decode cX12_wantsOf 14 = .ok (.iload_n 2, 1) := by decide +kernel
theorem dX12_wantsOf_15 : decode cX12_wantsOf 15 = .ok (.aload_n 0, 1) := by decide +kernel
theorem dX12_wantsOf_16 : decode cX12_wantsOf 16 = .ok (.getfield 80, 3) := by decide +kernel
theorem dX12_wantsOf_19 : decode cX12_wantsOf 19 = .ok (.bipush 11, 2) := by decide +kernel
theorem dX12_wantsOf_21 : decode cX12_wantsOf 21 = .ok (.iload_n 1, 1) := by decide +kernel
theorem dX12_wantsOf_22 : decode cX12_wantsOf 22 = .ok (.imul, 1) := by decide +kernel
theorem dX12_wantsOf_23 : decode cX12_wantsOf 23 = .ok (.iload_n 3, 1) := by decide +kernel
theorem dX12_wantsOf_24 : decode cX12_wantsOf 24 = .ok (.iadd, 1) := by decide +kernel
theorem dX12_wantsOf_25 : decode cX12_wantsOf 25 = .ok (.iaload, 1) := by decide +kernel
theorem dX12_wantsOf_26 : decode cX12_wantsOf 26 = .ok (.ifCond .le 7, 3) := by decide +kernel
theorem dX12_wantsOf_29 : decode cX12_wantsOf 29 = .ok (.iconst 1, 1) := by decide +kernel
theorem dX12_wantsOf_30 : decode cX12_wantsOf 30 = .ok (.goto 4, 3) := by decide +kernel
theorem dX12_wantsOf_33 : decode cX12_wantsOf 33 = .ok (.iconst 0, 1) := by decide +kernel
theorem dX12_wantsOf_34 : decode cX12_wantsOf 34 = .ok (.iadd, 1) := by decide +kernel
theorem dX12_wantsOf_35 : decode cX12_wantsOf 35 = .ok (.istore_n 2, 1) := by decide +kernel
theorem dX12_wantsOf_36 : decode cX12_wantsOf 36 = .ok (.iinc 3 1, 3) := by decide +kernel
theorem dX12_wantsOf_39 : decode cX12_wantsOf 39 = .ok (.goto (-35), 3) := by decide +kernel
theorem dX12_wantsOf_42 : decode cX12_wantsOf 42 = .ok (.iload_n 2, 1) := by decide +kernel
theorem dX12_wantsOf_43 : decode cX12_wantsOf 43 = .ok (.ireturn, 1) := by decide +kernel
theorem dX12_wants_0 : decode cX12_wants 0 = .ok (.aload_n 0, 1) := by decide +kernel
theorem dX12_wants_1 : decode cX12_wants 1 = .ok (.iconst 0, 1) := by decide +kernel
theorem dX12_wants_2 : decode cX12_wants 2 = .ok (.putfield 114, 3) := by decide +kernel
theorem dX12_wants_5 : decode cX12_wants 5 = .ok (.aload_n 0, 1) := by decide +kernel
theorem dX12_wants_6 : decode cX12_wants 6 = .ok (.iload_n 1, 1) := by decide +kernel
theorem dX12_wants_7 : decode cX12_wants 7 = .ok (.invokevirtual 330, 3) := by decide +kernel
theorem dX12_wants_10 : decode cX12_wants 10 = .ok (.ifCond .ne 6, 3) := by decide +kernel
theorem dX12_wants_13 : decode cX12_wants 13 = .ok (.bipush (-2), 2) := by decide +kernel
theorem dX12_wants_15 : decode cX12_wants 15 = .ok (.ireturn, 1) := by decide +kernel
theorem dX12_wants_16 : decode cX12_wants 16 = .ok (.aload_n 0, 1) := by decide +kernel
theorem dX12_wants_17 : decode cX12_wants 17 = .ok (.iconst (-1), 1) := by decide +kernel
theorem dX12_wants_18 : decode cX12_wants 18 = .ok (.invokevirtual 343, 3) := by decide +kernel
theorem dX12_wants_21 : decode cX12_wants 21 = .ok (.aload_n 0, 1) := by decide +kernel
theorem dX12_wants_22 : decode cX12_wants 22 = .ok (.iload_n 1, 1) := by decide +kernel
theorem dX12_wants_23 : decode cX12_wants 23 = .ok (.invokevirtual 349, 3) := by decide +kernel
theorem dX12_wants_26 : decode cX12_wants 26 = .ok (.ireturn, 1) := by decide +kernel
theorem dX12_night_0 : decode cX12_night 0 = .ok (.aload_n 0, 1) := by decide +kernel
theorem dX12_night_1 : decode cX12_night 1 = .ok (.iconst (-1), 1) := by decide +kernel
theorem dX12_night_2 : decode cX12_night 2 = .ok (.invokevirtual 343, 3) := by decide +kernel
theorem dX12_night_5 : decode cX12_night 5 = .ok (.iconst 1, 1) := by decide +kernel
theorem dX12_night_6 : decode cX12_night 6 = .ok (.aload_n 0, 1) := by decide +kernel
theorem dX12_night_7 : decode cX12_night 7 = .ok (.getfield 52, 3) := by decide +kernel
theorem dX12_night_10 : decode cX12_night 10 = .ok (.iconst 0, 1) := by decide +kernel
theorem dX12_night_11 : decode cX12_night 11 = .ok (.iaload, 1) := by decide +kernel
theorem dX12_night_12 : decode cX12_night 12 = .ok (.ishl, 1) := by decide +kernel
theorem dX12_night_13 : decode cX12_night 13 = .ok (.istore_n 1, 1) := by decide +kernel
theorem dX12_night_14 : decode cX12_night 14 = .ok (.iconst 0, 1) := by decide +kernel
theorem dX12_night_15 : decode cX12_night 15 = .ok (.istore_n 2, 1) := by decide +kernel
theorem dX12_night_16 : decode cX12_night 16 = .ok (.iload_n 2, 1) := by decide +kernel
theorem dX12_night_17 : decode cX12_night 17 = .ok (.iload_n 1, 1) := by decide +kernel
theorem dX12_night_18 : decode cX12_night 18 = .ok (.if_icmp .ge 26, 3) := by decide +kernel
theorem dX12_night_21 : decode cX12_night 21 = .ok (.aload_n 0, 1) := by decide +kernel
theorem dX12_night_22 : decode cX12_night 22 = .ok (.getfield 83, 3) := by decide +kernel
theorem dX12_night_25 : decode cX12_night 25 = .ok (.iload_n 2, 1) := by decide +kernel
theorem dX12_night_26 : decode cX12_night 26 = .ok (.iload_n 2, 1) := by decide +kernel
theorem dX12_night_27 : decode cX12_night 27 = .ok (.ifCond .ne 9, 3) := by decide +kernel
theorem dX12_night_30 : decode cX12_night 30 = .ok (.ldc2_w 352, 3) := by decide +kernel
theorem dX12_night_33 : decode cX12_night 33 = .ok (.goto 4, 3) := by decide +kernel
theorem dX12_night_36 : decode cX12_night 36 = .ok (.lconst 0, 1) := by decide +kernel
theorem dX12_night_37 : decode cX12_night 37 = .ok (.lastore, 1) := by decide +kernel
theorem dX12_night_38 : decode cX12_night 38 = .ok (.iinc 2 1, 3) := by decide +kernel
theorem dX12_night_41 : decode cX12_night 41 = .ok (.goto (-25), 3) := by decide +kernel
theorem dX12_night_44 : decode cX12_night 44 = .ok (.iconst 0, 1) := by decide +kernel
theorem dX12_night_45 : decode cX12_night 45 = .ok (.istore_n 2, 1) := by decide +kernel
theorem dX12_night_46 : decode cX12_night 46 = .ok (.iload_n 2, 1) := by decide +kernel
theorem dX12_night_47 : decode cX12_night 47 = .ok (.bipush 60, 2) := by decide +kernel
theorem dX12_night_49 : decode cX12_night 49 = .ok (.if_icmp .ge 16, 3) := by decide +kernel
theorem dX12_night_52 : decode cX12_night 52 = .ok (.aload_n 0, 1) := by decide +kernel
theorem dX12_night_53 : decode cX12_night 53 = .ok (.getfield 89, 3) := by decide +kernel
theorem dX12_night_56 : decode cX12_night 56 = .ok (.iload_n 2, 1) := by decide +kernel
theorem dX12_night_57 : decode cX12_night 57 = .ok (.lconst 0, 1) := by decide +kernel
theorem dX12_night_58 : decode cX12_night 58 = .ok (.lastore, 1) := by decide +kernel
theorem dX12_night_59 : decode cX12_night 59 = .ok (.iinc 2 1, 3) := by decide +kernel
theorem dX12_night_62 : decode cX12_night 62 = .ok (.goto (-16), 3) := by decide +kernel
theorem dX12_night_65 : decode cX12_night 65 = .ok (.iconst 0, 1) := by decide +kernel
theorem dX12_night_66 : decode cX12_night 66 = .ok (.istore_n 2, 1) := by decide +kernel
theorem dX12_night_67 : decode cX12_night 67 = .ok (.iload_n 2, 1) := by decide +kernel
theorem dX12_night_68 : decode cX12_night 68 = .ok (.aload_n 0, 1) := by decide +kernel
theorem dX12_night_69 : decode cX12_night 69 = .ok (.getfield 58, 3) := by decide +kernel
theorem dX12_night_72 : decode cX12_night 72 = .ok (.iconst 0, 1) := by decide +kernel
theorem dX12_night_73 : decode cX12_night 73 = .ok (.iaload, 1) := by decide +kernel
theorem dX12_night_74 : decode cX12_night 74 = .ok (.if_icmp .ge 150, 3) := by decide +kernel
theorem dX12_night_77 : decode cX12_night 77 = .ok (.iconst 0, 1) := by decide +kernel
theorem dX12_night_78 : decode cX12_night 78 = .ok (.istore_n 3, 1) := by decide +kernel
theorem dX12_night_79 : decode cX12_night 79 = .ok (.iload_n 3, 1) := by decide +kernel
theorem dX12_night_80 : decode cX12_night 80 = .ok (.iload_n 1, 1) := by decide +kernel
theorem dX12_night_81 : decode cX12_night 81 = .ok (.if_icmp .ge 37, 3) := by decide +kernel
theorem dX12_night_84 : decode cX12_night 84 = .ok (.aload_n 0, 1) := by decide +kernel
theorem dX12_night_85 : decode cX12_night 85 = .ok (.getfield 86, 3) := by decide +kernel
theorem dX12_night_88 : decode cX12_night 88 = .ok (.iload_n 3, 1) := by decide +kernel
theorem dX12_night_89 : decode cX12_night 89 = .ok (.aload_n 0, 1) := by decide +kernel
theorem dX12_night_90 : decode cX12_night 90 = .ok (.getfield 83, 3) := by decide +kernel
theorem dX12_night_93 : decode cX12_night 93 = .ok (.iload_n 3, 1) := by decide +kernel
theorem dX12_night_94 : decode cX12_night 94 = .ok (.laload, 1) := by decide +kernel
theorem dX12_night_95 : decode cX12_night 95 = .ok (.aload_n 0, 1) := by decide +kernel
theorem dX12_night_96 : decode cX12_night 96 = .ok (.getfield 61, 3) := by decide +kernel
theorem dX12_night_99 : decode cX12_night 99 = .ok (.iconst 5, 1) := by decide +kernel
theorem dX12_night_100 : decode cX12_night 100 = .ok (.iload_n 2, 1) := by decide +kernel
theorem dX12_night_101 : decode cX12_night 101 = .ok (.imul, 1) := by decide +kernel
theorem dX12_night_102 : decode cX12_night 102 = .ok (.iconst 1, 1) := by decide +kernel
theorem dX12_night_103 : decode cX12_night 103 = .ok (.iadd, 1) := by decide +kernel
theorem dX12_night_104 : decode cX12_night 104 = .ok (.iaload, 1) := by decide +kernel
theorem dX12_night_105 : decode cX12_night 105 = .ok (.i2l, 1) := by decide +kernel
theorem dX12_night_106 : decode cX12_night 106 = .ok (.lmul, 1) := by decide +kernel
theorem dX12_night_107 : decode cX12_night 107 = .ok (.ldc2_w 325, 3) := by decide +kernel
theorem dX12_night_110 : decode cX12_night 110 = .ok (.ldiv, 1) := by decide +kernel
theorem dX12_night_111 : decode cX12_night 111 = .ok (.lastore, 1) := by decide +kernel
theorem dX12_night_112 : decode cX12_night 112 = .ok (.iinc 3 1, 3) := by decide +kernel
theorem dX12_night_115 : decode cX12_night 115 = .ok (.goto (-36), 3) := by decide +kernel
theorem dX12_night_118 : decode cX12_night 118 = .ok (.iconst 0, 1) := by decide +kernel
theorem dX12_night_119 : decode cX12_night 119 = .ok (.istore_n 3, 1) := by decide +kernel
theorem dX12_night_120 : decode cX12_night 120 = .ok (.iload_n 3, 1) := by decide +kernel
theorem dX12_night_121 : decode cX12_night 121 = .ok (.iload_n 1, 1) := by decide +kernel
theorem dX12_night_122 : decode cX12_night 122 = .ok (.if_icmp .ge 96, 3) := by decide +kernel
theorem dX12_night_125 : decode cX12_night 125 = .ok (.aload_n 0, 1) := by decide +kernel
theorem dX12_night_126 : decode cX12_night 126 = .ok (.getfield 86, 3) := by decide +kernel
theorem dX12_night_129 : decode cX12_night 129 = .ok (.iload_n 3, 1) := by decide +kernel
theorem dX12_night_130 : decode cX12_night 130 = .ok (.laload, 1) := by decide +kernel
theorem dX12_night_131 : decode cX12_night 131 = .ok (.lconst 0, 1) := by decide +kernel
theorem dX12_night_132 : decode cX12_night 132 = .ok (.lcmp, 1) := by decide +kernel
theorem dX12_night_133 : decode cX12_night 133 = .ok (.ifCond .ne 6, 3) := by decide +kernel
theorem dX12_night_136 : decode cX12_night 136 = .ok (.goto 76, 3) := by decide +kernel
theorem dX12_night_139 : decode cX12_night 139 = .ok (.aload_n 0, 1) := by decide +kernel
theorem dX12_night_140 : decode cX12_night 140 = .ok (.iload_n 2, 1) := by decide +kernel
theorem dX12_night_141 : decode cX12_night 141 = .ok (.iload_n 3, 1) := by decide +kernel
theorem dX12_night_142 : decode cX12_night 142 = .ok (.invokevirtual 346, 3) := by decide +kernel
theorem dX12_night_145 : decode cX12_night 145 = .ok (.istore 4, 2) := by decide +kernel
theorem dX12_night_147 : decode cX12_night 147 = .ok (.iload 4, 2) := by decide +kernel
theorem dX12_night_149 : decode cX12_night 149 = .ok (.iconst (-1), 1) := by decide +kernel
theorem dX12_night_150 : decode cX12_night 150 = .ok (.if_icmp .ne 6, 3) := by decide +kernel
theorem dX12_night_153 : decode cX12_night 153 = .ok (.goto 59, 3) := by decide +kernel
theorem dX12_night_156 : decode cX12_night 156 = .ok (.aload_n 0, 1) := by decide +kernel
theorem dX12_night_157 : decode cX12_night 157 = .ok (.getfield 83, 3) := by decide +kernel
theorem dX12_night_160 : decode cX12_night 160 = .ok (.iload_n 3, 1) := by decide +kernel
theorem dX12_night_161 : decode cX12_night 161 = .ok (.dup2, 1) := by decide +kernel
theorem dX12_night_162 : decode cX12_night 162 = .ok (.laload, 1) := by decide +kernel
theorem dX12_night_163 : decode cX12_night 163 = .ok (.aload_n 0, 1) := by decide +kernel
theorem dX12_night_164 : decode cX12_night 164 = .ok (.getfield 86, 3) := by decide +kernel
theorem dX12_night_167 : decode cX12_night 167 = .ok (.iload_n 3, 1) := by decide +kernel
theorem dX12_night_168 : decode cX12_night 168 = .ok (.laload, 1) := by decide +kernel
theorem dX12_night_169 : decode cX12_night 169 = .ok (.lsub, 1) := by decide +kernel
theorem dX12_night_170 : decode cX12_night 170 = .ok (.lastore, 1) := by decide +kernel
theorem dX12_night_171 : decode cX12_night 171 = .ok (.aload_n 0, 1) := by decide +kernel
theorem dX12_night_172 : decode cX12_night 172 = .ok (.getfield 83, 3) := by decide +kernel
theorem dX12_night_175 : decode cX12_night 175 = .ok (.iload_n 3, 1) := by decide +kernel
theorem dX12_night_176 : decode cX12_night 176 = .ok (.iconst 1, 1) := by decide +kernel
theorem dX12_night_177 : decode cX12_night 177 = .ok (.iload 4, 2) := by decide +kernel
theorem dX12_night_179 : decode cX12_night 179 = .ok (.ishl, 1) := by decide +kernel
theorem dX12_night_180 : decode cX12_night 180 = .ok (.ior, 1) := by decide +kernel
theorem dX12_night_181 : decode cX12_night 181 = .ok (.dup2, 1) := by decide +kernel
theorem dX12_night_182 : decode cX12_night 182 = .ok (.laload, 1) := by decide +kernel
theorem dX12_night_183 : decode cX12_night 183 = .ok (.aload_n 0, 1) := by decide +kernel
theorem dX12_night_184 : decode cX12_night 184 = .ok (.getfield 86, 3) := by decide +kernel
theorem dX12_night_187 : decode cX12_night 187 = .ok (.iload_n 3, 1) := by decide +kernel
theorem dX12_night_188 : decode cX12_night 188 = .ok (.laload, 1) := by decide +kernel
theorem dX12_night_189 : decode cX12_night 189 = .ok (.ladd, 1) := by decide +kernel
theorem dX12_night_190 : decode cX12_night 190 = .ok (.lastore, 1) := by decide +kernel
theorem dX12_night_191 : decode cX12_night 191 = .ok (.aload_n 0, 1) := by decide +kernel
theorem dX12_night_192 : decode cX12_night 192 = .ok (.getfield 89, 3) := by decide +kernel
theorem dX12_night_195 : decode cX12_night 195 = .ok (.bipush 10, 2) := by decide +kernel
theorem dX12_night_197 : decode cX12_night 197 = .ok (.iload_n 2, 1) := by decide +kernel
theorem dX12_night_198 : decode cX12_night 198 = .ok (.imul, 1) := by decide +kernel
theorem dX12_night_199 : decode cX12_night 199 = .ok (.iload 4, 2) := by decide +kernel
theorem dX12_night_201 : decode cX12_night 201 = .ok (.iadd, 1) := by decide +kernel
theorem dX12_night_202 : decode cX12_night 202 = .ok (.dup2, 1) := by decide +kernel
theorem dX12_night_203 : decode cX12_night 203 = .ok (.laload, 1) := by decide +kernel
theorem dX12_night_204 : decode cX12_night 204 = .ok (.aload_n 0, 1) := by decide +kernel
theorem dX12_night_205 : decode cX12_night 205 = .ok (.getfield 86, 3) := by decide +kernel
theorem dX12_night_208 : decode cX12_night 208 = .ok (.iload_n 3, 1) := by decide +kernel
theorem dX12_night_209 : decode cX12_night 209 = .ok (.laload, 1) := by decide +kernel
theorem dX12_night_210 : decode cX12_night 210 = .ok (.ladd, 1) := by decide +kernel
theorem dX12_night_211 : decode cX12_night 211 = .ok (.lastore, 1) := by decide +kernel
theorem dX12_night_212 : decode cX12_night 212 = .ok (.iinc 3 1, 3) := by decide +kernel
theorem dX12_night_215 : decode cX12_night 215 = .ok (.goto (-95), 3) := by decide +kernel
theorem dX12_night_218 : decode cX12_night 218 = .ok (.iinc 2 1, 3) := by decide +kernel
theorem dX12_night_221 : decode cX12_night 221 = .ok (.goto (-154), 3) := by decide +kernel
theorem dX12_night_224 : decode cX12_night 224 = .ok (.return_, 1) := by decide +kernel
theorem dX12_isSet_0 : decode cX12_isSet 0 = .ok (.aload_n 0, 1) := by decide +kernel
theorem dX12_isSet_1 : decode cX12_isSet 1 = .ok (.invokevirtual 354, 3) := by decide +kernel
theorem dX12_isSet_4 : decode cX12_isSet 4 = .ok (.ifCond .eq 27, 3) := by decide +kernel
theorem dX12_isSet_7 : decode cX12_isSet 7 = .ok (.iload_n 1, 1) := by decide +kernel
theorem dX12_isSet_8 : decode cX12_isSet 8 = .ok (.i2l, 1) := by decide +kernel
theorem dX12_isSet_9 : decode cX12_isSet 9 = .ok (.lconst 0, 1) := by decide +kernel
theorem dX12_isSet_10 : decode cX12_isSet 10 = .ok (.iconst 1, 1) := by decide +kernel
theorem dX12_isSet_11 : decode cX12_isSet 11 = .ok (.aload_n 0, 1) := by decide +kernel
theorem dX12_isSet_12 : decode cX12_isSet 12 = .ok (.getfield 52, 3) := by decide +kernel
theorem dX12_isSet_15 : decode cX12_isSet 15 = .ok (.iconst 0, 1) := by decide +kernel
theorem dX12_isSet_16 : decode cX12_isSet 16 = .ok (.iaload, 1) := by decide +kernel
theorem dX12_isSet_17 : decode cX12_isSet 17 = .ok (.ishl, 1) := by decide +kernel
theorem dX12_isSet_18 : decode cX12_isSet 18 = .ok (.iconst 1, 1) := by decide +kernel
theorem dX12_isSet_19 : decode cX12_isSet 19 = .ok (.isub, 1) := by decide +kernel
theorem dX12_isSet_20 : decode cX12_isSet 20 = .ok (.i2l, 1) := by decide +kernel
theorem dX12_isSet_21 : decode cX12_isSet 21 = .ok (.invokestatic 119, 3) := by decide +kernel
theorem dX12_isSet_24 : decode cX12_isSet 24 = .ok (.ifCond .eq 7, 3) := by decide +kernel
theorem dX12_isSet_27 : decode cX12_isSet 27 = .ok (.iconst 1, 1) := by decide +kernel
theorem dX12_isSet_28 : decode cX12_isSet 28 = .ok (.goto 4, 3) := by decide +kernel
theorem dX12_isSet_31 : decode cX12_isSet 31 = .ok (.iconst 0, 1) := by decide +kernel
theorem dX12_isSet_32 : decode cX12_isSet 32 = .ok (.ireturn, 1) := by decide +kernel
theorem dX12_part_0 : decode cX12_part 0 = .ok (.aload_n 0, 1) := by decide +kernel
theorem dX12_part_1 : decode cX12_part 1 = .ok (.iconst 0, 1) := by decide +kernel
theorem dX12_part_2 : decode cX12_part 2 = .ok (.putfield 114, 3) := by decide +kernel
theorem dX12_part_5 : decode cX12_part 5 = .ok (.aload_n 0, 1) := by decide +kernel
theorem dX12_part_6 : decode cX12_part 6 = .ok (.iload_n 1, 1) := by decide +kernel
theorem dX12_part_7 : decode cX12_part 7 = .ok (.invokevirtual 357, 3) := by decide +kernel
theorem dX12_part_10 : decode cX12_part 10 = .ok (.ifCond .ne 7, 3) := by decide +kernel
theorem dX12_part_13 : decode cX12_part 13 = .ok (.ldc2_w 360, 3) := by decide +kernel
theorem dX12_part_16 : decode cX12_part 16 = .ok (.lreturn, 1) := by decide +kernel
theorem dX12_part_17 : decode cX12_part 17 = .ok (.aload_n 0, 1) := by decide +kernel
theorem dX12_part_18 : decode cX12_part 18 = .ok (.invokevirtual 362, 3) := by decide +kernel
theorem dX12_part_21 : decode cX12_part 21 = .ok (.aload_n 0, 1) := by decide +kernel
theorem dX12_part_22 : decode cX12_part 22 = .ok (.getfield 83, 3) := by decide +kernel
theorem dX12_part_25 : decode cX12_part 25 = .ok (.iload_n 1, 1) := by decide +kernel
theorem dX12_part_26 : decode cX12_part 26 = .ok (.laload, 1) := by decide +kernel
theorem dX12_part_27 : decode cX12_part 27 = .ok (.lreturn, 1) := by decide +kernel
theorem dX12_sizeOf_0 : decode cX12_sizeOf 0 = .ok (.iconst 0, 1) := by decide +kernel
theorem dX12_sizeOf_1 : decode cX12_sizeOf 1 = .ok (.istore_n 1, 1) := by decide +kernel
theorem dX12_sizeOf_2 : decode cX12_sizeOf 2 = .ok (.iload_n 0, 1) := by decide +kernel
theorem dX12_sizeOf_3 : decode cX12_sizeOf 3 = .ok (.istore_n 2, 1) := by decide +kernel
theorem dX12_sizeOf_4 : decode cX12_sizeOf 4 = .ok (.iload_n 2, 1) := by decide +kernel
theorem dX12_sizeOf_5 : decode cX12_sizeOf 5 = .ok (.ifCond .eq 15, 3) := by decide +kernel
theorem dX12_sizeOf_8 : decode cX12_sizeOf 8 = .ok (.iinc 1 1, 3) := by decide +kernel
theorem dX12_sizeOf_11 : decode cX12_sizeOf 11 = .ok (.iload_n 2, 1) := by decide +kernel
theorem dX12_sizeOf_12 : decode cX12_sizeOf 12 = .ok (.iload_n 2, 1) := by decide +kernel
theorem dX12_sizeOf_13 : decode cX12_sizeOf 13 = .ok (.iconst 1, 1) := by decide +kernel
theorem dX12_sizeOf_14 : decode cX12_sizeOf 14 = .ok (.isub, 1) := by decide +kernel
theorem dX12_sizeOf_15 : decode cX12_sizeOf 15 = .ok (.iand, 1) := by decide +kernel
theorem dX12_sizeOf_16 : decode cX12_sizeOf 16 = .ok (.istore_n 2, 1) := by decide +kernel
theorem dX12_sizeOf_17 : decode cX12_sizeOf 17 = .ok (.goto (-13), 3) := by decide +kernel
theorem dX12_sizeOf_20 : decode cX12_sizeOf 20 = .ok (.iload_n 1, 1) := by decide +kernel
theorem dX12_sizeOf_21 : decode cX12_sizeOf 21 = .ok (.ireturn, 1) := by decide +kernel
theorem dX12_many_0 : decode cX12_many 0 = .ok (.aload_n 0, 1) := by decide +kernel
theorem dX12_many_1 : decode cX12_many 1 = .ok (.iconst 0, 1) := by decide +kernel
theorem dX12_many_2 : decode cX12_many 2 = .ok (.putfield 114, 3) := by decide +kernel
theorem dX12_many_5 : decode cX12_many 5 = .ok (.aload_n 0, 1) := by decide +kernel
theorem dX12_many_6 : decode cX12_many 6 = .ok (.invokevirtual 354, 3) := by decide +kernel
theorem dX12_many_9 : decode cX12_many 9 = .ok (.ifCond .eq 19, 3) := by decide +kernel
theorem dX12_many_12 : decode cX12_many 12 = .ok (.iload_n 1, 1) := by decide +kernel
theorem dX12_many_13 : decode cX12_many 13 = .ok (.i2l, 1) := by decide +kernel
theorem dX12_many_14 : decode cX12_many 14 = .ok (.lconst 0, 1) := by decide +kernel
theorem dX12_many_15 : decode cX12_many 15 = .ok (.aload_n 0, 1) := by decide +kernel
theorem dX12_many_16 : decode cX12_many 16 = .ok (.getfield 52, 3) := by decide +kernel
theorem dX12_many_19 : decode cX12_many 19 = .ok (.iconst 0, 1) := by decide +kernel
theorem dX12_many_20 : decode cX12_many 20 = .ok (.iaload, 1) := by decide +kernel
theorem dX12_many_21 : decode cX12_many 21 = .ok (.i2l, 1) := by decide +kernel
theorem dX12_many_22 : decode cX12_many 22 = .ok (.invokestatic 119, 3) := by decide +kernel
theorem dX12_many_25 : decode cX12_many 25 = .ok (.ifCond .ne 7, 3) := by decide +kernel
theorem dX12_many_28 : decode cX12_many 28 = .ok (.ldc2_w 360, 3) := by decide +kernel
theorem dX12_many_31 : decode cX12_many 31 = .ok (.lreturn, 1) := by decide +kernel
theorem dX12_many_32 : decode cX12_many 32 = .ok (.aload_n 0, 1) := by decide +kernel
theorem dX12_many_33 : decode cX12_many 33 = .ok (.invokevirtual 362, 3) := by decide +kernel
theorem dX12_many_36 : decode cX12_many 36 = .ok (.lconst 0, 1) := by decide +kernel
theorem dX12_many_37 : decode cX12_many 37 = .ok (.lstore_n 2, 1) := by decide +kernel
theorem dX12_many_38 : decode cX12_many 38 = .ok (.iconst 0, 1) := by decide +kernel
theorem dX12_many_39 : decode cX12_many 39 = .ok (.istore 4, 2) := by decide +kernel
theorem dX12_many_41 : decode cX12_many 41 = .ok (.iload 4, 2) := by decide +kernel
theorem dX12_many_43 : decode cX12_many 43 = .ok (.iconst 1, 1) := by decide +kernel
theorem dX12_many_44 : decode cX12_many 44 = .ok (.aload_n 0, 1) := by decide +kernel
theorem dX12_many_45 : decode cX12_many 45 = .ok (.getfield 52, 3) := by decide +kernel
theorem dX12_many_48 : decode cX12_many 48 = .ok (.iconst 0, 1) := by decide +kernel
theorem dX12_many_49 : decode cX12_many 49 = .ok (.iaload, 1) := by decide +kernel
theorem dX12_many_50 : decode cX12_many 50 = .ok (.ishl, 1) := by decide +kernel
theorem dX12_many_51 : decode cX12_many 51 = .ok (.if_icmp .ge 32, 3) := by decide +kernel
theorem dX12_many_54 : decode cX12_many 54 = .ok (.lload_n 2, 1) := by decide +kernel
theorem dX12_many_55 : decode cX12_many 55 = .ok (.iload 4, 2) := by decide +kernel
theorem dX12_many_57 : decode cX12_many 57 = .ok (.invokestatic 365, 3) := by decide +kernel
theorem dX12_many_60 : decode cX12_many 60 = .ok (.iload_n 1, 1) := by decide +kernel
theorem dX12_many_61 : decode cX12_many 61 = .ok (.if_icmp .ne 13, 3) := by decide +kernel
theorem dX12_many_64 : decode cX12_many 64 = .ok (.aload_n 0, 1) := by decide +kernel
theorem dX12_many_65 : decode cX12_many 65 = .ok (.getfield 83, 3) := by decide +kernel
theorem dX12_many_68 : decode cX12_many 68 = .ok (.iload 4, 2) := by decide +kernel
theorem dX12_many_70 : decode cX12_many 70 = .ok (.laload, 1) := by decide +kernel
theorem dX12_many_71 : decode cX12_many 71 = .ok (.goto 4, 3) := by decide +kernel
theorem dX12_many_74 : decode cX12_many 74 = .ok (.lconst 0, 1) := by decide +kernel
theorem dX12_many_75 : decode cX12_many 75 = .ok (.ladd, 1) := by decide +kernel
theorem dX12_many_76 : decode cX12_many 76 = .ok (.lstore_n 2, 1) := by decide +kernel
theorem dX12_many_77 : decode cX12_many 77 = .ok (.iinc 4 1, 3) := by decide +kernel
theorem dX12_many_80 : decode cX12_many 80 = .ok (.goto (-39), 3) := by decide +kernel
theorem dX12_many_83 : decode cX12_many 83 = .ok (.lload_n 2, 1) := by decide +kernel
theorem dX12_many_84 : decode cX12_many 84 = .ok (.lreturn, 1) := by decide +kernel
theorem dX12_riskOf_0 : decode cX12_riskOf 0 = .ok (.lconst 0, 1) := by decide +kernel
theorem dX12_riskOf_1 : decode cX12_riskOf 1 = .ok (.lstore_n 2, 1) := by decide +kernel
theorem dX12_riskOf_2 : decode cX12_riskOf 2 = .ok (.iconst 0, 1) := by decide +kernel
theorem dX12_riskOf_3 : decode cX12_riskOf 3 = .ok (.istore 4, 2) := by decide +kernel
theorem dX12_riskOf_5 : decode cX12_riskOf 5 = .ok (.iload 4, 2) := by decide +kernel
theorem dX12_riskOf_7 : decode cX12_riskOf 7 = .ok (.iconst 1, 1) := by decide +kernel
theorem dX12_riskOf_8 : decode cX12_riskOf 8 = .ok (.aload_n 0, 1) := by decide +kernel
theorem dX12_riskOf_9 : decode cX12_riskOf 9 = .ok (.getfield 52, 3) := by decide +kernel
theorem dX12_riskOf_12 : decode cX12_riskOf 12 = .ok (.iconst 0, 1) := by decide +kernel
theorem dX12_riskOf_13 : decode cX12_riskOf 13 = .ok (.iaload, 1) := by decide +kernel
theorem dX12_riskOf_14 : decode cX12_riskOf 14 = .ok (.ishl, 1) := by decide +kernel
theorem dX12_riskOf_15 : decode cX12_riskOf 15 = .ok (.if_icmp .ge 33, 3) := by decide +kernel
theorem dX12_riskOf_18 : decode cX12_riskOf 18 = .ok (.lload_n 2, 1) := by decide +kernel
theorem dX12_riskOf_19 : decode cX12_riskOf 19 = .ok (.iload 4, 2) := by decide +kernel
theorem dX12_riskOf_21 : decode cX12_riskOf 21 = .ok (.iload_n 1, 1) := by decide +kernel
theorem dX12_riskOf_22 : decode cX12_riskOf 22 = .ok (.ishr, 1) := by decide +kernel
theorem dX12_riskOf_23 : decode cX12_riskOf 23 = .ok (.iconst 1, 1) := by decide +kernel
theorem dX12_riskOf_24 : decode cX12_riskOf 24 = .ok (.iand, 1) := by decide +kernel
theorem dX12_riskOf_25 : decode cX12_riskOf 25 = .ok (.iconst 1, 1) := by decide +kernel
theorem dX12_riskOf_26 : decode cX12_riskOf 26 = .ok (.if_icmp .ne 13, 3) := by decide +kernel
theorem dX12_riskOf_29 : decode cX12_riskOf 29 = .ok (.aload_n 0, 1) := by decide +kernel
theorem dX12_riskOf_30 : decode cX12_riskOf 30 = .ok (.getfield 83, 3) := by decide +kernel
theorem dX12_riskOf_33 : decode cX12_riskOf 33 = .ok (.iload 4, 2) := by decide +kernel
theorem dX12_riskOf_35 : decode cX12_riskOf 35 = .ok (.laload, 1) := by decide +kernel
theorem dX12_riskOf_36 : decode cX12_riskOf 36 = .ok (.goto 4, 3) := by decide +kernel
theorem dX12_riskOf_39 : decode cX12_riskOf 39 = .ok (.lconst 0, 1) := by decide +kernel
theorem dX12_riskOf_40 : decode cX12_riskOf 40 = .ok (.ladd, 1) := by decide +kernel
theorem dX12_riskOf_41 : decode cX12_riskOf 41 = .ok (.lstore_n 2, 1) := by decide +kernel
theorem dX12_riskOf_42 : decode cX12_riskOf 42 = .ok (.iinc 4 1, 3) := by decide +kernel
theorem dX12_riskOf_45 : decode cX12_riskOf 45 = .ok (.goto (-40), 3) := by decide +kernel
theorem dX12_riskOf_48 : decode cX12_riskOf 48 = .ok (.lload_n 2, 1) := by decide +kernel
theorem dX12_riskOf_49 : decode cX12_riskOf 49 = .ok (.lreturn, 1) := by decide +kernel
theorem dX12_riskNow_0 : decode cX12_riskNow 0 = .ok (.aload_n 0, 1) := by decide +kernel
theorem dX12_riskNow_1 : decode cX12_riskNow 1 = .ok (.invokevirtual 362, 3) := by decide +kernel
theorem dX12_riskNow_4 : decode cX12_riskNow 4 = .ok (.aload_n 0, 1) := by decide +kernel
theorem dX12_riskNow_5 : decode cX12_riskNow 5 = .ok (.iload_n 1, 1) := by decide +kernel
theorem dX12_riskNow_6 : decode cX12_riskNow 6 = .ok (.invokevirtual 368, 3) := by decide +kernel
theorem dX12_riskNow_9 : decode cX12_riskNow 9 = .ok (.lreturn, 1) := by decide +kernel
theorem dX12_risk_0 : decode cX12_risk 0 = .ok (.aload_n 0, 1) := by decide +kernel
theorem dX12_risk_1 : decode cX12_risk 1 = .ok (.iconst 0, 1) := by decide +kernel
theorem dX12_risk_2 : decode cX12_risk 2 = .ok (.putfield 114, 3) := by decide +kernel
theorem dX12_risk_5 : decode cX12_risk 5 = .ok (.aload_n 0, 1) := by decide +kernel
theorem dX12_risk_6 : decode cX12_risk 6 = .ok (.iload_n 1, 1) := by decide +kernel
theorem dX12_risk_7 : decode cX12_risk 7 = .ok (.invokevirtual 318, 3) := by decide +kernel
theorem dX12_risk_10 : decode cX12_risk 10 = .ok (.ifCond .eq 11, 3) := by decide +kernel
theorem dX12_risk_13 : decode cX12_risk 13 = .ok (.aload_n 0, 1) := by decide +kernel
theorem dX12_risk_14 : decode cX12_risk 14 = .ok (.iload_n 1, 1) := by decide +kernel
theorem dX12_risk_15 : decode cX12_risk 15 = .ok (.invokevirtual 372, 3) := by decide +kernel
theorem dX12_risk_18 : decode cX12_risk 18 = .ok (.goto 6, 3) := by decide +kernel
theorem dX12_risk_21 : decode cX12_risk 21 = .ok (.ldc2_w 360, 3) := by decide +kernel
theorem dX12_risk_24 : decode cX12_risk 24 = .ok (.lreturn, 1) := by decide +kernel
theorem dX12_has_0 : decode cX12_has 0 = .ok (.aload_n 0, 1) := by decide +kernel
theorem dX12_has_1 : decode cX12_has 1 = .ok (.iconst 0, 1) := by decide +kernel
theorem dX12_has_2 : decode cX12_has 2 = .ok (.putfield 114, 3) := by decide +kernel
theorem dX12_has_5 : decode cX12_has 5 = .ok (.aload_n 0, 1) := by decide +kernel
theorem dX12_has_6 : decode cX12_has 6 = .ok (.iload_n 1, 1) := by decide +kernel
theorem dX12_has_7 : decode cX12_has 7 = .ok (.invokevirtual 330, 3) := by decide +kernel
theorem dX12_has_10 : decode cX12_has 10 = .ok (.ifCond .eq 11, 3) := by decide +kernel
theorem dX12_has_13 : decode cX12_has 13 = .ok (.aload_n 0, 1) := by decide +kernel
theorem dX12_has_14 : decode cX12_has 14 = .ok (.iload_n 2, 1) := by decide +kernel
theorem dX12_has_15 : decode cX12_has 15 = .ok (.invokevirtual 318, 3) := by decide +kernel
theorem dX12_has_18 : decode cX12_has 18 = .ok (.ifCond .ne 7, 3) := by decide +kernel
theorem dX12_has_21 : decode cX12_has 21 = .ok (.ldc2_w 360, 3) := by decide +kernel
theorem dX12_has_24 : decode cX12_has 24 = .ok (.lreturn, 1) := by decide +kernel
theorem dX12_has_25 : decode cX12_has 25 = .ok (.aload_n 0, 1) := by decide +kernel
theorem dX12_has_26 : decode cX12_has 26 = .ok (.invokevirtual 362, 3) := by decide +kernel
theorem dX12_has_29 : decode cX12_has 29 = .ok (.aload_n 0, 1) := by decide +kernel
theorem dX12_has_30 : decode cX12_has 30 = .ok (.getfield 89, 3) := by decide +kernel
theorem dX12_has_33 : decode cX12_has 33 = .ok (.bipush 10, 2) := by decide +kernel
theorem dX12_has_35 : decode cX12_has 35 = .ok (.iload_n 1, 1) := by decide +kernel
theorem dX12_has_36 : decode cX12_has 36 = .ok (.imul, 1) := by decide +kernel
theorem dX12_has_37 : decode cX12_has 37 = .ok (.iload_n 2, 1) := by decide +kernel
theorem dX12_has_38 : decode cX12_has 38 = .ok (.iadd, 1) := by decide +kernel
theorem dX12_has_39 : decode cX12_has 39 = .ok (.laload, 1) := by decide +kernel
theorem dX12_has_40 : decode cX12_has 40 = .ok (.lreturn, 1) := by decide +kernel
theorem dX12_paidOf_0 : decode cX12_paidOf 0 = .ok (.iconst 0, 1) := by decide +kernel
theorem dX12_paidOf_1 : decode cX12_paidOf 1 = .ok (.iload_n 1, 1) := by decide +kernel
theorem dX12_paidOf_2 : decode cX12_paidOf 2 = .ok (.invokestatic 323, 3) := by decide +kernel
theorem dX12_paidOf_5 : decode cX12_paidOf 5 = .ok (.istore_n 2, 1) := by decide +kernel
theorem dX12_paidOf_6 : decode cX12_paidOf 6 = .ok (.ldc2_w 375, 3) := by decide +kernel
theorem dX12_paidOf_9 : decode cX12_paidOf 9 = .ok (.aload_n 0, 1) := by decide +kernel
theorem dX12_paidOf_10 : decode cX12_paidOf 10 = .ok (.getfield 55, 3) := by decide +kernel
theorem dX12_paidOf_13 : decode cX12_paidOf 13 = .ok (.iload_n 2, 1) := by decide +kernel
theorem dX12_paidOf_14 : decode cX12_paidOf 14 = .ok (.iconst 3, 1) := by decide +kernel
theorem dX12_paidOf_15 : decode cX12_paidOf 15 = .ok (.iadd, 1) := by decide +kernel
theorem dX12_paidOf_16 : decode cX12_paidOf 16 = .ok (.iaload, 1) := by decide +kernel
theorem dX12_paidOf_17 : decode cX12_paidOf 17 = .ok (.iconst (-1), 1) := by decide +kernel
theorem dX12_paidOf_18 : decode cX12_paidOf 18 = .ok (.if_icmp .ne 7, 3) := by decide +kernel
theorem dX12_paidOf_21 : decode cX12_paidOf 21 = .ok (.iconst 0, 1) := by decide +kernel
theorem dX12_paidOf_22 : decode cX12_paidOf 22 = .ok (.goto 18, 3) := by decide +kernel
theorem dX12_paidOf_25 : decode cX12_paidOf 25 = .ok (.aload_n 0, 1) := by decide +kernel
theorem dX12_paidOf_26 : decode cX12_paidOf 26 = .ok (.getfield 49, 3) := by decide +kernel
theorem dX12_paidOf_29 : decode cX12_paidOf 29 = .ok (.iconst 4, 1) := by decide +kernel
theorem dX12_paidOf_30 : decode cX12_paidOf 30 = .ok (.aload_n 0, 1) := by decide +kernel
theorem dX12_paidOf_31 : decode cX12_paidOf 31 = .ok (.getfield 55, 3) := by decide +kernel
theorem dX12_paidOf_34 : decode cX12_paidOf 34 = .ok (.iload_n 2, 1) := by decide +kernel
theorem dX12_paidOf_35 : decode cX12_paidOf 35 = .ok (.iconst 3, 1) := by decide +kernel
theorem dX12_paidOf_36 : decode cX12_paidOf 36 = .ok (.iadd, 1) := by decide +kernel
theorem dX12_paidOf_37 : decode cX12_paidOf 37 = .ok (.iaload, 1) := by decide +kernel
theorem dX12_paidOf_38 : decode cX12_paidOf 38 = .ok (.imul, 1) := by decide +kernel
theorem dX12_paidOf_39 : decode cX12_paidOf 39 = .ok (.iaload, 1) := by decide +kernel
theorem dX12_paidOf_40 : decode cX12_paidOf 40 = .ok (.aload_n 0, 1) := by decide +kernel
theorem dX12_paidOf_41 : decode cX12_paidOf 41 = .ok (.getfield 55, 3) := by decide +kernel
theorem dX12_paidOf_44 : decode cX12_paidOf 44 = .ok (.iload_n 2, 1) := by decide +kernel
theorem dX12_paidOf_45 : decode cX12_paidOf 45 = .ok (.iconst 4, 1) := by decide +kernel
theorem dX12_paidOf_46 : decode cX12_paidOf 46 = .ok (.iadd, 1) := by decide +kernel
theorem dX12_paidOf_47 : decode cX12_paidOf 47 = .ok (.iaload, 1) := by decide +kernel
theorem dX12_paidOf_48 : decode cX12_paidOf 48 = .ok (.iconst 1, 1) := by decide +kernel
theorem dX12_paidOf_49 : decode cX12_paidOf 49 = .ok (.if_icmp .ne 12, 3) := by decide +kernel
theorem dX12_paidOf_52 : decode cX12_paidOf 52 = .ok (.aload_n 0, 1) := by decide +kernel
theorem dX12_paidOf_53 : decode cX12_paidOf 53 = .ok (.getfield 64, 3) := by decide +kernel
theorem dX12_paidOf_56 : decode cX12_paidOf 56 = .ok (.iconst 0, 1) := by decide +kernel
theorem dX12_paidOf_57 : decode cX12_paidOf 57 = .ok (.iaload, 1) := by decide +kernel
theorem dX12_paidOf_58 : decode cX12_paidOf 58 = .ok (.goto 4, 3) := by decide +kernel
theorem dX12_paidOf_61 : decode cX12_paidOf 61 = .ok (.iconst 0, 1) := by decide +kernel
theorem dX12_paidOf_62 : decode cX12_paidOf 62 = .ok (.iadd, 1) := by decide +kernel
theorem dX12_paidOf_63 : decode cX12_paidOf 63 = .ok (.i2l, 1) := by decide +kernel
theorem dX12_paidOf_64 : decode cX12_paidOf 64 = .ok (.lmul, 1) := by decide +kernel
theorem dX12_paidOf_65 : decode cX12_paidOf 65 = .ok (.lreturn, 1) := by decide +kernel
theorem dX12_lossOf_0 : decode cX12_lossOf 0 = .ok (.aload_n 0, 1) := by decide +kernel
theorem dX12_lossOf_1 : decode cX12_lossOf 1 = .ok (.getfield 37, 3) := by decide +kernel
theorem dX12_lossOf_4 : decode cX12_lossOf 4 = .ok (.iconst 0, 1) := by decide +kernel
theorem dX12_lossOf_5 : decode cX12_lossOf 5 = .ok (.iaload, 1) := by decide +kernel
theorem dX12_lossOf_6 : decode cX12_lossOf 6 = .ok (.aload_n 0, 1) := by decide +kernel
theorem dX12_lossOf_7 : decode cX12_lossOf 7 = .ok (.getfield 55, 3) := by decide +kernel
theorem dX12_lossOf_10 : decode cX12_lossOf 10 = .ok (.iconst 0, 1) := by decide +kernel
theorem dX12_lossOf_11 : decode cX12_lossOf 11 = .ok (.iload_n 1, 1) := by decide +kernel
theorem dX12_lossOf_12 : decode cX12_lossOf 12 = .ok (.invokestatic 323, 3) := by decide +kernel
theorem dX12_lossOf_15 : decode cX12_lossOf 15 = .ok (.iaload, 1) := by decide +kernel
theorem dX12_lossOf_16 : decode cX12_lossOf 16 = .ok (.imul, 1) := by decide +kernel
theorem dX12_lossOf_17 : decode cX12_lossOf 17 = .ok (.i2l, 1) := by decide +kernel
theorem dX12_lossOf_18 : decode cX12_lossOf 18 = .ok (.aload_n 0, 1) := by decide +kernel
theorem dX12_lossOf_19 : decode cX12_lossOf 19 = .ok (.iload_n 1, 1) := by decide +kernel
theorem dX12_lossOf_20 : decode cX12_lossOf 20 = .ok (.invokevirtual 368, 3) := by decide +kernel
theorem dX12_lossOf_23 : decode cX12_lossOf 23 = .ok (.lmul, 1) := by decide +kernel
theorem dX12_lossOf_24 : decode cX12_lossOf 24 = .ok (.ldc2_w 377, 3) := by decide +kernel
theorem dX12_lossOf_27 : decode cX12_lossOf 27 = .ok (.ldiv, 1) := by decide +kernel
theorem dX12_lossOf_28 : decode cX12_lossOf 28 = .ok (.lreturn, 1) := by decide +kernel
theorem dX12_wages_0 : decode cX12_wages 0 = .ok (.ldc2_w 375, 3) := by decide +kernel
theorem dX12_wages_3 : decode cX12_wages 3 = .ok (.aload_n 0, 1) := by decide +kernel
theorem dX12_wages_4 : decode cX12_wages 4 = .ok (.getfield 64, 3) := by decide +kernel
theorem dX12_wages_7 : decode cX12_wages 7 = .ok (.iconst 4, 1) := by decide +kernel
theorem dX12_wages_8 : decode cX12_wages 8 = .ok (.iaload, 1) := by decide +kernel
theorem dX12_wages_9 : decode cX12_wages 9 = .ok (.i2l, 1) := by decide +kernel
theorem dX12_wages_10 : decode cX12_wages 10 = .ok (.lmul, 1) := by decide +kernel
theorem dX12_wages_11 : decode cX12_wages 11 = .ok (.aload_n 0, 1) := by decide +kernel
theorem dX12_wages_12 : decode cX12_wages 12 = .ok (.getfield 37, 3) := by decide +kernel
theorem dX12_wages_15 : decode cX12_wages 15 = .ok (.iconst 0, 1) := by decide +kernel
theorem dX12_wages_16 : decode cX12_wages 16 = .ok (.iaload, 1) := by decide +kernel
theorem dX12_wages_17 : decode cX12_wages 17 = .ok (.i2l, 1) := by decide +kernel
theorem dX12_wages_18 : decode cX12_wages 18 = .ok (.lmul, 1) := by decide +kernel
theorem dX12_wages_19 : decode cX12_wages 19 = .ok (.lreturn, 1) := by decide +kernel
theorem dX12_costOf_0 : decode cX12_costOf 0 = .ok (.aload_n 0, 1) := by decide +kernel
theorem dX12_costOf_1 : decode cX12_costOf 1 = .ok (.iload_n 1, 1) := by decide +kernel
theorem dX12_costOf_2 : decode cX12_costOf 2 = .ok (.invokevirtual 379, 3) := by decide +kernel
theorem dX12_costOf_5 : decode cX12_costOf 5 = .ok (.aload_n 0, 1) := by decide +kernel
theorem dX12_costOf_6 : decode cX12_costOf 6 = .ok (.iload_n 1, 1) := by decide +kernel
theorem dX12_costOf_7 : decode cX12_costOf 7 = .ok (.invokevirtual 382, 3) := by decide +kernel
theorem dX12_costOf_10 : decode cX12_costOf 10 = .ok (.ladd, 1) := by decide +kernel
theorem dX12_costOf_11 : decode cX12_costOf 11 = .ok (.aload_n 0, 1) := by decide +kernel
theorem dX12_costOf_12 : decode cX12_costOf 12 = .ok (.getfield 64, 3) := by decide +kernel
theorem dX12_costOf_15 : decode cX12_costOf 15 = .ok (.bipush 6, 2) := by decide +kernel
theorem dX12_costOf_17 : decode cX12_costOf 17 = .ok (.iaload, 1) := by decide +kernel
theorem dX12_costOf_18 : decode cX12_costOf 18 = .ok (.iconst 1, 1) := by decide +kernel
theorem dX12_costOf_19 : decode cX12_costOf 19 = .ok (.if_icmp .ne 18, 3) := by decide +kernel
theorem dX12_costOf_22 : decode cX12_costOf 22 = .ok (.aload_n 0, 1) := by decide +kernel
theorem dX12_costOf_23 : decode cX12_costOf 23 = .ok (.invokevirtual 385, 3) := by decide +kernel
theorem dX12_costOf_26 : decode cX12_costOf 26 = .ok (.aload_n 0, 1) := by decide +kernel
theorem dX12_costOf_27 : decode cX12_costOf 27 = .ok (.getfield 52, 3) := by decide +kernel
theorem dX12_costOf_30 : decode cX12_costOf 30 = .ok (.iconst 0, 1) := by decide +kernel
theorem dX12_costOf_31 : decode cX12_costOf 31 = .ok (.iaload, 1) := by decide +kernel
theorem dX12_costOf_32 : decode cX12_costOf 32 = .ok (.i2l, 1) := by decide +kernel
theorem dX12_costOf_33 : decode cX12_costOf 33 = .ok (.ldiv, 1) := by decide +kernel
theorem dX12_costOf_34 : decode cX12_costOf 34 = .ok (.goto 4, 3) := by decide +kernel
theorem dX12_costOf_37 : decode cX12_costOf 37 = .ok (.lconst 0, 1) := by decide +kernel
theorem dX12_costOf_38 : decode cX12_costOf 38 = .ok (.ladd, 1) := by decide +kernel
theorem dX12_costOf_39 : decode cX12_costOf 39 = .ok (.lreturn, 1) := by decide +kernel
theorem dX12_whatOf_0 : decode cX12_whatOf 0 = .ok (.iload_n 2, 1) := by decide +kernel
theorem dX12_whatOf_1 : decode cX12_whatOf 1 = .ok (.ifCond .ne 11, 3) := by decide +kernel
theorem dX12_whatOf_4 : decode cX12_whatOf 4 = .ok (.aload_n 0, 1) := by decide +kernel
theorem dX12_whatOf_5 : decode cX12_whatOf 5 = .ok (.iload_n 1, 1) := by decide +kernel
theorem dX12_whatOf_6 : decode cX12_whatOf 6 = .ok (.invokevirtual 379, 3) := by decide +kernel
theorem dX12_whatOf_9 : decode cX12_whatOf 9 = .ok (.goto 21, 3) := by decide +kernel
theorem dX12_whatOf_12 : decode cX12_whatOf 12 = .ok (.iload_n 2, 1) := by decide +kernel
theorem dX12_whatOf_13 : decode cX12_whatOf 13 = .ok (.iconst 1, 1) := by decide +kernel
theorem dX12_whatOf_14 : decode cX12_whatOf 14 = .ok (.if_icmp .ne 11, 3) := by decide +kernel
theorem dX12_whatOf_17 : decode cX12_whatOf 17 = .ok (.aload_n 0, 1) := by decide +kernel
theorem dX12_whatOf_18 : decode cX12_whatOf 18 = .ok (.iload_n 1, 1) := by decide +kernel
theorem dX12_whatOf_19 : decode cX12_whatOf 19 = .ok (.invokevirtual 382, 3) := by decide +kernel
theorem dX12_whatOf_22 : decode cX12_whatOf 22 = .ok (.goto 8, 3) := by decide +kernel
theorem dX12_whatOf_25 : decode cX12_whatOf 25 = .ok (.aload_n 0, 1) := by decide +kernel
theorem dX12_whatOf_26 : decode cX12_whatOf 26 = .ok (.iload_n 1, 1) := by decide +kernel
theorem dX12_whatOf_27 : decode cX12_whatOf 27 = .ok (.invokevirtual 389, 3) := by decide +kernel
theorem dX12_whatOf_30 : decode cX12_whatOf 30 = .ok (.lreturn, 1) := by decide +kernel
theorem dX12_cost_0 : decode cX12_cost 0 = .ok (.aload_n 0, 1) := by decide +kernel
theorem dX12_cost_1 : decode cX12_cost 1 = .ok (.iconst 0, 1) := by decide +kernel
theorem dX12_cost_2 : decode cX12_cost 2 = .ok (.putfield 114, 3) := by decide +kernel
theorem dX12_cost_5 : decode cX12_cost 5 = .ok (.aload_n 0, 1) := by decide +kernel
theorem dX12_cost_6 : decode cX12_cost 6 = .ok (.iload_n 1, 1) := by decide +kernel
theorem dX12_cost_7 : decode cX12_cost 7 = .ok (.invokevirtual 318, 3) := by decide +kernel
theorem dX12_cost_10 : decode cX12_cost 10 = .ok (.ifCond .eq 15, 3) := by decide +kernel
theorem dX12_cost_13 : decode cX12_cost 13 = .ok (.iload_n 2, 1) := by decide +kernel
theorem dX12_cost_14 : decode cX12_cost 14 = .ok (.i2l, 1) := by decide +kernel
theorem dX12_cost_15 : decode cX12_cost 15 = .ok (.lconst 0, 1) := by decide +kernel
theorem dX12_cost_16 : decode cX12_cost 16 = .ok (.ldc2_w 392, 3) := by decide +kernel
theorem dX12_cost_19 : decode cX12_cost 19 = .ok (.invokestatic 119, 3) := by decide +kernel
theorem dX12_cost_22 : decode cX12_cost 22 = .ok (.ifCond .ne 7, 3) := by decide +kernel
theorem dX12_cost_25 : decode cX12_cost 25 = .ok (.ldc2_w 360, 3) := by decide +kernel
theorem dX12_cost_28 : decode cX12_cost 28 = .ok (.lreturn, 1) := by decide +kernel
theorem dX12_cost_29 : decode cX12_cost 29 = .ok (.aload_n 0, 1) := by decide +kernel
theorem dX12_cost_30 : decode cX12_cost 30 = .ok (.invokevirtual 362, 3) := by decide +kernel
theorem dX12_cost_33 : decode cX12_cost 33 = .ok (.aload_n 0, 1) := by decide +kernel
theorem dX12_cost_34 : decode cX12_cost 34 = .ok (.iload_n 1, 1) := by decide +kernel
theorem dX12_cost_35 : decode cX12_cost 35 = .ok (.iload_n 2, 1) := by decide +kernel
theorem dX12_cost_36 : decode cX12_cost 36 = .ok (.invokevirtual 394, 3) := by decide +kernel
theorem dX12_cost_39 : decode cX12_cost 39 = .ok (.lreturn, 1) := by decide +kernel
theorem dX12_allNow_0 : decode cX12_allNow 0 = .ok (.aload_n 0, 1) := by decide +kernel
theorem dX12_allNow_1 : decode cX12_allNow 1 = .ok (.invokevirtual 362, 3) := by decide +kernel
theorem dX12_allNow_4 : decode cX12_allNow 4 = .ok (.lconst 0, 1) := by decide +kernel
theorem dX12_allNow_5 : decode cX12_allNow 5 = .ok (.lstore_n 2, 1) := by decide +kernel
theorem dX12_allNow_6 : decode cX12_allNow 6 = .ok (.iconst 0, 1) := by decide +kernel
theorem dX12_allNow_7 : decode cX12_allNow 7 = .ok (.istore 4, 2) := by decide +kernel
theorem dX12_allNow_9 : decode cX12_allNow 9 = .ok (.iload 4, 2) := by decide +kernel
theorem dX12_allNow_11 : decode cX12_allNow 11 = .ok (.aload_n 0, 1) := by decide +kernel
theorem dX12_allNow_12 : decode cX12_allNow 12 = .ok (.getfield 52, 3) := by decide +kernel
theorem dX12_allNow_15 : decode cX12_allNow 15 = .ok (.iconst 0, 1) := by decide +kernel
theorem dX12_allNow_16 : decode cX12_allNow 16 = .ok (.iaload, 1) := by decide +kernel
theorem dX12_allNow_17 : decode cX12_allNow 17 = .ok (.if_icmp .ge 19, 3) := by decide +kernel
theorem dX12_allNow_20 : decode cX12_allNow 20 = .ok (.lload_n 2, 1) := by decide +kernel
theorem dX12_allNow_21 : decode cX12_allNow 21 = .ok (.aload_n 0, 1) := by decide +kernel
theorem dX12_allNow_22 : decode cX12_allNow 22 = .ok (.iload 4, 2) := by decide +kernel
theorem dX12_allNow_24 : decode cX12_allNow 24 = .ok (.iload_n 1, 1) := by decide +kernel
theorem dX12_allNow_25 : decode cX12_allNow 25 = .ok (.invokevirtual 394, 3) := by decide +kernel
theorem dX12_allNow_28 : decode cX12_allNow 28 = .ok (.ladd, 1) := by decide +kernel
theorem dX12_allNow_29 : decode cX12_allNow 29 = .ok (.lstore_n 2, 1) := by decide +kernel
theorem dX12_allNow_30 : decode cX12_allNow 30 = .ok (.iinc 4 1, 3) := by decide +kernel
theorem dX12_allNow_33 : decode cX12_allNow 33 = .ok (.goto (-24), 3) := by decide +kernel
theorem dX12_allNow_36 : decode cX12_allNow 36 = .ok (.lload_n 2, 1) := by decide +kernel
theorem dX12_allNow_37 : decode cX12_allNow 37 = .ok (.lreturn, 1) := by decide +kernel
theorem dX12_all_0 : decode cX12_all 0 = .ok (.aload_n 0, 1) := by decide +kernel
theorem dX12_all_1 : decode cX12_all 1 = .ok (.iconst 0, 1) := by decide +kernel
theorem dX12_all_2 : decode cX12_all 2 = .ok (.putfield 114, 3) := by decide +kernel
theorem dX12_all_5 : decode cX12_all 5 = .ok (.aload_n 0, 1) := by decide +kernel
theorem dX12_all_6 : decode cX12_all 6 = .ok (.invokevirtual 354, 3) := by decide +kernel
theorem dX12_all_9 : decode cX12_all 9 = .ok (.ifCond .eq 23, 3) := by decide +kernel
theorem dX12_all_12 : decode cX12_all 12 = .ok (.iload_n 1, 1) := by decide +kernel
theorem dX12_all_13 : decode cX12_all 13 = .ok (.i2l, 1) := by decide +kernel
theorem dX12_all_14 : decode cX12_all 14 = .ok (.lconst 0, 1) := by decide +kernel
theorem dX12_all_15 : decode cX12_all 15 = .ok (.ldc2_w 392, 3) := by decide +kernel
theorem dX12_all_18 : decode cX12_all 18 = .ok (.invokestatic 119, 3) := by decide +kernel
theorem dX12_all_21 : decode cX12_all 21 = .ok (.ifCond .eq 11, 3) := by decide +kernel
theorem dX12_all_24 : decode cX12_all 24 = .ok (.aload_n 0, 1) := by decide +kernel
theorem dX12_all_25 : decode cX12_all 25 = .ok (.iload_n 1, 1) := by decide +kernel
theorem dX12_all_26 : decode cX12_all 26 = .ok (.invokevirtual 398, 3) := by decide +kernel
theorem dX12_all_29 : decode cX12_all 29 = .ok (.goto 6, 3) := by decide +kernel
theorem dX12_all_32 : decode cX12_all 32 = .ok (.ldc2_w 360, 3) := by decide +kernel
theorem dX12_all_35 : decode cX12_all 35 = .ok (.lreturn, 1) := by decide +kernel
theorem dX12_costNow_0 : decode cX12_costNow 0 = .ok (.aload_n 0, 1) := by decide +kernel
theorem dX12_costNow_1 : decode cX12_costNow 1 = .ok (.invokevirtual 362, 3) := by decide +kernel
theorem dX12_costNow_4 : decode cX12_costNow 4 = .ok (.aload_n 0, 1) := by decide +kernel
theorem dX12_costNow_5 : decode cX12_costNow 5 = .ok (.iload_n 1, 1) := by decide +kernel
theorem dX12_costNow_6 : decode cX12_costNow 6 = .ok (.invokevirtual 389, 3) := by decide +kernel
theorem dX12_costNow_9 : decode cX12_costNow 9 = .ok (.lreturn, 1) := by decide +kernel
theorem dX12_optionMany_0 : decode cX12_optionMany 0 = .ok (.iconst 2, 1) := by decide +kernel
theorem dX12_optionMany_1 : decode cX12_optionMany 1 = .ok (.aload_n 0, 1) := by decide +kernel
theorem dX12_optionMany_2 : decode cX12_optionMany 2 = .ok (.getfield 46, 3) := by decide +kernel
theorem dX12_optionMany_5 : decode cX12_optionMany 5 = .ok (.iconst 0, 1) := by decide +kernel
theorem dX12_optionMany_6 : decode cX12_optionMany 6 = .ok (.iaload, 1) := by decide +kernel
theorem dX12_optionMany_7 : decode cX12_optionMany 7 = .ok (.iconst 1, 1) := by decide +kernel
theorem dX12_optionMany_8 : decode cX12_optionMany 8 = .ok (.iadd, 1) := by decide +kernel
theorem dX12_optionMany_9 : decode cX12_optionMany 9 = .ok (.imul, 1) := by decide +kernel
theorem dX12_optionMany_10 : decode cX12_optionMany 10 = .ok (.ireturn, 1) := by decide +kernel
theorem dX12_isOption_0 : decode cX12_isOption 0 = .ok (.iload_n 1, 1) := by decide +kernel
theorem dX12_isOption_1 : decode cX12_isOption 1 = .ok (.i2l, 1) := by decide +kernel
theorem dX12_isOption_2 : decode cX12_isOption 2 = .ok (.lconst 0, 1) := by decide +kernel
theorem dX12_isOption_3 : decode cX12_isOption 3 = .ok (.aload_n 0, 1) := by decide +kernel
theorem dX12_isOption_4 : decode cX12_isOption 4 = .ok (.invokevirtual 401, 3) := by decide +kernel
theorem dX12_isOption_7 : decode cX12_isOption 7 = .ok (.iconst 1, 1) := by decide +kernel
theorem dX12_isOption_8 : decode cX12_isOption 8 = .ok (.isub, 1) := by decide +kernel
theorem dX12_isOption_9 : decode cX12_isOption 9 = .ok (.i2l, 1) := by decide +kernel
theorem dX12_isOption_10 : decode cX12_isOption 10 = .ok (.invokestatic 119, 3) := by decide +kernel
theorem dX12_isOption_13 : decode cX12_isOption 13 = .ok (.ireturn, 1) := by decide +kernel
theorem dX12_optionOf_0 : decode cX12_optionOf 0 = .ok (.iconst 2, 1) := by decide +kernel
theorem dX12_optionOf_1 : decode cX12_optionOf 1 = .ok (.aload_n 0, 1) := by decide +kernel
theorem dX12_optionOf_2 : decode cX12_optionOf 2 = .ok (.getfield 55, 3) := by decide +kernel
theorem dX12_optionOf_5 : decode cX12_optionOf 5 = .ok (.iconst 0, 1) := by decide +kernel
theorem dX12_optionOf_6 : decode cX12_optionOf 6 = .ok (.iload_n 1, 1) := by decide +kernel
theorem dX12_optionOf_7 : decode cX12_optionOf 7 = .ok (.invokestatic 323, 3) := by decide +kernel
theorem dX12_optionOf_10 : decode cX12_optionOf 10 = .ok (.iconst 3, 1) := by decide +kernel
theorem dX12_optionOf_11 : decode cX12_optionOf 11 = .ok (.iadd, 1) := by decide +kernel
theorem dX12_optionOf_12 : decode cX12_optionOf 12 = .ok (.iaload, 1) := by decide +kernel
theorem dX12_optionOf_13 : decode cX12_optionOf 13 = .ok (.iconst 1, 1) := by decide +kernel
theorem dX12_optionOf_14 : decode cX12_optionOf 14 = .ok (.iadd, 1) := by decide +kernel
theorem dX12_optionOf_15 : decode cX12_optionOf 15 = .ok (.imul, 1) := by decide +kernel
theorem dX12_optionOf_16 : decode cX12_optionOf 16 = .ok (.aload_n 0, 1) := by decide +kernel
theorem dX12_optionOf_17 : decode cX12_optionOf 17 = .ok (.getfield 55, 3) := by decide +kernel
theorem dX12_optionOf_20 : decode cX12_optionOf 20 = .ok (.iconst 0, 1) := by decide +kernel
theorem dX12_optionOf_21 : decode cX12_optionOf 21 = .ok (.iload_n 1, 1) := by decide +kernel
theorem dX12_optionOf_22 : decode cX12_optionOf 22 = .ok (.invokestatic 323, 3) := by decide +kernel
theorem dX12_optionOf_25 : decode cX12_optionOf 25 = .ok (.iconst 4, 1) := by decide +kernel
theorem dX12_optionOf_26 : decode cX12_optionOf 26 = .ok (.iadd, 1) := by decide +kernel
theorem dX12_optionOf_27 : decode cX12_optionOf 27 = .ok (.iaload, 1) := by decide +kernel
theorem dX12_optionOf_28 : decode cX12_optionOf 28 = .ok (.iadd, 1) := by decide +kernel
theorem dX12_optionOf_29 : decode cX12_optionOf 29 = .ok (.ireturn, 1) := by decide +kernel
theorem dX12_hasOption_0 : decode cX12_hasOption 0 = .ok (.aload_n 0, 1) := by decide +kernel
theorem dX12_hasOption_1 : decode cX12_hasOption 1 = .ok (.getfield 55, 3) := by decide +kernel
theorem dX12_hasOption_4 : decode cX12_hasOption 4 = .ok (.iconst 0, 1) := by decide +kernel
theorem dX12_hasOption_5 : decode cX12_hasOption 5 = .ok (.iload_n 1, 1) := by decide +kernel
theorem dX12_hasOption_6 : decode cX12_hasOption 6 = .ok (.invokestatic 323, 3) := by decide +kernel
theorem dX12_hasOption_9 : decode cX12_hasOption 9 = .ok (.iconst 3, 1) := by decide +kernel
theorem dX12_hasOption_10 : decode cX12_hasOption 10 = .ok (.iadd, 1) := by decide +kernel
theorem dX12_hasOption_11 : decode cX12_hasOption 11 = .ok (.iload_n 2, 1) := by decide +kernel
theorem dX12_hasOption_12 : decode cX12_hasOption 12 = .ok (.iconst 2, 1) := by decide +kernel
theorem dX12_hasOption_13 : decode cX12_hasOption 13 = .ok (.idiv, 1) := by decide +kernel
theorem dX12_hasOption_14 : decode cX12_hasOption 14 = .ok (.iconst 1, 1) := by decide +kernel
theorem dX12_hasOption_15 : decode cX12_hasOption 15 = .ok (.isub, 1) := by decide +kernel
theorem dX12_hasOption_16 : decode cX12_hasOption 16 = .ok (.iastore, 1) := by decide +kernel
theorem dX12_hasOption_17 : decode cX12_hasOption 17 = .ok (.aload_n 0, 1) := by decide +kernel
theorem dX12_hasOption_18 : decode cX12_hasOption 18 = .ok (.getfield 55, 3) := by decide +kernel
theorem dX12_hasOption_21 : decode cX12_hasOption 21 = .ok (.iconst 0, 1) := by decide +kernel
theorem dX12_hasOption_22 : decode cX12_hasOption 22 = .ok (.iload_n 1, 1) := by decide +kernel
theorem dX12_hasOption_23 : decode cX12_hasOption 23 = .ok (.invokestatic 323, 3) := by decide +kernel
theorem dX12_hasOption_26 : decode cX12_hasOption 26 = .ok (.iconst 4, 1) := by decide +kernel
theorem dX12_hasOption_27 : decode cX12_hasOption 27 = .ok (.iadd, 1) := by decide +kernel
theorem dX12_hasOption_28 : decode cX12_hasOption 28 = .ok (.iload_n 2, 1) := by decide +kernel
theorem dX12_hasOption_29 : decode cX12_hasOption 29 = .ok (.iconst 2, 1) := by decide +kernel
theorem dX12_hasOption_30 : decode cX12_hasOption 30 = .ok (.irem, 1) := by decide +kernel
theorem dX12_hasOption_31 : decode cX12_hasOption 31 = .ok (.iastore, 1) := by decide +kernel
theorem dX12_hasOption_32 : decode cX12_hasOption 32 = .ok (.return_, 1) := by decide +kernel
theorem dX12_option_0 : decode cX12_option 0 = .ok (.aload_n 0, 1) := by decide +kernel
theorem dX12_option_1 : decode cX12_option 1 = .ok (.iconst 0, 1) := by decide +kernel
theorem dX12_option_2 : decode cX12_option 2 = .ok (.putfield 114, 3) := by decide +kernel
theorem dX12_option_5 : decode cX12_option 5 = .ok (.aload_n 0, 1) := by decide +kernel
theorem dX12_option_6 : decode cX12_option 6 = .ok (.iload_n 1, 1) := by decide +kernel
theorem dX12_option_7 : decode cX12_option 7 = .ok (.invokevirtual 318, 3) := by decide +kernel
theorem dX12_option_10 : decode cX12_option 10 = .ok (.ifCond .eq 11, 3) := by decide +kernel
theorem dX12_option_13 : decode cX12_option 13 = .ok (.aload_n 0, 1) := by decide +kernel
theorem dX12_option_14 : decode cX12_option 14 = .ok (.iload_n 2, 1) := by decide +kernel
theorem dX12_option_15 : decode cX12_option 15 = .ok (.invokevirtual 405, 3) := by decide +kernel
theorem dX12_option_18 : decode cX12_option 18 = .ok (.ifCond .ne 6, 3) := by decide +kernel
theorem dX12_option_21 : decode cX12_option 21 = .ok (.bipush (-2), 2) := by decide +kernel
theorem dX12_option_23 : decode cX12_option 23 = .ok (.ireturn, 1) := by decide +kernel
theorem dX12_option_24 : decode cX12_option 24 = .ok (.aload_n 0, 1) := by decide +kernel
theorem dX12_option_25 : decode cX12_option 25 = .ok (.iload_n 1, 1) := by decide +kernel
theorem dX12_option_26 : decode cX12_option 26 = .ok (.invokevirtual 408, 3) := by decide +kernel
theorem dX12_option_29 : decode cX12_option 29 = .ok (.istore_n 3, 1) := by decide +kernel
theorem dX12_option_30 : decode cX12_option 30 = .ok (.aload_n 0, 1) := by decide +kernel
theorem dX12_option_31 : decode cX12_option 31 = .ok (.iload_n 1, 1) := by decide +kernel
theorem dX12_option_32 : decode cX12_option 32 = .ok (.iload_n 2, 1) := by decide +kernel
theorem dX12_option_33 : decode cX12_option 33 = .ok (.invokevirtual 411, 3) := by decide +kernel
theorem dX12_option_36 : decode cX12_option 36 = .ok (.iload_n 3, 1) := by decide +kernel
theorem dX12_option_37 : decode cX12_option 37 = .ok (.ireturn, 1) := by decide +kernel
theorem dX12_wouldOf_0 : decode cX12_wouldOf 0 = .ok (.aload_n 0, 1) := by decide +kernel
theorem dX12_wouldOf_1 : decode cX12_wouldOf 1 = .ok (.iload_n 1, 1) := by decide +kernel
theorem dX12_wouldOf_2 : decode cX12_wouldOf 2 = .ok (.invokevirtual 408, 3) := by decide +kernel
theorem dX12_wouldOf_5 : decode cX12_wouldOf 5 = .ok (.istore_n 3, 1) := by decide +kernel
theorem dX12_wouldOf_6 : decode cX12_wouldOf 6 = .ok (.aload_n 0, 1) := by decide +kernel
theorem dX12_wouldOf_7 : decode cX12_wouldOf 7 = .ok (.iload_n 1, 1) := by decide +kernel
theorem dX12_wouldOf_8 : decode cX12_wouldOf 8 = .ok (.iload_n 2, 1) := by decide +kernel
theorem dX12_wouldOf_9 : decode cX12_wouldOf 9 = .ok (.invokevirtual 411, 3) := by decide +kernel
theorem dX12_wouldOf_12 : decode cX12_wouldOf 12 = .ok (.aload_n 0, 1) := by decide +kernel
theorem dX12_wouldOf_13 : decode cX12_wouldOf 13 = .ok (.iload_n 1, 1) := by decide +kernel
theorem dX12_wouldOf_14 : decode cX12_wouldOf 14 = .ok (.invokevirtual 414, 3) := by decide +kernel
theorem dX12_wouldOf_17 : decode cX12_wouldOf 17 = .ok (.lstore 4, 2) := by decide +kernel
theorem dX12_wouldOf_19 : decode cX12_wouldOf 19 = .ok (.aload_n 0, 1) := by decide +kernel
theorem dX12_wouldOf_20 : decode cX12_wouldOf 20 = .ok (.iload_n 1, 1) := by decide +kernel
theorem dX12_wouldOf_21 : decode cX12_wouldOf 21 = .ok (.iload_n 3, 1) := by decide +kernel
theorem dX12_wouldOf_22 : decode cX12_wouldOf 22 = .ok (.invokevirtual 411, 3) := by decide +kernel
theorem dX12_wouldOf_25 : decode cX12_wouldOf 25 = .ok (.lload 4, 2) := by decide +kernel
theorem dX12_wouldOf_27 : decode cX12_wouldOf 27 = .ok (.lreturn, 1) := by decide +kernel
theorem dX12_would_0 : decode cX12_would 0 = .ok (.aload_n 0, 1) := by decide +kernel
theorem dX12_would_1 : decode cX12_would 1 = .ok (.iconst 0, 1) := by decide +kernel
theorem dX12_would_2 : decode cX12_would 2 = .ok (.putfield 114, 3) := by decide +kernel
theorem dX12_would_5 : decode cX12_would 5 = .ok (.aload_n 0, 1) := by decide +kernel
theorem dX12_would_6 : decode cX12_would 6 = .ok (.iload_n 1, 1) := by decide +kernel
theorem dX12_would_7 : decode cX12_would 7 = .ok (.invokevirtual 318, 3) := by decide +kernel
theorem dX12_would_10 : decode cX12_would 10 = .ok (.ifCond .eq 20, 3) := by decide +kernel
theorem dX12_would_13 : decode cX12_would 13 = .ok (.aload_n 0, 1) := by decide +kernel
theorem dX12_would_14 : decode cX12_would 14 = .ok (.iload_n 2, 1) := by decide +kernel
theorem dX12_would_15 : decode cX12_would 15 = .ok (.invokevirtual 405, 3) := by decide +kernel
theorem dX12_would_18 : decode cX12_would 18 = .ok (.ifCond .eq 12, 3) := by decide +kernel
theorem dX12_would_21 : decode cX12_would 21 = .ok (.aload_n 0, 1) := by decide +kernel
theorem dX12_would_22 : decode cX12_would 22 = .ok (.iload_n 1, 1) := by decide +kernel
theorem dX12_would_23 : decode cX12_would 23 = .ok (.iload_n 2, 1) := by decide +kernel
theorem dX12_would_24 : decode cX12_would 24 = .ok (.invokevirtual 417, 3) := by decide +kernel
theorem dX12_would_27 : decode cX12_would 27 = .ok (.goto 6, 3) := by decide +kernel
theorem dX12_would_30 : decode cX12_would 30 = .ok (.ldc2_w 360, 3) := by decide +kernel
theorem dX12_would_33 : decode cX12_would 33 = .ok (.lreturn, 1) := by decide +kernel
theorem dX12_bestOf_0 : decode cX12_bestOf 0 = .ok (.iconst 0, 1) := by decide +kernel
theorem dX12_bestOf_1 : decode cX12_bestOf 1 = .ok (.istore_n 2, 1) := by decide +kernel
theorem dX12_bestOf_2 : decode cX12_bestOf 2 = .ok (.aload_n 0, 1) := by decide +kernel
theorem dX12_bestOf_3 : decode cX12_bestOf 3 = .ok (.aload_n 0, 1) := by decide +kernel
theorem dX12_bestOf_4 : decode cX12_bestOf 4 = .ok (.iload_n 1, 1) := by decide +kernel
theorem dX12_bestOf_5 : decode cX12_bestOf 5 = .ok (.iconst 0, 1) := by decide +kernel
theorem dX12_bestOf_6 : decode cX12_bestOf 6 = .ok (.invokevirtual 417, 3) := by decide +kernel
theorem dX12_bestOf_9 : decode cX12_bestOf 9 = .ok (.putfield 420, 3) := by decide +kernel
theorem dX12_bestOf_12 : decode cX12_bestOf 12 = .ok (.iconst 1, 1) := by decide +kernel
theorem dX12_bestOf_13 : decode cX12_bestOf 13 = .ok (.istore_n 3, 1) := by decide +kernel
theorem dX12_bestOf_14 : decode cX12_bestOf 14 = .ok (.iload_n 3, 1) := by decide +kernel
theorem dX12_bestOf_15 : decode cX12_bestOf 15 = .ok (.aload_n 0, 1) := by decide +kernel
theorem dX12_bestOf_16 : decode cX12_bestOf 16 = .ok (.invokevirtual 401, 3) := by decide +kernel
theorem dX12_bestOf_19 : decode cX12_bestOf 19 = .ok (.if_icmp .ge 38, 3) := by decide +kernel
theorem dX12_bestOf_22 : decode cX12_bestOf 22 = .ok (.aload_n 0, 1) := by decide +kernel
theorem dX12_bestOf_23 : decode cX12_bestOf 23 = .ok (.iload_n 1, 1) := by decide +kernel
theorem dX12_bestOf_24 : decode cX12_bestOf 24 = .ok (.iload_n 3, 1) := by decide +kernel
theorem dX12_bestOf_25 : decode cX12_bestOf 25 = .ok (.invokevirtual 417, 3) := by decide +kernel
theorem dX12_bestOf_28 : decode cX12_bestOf 28 = .ok (.lstore 4, 2) := by decide +kernel
theorem dX12_bestOf_30 : decode cX12_bestOf 30 = .ok (.lload 4, 2) := by decide +kernel
theorem dX12_bestOf_32 : decode cX12_bestOf 32 = .ok (.aload_n 0, 1) := by decide +kernel
theorem dX12_bestOf_33 : decode cX12_bestOf 33 = .ok (.getfield 420, 3) := by decide +kernel
theorem dX12_bestOf_36 : decode cX12_bestOf 36 = .ok (.lcmp, 1) := by decide +kernel
theorem dX12_bestOf_37 : decode cX12_bestOf 37 = .ok (.ifCond .lt 6, 3) := by decide +kernel
theorem dX12_bestOf_40 : decode cX12_bestOf 40 = .ok (.goto 11, 3) := by decide +kernel
theorem dX12_bestOf_43 : decode cX12_bestOf 43 = .ok (.iload_n 3, 1) := by decide +kernel
theorem dX12_bestOf_44 : decode cX12_bestOf 44 = .ok (.istore_n 2, 1) := by decide +kernel
theorem dX12_bestOf_45 : decode cX12_bestOf 45 = .ok (.aload_n 0, 1) := by decide +kernel
theorem dX12_bestOf_46 : decode cX12_bestOf 46 = .ok (.lload 4, 2) := by decide +kernel
theorem dX12_bestOf_48 : decode cX12_bestOf 48 = .ok (.putfield 420, 3) := by decide +kernel
theorem dX12_bestOf_51 : decode cX12_bestOf 51 = .ok (.iinc 3 1, 3) := by decide +kernel
theorem dX12_bestOf_54 : decode cX12_bestOf 54 = .ok (.goto (-40), 3) := by decide +kernel
theorem dX12_bestOf_57 : decode cX12_bestOf 57 = .ok (.iload_n 2, 1) := by decide +kernel
theorem dX12_bestOf_58 : decode cX12_bestOf 58 = .ok (.ireturn, 1) := by decide +kernel
theorem dX12_best_0 : decode cX12_best 0 = .ok (.aload_n 0, 1) := by decide +kernel
theorem dX12_best_1 : decode cX12_best 1 = .ok (.iconst 0, 1) := by decide +kernel
theorem dX12_best_2 : decode cX12_best 2 = .ok (.putfield 114, 3) := by decide +kernel
theorem dX12_best_5 : decode cX12_best 5 = .ok (.aload_n 0, 1) := by decide +kernel
theorem dX12_best_6 : decode cX12_best 6 = .ok (.iload_n 1, 1) := by decide +kernel
theorem dX12_best_7 : decode cX12_best 7 = .ok (.invokevirtual 318, 3) := by decide +kernel
theorem dX12_best_10 : decode cX12_best 10 = .ok (.ifCond .eq 11, 3) := by decide +kernel
theorem dX12_best_13 : decode cX12_best 13 = .ok (.aload_n 0, 1) := by decide +kernel
theorem dX12_best_14 : decode cX12_best 14 = .ok (.iload_n 1, 1) := by decide +kernel
theorem dX12_best_15 : decode cX12_best 15 = .ok (.invokevirtual 423, 3) := by decide +kernel
theorem dX12_best_18 : decode cX12_best 18 = .ok (.goto 5, 3) := by decide +kernel
theorem dX12_best_21 : decode cX12_best 21 = .ok (.bipush (-2), 2) := by decide +kernel
theorem dX12_best_23 : decode cX12_best 23 = .ok (.ireturn, 1) := by decide +kernel
theorem dX12_restless_0 : decode cX12_restless 0 = .ok (.aload_n 0, 1) := by decide +kernel
theorem dX12_restless_1 : decode cX12_restless 1 = .ok (.iconst 0, 1) := by decide +kernel
theorem dX12_restless_2 : decode cX12_restless 2 = .ok (.putfield 114, 3) := by decide +kernel
theorem dX12_restless_5 : decode cX12_restless 5 = .ok (.aload_n 0, 1) := by decide +kernel
theorem dX12_restless_6 : decode cX12_restless 6 = .ok (.invokevirtual 354, 3) := by decide +kernel
theorem dX12_restless_9 : decode cX12_restless 9 = .ok (.ifCond .ne 6, 3) := by decide +kernel
theorem dX12_restless_12 : decode cX12_restless 12 = .ok (.bipush (-2), 2) := by decide +kernel
theorem dX12_restless_14 : decode cX12_restless 14 = .ok (.ireturn, 1) := by decide +kernel
theorem dX12_restless_15 : decode cX12_restless 15 = .ok (.iconst 0, 1) := by decide +kernel
theorem dX12_restless_16 : decode cX12_restless 16 = .ok (.istore_n 1, 1) := by decide +kernel
theorem dX12_restless_17 : decode cX12_restless 17 = .ok (.iconst 0, 1) := by decide +kernel
theorem dX12_restless_18 : decode cX12_restless 18 = .ok (.istore_n 2, 1) := by decide +kernel
theorem dX12_restless_19 : decode cX12_restless 19 = .ok (.iload_n 2, 1) := by decide +kernel
theorem dX12_restless_20 : decode cX12_restless 20 = .ok (.aload_n 0, 1) := by decide +kernel
theorem dX12_restless_21 : decode cX12_restless 21 = .ok (.getfield 52, 3) := by decide +kernel
theorem dX12_restless_24 : decode cX12_restless 24 = .ok (.iconst 0, 1) := by decide +kernel
theorem dX12_restless_25 : decode cX12_restless 25 = .ok (.iaload, 1) := by decide +kernel
theorem dX12_restless_26 : decode cX12_restless 26 = .ok (.if_icmp .ge 36, 3) := by decide +kernel
theorem dX12_restless_29 : decode cX12_restless 29 = .ok (.aload_n 0, 1) := by decide +kernel
theorem dX12_restless_30 : decode cX12_restless 30 = .ok (.iload_n 2, 1) := by decide +kernel
theorem dX12_restless_31 : decode cX12_restless 31 = .ok (.invokevirtual 423, 3) := by decide +kernel
theorem dX12_restless_34 : decode cX12_restless 34 = .ok (.pop, 1) := by decide +kernel
theorem dX12_restless_35 : decode cX12_restless 35 = .ok (.iload_n 1, 1) := by decide +kernel
theorem dX12_restless_36 : decode cX12_restless 36 = .ok (.aload_n 0, 1) := by decide +kernel
theorem dX12_restless_37 : decode cX12_restless 37 = .ok (.getfield 420, 3) := by decide +kernel
theorem dX12_restless_40 : decode cX12_restless 40 = .ok (.aload_n 0, 1) := by decide +kernel
theorem dX12_restless_41 : decode cX12_restless 41 = .ok (.iload_n 2, 1) := by decide +kernel
theorem dX12_restless_42 : decode cX12_restless 42 = .ok (.invokevirtual 414, 3) := by decide +kernel
theorem dX12_restless_45 : decode cX12_restless 45 = .ok (.lcmp, 1) := by decide +kernel
theorem dX12_restless_46 : decode cX12_restless 46 = .ok (.ifCond .ge 7, 3) := by decide +kernel
theorem dX12_restless_49 : decode cX12_restless 49 = .ok (.iconst 1, 1) := by decide +kernel
theorem dX12_restless_50 : decode cX12_restless 50 = .ok (.goto 4, 3) := by decide +kernel
theorem dX12_restless_53 : decode cX12_restless 53 = .ok (.iconst 0, 1) := by decide +kernel
theorem dX12_restless_54 : decode cX12_restless 54 = .ok (.iadd, 1) := by decide +kernel
theorem dX12_restless_55 : decode cX12_restless 55 = .ok (.istore_n 1, 1) := by decide +kernel
theorem dX12_restless_56 : decode cX12_restless 56 = .ok (.iinc 2 1, 3) := by decide +kernel
theorem dX12_restless_59 : decode cX12_restless 59 = .ok (.goto (-40), 3) := by decide +kernel
theorem dX12_restless_62 : decode cX12_restless 62 = .ok (.iload_n 1, 1) := by decide +kernel
theorem dX12_restless_63 : decode cX12_restless 63 = .ok (.ireturn, 1) := by decide +kernel
theorem dX12_round_0 : decode cX12_round 0 = .ok (.iconst 0, 1) := by decide +kernel
theorem dX12_round_1 : decode cX12_round 1 = .ok (.istore_n 1, 1) := by decide +kernel
theorem dX12_round_2 : decode cX12_round 2 = .ok (.iconst 0, 1) := by decide +kernel
theorem dX12_round_3 : decode cX12_round 3 = .ok (.istore_n 2, 1) := by decide +kernel
theorem dX12_round_4 : decode cX12_round 4 = .ok (.iload_n 2, 1) := by decide +kernel
theorem dX12_round_5 : decode cX12_round 5 = .ok (.aload_n 0, 1) := by decide +kernel
theorem dX12_round_6 : decode cX12_round 6 = .ok (.getfield 52, 3) := by decide +kernel
theorem dX12_round_9 : decode cX12_round 9 = .ok (.iconst 0, 1) := by decide +kernel
theorem dX12_round_10 : decode cX12_round 10 = .ok (.iaload, 1) := by decide +kernel
theorem dX12_round_11 : decode cX12_round 11 = .ok (.if_icmp .ge 39, 3) := by decide +kernel
theorem dX12_round_14 : decode cX12_round 14 = .ok (.aload_n 0, 1) := by decide +kernel
theorem dX12_round_15 : decode cX12_round 15 = .ok (.iload_n 2, 1) := by decide +kernel
theorem dX12_round_16 : decode cX12_round 16 = .ok (.invokevirtual 423, 3) := by decide +kernel
theorem dX12_round_19 : decode cX12_round 19 = .ok (.istore_n 3, 1) := by decide +kernel
theorem dX12_round_20 : decode cX12_round 20 = .ok (.aload_n 0, 1) := by decide +kernel
theorem dX12_round_21 : decode cX12_round 21 = .ok (.getfield 420, 3) := by decide +kernel
theorem dX12_round_24 : decode cX12_round 24 = .ok (.aload_n 0, 1) := by decide +kernel
theorem dX12_round_25 : decode cX12_round 25 = .ok (.iload_n 2, 1) := by decide +kernel
theorem dX12_round_26 : decode cX12_round 26 = .ok (.invokevirtual 414, 3) := by decide +kernel
theorem dX12_round_29 : decode cX12_round 29 = .ok (.lcmp, 1) := by decide +kernel
theorem dX12_round_30 : decode cX12_round 30 = .ok (.ifCond .lt 6, 3) := by decide +kernel
theorem dX12_round_33 : decode cX12_round 33 = .ok (.goto 11, 3) := by decide +kernel
theorem dX12_round_36 : decode cX12_round 36 = .ok (.aload_n 0, 1) := by decide +kernel
theorem dX12_round_37 : decode cX12_round 37 = .ok (.iload_n 2, 1) := by decide +kernel
theorem dX12_round_38 : decode cX12_round 38 = .ok (.iload_n 3, 1) := by decide +kernel
theorem dX12_round_39 : decode cX12_round 39 = .ok (.invokevirtual 411, 3) := by decide +kernel
theorem dX12_round_42 : decode cX12_round 42 = .ok (.iconst 1, 1) := by decide +kernel
theorem dX12_round_43 : decode cX12_round 43 = .ok (.istore_n 1, 1) := by decide +kernel
theorem dX12_round_44 : decode cX12_round 44 = .ok (.iinc 2 1, 3) := by decide +kernel
theorem dX12_round_47 : decode cX12_round 47 = .ok (.goto (-43), 3) := by decide +kernel
theorem dX12_round_50 : decode cX12_round 50 = .ok (.iload_n 1, 1) := by decide +kernel
theorem dX12_round_51 : decode cX12_round 51 = .ok (.ireturn, 1) := by decide +kernel
theorem dX12_laysAside_0 : decode cX12_laysAside 0 = .ok (.iconst 0, 1) := by decide +kernel
theorem dX12_laysAside_1 : decode cX12_laysAside 1 = .ok (.istore_n 1, 1) := by decide +kernel
theorem dX12_laysAside_2 : decode cX12_laysAside 2 = .ok (.iload_n 1, 1) := by decide +kernel
theorem dX12_laysAside_3 : decode cX12_laysAside 3 = .ok (.aload_n 0, 1) := by decide +kernel
theorem dX12_laysAside_4 : decode cX12_laysAside 4 = .ok (.getfield 52, 3) := by decide +kernel
theorem dX12_laysAside_7 : decode cX12_laysAside 7 = .ok (.iconst 0, 1) := by decide +kernel
theorem dX12_laysAside_8 : decode cX12_laysAside 8 = .ok (.iaload, 1) := by decide +kernel
theorem dX12_laysAside_9 : decode cX12_laysAside 9 = .ok (.if_icmp .ge 20, 3) := by decide +kernel
theorem dX12_laysAside_12 : decode cX12_laysAside 12 = .ok (.aload_n 0, 1) := by decide +kernel
theorem dX12_laysAside_13 : decode cX12_laysAside 13 = .ok (.getfield 92, 3) := by decide +kernel
theorem dX12_laysAside_16 : decode cX12_laysAside 16 = .ok (.iload_n 1, 1) := by decide +kernel
theorem dX12_laysAside_17 : decode cX12_laysAside 17 = .ok (.aload_n 0, 1) := by decide +kernel
theorem dX12_laysAside_18 : decode cX12_laysAside 18 = .ok (.iload_n 1, 1) := by decide +kernel
theorem dX12_laysAside_19 : decode cX12_laysAside 19 = .ok (.invokevirtual 408, 3) := by decide +kernel
theorem dX12_laysAside_22 : decode cX12_laysAside 22 = .ok (.iastore, 1) := by decide +kernel
theorem dX12_laysAside_23 : decode cX12_laysAside 23 = .ok (.iinc 1 1, 3) := by decide +kernel
theorem dX12_laysAside_26 : decode cX12_laysAside 26 = .ok (.goto (-24), 3) := by decide +kernel
theorem dX12_laysAside_29 : decode cX12_laysAside 29 = .ok (.return_, 1) := by decide +kernel
theorem dX12_takesBack_0 : decode cX12_takesBack 0 = .ok (.iconst 0, 1) := by decide +kernel
theorem dX12_takesBack_1 : decode cX12_takesBack 1 = .ok (.istore_n 1, 1) := by decide +kernel
theorem dX12_takesBack_2 : decode cX12_takesBack 2 = .ok (.iload_n 1, 1) := by decide +kernel
theorem dX12_takesBack_3 : decode cX12_takesBack 3 = .ok (.aload_n 0, 1) := by decide +kernel
theorem dX12_takesBack_4 : decode cX12_takesBack 4 = .ok (.getfield 52, 3) := by decide +kernel
theorem dX12_takesBack_7 : decode cX12_takesBack 7 = .ok (.iconst 0, 1) := by decide +kernel
theorem dX12_takesBack_8 : decode cX12_takesBack 8 = .ok (.iaload, 1) := by decide +kernel
theorem dX12_takesBack_9 : decode cX12_takesBack 9 = .ok (.if_icmp .ge 20, 3) := by decide +kernel
theorem dX12_takesBack_12 : decode cX12_takesBack 12 = .ok (.aload_n 0, 1) := by decide +kernel
theorem dX12_takesBack_13 : decode cX12_takesBack 13 = .ok (.iload_n 1, 1) := by decide +kernel
theorem dX12_takesBack_14 : decode cX12_takesBack 14 = .ok (.aload_n 0, 1) := by decide +kernel
theorem dX12_takesBack_15 : decode cX12_takesBack 15 = .ok (.getfield 92, 3) := by decide +kernel
theorem dX12_takesBack_18 : decode cX12_takesBack 18 = .ok (.iload_n 1, 1) := by decide +kernel
theorem dX12_takesBack_19 : decode cX12_takesBack 19 = .ok (.iaload, 1) := by decide +kernel
theorem dX12_takesBack_20 : decode cX12_takesBack 20 = .ok (.invokevirtual 411, 3) := by decide +kernel
theorem dX12_takesBack_23 : decode cX12_takesBack 23 = .ok (.iinc 1 1, 3) := by decide +kernel
theorem dX12_takesBack_26 : decode cX12_takesBack 26 = .ok (.goto (-24), 3) := by decide +kernel
theorem dX12_takesBack_29 : decode cX12_takesBack 29 = .ok (.return_, 1) := by decide +kernel
theorem dX12_settlesIn_0 : decode cX12_settlesIn 0 = .ok (.aload_n 0, 1) := by decide +kernel
theorem dX12_settlesIn_1 : decode cX12_settlesIn 1 = .ok (.iconst 0, 1) := by decide +kernel
theorem dX12_settlesIn_2 : decode cX12_settlesIn 2 = .ok (.putfield 426, 3) := by decide +kernel
theorem dX12_settlesIn_5 : decode cX12_settlesIn 5 = .ok (.iconst 0, 1) := by decide +kernel
theorem dX12_settlesIn_6 : decode cX12_settlesIn 6 = .ok (.istore_n 2, 1) := by decide +kernel
theorem dX12_settlesIn_7 : decode cX12_settlesIn 7 = .ok (.iload_n 2, 1) := by decide +kernel
theorem dX12_settlesIn_8 : decode cX12_settlesIn 8 = .ok (.iload_n 1, 1) := by decide +kernel
theorem dX12_settlesIn_9 : decode cX12_settlesIn 9 = .ok (.if_icmp .ge 32, 3) := by decide +kernel
theorem dX12_settlesIn_12 : decode cX12_settlesIn 12 = .ok (.aload_n 0, 1) := by decide +kernel
theorem dX12_settlesIn_13 : decode cX12_settlesIn 13 = .ok (.getfield 426, 3) := by decide +kernel
theorem dX12_settlesIn_16 : decode cX12_settlesIn 16 = .ok (.ifCond .ne 25, 3) := by decide +kernel
theorem dX12_settlesIn_19 : decode cX12_settlesIn 19 = .ok (.aload_n 0, 1) := by decide +kernel
theorem dX12_settlesIn_20 : decode cX12_settlesIn 20 = .ok (.aload_n 0, 1) := by decide +kernel
theorem dX12_settlesIn_21 : decode cX12_settlesIn 21 = .ok (.invokevirtual 430, 3) := by decide +kernel
theorem dX12_settlesIn_24 : decode cX12_settlesIn 24 = .ok (.ifCond .ne 7, 3) := by decide +kernel
theorem dX12_settlesIn_27 : decode cX12_settlesIn 27 = .ok (.iconst 1, 1) := by decide +kernel
theorem dX12_settlesIn_28 : decode cX12_settlesIn 28 = .ok (.goto 4, 3) := by decide +kernel
theorem dX12_settlesIn_31 : decode cX12_settlesIn 31 = .ok (.iconst 0, 1) := by decide +kernel
theorem dX12_settlesIn_32 : decode cX12_settlesIn 32 = .ok (.putfield 426, 3) := by decide +kernel
theorem dX12_settlesIn_35 : decode cX12_settlesIn 35 = .ok (.iinc 2 1, 3) := by decide +kernel
theorem dX12_settlesIn_38 : decode cX12_settlesIn 38 = .ok (.goto (-31), 3) := by decide +kernel
theorem dX12_settlesIn_41 : decode cX12_settlesIn 41 = .ok (.iload_n 2, 1) := by decide +kernel
theorem dX12_settlesIn_42 : decode cX12_settlesIn 42 = .ok (.ireturn, 1) := by decide +kernel
theorem dX12_settle_0 : decode cX12_settle 0 = .ok (.aload_n 0, 1) := by decide +kernel
theorem dX12_settle_1 : decode cX12_settle 1 = .ok (.iconst 0, 1) := by decide +kernel
theorem dX12_settle_2 : decode cX12_settle 2 = .ok (.putfield 114, 3) := by decide +kernel
theorem dX12_settle_5 : decode cX12_settle 5 = .ok (.aload_n 0, 1) := by decide +kernel
theorem dX12_settle_6 : decode cX12_settle 6 = .ok (.invokevirtual 354, 3) := by decide +kernel
theorem dX12_settle_9 : decode cX12_settle 9 = .ok (.ifCond .eq 23, 3) := by decide +kernel
theorem dX12_settle_12 : decode cX12_settle 12 = .ok (.iload_n 1, 1) := by decide +kernel
theorem dX12_settle_13 : decode cX12_settle 13 = .ok (.i2l, 1) := by decide +kernel
theorem dX12_settle_14 : decode cX12_settle 14 = .ok (.lconst 0, 1) := by decide +kernel
theorem dX12_settle_15 : decode cX12_settle 15 = .ok (.ldc2_w 433, 3) := by decide +kernel
theorem dX12_settle_18 : decode cX12_settle 18 = .ok (.invokestatic 119, 3) := by decide +kernel
theorem dX12_settle_21 : decode cX12_settle 21 = .ok (.ifCond .eq 11, 3) := by decide +kernel
theorem dX12_settle_24 : decode cX12_settle 24 = .ok (.aload_n 0, 1) := by decide +kernel
theorem dX12_settle_25 : decode cX12_settle 25 = .ok (.iload_n 1, 1) := by decide +kernel
theorem dX12_settle_26 : decode cX12_settle 26 = .ok (.invokevirtual 435, 3) := by decide +kernel
theorem dX12_settle_29 : decode cX12_settle 29 = .ok (.goto 5, 3) := by decide +kernel
theorem dX12_settle_32 : decode cX12_settle 32 = .ok (.bipush (-2), 2) := by decide +kernel
theorem dX12_settle_34 : decode cX12_settle 34 = .ok (.ireturn, 1) := by decide +kernel
theorem dX12_settles_0 : decode cX12_settles 0 = .ok (.aload_n 0, 1) := by decide +kernel
theorem dX12_settles_1 : decode cX12_settles 1 = .ok (.iconst 0, 1) := by decide +kernel
theorem dX12_settles_2 : decode cX12_settles 2 = .ok (.putfield 114, 3) := by decide +kernel
theorem dX12_settles_5 : decode cX12_settles 5 = .ok (.aload_n 0, 1) := by decide +kernel
theorem dX12_settles_6 : decode cX12_settles 6 = .ok (.invokevirtual 354, 3) := by decide +kernel
theorem dX12_settles_9 : decode cX12_settles 9 = .ok (.ifCond .ne 6, 3) := by decide +kernel
theorem dX12_settles_12 : decode cX12_settles 12 = .ok (.bipush (-2), 2) := by decide +kernel
theorem dX12_settles_14 : decode cX12_settles 14 = .ok (.ireturn, 1) := by decide +kernel
theorem dX12_settles_15 : decode cX12_settles 15 = .ok (.aload_n 0, 1) := by decide +kernel
theorem dX12_settles_16 : decode cX12_settles 16 = .ok (.invokevirtual 438, 3) := by decide +kernel
theorem dX12_settles_19 : decode cX12_settles 19 = .ok (.aload_n 0, 1) := by decide +kernel
theorem dX12_settles_20 : decode cX12_settles 20 = .ok (.bipush 30, 2) := by decide +kernel
theorem dX12_settles_22 : decode cX12_settles 22 = .ok (.invokevirtual 435, 3) := by decide +kernel
theorem dX12_settles_25 : decode cX12_settles 25 = .ok (.istore_n 1, 1) := by decide +kernel
theorem dX12_settles_26 : decode cX12_settles 26 = .ok (.aload_n 0, 1) := by decide +kernel
theorem dX12_settles_27 : decode cX12_settles 27 = .ok (.invokevirtual 441, 3) := by decide +kernel
theorem dX12_settles_30 : decode cX12_settles 30 = .ok (.aload_n 0, 1) := by decide +kernel
theorem dX12_settles_31 : decode cX12_settles 31 = .ok (.getfield 426, 3) := by decide +kernel
theorem dX12_settles_34 : decode cX12_settles 34 = .ok (.ifCond .eq 7, 3) := by decide +kernel
theorem dX12_settles_37 : decode cX12_settles 37 = .ok (.iload_n 1, 1) := by decide +kernel
theorem dX12_settles_38 : decode cX12_settles 38 = .ok (.goto 4, 3) := by decide +kernel
theorem dX12_settles_41 : decode cX12_settles 41 = .ok (.iconst (-1), 1) := by decide +kernel
theorem dX12_settles_42 : decode cX12_settles 42 = .ok (.ireturn, 1) := by decide +kernel
theorem dX12_settled_0 : decode cX12_settled 0 = .ok (.aload_n 0, 1) := by decide +kernel
theorem dX12_settled_1 : decode cX12_settled 1 = .ok (.iconst 0, 1) := by decide +kernel
theorem dX12_settled_2 : decode cX12_settled 2 = .ok (.putfield 114, 3) := by decide +kernel
theorem dX12_settled_5 : decode cX12_settled 5 = .ok (.aload_n 0, 1) := by decide +kernel
theorem dX12_settled_6 : decode cX12_settled 6 = .ok (.invokevirtual 354, 3) := by decide +kernel
theorem dX12_settled_9 : decode cX12_settled 9 = .ok (.ifCond .ne 7, 3) := by decide +kernel
theorem dX12_settled_12 : decode cX12_settled 12 = .ok (.ldc2_w 360, 3) := by decide +kernel
theorem dX12_settled_15 : decode cX12_settled 15 = .ok (.lreturn, 1) := by decide +kernel
theorem dX12_settled_16 : decode cX12_settled 16 = .ok (.aload_n 0, 1) := by decide +kernel
theorem dX12_settled_17 : decode cX12_settled 17 = .ok (.invokevirtual 438, 3) := by decide +kernel
theorem dX12_settled_20 : decode cX12_settled 20 = .ok (.aload_n 0, 1) := by decide +kernel
theorem dX12_settled_21 : decode cX12_settled 21 = .ok (.bipush 30, 2) := by decide +kernel
theorem dX12_settled_23 : decode cX12_settled 23 = .ok (.invokevirtual 435, 3) := by decide +kernel
theorem dX12_settled_26 : decode cX12_settled 26 = .ok (.pop, 1) := by decide +kernel
theorem dX12_settled_27 : decode cX12_settled 27 = .ok (.aload_n 0, 1) := by decide +kernel
theorem dX12_settled_28 : decode cX12_settled 28 = .ok (.iconst 2, 1) := by decide +kernel
theorem dX12_settled_29 : decode cX12_settled 29 = .ok (.invokevirtual 398, 3) := by decide +kernel
theorem dX12_settled_32 : decode cX12_settled 32 = .ok (.lstore_n 1, 1) := by decide +kernel
theorem dX12_settled_33 : decode cX12_settled 33 = .ok (.aload_n 0, 1) := by decide +kernel
theorem dX12_settled_34 : decode cX12_settled 34 = .ok (.invokevirtual 441, 3) := by decide +kernel
theorem dX12_settled_37 : decode cX12_settled 37 = .ok (.aload_n 0, 1) := by decide +kernel
theorem dX12_settled_38 : decode cX12_settled 38 = .ok (.getfield 426, 3) := by decide +kernel
theorem dX12_settled_41 : decode cX12_settled 41 = .ok (.ifCond .eq 7, 3) := by decide +kernel
theorem dX12_settled_44 : decode cX12_settled 44 = .ok (.lload_n 1, 1) := by decide +kernel
theorem dX12_settled_45 : decode cX12_settled 45 = .ok (.goto 6, 3) := by decide +kernel
theorem dX12_settled_48 : decode cX12_settled 48 = .ok (.ldc2_w 158, 3) := by decide +kernel
theorem dX12_settled_51 : decode cX12_settled 51 = .ok (.lreturn, 1) := by decide +kernel
theorem dX12_changes_0 : decode cX12_changes 0 = .ok (.aload_n 0, 1) := by decide +kernel
theorem dX12_changes_1 : decode cX12_changes 1 = .ok (.iconst 2, 1) := by decide +kernel
theorem dX12_changes_2 : decode cX12_changes 2 = .ok (.invokevirtual 398, 3) := by decide +kernel
theorem dX12_changes_5 : decode cX12_changes 5 = .ok (.lstore_n 1, 1) := by decide +kernel
theorem dX12_changes_6 : decode cX12_changes 6 = .ok (.iconst (-1), 1) := by decide +kernel
theorem dX12_changes_7 : decode cX12_changes 7 = .ok (.istore_n 3, 1) := by decide +kernel
theorem dX12_changes_8 : decode cX12_changes 8 = .ok (.iconst 0, 1) := by decide +kernel
theorem dX12_changes_9 : decode cX12_changes 9 = .ok (.istore 4, 2) := by decide +kernel
theorem dX12_changes_11 : decode cX12_changes 11 = .ok (.iconst 0, 1) := by decide +kernel
theorem dX12_changes_12 : decode cX12_changes 12 = .ok (.istore 5, 2) := by decide +kernel
theorem dX12_changes_14 : decode cX12_changes 14 = .ok (.iload 5, 2) := by decide +kernel
theorem dX12_changes_16 : decode cX12_changes 16 = .ok (.aload_n 0, 1) := by decide +kernel
theorem dX12_changes_17 : decode cX12_changes 17 = .ok (.getfield 52, 3) := by decide +kernel
theorem dX12_changes_20 : decode cX12_changes 20 = .ok (.iconst 0, 1) := by decide +kernel
theorem dX12_changes_21 : decode cX12_changes 21 = .ok (.iaload, 1) := by decide +kernel
theorem dX12_changes_22 : decode cX12_changes 22 = .ok (.if_icmp .ge 78, 3) := by decide +kernel
theorem dX12_changes_25 : decode cX12_changes 25 = .ok (.aload_n 0, 1) := by decide +kernel
theorem dX12_changes_26 : decode cX12_changes 26 = .ok (.iload 5, 2) := by decide +kernel
theorem dX12_changes_28 : decode cX12_changes 28 = .ok (.invokevirtual 408, 3) := by decide +kernel
theorem dX12_changes_31 : decode cX12_changes 31 = .ok (.istore 6, 2) := by decide +kernel
theorem dX12_changes_33 : decode cX12_changes 33 = .ok (.iconst 0, 1) := by decide +kernel
theorem dX12_changes_34 : decode cX12_changes 34 = .ok (.istore 7, 2) := by decide +kernel
theorem dX12_changes_36 : decode cX12_changes 36 = .ok (.iload 7, 2) := by decide +kernel
theorem dX12_changes_38 : decode cX12_changes 38 = .ok (.aload_n 0, 1) := by decide +kernel
theorem dX12_changes_39 : decode cX12_changes 39 = .ok (.invokevirtual 401, 3) := by decide +kernel
theorem dX12_changes_42 : decode cX12_changes 42 = .ok (.if_icmp .ge 44, 3) := by decide +kernel
theorem dX12_changes_45 : decode cX12_changes 45 = .ok (.aload_n 0, 1) := by decide +kernel
theorem dX12_changes_46 : decode cX12_changes 46 = .ok (.iload 5, 2) := by decide +kernel
theorem dX12_changes_48 : decode cX12_changes 48 = .ok (.iload 7, 2) := by decide +kernel
theorem dX12_changes_50 : decode cX12_changes 50 = .ok (.invokevirtual 411, 3) := by decide +kernel
theorem dX12_changes_53 : decode cX12_changes 53 = .ok (.aload_n 0, 1) := by decide +kernel
theorem dX12_changes_54 : decode cX12_changes 54 = .ok (.iconst 2, 1) := by decide +kernel
theorem dX12_changes_55 : decode cX12_changes 55 = .ok (.invokevirtual 398, 3) := by decide +kernel
theorem dX12_changes_58 : decode cX12_changes 58 = .ok (.lstore 8, 2) := by decide +kernel
theorem dX12_changes_60 : decode cX12_changes 60 = .ok (.lload 8, 2) := by decide +kernel
theorem dX12_changes_62 : decode cX12_changes 62 = .ok (.lload_n 1, 1) := by decide +kernel
theorem dX12_changes_63 : decode cX12_changes 63 = .ok (.lcmp, 1) := by decide +kernel
theorem dX12_changes_64 : decode cX12_changes 64 = .ok (.ifCond .lt 6, 3) := by decide +kernel
theorem dX12_changes_67 : decode cX12_changes 67 = .ok (.goto 13, 3) := by decide +kernel
theorem dX12_changes_70 : decode cX12_changes 70 = .ok (.lload 8, 2) := by decide +kernel
theorem dX12_changes_72 : decode cX12_changes 72 = .ok (.lstore_n 1, 1) := by decide +kernel
theorem dX12_changes_73 : decode cX12_changes 73 = .ok (.iload 5, 2) := by decide +kernel
theorem dX12_changes_75 : decode cX12_changes 75 = .ok (.istore_n 3, 1) := by decide +kernel
theorem dX12_changes_76 : decode cX12_changes 76 = .ok (.iload 7, 2) := by decide +kernel
theorem dX12_changes_78 : decode cX12_changes 78 = .ok (.istore 4, 2) := by decide +kernel
theorem dX12_changes_80 : decode cX12_changes 80 = .ok (.iinc 7 1, 3) := by decide +kernel
theorem dX12_changes_83 : decode cX12_changes 83 = .ok (.goto (-47), 3) := by decide +kernel
theorem dX12_changes_86 : decode cX12_changes 86 = .ok (.aload_n 0, 1) := by decide +kernel
theorem dX12_changes_87 : decode cX12_changes 87 = .ok (.iload 5, 2) := by decide +kernel
theorem dX12_changes_89 : decode cX12_changes 89 = .ok (.iload 6, 2) := by decide +kernel
theorem dX12_changes_91 : decode cX12_changes 91 = .ok (.invokevirtual 411, 3) := by decide +kernel
theorem dX12_changes_94 : decode cX12_changes 94 = .ok (.iinc 5 1, 3) := by decide +kernel
theorem dX12_changes_97 : decode cX12_changes 97 = .ok (.goto (-83), 3) := by decide +kernel
theorem dX12_changes_100 : decode cX12_changes 100 = .ok (.iload_n 3, 1) := by decide +kernel
theorem dX12_changes_101 : decode cX12_changes 101 = .ok (.iconst (-1), 1) := by decide +kernel
theorem dX12_changes_102 : decode cX12_changes 102 = .ok (.if_icmp .ne 5, 3) := by decide +kernel
theorem dX12_changes_105 : decode cX12_changes 105 = .ok (.iconst 0, 1) := by decide +kernel
theorem dX12_changes_106 : decode cX12_changes 106 = .ok (.ireturn, 1) := by decide +kernel
theorem dX12_changes_107 : decode cX12_changes 107 = .ok (.aload_n 0, 1) := by decide +kernel
theorem dX12_changes_108 : decode cX12_changes 108 = .ok (.iload_n 3, 1) := by decide +kernel
theorem dX12_changes_109 : decode cX12_changes 109 = .ok (.iload 4, 2) := by decide +kernel
theorem dX12_changes_111 : decode cX12_changes 111 = .ok (.invokevirtual 411, 3) := by decide +kernel
theorem dX12_changes_114 : decode cX12_changes 114 = .ok (.iconst 1, 1) := by decide +kernel
theorem dX12_changes_115 : decode cX12_changes 115 = .ok (.ireturn, 1) := by decide +kernel
theorem dX12_betters_0 : decode cX12_betters 0 = .ok (.iconst 0, 1) := by decide +kernel
theorem dX12_betters_1 : decode cX12_betters 1 = .ok (.istore_n 2, 1) := by decide +kernel
theorem dX12_betters_2 : decode cX12_betters 2 = .ok (.iload_n 2, 1) := by decide +kernel
theorem dX12_betters_3 : decode cX12_betters 3 = .ok (.iload_n 1, 1) := by decide +kernel
theorem dX12_betters_4 : decode cX12_betters 4 = .ok (.if_icmp .ge 16, 3) := by decide +kernel
theorem dX12_betters_7 : decode cX12_betters 7 = .ok (.aload_n 0, 1) := by decide +kernel
theorem dX12_betters_8 : decode cX12_betters 8 = .ok (.invokevirtual 444, 3) := by decide +kernel
theorem dX12_betters_11 : decode cX12_betters 11 = .ok (.ifCond .eq 9, 3) := by decide +kernel
theorem dX12_betters_14 : decode cX12_betters 14 = .ok (.iinc 2 1, 3) := by decide +kernel
theorem dX12_betters_17 : decode cX12_betters 17 = .ok (.goto (-15), 3) := by decide +kernel
theorem dX12_betters_20 : decode cX12_betters 20 = .ok (.iload_n 2, 1) := by decide +kernel
theorem dX12_betters_21 : decode cX12_betters 21 = .ok (.ireturn, 1) := by decide +kernel
theorem dX12_better_0 : decode cX12_better 0 = .ok (.aload_n 0, 1) := by decide +kernel
theorem dX12_better_1 : decode cX12_better 1 = .ok (.iconst 0, 1) := by decide +kernel
theorem dX12_better_2 : decode cX12_better 2 = .ok (.putfield 114, 3) := by decide +kernel
theorem dX12_better_5 : decode cX12_better 5 = .ok (.aload_n 0, 1) := by decide +kernel
theorem dX12_better_6 : decode cX12_better 6 = .ok (.invokevirtual 354, 3) := by decide +kernel
theorem dX12_better_9 : decode cX12_better 9 = .ok (.ifCond .eq 23, 3) := by decide +kernel
theorem dX12_better_12 : decode cX12_better 12 = .ok (.iload_n 1, 1) := by decide +kernel
theorem dX12_better_13 : decode cX12_better 13 = .ok (.i2l, 1) := by decide +kernel
theorem dX12_better_14 : decode cX12_better 14 = .ok (.lconst 0, 1) := by decide +kernel
theorem dX12_better_15 : decode cX12_better 15 = .ok (.ldc2_w 447, 3) := by decide +kernel
theorem dX12_better_18 : decode cX12_better 18 = .ok (.invokestatic 119, 3) := by decide +kernel
theorem dX12_better_21 : decode cX12_better 21 = .ok (.ifCond .eq 11, 3) := by decide +kernel
theorem dX12_better_24 : decode cX12_better 24 = .ok (.aload_n 0, 1) := by decide +kernel
theorem dX12_better_25 : decode cX12_better 25 = .ok (.iload_n 1, 1) := by decide +kernel
theorem dX12_better_26 : decode cX12_better 26 = .ok (.invokevirtual 449, 3) := by decide +kernel
theorem dX12_better_29 : decode cX12_better 29 = .ok (.goto 5, 3) := by decide +kernel
theorem dX12_better_32 : decode cX12_better 32 = .ok (.bipush (-2), 2) := by decide +kernel
theorem dX12_better_34 : decode cX12_better 34 = .ok (.ireturn, 1) := by decide +kernel
theorem dX12_good_0 : decode cX12_good 0 = .ok (.aload_n 0, 1) := by decide +kernel
theorem dX12_good_1 : decode cX12_good 1 = .ok (.iconst 0, 1) := by decide +kernel
theorem dX12_good_2 : decode cX12_good 2 = .ok (.putfield 114, 3) := by decide +kernel
theorem dX12_good_5 : decode cX12_good 5 = .ok (.aload_n 0, 1) := by decide +kernel
theorem dX12_good_6 : decode cX12_good 6 = .ok (.invokevirtual 354, 3) := by decide +kernel
theorem dX12_good_9 : decode cX12_good 9 = .ok (.ifCond .ne 7, 3) := by decide +kernel
theorem dX12_good_12 : decode cX12_good 12 = .ok (.ldc2_w 360, 3) := by decide +kernel
theorem dX12_good_15 : decode cX12_good 15 = .ok (.lreturn, 1) := by decide +kernel
theorem dX12_good_16 : decode cX12_good 16 = .ok (.aload_n 0, 1) := by decide +kernel
theorem dX12_good_17 : decode cX12_good 17 = .ok (.invokevirtual 438, 3) := by decide +kernel
theorem dX12_good_20 : decode cX12_good 20 = .ok (.aload_n 0, 1) := by decide +kernel
theorem dX12_good_21 : decode cX12_good 21 = .ok (.bipush 60, 2) := by decide +kernel
theorem dX12_good_23 : decode cX12_good 23 = .ok (.invokevirtual 449, 3) := by decide +kernel
theorem dX12_good_26 : decode cX12_good 26 = .ok (.pop, 1) := by decide +kernel
theorem dX12_good_27 : decode cX12_good 27 = .ok (.aload_n 0, 1) := by decide +kernel
theorem dX12_good_28 : decode cX12_good 28 = .ok (.iconst 2, 1) := by decide +kernel
theorem dX12_good_29 : decode cX12_good 29 = .ok (.invokevirtual 398, 3) := by decide +kernel
theorem dX12_good_32 : decode cX12_good 32 = .ok (.lstore_n 1, 1) := by decide +kernel
theorem dX12_good_33 : decode cX12_good 33 = .ok (.aload_n 0, 1) := by decide +kernel
theorem dX12_good_34 : decode cX12_good 34 = .ok (.invokevirtual 441, 3) := by decide +kernel
theorem dX12_good_37 : decode cX12_good 37 = .ok (.lload_n 1, 1) := by decide +kernel
theorem dX12_good_38 : decode cX12_good 38 = .ok (.lreturn, 1) := by decide +kernel
theorem dX12_areTwo_0 : decode cX12_areTwo 0 = .ok (.aload_n 0, 1) := by decide +kernel
theorem dX12_areTwo_1 : decode cX12_areTwo 1 = .ok (.iload_n 1, 1) := by decide +kernel
theorem dX12_areTwo_2 : decode cX12_areTwo 2 = .ok (.invokevirtual 318, 3) := by decide +kernel
theorem dX12_areTwo_5 : decode cX12_areTwo 5 = .ok (.ifCond .eq 20, 3) := by decide +kernel
theorem dX12_areTwo_8 : decode cX12_areTwo 8 = .ok (.aload_n 0, 1) := by decide +kernel
theorem dX12_areTwo_9 : decode cX12_areTwo 9 = .ok (.iload_n 2, 1) := by decide +kernel
theorem dX12_areTwo_10 : decode cX12_areTwo 10 = .ok (.invokevirtual 318, 3) := by decide +kernel
theorem dX12_areTwo_13 : decode cX12_areTwo 13 = .ok (.ifCond .eq 12, 3) := by decide +kernel
theorem dX12_areTwo_16 : decode cX12_areTwo 16 = .ok (.iload_n 1, 1) := by decide +kernel
theorem dX12_areTwo_17 : decode cX12_areTwo 17 = .ok (.iload_n 2, 1) := by decide +kernel
theorem dX12_areTwo_18 : decode cX12_areTwo 18 = .ok (.if_icmp .eq 7, 3) := by decide +kernel
theorem dX12_areTwo_21 : decode cX12_areTwo 21 = .ok (.iconst 1, 1) := by decide +kernel
theorem dX12_areTwo_22 : decode cX12_areTwo 22 = .ok (.goto 4, 3) := by decide +kernel
theorem dX12_areTwo_25 : decode cX12_areTwo 25 = .ok (.iconst 0, 1) := by decide +kernel
theorem dX12_areTwo_26 : decode cX12_areTwo 26 = .ok (.ireturn, 1) := by decide +kernel
theorem dX12_pair_0 : decode cX12_pair 0 = .ok (.aload_n 0, 1) := by decide +kernel
theorem dX12_pair_1 : decode cX12_pair 1 = .ok (.iconst 0, 1) := by decide +kernel
theorem dX12_pair_2 : decode cX12_pair 2 = .ok (.putfield 114, 3) := by decide +kernel
theorem dX12_pair_5 : decode cX12_pair 5 = .ok (.aload_n 0, 1) := by decide +kernel
theorem dX12_pair_6 : decode cX12_pair 6 = .ok (.iload_n 1, 1) := by decide +kernel
theorem dX12_pair_7 : decode cX12_pair 7 = .ok (.iload_n 2, 1) := by decide +kernel
theorem dX12_pair_8 : decode cX12_pair 8 = .ok (.invokevirtual 452, 3) := by decide +kernel
theorem dX12_pair_11 : decode cX12_pair 11 = .ok (.ifCond .ne 6, 3) := by decide +kernel
theorem dX12_pair_14 : decode cX12_pair 14 = .ok (.bipush (-2), 2) := by decide +kernel
theorem dX12_pair_16 : decode cX12_pair 16 = .ok (.ireturn, 1) := by decide +kernel
theorem dX12_pair_17 : decode cX12_pair 17 = .ok (.aload_n 0, 1) := by decide +kernel
theorem dX12_pair_18 : decode cX12_pair 18 = .ok (.iload_n 1, 1) := by decide +kernel
theorem dX12_pair_19 : decode cX12_pair 19 = .ok (.invokevirtual 408, 3) := by decide +kernel
theorem dX12_pair_22 : decode cX12_pair 22 = .ok (.istore_n 3, 1) := by decide +kernel
theorem dX12_pair_23 : decode cX12_pair 23 = .ok (.aload_n 0, 1) := by decide +kernel
theorem dX12_pair_24 : decode cX12_pair 24 = .ok (.iload_n 2, 1) := by decide +kernel
theorem dX12_pair_25 : decode cX12_pair 25 = .ok (.invokevirtual 408, 3) := by decide +kernel
theorem dX12_pair_28 : decode cX12_pair 28 = .ok (.istore 4, 2) := by decide +kernel
theorem dX12_pair_30 : decode cX12_pair 30 = .ok (.iconst (-1), 1) := by decide +kernel
theorem dX12_pair_31 : decode cX12_pair 31 = .ok (.istore 5, 2) := by decide +kernel
theorem dX12_pair_33 : decode cX12_pair 33 = .ok (.lconst 0, 1) := by decide +kernel
theorem dX12_pair_34 : decode cX12_pair 34 = .ok (.lstore 6, 2) := by decide +kernel
theorem dX12_pair_36 : decode cX12_pair 36 = .ok (.iconst 0, 1) := by decide +kernel
theorem dX12_pair_37 : decode cX12_pair 37 = .ok (.istore 8, 2) := by decide +kernel
theorem dX12_pair_39 : decode cX12_pair 39 = .ok (.iload 8, 2) := by decide +kernel
theorem dX12_pair_41 : decode cX12_pair 41 = .ok (.aload_n 0, 1) := by decide +kernel
theorem dX12_pair_42 : decode cX12_pair 42 = .ok (.invokevirtual 401, 3) := by decide +kernel
theorem dX12_pair_45 : decode cX12_pair 45 = .ok (.if_icmp .ge 89, 3) := by decide +kernel
theorem dX12_pair_48 : decode cX12_pair 48 = .ok (.iconst 0, 1) := by decide +kernel
theorem dX12_pair_49 : decode cX12_pair 49 = .ok (.istore 9, 2) := by decide +kernel
theorem dX12_pair_51 : decode cX12_pair 51 = .ok (.iload 9, 2) := by decide +kernel
theorem dX12_pair_53 : decode cX12_pair 53 = .ok (.aload_n 0, 1) := by decide +kernel
theorem dX12_pair_54 : decode cX12_pair 54 = .ok (.invokevirtual 401, 3) := by decide +kernel
theorem dX12_pair_57 : decode cX12_pair 57 = .ok (.if_icmp .ge 71, 3) := by decide +kernel
theorem dX12_pair_60 : decode cX12_pair 60 = .ok (.aload_n 0, 1) := by decide +kernel
theorem dX12_pair_61 : decode cX12_pair 61 = .ok (.iload_n 1, 1) := by decide +kernel
theorem dX12_pair_62 : decode cX12_pair 62 = .ok (.iload 8, 2) := by decide +kernel
theorem dX12_pair_64 : decode cX12_pair 64 = .ok (.invokevirtual 411, 3) := by decide +kernel
theorem dX12_pair_67 : decode cX12_pair 67 = .ok (.aload_n 0, 1) := by decide +kernel
theorem dX12_pair_68 : decode cX12_pair 68 = .ok (.iload_n 2, 1) := by decide +kernel
theorem dX12_pair_69 : decode cX12_pair 69 = .ok (.iload 9, 2) := by decide +kernel
theorem dX12_pair_71 : decode cX12_pair 71 = .ok (.invokevirtual 411, 3) := by decide +kernel
theorem dX12_pair_74 : decode cX12_pair 74 = .ok (.aload_n 0, 1) := by decide +kernel
theorem dX12_pair_75 : decode cX12_pair 75 = .ok (.invokevirtual 362, 3) := by decide +kernel
theorem dX12_pair_78 : decode cX12_pair 78 = .ok (.aload_n 0, 1) := by decide +kernel
theorem dX12_pair_79 : decode cX12_pair 79 = .ok (.iload_n 1, 1) := by decide +kernel
theorem dX12_pair_80 : decode cX12_pair 80 = .ok (.invokevirtual 389, 3) := by decide +kernel
theorem dX12_pair_83 : decode cX12_pair 83 = .ok (.aload_n 0, 1) := by decide +kernel
theorem dX12_pair_84 : decode cX12_pair 84 = .ok (.iload_n 2, 1) := by decide +kernel
theorem dX12_pair_85 : decode cX12_pair 85 = .ok (.invokevirtual 389, 3) := by decide +kernel
theorem dX12_pair_88 : decode cX12_pair 88 = .ok (.ladd, 1) := by decide +kernel
theorem dX12_pair_89 : decode cX12_pair 89 = .ok (.lstore 10, 2) := by decide +kernel
theorem dX12_pair_91 : decode cX12_pair 91 = .ok (.iload 5, 2) := by decide +kernel
theorem dX12_pair_93 : decode cX12_pair 93 = .ok (.iconst (-1), 1) := by decide +kernel
theorem dX12_pair_94 : decode cX12_pair 94 = .ok (.if_icmp .eq 14, 3) := by decide +kernel
theorem dX12_pair_97 : decode cX12_pair 97 = .ok (.lload 10, 2) := by decide +kernel
theorem dX12_pair_99 : decode cX12_pair 99 = .ok (.lload 6, 2) := by decide +kernel
theorem dX12_pair_101 : decode cX12_pair 101 = .ok (.lcmp, 1) := by decide +kernel
theorem dX12_pair_102 : decode cX12_pair 102 = .ok (.ifCond .lt 6, 3) := by decide +kernel
theorem dX12_pair_105 : decode cX12_pair 105 = .ok (.goto 17, 3) := by decide +kernel
theorem dX12_pair_108 : decode cX12_pair 108 = .ok (.bipush 100, 2) := by decide +kernel
theorem dX12_pair_110 : decode cX12_pair 110 = .ok (.iload 8, 2) := by decide +kernel
theorem dX12_pair_112 : decode cX12_pair 112 = .ok (.imul, 1) := by decide +kernel
theorem dX12_pair_113 : decode cX12_pair 113 = .ok (.iload 9, 2) := by decide +kernel
theorem dX12_pair_115 : decode cX12_pair 115 = .ok (.iadd, 1) := by decide +kernel
theorem dX12_pair_116 : decode cX12_pair 116 = .ok (.istore 5, 2) := by decide +kernel
theorem dX12_pair_118 : decode cX12_pair 118 = .ok (.lload 10, 2) := by decide +kernel
theorem dX12_pair_120 : decode cX12_pair 120 = .ok (.lstore 6, 2) := by decide +kernel
theorem dX12_pair_122 : decode cX12_pair 122 = .ok (.iinc 9 1, 3) := by decide +kernel
theorem dX12_pair_125 : decode cX12_pair 125 = .ok (.goto (-74), 3) := by decide +kernel
theorem dX12_pair_128 : decode cX12_pair 128 = .ok (.iinc 8 1, 3) := by decide +kernel
theorem dX12_pair_131 : decode cX12_pair 131 = .ok (.goto (-92), 3) := by decide +kernel
theorem dX12_pair_134 : decode cX12_pair 134 = .ok (.aload_n 0, 1) := by decide +kernel
theorem dX12_pair_135 : decode cX12_pair 135 = .ok (.iload_n 1, 1) := by decide +kernel
theorem dX12_pair_136 : decode cX12_pair 136 = .ok (.iload_n 3, 1) := by decide +kernel
theorem dX12_pair_137 : decode cX12_pair 137 = .ok (.invokevirtual 411, 3) := by decide +kernel
theorem dX12_pair_140 : decode cX12_pair 140 = .ok (.aload_n 0, 1) := by decide +kernel
theorem dX12_pair_141 : decode cX12_pair 141 = .ok (.iload_n 2, 1) := by decide +kernel
theorem dX12_pair_142 : decode cX12_pair 142 = .ok (.iload 4, 2) := by decide +kernel
theorem dX12_pair_144 : decode cX12_pair 144 = .ok (.invokevirtual 411, 3) := by decide +kernel
theorem dX12_pair_147 : decode cX12_pair 147 = .ok (.iload 5, 2) := by decide +kernel
theorem dX12_pair_149 : decode cX12_pair 149 = .ok (.ireturn, 1) := by decide +kernel
theorem dX12_wasted_0 : decode cX12_wasted 0 = .ok (.aload_n 0, 1) := by decide +kernel
theorem dX12_wasted_1 : decode cX12_wasted 1 = .ok (.iconst 0, 1) := by decide +kernel
theorem dX12_wasted_2 : decode cX12_wasted 2 = .ok (.putfield 114, 3) := by decide +kernel
theorem dX12_wasted_5 : decode cX12_wasted 5 = .ok (.aload_n 0, 1) := by decide +kernel
theorem dX12_wasted_6 : decode cX12_wasted 6 = .ok (.invokevirtual 354, 3) := by decide +kernel
theorem dX12_wasted_9 : decode cX12_wasted 9 = .ok (.ifCond .ne 7, 3) := by decide +kernel
theorem dX12_wasted_12 : decode cX12_wasted 12 = .ok (.ldc2_w 456, 3) := by decide +kernel
theorem dX12_wasted_15 : decode cX12_wasted 15 = .ok (.lreturn, 1) := by decide +kernel
theorem dX12_wasted_16 : decode cX12_wasted 16 = .ok (.aload_n 0, 1) := by decide +kernel
theorem dX12_wasted_17 : decode cX12_wasted 17 = .ok (.iconst 2, 1) := by decide +kernel
theorem dX12_wasted_18 : decode cX12_wasted 18 = .ok (.invokevirtual 398, 3) := by decide +kernel
theorem dX12_wasted_21 : decode cX12_wasted 21 = .ok (.lstore_n 1, 1) := by decide +kernel
theorem dX12_wasted_22 : decode cX12_wasted 22 = .ok (.aload_n 0, 1) := by decide +kernel
theorem dX12_wasted_23 : decode cX12_wasted 23 = .ok (.invokevirtual 438, 3) := by decide +kernel
theorem dX12_wasted_26 : decode cX12_wasted 26 = .ok (.iconst 0, 1) := by decide +kernel
theorem dX12_wasted_27 : decode cX12_wasted 27 = .ok (.istore_n 3, 1) := by decide +kernel
theorem dX12_wasted_28 : decode cX12_wasted 28 = .ok (.iload_n 3, 1) := by decide +kernel
theorem dX12_wasted_29 : decode cX12_wasted 29 = .ok (.aload_n 0, 1) := by decide +kernel
theorem dX12_wasted_30 : decode cX12_wasted 30 = .ok (.getfield 52, 3) := by decide +kernel
theorem dX12_wasted_33 : decode cX12_wasted 33 = .ok (.iconst 0, 1) := by decide +kernel
theorem dX12_wasted_34 : decode cX12_wasted 34 = .ok (.iaload, 1) := by decide +kernel
theorem dX12_wasted_35 : decode cX12_wasted 35 = .ok (.if_icmp .ge 15, 3) := by decide +kernel
theorem dX12_wasted_38 : decode cX12_wasted 38 = .ok (.aload_n 0, 1) := by decide +kernel
theorem dX12_wasted_39 : decode cX12_wasted 39 = .ok (.iload_n 3, 1) := by decide +kernel
theorem dX12_wasted_40 : decode cX12_wasted 40 = .ok (.iconst 0, 1) := by decide +kernel
theorem dX12_wasted_41 : decode cX12_wasted 41 = .ok (.invokevirtual 411, 3) := by decide +kernel
theorem dX12_wasted_44 : decode cX12_wasted 44 = .ok (.iinc 3 1, 3) := by decide +kernel
theorem dX12_wasted_47 : decode cX12_wasted 47 = .ok (.goto (-19), 3) := by decide +kernel
theorem dX12_wasted_50 : decode cX12_wasted 50 = .ok (.lload_n 1, 1) := by decide +kernel
theorem dX12_wasted_51 : decode cX12_wasted 51 = .ok (.aload_n 0, 1) := by decide +kernel
theorem dX12_wasted_52 : decode cX12_wasted 52 = .ok (.iconst 2, 1) := by decide +kernel
theorem dX12_wasted_53 : decode cX12_wasted 53 = .ok (.invokevirtual 398, 3) := by decide +kernel
theorem dX12_wasted_56 : decode cX12_wasted 56 = .ok (.lsub, 1) := by decide +kernel
theorem dX12_wasted_57 : decode cX12_wasted 57 = .ok (.lstore_n 3, 1) := by decide +kernel
theorem dX12_wasted_58 : decode cX12_wasted 58 = .ok (.aload_n 0, 1) := by decide +kernel
theorem dX12_wasted_59 : decode cX12_wasted 59 = .ok (.invokevirtual 441, 3) := by decide +kernel
theorem dX12_wasted_62 : decode cX12_wasted 62 = .ok (.lload_n 3, 1) := by decide +kernel
theorem dX12_wasted_63 : decode cX12_wasted 63 = .ok (.lreturn, 1) := by decide +kernel
theorem dX12_laysGrowth_0 : decode cX12_laysGrowth 0 = .ok (.aload_n 0, 1) := by decide +kernel
theorem dX12_laysGrowth_1 : decode cX12_laysGrowth 1 = .ok (.invokevirtual 362, 3) := by decide +kernel
theorem dX12_laysGrowth_4 : decode cX12_laysGrowth 4 = .ok (.iconst 0, 1) := by decide +kernel
theorem dX12_laysGrowth_5 : decode cX12_laysGrowth 5 = .ok (.istore_n 3, 1) := by decide +kernel
theorem dX12_laysGrowth_6 : decode cX12_laysGrowth 6 = .ok (.iload_n 3, 1) := by decide +kernel
theorem dX12_laysGrowth_7 : decode cX12_laysGrowth 7 = .ok (.aload_n 0, 1) := by decide +kernel
theorem dX12_laysGrowth_8 : decode cX12_laysGrowth 8 = .ok (.getfield 52, 3) := by decide +kernel
theorem dX12_laysGrowth_11 : decode cX12_laysGrowth 11 = .ok (.iconst 0, 1) := by decide +kernel
theorem dX12_laysGrowth_12 : decode cX12_laysGrowth 12 = .ok (.iaload, 1) := by decide +kernel
theorem dX12_laysGrowth_13 : decode cX12_laysGrowth 13 = .ok (.if_icmp .ge 21, 3) := by decide +kernel
theorem dX12_laysGrowth_16 : decode cX12_laysGrowth 16 = .ok (.aload_n 0, 1) := by decide +kernel
theorem dX12_laysGrowth_17 : decode cX12_laysGrowth 17 = .ok (.getfield 95, 3) := by decide +kernel
theorem dX12_laysGrowth_20 : decode cX12_laysGrowth 20 = .ok (.iload_n 3, 1) := by decide +kernel
theorem dX12_laysGrowth_21 : decode cX12_laysGrowth 21 = .ok (.aload_n 0, 1) := by decide +kernel
theorem dX12_laysGrowth_22 : decode cX12_laysGrowth 22 = .ok (.iload_n 3, 1) := by decide +kernel
theorem dX12_laysGrowth_23 : decode cX12_laysGrowth 23 = .ok (.invokevirtual 368, 3) := by decide +kernel
theorem dX12_laysGrowth_26 : decode cX12_laysGrowth 26 = .ok (.lneg, 1) := by decide +kernel
theorem dX12_laysGrowth_27 : decode cX12_laysGrowth 27 = .ok (.lastore, 1) := by decide +kernel
theorem dX12_laysGrowth_28 : decode cX12_laysGrowth 28 = .ok (.iinc 3 1, 3) := by decide +kernel
theorem dX12_laysGrowth_31 : decode cX12_laysGrowth 31 = .ok (.goto (-25), 3) := by decide +kernel
theorem dX12_laysGrowth_34 : decode cX12_laysGrowth 34 = .ok (.aload_n 0, 1) := by decide +kernel
theorem dX12_laysGrowth_35 : decode cX12_laysGrowth 35 = .ok (.iload_n 1, 1) := by decide +kernel
theorem dX12_laysGrowth_36 : decode cX12_laysGrowth 36 = .ok (.invokevirtual 408, 3) := by decide +kernel
theorem dX12_laysGrowth_39 : decode cX12_laysGrowth 39 = .ok (.istore_n 3, 1) := by decide +kernel
theorem dX12_laysGrowth_40 : decode cX12_laysGrowth 40 = .ok (.aload_n 0, 1) := by decide +kernel
theorem dX12_laysGrowth_41 : decode cX12_laysGrowth 41 = .ok (.iload_n 1, 1) := by decide +kernel
theorem dX12_laysGrowth_42 : decode cX12_laysGrowth 42 = .ok (.iload_n 2, 1) := by decide +kernel
theorem dX12_laysGrowth_43 : decode cX12_laysGrowth 43 = .ok (.invokevirtual 411, 3) := by decide +kernel
theorem dX12_laysGrowth_46 : decode cX12_laysGrowth 46 = .ok (.aload_n 0, 1) := by decide +kernel
theorem dX12_laysGrowth_47 : decode cX12_laysGrowth 47 = .ok (.invokevirtual 362, 3) := by decide +kernel
theorem dX12_laysGrowth_50 : decode cX12_laysGrowth 50 = .ok (.iconst 0, 1) := by decide +kernel
theorem dX12_laysGrowth_51 : decode cX12_laysGrowth 51 = .ok (.istore 4, 2) := by decide +kernel
theorem dX12_laysGrowth_53 : decode cX12_laysGrowth 53 = .ok (.iload 4, 2) := by decide +kernel
theorem dX12_laysGrowth_55 : decode cX12_laysGrowth 55 = .ok (.aload_n 0, 1) := by decide +kernel
theorem dX12_laysGrowth_56 : decode cX12_laysGrowth 56 = .ok (.getfield 52, 3) := by decide +kernel
theorem dX12_laysGrowth_59 : decode cX12_laysGrowth 59 = .ok (.iconst 0, 1) := by decide +kernel
theorem dX12_laysGrowth_60 : decode cX12_laysGrowth 60 = .ok (.iaload, 1) := by decide +kernel
theorem dX12_laysGrowth_61 : decode cX12_laysGrowth 61 = .ok (.if_icmp .ge 25, 3) := by decide +kernel
theorem dX12_laysGrowth_64 : decode cX12_laysGrowth 64 = .ok (.aload_n 0, 1) := by decide +kernel
theorem dX12_laysGrowth_65 : decode cX12_laysGrowth 65 = .ok (.getfield 95, 3) := by decide +kernel
theorem dX12_laysGrowth_68 : decode cX12_laysGrowth 68 = .ok (.iload 4, 2) := by decide +kernel
theorem dX12_laysGrowth_70 : decode cX12_laysGrowth 70 = .ok (.dup2, 1) := by decide +kernel
theorem dX12_laysGrowth_71 : decode cX12_laysGrowth 71 = .ok (.laload, 1) := by decide +kernel
theorem dX12_laysGrowth_72 : decode cX12_laysGrowth 72 = .ok (.aload_n 0, 1) := by decide +kernel
theorem dX12_laysGrowth_73 : decode cX12_laysGrowth 73 = .ok (.iload 4, 2) := by decide +kernel
theorem dX12_laysGrowth_75 : decode cX12_laysGrowth 75 = .ok (.invokevirtual 368, 3) := by decide +kernel
theorem dX12_laysGrowth_78 : decode cX12_laysGrowth 78 = .ok (.ladd, 1) := by decide +kernel
theorem dX12_laysGrowth_79 : decode cX12_laysGrowth 79 = .ok (.lastore, 1) := by decide +kernel
theorem dX12_laysGrowth_80 : decode cX12_laysGrowth 80 = .ok (.iinc 4 1, 3) := by decide +kernel
theorem dX12_laysGrowth_83 : decode cX12_laysGrowth 83 = .ok (.goto (-30), 3) := by decide +kernel
theorem dX12_laysGrowth_86 : decode cX12_laysGrowth 86 = .ok (.aload_n 0, 1) := by decide +kernel
theorem dX12_laysGrowth_87 : decode cX12_laysGrowth 87 = .ok (.iload_n 1, 1) := by decide +kernel
theorem dX12_laysGrowth_88 : decode cX12_laysGrowth 88 = .ok (.iload_n 3, 1) := by decide +kernel
theorem dX12_laysGrowth_89 : decode cX12_laysGrowth 89 = .ok (.invokevirtual 411, 3) := by decide +kernel
theorem dX12_laysGrowth_92 : decode cX12_laysGrowth 92 = .ok (.return_, 1) := by decide +kernel
theorem dX12_beside_0 : decode cX12_beside 0 = .ok (.aload_n 0, 1) := by decide +kernel
theorem dX12_beside_1 : decode cX12_beside 1 = .ok (.iconst 0, 1) := by decide +kernel
theorem dX12_beside_2 : decode cX12_beside 2 = .ok (.putfield 114, 3) := by decide +kernel
theorem dX12_beside_5 : decode cX12_beside 5 = .ok (.aload_n 0, 1) := by decide +kernel
theorem dX12_beside_6 : decode cX12_beside 6 = .ok (.iload_n 1, 1) := by decide +kernel
theorem dX12_beside_7 : decode cX12_beside 7 = .ok (.iload_n 3, 1) := by decide +kernel
theorem dX12_beside_8 : decode cX12_beside 8 = .ok (.invokevirtual 452, 3) := by decide +kernel
theorem dX12_beside_11 : decode cX12_beside 11 = .ok (.ifCond .eq 11, 3) := by decide +kernel
theorem dX12_beside_14 : decode cX12_beside 14 = .ok (.aload_n 0, 1) := by decide +kernel
theorem dX12_beside_15 : decode cX12_beside 15 = .ok (.iload_n 2, 1) := by decide +kernel
theorem dX12_beside_16 : decode cX12_beside 16 = .ok (.invokevirtual 405, 3) := by decide +kernel
theorem dX12_beside_19 : decode cX12_beside 19 = .ok (.ifCond .ne 7, 3) := by decide +kernel
theorem dX12_beside_22 : decode cX12_beside 22 = .ok (.ldc2_w 456, 3) := by decide +kernel
theorem dX12_beside_25 : decode cX12_beside 25 = .ok (.lreturn, 1) := by decide +kernel
theorem dX12_beside_26 : decode cX12_beside 26 = .ok (.aload_n 0, 1) := by decide +kernel
theorem dX12_beside_27 : decode cX12_beside 27 = .ok (.iload_n 1, 1) := by decide +kernel
theorem dX12_beside_28 : decode cX12_beside 28 = .ok (.iload_n 2, 1) := by decide +kernel
theorem dX12_beside_29 : decode cX12_beside 29 = .ok (.invokevirtual 458, 3) := by decide +kernel
theorem dX12_beside_32 : decode cX12_beside 32 = .ok (.aload_n 0, 1) := by decide +kernel
theorem dX12_beside_33 : decode cX12_beside 33 = .ok (.getfield 95, 3) := by decide +kernel
theorem dX12_beside_36 : decode cX12_beside 36 = .ok (.iload_n 3, 1) := by decide +kernel
theorem dX12_beside_37 : decode cX12_beside 37 = .ok (.laload, 1) := by decide +kernel
theorem dX12_beside_38 : decode cX12_beside 38 = .ok (.lreturn, 1) := by decide +kernel
theorem dX12_worse_0 : decode cX12_worse 0 = .ok (.aload_n 0, 1) := by decide +kernel
theorem dX12_worse_1 : decode cX12_worse 1 = .ok (.iconst 0, 1) := by decide +kernel
theorem dX12_worse_2 : decode cX12_worse 2 = .ok (.putfield 114, 3) := by decide +kernel
theorem dX12_worse_5 : decode cX12_worse 5 = .ok (.aload_n 0, 1) := by decide +kernel
theorem dX12_worse_6 : decode cX12_worse 6 = .ok (.iload_n 1, 1) := by decide +kernel
theorem dX12_worse_7 : decode cX12_worse 7 = .ok (.invokevirtual 318, 3) := by decide +kernel
theorem dX12_worse_10 : decode cX12_worse 10 = .ok (.ifCond .eq 11, 3) := by decide +kernel
theorem dX12_worse_13 : decode cX12_worse 13 = .ok (.aload_n 0, 1) := by decide +kernel
theorem dX12_worse_14 : decode cX12_worse 14 = .ok (.iload_n 2, 1) := by decide +kernel
theorem dX12_worse_15 : decode cX12_worse 15 = .ok (.invokevirtual 405, 3) := by decide +kernel
theorem dX12_worse_18 : decode cX12_worse 18 = .ok (.ifCond .ne 6, 3) := by decide +kernel
theorem dX12_worse_21 : decode cX12_worse 21 = .ok (.bipush (-2), 2) := by decide +kernel
theorem dX12_worse_23 : decode cX12_worse 23 = .ok (.ireturn, 1) := by decide +kernel
theorem dX12_worse_24 : decode cX12_worse 24 = .ok (.aload_n 0, 1) := by decide +kernel
theorem dX12_worse_25 : decode cX12_worse 25 = .ok (.iload_n 1, 1) := by decide +kernel
theorem dX12_worse_26 : decode cX12_worse 26 = .ok (.iload_n 2, 1) := by decide +kernel
theorem dX12_worse_27 : decode cX12_worse 27 = .ok (.invokevirtual 458, 3) := by decide +kernel
theorem dX12_worse_30 : decode cX12_worse 30 = .ok (.iconst 0, 1) := by decide +kernel
theorem dX12_worse_31 : decode cX12_worse 31 = .ok (.istore_n 3, 1) := by decide +kernel
theorem dX12_worse_32 : decode cX12_worse 32 = .ok (.iconst 0, 1) := by decide +kernel
theorem dX12_worse_33 : decode cX12_worse 33 = .ok (.istore 4, 2) := by decide +kernel
theorem dX12_worse_35 : decode cX12_worse 35 = .ok (.iload 4, 2) := by decide +kernel
theorem dX12_worse_37 : decode cX12_worse 37 = .ok (.aload_n 0, 1) := by decide +kernel
theorem dX12_worse_38 : decode cX12_worse 38 = .ok (.getfield 52, 3) := by decide +kernel
theorem dX12_worse_41 : decode cX12_worse 41 = .ok (.iconst 0, 1) := by decide +kernel
theorem dX12_worse_42 : decode cX12_worse 42 = .ok (.iaload, 1) := by decide +kernel
theorem dX12_worse_43 : decode cX12_worse 43 = .ok (.if_icmp .ge 35, 3) := by decide +kernel
theorem dX12_worse_46 : decode cX12_worse 46 = .ok (.iload_n 3, 1) := by decide +kernel
theorem dX12_worse_47 : decode cX12_worse 47 = .ok (.iload 4, 2) := by decide +kernel
theorem dX12_worse_49 : decode cX12_worse 49 = .ok (.iload_n 1, 1) := by decide +kernel
theorem dX12_worse_50 : decode cX12_worse 50 = .ok (.if_icmp .eq 19, 3) := by decide +kernel
theorem dX12_worse_53 : decode cX12_worse 53 = .ok (.aload_n 0, 1) := by decide +kernel
theorem dX12_worse_54 : decode cX12_worse 54 = .ok (.getfield 95, 3) := by decide +kernel
theorem dX12_worse_57 : decode cX12_worse 57 = .ok (.iload 4, 2) := by decide +kernel
theorem dX12_worse_59 : decode cX12_worse 59 = .ok (.laload, 1) := by decide +kernel
theorem dX12_worse_60 : decode cX12_worse 60 = .ok (.lconst 0, 1) := by decide +kernel
theorem dX12_worse_61 : decode cX12_worse 61 = .ok (.lcmp, 1) := by decide +kernel
theorem dX12_worse_62 : decode cX12_worse 62 = .ok (.ifCond .le 7, 3) := by decide +kernel
theorem dX12_worse_65 : decode cX12_worse 65 = .ok (.iconst 1, 1) := by decide +kernel
theorem dX12_worse_66 : decode cX12_worse 66 = .ok (.goto 4, 3) := by decide +kernel
theorem dX12_worse_69 : decode cX12_worse 69 = .ok (.iconst 0, 1) := by decide +kernel
theorem dX12_worse_70 : decode cX12_worse 70 = .ok (.iadd, 1) := by decide +kernel
theorem dX12_worse_71 : decode cX12_worse 71 = .ok (.istore_n 3, 1) := by decide +kernel
theorem dX12_worse_72 : decode cX12_worse 72 = .ok (.iinc 4 1, 3) := by decide +kernel
theorem dX12_worse_75 : decode cX12_worse 75 = .ok (.goto (-40), 3) := by decide +kernel
theorem dX12_worse_78 : decode cX12_worse 78 = .ok (.iload_n 3, 1) := by decide +kernel
theorem dX12_worse_79 : decode cX12_worse 79 = .ok (.ireturn, 1) := by decide +kernel
theorem dX12_next__0 : decode cX12_next_ 0 = .ok (.aload_n 0, 1) := by decide +kernel
theorem dX12_next__1 : decode cX12_next_ 1 = .ok (.iconst 0, 1) := by decide +kernel
theorem dX12_next__2 : decode cX12_next_ 2 = .ok (.putfield 114, 3) := by decide +kernel
theorem dX12_next__5 : decode cX12_next_ 5 = .ok (.aload_n 0, 1) := by decide +kernel
theorem dX12_next__6 : decode cX12_next_ 6 = .ok (.iload_n 1, 1) := by decide +kernel
theorem dX12_next__7 : decode cX12_next_ 7 = .ok (.invokevirtual 318, 3) := by decide +kernel
theorem dX12_next__10 : decode cX12_next_ 10 = .ok (.ifCond .eq 11, 3) := by decide +kernel
theorem dX12_next__13 : decode cX12_next_ 13 = .ok (.aload_n 0, 1) := by decide +kernel
theorem dX12_next__14 : decode cX12_next_ 14 = .ok (.iload_n 2, 1) := by decide +kernel
theorem dX12_next__15 : decode cX12_next_ 15 = .ok (.invokevirtual 405, 3) := by decide +kernel
theorem dX12_next__18 : decode cX12_next_ 18 = .ok (.ifCond .ne 6, 3) := by decide +kernel
theorem dX12_next__21 : decode cX12_next_ 21 = .ok (.bipush (-2), 2) := by decide +kernel
theorem dX12_next__23 : decode cX12_next_ 23 = .ok (.ireturn, 1) := by decide +kernel
theorem dX12_next__24 : decode cX12_next_ 24 = .ok (.aload_n 0, 1) := by decide +kernel
theorem dX12_next__25 : decode cX12_next_ 25 = .ok (.iload_n 1, 1) := by decide +kernel
theorem dX12_next__26 : decode cX12_next_ 26 = .ok (.iload_n 2, 1) := by decide +kernel
theorem dX12_next__27 : decode cX12_next_ 27 = .ok (.invokevirtual 458, 3) := by decide +kernel
theorem dX12_next__30 : decode cX12_next_ 30 = .ok (.iconst (-1), 1) := by decide +kernel
theorem dX12_next__31 : decode cX12_next_ 31 = .ok (.istore_n 3, 1) := by decide +kernel
theorem dX12_next__32 : decode cX12_next_ 32 = .ok (.lconst 0, 1) := by decide +kernel
theorem dX12_next__33 : decode cX12_next_ 33 = .ok (.lstore 4, 2) := by decide +kernel
theorem dX12_next__35 : decode cX12_next_ 35 = .ok (.iconst 0, 1) := by decide +kernel
theorem dX12_next__36 : decode cX12_next_ 36 = .ok (.istore 6, 2) := by decide +kernel
theorem dX12_next__38 : decode cX12_next_ 38 = .ok (.iload 6, 2) := by decide +kernel
theorem dX12_next__40 : decode cX12_next_ 40 = .ok (.aload_n 0, 1) := by decide +kernel
theorem dX12_next__41 : decode cX12_next_ 41 = .ok (.getfield 52, 3) := by decide +kernel
theorem dX12_next__44 : decode cX12_next_ 44 = .ok (.iconst 0, 1) := by decide +kernel
theorem dX12_next__45 : decode cX12_next_ 45 = .ok (.iaload, 1) := by decide +kernel
theorem dX12_next__46 : decode cX12_next_ 46 = .ok (.if_icmp .ge 43, 3) := by decide +kernel
theorem dX12_next__49 : decode cX12_next_ 49 = .ok (.iload 6, 2) := by decide +kernel
theorem dX12_next__51 : decode cX12_next_ 51 = .ok (.iload_n 1, 1) := by decide +kernel
theorem dX12_next__52 : decode cX12_next_ 52 = .ok (.if_icmp .eq 31, 3) := by decide +kernel
theorem dX12_next__55 : decode cX12_next_ 55 = .ok (.aload_n 0, 1) := by decide +kernel
theorem dX12_next__56 : decode cX12_next_ 56 = .ok (.getfield 95, 3) := by decide +kernel
theorem dX12_next__59 : decode cX12_next_ 59 = .ok (.iload 6, 2) := by decide +kernel
theorem dX12_next__61 : decode cX12_next_ 61 = .ok (.laload, 1) := by decide +kernel
theorem dX12_next__62 : decode cX12_next_ 62 = .ok (.lload 4, 2) := by decide +kernel
theorem dX12_next__64 : decode cX12_next_ 64 = .ok (.lcmp, 1) := by decide +kernel
theorem dX12_next__65 : decode cX12_next_ 65 = .ok (.ifCond .gt 6, 3) := by decide +kernel
theorem dX12_next__68 : decode cX12_next_ 68 = .ok (.goto 15, 3) := by decide +kernel
theorem dX12_next__71 : decode cX12_next_ 71 = .ok (.iload 6, 2) := by decide +kernel
theorem dX12_next__73 : decode cX12_next_ 73 = .ok (.istore_n 3, 1) := by decide +kernel
theorem dX12_next__74 : decode cX12_next_ 74 = .ok (.aload_n 0, 1) := by decide +kernel
theorem dX12_next__75 : decode cX12_next_ 75 = .ok (.getfield 95, 3) := by decide +kernel
theorem dX12_next__78 : decode cX12_next_ 78 = .ok (.iload 6, 2) := by decide +kernel
theorem dX12_next__80 : decode cX12_next_ 80 = .ok (.laload, 1) := by decide +kernel
theorem dX12_next__81 : decode cX12_next_ 81 = .ok (.lstore 4, 2) := by decide +kernel
theorem dX12_next__83 : decode cX12_next_ 83 = .ok (.iinc 6 1, 3) := by decide +kernel
theorem dX12_next__86 : decode cX12_next_ 86 = .ok (.goto (-48), 3) := by decide +kernel
theorem dX12_next__89 : decode cX12_next_ 89 = .ok (.iload_n 3, 1) := by decide +kernel
theorem dX12_next__90 : decode cX12_next_ 90 = .ok (.ireturn, 1) := by decide +kernel
theorem dX12_standsAt_0 : decode cX12_standsAt 0 = .ok (.iconst 0, 1) := by decide +kernel
theorem dX12_standsAt_1 : decode cX12_standsAt 1 = .ok (.istore_n 2, 1) := by decide +kernel
theorem dX12_standsAt_2 : decode cX12_standsAt 2 = .ok (.iload_n 2, 1) := by decide +kernel
theorem dX12_standsAt_3 : decode cX12_standsAt 3 = .ok (.aload_n 0, 1) := by decide +kernel
theorem dX12_standsAt_4 : decode cX12_standsAt 4 = .ok (.getfield 52, 3) := by decide +kernel
theorem dX12_standsAt_7 : decode cX12_standsAt 7 = .ok (.iconst 0, 1) := by decide +kernel
theorem dX12_standsAt_8 : decode cX12_standsAt 8 = .ok (.iaload, 1) := by decide +kernel
theorem dX12_standsAt_9 : decode cX12_standsAt 9 = .ok (.if_icmp .ge 27, 3) := by decide +kernel
theorem dX12_standsAt_12 : decode cX12_standsAt 12 = .ok (.aload_n 0, 1) := by decide +kernel
theorem dX12_standsAt_13 : decode cX12_standsAt 13 = .ok (.getfield 55, 3) := by decide +kernel
theorem dX12_standsAt_16 : decode cX12_standsAt 16 = .ok (.iconst 0, 1) := by decide +kernel
theorem dX12_standsAt_17 : decode cX12_standsAt 17 = .ok (.iload_n 2, 1) := by decide +kernel
theorem dX12_standsAt_18 : decode cX12_standsAt 18 = .ok (.invokestatic 323, 3) := by decide +kernel
theorem dX12_standsAt_21 : decode cX12_standsAt 21 = .ok (.iconst 2, 1) := by decide +kernel
theorem dX12_standsAt_22 : decode cX12_standsAt 22 = .ok (.iadd, 1) := by decide +kernel
theorem dX12_standsAt_23 : decode cX12_standsAt 23 = .ok (.iaload, 1) := by decide +kernel
theorem dX12_standsAt_24 : decode cX12_standsAt 24 = .ok (.iload_n 1, 1) := by decide +kernel
theorem dX12_standsAt_25 : decode cX12_standsAt 25 = .ok (.if_icmp .ne 5, 3) := by decide +kernel
theorem dX12_standsAt_28 : decode cX12_standsAt 28 = .ok (.iload_n 2, 1) := by decide +kernel
theorem dX12_standsAt_29 : decode cX12_standsAt 29 = .ok (.ireturn, 1) := by decide +kernel
theorem dX12_standsAt_30 : decode cX12_standsAt 30 = .ok (.iinc 2 1, 3) := by decide +kernel
theorem dX12_standsAt_33 : decode cX12_standsAt 33 = .ok (.goto (-31), 3) := by decide +kernel
theorem dX12_standsAt_36 : decode cX12_standsAt 36 = .ok (.iconst (-1), 1) := by decide +kernel
theorem dX12_standsAt_37 : decode cX12_standsAt 37 = .ok (.ireturn, 1) := by decide +kernel
theorem dX12_move_0 : decode cX12_move 0 = .ok (.aload_n 0, 1) := by decide +kernel
theorem dX12_move_1 : decode cX12_move 1 = .ok (.iconst 0, 1) := by decide +kernel
theorem dX12_move_2 : decode cX12_move 2 = .ok (.putfield 114, 3) := by decide +kernel
theorem dX12_move_5 : decode cX12_move 5 = .ok (.aload_n 0, 1) := by decide +kernel
theorem dX12_move_6 : decode cX12_move 6 = .ok (.iload_n 1, 1) := by decide +kernel
theorem dX12_move_7 : decode cX12_move 7 = .ok (.invokevirtual 318, 3) := by decide +kernel
theorem dX12_move_10 : decode cX12_move 10 = .ok (.ifCond .eq 11, 3) := by decide +kernel
theorem dX12_move_13 : decode cX12_move 13 = .ok (.aload_n 0, 1) := by decide +kernel
theorem dX12_move_14 : decode cX12_move 14 = .ok (.iload_n 2, 1) := by decide +kernel
theorem dX12_move_15 : decode cX12_move 15 = .ok (.invokevirtual 312, 3) := by decide +kernel
theorem dX12_move_18 : decode cX12_move 18 = .ok (.ifCond .ne 6, 3) := by decide +kernel
theorem dX12_move_21 : decode cX12_move 21 = .ok (.bipush (-2), 2) := by decide +kernel
theorem dX12_move_23 : decode cX12_move 23 = .ok (.ireturn, 1) := by decide +kernel
theorem dX12_move_24 : decode cX12_move 24 = .ok (.aload_n 0, 1) := by decide +kernel
theorem dX12_move_25 : decode cX12_move 25 = .ok (.iload_n 2, 1) := by decide +kernel
theorem dX12_move_26 : decode cX12_move 26 = .ok (.invokevirtual 461, 3) := by decide +kernel
theorem dX12_move_29 : decode cX12_move 29 = .ok (.istore_n 3, 1) := by decide +kernel
theorem dX12_move_30 : decode cX12_move 30 = .ok (.iload_n 3, 1) := by decide +kernel
theorem dX12_move_31 : decode cX12_move 31 = .ok (.iconst (-1), 1) := by decide +kernel
theorem dX12_move_32 : decode cX12_move 32 = .ok (.if_icmp .eq 11, 3) := by decide +kernel
theorem dX12_move_35 : decode cX12_move 35 = .ok (.iload_n 3, 1) := by decide +kernel
theorem dX12_move_36 : decode cX12_move 36 = .ok (.iload_n 1, 1) := by decide +kernel
theorem dX12_move_37 : decode cX12_move 37 = .ok (.if_icmp .eq 6, 3) := by decide +kernel
theorem dX12_move_40 : decode cX12_move 40 = .ok (.bipush (-5), 2) := by decide +kernel
theorem dX12_move_42 : decode cX12_move 42 = .ok (.ireturn, 1) := by decide +kernel
theorem dX12_move_43 : decode cX12_move 43 = .ok (.aload_n 0, 1) := by decide +kernel
theorem dX12_move_44 : decode cX12_move 44 = .ok (.getfield 55, 3) := by decide +kernel
theorem dX12_move_47 : decode cX12_move 47 = .ok (.iconst 0, 1) := by decide +kernel
theorem dX12_move_48 : decode cX12_move 48 = .ok (.iload_n 1, 1) := by decide +kernel
theorem dX12_move_49 : decode cX12_move 49 = .ok (.invokestatic 323, 3) := by decide +kernel
theorem dX12_move_52 : decode cX12_move 52 = .ok (.iconst 2, 1) := by decide +kernel
theorem dX12_move_53 : decode cX12_move 53 = .ok (.iadd, 1) := by decide +kernel
theorem dX12_move_54 : decode cX12_move 54 = .ok (.iaload, 1) := by decide +kernel
theorem dX12_move_55 : decode cX12_move 55 = .ok (.istore 4, 2) := by decide +kernel
theorem dX12_move_57 : decode cX12_move 57 = .ok (.aload_n 0, 1) := by decide +kernel
theorem dX12_move_58 : decode cX12_move 58 = .ok (.getfield 55, 3) := by decide +kernel
theorem dX12_move_61 : decode cX12_move 61 = .ok (.iconst 0, 1) := by decide +kernel
theorem dX12_move_62 : decode cX12_move 62 = .ok (.iload_n 1, 1) := by decide +kernel
theorem dX12_move_63 : decode cX12_move 63 = .ok (.invokestatic 323, 3) := by decide +kernel
theorem dX12_move_66 : decode cX12_move 66 = .ok (.iconst 2, 1) := by decide +kernel
theorem dX12_move_67 : decode cX12_move 67 = .ok (.iadd, 1) := by decide +kernel
theorem dX12_move_68 : decode cX12_move 68 = .ok (.iload_n 2, 1) := by decide +kernel
theorem dX12_move_69 : decode cX12_move 69 = .ok (.iastore, 1) := by decide +kernel
theorem dX12_move_70 : decode cX12_move 70 = .ok (.iload 4, 2) := by decide +kernel
theorem dX12_move_72 : decode cX12_move 72 = .ok (.ireturn, 1) := by decide +kernel
theorem dX12_swap_0 : decode cX12_swap 0 = .ok (.aload_n 0, 1) := by decide +kernel
theorem dX12_swap_1 : decode cX12_swap 1 = .ok (.iconst 0, 1) := by decide +kernel
theorem dX12_swap_2 : decode cX12_swap 2 = .ok (.putfield 114, 3) := by decide +kernel
theorem dX12_swap_5 : decode cX12_swap 5 = .ok (.aload_n 0, 1) := by decide +kernel
theorem dX12_swap_6 : decode cX12_swap 6 = .ok (.iload_n 1, 1) := by decide +kernel
theorem dX12_swap_7 : decode cX12_swap 7 = .ok (.iload_n 2, 1) := by decide +kernel
theorem dX12_swap_8 : decode cX12_swap 8 = .ok (.invokevirtual 452, 3) := by decide +kernel
theorem dX12_swap_11 : decode cX12_swap 11 = .ok (.ifCond .ne 6, 3) := by decide +kernel
theorem dX12_swap_14 : decode cX12_swap 14 = .ok (.bipush (-2), 2) := by decide +kernel
theorem dX12_swap_16 : decode cX12_swap 16 = .ok (.ireturn, 1) := by decide +kernel
theorem dX12_swap_17 : decode cX12_swap 17 = .ok (.aload_n 0, 1) := by decide +kernel
theorem dX12_swap_18 : decode cX12_swap 18 = .ok (.iconst 1, 1) := by decide +kernel
theorem dX12_swap_19 : decode cX12_swap 19 = .ok (.invokevirtual 398, 3) := by decide +kernel
theorem dX12_swap_22 : decode cX12_swap 22 = .ok (.lstore_n 3, 1) := by decide +kernel
theorem dX12_swap_23 : decode cX12_swap 23 = .ok (.aload_n 0, 1) := by decide +kernel
theorem dX12_swap_24 : decode cX12_swap 24 = .ok (.getfield 55, 3) := by decide +kernel
theorem dX12_swap_27 : decode cX12_swap 27 = .ok (.iconst 0, 1) := by decide +kernel
theorem dX12_swap_28 : decode cX12_swap 28 = .ok (.iload_n 1, 1) := by decide +kernel
theorem dX12_swap_29 : decode cX12_swap 29 = .ok (.invokestatic 323, 3) := by decide +kernel
theorem dX12_swap_32 : decode cX12_swap 32 = .ok (.iconst 2, 1) := by decide +kernel
theorem dX12_swap_33 : decode cX12_swap 33 = .ok (.iadd, 1) := by decide +kernel
theorem dX12_swap_34 : decode cX12_swap 34 = .ok (.iaload, 1) := by decide +kernel
theorem dX12_swap_35 : decode cX12_swap 35 = .ok (.istore 5, 2) := by decide +kernel
theorem dX12_swap_37 : decode cX12_swap 37 = .ok (.aload_n 0, 1) := by decide +kernel
theorem dX12_swap_38 : decode cX12_swap 38 = .ok (.getfield 55, 3) := by decide +kernel
theorem dX12_swap_41 : decode cX12_swap 41 = .ok (.iconst 0, 1) := by decide +kernel
theorem dX12_swap_42 : decode cX12_swap 42 = .ok (.iload_n 1, 1) := by decide +kernel
theorem dX12_swap_43 : decode cX12_swap 43 = .ok (.invokestatic 323, 3) := by decide +kernel
theorem dX12_swap_46 : decode cX12_swap 46 = .ok (.iconst 2, 1) := by decide +kernel
theorem dX12_swap_47 : decode cX12_swap 47 = .ok (.iadd, 1) := by decide +kernel
theorem dX12_swap_48 : decode cX12_swap 48 = .ok (.aload_n 0, 1) := by decide +kernel
theorem dX12_swap_49 : decode cX12_swap 49 = .ok (.getfield 55, 3) := by decide +kernel
theorem dX12_swap_52 : decode cX12_swap 52 = .ok (.iconst 0, 1) := by decide +kernel
theorem dX12_swap_53 : decode cX12_swap 53 = .ok (.iload_n 2, 1) := by decide +kernel
theorem dX12_swap_54 : decode cX12_swap 54 = .ok (.invokestatic 323, 3) := by decide +kernel
theorem dX12_swap_57 : decode cX12_swap 57 = .ok (.iconst 2, 1) := by decide +kernel
theorem dX12_swap_58 : decode cX12_swap 58 = .ok (.iadd, 1) := by decide +kernel
theorem dX12_swap_59 : decode cX12_swap 59 = .ok (.iaload, 1) := by decide +kernel
theorem dX12_swap_60 : decode cX12_swap 60 = .ok (.iastore, 1) := by decide +kernel
theorem dX12_swap_61 : decode cX12_swap 61 = .ok (.aload_n 0, 1) := by decide +kernel
theorem dX12_swap_62 : decode cX12_swap 62 = .ok (.getfield 55, 3) := by decide +kernel
theorem dX12_swap_65 : decode cX12_swap 65 = .ok (.iconst 0, 1) := by decide +kernel
theorem dX12_swap_66 : decode cX12_swap 66 = .ok (.iload_n 2, 1) := by decide +kernel
theorem dX12_swap_67 : decode cX12_swap 67 = .ok (.invokestatic 323, 3) := by decide +kernel
theorem dX12_swap_70 : decode cX12_swap 70 = .ok (.iconst 2, 1) := by decide +kernel
theorem dX12_swap_71 : decode cX12_swap 71 = .ok (.iadd, 1) := by decide +kernel
theorem dX12_swap_72 : decode cX12_swap 72 = .ok (.iload 5, 2) := by decide +kernel
theorem dX12_swap_74 : decode cX12_swap 74 = .ok (.iastore, 1) := by decide +kernel
theorem dX12_swap_75 : decode cX12_swap 75 = .ok (.aload_n 0, 1) := by decide +kernel
theorem dX12_swap_76 : decode cX12_swap 76 = .ok (.iconst 1, 1) := by decide +kernel
theorem dX12_swap_77 : decode cX12_swap 77 = .ok (.invokevirtual 398, 3) := by decide +kernel
theorem dX12_swap_80 : decode cX12_swap 80 = .ok (.lload_n 3, 1) := by decide +kernel
theorem dX12_swap_81 : decode cX12_swap 81 = .ok (.lcmp, 1) := by decide +kernel
theorem dX12_swap_82 : decode cX12_swap 82 = .ok (.ifCond .ge 7, 3) := by decide +kernel
theorem dX12_swap_85 : decode cX12_swap 85 = .ok (.iconst 1, 1) := by decide +kernel
theorem dX12_swap_86 : decode cX12_swap 86 = .ok (.goto 4, 3) := by decide +kernel
theorem dX12_swap_89 : decode cX12_swap 89 = .ok (.iconst 0, 1) := by decide +kernel
theorem dX12_swap_90 : decode cX12_swap 90 = .ok (.ireturn, 1) := by decide +kernel
theorem dX12_where_0 : decode cX12_where 0 = .ok (.aload_n 0, 1) := by decide +kernel
theorem dX12_where_1 : decode cX12_where 1 = .ok (.iconst 0, 1) := by decide +kernel
theorem dX12_where_2 : decode cX12_where 2 = .ok (.putfield 114, 3) := by decide +kernel
theorem dX12_where_5 : decode cX12_where 5 = .ok (.aload_n 0, 1) := by decide +kernel
theorem dX12_where_6 : decode cX12_where 6 = .ok (.iload_n 1, 1) := by decide +kernel
theorem dX12_where_7 : decode cX12_where 7 = .ok (.invokevirtual 318, 3) := by decide +kernel
theorem dX12_where_10 : decode cX12_where 10 = .ok (.ifCond .ne 6, 3) := by decide +kernel
theorem dX12_where_13 : decode cX12_where 13 = .ok (.bipush (-2), 2) := by decide +kernel
theorem dX12_where_15 : decode cX12_where 15 = .ok (.ireturn, 1) := by decide +kernel
theorem dX12_where_16 : decode cX12_where 16 = .ok (.aload_n 0, 1) := by decide +kernel
theorem dX12_where_17 : decode cX12_where 17 = .ok (.getfield 55, 3) := by decide +kernel
theorem dX12_where_20 : decode cX12_where 20 = .ok (.iconst 0, 1) := by decide +kernel
theorem dX12_where_21 : decode cX12_where 21 = .ok (.iload_n 1, 1) := by decide +kernel
theorem dX12_where_22 : decode cX12_where 22 = .ok (.invokestatic 323, 3) := by decide +kernel
theorem dX12_where_25 : decode cX12_where 25 = .ok (.iconst 2, 1) := by decide +kernel
theorem dX12_where_26 : decode cX12_where 26 = .ok (.iadd, 1) := by decide +kernel
theorem dX12_where_27 : decode cX12_where 27 = .ok (.iaload, 1) := by decide +kernel
theorem dX12_where_28 : decode cX12_where 28 = .ok (.istore_n 2, 1) := by decide +kernel
theorem dX12_where_29 : decode cX12_where 29 = .ok (.iconst (-1), 1) := by decide +kernel
theorem dX12_where_30 : decode cX12_where 30 = .ok (.istore_n 3, 1) := by decide +kernel
theorem dX12_where_31 : decode cX12_where 31 = .ok (.lconst 0, 1) := by decide +kernel
theorem dX12_where_32 : decode cX12_where 32 = .ok (.lstore 4, 2) := by decide +kernel
theorem dX12_where_34 : decode cX12_where 34 = .ok (.iconst 0, 1) := by decide +kernel
theorem dX12_where_35 : decode cX12_where 35 = .ok (.istore 6, 2) := by decide +kernel
theorem dX12_where_37 : decode cX12_where 37 = .ok (.iload 6, 2) := by decide +kernel
theorem dX12_where_39 : decode cX12_where 39 = .ok (.aload_n 0, 1) := by decide +kernel
theorem dX12_where_40 : decode cX12_where 40 = .ok (.getfield 34, 3) := by decide +kernel
theorem dX12_where_43 : decode cX12_where 43 = .ok (.iconst 0, 1) := by decide +kernel
theorem dX12_where_44 : decode cX12_where 44 = .ok (.iaload, 1) := by decide +kernel
theorem dX12_where_45 : decode cX12_where 45 = .ok (.if_icmp .ge 89, 3) := by decide +kernel
theorem dX12_where_48 : decode cX12_where 48 = .ok (.aload_n 0, 1) := by decide +kernel
theorem dX12_where_49 : decode cX12_where 49 = .ok (.getfield 55, 3) := by decide +kernel
theorem dX12_where_52 : decode cX12_where 52 = .ok (.iconst 0, 1) := by decide +kernel
theorem dX12_where_53 : decode cX12_where 53 = .ok (.iload_n 1, 1) := by decide +kernel
theorem dX12_where_54 : decode cX12_where 54 = .ok (.invokestatic 323, 3) := by decide +kernel
theorem dX12_where_57 : decode cX12_where 57 = .ok (.iconst 2, 1) := by decide +kernel
theorem dX12_where_58 : decode cX12_where 58 = .ok (.iadd, 1) := by decide +kernel
theorem dX12_where_59 : decode cX12_where 59 = .ok (.iload_n 2, 1) := by decide +kernel
theorem dX12_where_60 : decode cX12_where 60 = .ok (.iastore, 1) := by decide +kernel
theorem dX12_where_61 : decode cX12_where 61 = .ok (.aload_n 0, 1) := by decide +kernel
theorem dX12_where_62 : decode cX12_where 62 = .ok (.iload 6, 2) := by decide +kernel
theorem dX12_where_64 : decode cX12_where 64 = .ok (.invokevirtual 461, 3) := by decide +kernel
theorem dX12_where_67 : decode cX12_where 67 = .ok (.istore 7, 2) := by decide +kernel
theorem dX12_where_69 : decode cX12_where 69 = .ok (.iload 7, 2) := by decide +kernel
theorem dX12_where_71 : decode cX12_where 71 = .ok (.iconst (-1), 1) := by decide +kernel
theorem dX12_where_72 : decode cX12_where 72 = .ok (.if_icmp .eq 12, 3) := by decide +kernel
theorem dX12_where_75 : decode cX12_where 75 = .ok (.iload 7, 2) := by decide +kernel
theorem dX12_where_77 : decode cX12_where 77 = .ok (.iload_n 1, 1) := by decide +kernel
theorem dX12_where_78 : decode cX12_where 78 = .ok (.if_icmp .eq 6, 3) := by decide +kernel
theorem dX12_where_81 : decode cX12_where 81 = .ok (.goto 47, 3) := by decide +kernel
theorem dX12_where_84 : decode cX12_where 84 = .ok (.aload_n 0, 1) := by decide +kernel
theorem dX12_where_85 : decode cX12_where 85 = .ok (.getfield 55, 3) := by decide +kernel
theorem dX12_where_88 : decode cX12_where 88 = .ok (.iconst 0, 1) := by decide +kernel
theorem dX12_where_89 : decode cX12_where 89 = .ok (.iload_n 1, 1) := by decide +kernel
theorem dX12_where_90 : decode cX12_where 90 = .ok (.invokestatic 323, 3) := by decide +kernel
theorem dX12_where_93 : decode cX12_where 93 = .ok (.iconst 2, 1) := by decide +kernel
theorem dX12_where_94 : decode cX12_where 94 = .ok (.iadd, 1) := by decide +kernel
