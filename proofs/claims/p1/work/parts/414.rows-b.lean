theorem dX11_init_0 : decode cX11_init 0 = .ok (.aload_n 0, 1) := by decide +kernel
theorem dX11_init_1 : decode cX11_init 1 = .ok (.invokespecial 1, 3) := by decide +kernel
theorem dX11_init_4 : decode cX11_init 4 = .ok (.aload_n 0, 1) := by decide +kernel
theorem dX11_init_5 : decode cX11_init 5 = .ok (.new 7, 3) := by decide +kernel
theorem dX11_init_8 : decode cX11_init 8 = .ok (.dup, 1) := by decide +kernel
theorem dX11_init_9 : decode cX11_init 9 = .ok (.invokespecial 9, 3) := by decide +kernel
theorem dX11_init_12 : decode cX11_init 12 = .ok (.putfield 10, 3) := by decide +kernel
theorem dX11_init_15 : decode cX11_init 15 = .ok (.aload_n 0, 1) := by decide +kernel
theorem dX11_init_16 : decode cX11_init 16 = .ok (.new 16, 3) := by decide +kernel
theorem dX11_init_19 : decode cX11_init 19 = .ok (.dup, 1) := by decide +kernel
theorem dX11_init_20 : decode cX11_init 20 = .ok (.invokespecial 18, 3) := by decide +kernel
theorem dX11_init_23 : decode cX11_init 23 = .ok (.putfield 19, 3) := by decide +kernel
theorem dX11_init_26 : decode cX11_init 26 = .ok (.aload_n 0, 1) := by decide +kernel
theorem dX11_init_27 : decode cX11_init 27 = .ok (.new 16, 3) := by decide +kernel
theorem dX11_init_30 : decode cX11_init 30 = .ok (.dup, 1) := by decide +kernel
theorem dX11_init_31 : decode cX11_init 31 = .ok (.invokespecial 18, 3) := by decide +kernel
theorem dX11_init_34 : decode cX11_init 34 = .ok (.putfield 23, 3) := by decide +kernel
theorem dX11_init_37 : decode cX11_init 37 = .ok (.aload_n 0, 1) := by decide +kernel
theorem dX11_init_38 : decode cX11_init 38 = .ok (.iconst 3, 1) := by decide +kernel
theorem dX11_init_39 : decode cX11_init 39 = .ok (.anewarray 16, 3) := by decide +kernel
theorem dX11_init_42 : decode cX11_init 42 = .ok (.putfield 26, 3) := by decide +kernel
theorem dX11_init_45 : decode cX11_init 45 = .ok (.aload_n 0, 1) := by decide +kernel
theorem dX11_init_46 : decode cX11_init 46 = .ok (.new 30, 3) := by decide +kernel
theorem dX11_init_49 : decode cX11_init 49 = .ok (.dup, 1) := by decide +kernel
theorem dX11_init_50 : decode cX11_init 50 = .ok (.invokespecial 32, 3) := by decide +kernel
theorem dX11_init_53 : decode cX11_init 53 = .ok (.putfield 33, 3) := by decide +kernel
theorem dX11_init_56 : decode cX11_init 56 = .ok (.aload_n 0, 1) := by decide +kernel
theorem dX11_init_57 : decode cX11_init 57 = .ok (.new 37, 3) := by decide +kernel
theorem dX11_init_60 : decode cX11_init 60 = .ok (.dup, 1) := by decide +kernel
theorem dX11_init_61 : decode cX11_init 61 = .ok (.invokespecial 39, 3) := by decide +kernel
theorem dX11_init_64 : decode cX11_init 64 = .ok (.putfield 40, 3) := by decide +kernel
theorem dX11_init_67 : decode cX11_init 67 = .ok (.aload_n 0, 1) := by decide +kernel
theorem dX11_init_68 : decode cX11_init 68 = .ok (.new 44, 3) := by decide +kernel
theorem dX11_init_71 : decode cX11_init 71 = .ok (.dup, 1) := by decide +kernel
theorem dX11_init_72 : decode cX11_init 72 = .ok (.invokespecial 46, 3) := by decide +kernel
theorem dX11_init_75 : decode cX11_init 75 = .ok (.putfield 47, 3) := by decide +kernel
theorem dX11_init_78 : decode cX11_init 78 = .ok (.aload_n 0, 1) := by decide +kernel
theorem dX11_init_79 : decode cX11_init 79 = .ok (.bipush 10, 2) := by decide +kernel
theorem dX11_init_81 : decode cX11_init 81 = .ok (.newarray .long, 2) := by decide +kernel
theorem dX11_init_83 : decode cX11_init 83 = .ok (.putfield 51, 3) := by decide +kernel
theorem dX11_init_86 : decode cX11_init 86 = .ok (.return_, 1) := by decide +kernel
theorem dX11_feed_0 : decode cX11_feed 0 = .ok (.aload_n 0, 1) := by decide +kernel
theorem dX11_feed_1 : decode cX11_feed 1 = .ok (.getfield 10, 3) := by decide +kernel
theorem dX11_feed_4 : decode cX11_feed 4 = .ok (.getfield 55, 3) := by decide +kernel
theorem dX11_feed_7 : decode cX11_feed 7 = .ok (.astore 6, 2) := by decide +kernel
theorem dX11_feed_9 : decode cX11_feed 9 = .ok (.aload 6, 2) := by decide +kernel
theorem dX11_feed_11 : decode cX11_feed 11 = .ok (.getfield 59, 3) := by decide +kernel
theorem dX11_feed_14 : decode cX11_feed 14 = .ok (.bipush 20, 2) := by decide +kernel
theorem dX11_feed_16 : decode cX11_feed 16 = .ok (.iadd, 1) := by decide +kernel
theorem dX11_feed_17 : decode cX11_feed 17 = .ok (.sipush 1600, 3) := by decide +kernel
theorem dX11_feed_20 : decode cX11_feed 20 = .ok (.if_icmp .le 5, 3) := by decide +kernel
theorem dX11_feed_23 : decode cX11_feed 23 = .ok (.iconst (-1), 1) := by decide +kernel
theorem dX11_feed_24 : decode cX11_feed 24 = .ok (.ireturn, 1) := by decide +kernel
theorem dX11_feed_25 : decode cX11_feed 25 = .ok (.aload 6, 2) := by decide +kernel
theorem dX11_feed_27 : decode cX11_feed 27 = .ok (.iload_n 1, 1) := by decide +kernel
theorem dX11_feed_28 : decode cX11_feed 28 = .ok (.invokevirtual 65, 3) := by decide +kernel
theorem dX11_feed_31 : decode cX11_feed 31 = .ok (.aload 6, 2) := by decide +kernel
theorem dX11_feed_33 : decode cX11_feed 33 = .ok (.iload_n 2, 1) := by decide +kernel
theorem dX11_feed_34 : decode cX11_feed 34 = .ok (.invokevirtual 65, 3) := by decide +kernel
theorem dX11_feed_37 : decode cX11_feed 37 = .ok (.aload 6, 2) := by decide +kernel
theorem dX11_feed_39 : decode cX11_feed 39 = .ok (.iload_n 3, 1) := by decide +kernel
theorem dX11_feed_40 : decode cX11_feed 40 = .ok (.invokevirtual 65, 3) := by decide +kernel
theorem dX11_feed_43 : decode cX11_feed 43 = .ok (.aload 6, 2) := by decide +kernel
theorem dX11_feed_45 : decode cX11_feed 45 = .ok (.iload 4, 2) := by decide +kernel
theorem dX11_feed_47 : decode cX11_feed 47 = .ok (.invokevirtual 65, 3) := by decide +kernel
theorem dX11_feed_50 : decode cX11_feed 50 = .ok (.aload 6, 2) := by decide +kernel
theorem dX11_feed_52 : decode cX11_feed 52 = .ok (.iload 5, 2) := by decide +kernel
theorem dX11_feed_54 : decode cX11_feed 54 = .ok (.invokevirtual 65, 3) := by decide +kernel
theorem dX11_feed_57 : decode cX11_feed 57 = .ok (.aload 6, 2) := by decide +kernel
theorem dX11_feed_59 : decode cX11_feed 59 = .ok (.getfield 59, 3) := by decide +kernel
theorem dX11_feed_62 : decode cX11_feed 62 = .ok (.ireturn, 1) := by decide +kernel
theorem dX11_end_0 : decode cX11_end 0 = .ok (.aload_n 0, 1) := by decide +kernel
theorem dX11_end_1 : decode cX11_end 1 = .ok (.getfield 10, 3) := by decide +kernel
theorem dX11_end_4 : decode cX11_end 4 = .ok (.getfield 55, 3) := by decide +kernel
theorem dX11_end_7 : decode cX11_end 7 = .ok (.astore_n 2, 1) := by decide +kernel
theorem dX11_end_8 : decode cX11_end 8 = .ok (.iload_n 1, 1) := by decide +kernel
theorem dX11_end_9 : decode cX11_end 9 = .ok (.ifCond .lt 11, 3) := by decide +kernel
theorem dX11_end_12 : decode cX11_end 12 = .ok (.iload_n 1, 1) := by decide +kernel
theorem dX11_end_13 : decode cX11_end 13 = .ok (.aload_n 2, 1) := by decide +kernel
theorem dX11_end_14 : decode cX11_end 14 = .ok (.getfield 59, 3) := by decide +kernel
theorem dX11_end_17 : decode cX11_end 17 = .ok (.if_icmp .le 5, 3) := by decide +kernel
theorem dX11_end_20 : decode cX11_end 20 = .ok (.iconst (-1), 1) := by decide +kernel
theorem dX11_end_21 : decode cX11_end 21 = .ok (.ireturn, 1) := by decide +kernel
theorem dX11_end_22 : decode cX11_end 22 = .ok (.aload_n 2, 1) := by decide +kernel
theorem dX11_end_23 : decode cX11_end 23 = .ok (.iload_n 1, 1) := by decide +kernel
theorem dX11_end_24 : decode cX11_end 24 = .ok (.putfield 59, 3) := by decide +kernel
theorem dX11_end_27 : decode cX11_end 27 = .ok (.iload_n 1, 1) := by decide +kernel
theorem dX11_end_28 : decode cX11_end 28 = .ok (.ireturn, 1) := by decide +kernel
theorem dX11_rail_0 : decode cX11_rail 0 = .ok (.aload_n 0, 1) := by decide +kernel
theorem dX11_rail_1 : decode cX11_rail 1 = .ok (.getfield 10, 3) := by decide +kernel
theorem dX11_rail_4 : decode cX11_rail 4 = .ok (.aload_n 0, 1) := by decide +kernel
theorem dX11_rail_5 : decode cX11_rail 5 = .ok (.getfield 23, 3) := by decide +kernel
theorem dX11_rail_8 : decode cX11_rail 8 = .ok (.invokevirtual 69, 3) := by decide +kernel
theorem dX11_rail_11 : decode cX11_rail 11 = .ok (.istore_n 1, 1) := by decide +kernel
theorem dX11_rail_12 : decode cX11_rail 12 = .ok (.aload_n 0, 1) := by decide +kernel
theorem dX11_rail_13 : decode cX11_rail 13 = .ok (.getfield 10, 3) := by decide +kernel
theorem dX11_rail_16 : decode cX11_rail 16 = .ok (.getfield 55, 3) := by decide +kernel
theorem dX11_rail_19 : decode cX11_rail 19 = .ok (.iconst 0, 1) := by decide +kernel
theorem dX11_rail_20 : decode cX11_rail 20 = .ok (.putfield 59, 3) := by decide +kernel
theorem dX11_rail_23 : decode cX11_rail 23 = .ok (.iload_n 1, 1) := by decide +kernel
theorem dX11_rail_24 : decode cX11_rail 24 = .ok (.ifCond .ne 6, 3) := by decide +kernel
theorem dX11_rail_27 : decode cX11_rail 27 = .ok (.bipush (-4), 2) := by decide +kernel
theorem dX11_rail_29 : decode cX11_rail 29 = .ok (.ireturn, 1) := by decide +kernel
theorem dX11_rail_30 : decode cX11_rail 30 = .ok (.aload_n 0, 1) := by decide +kernel
theorem dX11_rail_31 : decode cX11_rail 31 = .ok (.getfield 19, 3) := by decide +kernel
theorem dX11_rail_34 : decode cX11_rail 34 = .ok (.aload_n 0, 1) := by decide +kernel
theorem dX11_rail_35 : decode cX11_rail 35 = .ok (.getfield 23, 3) := by decide +kernel
theorem dX11_rail_38 : decode cX11_rail 38 = .ok (.invokevirtual 73, 3) := by decide +kernel
theorem dX11_rail_41 : decode cX11_rail 41 = .ok (.aload_n 0, 1) := by decide +kernel
theorem dX11_rail_42 : decode cX11_rail 42 = .ok (.getfield 19, 3) := by decide +kernel
theorem dX11_rail_45 : decode cX11_rail 45 = .ok (.getfield 77, 3) := by decide +kernel
theorem dX11_rail_48 : decode cX11_rail 48 = .ok (.ireturn, 1) := by decide +kernel
theorem dX11_fault_0 : decode cX11_fault 0 = .ok (.iload_n 1, 1) := by decide +kernel
theorem dX11_fault_1 : decode cX11_fault 1 = .ok (.lookupswitch 43 #[(0, 27), (1, 35)], 27) := by decide +kernel
theorem dX11_fault_28 : decode cX11_fault 28 = .ok (.aload_n 0, 1) := by decide +kernel
theorem dX11_fault_29 : decode cX11_fault 29 = .ok (.getfield 10, 3) := by decide +kernel
theorem dX11_fault_32 : decode cX11_fault 32 = .ok (.getfield 80, 3) := by decide +kernel
theorem dX11_fault_35 : decode cX11_fault 35 = .ok (.ireturn, 1) := by decide +kernel
theorem dX11_fault_36 : decode cX11_fault 36 = .ok (.aload_n 0, 1) := by decide +kernel
theorem dX11_fault_37 : decode cX11_fault 37 = .ok (.getfield 10, 3) := by decide +kernel
theorem dX11_fault_40 : decode cX11_fault 40 = .ok (.getfield 83, 3) := by decide +kernel
theorem dX11_fault_43 : decode cX11_fault 43 = .ok (.ireturn, 1) := by decide +kernel
theorem dX11_fault_44 : decode cX11_fault 44 = .ok (.iconst (-1), 1) := by decide +kernel
theorem dX11_fault_45 : decode cX11_fault 45 = .ok (.ireturn, 1) := by decide +kernel
theorem dX11_light_0 : decode cX11_light 0 = .ok (.aload_n 0, 1) := by decide +kernel
theorem dX11_light_1 : decode cX11_light 1 = .ok (.getfield 19, 3) := by decide +kernel
theorem dX11_light_4 : decode cX11_light 4 = .ok (.iload_n 1, 1) := by decide +kernel
theorem dX11_light_5 : decode cX11_light 5 = .ok (.invokevirtual 86, 3) := by decide +kernel
theorem dX11_light_8 : decode cX11_light 8 = .ok (.ifCond .eq 14, 3) := by decide +kernel
theorem dX11_light_11 : decode cX11_light 11 = .ok (.aload_n 0, 1) := by decide +kernel
theorem dX11_light_12 : decode cX11_light 12 = .ok (.getfield 19, 3) := by decide +kernel
theorem dX11_light_15 : decode cX11_light 15 = .ok (.iload_n 1, 1) := by decide +kernel
theorem dX11_light_16 : decode cX11_light 16 = .ok (.invokevirtual 90, 3) := by decide +kernel
theorem dX11_light_19 : decode cX11_light 19 = .ok (.goto 5, 3) := by decide +kernel
theorem dX11_light_22 : decode cX11_light 22 = .ok (.bipush (-2), 2) := by decide +kernel
theorem dX11_light_24 : decode cX11_light 24 = .ok (.ireturn, 1) := by decide +kernel
theorem dX11_bike_0 : decode cX11_bike 0 = .ok (.aload_n 0, 1) := by decide +kernel
theorem dX11_bike_1 : decode cX11_bike 1 = .ok (.getfield 19, 3) := by decide +kernel
theorem dX11_bike_4 : decode cX11_bike 4 = .ok (.iload_n 1, 1) := by decide +kernel
theorem dX11_bike_5 : decode cX11_bike 5 = .ok (.invokevirtual 94, 3) := by decide +kernel
theorem dX11_bike_8 : decode cX11_bike 8 = .ok (.ifCond .ne 6, 3) := by decide +kernel
theorem dX11_bike_11 : decode cX11_bike 11 = .ok (.bipush (-2), 2) := by decide +kernel
theorem dX11_bike_13 : decode cX11_bike 13 = .ok (.ireturn, 1) := by decide +kernel
theorem dX11_bike_14 : decode cX11_bike 14 = .ok (.iload_n 2, 1) := by decide +kernel
theorem dX11_bike_15 : decode cX11_bike 15 = .ok (.tableswitch 106 0 4 #[33, 46, 59, 72, 85], 33) := by decide +kernel
theorem dX11_bike_48 : decode cX11_bike 48 = .ok (.aload_n 0, 1) := by decide +kernel
theorem dX11_bike_49 : decode cX11_bike 49 = .ok (.getfield 19, 3) := by decide +kernel
theorem dX11_bike_52 : decode cX11_bike 52 = .ok (.getfield 97, 3) := by decide +kernel
theorem dX11_bike_55 : decode cX11_bike 55 = .ok (.getfield 101, 3) := by decide +kernel
theorem dX11_bike_58 : decode cX11_bike 58 = .ok (.iload_n 1, 1) := by decide +kernel
theorem dX11_bike_59 : decode cX11_bike 59 = .ok (.iaload, 1) := by decide +kernel
theorem dX11_bike_60 : decode cX11_bike 60 = .ok (.ireturn, 1) := by decide +kernel
theorem dX11_bike_61 : decode cX11_bike 61 = .ok (.aload_n 0, 1) := by decide +kernel
theorem dX11_bike_62 : decode cX11_bike 62 = .ok (.getfield 19, 3) := by decide +kernel
theorem dX11_bike_65 : decode cX11_bike 65 = .ok (.getfield 97, 3) := by decide +kernel
theorem dX11_bike_68 : decode cX11_bike 68 = .ok (.getfield 107, 3) := by decide +kernel
theorem dX11_bike_71 : decode cX11_bike 71 = .ok (.iload_n 1, 1) := by decide +kernel
theorem dX11_bike_72 : decode cX11_bike 72 = .ok (.iaload, 1) := by decide +kernel
theorem dX11_bike_73 : decode cX11_bike 73 = .ok (.ireturn, 1) := by decide +kernel
theorem dX11_bike_74 : decode cX11_bike 74 = .ok (.aload_n 0, 1) := by decide +kernel
theorem dX11_bike_75 : decode cX11_bike 75 = .ok (.getfield 19, 3) := by decide +kernel
theorem dX11_bike_78 : decode cX11_bike 78 = .ok (.getfield 97, 3) := by decide +kernel
theorem dX11_bike_81 : decode cX11_bike 81 = .ok (.getfield 110, 3) := by decide +kernel
theorem dX11_bike_84 : decode cX11_bike 84 = .ok (.iload_n 1, 1) := by decide +kernel
theorem dX11_bike_85 : decode cX11_bike 85 = .ok (.iaload, 1) := by decide +kernel
theorem dX11_bike_86 : decode cX11_bike 86 = .ok (.ireturn, 1) := by decide +kernel
theorem dX11_bike_87 : decode cX11_bike 87 = .ok (.aload_n 0, 1) := by decide +kernel
theorem dX11_bike_88 : decode cX11_bike 88 = .ok (.getfield 19, 3) := by decide +kernel
theorem dX11_bike_91 : decode cX11_bike 91 = .ok (.getfield 97, 3) := by decide +kernel
theorem dX11_bike_94 : decode cX11_bike 94 = .ok (.getfield 113, 3) := by decide +kernel
theorem dX11_bike_97 : decode cX11_bike 97 = .ok (.iload_n 1, 1) := by decide +kernel
theorem dX11_bike_98 : decode cX11_bike 98 = .ok (.iaload, 1) := by decide +kernel
theorem dX11_bike_99 : decode cX11_bike 99 = .ok (.ireturn, 1) := by decide +kernel
theorem dX11_bike_100 : decode cX11_bike 100 = .ok (.aload_n 0, 1) := by decide +kernel
theorem dX11_bike_101 : decode cX11_bike 101 = .ok (.getfield 19, 3) := by decide +kernel
theorem dX11_bike_104 : decode cX11_bike 104 = .ok (.getfield 97, 3) := by decide +kernel
theorem dX11_bike_107 : decode cX11_bike 107 = .ok (.getfield 116, 3) := by decide +kernel
theorem dX11_bike_110 : decode cX11_bike 110 = .ok (.iload_n 1, 1) := by decide +kernel
theorem dX11_bike_111 : decode cX11_bike 111 = .ok (.baload, 1) := by decide +kernel
theorem dX11_bike_112 : decode cX11_bike 112 = .ok (.ifCond .eq 7, 3) := by decide +kernel
theorem dX11_bike_115 : decode cX11_bike 115 = .ok (.iconst 1, 1) := by decide +kernel
theorem dX11_bike_116 : decode cX11_bike 116 = .ok (.goto 4, 3) := by decide +kernel
theorem dX11_bike_119 : decode cX11_bike 119 = .ok (.iconst 0, 1) := by decide +kernel
theorem dX11_bike_120 : decode cX11_bike 120 = .ok (.ireturn, 1) := by decide +kernel
theorem dX11_bike_121 : decode cX11_bike 121 = .ok (.bipush (-2), 2) := by decide +kernel
theorem dX11_bike_123 : decode cX11_bike 123 = .ok (.ireturn, 1) := by decide +kernel
theorem dX11_trouble_0 : decode cX11_trouble 0 = .ok (.aload_n 0, 1) := by decide +kernel
theorem dX11_trouble_1 : decode cX11_trouble 1 = .ok (.getfield 19, 3) := by decide +kernel
theorem dX11_trouble_4 : decode cX11_trouble 4 = .ok (.iload_n 1, 1) := by decide +kernel
theorem dX11_trouble_5 : decode cX11_trouble 5 = .ok (.invokevirtual 120, 3) := by decide +kernel
theorem dX11_trouble_8 : decode cX11_trouble 8 = .ok (.ifCond .eq 14, 3) := by decide +kernel
theorem dX11_trouble_11 : decode cX11_trouble 11 = .ok (.aload_n 0, 1) := by decide +kernel
theorem dX11_trouble_12 : decode cX11_trouble 12 = .ok (.getfield 19, 3) := by decide +kernel
theorem dX11_trouble_15 : decode cX11_trouble 15 = .ok (.iload_n 2, 1) := by decide +kernel
theorem dX11_trouble_16 : decode cX11_trouble 16 = .ok (.invokevirtual 94, 3) := by decide +kernel
theorem dX11_trouble_19 : decode cX11_trouble 19 = .ok (.ifCond .ne 6, 3) := by decide +kernel
theorem dX11_trouble_22 : decode cX11_trouble 22 = .ok (.bipush (-2), 2) := by decide +kernel
theorem dX11_trouble_24 : decode cX11_trouble 24 = .ok (.ireturn, 1) := by decide +kernel
theorem dX11_trouble_25 : decode cX11_trouble 25 = .ok (.aload_n 0, 1) := by decide +kernel
theorem dX11_trouble_26 : decode cX11_trouble 26 = .ok (.getfield 19, 3) := by decide +kernel
theorem dX11_trouble_29 : decode cX11_trouble 29 = .ok (.iload_n 1, 1) := by decide +kernel
theorem dX11_trouble_30 : decode cX11_trouble 30 = .ok (.iload_n 2, 1) := by decide +kernel
theorem dX11_trouble_31 : decode cX11_trouble 31 = .ok (.aload_n 0, 1) := by decide +kernel
theorem dX11_trouble_32 : decode cX11_trouble 32 = .ok (.getfield 19, 3) := by decide +kernel
theorem dX11_trouble_35 : decode cX11_trouble 35 = .ok (.aload_n 0, 1) := by decide +kernel
theorem dX11_trouble_36 : decode cX11_trouble 36 = .ok (.getfield 19, 3) := by decide +kernel
theorem dX11_trouble_39 : decode cX11_trouble 39 = .ok (.getfield 97, 3) := by decide +kernel
theorem dX11_trouble_42 : decode cX11_trouble 42 = .ok (.getfield 110, 3) := by decide +kernel
theorem dX11_trouble_45 : decode cX11_trouble 45 = .ok (.iload_n 2, 1) := by decide +kernel
theorem dX11_trouble_46 : decode cX11_trouble 46 = .ok (.iaload, 1) := by decide +kernel
theorem dX11_trouble_47 : decode cX11_trouble 47 = .ok (.invokevirtual 90, 3) := by decide +kernel
theorem dX11_trouble_50 : decode cX11_trouble 50 = .ok (.invokevirtual 123, 3) := by decide +kernel
theorem dX11_trouble_53 : decode cX11_trouble 53 = .ok (.ireturn, 1) := by decide +kernel
theorem dX11_gain_0 : decode cX11_gain 0 = .ok (.aload_n 0, 1) := by decide +kernel
theorem dX11_gain_1 : decode cX11_gain 1 = .ok (.getfield 19, 3) := by decide +kernel
theorem dX11_gain_4 : decode cX11_gain 4 = .ok (.iload_n 1, 1) := by decide +kernel
theorem dX11_gain_5 : decode cX11_gain 5 = .ok (.invokevirtual 94, 3) := by decide +kernel
theorem dX11_gain_8 : decode cX11_gain 8 = .ok (.ifCond .eq 24, 3) := by decide +kernel
theorem dX11_gain_11 : decode cX11_gain 11 = .ok (.aload_n 0, 1) := by decide +kernel
theorem dX11_gain_12 : decode cX11_gain 12 = .ok (.getfield 19, 3) := by decide +kernel
theorem dX11_gain_15 : decode cX11_gain 15 = .ok (.iload_n 1, 1) := by decide +kernel
theorem dX11_gain_16 : decode cX11_gain 16 = .ok (.aload_n 0, 1) := by decide +kernel
theorem dX11_gain_17 : decode cX11_gain 17 = .ok (.getfield 19, 3) := by decide +kernel
theorem dX11_gain_20 : decode cX11_gain 20 = .ok (.getfield 97, 3) := by decide +kernel
theorem dX11_gain_23 : decode cX11_gain 23 = .ok (.invokevirtual 127, 3) := by decide +kernel
theorem dX11_gain_26 : decode cX11_gain 26 = .ok (.invokevirtual 131, 3) := by decide +kernel
theorem dX11_gain_29 : decode cX11_gain 29 = .ok (.goto 5, 3) := by decide +kernel
theorem dX11_gain_32 : decode cX11_gain 32 = .ok (.bipush (-2), 2) := by decide +kernel
theorem dX11_gain_34 : decode cX11_gain 34 = .ok (.ireturn, 1) := by decide +kernel
theorem dX11_takes_0 : decode cX11_takes 0 = .ok (.aload_n 0, 1) := by decide +kernel
theorem dX11_takes_1 : decode cX11_takes 1 = .ok (.getfield 19, 3) := by decide +kernel
theorem dX11_takes_4 : decode cX11_takes 4 = .ok (.iload_n 1, 1) := by decide +kernel
theorem dX11_takes_5 : decode cX11_takes 5 = .ok (.invokevirtual 120, 3) := by decide +kernel
theorem dX11_takes_8 : decode cX11_takes 8 = .ok (.ifCond .eq 14, 3) := by decide +kernel
theorem dX11_takes_11 : decode cX11_takes 11 = .ok (.aload_n 0, 1) := by decide +kernel
theorem dX11_takes_12 : decode cX11_takes 12 = .ok (.getfield 19, 3) := by decide +kernel
theorem dX11_takes_15 : decode cX11_takes 15 = .ok (.iload_n 2, 1) := by decide +kernel
theorem dX11_takes_16 : decode cX11_takes 16 = .ok (.invokevirtual 135, 3) := by decide +kernel
theorem dX11_takes_19 : decode cX11_takes 19 = .ok (.ifCond .ne 6, 3) := by decide +kernel
theorem dX11_takes_22 : decode cX11_takes 22 = .ok (.bipush (-2), 2) := by decide +kernel
theorem dX11_takes_24 : decode cX11_takes 24 = .ok (.ireturn, 1) := by decide +kernel
theorem dX11_takes_25 : decode cX11_takes 25 = .ok (.aload_n 0, 1) := by decide +kernel
theorem dX11_takes_26 : decode cX11_takes 26 = .ok (.getfield 40, 3) := by decide +kernel
theorem dX11_takes_29 : decode cX11_takes 29 = .ok (.aload_n 0, 1) := by decide +kernel
theorem dX11_takes_30 : decode cX11_takes 30 = .ok (.getfield 19, 3) := by decide +kernel
theorem dX11_takes_33 : decode cX11_takes 33 = .ok (.invokevirtual 138, 3) := by decide +kernel
theorem dX11_takes_36 : decode cX11_takes 36 = .ok (.aload_n 0, 1) := by decide +kernel
theorem dX11_takes_37 : decode cX11_takes 37 = .ok (.getfield 40, 3) := by decide +kernel
theorem dX11_takes_40 : decode cX11_takes 40 = .ok (.iload_n 1, 1) := by decide +kernel
theorem dX11_takes_41 : decode cX11_takes 41 = .ok (.iload_n 2, 1) := by decide +kernel
theorem dX11_takes_42 : decode cX11_takes 42 = .ok (.invokevirtual 141, 3) := by decide +kernel
theorem dX11_takes_45 : decode cX11_takes 45 = .ok (.ireturn, 1) := by decide +kernel
theorem dX11_wants_0 : decode cX11_wants 0 = .ok (.aload_n 0, 1) := by decide +kernel
theorem dX11_wants_1 : decode cX11_wants 1 = .ok (.getfield 19, 3) := by decide +kernel
theorem dX11_wants_4 : decode cX11_wants 4 = .ok (.iload_n 1, 1) := by decide +kernel
theorem dX11_wants_5 : decode cX11_wants 5 = .ok (.invokevirtual 120, 3) := by decide +kernel
theorem dX11_wants_8 : decode cX11_wants 8 = .ok (.ifCond .ne 6, 3) := by decide +kernel
theorem dX11_wants_11 : decode cX11_wants 11 = .ok (.bipush (-2), 2) := by decide +kernel
theorem dX11_wants_13 : decode cX11_wants 13 = .ok (.ireturn, 1) := by decide +kernel
theorem dX11_wants_14 : decode cX11_wants 14 = .ok (.aload_n 0, 1) := by decide +kernel
theorem dX11_wants_15 : decode cX11_wants 15 = .ok (.getfield 40, 3) := by decide +kernel
theorem dX11_wants_18 : decode cX11_wants 18 = .ok (.aload_n 0, 1) := by decide +kernel
theorem dX11_wants_19 : decode cX11_wants 19 = .ok (.getfield 19, 3) := by decide +kernel
theorem dX11_wants_22 : decode cX11_wants 22 = .ok (.invokevirtual 138, 3) := by decide +kernel
theorem dX11_wants_25 : decode cX11_wants 25 = .ok (.aload_n 0, 1) := by decide +kernel
theorem dX11_wants_26 : decode cX11_wants 26 = .ok (.getfield 40, 3) := by decide +kernel
theorem dX11_wants_29 : decode cX11_wants 29 = .ok (.aload_n 0, 1) := by decide +kernel
theorem dX11_wants_30 : decode cX11_wants 30 = .ok (.getfield 19, 3) := by decide +kernel
theorem dX11_wants_33 : decode cX11_wants 33 = .ok (.iload_n 1, 1) := by decide +kernel
theorem dX11_wants_34 : decode cX11_wants 34 = .ok (.invokevirtual 144, 3) := by decide +kernel
theorem dX11_wants_37 : decode cX11_wants 37 = .ok (.ireturn, 1) := by decide +kernel
theorem dX11_part_0 : decode cX11_part 0 = .ok (.aload_n 0, 1) := by decide +kernel
theorem dX11_part_1 : decode cX11_part 1 = .ok (.getfield 19, 3) := by decide +kernel
theorem dX11_part_4 : decode cX11_part 4 = .ok (.invokevirtual 148, 3) := by decide +kernel
theorem dX11_part_7 : decode cX11_part 7 = .ok (.ifCond .eq 14, 3) := by decide +kernel
theorem dX11_part_10 : decode cX11_part 10 = .ok (.aload_n 0, 1) := by decide +kernel
theorem dX11_part_11 : decode cX11_part 11 = .ok (.getfield 19, 3) := by decide +kernel
theorem dX11_part_14 : decode cX11_part 14 = .ok (.iload_n 1, 1) := by decide +kernel
theorem dX11_part_15 : decode cX11_part 15 = .ok (.invokevirtual 135, 3) := by decide +kernel
theorem dX11_part_18 : decode cX11_part 18 = .ok (.ifCond .ne 7, 3) := by decide +kernel
theorem dX11_part_21 : decode cX11_part 21 = .ok (.ldc2_w 152, 3) := by decide +kernel
theorem dX11_part_24 : decode cX11_part 24 = .ok (.lreturn, 1) := by decide +kernel
theorem dX11_part_25 : decode cX11_part 25 = .ok (.aload_n 0, 1) := by decide +kernel
theorem dX11_part_26 : decode cX11_part 26 = .ok (.getfield 40, 3) := by decide +kernel
theorem dX11_part_29 : decode cX11_part 29 = .ok (.aload_n 0, 1) := by decide +kernel
theorem dX11_part_30 : decode cX11_part 30 = .ok (.getfield 19, 3) := by decide +kernel
theorem dX11_part_33 : decode cX11_part 33 = .ok (.invokevirtual 154, 3) := by decide +kernel
theorem dX11_part_36 : decode cX11_part 36 = .ok (.aload_n 0, 1) := by decide +kernel
theorem dX11_part_37 : decode cX11_part 37 = .ok (.getfield 40, 3) := by decide +kernel
theorem dX11_part_40 : decode cX11_part 40 = .ok (.iload_n 1, 1) := by decide +kernel
theorem dX11_part_41 : decode cX11_part 41 = .ok (.invokevirtual 157, 3) := by decide +kernel
theorem dX11_part_44 : decode cX11_part 44 = .ok (.lreturn, 1) := by decide +kernel
theorem dX11_many_0 : decode cX11_many 0 = .ok (.aload_n 0, 1) := by decide +kernel
theorem dX11_many_1 : decode cX11_many 1 = .ok (.getfield 19, 3) := by decide +kernel
theorem dX11_many_4 : decode cX11_many 4 = .ok (.invokevirtual 148, 3) := by decide +kernel
theorem dX11_many_7 : decode cX11_many 7 = .ok (.ifCond .eq 21, 3) := by decide +kernel
theorem dX11_many_10 : decode cX11_many 10 = .ok (.iload_n 1, 1) := by decide +kernel
theorem dX11_many_11 : decode cX11_many 11 = .ok (.ifCond .lt 17, 3) := by decide +kernel
theorem dX11_many_14 : decode cX11_many 14 = .ok (.iload_n 1, 1) := by decide +kernel
theorem dX11_many_15 : decode cX11_many 15 = .ok (.aload_n 0, 1) := by decide +kernel
theorem dX11_many_16 : decode cX11_many 16 = .ok (.getfield 19, 3) := by decide +kernel
theorem dX11_many_19 : decode cX11_many 19 = .ok (.getfield 97, 3) := by decide +kernel
theorem dX11_many_22 : decode cX11_many 22 = .ok (.getfield 161, 3) := by decide +kernel
theorem dX11_many_25 : decode cX11_many 25 = .ok (.if_icmp .le 7, 3) := by decide +kernel
theorem dX11_many_28 : decode cX11_many 28 = .ok (.ldc2_w 152, 3) := by decide +kernel
theorem dX11_many_31 : decode cX11_many 31 = .ok (.lreturn, 1) := by decide +kernel
theorem dX11_many_32 : decode cX11_many 32 = .ok (.aload_n 0, 1) := by decide +kernel
theorem dX11_many_33 : decode cX11_many 33 = .ok (.getfield 40, 3) := by decide +kernel
theorem dX11_many_36 : decode cX11_many 36 = .ok (.aload_n 0, 1) := by decide +kernel
theorem dX11_many_37 : decode cX11_many 37 = .ok (.getfield 19, 3) := by decide +kernel
theorem dX11_many_40 : decode cX11_many 40 = .ok (.invokevirtual 154, 3) := by decide +kernel
theorem dX11_many_43 : decode cX11_many 43 = .ok (.aload_n 0, 1) := by decide +kernel
theorem dX11_many_44 : decode cX11_many 44 = .ok (.getfield 40, 3) := by decide +kernel
theorem dX11_many_47 : decode cX11_many 47 = .ok (.iload_n 1, 1) := by decide +kernel
theorem dX11_many_48 : decode cX11_many 48 = .ok (.invokevirtual 164, 3) := by decide +kernel
theorem dX11_many_51 : decode cX11_many 51 = .ok (.lreturn, 1) := by decide +kernel
theorem dX11_risk_0 : decode cX11_risk 0 = .ok (.aload_n 0, 1) := by decide +kernel
theorem dX11_risk_1 : decode cX11_risk 1 = .ok (.getfield 19, 3) := by decide +kernel
theorem dX11_risk_4 : decode cX11_risk 4 = .ok (.iload_n 1, 1) := by decide +kernel
theorem dX11_risk_5 : decode cX11_risk 5 = .ok (.invokevirtual 94, 3) := by decide +kernel
theorem dX11_risk_8 : decode cX11_risk 8 = .ok (.ifCond .ne 7, 3) := by decide +kernel
theorem dX11_risk_11 : decode cX11_risk 11 = .ok (.ldc2_w 152, 3) := by decide +kernel
theorem dX11_risk_14 : decode cX11_risk 14 = .ok (.lreturn, 1) := by decide +kernel
theorem dX11_risk_15 : decode cX11_risk 15 = .ok (.aload_n 0, 1) := by decide +kernel
theorem dX11_risk_16 : decode cX11_risk 16 = .ok (.getfield 40, 3) := by decide +kernel
theorem dX11_risk_19 : decode cX11_risk 19 = .ok (.aload_n 0, 1) := by decide +kernel
theorem dX11_risk_20 : decode cX11_risk 20 = .ok (.getfield 19, 3) := by decide +kernel
theorem dX11_risk_23 : decode cX11_risk 23 = .ok (.invokevirtual 154, 3) := by decide +kernel
theorem dX11_risk_26 : decode cX11_risk 26 = .ok (.aload_n 0, 1) := by decide +kernel
theorem dX11_risk_27 : decode cX11_risk 27 = .ok (.getfield 40, 3) := by decide +kernel
theorem dX11_risk_30 : decode cX11_risk 30 = .ok (.iload_n 1, 1) := by decide +kernel
theorem dX11_risk_31 : decode cX11_risk 31 = .ok (.invokevirtual 167, 3) := by decide +kernel
theorem dX11_risk_34 : decode cX11_risk 34 = .ok (.lreturn, 1) := by decide +kernel
theorem dX11_has_0 : decode cX11_has 0 = .ok (.aload_n 0, 1) := by decide +kernel
theorem dX11_has_1 : decode cX11_has 1 = .ok (.getfield 19, 3) := by decide +kernel
theorem dX11_has_4 : decode cX11_has 4 = .ok (.iload_n 1, 1) := by decide +kernel
theorem dX11_has_5 : decode cX11_has 5 = .ok (.invokevirtual 120, 3) := by decide +kernel
theorem dX11_has_8 : decode cX11_has 8 = .ok (.ifCond .eq 14, 3) := by decide +kernel
theorem dX11_has_11 : decode cX11_has 11 = .ok (.aload_n 0, 1) := by decide +kernel
theorem dX11_has_12 : decode cX11_has 12 = .ok (.getfield 19, 3) := by decide +kernel
theorem dX11_has_15 : decode cX11_has 15 = .ok (.iload_n 2, 1) := by decide +kernel
theorem dX11_has_16 : decode cX11_has 16 = .ok (.invokevirtual 94, 3) := by decide +kernel
theorem dX11_has_19 : decode cX11_has 19 = .ok (.ifCond .ne 7, 3) := by decide +kernel
theorem dX11_has_22 : decode cX11_has 22 = .ok (.ldc2_w 152, 3) := by decide +kernel
theorem dX11_has_25 : decode cX11_has 25 = .ok (.lreturn, 1) := by decide +kernel
theorem dX11_has_26 : decode cX11_has 26 = .ok (.aload_n 0, 1) := by decide +kernel
theorem dX11_has_27 : decode cX11_has 27 = .ok (.getfield 40, 3) := by decide +kernel
theorem dX11_has_30 : decode cX11_has 30 = .ok (.aload_n 0, 1) := by decide +kernel
theorem dX11_has_31 : decode cX11_has 31 = .ok (.getfield 19, 3) := by decide +kernel
theorem dX11_has_34 : decode cX11_has 34 = .ok (.invokevirtual 154, 3) := by decide +kernel
theorem dX11_has_37 : decode cX11_has 37 = .ok (.aload_n 0, 1) := by decide +kernel
theorem dX11_has_38 : decode cX11_has 38 = .ok (.getfield 40, 3) := by decide +kernel
theorem dX11_has_41 : decode cX11_has 41 = .ok (.iload_n 1, 1) := by decide +kernel
theorem dX11_has_42 : decode cX11_has 42 = .ok (.iload_n 2, 1) := by decide +kernel
theorem dX11_has_43 : decode cX11_has 43 = .ok (.invokevirtual 170, 3) := by decide +kernel
theorem dX11_has_46 : decode cX11_has 46 = .ok (.lreturn, 1) := by decide +kernel
theorem dX11_cost_0 : decode cX11_cost 0 = .ok (.aload_n 0, 1) := by decide +kernel
theorem dX11_cost_1 : decode cX11_cost 1 = .ok (.getfield 19, 3) := by decide +kernel
theorem dX11_cost_4 : decode cX11_cost 4 = .ok (.iload_n 1, 1) := by decide +kernel
theorem dX11_cost_5 : decode cX11_cost 5 = .ok (.invokevirtual 94, 3) := by decide +kernel
theorem dX11_cost_8 : decode cX11_cost 8 = .ok (.ifCond .eq 10, 3) := by decide +kernel
theorem dX11_cost_11 : decode cX11_cost 11 = .ok (.iload_n 2, 1) := by decide +kernel
theorem dX11_cost_12 : decode cX11_cost 12 = .ok (.invokestatic 174, 3) := by decide +kernel
theorem dX11_cost_15 : decode cX11_cost 15 = .ok (.ifCond .ne 7, 3) := by decide +kernel
theorem dX11_cost_18 : decode cX11_cost 18 = .ok (.ldc2_w 152, 3) := by decide +kernel
theorem dX11_cost_21 : decode cX11_cost 21 = .ok (.lreturn, 1) := by decide +kernel
theorem dX11_cost_22 : decode cX11_cost 22 = .ok (.aload_n 0, 1) := by decide +kernel
theorem dX11_cost_23 : decode cX11_cost 23 = .ok (.getfield 40, 3) := by decide +kernel
theorem dX11_cost_26 : decode cX11_cost 26 = .ok (.aload_n 0, 1) := by decide +kernel
theorem dX11_cost_27 : decode cX11_cost 27 = .ok (.getfield 19, 3) := by decide +kernel
theorem dX11_cost_30 : decode cX11_cost 30 = .ok (.invokevirtual 154, 3) := by decide +kernel
theorem dX11_cost_33 : decode cX11_cost 33 = .ok (.aload_n 0, 1) := by decide +kernel
theorem dX11_cost_34 : decode cX11_cost 34 = .ok (.getfield 40, 3) := by decide +kernel
theorem dX11_cost_37 : decode cX11_cost 37 = .ok (.aload_n 0, 1) := by decide +kernel
theorem dX11_cost_38 : decode cX11_cost 38 = .ok (.getfield 19, 3) := by decide +kernel
theorem dX11_cost_41 : decode cX11_cost 41 = .ok (.iload_n 1, 1) := by decide +kernel
theorem dX11_cost_42 : decode cX11_cost 42 = .ok (.iload_n 2, 1) := by decide +kernel
theorem dX11_cost_43 : decode cX11_cost 43 = .ok (.invokevirtual 177, 3) := by decide +kernel
theorem dX11_cost_46 : decode cX11_cost 46 = .ok (.lreturn, 1) := by decide +kernel
theorem dX11_all_0 : decode cX11_all 0 = .ok (.aload_n 0, 1) := by decide +kernel
theorem dX11_all_1 : decode cX11_all 1 = .ok (.getfield 19, 3) := by decide +kernel
theorem dX11_all_4 : decode cX11_all 4 = .ok (.invokevirtual 148, 3) := by decide +kernel
theorem dX11_all_7 : decode cX11_all 7 = .ok (.ifCond .eq 22, 3) := by decide +kernel
theorem dX11_all_10 : decode cX11_all 10 = .ok (.iload_n 1, 1) := by decide +kernel
theorem dX11_all_11 : decode cX11_all 11 = .ok (.invokestatic 174, 3) := by decide +kernel
theorem dX11_all_14 : decode cX11_all 14 = .ok (.ifCond .eq 15, 3) := by decide +kernel
theorem dX11_all_17 : decode cX11_all 17 = .ok (.aload_n 0, 1) := by decide +kernel
theorem dX11_all_18 : decode cX11_all 18 = .ok (.aload_n 0, 1) := by decide +kernel
theorem dX11_all_19 : decode cX11_all 19 = .ok (.getfield 19, 3) := by decide +kernel
theorem dX11_all_22 : decode cX11_all 22 = .ok (.iload_n 1, 1) := by decide +kernel
theorem dX11_all_23 : decode cX11_all 23 = .ok (.invokevirtual 181, 3) := by decide +kernel
theorem dX11_all_26 : decode cX11_all 26 = .ok (.goto 6, 3) := by decide +kernel
theorem dX11_all_29 : decode cX11_all 29 = .ok (.ldc2_w 152, 3) := by decide +kernel
theorem dX11_all_32 : decode cX11_all 32 = .ok (.lreturn, 1) := by decide +kernel
theorem dX11_option_0 : decode cX11_option 0 = .ok (.aload_n 0, 1) := by decide +kernel
theorem dX11_option_1 : decode cX11_option 1 = .ok (.getfield 19, 3) := by decide +kernel
theorem dX11_option_4 : decode cX11_option 4 = .ok (.iload_n 1, 1) := by decide +kernel
theorem dX11_option_5 : decode cX11_option 5 = .ok (.invokevirtual 94, 3) := by decide +kernel
theorem dX11_option_8 : decode cX11_option 8 = .ok (.ifCond .eq 14, 3) := by decide +kernel
theorem dX11_option_11 : decode cX11_option 11 = .ok (.aload_n 0, 1) := by decide +kernel
theorem dX11_option_12 : decode cX11_option 12 = .ok (.getfield 19, 3) := by decide +kernel
theorem dX11_option_15 : decode cX11_option 15 = .ok (.iload_n 2, 1) := by decide +kernel
theorem dX11_option_16 : decode cX11_option 16 = .ok (.invokevirtual 185, 3) := by decide +kernel
theorem dX11_option_19 : decode cX11_option 19 = .ok (.ifCond .ne 6, 3) := by decide +kernel
theorem dX11_option_22 : decode cX11_option 22 = .ok (.bipush (-2), 2) := by decide +kernel
theorem dX11_option_24 : decode cX11_option 24 = .ok (.ireturn, 1) := by decide +kernel
theorem dX11_option_25 : decode cX11_option 25 = .ok (.aload_n 0, 1) := by decide +kernel
theorem dX11_option_26 : decode cX11_option 26 = .ok (.getfield 19, 3) := by decide +kernel
theorem dX11_option_29 : decode cX11_option 29 = .ok (.getfield 97, 3) := by decide +kernel
theorem dX11_option_32 : decode cX11_option 32 = .ok (.iload_n 1, 1) := by decide +kernel
theorem dX11_option_33 : decode cX11_option 33 = .ok (.invokevirtual 188, 3) := by decide +kernel
theorem dX11_option_36 : decode cX11_option 36 = .ok (.istore_n 3, 1) := by decide +kernel
theorem dX11_option_37 : decode cX11_option 37 = .ok (.aload_n 0, 1) := by decide +kernel
theorem dX11_option_38 : decode cX11_option 38 = .ok (.getfield 19, 3) := by decide +kernel
theorem dX11_option_41 : decode cX11_option 41 = .ok (.getfield 97, 3) := by decide +kernel
theorem dX11_option_44 : decode cX11_option 44 = .ok (.iload_n 1, 1) := by decide +kernel
theorem dX11_option_45 : decode cX11_option 45 = .ok (.iload_n 2, 1) := by decide +kernel
theorem dX11_option_46 : decode cX11_option 46 = .ok (.invokevirtual 191, 3) := by decide +kernel
theorem dX11_option_49 : decode cX11_option 49 = .ok (.iload_n 3, 1) := by decide +kernel
theorem dX11_option_50 : decode cX11_option 50 = .ok (.ireturn, 1) := by decide +kernel
theorem dX11_would_0 : decode cX11_would 0 = .ok (.aload_n 0, 1) := by decide +kernel
theorem dX11_would_1 : decode cX11_would 1 = .ok (.getfield 19, 3) := by decide +kernel
theorem dX11_would_4 : decode cX11_would 4 = .ok (.iload_n 1, 1) := by decide +kernel
theorem dX11_would_5 : decode cX11_would 5 = .ok (.invokevirtual 94, 3) := by decide +kernel
theorem dX11_would_8 : decode cX11_would 8 = .ok (.ifCond .eq 14, 3) := by decide +kernel
theorem dX11_would_11 : decode cX11_would 11 = .ok (.aload_n 0, 1) := by decide +kernel
theorem dX11_would_12 : decode cX11_would 12 = .ok (.getfield 19, 3) := by decide +kernel
theorem dX11_would_15 : decode cX11_would 15 = .ok (.iload_n 2, 1) := by decide +kernel
theorem dX11_would_16 : decode cX11_would 16 = .ok (.invokevirtual 185, 3) := by decide +kernel
theorem dX11_would_19 : decode cX11_would 19 = .ok (.ifCond .ne 7, 3) := by decide +kernel
theorem dX11_would_22 : decode cX11_would 22 = .ok (.ldc2_w 152, 3) := by decide +kernel
theorem dX11_would_25 : decode cX11_would 25 = .ok (.lreturn, 1) := by decide +kernel
theorem dX11_would_26 : decode cX11_would 26 = .ok (.aload_n 0, 1) := by decide +kernel
theorem dX11_would_27 : decode cX11_would 27 = .ok (.getfield 23, 3) := by decide +kernel
theorem dX11_would_30 : decode cX11_would 30 = .ok (.aload_n 0, 1) := by decide +kernel
theorem dX11_would_31 : decode cX11_would 31 = .ok (.getfield 19, 3) := by decide +kernel
theorem dX11_would_34 : decode cX11_would 34 = .ok (.invokevirtual 73, 3) := by decide +kernel
theorem dX11_would_37 : decode cX11_would 37 = .ok (.aload_n 0, 1) := by decide +kernel
theorem dX11_would_38 : decode cX11_would 38 = .ok (.getfield 23, 3) := by decide +kernel
theorem dX11_would_41 : decode cX11_would 41 = .ok (.getfield 97, 3) := by decide +kernel
theorem dX11_would_44 : decode cX11_would 44 = .ok (.iload_n 1, 1) := by decide +kernel
theorem dX11_would_45 : decode cX11_would 45 = .ok (.iload_n 2, 1) := by decide +kernel
theorem dX11_would_46 : decode cX11_would 46 = .ok (.invokevirtual 191, 3) := by decide +kernel
theorem dX11_would_49 : decode cX11_would 49 = .ok (.aload_n 0, 1) := by decide +kernel
theorem dX11_would_50 : decode cX11_would 50 = .ok (.aload_n 0, 1) := by decide +kernel
theorem dX11_would_51 : decode cX11_would 51 = .ok (.getfield 23, 3) := by decide +kernel
theorem dX11_would_54 : decode cX11_would 54 = .ok (.iload_n 1, 1) := by decide +kernel
theorem dX11_would_55 : decode cX11_would 55 = .ok (.invokevirtual 195, 3) := by decide +kernel
theorem dX11_would_58 : decode cX11_would 58 = .ok (.lreturn, 1) := by decide +kernel
theorem dX11_best_0 : decode cX11_best 0 = .ok (.aload_n 0, 1) := by decide +kernel
theorem dX11_best_1 : decode cX11_best 1 = .ok (.getfield 19, 3) := by decide +kernel
theorem dX11_best_4 : decode cX11_best 4 = .ok (.iload_n 1, 1) := by decide +kernel
theorem dX11_best_5 : decode cX11_best 5 = .ok (.invokevirtual 94, 3) := by decide +kernel
theorem dX11_best_8 : decode cX11_best 8 = .ok (.ifCond .ne 6, 3) := by decide +kernel
theorem dX11_best_11 : decode cX11_best 11 = .ok (.bipush (-2), 2) := by decide +kernel
theorem dX11_best_13 : decode cX11_best 13 = .ok (.ireturn, 1) := by decide +kernel
theorem dX11_best_14 : decode cX11_best 14 = .ok (.aload_n 0, 1) := by decide +kernel
theorem dX11_best_15 : decode cX11_best 15 = .ok (.getfield 23, 3) := by decide +kernel
theorem dX11_best_18 : decode cX11_best 18 = .ok (.aload_n 0, 1) := by decide +kernel
theorem dX11_best_19 : decode cX11_best 19 = .ok (.getfield 19, 3) := by decide +kernel
theorem dX11_best_22 : decode cX11_best 22 = .ok (.invokevirtual 73, 3) := by decide +kernel
theorem dX11_best_25 : decode cX11_best 25 = .ok (.aload_n 0, 1) := by decide +kernel
theorem dX11_best_26 : decode cX11_best 26 = .ok (.aload_n 0, 1) := by decide +kernel
theorem dX11_best_27 : decode cX11_best 27 = .ok (.getfield 23, 3) := by decide +kernel
theorem dX11_best_30 : decode cX11_best 30 = .ok (.iload_n 1, 1) := by decide +kernel
theorem dX11_best_31 : decode cX11_best 31 = .ok (.iconst 0, 1) := by decide +kernel
theorem dX11_best_32 : decode cX11_best 32 = .ok (.invokevirtual 198, 3) := by decide +kernel
theorem dX11_best_35 : decode cX11_best 35 = .ok (.ireturn, 1) := by decide +kernel
theorem dX11_restless_0 : decode cX11_restless 0 = .ok (.aload_n 0, 1) := by decide +kernel
theorem dX11_restless_1 : decode cX11_restless 1 = .ok (.getfield 19, 3) := by decide +kernel
theorem dX11_restless_4 : decode cX11_restless 4 = .ok (.invokevirtual 148, 3) := by decide +kernel
theorem dX11_restless_7 : decode cX11_restless 7 = .ok (.ifCond .ne 6, 3) := by decide +kernel
theorem dX11_restless_10 : decode cX11_restless 10 = .ok (.bipush (-2), 2) := by decide +kernel
theorem dX11_restless_12 : decode cX11_restless 12 = .ok (.ireturn, 1) := by decide +kernel
theorem dX11_restless_13 : decode cX11_restless 13 = .ok (.aload_n 0, 1) := by decide +kernel
theorem dX11_restless_14 : decode cX11_restless 14 = .ok (.getfield 23, 3) := by decide +kernel
theorem dX11_restless_17 : decode cX11_restless 17 = .ok (.aload_n 0, 1) := by decide +kernel
theorem dX11_restless_18 : decode cX11_restless 18 = .ok (.getfield 19, 3) := by decide +kernel
theorem dX11_restless_21 : decode cX11_restless 21 = .ok (.invokevirtual 73, 3) := by decide +kernel
theorem dX11_restless_24 : decode cX11_restless 24 = .ok (.iconst 0, 1) := by decide +kernel
theorem dX11_restless_25 : decode cX11_restless 25 = .ok (.istore_n 1, 1) := by decide +kernel
theorem dX11_restless_26 : decode cX11_restless 26 = .ok (.iconst 0, 1) := by decide +kernel
theorem dX11_restless_27 : decode cX11_restless 27 = .ok (.istore_n 2, 1) := by decide +kernel
theorem dX11_restless_28 : decode cX11_restless 28 = .ok (.iload_n 2, 1) := by decide +kernel
theorem dX11_restless_29 : decode cX11_restless 29 = .ok (.aload_n 0, 1) := by decide +kernel
theorem dX11_restless_30 : decode cX11_restless 30 = .ok (.getfield 19, 3) := by decide +kernel
theorem dX11_restless_33 : decode cX11_restless 33 = .ok (.getfield 97, 3) := by decide +kernel
theorem dX11_restless_36 : decode cX11_restless 36 = .ok (.getfield 161, 3) := by decide +kernel
theorem dX11_restless_39 : decode cX11_restless 39 = .ok (.if_icmp .ge 36, 3) := by decide +kernel
theorem dX11_restless_42 : decode cX11_restless 42 = .ok (.aload_n 0, 1) := by decide +kernel
theorem dX11_restless_43 : decode cX11_restless 43 = .ok (.aload_n 0, 1) := by decide +kernel
theorem dX11_restless_44 : decode cX11_restless 44 = .ok (.getfield 23, 3) := by decide +kernel
theorem dX11_restless_47 : decode cX11_restless 47 = .ok (.iload_n 2, 1) := by decide +kernel
theorem dX11_restless_48 : decode cX11_restless 48 = .ok (.iconst 1, 1) := by decide +kernel
theorem dX11_restless_49 : decode cX11_restless 49 = .ok (.invokevirtual 198, 3) := by decide +kernel
theorem dX11_restless_52 : decode cX11_restless 52 = .ok (.aload_n 0, 1) := by decide +kernel
theorem dX11_restless_53 : decode cX11_restless 53 = .ok (.getfield 23, 3) := by decide +kernel
theorem dX11_restless_56 : decode cX11_restless 56 = .ok (.getfield 97, 3) := by decide +kernel
theorem dX11_restless_59 : decode cX11_restless 59 = .ok (.iload_n 2, 1) := by decide +kernel
theorem dX11_restless_60 : decode cX11_restless 60 = .ok (.invokevirtual 188, 3) := by decide +kernel
theorem dX11_restless_63 : decode cX11_restless 63 = .ok (.if_icmp .eq 6, 3) := by decide +kernel
theorem dX11_restless_66 : decode cX11_restless 66 = .ok (.iinc 1 1, 3) := by decide +kernel
theorem dX11_restless_69 : decode cX11_restless 69 = .ok (.iinc 2 1, 3) := by decide +kernel
theorem dX11_restless_72 : decode cX11_restless 72 = .ok (.goto (-44), 3) := by decide +kernel
theorem dX11_restless_75 : decode cX11_restless 75 = .ok (.iload_n 1, 1) := by decide +kernel
theorem dX11_restless_76 : decode cX11_restless 76 = .ok (.ireturn, 1) := by decide +kernel
theorem dX11_settle_0 : decode cX11_settle 0 = .ok (.aload_n 0, 1) := by decide +kernel
theorem dX11_settle_1 : decode cX11_settle 1 = .ok (.getfield 19, 3) := by decide +kernel
theorem dX11_settle_4 : decode cX11_settle 4 = .ok (.invokevirtual 148, 3) := by decide +kernel
theorem dX11_settle_7 : decode cX11_settle 7 = .ok (.ifCond .eq 13, 3) := by decide +kernel
theorem dX11_settle_10 : decode cX11_settle 10 = .ok (.iload_n 1, 1) := by decide +kernel
theorem dX11_settle_11 : decode cX11_settle 11 = .ok (.ifCond .lt 9, 3) := by decide +kernel
theorem dX11_settle_14 : decode cX11_settle 14 = .ok (.iload_n 1, 1) := by decide +kernel
theorem dX11_settle_15 : decode cX11_settle 15 = .ok (.bipush 30, 2) := by decide +kernel
theorem dX11_settle_17 : decode cX11_settle 17 = .ok (.if_icmp .le 6, 3) := by decide +kernel
theorem dX11_settle_20 : decode cX11_settle 20 = .ok (.bipush (-2), 2) := by decide +kernel
theorem dX11_settle_22 : decode cX11_settle 22 = .ok (.ireturn, 1) := by decide +kernel
theorem dX11_settle_23 : decode cX11_settle 23 = .ok (.iload_n 1, 1) := by decide +kernel
theorem dX11_settle_24 : decode cX11_settle 24 = .ok (.aload_n 0, 1) := by decide +kernel
theorem dX11_settle_25 : decode cX11_settle 25 = .ok (.aload_n 0, 1) := by decide +kernel
theorem dX11_settle_26 : decode cX11_settle 26 = .ok (.getfield 19, 3) := by decide +kernel
theorem dX11_settle_29 : decode cX11_settle 29 = .ok (.iload_n 1, 1) := by decide +kernel
theorem dX11_settle_30 : decode cX11_settle 30 = .ok (.invokevirtual 202, 3) := by decide +kernel
theorem dX11_settle_33 : decode cX11_settle 33 = .ok (.invokestatic 205, 3) := by decide +kernel
theorem dX11_settle_36 : decode cX11_settle 36 = .ok (.ireturn, 1) := by decide +kernel
theorem dX11_settles_0 : decode cX11_settles 0 = .ok (.aload_n 0, 1) := by decide +kernel
theorem dX11_settles_1 : decode cX11_settles 1 = .ok (.getfield 19, 3) := by decide +kernel
theorem dX11_settles_4 : decode cX11_settles 4 = .ok (.invokevirtual 148, 3) := by decide +kernel
theorem dX11_settles_7 : decode cX11_settles 7 = .ok (.ifCond .ne 6, 3) := by decide +kernel
theorem dX11_settles_10 : decode cX11_settles 10 = .ok (.bipush (-2), 2) := by decide +kernel
theorem dX11_settles_12 : decode cX11_settles 12 = .ok (.ireturn, 1) := by decide +kernel
theorem dX11_settles_13 : decode cX11_settles 13 = .ok (.aload_n 0, 1) := by decide +kernel
theorem dX11_settles_14 : decode cX11_settles 14 = .ok (.getfield 23, 3) := by decide +kernel
theorem dX11_settles_17 : decode cX11_settles 17 = .ok (.aload_n 0, 1) := by decide +kernel
theorem dX11_settles_18 : decode cX11_settles 18 = .ok (.getfield 19, 3) := by decide +kernel
theorem dX11_settles_21 : decode cX11_settles 21 = .ok (.invokevirtual 73, 3) := by decide +kernel
theorem dX11_settles_24 : decode cX11_settles 24 = .ok (.aload_n 0, 1) := by decide +kernel
theorem dX11_settles_25 : decode cX11_settles 25 = .ok (.aload_n 0, 1) := by decide +kernel
theorem dX11_settles_26 : decode cX11_settles 26 = .ok (.getfield 23, 3) := by decide +kernel
theorem dX11_settles_29 : decode cX11_settles 29 = .ok (.bipush 30, 2) := by decide +kernel
theorem dX11_settles_31 : decode cX11_settles 31 = .ok (.invokevirtual 202, 3) := by decide +kernel
theorem dX11_settles_34 : decode cX11_settles 34 = .ok (.istore_n 1, 1) := by decide +kernel
theorem dX11_settles_35 : decode cX11_settles 35 = .ok (.iload_n 1, 1) := by decide +kernel
theorem dX11_settles_36 : decode cX11_settles 36 = .ok (.bipush 30, 2) := by decide +kernel
theorem dX11_settles_38 : decode cX11_settles 38 = .ok (.if_icmp .le 7, 3) := by decide +kernel
theorem dX11_settles_41 : decode cX11_settles 41 = .ok (.iconst (-1), 1) := by decide +kernel
theorem dX11_settles_42 : decode cX11_settles 42 = .ok (.goto 4, 3) := by decide +kernel
theorem dX11_settles_45 : decode cX11_settles 45 = .ok (.iload_n 1, 1) := by decide +kernel
theorem dX11_settles_46 : decode cX11_settles 46 = .ok (.ireturn, 1) := by decide +kernel
theorem dX11_settled_0 : decode cX11_settled 0 = .ok (.aload_n 0, 1) := by decide +kernel
theorem dX11_settled_1 : decode cX11_settled 1 = .ok (.getfield 19, 3) := by decide +kernel
theorem dX11_settled_4 : decode cX11_settled 4 = .ok (.invokevirtual 148, 3) := by decide +kernel
theorem dX11_settled_7 : decode cX11_settled 7 = .ok (.ifCond .ne 7, 3) := by decide +kernel
theorem dX11_settled_10 : decode cX11_settled 10 = .ok (.ldc2_w 152, 3) := by decide +kernel
theorem dX11_settled_13 : decode cX11_settled 13 = .ok (.lreturn, 1) := by decide +kernel
theorem dX11_settled_14 : decode cX11_settled 14 = .ok (.aload_n 0, 1) := by decide +kernel
theorem dX11_settled_15 : decode cX11_settled 15 = .ok (.getfield 23, 3) := by decide +kernel
theorem dX11_settled_18 : decode cX11_settled 18 = .ok (.aload_n 0, 1) := by decide +kernel
theorem dX11_settled_19 : decode cX11_settled 19 = .ok (.getfield 19, 3) := by decide +kernel
theorem dX11_settled_22 : decode cX11_settled 22 = .ok (.invokevirtual 73, 3) := by decide +kernel
theorem dX11_settled_25 : decode cX11_settled 25 = .ok (.aload_n 0, 1) := by decide +kernel
theorem dX11_settled_26 : decode cX11_settled 26 = .ok (.aload_n 0, 1) := by decide +kernel
theorem dX11_settled_27 : decode cX11_settled 27 = .ok (.getfield 23, 3) := by decide +kernel
theorem dX11_settled_30 : decode cX11_settled 30 = .ok (.bipush 30, 2) := by decide +kernel
theorem dX11_settled_32 : decode cX11_settled 32 = .ok (.invokevirtual 202, 3) := by decide +kernel
theorem dX11_settled_35 : decode cX11_settled 35 = .ok (.istore_n 1, 1) := by decide +kernel
theorem dX11_settled_36 : decode cX11_settled 36 = .ok (.iload_n 1, 1) := by decide +kernel
theorem dX11_settled_37 : decode cX11_settled 37 = .ok (.bipush 30, 2) := by decide +kernel
theorem dX11_settled_39 : decode cX11_settled 39 = .ok (.if_icmp .le 9, 3) := by decide +kernel
theorem dX11_settled_42 : decode cX11_settled 42 = .ok (.ldc2_w 210, 3) := by decide +kernel
theorem dX11_settled_45 : decode cX11_settled 45 = .ok (.goto 12, 3) := by decide +kernel
theorem dX11_settled_48 : decode cX11_settled 48 = .ok (.aload_n 0, 1) := by decide +kernel
theorem dX11_settled_49 : decode cX11_settled 49 = .ok (.aload_n 0, 1) := by decide +kernel
theorem dX11_settled_50 : decode cX11_settled 50 = .ok (.getfield 23, 3) := by decide +kernel
theorem dX11_settled_53 : decode cX11_settled 53 = .ok (.iconst 2, 1) := by decide +kernel
theorem dX11_settled_54 : decode cX11_settled 54 = .ok (.invokevirtual 181, 3) := by decide +kernel
theorem dX11_settled_57 : decode cX11_settled 57 = .ok (.lreturn, 1) := by decide +kernel
theorem dX11_better_0 : decode cX11_better 0 = .ok (.aload_n 0, 1) := by decide +kernel
theorem dX11_better_1 : decode cX11_better 1 = .ok (.getfield 19, 3) := by decide +kernel
theorem dX11_better_4 : decode cX11_better 4 = .ok (.invokevirtual 148, 3) := by decide +kernel
theorem dX11_better_7 : decode cX11_better 7 = .ok (.ifCond .eq 13, 3) := by decide +kernel
theorem dX11_better_10 : decode cX11_better 10 = .ok (.iload_n 1, 1) := by decide +kernel
theorem dX11_better_11 : decode cX11_better 11 = .ok (.ifCond .lt 9, 3) := by decide +kernel
theorem dX11_better_14 : decode cX11_better 14 = .ok (.iload_n 1, 1) := by decide +kernel
theorem dX11_better_15 : decode cX11_better 15 = .ok (.bipush 60, 2) := by decide +kernel
theorem dX11_better_17 : decode cX11_better 17 = .ok (.if_icmp .le 6, 3) := by decide +kernel
theorem dX11_better_20 : decode cX11_better 20 = .ok (.bipush (-2), 2) := by decide +kernel
theorem dX11_better_22 : decode cX11_better 22 = .ok (.ireturn, 1) := by decide +kernel
theorem dX11_better_23 : decode cX11_better 23 = .ok (.aload_n 0, 1) := by decide +kernel
theorem dX11_better_24 : decode cX11_better 24 = .ok (.aload_n 0, 1) := by decide +kernel
theorem dX11_better_25 : decode cX11_better 25 = .ok (.getfield 19, 3) := by decide +kernel
theorem dX11_better_28 : decode cX11_better 28 = .ok (.iload_n 1, 1) := by decide +kernel
theorem dX11_better_29 : decode cX11_better 29 = .ok (.invokevirtual 212, 3) := by decide +kernel
theorem dX11_better_32 : decode cX11_better 32 = .ok (.ireturn, 1) := by decide +kernel
theorem dX11_good_0 : decode cX11_good 0 = .ok (.aload_n 0, 1) := by decide +kernel
theorem dX11_good_1 : decode cX11_good 1 = .ok (.getfield 19, 3) := by decide +kernel
theorem dX11_good_4 : decode cX11_good 4 = .ok (.invokevirtual 148, 3) := by decide +kernel
theorem dX11_good_7 : decode cX11_good 7 = .ok (.ifCond .ne 7, 3) := by decide +kernel
theorem dX11_good_10 : decode cX11_good 10 = .ok (.ldc2_w 152, 3) := by decide +kernel
theorem dX11_good_13 : decode cX11_good 13 = .ok (.lreturn, 1) := by decide +kernel
theorem dX11_good_14 : decode cX11_good 14 = .ok (.aload_n 0, 1) := by decide +kernel
theorem dX11_good_15 : decode cX11_good 15 = .ok (.getfield 23, 3) := by decide +kernel
theorem dX11_good_18 : decode cX11_good 18 = .ok (.aload_n 0, 1) := by decide +kernel
theorem dX11_good_19 : decode cX11_good 19 = .ok (.getfield 19, 3) := by decide +kernel
theorem dX11_good_22 : decode cX11_good 22 = .ok (.invokevirtual 73, 3) := by decide +kernel
theorem dX11_good_25 : decode cX11_good 25 = .ok (.aload_n 0, 1) := by decide +kernel
theorem dX11_good_26 : decode cX11_good 26 = .ok (.aload_n 0, 1) := by decide +kernel
theorem dX11_good_27 : decode cX11_good 27 = .ok (.getfield 23, 3) := by decide +kernel
theorem dX11_good_30 : decode cX11_good 30 = .ok (.bipush 60, 2) := by decide +kernel
theorem dX11_good_32 : decode cX11_good 32 = .ok (.invokevirtual 212, 3) := by decide +kernel
theorem dX11_good_35 : decode cX11_good 35 = .ok (.pop, 1) := by decide +kernel
theorem dX11_good_36 : decode cX11_good 36 = .ok (.aload_n 0, 1) := by decide +kernel
theorem dX11_good_37 : decode cX11_good 37 = .ok (.aload_n 0, 1) := by decide +kernel
theorem dX11_good_38 : decode cX11_good 38 = .ok (.getfield 23, 3) := by decide +kernel
theorem dX11_good_41 : decode cX11_good 41 = .ok (.iconst 2, 1) := by decide +kernel
theorem dX11_good_42 : decode cX11_good 42 = .ok (.invokevirtual 181, 3) := by decide +kernel
theorem dX11_good_45 : decode cX11_good 45 = .ok (.lreturn, 1) := by decide +kernel
theorem dX11_pair_0 : decode cX11_pair 0 = .ok (.aload_n 0, 1) := by decide +kernel
theorem dX11_pair_1 : decode cX11_pair 1 = .ok (.iload_n 1, 1) := by decide +kernel
theorem dX11_pair_2 : decode cX11_pair 2 = .ok (.iload_n 2, 1) := by decide +kernel
theorem dX11_pair_3 : decode cX11_pair 3 = .ok (.invokevirtual 215, 3) := by decide +kernel
theorem dX11_pair_6 : decode cX11_pair 6 = .ok (.ifCond .ne 6, 3) := by decide +kernel
theorem dX11_pair_9 : decode cX11_pair 9 = .ok (.bipush (-2), 2) := by decide +kernel
theorem dX11_pair_11 : decode cX11_pair 11 = .ok (.ireturn, 1) := by decide +kernel
theorem dX11_pair_12 : decode cX11_pair 12 = .ok (.aload_n 0, 1) := by decide +kernel
theorem dX11_pair_13 : decode cX11_pair 13 = .ok (.getfield 23, 3) := by decide +kernel
theorem dX11_pair_16 : decode cX11_pair 16 = .ok (.aload_n 0, 1) := by decide +kernel
theorem dX11_pair_17 : decode cX11_pair 17 = .ok (.getfield 19, 3) := by decide +kernel
theorem dX11_pair_20 : decode cX11_pair 20 = .ok (.invokevirtual 73, 3) := by decide +kernel
theorem dX11_pair_23 : decode cX11_pair 23 = .ok (.aload_n 0, 1) := by decide +kernel
theorem dX11_pair_24 : decode cX11_pair 24 = .ok (.getfield 23, 3) := by decide +kernel
theorem dX11_pair_27 : decode cX11_pair 27 = .ok (.invokevirtual 219, 3) := by decide +kernel
theorem dX11_pair_30 : decode cX11_pair 30 = .ok (.istore_n 3, 1) := by decide +kernel
theorem dX11_pair_31 : decode cX11_pair 31 = .ok (.iconst 0, 1) := by decide +kernel
theorem dX11_pair_32 : decode cX11_pair 32 = .ok (.istore 4, 2) := by decide +kernel
theorem dX11_pair_34 : decode cX11_pair 34 = .ok (.ldc2_w 222, 3) := by decide +kernel
theorem dX11_pair_37 : decode cX11_pair 37 = .ok (.lstore 5, 2) := by decide +kernel
theorem dX11_pair_39 : decode cX11_pair 39 = .ok (.iconst 0, 1) := by decide +kernel
theorem dX11_pair_40 : decode cX11_pair 40 = .ok (.istore 7, 2) := by decide +kernel
theorem dX11_pair_42 : decode cX11_pair 42 = .ok (.iload 7, 2) := by decide +kernel
theorem dX11_pair_44 : decode cX11_pair 44 = .ok (.iload_n 3, 1) := by decide +kernel
theorem dX11_pair_45 : decode cX11_pair 45 = .ok (.if_icmp .ge 112, 3) := by decide +kernel
theorem dX11_pair_48 : decode cX11_pair 48 = .ok (.aload_n 0, 1) := by decide +kernel
theorem dX11_pair_49 : decode cX11_pair 49 = .ok (.getfield 23, 3) := by decide +kernel
theorem dX11_pair_52 : decode cX11_pair 52 = .ok (.getfield 97, 3) := by decide +kernel
theorem dX11_pair_55 : decode cX11_pair 55 = .ok (.iload_n 1, 1) := by decide +kernel
theorem dX11_pair_56 : decode cX11_pair 56 = .ok (.iload 7, 2) := by decide +kernel
theorem dX11_pair_58 : decode cX11_pair 58 = .ok (.invokevirtual 191, 3) := by decide +kernel
theorem dX11_pair_61 : decode cX11_pair 61 = .ok (.iconst 0, 1) := by decide +kernel
theorem dX11_pair_62 : decode cX11_pair 62 = .ok (.istore 8, 2) := by decide +kernel
theorem dX11_pair_64 : decode cX11_pair 64 = .ok (.iload 8, 2) := by decide +kernel
theorem dX11_pair_66 : decode cX11_pair 66 = .ok (.iload_n 3, 1) := by decide +kernel
theorem dX11_pair_67 : decode cX11_pair 67 = .ok (.if_icmp .ge 84, 3) := by decide +kernel
theorem dX11_pair_70 : decode cX11_pair 70 = .ok (.aload_n 0, 1) := by decide +kernel
theorem dX11_pair_71 : decode cX11_pair 71 = .ok (.getfield 23, 3) := by decide +kernel
theorem dX11_pair_74 : decode cX11_pair 74 = .ok (.getfield 97, 3) := by decide +kernel
theorem dX11_pair_77 : decode cX11_pair 77 = .ok (.iload_n 2, 1) := by decide +kernel
theorem dX11_pair_78 : decode cX11_pair 78 = .ok (.iload 8, 2) := by decide +kernel
theorem dX11_pair_80 : decode cX11_pair 80 = .ok (.invokevirtual 191, 3) := by decide +kernel
theorem dX11_pair_83 : decode cX11_pair 83 = .ok (.aload_n 0, 1) := by decide +kernel
theorem dX11_pair_84 : decode cX11_pair 84 = .ok (.getfield 40, 3) := by decide +kernel
theorem dX11_pair_87 : decode cX11_pair 87 = .ok (.aload_n 0, 1) := by decide +kernel
theorem dX11_pair_88 : decode cX11_pair 88 = .ok (.getfield 23, 3) := by decide +kernel
theorem dX11_pair_91 : decode cX11_pair 91 = .ok (.invokevirtual 154, 3) := by decide +kernel
theorem dX11_pair_94 : decode cX11_pair 94 = .ok (.aload_n 0, 1) := by decide +kernel
theorem dX11_pair_95 : decode cX11_pair 95 = .ok (.getfield 40, 3) := by decide +kernel
theorem dX11_pair_98 : decode cX11_pair 98 = .ok (.aload_n 0, 1) := by decide +kernel
theorem dX11_pair_99 : decode cX11_pair 99 = .ok (.getfield 23, 3) := by decide +kernel
theorem dX11_pair_102 : decode cX11_pair 102 = .ok (.iload_n 1, 1) := by decide +kernel
theorem dX11_pair_103 : decode cX11_pair 103 = .ok (.iconst 2, 1) := by decide +kernel
theorem dX11_pair_104 : decode cX11_pair 104 = .ok (.invokevirtual 177, 3) := by decide +kernel
theorem dX11_pair_107 : decode cX11_pair 107 = .ok (.aload_n 0, 1) := by decide +kernel
theorem dX11_pair_108 : decode cX11_pair 108 = .ok (.getfield 40, 3) := by decide +kernel
theorem dX11_pair_111 : decode cX11_pair 111 = .ok (.aload_n 0, 1) := by decide +kernel
theorem dX11_pair_112 : decode cX11_pair 112 = .ok (.getfield 23, 3) := by decide +kernel
theorem dX11_pair_115 : decode cX11_pair 115 = .ok (.iload_n 2, 1) := by decide +kernel
theorem dX11_pair_116 : decode cX11_pair 116 = .ok (.iconst 2, 1) := by decide +kernel
theorem dX11_pair_117 : decode cX11_pair 117 = .ok (.invokevirtual 177, 3) := by decide +kernel
theorem dX11_pair_120 : decode cX11_pair 120 = .ok (.ladd, 1) := by decide +kernel
theorem dX11_pair_121 : decode cX11_pair 121 = .ok (.lstore 9, 2) := by decide +kernel
theorem dX11_pair_123 : decode cX11_pair 123 = .ok (.lload 9, 2) := by decide +kernel
theorem dX11_pair_125 : decode cX11_pair 125 = .ok (.lload 5, 2) := by decide +kernel
theorem dX11_pair_127 : decode cX11_pair 127 = .ok (.lcmp, 1) := by decide +kernel
theorem dX11_pair_128 : decode cX11_pair 128 = .ok (.ifCond .ge 17, 3) := by decide +kernel
theorem dX11_pair_131 : decode cX11_pair 131 = .ok (.lload 9, 2) := by decide +kernel
theorem dX11_pair_133 : decode cX11_pair 133 = .ok (.lstore 5, 2) := by decide +kernel
theorem dX11_pair_135 : decode cX11_pair 135 = .ok (.bipush 100, 2) := by decide +kernel
theorem dX11_pair_137 : decode cX11_pair 137 = .ok (.iload 7, 2) := by decide +kernel
theorem dX11_pair_139 : decode cX11_pair 139 = .ok (.imul, 1) := by decide +kernel
theorem dX11_pair_140 : decode cX11_pair 140 = .ok (.iload 8, 2) := by decide +kernel
theorem dX11_pair_142 : decode cX11_pair 142 = .ok (.iadd, 1) := by decide +kernel
theorem dX11_pair_143 : decode cX11_pair 143 = .ok (.istore 4, 2) := by decide +kernel
theorem dX11_pair_145 : decode cX11_pair 145 = .ok (.iinc 8 1, 3) := by decide +kernel
theorem dX11_pair_148 : decode cX11_pair 148 = .ok (.goto (-84), 3) := by decide +kernel
theorem dX11_pair_151 : decode cX11_pair 151 = .ok (.iinc 7 1, 3) := by decide +kernel
theorem dX11_pair_154 : decode cX11_pair 154 = .ok (.goto (-112), 3) := by decide +kernel
theorem dX11_pair_157 : decode cX11_pair 157 = .ok (.iload 4, 2) := by decide +kernel
theorem dX11_pair_159 : decode cX11_pair 159 = .ok (.ireturn, 1) := by decide +kernel
theorem dX11_wasted_0 : decode cX11_wasted 0 = .ok (.aload_n 0, 1) := by decide +kernel
theorem dX11_wasted_1 : decode cX11_wasted 1 = .ok (.getfield 19, 3) := by decide +kernel
theorem dX11_wasted_4 : decode cX11_wasted 4 = .ok (.invokevirtual 148, 3) := by decide +kernel
theorem dX11_wasted_7 : decode cX11_wasted 7 = .ok (.ifCond .ne 7, 3) := by decide +kernel
theorem dX11_wasted_10 : decode cX11_wasted 10 = .ok (.ldc2_w 224, 3) := by decide +kernel
theorem dX11_wasted_13 : decode cX11_wasted 13 = .ok (.lreturn, 1) := by decide +kernel
theorem dX11_wasted_14 : decode cX11_wasted 14 = .ok (.aload_n 0, 1) := by decide +kernel
theorem dX11_wasted_15 : decode cX11_wasted 15 = .ok (.getfield 23, 3) := by decide +kernel
theorem dX11_wasted_18 : decode cX11_wasted 18 = .ok (.aload_n 0, 1) := by decide +kernel
theorem dX11_wasted_19 : decode cX11_wasted 19 = .ok (.getfield 19, 3) := by decide +kernel
theorem dX11_wasted_22 : decode cX11_wasted 22 = .ok (.invokevirtual 73, 3) := by decide +kernel
theorem dX11_wasted_25 : decode cX11_wasted 25 = .ok (.iconst 0, 1) := by decide +kernel
theorem dX11_wasted_26 : decode cX11_wasted 26 = .ok (.istore_n 1, 1) := by decide +kernel
theorem dX11_wasted_27 : decode cX11_wasted 27 = .ok (.iload_n 1, 1) := by decide +kernel
theorem dX11_wasted_28 : decode cX11_wasted 28 = .ok (.aload_n 0, 1) := by decide +kernel
theorem dX11_wasted_29 : decode cX11_wasted 29 = .ok (.getfield 23, 3) := by decide +kernel
theorem dX11_wasted_32 : decode cX11_wasted 32 = .ok (.getfield 97, 3) := by decide +kernel
theorem dX11_wasted_35 : decode cX11_wasted 35 = .ok (.getfield 161, 3) := by decide +kernel
theorem dX11_wasted_38 : decode cX11_wasted 38 = .ok (.if_icmp .ge 21, 3) := by decide +kernel
theorem dX11_wasted_41 : decode cX11_wasted 41 = .ok (.aload_n 0, 1) := by decide +kernel
theorem dX11_wasted_42 : decode cX11_wasted 42 = .ok (.getfield 23, 3) := by decide +kernel
theorem dX11_wasted_45 : decode cX11_wasted 45 = .ok (.getfield 97, 3) := by decide +kernel
theorem dX11_wasted_48 : decode cX11_wasted 48 = .ok (.iload_n 1, 1) := by decide +kernel
theorem dX11_wasted_49 : decode cX11_wasted 49 = .ok (.iconst 0, 1) := by decide +kernel
theorem dX11_wasted_50 : decode cX11_wasted 50 = .ok (.invokevirtual 191, 3) := by decide +kernel
theorem dX11_wasted_53 : decode cX11_wasted 53 = .ok (.iinc 1 1, 3) := by decide +kernel
theorem dX11_wasted_56 : decode cX11_wasted 56 = .ok (.goto (-29), 3) := by decide +kernel
theorem dX11_wasted_59 : decode cX11_wasted 59 = .ok (.aload_n 0, 1) := by decide +kernel
theorem dX11_wasted_60 : decode cX11_wasted 60 = .ok (.aload_n 0, 1) := by decide +kernel
theorem dX11_wasted_61 : decode cX11_wasted 61 = .ok (.getfield 19, 3) := by decide +kernel
theorem dX11_wasted_64 : decode cX11_wasted 64 = .ok (.iconst 2, 1) := by decide +kernel
theorem dX11_wasted_65 : decode cX11_wasted 65 = .ok (.invokevirtual 181, 3) := by decide +kernel
theorem dX11_wasted_68 : decode cX11_wasted 68 = .ok (.aload_n 0, 1) := by decide +kernel
theorem dX11_wasted_69 : decode cX11_wasted 69 = .ok (.aload_n 0, 1) := by decide +kernel
theorem dX11_wasted_70 : decode cX11_wasted 70 = .ok (.getfield 23, 3) := by decide +kernel
theorem dX11_wasted_73 : decode cX11_wasted 73 = .ok (.iconst 2, 1) := by decide +kernel
theorem dX11_wasted_74 : decode cX11_wasted 74 = .ok (.invokevirtual 181, 3) := by decide +kernel
theorem dX11_wasted_77 : decode cX11_wasted 77 = .ok (.lsub, 1) := by decide +kernel
theorem dX11_wasted_78 : decode cX11_wasted 78 = .ok (.lreturn, 1) := by decide +kernel
theorem dX11_beside_0 : decode cX11_beside 0 = .ok (.aload_n 0, 1) := by decide +kernel
theorem dX11_beside_1 : decode cX11_beside 1 = .ok (.iload_n 1, 1) := by decide +kernel
theorem dX11_beside_2 : decode cX11_beside 2 = .ok (.iload_n 3, 1) := by decide +kernel
theorem dX11_beside_3 : decode cX11_beside 3 = .ok (.invokevirtual 215, 3) := by decide +kernel
theorem dX11_beside_6 : decode cX11_beside 6 = .ok (.ifCond .eq 14, 3) := by decide +kernel
theorem dX11_beside_9 : decode cX11_beside 9 = .ok (.aload_n 0, 1) := by decide +kernel
theorem dX11_beside_10 : decode cX11_beside 10 = .ok (.getfield 19, 3) := by decide +kernel
theorem dX11_beside_13 : decode cX11_beside 13 = .ok (.iload_n 2, 1) := by decide +kernel
theorem dX11_beside_14 : decode cX11_beside 14 = .ok (.invokevirtual 185, 3) := by decide +kernel
theorem dX11_beside_17 : decode cX11_beside 17 = .ok (.ifCond .ne 7, 3) := by decide +kernel
theorem dX11_beside_20 : decode cX11_beside 20 = .ok (.ldc2_w 224, 3) := by decide +kernel
theorem dX11_beside_23 : decode cX11_beside 23 = .ok (.lreturn, 1) := by decide +kernel
theorem dX11_beside_24 : decode cX11_beside 24 = .ok (.aload_n 0, 1) := by decide +kernel
theorem dX11_beside_25 : decode cX11_beside 25 = .ok (.iload_n 1, 1) := by decide +kernel
theorem dX11_beside_26 : decode cX11_beside 26 = .ok (.iload_n 2, 1) := by decide +kernel
theorem dX11_beside_27 : decode cX11_beside 27 = .ok (.invokevirtual 226, 3) := by decide +kernel
theorem dX11_beside_30 : decode cX11_beside 30 = .ok (.aload_n 0, 1) := by decide +kernel
theorem dX11_beside_31 : decode cX11_beside 31 = .ok (.getfield 51, 3) := by decide +kernel
theorem dX11_beside_34 : decode cX11_beside 34 = .ok (.iload_n 3, 1) := by decide +kernel
theorem dX11_beside_35 : decode cX11_beside 35 = .ok (.laload, 1) := by decide +kernel
theorem dX11_beside_36 : decode cX11_beside 36 = .ok (.lreturn, 1) := by decide +kernel
theorem dX11_worse_0 : decode cX11_worse 0 = .ok (.aload_n 0, 1) := by decide +kernel
theorem dX11_worse_1 : decode cX11_worse 1 = .ok (.getfield 19, 3) := by decide +kernel
theorem dX11_worse_4 : decode cX11_worse 4 = .ok (.iload_n 1, 1) := by decide +kernel
theorem dX11_worse_5 : decode cX11_worse 5 = .ok (.invokevirtual 94, 3) := by decide +kernel
theorem dX11_worse_8 : decode cX11_worse 8 = .ok (.ifCond .eq 14, 3) := by decide +kernel
theorem dX11_worse_11 : decode cX11_worse 11 = .ok (.aload_n 0, 1) := by decide +kernel
theorem dX11_worse_12 : decode cX11_worse 12 = .ok (.getfield 19, 3) := by decide +kernel
theorem dX11_worse_15 : decode cX11_worse 15 = .ok (.iload_n 2, 1) := by decide +kernel
theorem dX11_worse_16 : decode cX11_worse 16 = .ok (.invokevirtual 185, 3) := by decide +kernel
theorem dX11_worse_19 : decode cX11_worse 19 = .ok (.ifCond .ne 6, 3) := by decide +kernel
theorem dX11_worse_22 : decode cX11_worse 22 = .ok (.bipush (-2), 2) := by decide +kernel
theorem dX11_worse_24 : decode cX11_worse 24 = .ok (.ireturn, 1) := by decide +kernel
theorem dX11_worse_25 : decode cX11_worse 25 = .ok (.aload_n 0, 1) := by decide +kernel
theorem dX11_worse_26 : decode cX11_worse 26 = .ok (.iload_n 1, 1) := by decide +kernel
theorem dX11_worse_27 : decode cX11_worse 27 = .ok (.iload_n 2, 1) := by decide +kernel
theorem dX11_worse_28 : decode cX11_worse 28 = .ok (.invokevirtual 226, 3) := by decide +kernel
theorem dX11_worse_31 : decode cX11_worse 31 = .ok (.iconst 0, 1) := by decide +kernel
theorem dX11_worse_32 : decode cX11_worse 32 = .ok (.istore_n 3, 1) := by decide +kernel
theorem dX11_worse_33 : decode cX11_worse 33 = .ok (.iconst 0, 1) := by decide +kernel
theorem dX11_worse_34 : decode cX11_worse 34 = .ok (.istore 4, 2) := by decide +kernel
theorem dX11_worse_36 : decode cX11_worse 36 = .ok (.iload 4, 2) := by decide +kernel
theorem dX11_worse_38 : decode cX11_worse 38 = .ok (.aload_n 0, 1) := by decide +kernel
theorem dX11_worse_39 : decode cX11_worse 39 = .ok (.getfield 19, 3) := by decide +kernel
theorem dX11_worse_42 : decode cX11_worse 42 = .ok (.getfield 97, 3) := by decide +kernel
theorem dX11_worse_45 : decode cX11_worse 45 = .ok (.getfield 161, 3) := by decide +kernel
theorem dX11_worse_48 : decode cX11_worse 48 = .ok (.if_icmp .ge 30, 3) := by decide +kernel
theorem dX11_worse_51 : decode cX11_worse 51 = .ok (.iload 4, 2) := by decide +kernel
theorem dX11_worse_53 : decode cX11_worse 53 = .ok (.iload_n 1, 1) := by decide +kernel
theorem dX11_worse_54 : decode cX11_worse 54 = .ok (.if_icmp .eq 18, 3) := by decide +kernel
theorem dX11_worse_57 : decode cX11_worse 57 = .ok (.aload_n 0, 1) := by decide +kernel
theorem dX11_worse_58 : decode cX11_worse 58 = .ok (.getfield 51, 3) := by decide +kernel
theorem dX11_worse_61 : decode cX11_worse 61 = .ok (.iload 4, 2) := by decide +kernel
theorem dX11_worse_63 : decode cX11_worse 63 = .ok (.laload, 1) := by decide +kernel
theorem dX11_worse_64 : decode cX11_worse 64 = .ok (.lconst 0, 1) := by decide +kernel
theorem dX11_worse_65 : decode cX11_worse 65 = .ok (.lcmp, 1) := by decide +kernel
theorem dX11_worse_66 : decode cX11_worse 66 = .ok (.ifCond .le 6, 3) := by decide +kernel
theorem dX11_worse_69 : decode cX11_worse 69 = .ok (.iinc 3 1, 3) := by decide +kernel
theorem dX11_worse_72 : decode cX11_worse 72 = .ok (.iinc 4 1, 3) := by decide +kernel
theorem dX11_worse_75 : decode cX11_worse 75 = .ok (.goto (-39), 3) := by decide +kernel
theorem dX11_worse_78 : decode cX11_worse 78 = .ok (.iload_n 3, 1) := by decide +kernel
theorem dX11_worse_79 : decode cX11_worse 79 = .ok (.ireturn, 1) := by decide +kernel
theorem dX11_next_0 : decode cX11_next 0 = .ok (.aload_n 0, 1) := by decide +kernel
theorem dX11_next_1 : decode cX11_next 1 = .ok (.getfield 19, 3) := by decide +kernel
theorem dX11_next_4 : decode cX11_next 4 = .ok (.iload_n 1, 1) := by decide +kernel
theorem dX11_next_5 : decode cX11_next 5 = .ok (.invokevirtual 94, 3) := by decide +kernel
theorem dX11_next_8 : decode cX11_next 8 = .ok (.ifCond .eq 14, 3) := by decide +kernel
theorem dX11_next_11 : decode cX11_next 11 = .ok (.aload_n 0, 1) := by decide +kernel
theorem dX11_next_12 : decode cX11_next 12 = .ok (.getfield 19, 3) := by decide +kernel
theorem dX11_next_15 : decode cX11_next 15 = .ok (.iload_n 2, 1) := by decide +kernel
theorem dX11_next_16 : decode cX11_next 16 = .ok (.invokevirtual 185, 3) := by decide +kernel
theorem dX11_next_19 : decode cX11_next 19 = .ok (.ifCond .ne 6, 3) := by decide +kernel
theorem dX11_next_22 : decode cX11_next 22 = .ok (.bipush (-2), 2) := by decide +kernel
theorem dX11_next_24 : decode cX11_next 24 = .ok (.ireturn, 1) := by decide +kernel
theorem dX11_next_25 : decode cX11_next 25 = .ok (.aload_n 0, 1) := by decide +kernel
theorem dX11_next_26 : decode cX11_next 26 = .ok (.iload_n 1, 1) := by decide +kernel
theorem dX11_next_27 : decode cX11_next 27 = .ok (.iload_n 2, 1) := by decide +kernel
theorem dX11_next_28 : decode cX11_next 28 = .ok (.invokevirtual 226, 3) := by decide +kernel
theorem dX11_next_31 : decode cX11_next 31 = .ok (.iconst (-1), 1) := by decide +kernel
theorem dX11_next_32 : decode cX11_next 32 = .ok (.istore_n 3, 1) := by decide +kernel
theorem dX11_next_33 : decode cX11_next 33 = .ok (.lconst 0, 1) := by decide +kernel
theorem dX11_next_34 : decode cX11_next 34 = .ok (.lstore 4, 2) := by decide +kernel
theorem dX11_next_36 : decode cX11_next 36 = .ok (.iconst 0, 1) := by decide +kernel
theorem dX11_next_37 : decode cX11_next 37 = .ok (.istore 6, 2) := by decide +kernel
theorem dX11_next_39 : decode cX11_next 39 = .ok (.iload 6, 2) := by decide +kernel
theorem dX11_next_41 : decode cX11_next 41 = .ok (.aload_n 0, 1) := by decide +kernel
theorem dX11_next_42 : decode cX11_next 42 = .ok (.getfield 19, 3) := by decide +kernel
theorem dX11_next_45 : decode cX11_next 45 = .ok (.getfield 97, 3) := by decide +kernel
theorem dX11_next_48 : decode cX11_next 48 = .ok (.getfield 161, 3) := by decide +kernel
theorem dX11_next_51 : decode cX11_next 51 = .ok (.if_icmp .ge 40, 3) := by decide +kernel
theorem dX11_next_54 : decode cX11_next 54 = .ok (.iload 6, 2) := by decide +kernel
theorem dX11_next_56 : decode cX11_next 56 = .ok (.iload_n 1, 1) := by decide +kernel
theorem dX11_next_57 : decode cX11_next 57 = .ok (.if_icmp .eq 28, 3) := by decide +kernel
theorem dX11_next_60 : decode cX11_next 60 = .ok (.aload_n 0, 1) := by decide +kernel
theorem dX11_next_61 : decode cX11_next 61 = .ok (.getfield 51, 3) := by decide +kernel
theorem dX11_next_64 : decode cX11_next 64 = .ok (.iload 6, 2) := by decide +kernel
theorem dX11_next_66 : decode cX11_next 66 = .ok (.laload, 1) := by decide +kernel
theorem dX11_next_67 : decode cX11_next 67 = .ok (.lload 4, 2) := by decide +kernel
theorem dX11_next_69 : decode cX11_next 69 = .ok (.lcmp, 1) := by decide +kernel
theorem dX11_next_70 : decode cX11_next 70 = .ok (.ifCond .le 15, 3) := by decide +kernel
theorem dX11_next_73 : decode cX11_next 73 = .ok (.aload_n 0, 1) := by decide +kernel
theorem dX11_next_74 : decode cX11_next 74 = .ok (.getfield 51, 3) := by decide +kernel
theorem dX11_next_77 : decode cX11_next 77 = .ok (.iload 6, 2) := by decide +kernel
theorem dX11_next_79 : decode cX11_next 79 = .ok (.laload, 1) := by decide +kernel
theorem dX11_next_80 : decode cX11_next 80 = .ok (.lstore 4, 2) := by decide +kernel
theorem dX11_next_82 : decode cX11_next 82 = .ok (.iload 6, 2) := by decide +kernel
theorem dX11_next_84 : decode cX11_next 84 = .ok (.istore_n 3, 1) := by decide +kernel
theorem dX11_next_85 : decode cX11_next 85 = .ok (.iinc 6 1, 3) := by decide +kernel
theorem dX11_next_88 : decode cX11_next 88 = .ok (.goto (-49), 3) := by decide +kernel
theorem dX11_next_91 : decode cX11_next 91 = .ok (.iload_n 3, 1) := by decide +kernel
theorem dX11_next_92 : decode cX11_next 92 = .ok (.ireturn, 1) := by decide +kernel
theorem dX11_move_0 : decode cX11_move 0 = .ok (.aload_n 0, 1) := by decide +kernel
theorem dX11_move_1 : decode cX11_move 1 = .ok (.getfield 19, 3) := by decide +kernel
theorem dX11_move_4 : decode cX11_move 4 = .ok (.iload_n 1, 1) := by decide +kernel
theorem dX11_move_5 : decode cX11_move 5 = .ok (.invokevirtual 94, 3) := by decide +kernel
theorem dX11_move_8 : decode cX11_move 8 = .ok (.ifCond .eq 14, 3) := by decide +kernel
theorem dX11_move_11 : decode cX11_move 11 = .ok (.aload_n 0, 1) := by decide +kernel
theorem dX11_move_12 : decode cX11_move 12 = .ok (.getfield 19, 3) := by decide +kernel
theorem dX11_move_15 : decode cX11_move 15 = .ok (.iload_n 2, 1) := by decide +kernel
theorem dX11_move_16 : decode cX11_move 16 = .ok (.invokevirtual 86, 3) := by decide +kernel
theorem dX11_move_19 : decode cX11_move 19 = .ok (.ifCond .ne 6, 3) := by decide +kernel
theorem dX11_move_22 : decode cX11_move 22 = .ok (.bipush (-2), 2) := by decide +kernel
theorem dX11_move_24 : decode cX11_move 24 = .ok (.ireturn, 1) := by decide +kernel
theorem dX11_move_25 : decode cX11_move 25 = .ok (.aload_n 0, 1) := by decide +kernel
theorem dX11_move_26 : decode cX11_move 26 = .ok (.getfield 19, 3) := by decide +kernel
theorem dX11_move_29 : decode cX11_move 29 = .ok (.getfield 97, 3) := by decide +kernel
theorem dX11_move_32 : decode cX11_move 32 = .ok (.iload_n 2, 1) := by decide +kernel
theorem dX11_move_33 : decode cX11_move 33 = .ok (.invokevirtual 229, 3) := by decide +kernel
theorem dX11_move_36 : decode cX11_move 36 = .ok (.istore_n 3, 1) := by decide +kernel
theorem dX11_move_37 : decode cX11_move 37 = .ok (.iload_n 3, 1) := by decide +kernel
theorem dX11_move_38 : decode cX11_move 38 = .ok (.iconst (-1), 1) := by decide +kernel
theorem dX11_move_39 : decode cX11_move 39 = .ok (.if_icmp .eq 11, 3) := by decide +kernel
theorem dX11_move_42 : decode cX11_move 42 = .ok (.iload_n 3, 1) := by decide +kernel
theorem dX11_move_43 : decode cX11_move 43 = .ok (.iload_n 1, 1) := by decide +kernel
theorem dX11_move_44 : decode cX11_move 44 = .ok (.if_icmp .eq 6, 3) := by decide +kernel
theorem dX11_move_47 : decode cX11_move 47 = .ok (.bipush (-5), 2) := by decide +kernel
theorem dX11_move_49 : decode cX11_move 49 = .ok (.ireturn, 1) := by decide +kernel
theorem dX11_move_50 : decode cX11_move 50 = .ok (.aload_n 0, 1) := by decide +kernel
theorem dX11_move_51 : decode cX11_move 51 = .ok (.getfield 19, 3) := by decide +kernel
theorem dX11_move_54 : decode cX11_move 54 = .ok (.getfield 97, 3) := by decide +kernel
theorem dX11_move_57 : decode cX11_move 57 = .ok (.getfield 110, 3) := by decide +kernel
theorem dX11_move_60 : decode cX11_move 60 = .ok (.iload_n 1, 1) := by decide +kernel
theorem dX11_move_61 : decode cX11_move 61 = .ok (.iaload, 1) := by decide +kernel
theorem dX11_move_62 : decode cX11_move 62 = .ok (.istore 4, 2) := by decide +kernel
theorem dX11_move_64 : decode cX11_move 64 = .ok (.aload_n 0, 1) := by decide +kernel
theorem dX11_move_65 : decode cX11_move 65 = .ok (.getfield 19, 3) := by decide +kernel
theorem dX11_move_68 : decode cX11_move 68 = .ok (.getfield 97, 3) := by decide +kernel
theorem dX11_move_71 : decode cX11_move 71 = .ok (.getfield 110, 3) := by decide +kernel
theorem dX11_move_74 : decode cX11_move 74 = .ok (.iload_n 1, 1) := by decide +kernel
theorem dX11_move_75 : decode cX11_move 75 = .ok (.iload_n 2, 1) := by decide +kernel
theorem dX11_move_76 : decode cX11_move 76 = .ok (.iastore, 1) := by decide +kernel
theorem dX11_move_77 : decode cX11_move 77 = .ok (.iload 4, 2) := by decide +kernel
theorem dX11_move_79 : decode cX11_move 79 = .ok (.ireturn, 1) := by decide +kernel
theorem dX11_swap_0 : decode cX11_swap 0 = .ok (.aload_n 0, 1) := by decide +kernel
theorem dX11_swap_1 : decode cX11_swap 1 = .ok (.iload_n 1, 1) := by decide +kernel
theorem dX11_swap_2 : decode cX11_swap 2 = .ok (.iload_n 2, 1) := by decide +kernel
theorem dX11_swap_3 : decode cX11_swap 3 = .ok (.invokevirtual 215, 3) := by decide +kernel
theorem dX11_swap_6 : decode cX11_swap 6 = .ok (.ifCond .ne 6, 3) := by decide +kernel
theorem dX11_swap_9 : decode cX11_swap 9 = .ok (.bipush (-2), 2) := by decide +kernel
theorem dX11_swap_11 : decode cX11_swap 11 = .ok (.ireturn, 1) := by decide +kernel
theorem dX11_swap_12 : decode cX11_swap 12 = .ok (.aload_n 0, 1) := by decide +kernel
theorem dX11_swap_13 : decode cX11_swap 13 = .ok (.aload_n 0, 1) := by decide +kernel
theorem dX11_swap_14 : decode cX11_swap 14 = .ok (.getfield 19, 3) := by decide +kernel
theorem dX11_swap_17 : decode cX11_swap 17 = .ok (.iconst 1, 1) := by decide +kernel
theorem dX11_swap_18 : decode cX11_swap 18 = .ok (.invokevirtual 181, 3) := by decide +kernel
theorem dX11_swap_21 : decode cX11_swap 21 = .ok (.lstore_n 3, 1) := by decide +kernel
theorem dX11_swap_22 : decode cX11_swap 22 = .ok (.aload_n 0, 1) := by decide +kernel
theorem dX11_swap_23 : decode cX11_swap 23 = .ok (.getfield 19, 3) := by decide +kernel
theorem dX11_swap_26 : decode cX11_swap 26 = .ok (.getfield 97, 3) := by decide +kernel
theorem dX11_swap_29 : decode cX11_swap 29 = .ok (.getfield 110, 3) := by decide +kernel
theorem dX11_swap_32 : decode cX11_swap 32 = .ok (.iload_n 1, 1) := by decide +kernel
theorem dX11_swap_33 : decode cX11_swap 33 = .ok (.iaload, 1) := by decide +kernel
theorem dX11_swap_34 : decode cX11_swap 34 = .ok (.istore 5, 2) := by decide +kernel
theorem dX11_swap_36 : decode cX11_swap 36 = .ok (.aload_n 0, 1) := by decide +kernel
theorem dX11_swap_37 : decode cX11_swap 37 = .ok (.getfield 19, 3) := by decide +kernel
theorem dX11_swap_40 : decode cX11_swap 40 = .ok (.getfield 97, 3) := by decide +kernel
theorem dX11_swap_43 : decode cX11_swap 43 = .ok (.getfield 110, 3) := by decide +kernel
theorem dX11_swap_46 : decode cX11_swap 46 = .ok (.iload_n 1, 1) := by decide +kernel
theorem dX11_swap_47 : decode cX11_swap 47 = .ok (.aload_n 0, 1) := by decide +kernel
theorem dX11_swap_48 : decode cX11_swap 48 = .ok (.getfield 19, 3) := by decide +kernel
theorem dX11_swap_51 : decode cX11_swap 51 = .ok (.getfield 97, 3) := by decide +kernel
theorem dX11_swap_54 : decode cX11_swap 54 = .ok (.getfield 110, 3) := by decide +kernel
theorem dX11_swap_57 : decode cX11_swap 57 = .ok (.iload_n 2, 1) := by decide +kernel
theorem dX11_swap_58 : decode cX11_swap 58 = .ok (.iaload, 1) := by decide +kernel
theorem dX11_swap_59 : decode cX11_swap 59 = .ok (.iastore, 1) := by decide +kernel
theorem dX11_swap_60 : decode cX11_swap 60 = .ok (.aload_n 0, 1) := by decide +kernel
theorem dX11_swap_61 : decode cX11_swap 61 = .ok (.getfield 19, 3) := by decide +kernel
theorem dX11_swap_64 : decode cX11_swap 64 = .ok (.getfield 97, 3) := by decide +kernel
theorem dX11_swap_67 : decode cX11_swap 67 = .ok (.getfield 110, 3) := by decide +kernel
theorem dX11_swap_70 : decode cX11_swap 70 = .ok (.iload_n 2, 1) := by decide +kernel
theorem dX11_swap_71 : decode cX11_swap 71 = .ok (.iload 5, 2) := by decide +kernel
theorem dX11_swap_73 : decode cX11_swap 73 = .ok (.iastore, 1) := by decide +kernel
theorem dX11_swap_74 : decode cX11_swap 74 = .ok (.aload_n 0, 1) := by decide +kernel
theorem dX11_swap_75 : decode cX11_swap 75 = .ok (.aload_n 0, 1) := by decide +kernel
theorem dX11_swap_76 : decode cX11_swap 76 = .ok (.getfield 19, 3) := by decide +kernel
theorem dX11_swap_79 : decode cX11_swap 79 = .ok (.iconst 1, 1) := by decide +kernel
theorem dX11_swap_80 : decode cX11_swap 80 = .ok (.invokevirtual 181, 3) := by decide +kernel
theorem dX11_swap_83 : decode cX11_swap 83 = .ok (.lload_n 3, 1) := by decide +kernel
theorem dX11_swap_84 : decode cX11_swap 84 = .ok (.lcmp, 1) := by decide +kernel
theorem dX11_swap_85 : decode cX11_swap 85 = .ok (.ifCond .ge 7, 3) := by decide +kernel
theorem dX11_swap_88 : decode cX11_swap 88 = .ok (.iconst 1, 1) := by decide +kernel
theorem dX11_swap_89 : decode cX11_swap 89 = .ok (.goto 4, 3) := by decide +kernel
theorem dX11_swap_92 : decode cX11_swap 92 = .ok (.iconst 0, 1) := by decide +kernel
theorem dX11_swap_93 : decode cX11_swap 93 = .ok (.ireturn, 1) := by decide +kernel
theorem dX11_where_0 : decode cX11_where 0 = .ok (.aload_n 0, 1) := by decide +kernel
theorem dX11_where_1 : decode cX11_where 1 = .ok (.getfield 19, 3) := by decide +kernel
theorem dX11_where_4 : decode cX11_where 4 = .ok (.iload_n 1, 1) := by decide +kernel
theorem dX11_where_5 : decode cX11_where 5 = .ok (.invokevirtual 94, 3) := by decide +kernel
theorem dX11_where_8 : decode cX11_where 8 = .ok (.ifCond .ne 6, 3) := by decide +kernel
theorem dX11_where_11 : decode cX11_where 11 = .ok (.bipush (-2), 2) := by decide +kernel
theorem dX11_where_13 : decode cX11_where 13 = .ok (.ireturn, 1) := by decide +kernel
theorem dX11_where_14 : decode cX11_where 14 = .ok (.aload_n 0, 1) := by decide +kernel
theorem dX11_where_15 : decode cX11_where 15 = .ok (.getfield 23, 3) := by decide +kernel
theorem dX11_where_18 : decode cX11_where 18 = .ok (.aload_n 0, 1) := by decide +kernel
theorem dX11_where_19 : decode cX11_where 19 = .ok (.getfield 19, 3) := by decide +kernel
theorem dX11_where_22 : decode cX11_where 22 = .ok (.invokevirtual 73, 3) := by decide +kernel
theorem dX11_where_25 : decode cX11_where 25 = .ok (.iconst (-1), 1) := by decide +kernel
theorem dX11_where_26 : decode cX11_where 26 = .ok (.istore_n 2, 1) := by decide +kernel
theorem dX11_where_27 : decode cX11_where 27 = .ok (.ldc2_w 222, 3) := by decide +kernel
theorem dX11_where_30 : decode cX11_where 30 = .ok (.lstore_n 3, 1) := by decide +kernel
theorem dX11_where_31 : decode cX11_where 31 = .ok (.iconst 0, 1) := by decide +kernel
theorem dX11_where_32 : decode cX11_where 32 = .ok (.istore 5, 2) := by decide +kernel
theorem dX11_where_34 : decode cX11_where 34 = .ok (.iload 5, 2) := by decide +kernel
theorem dX11_where_36 : decode cX11_where 36 = .ok (.aload_n 0, 1) := by decide +kernel
theorem dX11_where_37 : decode cX11_where 37 = .ok (.getfield 19, 3) := by decide +kernel
theorem dX11_where_40 : decode cX11_where 40 = .ok (.getfield 232, 3) := by decide +kernel
theorem dX11_where_43 : decode cX11_where 43 = .ok (.if_icmp .ge 76, 3) := by decide +kernel
theorem dX11_where_46 : decode cX11_where 46 = .ok (.aload_n 0, 1) := by decide +kernel
theorem dX11_where_47 : decode cX11_where 47 = .ok (.getfield 19, 3) := by decide +kernel
theorem dX11_where_50 : decode cX11_where 50 = .ok (.getfield 97, 3) := by decide +kernel
theorem dX11_where_53 : decode cX11_where 53 = .ok (.iload 5, 2) := by decide +kernel
theorem dX11_where_55 : decode cX11_where 55 = .ok (.invokevirtual 229, 3) := by decide +kernel
theorem dX11_where_58 : decode cX11_where 58 = .ok (.istore 6, 2) := by decide +kernel
theorem dX11_where_60 : decode cX11_where 60 = .ok (.iload 6, 2) := by decide +kernel
theorem dX11_where_62 : decode cX11_where 62 = .ok (.iconst (-1), 1) := by decide +kernel
theorem dX11_where_63 : decode cX11_where 63 = .ok (.if_icmp .eq 12, 3) := by decide +kernel
theorem dX11_where_66 : decode cX11_where 66 = .ok (.iload 6, 2) := by decide +kernel
theorem dX11_where_68 : decode cX11_where 68 = .ok (.iload_n 1, 1) := by decide +kernel
theorem dX11_where_69 : decode cX11_where 69 = .ok (.if_icmp .eq 6, 3) := by decide +kernel
theorem dX11_where_72 : decode cX11_where 72 = .ok (.goto 41, 3) := by decide +kernel
theorem dX11_where_75 : decode cX11_where 75 = .ok (.aload_n 0, 1) := by decide +kernel
theorem dX11_where_76 : decode cX11_where 76 = .ok (.getfield 23, 3) := by decide +kernel
theorem dX11_where_79 : decode cX11_where 79 = .ok (.getfield 97, 3) := by decide +kernel
theorem dX11_where_82 : decode cX11_where 82 = .ok (.getfield 110, 3) := by decide +kernel
theorem dX11_where_85 : decode cX11_where 85 = .ok (.iload_n 1, 1) := by decide +kernel
theorem dX11_where_86 : decode cX11_where 86 = .ok (.iload 5, 2) := by decide +kernel
theorem dX11_where_88 : decode cX11_where 88 = .ok (.iastore, 1) := by decide +kernel
theorem dX11_where_89 : decode cX11_where 89 = .ok (.aload_n 0, 1) := by decide +kernel
theorem dX11_where_90 : decode cX11_where 90 = .ok (.aload_n 0, 1) := by decide +kernel
theorem dX11_where_91 : decode cX11_where 91 = .ok (.getfield 23, 3) := by decide +kernel
theorem dX11_where_94 : decode cX11_where 94 = .ok (.iload_n 1, 1) := by decide +kernel
theorem dX11_where_95 : decode cX11_where 95 = .ok (.invokevirtual 195, 3) := by decide +kernel
theorem dX11_where_98 : decode cX11_where 98 = .ok (.lstore 7, 2) := by decide +kernel
theorem dX11_where_100 : decode cX11_where 100 = .ok (.lload 7, 2) := by decide +kernel
theorem dX11_where_102 : decode cX11_where 102 = .ok (.lload_n 3, 1) := by decide +kernel
theorem dX11_where_103 : decode cX11_where 103 = .ok (.lcmp, 1) := by decide +kernel
theorem dX11_where_104 : decode cX11_where 104 = .ok (.ifCond .ge 9, 3) := by decide +kernel
theorem dX11_where_107 : decode cX11_where 107 = .ok (.lload 7, 2) := by decide +kernel
theorem dX11_where_109 : decode cX11_where 109 = .ok (.lstore_n 3, 1) := by decide +kernel
theorem dX11_where_110 : decode cX11_where 110 = .ok (.iload 5, 2) := by decide +kernel
theorem dX11_where_112 : decode cX11_where 112 = .ok (.istore_n 2, 1) := by decide +kernel
theorem dX11_where_113 : decode cX11_where 113 = .ok (.iinc 5 1, 3) := by decide +kernel
theorem dX11_where_116 : decode cX11_where 116 = .ok (.goto (-82), 3) := by decide +kernel
theorem dX11_where_119 : decode cX11_where 119 = .ok (.iload_n 2, 1) := by decide +kernel
theorem dX11_where_120 : decode cX11_where 120 = .ok (.ireturn, 1) := by decide +kernel
theorem dX11_lamp_0 : decode cX11_lamp 0 = .ok (.aload_n 0, 1) := by decide +kernel
theorem dX11_lamp_1 : decode cX11_lamp 1 = .ok (.getfield 19, 3) := by decide +kernel
theorem dX11_lamp_4 : decode cX11_lamp 4 = .ok (.invokevirtual 148, 3) := by decide +kernel
theorem dX11_lamp_7 : decode cX11_lamp 7 = .ok (.ifCond .eq 10, 3) := by decide +kernel
theorem dX11_lamp_10 : decode cX11_lamp 10 = .ok (.iload_n 1, 1) := by decide +kernel
theorem dX11_lamp_11 : decode cX11_lamp 11 = .ok (.invokestatic 235, 3) := by decide +kernel
theorem dX11_lamp_14 : decode cX11_lamp 14 = .ok (.ifCond .ne 6, 3) := by decide +kernel
theorem dX11_lamp_17 : decode cX11_lamp 17 = .ok (.bipush (-2), 2) := by decide +kernel
theorem dX11_lamp_19 : decode cX11_lamp 19 = .ok (.ireturn, 1) := by decide +kernel
theorem dX11_lamp_20 : decode cX11_lamp 20 = .ok (.iconst (-1), 1) := by decide +kernel
theorem dX11_lamp_21 : decode cX11_lamp 21 = .ok (.istore_n 2, 1) := by decide +kernel
theorem dX11_lamp_22 : decode cX11_lamp 22 = .ok (.ldc2_w 222, 3) := by decide +kernel
theorem dX11_lamp_25 : decode cX11_lamp 25 = .ok (.lstore_n 3, 1) := by decide +kernel
theorem dX11_lamp_26 : decode cX11_lamp 26 = .ok (.iconst 0, 1) := by decide +kernel
theorem dX11_lamp_27 : decode cX11_lamp 27 = .ok (.istore 5, 2) := by decide +kernel
theorem dX11_lamp_29 : decode cX11_lamp 29 = .ok (.iload 5, 2) := by decide +kernel
theorem dX11_lamp_31 : decode cX11_lamp 31 = .ok (.aload_n 0, 1) := by decide +kernel
theorem dX11_lamp_32 : decode cX11_lamp 32 = .ok (.getfield 19, 3) := by decide +kernel
theorem dX11_lamp_35 : decode cX11_lamp 35 = .ok (.getfield 232, 3) := by decide +kernel
theorem dX11_lamp_38 : decode cX11_lamp 38 = .ok (.if_icmp .ge 31, 3) := by decide +kernel
theorem dX11_lamp_41 : decode cX11_lamp 41 = .ok (.aload_n 0, 1) := by decide +kernel
theorem dX11_lamp_42 : decode cX11_lamp 42 = .ok (.iload 5, 2) := by decide +kernel
theorem dX11_lamp_44 : decode cX11_lamp 44 = .ok (.iload_n 1, 1) := by decide +kernel
theorem dX11_lamp_45 : decode cX11_lamp 45 = .ok (.invokevirtual 238, 3) := by decide +kernel
theorem dX11_lamp_48 : decode cX11_lamp 48 = .ok (.lstore 6, 2) := by decide +kernel
theorem dX11_lamp_50 : decode cX11_lamp 50 = .ok (.lload 6, 2) := by decide +kernel
theorem dX11_lamp_52 : decode cX11_lamp 52 = .ok (.lload_n 3, 1) := by decide +kernel
theorem dX11_lamp_53 : decode cX11_lamp 53 = .ok (.lcmp, 1) := by decide +kernel
theorem dX11_lamp_54 : decode cX11_lamp 54 = .ok (.ifCond .ge 9, 3) := by decide +kernel
theorem dX11_lamp_57 : decode cX11_lamp 57 = .ok (.lload 6, 2) := by decide +kernel
theorem dX11_lamp_59 : decode cX11_lamp 59 = .ok (.lstore_n 3, 1) := by decide +kernel
theorem dX11_lamp_60 : decode cX11_lamp 60 = .ok (.iload 5, 2) := by decide +kernel
theorem dX11_lamp_62 : decode cX11_lamp 62 = .ok (.istore_n 2, 1) := by decide +kernel
theorem dX11_lamp_63 : decode cX11_lamp 63 = .ok (.iinc 5 1, 3) := by decide +kernel
theorem dX11_lamp_66 : decode cX11_lamp 66 = .ok (.goto (-37), 3) := by decide +kernel
theorem dX11_lamp_69 : decode cX11_lamp 69 = .ok (.iload_n 2, 1) := by decide +kernel
theorem dX11_lamp_70 : decode cX11_lamp 70 = .ok (.ireturn, 1) := by decide +kernel
theorem dX11_lit_0 : decode cX11_lit 0 = .ok (.aload_n 0, 1) := by decide +kernel
theorem dX11_lit_1 : decode cX11_lit 1 = .ok (.getfield 19, 3) := by decide +kernel
theorem dX11_lit_4 : decode cX11_lit 4 = .ok (.iload_n 1, 1) := by decide +kernel
theorem dX11_lit_5 : decode cX11_lit 5 = .ok (.invokevirtual 86, 3) := by decide +kernel
theorem dX11_lit_8 : decode cX11_lit 8 = .ok (.ifCond .eq 19, 3) := by decide +kernel
theorem dX11_lit_11 : decode cX11_lit 11 = .ok (.iload_n 2, 1) := by decide +kernel
theorem dX11_lit_12 : decode cX11_lit 12 = .ok (.invokestatic 235, 3) := by decide +kernel
theorem dX11_lit_15 : decode cX11_lit 15 = .ok (.ifCond .eq 12, 3) := by decide +kernel
theorem dX11_lit_18 : decode cX11_lit 18 = .ok (.aload_n 0, 1) := by decide +kernel
theorem dX11_lit_19 : decode cX11_lit 19 = .ok (.iload_n 1, 1) := by decide +kernel
theorem dX11_lit_20 : decode cX11_lit 20 = .ok (.iload_n 2, 1) := by decide +kernel
theorem dX11_lit_21 : decode cX11_lit 21 = .ok (.invokevirtual 238, 3) := by decide +kernel
theorem dX11_lit_24 : decode cX11_lit 24 = .ok (.goto 6, 3) := by decide +kernel
theorem dX11_lit_27 : decode cX11_lit 27 = .ok (.ldc2_w 152, 3) := by decide +kernel
theorem dX11_lit_30 : decode cX11_lit 30 = .ok (.lreturn, 1) := by decide +kernel
theorem dX11_watch_0 : decode cX11_watch 0 = .ok (.aload_n 0, 1) := by decide +kernel
theorem dX11_watch_1 : decode cX11_watch 1 = .ok (.getfield 19, 3) := by decide +kernel
theorem dX11_watch_4 : decode cX11_watch 4 = .ok (.getfield 241, 3) := by decide +kernel
theorem dX11_watch_7 : decode cX11_watch 7 = .ok (.ifCond .ne 6, 3) := by decide +kernel
theorem dX11_watch_10 : decode cX11_watch 10 = .ok (.bipush (-2), 2) := by decide +kernel
theorem dX11_watch_12 : decode cX11_watch 12 = .ok (.ireturn, 1) := by decide +kernel
theorem dX11_watch_13 : decode cX11_watch 13 = .ok (.aload_n 0, 1) := by decide +kernel
theorem dX11_watch_14 : decode cX11_watch 14 = .ok (.getfield 19, 3) := by decide +kernel
theorem dX11_watch_17 : decode cX11_watch 17 = .ok (.getfield 245, 3) := by decide +kernel
theorem dX11_watch_20 : decode cX11_watch 20 = .ok (.ifCond .eq 7, 3) := by decide +kernel
theorem dX11_watch_23 : decode cX11_watch 23 = .ok (.iconst 1, 1) := by decide +kernel
theorem dX11_watch_24 : decode cX11_watch 24 = .ok (.goto 4, 3) := by decide +kernel
theorem dX11_watch_27 : decode cX11_watch 27 = .ok (.iconst 0, 1) := by decide +kernel
theorem dX11_watch_28 : decode cX11_watch 28 = .ok (.istore_n 2, 1) := by decide +kernel
theorem dX11_watch_29 : decode cX11_watch 29 = .ok (.aload_n 0, 1) := by decide +kernel
theorem dX11_watch_30 : decode cX11_watch 30 = .ok (.getfield 19, 3) := by decide +kernel
theorem dX11_watch_33 : decode cX11_watch 33 = .ok (.iload_n 1, 1) := by decide +kernel
theorem dX11_watch_34 : decode cX11_watch 34 = .ok (.putfield 245, 3) := by decide +kernel
theorem dX11_watch_37 : decode cX11_watch 37 = .ok (.iload_n 2, 1) := by decide +kernel
theorem dX11_watch_38 : decode cX11_watch 38 = .ok (.ireturn, 1) := by decide +kernel
theorem dX11_penny_0 : decode cX11_penny 0 = .ok (.aload_n 0, 1) := by decide +kernel
theorem dX11_penny_1 : decode cX11_penny 1 = .ok (.getfield 19, 3) := by decide +kernel
theorem dX11_penny_4 : decode cX11_penny 4 = .ok (.getfield 241, 3) := by decide +kernel
theorem dX11_penny_7 : decode cX11_penny 7 = .ok (.ifCond .ne 7, 3) := by decide +kernel
theorem dX11_penny_10 : decode cX11_penny 10 = .ok (.ldc2_w 224, 3) := by decide +kernel
theorem dX11_penny_13 : decode cX11_penny 13 = .ok (.lreturn, 1) := by decide +kernel
theorem dX11_penny_14 : decode cX11_penny 14 = .ok (.aload_n 0, 1) := by decide +kernel
theorem dX11_penny_15 : decode cX11_penny 15 = .ok (.getfield 23, 3) := by decide +kernel
theorem dX11_penny_18 : decode cX11_penny 18 = .ok (.aload_n 0, 1) := by decide +kernel
theorem dX11_penny_19 : decode cX11_penny 19 = .ok (.getfield 19, 3) := by decide +kernel
theorem dX11_penny_22 : decode cX11_penny 22 = .ok (.invokevirtual 73, 3) := by decide +kernel
theorem dX11_penny_25 : decode cX11_penny 25 = .ok (.aload_n 0, 1) := by decide +kernel
theorem dX11_penny_26 : decode cX11_penny 26 = .ok (.getfield 23, 3) := by decide +kernel
theorem dX11_penny_29 : decode cX11_penny 29 = .ok (.iconst 0, 1) := by decide +kernel
theorem dX11_penny_30 : decode cX11_penny 30 = .ok (.putfield 245, 3) := by decide +kernel
theorem dX11_penny_33 : decode cX11_penny 33 = .ok (.aload_n 0, 1) := by decide +kernel
theorem dX11_penny_34 : decode cX11_penny 34 = .ok (.aload_n 0, 1) := by decide +kernel
theorem dX11_penny_35 : decode cX11_penny 35 = .ok (.getfield 23, 3) := by decide +kernel
theorem dX11_penny_38 : decode cX11_penny 38 = .ok (.iconst 1, 1) := by decide +kernel
theorem dX11_penny_39 : decode cX11_penny 39 = .ok (.invokevirtual 181, 3) := by decide +kernel
theorem dX11_penny_42 : decode cX11_penny 42 = .ok (.lstore_n 1, 1) := by decide +kernel
theorem dX11_penny_43 : decode cX11_penny 43 = .ok (.aload_n 0, 1) := by decide +kernel
theorem dX11_penny_44 : decode cX11_penny 44 = .ok (.getfield 23, 3) := by decide +kernel
theorem dX11_penny_47 : decode cX11_penny 47 = .ok (.iconst 1, 1) := by decide +kernel
theorem dX11_penny_48 : decode cX11_penny 48 = .ok (.putfield 245, 3) := by decide +kernel
theorem dX11_penny_51 : decode cX11_penny 51 = .ok (.lload_n 1, 1) := by decide +kernel
theorem dX11_penny_52 : decode cX11_penny 52 = .ok (.aload_n 0, 1) := by decide +kernel
theorem dX11_penny_53 : decode cX11_penny 53 = .ok (.aload_n 0, 1) := by decide +kernel
theorem dX11_penny_54 : decode cX11_penny 54 = .ok (.getfield 23, 3) := by decide +kernel
theorem dX11_penny_57 : decode cX11_penny 57 = .ok (.iconst 1, 1) := by decide +kernel
theorem dX11_penny_58 : decode cX11_penny 58 = .ok (.invokevirtual 181, 3) := by decide +kernel
theorem dX11_penny_61 : decode cX11_penny 61 = .ok (.lsub, 1) := by decide +kernel
theorem dX11_penny_62 : decode cX11_penny 62 = .ok (.aload_n 0, 1) := by decide +kernel
theorem dX11_penny_63 : decode cX11_penny 63 = .ok (.getfield 19, 3) := by decide +kernel
theorem dX11_penny_66 : decode cX11_penny 66 = .ok (.invokevirtual 248, 3) := by decide +kernel
theorem dX11_penny_69 : decode cX11_penny 69 = .ok (.lsub, 1) := by decide +kernel
theorem dX11_penny_70 : decode cX11_penny 70 = .ok (.lreturn, 1) := by decide +kernel
theorem dX11_enough_0 : decode cX11_enough 0 = .ok (.aload_n 0, 1) := by decide +kernel
theorem dX11_enough_1 : decode cX11_enough 1 = .ok (.getfield 19, 3) := by decide +kernel
theorem dX11_enough_4 : decode cX11_enough 4 = .ok (.getfield 241, 3) := by decide +kernel
theorem dX11_enough_7 : decode cX11_enough 7 = .ok (.ifCond .ne 6, 3) := by decide +kernel
theorem dX11_enough_10 : decode cX11_enough 10 = .ok (.bipush (-2), 2) := by decide +kernel
theorem dX11_enough_12 : decode cX11_enough 12 = .ok (.ireturn, 1) := by decide +kernel
theorem dX11_enough_13 : decode cX11_enough 13 = .ok (.aload_n 0, 1) := by decide +kernel
theorem dX11_enough_14 : decode cX11_enough 14 = .ok (.invokevirtual 252, 3) := by decide +kernel
theorem dX11_enough_17 : decode cX11_enough 17 = .ok (.iconst 0, 1) := by decide +kernel
theorem dX11_enough_18 : decode cX11_enough 18 = .ok (.istore_n 1, 1) := by decide +kernel
theorem dX11_enough_19 : decode cX11_enough 19 = .ok (.lconst 0, 1) := by decide +kernel
theorem dX11_enough_20 : decode cX11_enough 20 = .ok (.lstore_n 2, 1) := by decide +kernel
theorem dX11_enough_21 : decode cX11_enough 21 = .ok (.iconst 0, 1) := by decide +kernel
theorem dX11_enough_22 : decode cX11_enough 22 = .ok (.istore 4, 2) := by decide +kernel
theorem dX11_enough_24 : decode cX11_enough 24 = .ok (.iload 4, 2) := by decide +kernel
theorem dX11_enough_26 : decode cX11_enough 26 = .ok (.aload_n 0, 1) := by decide +kernel
theorem dX11_enough_27 : decode cX11_enough 27 = .ok (.getfield 19, 3) := by decide +kernel
theorem dX11_enough_30 : decode cX11_enough 30 = .ok (.getfield 97, 3) := by decide +kernel
theorem dX11_enough_33 : decode cX11_enough 33 = .ok (.getfield 161, 3) := by decide +kernel
theorem dX11_enough_36 : decode cX11_enough 36 = .ok (.if_icmp .ge 34, 3) := by decide +kernel
theorem dX11_enough_39 : decode cX11_enough 39 = .ok (.lload_n 2, 1) := by decide +kernel
theorem dX11_enough_40 : decode cX11_enough 40 = .ok (.aload_n 0, 1) := by decide +kernel
theorem dX11_enough_41 : decode cX11_enough 41 = .ok (.getfield 19, 3) := by decide +kernel
theorem dX11_enough_44 : decode cX11_enough 44 = .ok (.invokevirtual 248, 3) := by decide +kernel
theorem dX11_enough_47 : decode cX11_enough 47 = .ok (.lcmp, 1) := by decide +kernel
theorem dX11_enough_48 : decode cX11_enough 48 = .ok (.ifCond .ge 22, 3) := by decide +kernel
theorem dX11_enough_51 : decode cX11_enough 51 = .ok (.lload_n 2, 1) := by decide +kernel
theorem dX11_enough_52 : decode cX11_enough 52 = .ok (.aload_n 0, 1) := by decide +kernel
theorem dX11_enough_53 : decode cX11_enough 53 = .ok (.getfield 51, 3) := by decide +kernel
theorem dX11_enough_56 : decode cX11_enough 56 = .ok (.iload 4, 2) := by decide +kernel
theorem dX11_enough_58 : decode cX11_enough 58 = .ok (.laload, 1) := by decide +kernel
theorem dX11_enough_59 : decode cX11_enough 59 = .ok (.ladd, 1) := by decide +kernel
theorem dX11_enough_60 : decode cX11_enough 60 = .ok (.lstore_n 2, 1) := by decide +kernel
theorem dX11_enough_61 : decode cX11_enough 61 = .ok (.iinc 1 1, 3) := by decide +kernel
theorem dX11_enough_64 : decode cX11_enough 64 = .ok (.iinc 4 1, 3) := by decide +kernel
theorem dX11_enough_67 : decode cX11_enough 67 = .ok (.goto (-43), 3) := by decide +kernel
theorem dX11_enough_70 : decode cX11_enough 70 = .ok (.lload_n 2, 1) := by decide +kernel
theorem dX11_enough_71 : decode cX11_enough 71 = .ok (.aload_n 0, 1) := by decide +kernel
theorem dX11_enough_72 : decode cX11_enough 72 = .ok (.getfield 19, 3) := by decide +kernel
theorem dX11_enough_75 : decode cX11_enough 75 = .ok (.invokevirtual 248, 3) := by decide +kernel
theorem dX11_enough_78 : decode cX11_enough 78 = .ok (.lcmp, 1) := by decide +kernel
theorem dX11_enough_79 : decode cX11_enough 79 = .ok (.ifCond .lt 7, 3) := by decide +kernel
theorem dX11_enough_82 : decode cX11_enough 82 = .ok (.iload_n 1, 1) := by decide +kernel
theorem dX11_enough_83 : decode cX11_enough 83 = .ok (.goto 4, 3) := by decide +kernel
theorem dX11_enough_86 : decode cX11_enough 86 = .ok (.iconst (-1), 1) := by decide +kernel
theorem dX11_enough_87 : decode cX11_enough 87 = .ok (.ireturn, 1) := by decide +kernel
theorem dX11_marks_0 : decode cX11_marks 0 = .ok (.aload_n 0, 1) := by decide +kernel
theorem dX11_marks_1 : decode cX11_marks 1 = .ok (.getfield 19, 3) := by decide +kernel
theorem dX11_marks_4 : decode cX11_marks 4 = .ok (.invokevirtual 148, 3) := by decide +kernel
theorem dX11_marks_7 : decode cX11_marks 7 = .ok (.ifCond .ne 6, 3) := by decide +kernel
theorem dX11_marks_10 : decode cX11_marks 10 = .ok (.bipush (-2), 2) := by decide +kernel
theorem dX11_marks_12 : decode cX11_marks 12 = .ok (.ireturn, 1) := by decide +kernel
theorem dX11_marks_13 : decode cX11_marks 13 = .ok (.aload_n 0, 1) := by decide +kernel
theorem dX11_marks_14 : decode cX11_marks 14 = .ok (.getfield 23, 3) := by decide +kernel
theorem dX11_marks_17 : decode cX11_marks 17 = .ok (.aload_n 0, 1) := by decide +kernel
theorem dX11_marks_18 : decode cX11_marks 18 = .ok (.getfield 19, 3) := by decide +kernel
theorem dX11_marks_21 : decode cX11_marks 21 = .ok (.invokevirtual 73, 3) := by decide +kernel
theorem dX11_marks_24 : decode cX11_marks 24 = .ok (.iconst 0, 1) := by decide +kernel
theorem dX11_marks_25 : decode cX11_marks 25 = .ok (.istore_n 1, 1) := by decide +kernel
theorem dX11_marks_26 : decode cX11_marks 26 = .ok (.iload_n 1, 1) := by decide +kernel
theorem dX11_marks_27 : decode cX11_marks 27 = .ok (.aload_n 0, 1) := by decide +kernel
theorem dX11_marks_28 : decode cX11_marks 28 = .ok (.getfield 23, 3) := by decide +kernel
theorem dX11_marks_31 : decode cX11_marks 31 = .ok (.getfield 97, 3) := by decide +kernel
theorem dX11_marks_34 : decode cX11_marks 34 = .ok (.getfield 161, 3) := by decide +kernel
theorem dX11_marks_37 : decode cX11_marks 37 = .ok (.if_icmp .gt 66, 3) := by decide +kernel
theorem dX11_marks_40 : decode cX11_marks 40 = .ok (.iconst 0, 1) := by decide +kernel
theorem dX11_marks_41 : decode cX11_marks 41 = .ok (.istore_n 2, 1) := by decide +kernel
theorem dX11_marks_42 : decode cX11_marks 42 = .ok (.iload_n 2, 1) := by decide +kernel
theorem dX11_marks_43 : decode cX11_marks 43 = .ok (.aload_n 0, 1) := by decide +kernel
theorem dX11_marks_44 : decode cX11_marks 44 = .ok (.getfield 23, 3) := by decide +kernel
theorem dX11_marks_47 : decode cX11_marks 47 = .ok (.getfield 97, 3) := by decide +kernel
theorem dX11_marks_50 : decode cX11_marks 50 = .ok (.getfield 161, 3) := by decide +kernel
theorem dX11_marks_53 : decode cX11_marks 53 = .ok (.if_icmp .ge 31, 3) := by decide +kernel
theorem dX11_marks_56 : decode cX11_marks 56 = .ok (.aload_n 0, 1) := by decide +kernel
theorem dX11_marks_57 : decode cX11_marks 57 = .ok (.getfield 23, 3) := by decide +kernel
theorem dX11_marks_60 : decode cX11_marks 60 = .ok (.getfield 97, 3) := by decide +kernel
theorem dX11_marks_63 : decode cX11_marks 63 = .ok (.getfield 116, 3) := by decide +kernel
theorem dX11_marks_66 : decode cX11_marks 66 = .ok (.iload_n 2, 1) := by decide +kernel
theorem dX11_marks_67 : decode cX11_marks 67 = .ok (.iload_n 2, 1) := by decide +kernel
theorem dX11_marks_68 : decode cX11_marks 68 = .ok (.iload_n 1, 1) := by decide +kernel
theorem dX11_marks_69 : decode cX11_marks 69 = .ok (.if_icmp .ge 7, 3) := by decide +kernel
theorem dX11_marks_72 : decode cX11_marks 72 = .ok (.iconst 1, 1) := by decide +kernel
theorem dX11_marks_73 : decode cX11_marks 73 = .ok (.goto 4, 3) := by decide +kernel
theorem dX11_marks_76 : decode cX11_marks 76 = .ok (.iconst 0, 1) := by decide +kernel
theorem dX11_marks_77 : decode cX11_marks 77 = .ok (.bastore, 1) := by decide +kernel
theorem dX11_marks_78 : decode cX11_marks 78 = .ok (.iinc 2 1, 3) := by decide +kernel
theorem dX11_marks_81 : decode cX11_marks 81 = .ok (.goto (-39), 3) := by decide +kernel
theorem dX11_marks_84 : decode cX11_marks 84 = .ok (.aload_n 0, 1) := by decide +kernel
theorem dX11_marks_85 : decode cX11_marks 85 = .ok (.aload_n 0, 1) := by decide +kernel
theorem dX11_marks_86 : decode cX11_marks 86 = .ok (.getfield 23, 3) := by decide +kernel
theorem dX11_marks_89 : decode cX11_marks 89 = .ok (.invokevirtual 255, 3) := by decide +kernel
theorem dX11_marks_92 : decode cX11_marks 92 = .ok (.ifCond .ne 5, 3) := by decide +kernel
theorem dX11_marks_95 : decode cX11_marks 95 = .ok (.iload_n 1, 1) := by decide +kernel
theorem dX11_marks_96 : decode cX11_marks 96 = .ok (.ireturn, 1) := by decide +kernel
theorem dX11_marks_97 : decode cX11_marks 97 = .ok (.iinc 1 1, 3) := by decide +kernel
theorem dX11_marks_100 : decode cX11_marks 100 = .ok (.goto (-74), 3) := by decide +kernel
theorem dX11_marks_103 : decode cX11_marks 103 = .ok (.iconst (-1), 1) := by decide +kernel
theorem dX11_marks_104 : decode cX11_marks 104 = .ok (.ireturn, 1) := by decide +kernel
theorem dX11_hides_0 : decode cX11_hides 0 = .ok (.aload_n 0, 1) := by decide +kernel
theorem dX11_hides_1 : decode cX11_hides 1 = .ok (.getfield 19, 3) := by decide +kernel
theorem dX11_hides_4 : decode cX11_hides 4 = .ok (.iload_n 1, 1) := by decide +kernel
theorem dX11_hides_5 : decode cX11_hides 5 = .ok (.invokevirtual 94, 3) := by decide +kernel
theorem dX11_hides_8 : decode cX11_hides 8 = .ok (.ifCond .ne 7, 3) := by decide +kernel
theorem dX11_hides_11 : decode cX11_hides 11 = .ok (.ldc2_w 224, 3) := by decide +kernel
theorem dX11_hides_14 : decode cX11_hides 14 = .ok (.lreturn, 1) := by decide +kernel
theorem dX11_hides_15 : decode cX11_hides 15 = .ok (.aload_n 0, 1) := by decide +kernel
theorem dX11_hides_16 : decode cX11_hides 16 = .ok (.getfield 23, 3) := by decide +kernel
theorem dX11_hides_19 : decode cX11_hides 19 = .ok (.aload_n 0, 1) := by decide +kernel
theorem dX11_hides_20 : decode cX11_hides 20 = .ok (.getfield 19, 3) := by decide +kernel
theorem dX11_hides_23 : decode cX11_hides 23 = .ok (.invokevirtual 73, 3) := by decide +kernel
theorem dX11_hides_26 : decode cX11_hides 26 = .ok (.aload_n 0, 1) := by decide +kernel
theorem dX11_hides_27 : decode cX11_hides 27 = .ok (.getfield 23, 3) := by decide +kernel
theorem dX11_hides_30 : decode cX11_hides 30 = .ok (.getfield 97, 3) := by decide +kernel
theorem dX11_hides_33 : decode cX11_hides 33 = .ok (.iload_n 1, 1) := by decide +kernel
theorem dX11_hides_34 : decode cX11_hides 34 = .ok (.iconst 0, 1) := by decide +kernel
theorem dX11_hides_35 : decode cX11_hides 35 = .ok (.invokevirtual 258, 3) := by decide +kernel
theorem dX11_hides_38 : decode cX11_hides 38 = .ok (.aload_n 0, 1) := by decide +kernel
theorem dX11_hides_39 : decode cX11_hides 39 = .ok (.aload_n 0, 1) := by decide +kernel
theorem dX11_hides_40 : decode cX11_hides 40 = .ok (.getfield 23, 3) := by decide +kernel
theorem dX11_hides_43 : decode cX11_hides 43 = .ok (.iload_n 1, 1) := by decide +kernel
theorem dX11_hides_44 : decode cX11_hides 44 = .ok (.invokevirtual 262, 3) := by decide +kernel
theorem dX11_hides_47 : decode cX11_hides 47 = .ok (.lstore_n 2, 1) := by decide +kernel
theorem dX11_hides_48 : decode cX11_hides 48 = .ok (.aload_n 0, 1) := by decide +kernel
theorem dX11_hides_49 : decode cX11_hides 49 = .ok (.getfield 23, 3) := by decide +kernel
theorem dX11_hides_52 : decode cX11_hides 52 = .ok (.getfield 97, 3) := by decide +kernel
theorem dX11_hides_55 : decode cX11_hides 55 = .ok (.iload_n 1, 1) := by decide +kernel
theorem dX11_hides_56 : decode cX11_hides 56 = .ok (.iconst 1, 1) := by decide +kernel
theorem dX11_hides_57 : decode cX11_hides 57 = .ok (.invokevirtual 258, 3) := by decide +kernel
theorem dX11_hides_60 : decode cX11_hides 60 = .ok (.lload_n 2, 1) := by decide +kernel
theorem dX11_hides_61 : decode cX11_hides 61 = .ok (.aload_n 0, 1) := by decide +kernel
theorem dX11_hides_62 : decode cX11_hides 62 = .ok (.aload_n 0, 1) := by decide +kernel
theorem dX11_hides_63 : decode cX11_hides 63 = .ok (.getfield 23, 3) := by decide +kernel
theorem dX11_hides_66 : decode cX11_hides 66 = .ok (.iload_n 1, 1) := by decide +kernel
theorem dX11_hides_67 : decode cX11_hides 67 = .ok (.invokevirtual 262, 3) := by decide +kernel
theorem dX11_hides_70 : decode cX11_hides 70 = .ok (.lsub, 1) := by decide +kernel
theorem dX11_hides_71 : decode cX11_hides 71 = .ok (.lreturn, 1) := by decide +kernel
theorem dX11_bait_0 : decode cX11_bait 0 = .ok (.aload_n 0, 1) := by decide +kernel
theorem dX11_bait_1 : decode cX11_bait 1 = .ok (.iload_n 1, 1) := by decide +kernel
theorem dX11_bait_2 : decode cX11_bait 2 = .ok (.iload_n 2, 1) := by decide +kernel
theorem dX11_bait_3 : decode cX11_bait 3 = .ok (.iload_n 3, 1) := by decide +kernel
theorem dX11_bait_4 : decode cX11_bait 4 = .ok (.invokevirtual 265, 3) := by decide +kernel
theorem dX11_bait_7 : decode cX11_bait 7 = .ok (.istore 4, 2) := by decide +kernel
theorem dX11_bait_9 : decode cX11_bait 9 = .ok (.iload 4, 2) := by decide +kernel
theorem dX11_bait_11 : decode cX11_bait 11 = .ok (.ifCond .eq 7, 3) := by decide +kernel
theorem dX11_bait_14 : decode cX11_bait 14 = .ok (.iload 4, 2) := by decide +kernel
theorem dX11_bait_16 : decode cX11_bait 16 = .ok (.i2l, 1) := by decide +kernel
theorem dX11_bait_17 : decode cX11_bait 17 = .ok (.lreturn, 1) := by decide +kernel
theorem dX11_bait_18 : decode cX11_bait 18 = .ok (.aload_n 0, 1) := by decide +kernel
theorem dX11_bait_19 : decode cX11_bait 19 = .ok (.getfield 40, 3) := by decide +kernel
theorem dX11_bait_22 : decode cX11_bait 22 = .ok (.aload_n 0, 1) := by decide +kernel
theorem dX11_bait_23 : decode cX11_bait 23 = .ok (.getfield 19, 3) := by decide +kernel
theorem dX11_bait_26 : decode cX11_bait 26 = .ok (.iload_n 2, 1) := by decide +kernel
theorem dX11_bait_27 : decode cX11_bait 27 = .ok (.iload_n 3, 1) := by decide +kernel
theorem dX11_bait_28 : decode cX11_bait 28 = .ok (.invokevirtual 268, 3) := by decide +kernel
theorem dX11_bait_31 : decode cX11_bait 31 = .ok (.aload_n 0, 1) := by decide +kernel
theorem dX11_bait_32 : decode cX11_bait 32 = .ok (.getfield 40, 3) := by decide +kernel
theorem dX11_bait_35 : decode cX11_bait 35 = .ok (.aload_n 0, 1) := by decide +kernel
theorem dX11_bait_36 : decode cX11_bait 36 = .ok (.getfield 19, 3) := by decide +kernel
theorem dX11_bait_39 : decode cX11_bait 39 = .ok (.invokevirtual 272, 3) := by decide +kernel
theorem dX11_bait_42 : decode cX11_bait 42 = .ok (.lreturn, 1) := by decide +kernel
theorem dX11_caught_0 : decode cX11_caught 0 = .ok (.aload_n 0, 1) := by decide +kernel
theorem dX11_caught_1 : decode cX11_caught 1 = .ok (.getfield 19, 3) := by decide +kernel
theorem dX11_caught_4 : decode cX11_caught 4 = .ok (.iload_n 1, 1) := by decide +kernel
theorem dX11_caught_5 : decode cX11_caught 5 = .ok (.invokevirtual 120, 3) := by decide +kernel
theorem dX11_caught_8 : decode cX11_caught 8 = .ok (.ifCond .eq 14, 3) := by decide +kernel
theorem dX11_caught_11 : decode cX11_caught 11 = .ok (.aload_n 0, 1) := by decide +kernel
theorem dX11_caught_12 : decode cX11_caught 12 = .ok (.iload_n 2, 1) := by decide +kernel
theorem dX11_caught_13 : decode cX11_caught 13 = .ok (.iload_n 3, 1) := by decide +kernel
theorem dX11_caught_14 : decode cX11_caught 14 = .ok (.iload 4, 2) := by decide +kernel
theorem dX11_caught_16 : decode cX11_caught 16 = .ok (.invokevirtual 265, 3) := by decide +kernel
theorem dX11_caught_19 : decode cX11_caught 19 = .ok (.goto 5, 3) := by decide +kernel
theorem dX11_caught_22 : decode cX11_caught 22 = .ok (.bipush (-2), 2) := by decide +kernel
theorem dX11_caught_24 : decode cX11_caught 24 = .ok (.istore 5, 2) := by decide +kernel
theorem dX11_caught_26 : decode cX11_caught 26 = .ok (.iload 5, 2) := by decide +kernel
theorem dX11_caught_28 : decode cX11_caught 28 = .ok (.ifCond .eq 7, 3) := by decide +kernel
theorem dX11_caught_31 : decode cX11_caught 31 = .ok (.iload 5, 2) := by decide +kernel
theorem dX11_caught_33 : decode cX11_caught 33 = .ok (.i2l, 1) := by decide +kernel
theorem dX11_caught_34 : decode cX11_caught 34 = .ok (.lreturn, 1) := by decide +kernel
theorem dX11_caught_35 : decode cX11_caught 35 = .ok (.aload_n 0, 1) := by decide +kernel
theorem dX11_caught_36 : decode cX11_caught 36 = .ok (.getfield 40, 3) := by decide +kernel
theorem dX11_caught_39 : decode cX11_caught 39 = .ok (.aload_n 0, 1) := by decide +kernel
theorem dX11_caught_40 : decode cX11_caught 40 = .ok (.getfield 19, 3) := by decide +kernel
theorem dX11_caught_43 : decode cX11_caught 43 = .ok (.iload_n 3, 1) := by decide +kernel
theorem dX11_caught_44 : decode cX11_caught 44 = .ok (.iload 4, 2) := by decide +kernel
theorem dX11_caught_46 : decode cX11_caught 46 = .ok (.invokevirtual 268, 3) := by decide +kernel
theorem dX11_caught_49 : decode cX11_caught 49 = .ok (.aload_n 0, 1) := by decide +kernel
theorem dX11_caught_50 : decode cX11_caught 50 = .ok (.getfield 40, 3) := by decide +kernel
theorem dX11_caught_53 : decode cX11_caught 53 = .ok (.iload_n 1, 1) := by decide +kernel
theorem dX11_caught_54 : decode cX11_caught 54 = .ok (.invokevirtual 276, 3) := by decide +kernel
theorem dX11_caught_57 : decode cX11_caught 57 = .ok (.lreturn, 1) := by decide +kernel
theorem dX11_lures_0 : decode cX11_lures 0 = .ok (.aload_n 0, 1) := by decide +kernel
theorem dX11_lures_1 : decode cX11_lures 1 = .ok (.iload_n 1, 1) := by decide +kernel
theorem dX11_lures_2 : decode cX11_lures 2 = .ok (.iconst 0, 1) := by decide +kernel
theorem dX11_lures_3 : decode cX11_lures 3 = .ok (.iconst 0, 1) := by decide +kernel
theorem dX11_lures_4 : decode cX11_lures 4 = .ok (.invokevirtual 265, 3) := by decide +kernel
theorem dX11_lures_7 : decode cX11_lures 7 = .ok (.istore_n 2, 1) := by decide +kernel
theorem dX11_lures_8 : decode cX11_lures 8 = .ok (.iload_n 2, 1) := by decide +kernel
theorem dX11_lures_9 : decode cX11_lures 9 = .ok (.ifCond .eq 5, 3) := by decide +kernel
theorem dX11_lures_12 : decode cX11_lures 12 = .ok (.iload_n 2, 1) := by decide +kernel
theorem dX11_lures_13 : decode cX11_lures 13 = .ok (.ireturn, 1) := by decide +kernel
theorem dX11_lures_14 : decode cX11_lures 14 = .ok (.aload_n 0, 1) := by decide +kernel
theorem dX11_lures_15 : decode cX11_lures 15 = .ok (.getfield 40, 3) := by decide +kernel
theorem dX11_lures_18 : decode cX11_lures 18 = .ok (.aload_n 0, 1) := by decide +kernel
theorem dX11_lures_19 : decode cX11_lures 19 = .ok (.getfield 19, 3) := by decide +kernel
theorem dX11_lures_22 : decode cX11_lures 22 = .ok (.invokevirtual 138, 3) := by decide +kernel
theorem dX11_lures_25 : decode cX11_lures 25 = .ok (.sipush 10000, 3) := by decide +kernel
theorem dX11_lures_28 : decode cX11_lures 28 = .ok (.istore_n 3, 1) := by decide +kernel
theorem dX11_lures_29 : decode cX11_lures 29 = .ok (.iconst 0, 1) := by decide +kernel
theorem dX11_lures_30 : decode cX11_lures 30 = .ok (.istore 4, 2) := by decide +kernel
theorem dX11_lures_32 : decode cX11_lures 32 = .ok (.iload 4, 2) := by decide +kernel
theorem dX11_lures_34 : decode cX11_lures 34 = .ok (.aload_n 0, 1) := by decide +kernel
theorem dX11_lures_35 : decode cX11_lures 35 = .ok (.getfield 19, 3) := by decide +kernel
theorem dX11_lures_38 : decode cX11_lures 38 = .ok (.getfield 279, 3) := by decide +kernel
theorem dX11_lures_41 : decode cX11_lures 41 = .ok (.getfield 283, 3) := by decide +kernel
theorem dX11_lures_44 : decode cX11_lures 44 = .ok (.if_icmp .ge 27, 3) := by decide +kernel
theorem dX11_lures_47 : decode cX11_lures 47 = .ok (.iload_n 3, 1) := by decide +kernel
theorem dX11_lures_48 : decode cX11_lures 48 = .ok (.aload_n 0, 1) := by decide +kernel
theorem dX11_lures_49 : decode cX11_lures 49 = .ok (.getfield 40, 3) := by decide +kernel
theorem dX11_lures_52 : decode cX11_lures 52 = .ok (.aload_n 0, 1) := by decide +kernel
theorem dX11_lures_53 : decode cX11_lures 53 = .ok (.getfield 19, 3) := by decide +kernel
theorem dX11_lures_56 : decode cX11_lures 56 = .ok (.iload 4, 2) := by decide +kernel
theorem dX11_lures_58 : decode cX11_lures 58 = .ok (.invokevirtual 286, 3) := by decide +kernel
theorem dX11_lures_61 : decode cX11_lures 61 = .ok (.invokestatic 205, 3) := by decide +kernel
theorem dX11_lures_64 : decode cX11_lures 64 = .ok (.istore_n 3, 1) := by decide +kernel
theorem dX11_lures_65 : decode cX11_lures 65 = .ok (.iinc 4 1, 3) := by decide +kernel
theorem dX11_lures_68 : decode cX11_lures 68 = .ok (.goto (-36), 3) := by decide +kernel
theorem dX11_lures_71 : decode cX11_lures 71 = .ok (.iload_n 3, 1) := by decide +kernel
theorem dX11_lures_72 : decode cX11_lures 72 = .ok (.sipush 9999, 3) := by decide +kernel
theorem dX11_lures_75 : decode cX11_lures 75 = .ok (.if_icmp .le 7, 3) := by decide +kernel
theorem dX11_lures_78 : decode cX11_lures 78 = .ok (.iconst (-1), 1) := by decide +kernel
theorem dX11_lures_79 : decode cX11_lures 79 = .ok (.goto 4, 3) := by decide +kernel
theorem dX11_lures_82 : decode cX11_lures 82 = .ok (.iload_n 3, 1) := by decide +kernel
theorem dX11_lures_83 : decode cX11_lures 83 = .ok (.ireturn, 1) := by decide +kernel
theorem dX11_cover_0 : decode cX11_cover 0 = .ok (.aload_n 0, 1) := by decide +kernel
theorem dX11_cover_1 : decode cX11_cover 1 = .ok (.iload_n 1, 1) := by decide +kernel
theorem dX11_cover_2 : decode cX11_cover 2 = .ok (.iload_n 2, 1) := by decide +kernel
theorem dX11_cover_3 : decode cX11_cover 3 = .ok (.iload_n 3, 1) := by decide +kernel
theorem dX11_cover_4 : decode cX11_cover 4 = .ok (.invokevirtual 289, 3) := by decide +kernel
theorem dX11_cover_7 : decode cX11_cover 7 = .ok (.ifCond .ne 7, 3) := by decide +kernel
theorem dX11_cover_10 : decode cX11_cover 10 = .ok (.ldc2_w 152, 3) := by decide +kernel
theorem dX11_cover_13 : decode cX11_cover 13 = .ok (.lreturn, 1) := by decide +kernel
theorem dX11_cover_14 : decode cX11_cover 14 = .ok (.aload_n 0, 1) := by decide +kernel
theorem dX11_cover_15 : decode cX11_cover 15 = .ok (.iload_n 1, 1) := by decide +kernel
theorem dX11_cover_16 : decode cX11_cover 16 = .ok (.iload_n 2, 1) := by decide +kernel
theorem dX11_cover_17 : decode cX11_cover 17 = .ok (.iload_n 3, 1) := by decide +kernel
theorem dX11_cover_18 : decode cX11_cover 18 = .ok (.invokevirtual 293, 3) := by decide +kernel
theorem dX11_cover_21 : decode cX11_cover 21 = .ok (.istore 4, 2) := by decide +kernel
theorem dX11_cover_23 : decode cX11_cover 23 = .ok (.aload_n 0, 1) := by decide +kernel
theorem dX11_cover_24 : decode cX11_cover 24 = .ok (.getfield 23, 3) := by decide +kernel
theorem dX11_cover_27 : decode cX11_cover 27 = .ok (.getfield 97, 3) := by decide +kernel
theorem dX11_cover_30 : decode cX11_cover 30 = .ok (.iload_n 1, 1) := by decide +kernel
theorem dX11_cover_31 : decode cX11_cover 31 = .ok (.iload 4, 2) := by decide +kernel
theorem dX11_cover_33 : decode cX11_cover 33 = .ok (.invokevirtual 191, 3) := by decide +kernel
theorem dX11_cover_36 : decode cX11_cover 36 = .ok (.aload_n 0, 1) := by decide +kernel
theorem dX11_cover_37 : decode cX11_cover 37 = .ok (.aload_n 0, 1) := by decide +kernel
theorem dX11_cover_38 : decode cX11_cover 38 = .ok (.getfield 23, 3) := by decide +kernel
theorem dX11_cover_41 : decode cX11_cover 41 = .ok (.iload_n 1, 1) := by decide +kernel
theorem dX11_cover_42 : decode cX11_cover 42 = .ok (.iload_n 2, 1) := by decide +kernel
theorem dX11_cover_43 : decode cX11_cover 43 = .ok (.iload_n 3, 1) := by decide +kernel
theorem dX11_cover_44 : decode cX11_cover 44 = .ok (.invokevirtual 296, 3) := by decide +kernel
theorem dX11_cover_47 : decode cX11_cover 47 = .ok (.lreturn, 1) := by decide +kernel
theorem dX11_careless_0 : decode cX11_careless 0 = .ok (.aload_n 0, 1) := by decide +kernel
theorem dX11_careless_1 : decode cX11_careless 1 = .ok (.iload_n 1, 1) := by decide +kernel
theorem dX11_careless_2 : decode cX11_careless 2 = .ok (.iload_n 2, 1) := by decide +kernel
theorem dX11_careless_3 : decode cX11_careless 3 = .ok (.iload_n 3, 1) := by decide +kernel
theorem dX11_careless_4 : decode cX11_careless 4 = .ok (.invokevirtual 289, 3) := by decide +kernel
theorem dX11_careless_7 : decode cX11_careless 7 = .ok (.ifCond .eq 13, 3) := by decide +kernel
theorem dX11_careless_10 : decode cX11_careless 10 = .ok (.aload_n 0, 1) := by decide +kernel
theorem dX11_careless_11 : decode cX11_careless 11 = .ok (.iload_n 1, 1) := by decide +kernel
theorem dX11_careless_12 : decode cX11_careless 12 = .ok (.iload_n 2, 1) := by decide +kernel
theorem dX11_careless_13 : decode cX11_careless 13 = .ok (.iload_n 3, 1) := by decide +kernel
theorem dX11_careless_14 : decode cX11_careless 14 = .ok (.invokevirtual 293, 3) := by decide +kernel
theorem dX11_careless_17 : decode cX11_careless 17 = .ok (.goto 5, 3) := by decide +kernel
theorem dX11_careless_20 : decode cX11_careless 20 = .ok (.bipush (-2), 2) := by decide +kernel
theorem dX11_careless_22 : decode cX11_careless 22 = .ok (.ireturn, 1) := by decide +kernel
theorem dX11_law_0 : decode cX11_law 0 = .ok (.aload_n 0, 1) := by decide +kernel
theorem dX11_law_1 : decode cX11_law 1 = .ok (.getfield 19, 3) := by decide +kernel
theorem dX11_law_4 : decode cX11_law 4 = .ok (.invokevirtual 148, 3) := by decide +kernel
theorem dX11_law_7 : decode cX11_law 7 = .ok (.ifCond .eq 19, 3) := by decide +kernel
theorem dX11_law_10 : decode cX11_law 10 = .ok (.iload_n 1, 1) := by decide +kernel
theorem dX11_law_11 : decode cX11_law 11 = .ok (.iconst (-1), 1) := by decide +kernel
theorem dX11_law_12 : decode cX11_law 12 = .ok (.if_icmp .eq 18, 3) := by decide +kernel
theorem dX11_law_15 : decode cX11_law 15 = .ok (.aload_n 0, 1) := by decide +kernel
theorem dX11_law_16 : decode cX11_law 16 = .ok (.getfield 19, 3) := by decide +kernel
theorem dX11_law_19 : decode cX11_law 19 = .ok (.iload_n 1, 1) := by decide +kernel
theorem dX11_law_20 : decode cX11_law 20 = .ok (.invokevirtual 300, 3) := by decide +kernel
theorem dX11_law_23 : decode cX11_law 23 = .ok (.ifCond .ne 7, 3) := by decide +kernel
theorem dX11_law_26 : decode cX11_law 26 = .ok (.ldc2_w 152, 3) := by decide +kernel
theorem dX11_law_29 : decode cX11_law 29 = .ok (.lreturn, 1) := by decide +kernel
theorem dX11_law_30 : decode cX11_law 30 = .ok (.aload_n 0, 1) := by decide +kernel
theorem dX11_law_31 : decode cX11_law 31 = .ok (.iload_n 1, 1) := by decide +kernel
theorem dX11_law_32 : decode cX11_law 32 = .ok (.invokevirtual 303, 3) := by decide +kernel
theorem dX11_law_35 : decode cX11_law 35 = .ok (.lreturn, 1) := by decide +kernel
theorem dX11_laws_0 : decode cX11_laws 0 = .ok (.aload_n 0, 1) := by decide +kernel
theorem dX11_laws_1 : decode cX11_laws 1 = .ok (.getfield 19, 3) := by decide +kernel
theorem dX11_laws_4 : decode cX11_laws 4 = .ok (.invokevirtual 148, 3) := by decide +kernel
theorem dX11_laws_7 : decode cX11_laws 7 = .ok (.ifCond .ne 6, 3) := by decide +kernel
theorem dX11_laws_10 : decode cX11_laws 10 = .ok (.bipush (-2), 2) := by decide +kernel
theorem dX11_laws_12 : decode cX11_laws 12 = .ok (.ireturn, 1) := by decide +kernel
theorem dX11_laws_13 : decode cX11_laws 13 = .ok (.iconst (-1), 1) := by decide +kernel
theorem dX11_laws_14 : decode cX11_laws 14 = .ok (.istore_n 1, 1) := by decide +kernel
theorem dX11_laws_15 : decode cX11_laws 15 = .ok (.ldc2_w 222, 3) := by decide +kernel
theorem dX11_laws_18 : decode cX11_laws 18 = .ok (.lstore_n 2, 1) := by decide +kernel
theorem dX11_laws_19 : decode cX11_laws 19 = .ok (.iconst (-1), 1) := by decide +kernel
theorem dX11_laws_20 : decode cX11_laws 20 = .ok (.istore 4, 2) := by decide +kernel
theorem dX11_laws_22 : decode cX11_laws 22 = .ok (.iload 4, 2) := by decide +kernel
theorem dX11_laws_24 : decode cX11_laws 24 = .ok (.aload_n 0, 1) := by decide +kernel
theorem dX11_laws_25 : decode cX11_laws 25 = .ok (.getfield 19, 3) := by decide +kernel
theorem dX11_laws_28 : decode cX11_laws 28 = .ok (.getfield 306, 3) := by decide +kernel
theorem dX11_laws_31 : decode cX11_laws 31 = .ok (.getfield 310, 3) := by decide +kernel
theorem dX11_laws_34 : decode cX11_laws 34 = .ok (.if_icmp .ge 30, 3) := by decide +kernel
theorem dX11_laws_37 : decode cX11_laws 37 = .ok (.aload_n 0, 1) := by decide +kernel
theorem dX11_laws_38 : decode cX11_laws 38 = .ok (.iload 4, 2) := by decide +kernel
theorem dX11_laws_40 : decode cX11_laws 40 = .ok (.invokevirtual 303, 3) := by decide +kernel
theorem dX11_laws_43 : decode cX11_laws 43 = .ok (.lstore 5, 2) := by decide +kernel
theorem dX11_laws_45 : decode cX11_laws 45 = .ok (.lload 5, 2) := by decide +kernel
theorem dX11_laws_47 : decode cX11_laws 47 = .ok (.lload_n 2, 1) := by decide +kernel
theorem dX11_laws_48 : decode cX11_laws 48 = .ok (.lcmp, 1) := by decide +kernel
theorem dX11_laws_49 : decode cX11_laws 49 = .ok (.ifCond .ge 9, 3) := by decide +kernel
theorem dX11_laws_52 : decode cX11_laws 52 = .ok (.lload 5, 2) := by decide +kernel
theorem dX11_laws_54 : decode cX11_laws 54 = .ok (.lstore_n 2, 1) := by decide +kernel
theorem dX11_laws_55 : decode cX11_laws 55 = .ok (.iload 4, 2) := by decide +kernel
theorem dX11_laws_57 : decode cX11_laws 57 = .ok (.istore_n 1, 1) := by decide +kernel
theorem dX11_laws_58 : decode cX11_laws 58 = .ok (.iinc 4 1, 3) := by decide +kernel
theorem dX11_laws_61 : decode cX11_laws 61 = .ok (.goto (-39), 3) := by decide +kernel
theorem dX11_laws_64 : decode cX11_laws 64 = .ok (.iload_n 1, 1) := by decide +kernel
theorem dX11_laws_65 : decode cX11_laws 65 = .ok (.ireturn, 1) := by decide +kernel
theorem dX11_rather_0 : decode cX11_rather 0 = .ok (.aload_n 0, 1) := by decide +kernel
theorem dX11_rather_1 : decode cX11_rather 1 = .ok (.getfield 19, 3) := by decide +kernel
theorem dX11_rather_4 : decode cX11_rather 4 = .ok (.iload_n 1, 1) := by decide +kernel
theorem dX11_rather_5 : decode cX11_rather 5 = .ok (.invokevirtual 120, 3) := by decide +kernel
theorem dX11_rather_8 : decode cX11_rather 8 = .ok (.ifCond .eq 10, 3) := by decide +kernel
theorem dX11_rather_11 : decode cX11_rather 11 = .ok (.iload_n 2, 1) := by decide +kernel
theorem dX11_rather_12 : decode cX11_rather 12 = .ok (.invokestatic 313, 3) := by decide +kernel
theorem dX11_rather_15 : decode cX11_rather 15 = .ok (.ifCond .ne 6, 3) := by decide +kernel
theorem dX11_rather_18 : decode cX11_rather 18 = .ok (.bipush (-2), 2) := by decide +kernel
theorem dX11_rather_20 : decode cX11_rather 20 = .ok (.ireturn, 1) := by decide +kernel
theorem dX11_rather_21 : decode cX11_rather 21 = .ok (.aload_n 0, 1) := by decide +kernel
theorem dX11_rather_22 : decode cX11_rather 22 = .ok (.getfield 26, 3) := by decide +kernel
theorem dX11_rather_25 : decode cX11_rather 25 = .ok (.iload_n 2, 1) := by decide +kernel
theorem dX11_rather_26 : decode cX11_rather 26 = .ok (.aaload, 1) := by decide +kernel
theorem dX11_rather_27 : decode cX11_rather 27 = .ok (.astore_n 3, 1) := by decide +kernel
theorem dX11_rather_28 : decode cX11_rather 28 = .ok (.aload_n 3, 1) := by decide +kernel
theorem dX11_rather_29 : decode cX11_rather 29 = .ok (.ifnull 10, 3) := by decide +kernel
theorem dX11_rather_32 : decode cX11_rather 32 = .ok (.aload_n 3, 1) := by decide +kernel
theorem dX11_rather_33 : decode cX11_rather 33 = .ok (.invokevirtual 148, 3) := by decide +kernel
theorem dX11_rather_36 : decode cX11_rather 36 = .ok (.ifCond .ne 6, 3) := by decide +kernel
theorem dX11_rather_39 : decode cX11_rather 39 = .ok (.bipush (-2), 2) := by decide +kernel
theorem dX11_rather_41 : decode cX11_rather 41 = .ok (.ireturn, 1) := by decide +kernel
theorem dX11_rather_42 : decode cX11_rather 42 = .ok (.aload_n 0, 1) := by decide +kernel
theorem dX11_rather_43 : decode cX11_rather 43 = .ok (.aload_n 0, 1) := by decide +kernel
theorem dX11_rather_44 : decode cX11_rather 44 = .ok (.getfield 19, 3) := by decide +kernel
theorem dX11_rather_47 : decode cX11_rather 47 = .ok (.iload_n 1, 1) := by decide +kernel
theorem dX11_rather_48 : decode cX11_rather 48 = .ok (.invokevirtual 316, 3) := by decide +kernel
theorem dX11_rather_51 : decode cX11_rather 51 = .ok (.istore 4, 2) := by decide +kernel
theorem dX11_rather_53 : decode cX11_rather 53 = .ok (.aload_n 0, 1) := by decide +kernel
theorem dX11_rather_54 : decode cX11_rather 54 = .ok (.getfield 23, 3) := by decide +kernel
theorem dX11_rather_57 : decode cX11_rather 57 = .ok (.aload_n 3, 1) := by decide +kernel
theorem dX11_rather_58 : decode cX11_rather 58 = .ok (.invokevirtual 73, 3) := by decide +kernel
theorem dX11_rather_61 : decode cX11_rather 61 = .ok (.aload_n 0, 1) := by decide +kernel
theorem dX11_rather_62 : decode cX11_rather 62 = .ok (.getfield 23, 3) := by decide +kernel
theorem dX11_rather_65 : decode cX11_rather 65 = .ok (.getfield 279, 3) := by decide +kernel
theorem dX11_rather_68 : decode cX11_rather 68 = .ok (.aload_n 0, 1) := by decide +kernel
theorem dX11_rather_69 : decode cX11_rather 69 = .ok (.getfield 19, 3) := by decide +kernel
theorem dX11_rather_72 : decode cX11_rather 72 = .ok (.getfield 279, 3) := by decide +kernel
theorem dX11_rather_75 : decode cX11_rather 75 = .ok (.invokevirtual 319, 3) := by decide +kernel
theorem dX11_rather_78 : decode cX11_rather 78 = .ok (.aload_n 0, 1) := by decide +kernel
theorem dX11_rather_79 : decode cX11_rather 79 = .ok (.aload_n 0, 1) := by decide +kernel
theorem dX11_rather_80 : decode cX11_rather 80 = .ok (.getfield 23, 3) := by decide +kernel
theorem dX11_rather_83 : decode cX11_rather 83 = .ok (.iload_n 1, 1) := by decide +kernel
theorem dX11_rather_84 : decode cX11_rather 84 = .ok (.invokevirtual 316, 3) := by decide +kernel
theorem dX11_rather_87 : decode cX11_rather 87 = .ok (.istore 5, 2) := by decide +kernel
theorem dX11_rather_89 : decode cX11_rather 89 = .ok (.iload 4, 2) := by decide +kernel
theorem dX11_rather_91 : decode cX11_rather 91 = .ok (.ifCond .ne 10, 3) := by decide +kernel
theorem dX11_rather_94 : decode cX11_rather 94 = .ok (.iload 5, 2) := by decide +kernel
theorem dX11_rather_96 : decode cX11_rather 96 = .ok (.ifCond .ne 5, 3) := by decide +kernel
theorem dX11_rather_99 : decode cX11_rather 99 = .ok (.iconst (-1), 1) := by decide +kernel
theorem dX11_rather_100 : decode cX11_rather 100 = .ok (.ireturn, 1) := by decide +kernel
theorem dX11_rather_101 : decode cX11_rather 101 = .ok (.iload 5, 2) := by decide +kernel
theorem dX11_rather_103 : decode cX11_rather 103 = .ok (.iload 4, 2) := by decide +kernel
theorem dX11_rather_105 : decode cX11_rather 105 = .ok (.if_icmp .le 7, 3) := by decide +kernel
theorem dX11_rather_108 : decode cX11_rather 108 = .ok (.iconst 1, 1) := by decide +kernel
theorem dX11_rather_109 : decode cX11_rather 109 = .ok (.goto 4, 3) := by decide +kernel
theorem dX11_rather_112 : decode cX11_rather 112 = .ok (.iconst 0, 1) := by decide +kernel
theorem dX11_rather_113 : decode cX11_rather 113 = .ok (.ireturn, 1) := by decide +kernel
theorem dX11_run_0 : decode cX11_run 0 = .ok (.aload_n 0, 1) := by decide +kernel
theorem dX11_run_1 : decode cX11_run 1 = .ok (.getfield 19, 3) := by decide +kernel
theorem dX11_run_4 : decode cX11_run 4 = .ok (.invokevirtual 148, 3) := by decide +kernel
theorem dX11_run_7 : decode cX11_run 7 = .ok (.ifCond .eq 10, 3) := by decide +kernel
theorem dX11_run_10 : decode cX11_run 10 = .ok (.iload_n 1, 1) := by decide +kernel
theorem dX11_run_11 : decode cX11_run 11 = .ok (.invokestatic 322, 3) := by decide +kernel
theorem dX11_run_14 : decode cX11_run 14 = .ok (.ifCond .ne 6, 3) := by decide +kernel
theorem dX11_run_17 : decode cX11_run 17 = .ok (.bipush (-2), 2) := by decide +kernel
theorem dX11_run_19 : decode cX11_run 19 = .ok (.ireturn, 1) := by decide +kernel
theorem dX11_run_20 : decode cX11_run 20 = .ok (.aload_n 0, 1) := by decide +kernel
theorem dX11_run_21 : decode cX11_run 21 = .ok (.getfield 40, 3) := by decide +kernel
theorem dX11_run_24 : decode cX11_run 24 = .ok (.aload_n 0, 1) := by decide +kernel
theorem dX11_run_25 : decode cX11_run 25 = .ok (.getfield 19, 3) := by decide +kernel
theorem dX11_run_28 : decode cX11_run 28 = .ok (.invokevirtual 138, 3) := by decide +kernel
theorem dX11_run_31 : decode cX11_run 31 = .ok (.aload_n 0, 1) := by decide +kernel
theorem dX11_run_32 : decode cX11_run 32 = .ok (.getfield 40, 3) := by decide +kernel
theorem dX11_run_35 : decode cX11_run 35 = .ok (.aload_n 0, 1) := by decide +kernel
theorem dX11_run_36 : decode cX11_run 36 = .ok (.getfield 19, 3) := by decide +kernel
theorem dX11_run_39 : decode cX11_run 39 = .ok (.iload_n 1, 1) := by decide +kernel
theorem dX11_run_40 : decode cX11_run 40 = .ok (.aload_n 0, 1) := by decide +kernel
theorem dX11_run_41 : decode cX11_run 41 = .ok (.getfield 19, 3) := by decide +kernel
theorem dX11_run_44 : decode cX11_run 44 = .ok (.getfield 325, 3) := by decide +kernel
theorem dX11_run_47 : decode cX11_run 47 = .ok (.invokevirtual 328, 3) := by decide +kernel
theorem dX11_run_50 : decode cX11_run 50 = .ok (.ireturn, 1) := by decide +kernel
theorem dX11_told_0 : decode cX11_told 0 = .ok (.aload_n 0, 1) := by decide +kernel
theorem dX11_told_1 : decode cX11_told 1 = .ok (.getfield 19, 3) := by decide +kernel
theorem dX11_told_4 : decode cX11_told 4 = .ok (.invokevirtual 148, 3) := by decide +kernel
theorem dX11_told_7 : decode cX11_told 7 = .ok (.ifCond .eq 14, 3) := by decide +kernel
theorem dX11_told_10 : decode cX11_told 10 = .ok (.aload_n 0, 1) := by decide +kernel
theorem dX11_told_11 : decode cX11_told 11 = .ok (.getfield 33, 3) := by decide +kernel
theorem dX11_told_14 : decode cX11_told 14 = .ok (.iload_n 1, 1) := by decide +kernel
theorem dX11_told_15 : decode cX11_told 15 = .ok (.invokevirtual 332, 3) := by decide +kernel
theorem dX11_told_18 : decode cX11_told 18 = .ok (.ifCond .ne 6, 3) := by decide +kernel
theorem dX11_told_21 : decode cX11_told 21 = .ok (.bipush (-2), 2) := by decide +kernel
theorem dX11_told_23 : decode cX11_told 23 = .ok (.ireturn, 1) := by decide +kernel
theorem dX11_told_24 : decode cX11_told 24 = .ok (.aload_n 0, 1) := by decide +kernel
theorem dX11_told_25 : decode cX11_told 25 = .ok (.getfield 33, 3) := by decide +kernel
theorem dX11_told_28 : decode cX11_told 28 = .ok (.iload_n 1, 1) := by decide +kernel
theorem dX11_told_29 : decode cX11_told 29 = .ok (.invokevirtual 335, 3) := by decide +kernel
theorem dX11_told_32 : decode cX11_told 32 = .ok (.ifCond .ne 6, 3) := by decide +kernel
theorem dX11_told_35 : decode cX11_told 35 = .ok (.bipush (-6), 2) := by decide +kernel
theorem dX11_told_37 : decode cX11_told 37 = .ok (.ireturn, 1) := by decide +kernel
theorem dX11_told_38 : decode cX11_told 38 = .ok (.aload_n 0, 1) := by decide +kernel
theorem dX11_told_39 : decode cX11_told 39 = .ok (.getfield 33, 3) := by decide +kernel
theorem dX11_told_42 : decode cX11_told 42 = .ok (.iload_n 1, 1) := by decide +kernel
theorem dX11_told_43 : decode cX11_told 43 = .ok (.aload_n 0, 1) := by decide +kernel
theorem dX11_told_44 : decode cX11_told 44 = .ok (.getfield 19, 3) := by decide +kernel
theorem dX11_told_47 : decode cX11_told 47 = .ok (.getfield 338, 3) := by decide +kernel
theorem dX11_told_50 : decode cX11_told 50 = .ok (.aload_n 0, 1) := by decide +kernel
theorem dX11_told_51 : decode cX11_told 51 = .ok (.getfield 19, 3) := by decide +kernel
theorem dX11_told_54 : decode cX11_told 54 = .ok (.getfield 279, 3) := by decide +kernel
theorem dX11_told_57 : decode cX11_told 57 = .ok (.getfield 283, 3) := by decide +kernel
theorem dX11_told_60 : decode cX11_told 60 = .ok (.invokevirtual 341, 3) := by decide +kernel
theorem dX11_told_63 : decode cX11_told 63 = .ok (.ifCond .ne 6, 3) := by decide +kernel
theorem dX11_told_66 : decode cX11_told 66 = .ok (.bipush (-2), 2) := by decide +kernel
theorem dX11_told_68 : decode cX11_told 68 = .ok (.ireturn, 1) := by decide +kernel
theorem dX11_told_69 : decode cX11_told 69 = .ok (.aload_n 0, 1) := by decide +kernel
theorem dX11_told_70 : decode cX11_told 70 = .ok (.getfield 40, 3) := by decide +kernel
theorem dX11_told_73 : decode cX11_told 73 = .ok (.aload_n 0, 1) := by decide +kernel
theorem dX11_told_74 : decode cX11_told 74 = .ok (.getfield 19, 3) := by decide +kernel
theorem dX11_told_77 : decode cX11_told 77 = .ok (.invokevirtual 138, 3) := by decide +kernel
theorem dX11_told_80 : decode cX11_told 80 = .ok (.aload_n 0, 1) := by decide +kernel
theorem dX11_told_81 : decode cX11_told 81 = .ok (.getfield 19, 3) := by decide +kernel
theorem dX11_told_84 : decode cX11_told 84 = .ok (.getfield 325, 3) := by decide +kernel
theorem dX11_told_87 : decode cX11_told 87 = .ok (.invokevirtual 344, 3) := by decide +kernel
theorem dX11_told_90 : decode cX11_told 90 = .ok (.iconst 0, 1) := by decide +kernel
theorem dX11_told_91 : decode cX11_told 91 = .ok (.istore_n 2, 1) := by decide +kernel
theorem dX11_told_92 : decode cX11_told 92 = .ok (.iconst 0, 1) := by decide +kernel
theorem dX11_told_93 : decode cX11_told 93 = .ok (.istore_n 3, 1) := by decide +kernel
theorem dX11_told_94 : decode cX11_told 94 = .ok (.iload_n 3, 1) := by decide +kernel
theorem dX11_told_95 : decode cX11_told 95 = .ok (.aload_n 0, 1) := by decide +kernel
theorem dX11_told_96 : decode cX11_told 96 = .ok (.getfield 33, 3) := by decide +kernel
theorem dX11_told_99 : decode cX11_told 99 = .ok (.iload_n 1, 1) := by decide +kernel
theorem dX11_told_100 : decode cX11_told 100 = .ok (.invokevirtual 347, 3) := by decide +kernel
theorem dX11_told_103 : decode cX11_told 103 = .ok (.if_icmp .ge 46, 3) := by decide +kernel
theorem dX11_told_106 : decode cX11_told 106 = .ok (.iload_n 2, 1) := by decide +kernel
theorem dX11_told_107 : decode cX11_told 107 = .ok (.aload_n 0, 1) := by decide +kernel
theorem dX11_told_108 : decode cX11_told 108 = .ok (.getfield 40, 3) := by decide +kernel
theorem dX11_told_111 : decode cX11_told 111 = .ok (.aload_n 0, 1) := by decide +kernel
theorem dX11_told_112 : decode cX11_told 112 = .ok (.getfield 33, 3) := by decide +kernel
theorem dX11_told_115 : decode cX11_told 115 = .ok (.iload_n 1, 1) := by decide +kernel
theorem dX11_told_116 : decode cX11_told 116 = .ok (.iload_n 3, 1) := by decide +kernel
theorem dX11_told_117 : decode cX11_told 117 = .ok (.invokevirtual 350, 3) := by decide +kernel
theorem dX11_told_120 : decode cX11_told 120 = .ok (.l2i, 1) := by decide +kernel
theorem dX11_told_121 : decode cX11_told 121 = .ok (.aload_n 0, 1) := by decide +kernel
theorem dX11_told_122 : decode cX11_told 122 = .ok (.getfield 19, 3) := by decide +kernel
theorem dX11_told_125 : decode cX11_told 125 = .ok (.getfield 279, 3) := by decide +kernel
theorem dX11_told_128 : decode cX11_told 128 = .ok (.getfield 283, 3) := by decide +kernel
theorem dX11_told_131 : decode cX11_told 131 = .ok (.aload_n 0, 1) := by decide +kernel
theorem dX11_told_132 : decode cX11_told 132 = .ok (.getfield 19, 3) := by decide +kernel
theorem dX11_told_135 : decode cX11_told 135 = .ok (.getfield 325, 3) := by decide +kernel
theorem dX11_told_138 : decode cX11_told 138 = .ok (.invokevirtual 353, 3) := by decide +kernel
theorem dX11_told_141 : decode cX11_told 141 = .ok (.iadd, 1) := by decide +kernel
theorem dX11_told_142 : decode cX11_told 142 = .ok (.istore_n 2, 1) := by decide +kernel
theorem dX11_told_143 : decode cX11_told 143 = .ok (.iinc 3 1, 3) := by decide +kernel
theorem dX11_told_146 : decode cX11_told 146 = .ok (.goto (-52), 3) := by decide +kernel
theorem dX11_told_149 : decode cX11_told 149 = .ok (.iload_n 2, 1) := by decide +kernel
theorem dX11_told_150 : decode cX11_told 150 = .ok (.ireturn, 1) := by decide +kernel
theorem dX11_taken_0 : decode cX11_taken 0 = .ok (.aload_n 0, 1) := by decide +kernel
theorem dX11_taken_1 : decode cX11_taken 1 = .ok (.getfield 19, 3) := by decide +kernel
theorem dX11_taken_4 : decode cX11_taken 4 = .ok (.iload_n 1, 1) := by decide +kernel
theorem dX11_taken_5 : decode cX11_taken 5 = .ok (.invokevirtual 94, 3) := by decide +kernel
theorem dX11_taken_8 : decode cX11_taken 8 = .ok (.ifCond .ne 6, 3) := by decide +kernel
theorem dX11_taken_11 : decode cX11_taken 11 = .ok (.bipush (-2), 2) := by decide +kernel
theorem dX11_taken_13 : decode cX11_taken 13 = .ok (.ireturn, 1) := by decide +kernel
theorem dX11_taken_14 : decode cX11_taken 14 = .ok (.aload_n 0, 1) := by decide +kernel
theorem dX11_taken_15 : decode cX11_taken 15 = .ok (.getfield 19, 3) := by decide +kernel
theorem dX11_taken_18 : decode cX11_taken 18 = .ok (.getfield 325, 3) := by decide +kernel
theorem dX11_taken_21 : decode cX11_taken 21 = .ok (.getfield 357, 3) := by decide +kernel
theorem dX11_taken_24 : decode cX11_taken 24 = .ok (.ifCond .eq 18, 3) := by decide +kernel
theorem dX11_taken_27 : decode cX11_taken 27 = .ok (.aload_n 0, 1) := by decide +kernel
theorem dX11_taken_28 : decode cX11_taken 28 = .ok (.getfield 19, 3) := by decide +kernel
theorem dX11_taken_31 : decode cX11_taken 31 = .ok (.getfield 325, 3) := by decide +kernel
theorem dX11_taken_34 : decode cX11_taken 34 = .ok (.getfield 360, 3) := by decide +kernel
theorem dX11_taken_37 : decode cX11_taken 37 = .ok (.iload_n 1, 1) := by decide +kernel
theorem dX11_taken_38 : decode cX11_taken 38 = .ok (.iaload, 1) := by decide +kernel
theorem dX11_taken_39 : decode cX11_taken 39 = .ok (.goto 4, 3) := by decide +kernel
theorem dX11_taken_42 : decode cX11_taken 42 = .ok (.iconst (-1), 1) := by decide +kernel
theorem dX11_taken_43 : decode cX11_taken 43 = .ok (.ireturn, 1) := by decide +kernel
theorem dX11_took_0 : decode cX11_took 0 = .ok (.aload_n 0, 1) := by decide +kernel
theorem dX11_took_1 : decode cX11_took 1 = .ok (.getfield 19, 3) := by decide +kernel
theorem dX11_took_4 : decode cX11_took 4 = .ok (.iload_n 1, 1) := by decide +kernel
theorem dX11_took_5 : decode cX11_took 5 = .ok (.invokevirtual 120, 3) := by decide +kernel
theorem dX11_took_8 : decode cX11_took 8 = .ok (.ifCond .ne 6, 3) := by decide +kernel
theorem dX11_took_11 : decode cX11_took 11 = .ok (.bipush (-2), 2) := by decide +kernel
theorem dX11_took_13 : decode cX11_took 13 = .ok (.ireturn, 1) := by decide +kernel
theorem dX11_took_14 : decode cX11_took 14 = .ok (.aload_n 0, 1) := by decide +kernel
theorem dX11_took_15 : decode cX11_took 15 = .ok (.getfield 19, 3) := by decide +kernel
theorem dX11_took_18 : decode cX11_took 18 = .ok (.getfield 325, 3) := by decide +kernel
theorem dX11_took_21 : decode cX11_took 21 = .ok (.getfield 357, 3) := by decide +kernel
theorem dX11_took_24 : decode cX11_took 24 = .ok (.ifCond .eq 18, 3) := by decide +kernel
theorem dX11_took_27 : decode cX11_took 27 = .ok (.aload_n 0, 1) := by decide +kernel
theorem dX11_took_28 : decode cX11_took 28 = .ok (.getfield 19, 3) := by decide +kernel
theorem dX11_took_31 : decode cX11_took 31 = .ok (.getfield 325, 3) := by decide +kernel
theorem dX11_took_34 : decode cX11_took 34 = .ok (.getfield 363, 3) := by decide +kernel
theorem dX11_took_37 : decode cX11_took 37 = .ok (.iload_n 1, 1) := by decide +kernel
theorem dX11_took_38 : decode cX11_took 38 = .ok (.iaload, 1) := by decide +kernel
theorem dX11_took_39 : decode cX11_took 39 = .ok (.goto 4, 3) := by decide +kernel
theorem dX11_took_42 : decode cX11_took 42 = .ok (.iconst (-1), 1) := by decide +kernel
theorem dX11_took_43 : decode cX11_took 43 = .ok (.ireturn, 1) := by decide +kernel
theorem dX11_years_0 : decode cX11_years 0 = .ok (.aload_n 0, 1) := by decide +kernel
theorem dX11_years_1 : decode cX11_years 1 = .ok (.getfield 19, 3) := by decide +kernel
theorem dX11_years_4 : decode cX11_years 4 = .ok (.invokevirtual 148, 3) := by decide +kernel
theorem dX11_years_7 : decode cX11_years 7 = .ok (.ifCond .eq 30, 3) := by decide +kernel
theorem dX11_years_10 : decode cX11_years 10 = .ok (.iload_n 1, 1) := by decide +kernel
theorem dX11_years_11 : decode cX11_years 11 = .ok (.invokestatic 322, 3) := by decide +kernel
theorem dX11_years_14 : decode cX11_years 14 = .ok (.ifCond .eq 23, 3) := by decide +kernel
theorem dX11_years_17 : decode cX11_years 17 = .ok (.iload_n 2, 1) := by decide +kernel
theorem dX11_years_18 : decode cX11_years 18 = .ok (.iconst 1, 1) := by decide +kernel
theorem dX11_years_19 : decode cX11_years 19 = .ok (.if_icmp .lt 18, 3) := by decide +kernel
theorem dX11_years_22 : decode cX11_years 22 = .ok (.iload_n 2, 1) := by decide +kernel
theorem dX11_years_23 : decode cX11_years 23 = .ok (.bipush 100, 2) := by decide +kernel
theorem dX11_years_25 : decode cX11_years 25 = .ok (.if_icmp .gt 12, 3) := by decide +kernel
theorem dX11_years_28 : decode cX11_years 28 = .ok (.iload_n 3, 1) := by decide +kernel
theorem dX11_years_29 : decode cX11_years 29 = .ok (.ifCond .lt 8, 3) := by decide +kernel
theorem dX11_years_32 : decode cX11_years 32 = .ok (.iload_n 3, 1) := by decide +kernel
theorem dX11_years_33 : decode cX11_years 33 = .ok (.iconst 2, 1) := by decide +kernel
theorem dX11_years_34 : decode cX11_years 34 = .ok (.if_icmp .le 7, 3) := by decide +kernel
theorem dX11_years_37 : decode cX11_years 37 = .ok (.ldc2_w 152, 3) := by decide +kernel
theorem dX11_years_40 : decode cX11_years 40 = .ok (.lreturn, 1) := by decide +kernel
theorem dX11_years_41 : decode cX11_years 41 = .ok (.aload_n 0, 1) := by decide +kernel
theorem dX11_years_42 : decode cX11_years 42 = .ok (.getfield 40, 3) := by decide +kernel
theorem dX11_years_45 : decode cX11_years 45 = .ok (.aload_n 0, 1) := by decide +kernel
theorem dX11_years_46 : decode cX11_years 46 = .ok (.getfield 19, 3) := by decide +kernel
theorem dX11_years_49 : decode cX11_years 49 = .ok (.invokevirtual 138, 3) := by decide +kernel
theorem dX11_years_52 : decode cX11_years 52 = .ok (.lconst 0, 1) := by decide +kernel
theorem dX11_years_53 : decode cX11_years 53 = .ok (.lstore 4, 2) := by decide +kernel
theorem dX11_years_55 : decode cX11_years 55 = .ok (.lconst 0, 1) := by decide +kernel
theorem dX11_years_56 : decode cX11_years 56 = .ok (.lstore 6, 2) := by decide +kernel
theorem dX11_years_58 : decode cX11_years 58 = .ok (.lconst 0, 1) := by decide +kernel
theorem dX11_years_59 : decode cX11_years 59 = .ok (.lstore 8, 2) := by decide +kernel
theorem dX11_years_61 : decode cX11_years 61 = .ok (.iconst 0, 1) := by decide +kernel
theorem dX11_years_62 : decode cX11_years 62 = .ok (.istore 10, 2) := by decide +kernel
theorem dX11_years_64 : decode cX11_years 64 = .ok (.iload 10, 2) := by decide +kernel
theorem dX11_years_66 : decode cX11_years 66 = .ok (.iload_n 2, 1) := by decide +kernel
theorem dX11_years_67 : decode cX11_years 67 = .ok (.if_icmp .ge 64, 3) := by decide +kernel
theorem dX11_years_70 : decode cX11_years 70 = .ok (.aload_n 0, 1) := by decide +kernel
theorem dX11_years_71 : decode cX11_years 71 = .ok (.getfield 40, 3) := by decide +kernel
theorem dX11_years_74 : decode cX11_years 74 = .ok (.aload_n 0, 1) := by decide +kernel
theorem dX11_years_75 : decode cX11_years 75 = .ok (.getfield 19, 3) := by decide +kernel
theorem dX11_years_78 : decode cX11_years 78 = .ok (.iload_n 1, 1) := by decide +kernel
theorem dX11_years_79 : decode cX11_years 79 = .ok (.iload 10, 2) := by decide +kernel
theorem dX11_years_81 : decode cX11_years 81 = .ok (.iadd, 1) := by decide +kernel
theorem dX11_years_82 : decode cX11_years 82 = .ok (.aload_n 0, 1) := by decide +kernel
theorem dX11_years_83 : decode cX11_years 83 = .ok (.getfield 47, 3) := by decide +kernel
theorem dX11_years_86 : decode cX11_years 86 = .ok (.invokevirtual 328, 3) := by decide +kernel
theorem dX11_years_89 : decode cX11_years 89 = .ok (.istore 11, 2) := by decide +kernel
theorem dX11_years_91 : decode cX11_years 91 = .ok (.lload 4, 2) := by decide +kernel
theorem dX11_years_93 : decode cX11_years 93 = .ok (.iload 11, 2) := by decide +kernel
theorem dX11_years_95 : decode cX11_years 95 = .ok (.i2l, 1) := by decide +kernel
theorem dX11_years_96 : decode cX11_years 96 = .ok (.ladd, 1) := by decide +kernel
theorem dX11_years_97 : decode cX11_years 97 = .ok (.lstore 4, 2) := by decide +kernel
theorem dX11_years_99 : decode cX11_years 99 = .ok (.lload 6, 2) := by decide +kernel
theorem dX11_years_101 : decode cX11_years 101 = .ok (.iload 11, 2) := by decide +kernel
theorem dX11_years_103 : decode cX11_years 103 = .ok (.i2l, 1) := by decide +kernel
theorem dX11_years_104 : decode cX11_years 104 = .ok (.invokestatic 366, 3) := by decide +kernel
theorem dX11_years_107 : decode cX11_years 107 = .ok (.lstore 6, 2) := by decide +kernel
theorem dX11_years_109 : decode cX11_years 109 = .ok (.lload 8, 2) := by decide +kernel
theorem dX11_years_111 : decode cX11_years 111 = .ok (.aload_n 0, 1) := by decide +kernel
theorem dX11_years_112 : decode cX11_years 112 = .ok (.getfield 19, 3) := by decide +kernel
theorem dX11_years_115 : decode cX11_years 115 = .ok (.aload_n 0, 1) := by decide +kernel
theorem dX11_years_116 : decode cX11_years 116 = .ok (.getfield 47, 3) := by decide +kernel
theorem dX11_years_119 : decode cX11_years 119 = .ok (.invokevirtual 370, 3) := by decide +kernel
theorem dX11_years_122 : decode cX11_years 122 = .ok (.ladd, 1) := by decide +kernel
theorem dX11_years_123 : decode cX11_years 123 = .ok (.lstore 8, 2) := by decide +kernel
theorem dX11_years_125 : decode cX11_years 125 = .ok (.iinc 10 1, 3) := by decide +kernel
theorem dX11_years_128 : decode cX11_years 128 = .ok (.goto (-64), 3) := by decide +kernel
theorem dX11_years_131 : decode cX11_years 131 = .ok (.iload_n 3, 1) := by decide +kernel
theorem dX11_years_132 : decode cX11_years 132 = .ok (.ifCond .ne 8, 3) := by decide +kernel
theorem dX11_years_135 : decode cX11_years 135 = .ok (.lload 4, 2) := by decide +kernel
theorem dX11_years_137 : decode cX11_years 137 = .ok (.goto 15, 3) := by decide +kernel
theorem dX11_years_140 : decode cX11_years 140 = .ok (.iload_n 3, 1) := by decide +kernel
theorem dX11_years_141 : decode cX11_years 141 = .ok (.iconst 1, 1) := by decide +kernel
theorem dX11_years_142 : decode cX11_years 142 = .ok (.if_icmp .ne 8, 3) := by decide +kernel
theorem dX11_years_145 : decode cX11_years 145 = .ok (.lload 6, 2) := by decide +kernel
theorem dX11_years_147 : decode cX11_years 147 = .ok (.goto 5, 3) := by decide +kernel
theorem dX11_years_150 : decode cX11_years 150 = .ok (.lload 8, 2) := by decide +kernel
theorem dX11_years_152 : decode cX11_years 152 = .ok (.lreturn, 1) := by decide +kernel
theorem dX11_count_0 : decode cX11_count 0 = .ok (.iload_n 1, 1) := by decide +kernel
theorem dX11_count_1 : decode cX11_count 1 = .ok (.tableswitch 208 0 12 #[67, 75, 83, 94, 105, 116, 127, 135, 146, 157, 173, 181, 200], 67) := by decide +kernel
theorem dX11_count_68 : decode cX11_count 68 = .ok (.aload_n 0, 1) := by decide +kernel
theorem dX11_count_69 : decode cX11_count 69 = .ok (.getfield 19, 3) := by decide +kernel
theorem dX11_count_72 : decode cX11_count 72 = .ok (.getfield 232, 3) := by decide +kernel
theorem dX11_count_75 : decode cX11_count 75 = .ok (.ireturn, 1) := by decide +kernel
theorem dX11_count_76 : decode cX11_count 76 = .ok (.aload_n 0, 1) := by decide +kernel
theorem dX11_count_77 : decode cX11_count 77 = .ok (.getfield 19, 3) := by decide +kernel
theorem dX11_count_80 : decode cX11_count 80 = .ok (.getfield 338, 3) := by decide +kernel
theorem dX11_count_83 : decode cX11_count 83 = .ok (.ireturn, 1) := by decide +kernel
theorem dX11_count_84 : decode cX11_count 84 = .ok (.aload_n 0, 1) := by decide +kernel
theorem dX11_count_85 : decode cX11_count 85 = .ok (.getfield 19, 3) := by decide +kernel
theorem dX11_count_88 : decode cX11_count 88 = .ok (.getfield 374, 3) := by decide +kernel
theorem dX11_count_91 : decode cX11_count 91 = .ok (.getfield 378, 3) := by decide +kernel
theorem dX11_count_94 : decode cX11_count 94 = .ok (.ireturn, 1) := by decide +kernel
theorem dX11_count_95 : decode cX11_count 95 = .ok (.aload_n 0, 1) := by decide +kernel
theorem dX11_count_96 : decode cX11_count 96 = .ok (.getfield 19, 3) := by decide +kernel
theorem dX11_count_99 : decode cX11_count 99 = .ok (.getfield 306, 3) := by decide +kernel
theorem dX11_count_102 : decode cX11_count 102 = .ok (.getfield 310, 3) := by decide +kernel
theorem dX11_count_105 : decode cX11_count 105 = .ok (.ireturn, 1) := by decide +kernel
theorem dX11_count_106 : decode cX11_count 106 = .ok (.aload_n 0, 1) := by decide +kernel
theorem dX11_count_107 : decode cX11_count 107 = .ok (.getfield 19, 3) := by decide +kernel
theorem dX11_count_110 : decode cX11_count 110 = .ok (.getfield 97, 3) := by decide +kernel
theorem dX11_count_113 : decode cX11_count 113 = .ok (.getfield 161, 3) := by decide +kernel
theorem dX11_count_116 : decode cX11_count 116 = .ok (.ireturn, 1) := by decide +kernel
theorem dX11_count_117 : decode cX11_count 117 = .ok (.aload_n 0, 1) := by decide +kernel
theorem dX11_count_118 : decode cX11_count 118 = .ok (.getfield 19, 3) := by decide +kernel
theorem dX11_count_121 : decode cX11_count 121 = .ok (.getfield 279, 3) := by decide +kernel
theorem dX11_count_124 : decode cX11_count 124 = .ok (.getfield 283, 3) := by decide +kernel
theorem dX11_count_127 : decode cX11_count 127 = .ok (.ireturn, 1) := by decide +kernel
theorem dX11_count_128 : decode cX11_count 128 = .ok (.aload_n 0, 1) := by decide +kernel
theorem dX11_count_129 : decode cX11_count 129 = .ok (.getfield 19, 3) := by decide +kernel
theorem dX11_count_132 : decode cX11_count 132 = .ok (.getfield 77, 3) := by decide +kernel
theorem dX11_count_135 : decode cX11_count 135 = .ok (.ireturn, 1) := by decide +kernel
theorem dX11_count_136 : decode cX11_count 136 = .ok (.aload_n 0, 1) := by decide +kernel
theorem dX11_count_137 : decode cX11_count 137 = .ok (.getfield 10, 3) := by decide +kernel
theorem dX11_count_140 : decode cX11_count 140 = .ok (.getfield 55, 3) := by decide +kernel
theorem dX11_count_143 : decode cX11_count 143 = .ok (.getfield 59, 3) := by decide +kernel
theorem dX11_count_146 : decode cX11_count 146 = .ok (.ireturn, 1) := by decide +kernel
theorem dX11_count_147 : decode cX11_count 147 = .ok (.aload_n 0, 1) := by decide +kernel
theorem dX11_count_148 : decode cX11_count 148 = .ok (.getfield 19, 3) := by decide +kernel
theorem dX11_count_151 : decode cX11_count 151 = .ok (.getfield 97, 3) := by decide +kernel
theorem dX11_count_154 : decode cX11_count 154 = .ok (.invokevirtual 127, 3) := by decide +kernel
theorem dX11_count_157 : decode cX11_count 157 = .ok (.ireturn, 1) := by decide +kernel
theorem dX11_count_158 : decode cX11_count 158 = .ok (.aload_n 0, 1) := by decide +kernel
theorem dX11_count_159 : decode cX11_count 159 = .ok (.getfield 19, 3) := by decide +kernel
theorem dX11_count_162 : decode cX11_count 162 = .ok (.getfield 245, 3) := by decide +kernel
theorem dX11_count_165 : decode cX11_count 165 = .ok (.ifCond .eq 7, 3) := by decide +kernel
theorem dX11_count_168 : decode cX11_count 168 = .ok (.iconst 1, 1) := by decide +kernel
theorem dX11_count_169 : decode cX11_count 169 = .ok (.goto 4, 3) := by decide +kernel
theorem dX11_count_172 : decode cX11_count 172 = .ok (.iconst 0, 1) := by decide +kernel
theorem dX11_count_173 : decode cX11_count 173 = .ok (.ireturn, 1) := by decide +kernel
theorem dX11_count_174 : decode cX11_count 174 = .ok (.aload_n 0, 1) := by decide +kernel
theorem dX11_count_175 : decode cX11_count 175 = .ok (.getfield 19, 3) := by decide +kernel
theorem dX11_count_178 : decode cX11_count 178 = .ok (.invokevirtual 219, 3) := by decide +kernel
theorem dX11_count_181 : decode cX11_count 181 = .ok (.ireturn, 1) := by decide +kernel
theorem dX11_count_182 : decode cX11_count 182 = .ok (.aload_n 0, 1) := by decide +kernel
theorem dX11_count_183 : decode cX11_count 183 = .ok (.getfield 19, 3) := by decide +kernel
theorem dX11_count_186 : decode cX11_count 186 = .ok (.getfield 325, 3) := by decide +kernel
theorem dX11_count_189 : decode cX11_count 189 = .ok (.getfield 357, 3) := by decide +kernel
theorem dX11_count_192 : decode cX11_count 192 = .ok (.ifCond .eq 7, 3) := by decide +kernel
theorem dX11_count_195 : decode cX11_count 195 = .ok (.iconst 1, 1) := by decide +kernel
theorem dX11_count_196 : decode cX11_count 196 = .ok (.goto 4, 3) := by decide +kernel
theorem dX11_count_199 : decode cX11_count 199 = .ok (.iconst 0, 1) := by decide +kernel
theorem dX11_count_200 : decode cX11_count 200 = .ok (.ireturn, 1) := by decide +kernel
theorem dX11_count_201 : decode cX11_count 201 = .ok (.aload_n 0, 1) := by decide +kernel
theorem dX11_count_202 : decode cX11_count 202 = .ok (.getfield 33, 3) := by decide +kernel
theorem dX11_count_205 : decode cX11_count 205 = .ok (.invokevirtual 381, 3) := by decide +kernel
theorem dX11_count_208 : decode cX11_count 208 = .ok (.ireturn, 1) := by decide +kernel
theorem dX11_count_209 : decode cX11_count 209 = .ok (.iconst (-1), 1) := by decide +kernel
theorem dX11_count_210 : decode cX11_count 210 = .ok (.ireturn, 1) := by decide +kernel
theorem dX11_keep_0 : decode cX11_keep 0 = .ok (.iload_n 1, 1) := by decide +kernel
theorem dX11_keep_1 : decode cX11_keep 1 = .ok (.invokestatic 313, 3) := by decide +kernel
theorem dX11_keep_4 : decode cX11_keep 4 = .ok (.ifCond .ne 6, 3) := by decide +kernel
theorem dX11_keep_7 : decode cX11_keep 7 = .ok (.bipush (-2), 2) := by decide +kernel
theorem dX11_keep_9 : decode cX11_keep 9 = .ok (.ireturn, 1) := by decide +kernel
theorem dX11_keep_10 : decode cX11_keep 10 = .ok (.aload_n 0, 1) := by decide +kernel
theorem dX11_keep_11 : decode cX11_keep 11 = .ok (.getfield 26, 3) := by decide +kernel
theorem dX11_keep_14 : decode cX11_keep 14 = .ok (.iload_n 1, 1) := by decide +kernel
theorem dX11_keep_15 : decode cX11_keep 15 = .ok (.aaload, 1) := by decide +kernel
theorem dX11_keep_16 : decode cX11_keep 16 = .ok (.astore_n 2, 1) := by decide +kernel
theorem dX11_keep_17 : decode cX11_keep 17 = .ok (.aload_n 2, 1) := by decide +kernel
theorem dX11_keep_18 : decode cX11_keep 18 = .ok (.ifnonnull 18, 3) := by decide +kernel
theorem dX11_keep_21 : decode cX11_keep 21 = .ok (.new 16, 3) := by decide +kernel
theorem dX11_keep_24 : decode cX11_keep 24 = .ok (.dup, 1) := by decide +kernel
theorem dX11_keep_25 : decode cX11_keep 25 = .ok (.invokespecial 18, 3) := by decide +kernel
theorem dX11_keep_28 : decode cX11_keep 28 = .ok (.astore_n 2, 1) := by decide +kernel
theorem dX11_keep_29 : decode cX11_keep 29 = .ok (.aload_n 0, 1) := by decide +kernel
theorem dX11_keep_30 : decode cX11_keep 30 = .ok (.getfield 26, 3) := by decide +kernel
theorem dX11_keep_33 : decode cX11_keep 33 = .ok (.iload_n 1, 1) := by decide +kernel
theorem dX11_keep_34 : decode cX11_keep 34 = .ok (.aload_n 2, 1) := by decide +kernel
theorem dX11_keep_35 : decode cX11_keep 35 = .ok (.aastore, 1) := by decide +kernel
theorem dX11_keep_36 : decode cX11_keep 36 = .ok (.aload_n 2, 1) := by decide +kernel
theorem dX11_keep_37 : decode cX11_keep 37 = .ok (.aload_n 0, 1) := by decide +kernel
theorem dX11_keep_38 : decode cX11_keep 38 = .ok (.getfield 19, 3) := by decide +kernel
theorem dX11_keep_41 : decode cX11_keep 41 = .ok (.invokevirtual 73, 3) := by decide +kernel
theorem dX11_keep_44 : decode cX11_keep 44 = .ok (.iconst 0, 1) := by decide +kernel
theorem dX11_keep_45 : decode cX11_keep 45 = .ok (.ireturn, 1) := by decide +kernel
theorem dX11_back_0 : decode cX11_back 0 = .ok (.iload_n 1, 1) := by decide +kernel
theorem dX11_back_1 : decode cX11_back 1 = .ok (.invokestatic 313, 3) := by decide +kernel
theorem dX11_back_4 : decode cX11_back 4 = .ok (.ifCond .ne 6, 3) := by decide +kernel
theorem dX11_back_7 : decode cX11_back 7 = .ok (.bipush (-2), 2) := by decide +kernel
theorem dX11_back_9 : decode cX11_back 9 = .ok (.ireturn, 1) := by decide +kernel
theorem dX11_back_10 : decode cX11_back 10 = .ok (.aload_n 0, 1) := by decide +kernel
theorem dX11_back_11 : decode cX11_back 11 = .ok (.getfield 26, 3) := by decide +kernel
theorem dX11_back_14 : decode cX11_back 14 = .ok (.iload_n 1, 1) := by decide +kernel
theorem dX11_back_15 : decode cX11_back 15 = .ok (.aaload, 1) := by decide +kernel
theorem dX11_back_16 : decode cX11_back 16 = .ok (.astore_n 2, 1) := by decide +kernel
theorem dX11_back_17 : decode cX11_back 17 = .ok (.aload_n 2, 1) := by decide +kernel
theorem dX11_back_18 : decode cX11_back 18 = .ok (.ifnonnull 6, 3) := by decide +kernel
theorem dX11_back_21 : decode cX11_back 21 = .ok (.bipush (-6), 2) := by decide +kernel
theorem dX11_back_23 : decode cX11_back 23 = .ok (.ireturn, 1) := by decide +kernel
theorem dX11_back_24 : decode cX11_back 24 = .ok (.aload_n 0, 1) := by decide +kernel
theorem dX11_back_25 : decode cX11_back 25 = .ok (.getfield 19, 3) := by decide +kernel
theorem dX11_back_28 : decode cX11_back 28 = .ok (.aload_n 2, 1) := by decide +kernel
theorem dX11_back_29 : decode cX11_back 29 = .ok (.invokevirtual 73, 3) := by decide +kernel
theorem dX11_back_32 : decode cX11_back 32 = .ok (.iconst 0, 1) := by decide +kernel
theorem dX11_back_33 : decode cX11_back 33 = .ok (.ireturn, 1) := by decide +kernel
theorem dX11_row_0 : decode cX11_row 0 = .ok (.aload_n 0, 1) := by decide +kernel
theorem dX11_row_1 : decode cX11_row 1 = .ok (.getfield 33, 3) := by decide +kernel
theorem dX11_row_4 : decode cX11_row 4 = .ok (.iload_n 1, 1) := by decide +kernel
theorem dX11_row_5 : decode cX11_row 5 = .ok (.invokevirtual 332, 3) := by decide +kernel
theorem dX11_row_8 : decode cX11_row 8 = .ok (.ifCond .eq 18, 3) := by decide +kernel
theorem dX11_row_11 : decode cX11_row 11 = .ok (.iload_n 2, 1) := by decide +kernel
theorem dX11_row_12 : decode cX11_row 12 = .ok (.ifCond .lt 14, 3) := by decide +kernel
theorem dX11_row_15 : decode cX11_row 15 = .ok (.iload_n 2, 1) := by decide +kernel
theorem dX11_row_16 : decode cX11_row 16 = .ok (.iconst 4, 1) := by decide +kernel
theorem dX11_row_17 : decode cX11_row 17 = .ok (.if_icmp .ge 9, 3) := by decide +kernel
theorem dX11_row_20 : decode cX11_row 20 = .ok (.iload_n 3, 1) := by decide +kernel
theorem dX11_row_21 : decode cX11_row 21 = .ok (.bipush 60, 2) := by decide +kernel
theorem dX11_row_23 : decode cX11_row 23 = .ok (.if_icmp .le 6, 3) := by decide +kernel
theorem dX11_row_26 : decode cX11_row 26 = .ok (.bipush (-2), 2) := by decide +kernel
theorem dX11_row_28 : decode cX11_row 28 = .ok (.ireturn, 1) := by decide +kernel
theorem dX11_row_29 : decode cX11_row 29 = .ok (.iload_n 3, 1) := by decide +kernel
theorem dX11_row_30 : decode cX11_row 30 = .ok (.ifCond .ge 6, 3) := by decide +kernel
theorem dX11_row_33 : decode cX11_row 33 = .ok (.bipush (-3), 2) := by decide +kernel
theorem dX11_row_35 : decode cX11_row 35 = .ok (.ireturn, 1) := by decide +kernel
theorem dX11_row_36 : decode cX11_row 36 = .ok (.aload_n 0, 1) := by decide +kernel
theorem dX11_row_37 : decode cX11_row 37 = .ok (.getfield 33, 3) := by decide +kernel
theorem dX11_row_40 : decode cX11_row 40 = .ok (.iload_n 1, 1) := by decide +kernel
theorem dX11_row_41 : decode cX11_row 41 = .ok (.iload_n 2, 1) := by decide +kernel
theorem dX11_row_42 : decode cX11_row 42 = .ok (.iload_n 3, 1) := by decide +kernel
theorem dX11_row_43 : decode cX11_row 43 = .ok (.invokevirtual 384, 3) := by decide +kernel
theorem dX11_row_46 : decode cX11_row 46 = .ok (.iconst 0, 1) := by decide +kernel
theorem dX11_row_47 : decode cX11_row 47 = .ok (.ireturn, 1) := by decide +kernel
theorem dX11_write_0 : decode cX11_write 0 = .ok (.aload_n 0, 1) := by decide +kernel
theorem dX11_write_1 : decode cX11_write 1 = .ok (.getfield 33, 3) := by decide +kernel
theorem dX11_write_4 : decode cX11_write 4 = .ok (.iload_n 1, 1) := by decide +kernel
theorem dX11_write_5 : decode cX11_write 5 = .ok (.invokevirtual 332, 3) := by decide +kernel
theorem dX11_write_8 : decode cX11_write 8 = .ok (.ifCond .ne 6, 3) := by decide +kernel
theorem dX11_write_11 : decode cX11_write 11 = .ok (.bipush (-2), 2) := by decide +kernel
theorem dX11_write_13 : decode cX11_write 13 = .ok (.ireturn, 1) := by decide +kernel
theorem dX11_write_14 : decode cX11_write 14 = .ok (.aload_n 0, 1) := by decide +kernel
theorem dX11_write_15 : decode cX11_write 15 = .ok (.getfield 33, 3) := by decide +kernel
theorem dX11_write_18 : decode cX11_write 18 = .ok (.iload_n 1, 1) := by decide +kernel
theorem dX11_write_19 : decode cX11_write 19 = .ok (.invokevirtual 335, 3) := by decide +kernel
theorem dX11_write_22 : decode cX11_write 22 = .ok (.ifCond .ne 6, 3) := by decide +kernel
theorem dX11_write_25 : decode cX11_write 25 = .ok (.bipush (-6), 2) := by decide +kernel
theorem dX11_write_27 : decode cX11_write 27 = .ok (.ireturn, 1) := by decide +kernel
theorem dX11_write_28 : decode cX11_write 28 = .ok (.iload_n 2, 1) := by decide +kernel
theorem dX11_write_29 : decode cX11_write 29 = .ok (.ifCond .lt 15, 3) := by decide +kernel
theorem dX11_write_32 : decode cX11_write 32 = .ok (.iload_n 2, 1) := by decide +kernel
theorem dX11_write_33 : decode cX11_write 33 = .ok (.aload_n 0, 1) := by decide +kernel
theorem dX11_write_34 : decode cX11_write 34 = .ok (.getfield 33, 3) := by decide +kernel
theorem dX11_write_37 : decode cX11_write 37 = .ok (.iload_n 1, 1) := by decide +kernel
theorem dX11_write_38 : decode cX11_write 38 = .ok (.invokevirtual 347, 3) := by decide +kernel
theorem dX11_write_41 : decode cX11_write 41 = .ok (.if_icmp .lt 6, 3) := by decide +kernel
theorem dX11_write_44 : decode cX11_write 44 = .ok (.bipush (-7), 2) := by decide +kernel
theorem dX11_write_46 : decode cX11_write 46 = .ok (.ireturn, 1) := by decide +kernel
theorem dX11_write_47 : decode cX11_write 47 = .ok (.aload_n 0, 1) := by decide +kernel
theorem dX11_write_48 : decode cX11_write 48 = .ok (.getfield 33, 3) := by decide +kernel
theorem dX11_write_51 : decode cX11_write 51 = .ok (.iload_n 1, 1) := by decide +kernel
theorem dX11_write_52 : decode cX11_write 52 = .ok (.iload_n 2, 1) := by decide +kernel
theorem dX11_write_53 : decode cX11_write 53 = .ok (.lload_n 3, 1) := by decide +kernel
theorem dX11_write_54 : decode cX11_write 54 = .ok (.invokevirtual 388, 3) := by decide +kernel
theorem dX11_write_57 : decode cX11_write 57 = .ok (.iconst 0, 1) := by decide +kernel
theorem dX11_write_58 : decode cX11_write 58 = .ok (.ireturn, 1) := by decide +kernel
theorem dX11_paste_0 : decode cX11_paste 0 = .ok (.aload_n 0, 1) := by decide +kernel
theorem dX11_paste_1 : decode cX11_paste 1 = .ok (.getfield 33, 3) := by decide +kernel
theorem dX11_paste_4 : decode cX11_paste 4 = .ok (.iload_n 1, 1) := by decide +kernel
theorem dX11_paste_5 : decode cX11_paste 5 = .ok (.invokevirtual 332, 3) := by decide +kernel
theorem dX11_paste_8 : decode cX11_paste 8 = .ok (.ifCond .eq 14, 3) := by decide +kernel
theorem dX11_paste_11 : decode cX11_paste 11 = .ok (.aload_n 0, 1) := by decide +kernel
theorem dX11_paste_12 : decode cX11_paste 12 = .ok (.getfield 33, 3) := by decide +kernel
theorem dX11_paste_15 : decode cX11_paste 15 = .ok (.iload_n 3, 1) := by decide +kernel
theorem dX11_paste_16 : decode cX11_paste 16 = .ok (.invokevirtual 332, 3) := by decide +kernel
theorem dX11_paste_19 : decode cX11_paste 19 = .ok (.ifCond .ne 6, 3) := by decide +kernel
theorem dX11_paste_22 : decode cX11_paste 22 = .ok (.bipush (-2), 2) := by decide +kernel
theorem dX11_paste_24 : decode cX11_paste 24 = .ok (.ireturn, 1) := by decide +kernel
theorem dX11_paste_25 : decode cX11_paste 25 = .ok (.aload_n 0, 1) := by decide +kernel
theorem dX11_paste_26 : decode cX11_paste 26 = .ok (.getfield 33, 3) := by decide +kernel
theorem dX11_paste_29 : decode cX11_paste 29 = .ok (.iload_n 1, 1) := by decide +kernel
theorem dX11_paste_30 : decode cX11_paste 30 = .ok (.invokevirtual 335, 3) := by decide +kernel
theorem dX11_paste_33 : decode cX11_paste 33 = .ok (.ifCond .eq 14, 3) := by decide +kernel
theorem dX11_paste_36 : decode cX11_paste 36 = .ok (.aload_n 0, 1) := by decide +kernel
theorem dX11_paste_37 : decode cX11_paste 37 = .ok (.getfield 33, 3) := by decide +kernel
theorem dX11_paste_40 : decode cX11_paste 40 = .ok (.iload_n 3, 1) := by decide +kernel
theorem dX11_paste_41 : decode cX11_paste 41 = .ok (.invokevirtual 335, 3) := by decide +kernel
theorem dX11_paste_44 : decode cX11_paste 44 = .ok (.ifCond .ne 6, 3) := by decide +kernel
theorem dX11_paste_47 : decode cX11_paste 47 = .ok (.bipush (-6), 2) := by decide +kernel
theorem dX11_paste_49 : decode cX11_paste 49 = .ok (.ireturn, 1) := by decide +kernel
theorem dX11_paste_50 : decode cX11_paste 50 = .ok (.aload_n 0, 1) := by decide +kernel
theorem dX11_paste_51 : decode cX11_paste 51 = .ok (.getfield 33, 3) := by decide +kernel
theorem dX11_paste_54 : decode cX11_paste 54 = .ok (.iload_n 1, 1) := by decide +kernel
theorem dX11_paste_55 : decode cX11_paste 55 = .ok (.iload_n 3, 1) := by decide +kernel
theorem dX11_paste_56 : decode cX11_paste 56 = .ok (.invokevirtual 392, 3) := by decide +kernel
theorem dX11_paste_59 : decode cX11_paste 59 = .ok (.ifCond .ne 6, 3) := by decide +kernel
theorem dX11_paste_62 : decode cX11_paste 62 = .ok (.bipush (-8), 2) := by decide +kernel
theorem dX11_paste_64 : decode cX11_paste 64 = .ok (.ireturn, 1) := by decide +kernel
theorem dX11_paste_65 : decode cX11_paste 65 = .ok (.aload_n 0, 1) := by decide +kernel
theorem dX11_paste_66 : decode cX11_paste 66 = .ok (.getfield 33, 3) := by decide +kernel
theorem dX11_paste_69 : decode cX11_paste 69 = .ok (.iload_n 1, 1) := by decide +kernel
theorem dX11_paste_70 : decode cX11_paste 70 = .ok (.iload_n 2, 1) := by decide +kernel
theorem dX11_paste_71 : decode cX11_paste 71 = .ok (.iload 5, 2) := by decide +kernel
theorem dX11_paste_73 : decode cX11_paste 73 = .ok (.invokevirtual 395, 3) := by decide +kernel
theorem dX11_paste_76 : decode cX11_paste 76 = .ok (.ifCond .eq 18, 3) := by decide +kernel
theorem dX11_paste_79 : decode cX11_paste 79 = .ok (.aload_n 0, 1) := by decide +kernel
theorem dX11_paste_80 : decode cX11_paste 80 = .ok (.getfield 33, 3) := by decide +kernel
theorem dX11_paste_83 : decode cX11_paste 83 = .ok (.iload_n 3, 1) := by decide +kernel
theorem dX11_paste_84 : decode cX11_paste 84 = .ok (.iload 4, 2) := by decide +kernel
theorem dX11_paste_86 : decode cX11_paste 86 = .ok (.iload 5, 2) := by decide +kernel
theorem dX11_paste_88 : decode cX11_paste 88 = .ok (.invokevirtual 395, 3) := by decide +kernel
theorem dX11_paste_91 : decode cX11_paste 91 = .ok (.ifCond .ne 6, 3) := by decide +kernel
theorem dX11_paste_94 : decode cX11_paste 94 = .ok (.bipush (-7), 2) := by decide +kernel
theorem dX11_paste_96 : decode cX11_paste 96 = .ok (.ireturn, 1) := by decide +kernel
theorem dX11_paste_97 : decode cX11_paste 97 = .ok (.aload_n 0, 1) := by decide +kernel
theorem dX11_paste_98 : decode cX11_paste 98 = .ok (.getfield 33, 3) := by decide +kernel
theorem dX11_paste_101 : decode cX11_paste 101 = .ok (.iload_n 1, 1) := by decide +kernel
theorem dX11_paste_102 : decode cX11_paste 102 = .ok (.iload_n 2, 1) := by decide +kernel
theorem dX11_paste_103 : decode cX11_paste 103 = .ok (.iload_n 3, 1) := by decide +kernel
theorem dX11_paste_104 : decode cX11_paste 104 = .ok (.iload 4, 2) := by decide +kernel
theorem dX11_paste_106 : decode cX11_paste 106 = .ok (.iload 5, 2) := by decide +kernel
theorem dX11_paste_108 : decode cX11_paste 108 = .ok (.invokevirtual 398, 3) := by decide +kernel
theorem dX11_paste_111 : decode cX11_paste 111 = .ok (.iconst 0, 1) := by decide +kernel
theorem dX11_paste_112 : decode cX11_paste 112 = .ok (.ireturn, 1) := by decide +kernel
theorem dX11_isCost_0 : decode cX11_isCost 0 = .ok (.iload_n 0, 1) := by decide +kernel
theorem dX11_isCost_1 : decode cX11_isCost 1 = .ok (.ifCond .lt 12, 3) := by decide +kernel
theorem dX11_isCost_4 : decode cX11_isCost 4 = .ok (.iload_n 0, 1) := by decide +kernel
theorem dX11_isCost_5 : decode cX11_isCost 5 = .ok (.iconst 2, 1) := by decide +kernel
theorem dX11_isCost_6 : decode cX11_isCost 6 = .ok (.if_icmp .gt 7, 3) := by decide +kernel
theorem dX11_isCost_9 : decode cX11_isCost 9 = .ok (.iconst 1, 1) := by decide +kernel
theorem dX11_isCost_10 : decode cX11_isCost 10 = .ok (.goto 4, 3) := by decide +kernel
theorem dX11_isCost_13 : decode cX11_isCost 13 = .ok (.iconst 0, 1) := by decide +kernel
theorem dX11_isCost_14 : decode cX11_isCost 14 = .ok (.ireturn, 1) := by decide +kernel
theorem dX11_isBright_0 : decode cX11_isBright 0 = .ok (.iload_n 0, 1) := by decide +kernel
theorem dX11_isBright_1 : decode cX11_isBright 1 = .ok (.ifCond .lt 13, 3) := by decide +kernel
theorem dX11_isBright_4 : decode cX11_isBright 4 = .ok (.iload_n 0, 1) := by decide +kernel
theorem dX11_isBright_5 : decode cX11_isBright 5 = .ok (.bipush 99, 2) := by decide +kernel
theorem dX11_isBright_7 : decode cX11_isBright 7 = .ok (.if_icmp .gt 7, 3) := by decide +kernel
theorem dX11_isBright_10 : decode cX11_isBright 10 = .ok (.iconst 1, 1) := by decide +kernel
theorem dX11_isBright_11 : decode cX11_isBright 11 = .ok (.goto 4, 3) := by decide +kernel
theorem dX11_isBright_14 : decode cX11_isBright 14 = .ok (.iconst 0, 1) := by decide +kernel
theorem dX11_isBright_15 : decode cX11_isBright 15 = .ok (.ireturn, 1) := by decide +kernel
theorem dX11_isSeed_0 : decode cX11_isSeed 0 = .ok (.iload_n 0, 1) := by decide +kernel
theorem dX11_isSeed_1 : decode cX11_isSeed 1 = .ok (.ifCond .lt 14, 3) := by decide +kernel
theorem dX11_isSeed_4 : decode cX11_isSeed 4 = .ok (.iload_n 0, 1) := by decide +kernel
theorem dX11_isSeed_5 : decode cX11_isSeed 5 = .ok (.ldc_w 402, 3) := by decide +kernel
theorem dX11_isSeed_8 : decode cX11_isSeed 8 = .ok (.if_icmp .gt 7, 3) := by decide +kernel
theorem dX11_isSeed_11 : decode cX11_isSeed 11 = .ok (.iconst 1, 1) := by decide +kernel
theorem dX11_isSeed_12 : decode cX11_isSeed 12 = .ok (.goto 4, 3) := by decide +kernel
theorem dX11_isSeed_15 : decode cX11_isSeed 15 = .ok (.iconst 0, 1) := by decide +kernel
theorem dX11_isSeed_16 : decode cX11_isSeed 16 = .ok (.ireturn, 1) := by decide +kernel
theorem dX11_isImage_0 : decode cX11_isImage 0 = .ok (.iload_n 0, 1) := by decide +kernel
theorem dX11_isImage_1 : decode cX11_isImage 1 = .ok (.ifCond .lt 12, 3) := by decide +kernel
theorem dX11_isImage_4 : decode cX11_isImage 4 = .ok (.iload_n 0, 1) := by decide +kernel
theorem dX11_isImage_5 : decode cX11_isImage 5 = .ok (.iconst 3, 1) := by decide +kernel
theorem dX11_isImage_6 : decode cX11_isImage 6 = .ok (.if_icmp .ge 7, 3) := by decide +kernel
theorem dX11_isImage_9 : decode cX11_isImage 9 = .ok (.iconst 1, 1) := by decide +kernel
theorem dX11_isImage_10 : decode cX11_isImage 10 = .ok (.goto 4, 3) := by decide +kernel
theorem dX11_isImage_13 : decode cX11_isImage 13 = .ok (.iconst 0, 1) := by decide +kernel
theorem dX11_isImage_14 : decode cX11_isImage 14 = .ok (.ireturn, 1) := by decide +kernel
theorem dX11_areTwo_0 : decode cX11_areTwo 0 = .ok (.aload_n 0, 1) := by decide +kernel
theorem dX11_areTwo_1 : decode cX11_areTwo 1 = .ok (.getfield 19, 3) := by decide +kernel
theorem dX11_areTwo_4 : decode cX11_areTwo 4 = .ok (.iload_n 1, 1) := by decide +kernel
theorem dX11_areTwo_5 : decode cX11_areTwo 5 = .ok (.invokevirtual 94, 3) := by decide +kernel
theorem dX11_areTwo_8 : decode cX11_areTwo 8 = .ok (.ifCond .eq 23, 3) := by decide +kernel
theorem dX11_areTwo_11 : decode cX11_areTwo 11 = .ok (.aload_n 0, 1) := by decide +kernel
theorem dX11_areTwo_12 : decode cX11_areTwo 12 = .ok (.getfield 19, 3) := by decide +kernel
theorem dX11_areTwo_15 : decode cX11_areTwo 15 = .ok (.iload_n 2, 1) := by decide +kernel
theorem dX11_areTwo_16 : decode cX11_areTwo 16 = .ok (.invokevirtual 94, 3) := by decide +kernel
theorem dX11_areTwo_19 : decode cX11_areTwo 19 = .ok (.ifCond .eq 12, 3) := by decide +kernel
theorem dX11_areTwo_22 : decode cX11_areTwo 22 = .ok (.iload_n 1, 1) := by decide +kernel
theorem dX11_areTwo_23 : decode cX11_areTwo 23 = .ok (.iload_n 2, 1) := by decide +kernel
theorem dX11_areTwo_24 : decode cX11_areTwo 24 = .ok (.if_icmp .eq 7, 3) := by decide +kernel
theorem dX11_areTwo_27 : decode cX11_areTwo 27 = .ok (.iconst 1, 1) := by decide +kernel
theorem dX11_areTwo_28 : decode cX11_areTwo 28 = .ok (.goto 4, 3) := by decide +kernel
theorem dX11_areTwo_31 : decode cX11_areTwo 31 = .ok (.iconst 0, 1) := by decide +kernel
theorem dX11_areTwo_32 : decode cX11_areTwo 32 = .ok (.ireturn, 1) := by decide +kernel
theorem dX11_isCover_0 : decode cX11_isCover 0 = .ok (.aload_n 0, 1) := by decide +kernel
theorem dX11_isCover_1 : decode cX11_isCover 1 = .ok (.getfield 19, 3) := by decide +kernel
theorem dX11_isCover_4 : decode cX11_isCover 4 = .ok (.iload_n 1, 1) := by decide +kernel
theorem dX11_isCover_5 : decode cX11_isCover 5 = .ok (.invokevirtual 94, 3) := by decide +kernel
theorem dX11_isCover_8 : decode cX11_isCover 8 = .ok (.ifCond .eq 28, 3) := by decide +kernel
theorem dX11_isCover_11 : decode cX11_isCover 11 = .ok (.iload_n 2, 1) := by decide +kernel
theorem dX11_isCover_12 : decode cX11_isCover 12 = .ok (.ifCond .lt 24, 3) := by decide +kernel
theorem dX11_isCover_15 : decode cX11_isCover 15 = .ok (.iload_n 2, 1) := by decide +kernel
theorem dX11_isCover_16 : decode cX11_isCover 16 = .ok (.sipush 9999, 3) := by decide +kernel
theorem dX11_isCover_19 : decode cX11_isCover 19 = .ok (.if_icmp .gt 17, 3) := by decide +kernel
theorem dX11_isCover_22 : decode cX11_isCover 22 = .ok (.iload_n 3, 1) := by decide +kernel
theorem dX11_isCover_23 : decode cX11_isCover 23 = .ok (.ifCond .lt 13, 3) := by decide +kernel
theorem dX11_isCover_26 : decode cX11_isCover 26 = .ok (.iload_n 3, 1) := by decide +kernel
theorem dX11_isCover_27 : decode cX11_isCover 27 = .ok (.bipush 100, 2) := by decide +kernel
theorem dX11_isCover_29 : decode cX11_isCover 29 = .ok (.if_icmp .gt 7, 3) := by decide +kernel
theorem dX11_isCover_32 : decode cX11_isCover 32 = .ok (.iconst 1, 1) := by decide +kernel
theorem dX11_isCover_33 : decode cX11_isCover 33 = .ok (.goto 4, 3) := by decide +kernel
theorem dX11_isCover_36 : decode cX11_isCover 36 = .ok (.iconst 0, 1) := by decide +kernel
theorem dX11_isCover_37 : decode cX11_isCover 37 = .ok (.ireturn, 1) := by decide +kernel
theorem dX11_refusedBait_0 : decode cX11_refusedBait 0 = .ok (.aload_n 0, 1) := by decide +kernel
theorem dX11_refusedBait_1 : decode cX11_refusedBait 1 = .ok (.getfield 19, 3) := by decide +kernel
theorem dX11_refusedBait_4 : decode cX11_refusedBait 4 = .ok (.iload_n 1, 1) := by decide +kernel
theorem dX11_refusedBait_5 : decode cX11_refusedBait 5 = .ok (.invokevirtual 86, 3) := by decide +kernel
theorem dX11_refusedBait_8 : decode cX11_refusedBait 8 = .ok (.ifCond .eq 24, 3) := by decide +kernel
theorem dX11_refusedBait_11 : decode cX11_refusedBait 11 = .ok (.iload_n 2, 1) := by decide +kernel
theorem dX11_refusedBait_12 : decode cX11_refusedBait 12 = .ok (.ifCond .lt 20, 3) := by decide +kernel
theorem dX11_refusedBait_15 : decode cX11_refusedBait 15 = .ok (.iload_n 2, 1) := by decide +kernel
theorem dX11_refusedBait_16 : decode cX11_refusedBait 16 = .ok (.sipush 9999, 3) := by decide +kernel
theorem dX11_refusedBait_19 : decode cX11_refusedBait 19 = .ok (.if_icmp .gt 13, 3) := by decide +kernel
theorem dX11_refusedBait_22 : decode cX11_refusedBait 22 = .ok (.iload_n 3, 1) := by decide +kernel
theorem dX11_refusedBait_23 : decode cX11_refusedBait 23 = .ok (.ifCond .lt 9, 3) := by decide +kernel
theorem dX11_refusedBait_26 : decode cX11_refusedBait 26 = .ok (.iload_n 3, 1) := by decide +kernel
theorem dX11_refusedBait_27 : decode cX11_refusedBait 27 = .ok (.bipush 100, 2) := by decide +kernel
theorem dX11_refusedBait_29 : decode cX11_refusedBait 29 = .ok (.if_icmp .le 6, 3) := by decide +kernel
theorem dX11_refusedBait_32 : decode cX11_refusedBait 32 = .ok (.bipush (-2), 2) := by decide +kernel
theorem dX11_refusedBait_34 : decode cX11_refusedBait 34 = .ok (.ireturn, 1) := by decide +kernel
theorem dX11_refusedBait_35 : decode cX11_refusedBait 35 = .ok (.aload_n 0, 1) := by decide +kernel
theorem dX11_refusedBait_36 : decode cX11_refusedBait 36 = .ok (.getfield 19, 3) := by decide +kernel
theorem dX11_refusedBait_39 : decode cX11_refusedBait 39 = .ok (.getfield 97, 3) := by decide +kernel
theorem dX11_refusedBait_42 : decode cX11_refusedBait 42 = .ok (.iload_n 1, 1) := by decide +kernel
theorem dX11_refusedBait_43 : decode cX11_refusedBait 43 = .ok (.invokevirtual 229, 3) := by decide +kernel
theorem dX11_refusedBait_46 : decode cX11_refusedBait 46 = .ok (.iconst (-1), 1) := by decide +kernel
theorem dX11_refusedBait_47 : decode cX11_refusedBait 47 = .ok (.if_icmp .ne 7, 3) := by decide +kernel
theorem dX11_refusedBait_50 : decode cX11_refusedBait 50 = .ok (.iconst 0, 1) := by decide +kernel
theorem dX11_refusedBait_51 : decode cX11_refusedBait 51 = .ok (.goto 5, 3) := by decide +kernel
theorem dX11_refusedBait_54 : decode cX11_refusedBait 54 = .ok (.bipush (-5), 2) := by decide +kernel
theorem dX11_refusedBait_56 : decode cX11_refusedBait 56 = .ok (.ireturn, 1) := by decide +kernel
theorem dX11_lossOn_0 : decode cX11_lossOn 0 = .ok (.aload_n 0, 1) := by decide +kernel
theorem dX11_lossOn_1 : decode cX11_lossOn 1 = .ok (.getfield 40, 3) := by decide +kernel
theorem dX11_lossOn_4 : decode cX11_lossOn 4 = .ok (.aload_n 1, 1) := by decide +kernel
theorem dX11_lossOn_5 : decode cX11_lossOn 5 = .ok (.invokevirtual 154, 3) := by decide +kernel
theorem dX11_lossOn_8 : decode cX11_lossOn 8 = .ok (.aload_n 0, 1) := by decide +kernel
theorem dX11_lossOn_9 : decode cX11_lossOn 9 = .ok (.getfield 40, 3) := by decide +kernel
theorem dX11_lossOn_12 : decode cX11_lossOn 12 = .ok (.aload_n 1, 1) := by decide +kernel
theorem dX11_lossOn_13 : decode cX11_lossOn 13 = .ok (.iload_n 2, 1) := by decide +kernel
theorem dX11_lossOn_14 : decode cX11_lossOn 14 = .ok (.iconst 1, 1) := by decide +kernel
theorem dX11_lossOn_15 : decode cX11_lossOn 15 = .ok (.invokevirtual 177, 3) := by decide +kernel
theorem dX11_lossOn_18 : decode cX11_lossOn 18 = .ok (.lreturn, 1) := by decide +kernel
theorem dX11_costOn_0 : decode cX11_costOn 0 = .ok (.aload_n 0, 1) := by decide +kernel
theorem dX11_costOn_1 : decode cX11_costOn 1 = .ok (.getfield 40, 3) := by decide +kernel
theorem dX11_costOn_4 : decode cX11_costOn 4 = .ok (.aload_n 1, 1) := by decide +kernel
theorem dX11_costOn_5 : decode cX11_costOn 5 = .ok (.invokevirtual 154, 3) := by decide +kernel
theorem dX11_costOn_8 : decode cX11_costOn 8 = .ok (.aload_n 0, 1) := by decide +kernel
theorem dX11_costOn_9 : decode cX11_costOn 9 = .ok (.getfield 40, 3) := by decide +kernel
theorem dX11_costOn_12 : decode cX11_costOn 12 = .ok (.aload_n 1, 1) := by decide +kernel
theorem dX11_costOn_13 : decode cX11_costOn 13 = .ok (.iload_n 2, 1) := by decide +kernel
theorem dX11_costOn_14 : decode cX11_costOn 14 = .ok (.iconst 2, 1) := by decide +kernel
theorem dX11_costOn_15 : decode cX11_costOn 15 = .ok (.invokevirtual 177, 3) := by decide +kernel
theorem dX11_costOn_18 : decode cX11_costOn 18 = .ok (.lreturn, 1) := by decide +kernel
theorem dX11_allOn_0 : decode cX11_allOn 0 = .ok (.aload_n 0, 1) := by decide +kernel
theorem dX11_allOn_1 : decode cX11_allOn 1 = .ok (.getfield 40, 3) := by decide +kernel
theorem dX11_allOn_4 : decode cX11_allOn 4 = .ok (.aload_n 1, 1) := by decide +kernel
theorem dX11_allOn_5 : decode cX11_allOn 5 = .ok (.invokevirtual 154, 3) := by decide +kernel
theorem dX11_allOn_8 : decode cX11_allOn 8 = .ok (.aload_n 0, 1) := by decide +kernel
theorem dX11_allOn_9 : decode cX11_allOn 9 = .ok (.getfield 40, 3) := by decide +kernel
theorem dX11_allOn_12 : decode cX11_allOn 12 = .ok (.aload_n 1, 1) := by decide +kernel
theorem dX11_allOn_13 : decode cX11_allOn 13 = .ok (.iload_n 2, 1) := by decide +kernel
theorem dX11_allOn_14 : decode cX11_allOn 14 = .ok (.invokevirtual 403, 3) := by decide +kernel
theorem dX11_allOn_17 : decode cX11_allOn 17 = .ok (.lreturn, 1) := by decide +kernel
theorem dX11_leastOption_0 : decode cX11_leastOption 0 = .ok (.aload_n 1, 1) := by decide +kernel
theorem dX11_leastOption_1 : decode cX11_leastOption 1 = .ok (.getfield 97, 3) := by decide +kernel
theorem dX11_leastOption_4 : decode cX11_leastOption 4 = .ok (.iload_n 2, 1) := by decide +kernel
theorem dX11_leastOption_5 : decode cX11_leastOption 5 = .ok (.invokevirtual 188, 3) := by decide +kernel
theorem dX11_leastOption_8 : decode cX11_leastOption 8 = .ok (.istore 4, 2) := by decide +kernel
theorem dX11_leastOption_10 : decode cX11_leastOption 10 = .ok (.iload 4, 2) := by decide +kernel
theorem dX11_leastOption_12 : decode cX11_leastOption 12 = .ok (.istore 5, 2) := by decide +kernel
theorem dX11_leastOption_14 : decode cX11_leastOption 14 = .ok (.ldc2_w 222, 3) := by decide +kernel
theorem dX11_leastOption_17 : decode cX11_leastOption 17 = .ok (.lstore 6, 2) := by decide +kernel
theorem dX11_leastOption_19 : decode cX11_leastOption 19 = .ok (.iload_n 3, 1) := by decide +kernel
theorem dX11_leastOption_20 : decode cX11_leastOption 20 = .ok (.ifCond .eq 23, 3) := by decide +kernel
theorem dX11_leastOption_23 : decode cX11_leastOption 23 = .ok (.aload_n 0, 1) := by decide +kernel
theorem dX11_leastOption_24 : decode cX11_leastOption 24 = .ok (.getfield 40, 3) := by decide +kernel
theorem dX11_leastOption_27 : decode cX11_leastOption 27 = .ok (.aload_n 1, 1) := by decide +kernel
theorem dX11_leastOption_28 : decode cX11_leastOption 28 = .ok (.invokevirtual 154, 3) := by decide +kernel
theorem dX11_leastOption_31 : decode cX11_leastOption 31 = .ok (.aload_n 0, 1) := by decide +kernel
theorem dX11_leastOption_32 : decode cX11_leastOption 32 = .ok (.getfield 40, 3) := by decide +kernel
theorem dX11_leastOption_35 : decode cX11_leastOption 35 = .ok (.aload_n 1, 1) := by decide +kernel
theorem dX11_leastOption_36 : decode cX11_leastOption 36 = .ok (.iload_n 2, 1) := by decide +kernel
theorem dX11_leastOption_37 : decode cX11_leastOption 37 = .ok (.iconst 2, 1) := by decide +kernel
theorem dX11_leastOption_38 : decode cX11_leastOption 38 = .ok (.invokevirtual 177, 3) := by decide +kernel
theorem dX11_leastOption_41 : decode cX11_leastOption 41 = .ok (.lstore 6, 2) := by decide +kernel
theorem dX11_leastOption_43 : decode cX11_leastOption 43 = .ok (.iconst 0, 1) := by decide +kernel
theorem dX11_leastOption_44 : decode cX11_leastOption 44 = .ok (.istore 8, 2) := by decide +kernel
theorem dX11_leastOption_46 : decode cX11_leastOption 46 = .ok (.iload 8, 2) := by decide +kernel
theorem dX11_leastOption_48 : decode cX11_leastOption 48 = .ok (.aload_n 1, 1) := by decide +kernel
theorem dX11_leastOption_49 : decode cX11_leastOption 49 = .ok (.invokevirtual 219, 3) := by decide +kernel
theorem dX11_leastOption_52 : decode cX11_leastOption 52 = .ok (.if_icmp .ge 55, 3) := by decide +kernel
theorem dX11_leastOption_55 : decode cX11_leastOption 55 = .ok (.aload_n 1, 1) := by decide +kernel
theorem dX11_leastOption_56 : decode cX11_leastOption 56 = .ok (.getfield 97, 3) := by decide +kernel
theorem dX11_leastOption_59 : decode cX11_leastOption 59 = .ok (.iload_n 2, 1) := by decide +kernel
theorem dX11_leastOption_60 : decode cX11_leastOption 60 = .ok (.iload 8, 2) := by decide +kernel
theorem dX11_leastOption_62 : decode cX11_leastOption 62 = .ok (.invokevirtual 191, 3) := by decide +kernel
theorem dX11_leastOption_65 : decode cX11_leastOption 65 = .ok (.aload_n 0, 1) := by decide +kernel
theorem dX11_leastOption_66 : decode cX11_leastOption 66 = .ok (.getfield 40, 3) := by decide +kernel
theorem dX11_leastOption_69 : decode cX11_leastOption 69 = .ok (.aload_n 1, 1) := by decide +kernel
theorem dX11_leastOption_70 : decode cX11_leastOption 70 = .ok (.invokevirtual 154, 3) := by decide +kernel
theorem dX11_leastOption_73 : decode cX11_leastOption 73 = .ok (.aload_n 0, 1) := by decide +kernel
theorem dX11_leastOption_74 : decode cX11_leastOption 74 = .ok (.getfield 40, 3) := by decide +kernel
theorem dX11_leastOption_77 : decode cX11_leastOption 77 = .ok (.aload_n 1, 1) := by decide +kernel
theorem dX11_leastOption_78 : decode cX11_leastOption 78 = .ok (.iload_n 2, 1) := by decide +kernel
theorem dX11_leastOption_79 : decode cX11_leastOption 79 = .ok (.iconst 2, 1) := by decide +kernel
theorem dX11_leastOption_80 : decode cX11_leastOption 80 = .ok (.invokevirtual 177, 3) := by decide +kernel
theorem dX11_leastOption_83 : decode cX11_leastOption 83 = .ok (.lstore 9, 2) := by decide +kernel
theorem dX11_leastOption_85 : decode cX11_leastOption 85 = .ok (.lload 9, 2) := by decide +kernel
theorem dX11_leastOption_87 : decode cX11_leastOption 87 = .ok (.lload 6, 2) := by decide +kernel
theorem dX11_leastOption_89 : decode cX11_leastOption 89 = .ok (.lcmp, 1) := by decide +kernel
theorem dX11_leastOption_90 : decode cX11_leastOption 90 = .ok (.ifCond .ge 11, 3) := by decide +kernel
theorem dX11_leastOption_93 : decode cX11_leastOption 93 = .ok (.lload 9, 2) := by decide +kernel
theorem dX11_leastOption_95 : decode cX11_leastOption 95 = .ok (.lstore 6, 2) := by decide +kernel
theorem dX11_leastOption_97 : decode cX11_leastOption 97 = .ok (.iload 8, 2) := by decide +kernel
theorem dX11_leastOption_99 : decode cX11_leastOption 99 = .ok (.istore 5, 2) := by decide +kernel
theorem dX11_leastOption_101 : decode cX11_leastOption 101 = .ok (.iinc 8 1, 3) := by decide +kernel
theorem dX11_leastOption_104 : decode cX11_leastOption 104 = .ok (.goto (-58), 3) := by decide +kernel
theorem dX11_leastOption_107 : decode cX11_leastOption 107 = .ok (.aload_n 1, 1) := by decide +kernel
theorem dX11_leastOption_108 : decode cX11_leastOption 108 = .ok (.getfield 97, 3) := by decide +kernel
theorem dX11_leastOption_111 : decode cX11_leastOption 111 = .ok (.iload_n 2, 1) := by decide +kernel
theorem dX11_leastOption_112 : decode cX11_leastOption 112 = .ok (.iload 4, 2) := by decide +kernel
theorem dX11_leastOption_114 : decode cX11_leastOption 114 = .ok (.invokevirtual 191, 3) := by decide +kernel
theorem dX11_leastOption_117 : decode cX11_leastOption 117 = .ok (.iload 5, 2) := by decide +kernel
theorem dX11_leastOption_119 : decode cX11_leastOption 119 = .ok (.ireturn, 1) := by decide +kernel
theorem dX11_roundsOn_0 : decode cX11_roundsOn 0 = .ok (.iconst 1, 1) := by decide +kernel
theorem dX11_roundsOn_1 : decode cX11_roundsOn 1 = .ok (.istore_n 3, 1) := by decide +kernel
theorem dX11_roundsOn_2 : decode cX11_roundsOn 2 = .ok (.iload_n 3, 1) := by decide +kernel
theorem dX11_roundsOn_3 : decode cX11_roundsOn 3 = .ok (.iload_n 2, 1) := by decide +kernel
theorem dX11_roundsOn_4 : decode cX11_roundsOn 4 = .ok (.if_icmp .gt 85, 3) := by decide +kernel
theorem dX11_roundsOn_7 : decode cX11_roundsOn 7 = .ok (.iconst 0, 1) := by decide +kernel
theorem dX11_roundsOn_8 : decode cX11_roundsOn 8 = .ok (.istore 4, 2) := by decide +kernel
theorem dX11_roundsOn_10 : decode cX11_roundsOn 10 = .ok (.iconst 0, 1) := by decide +kernel
theorem dX11_roundsOn_11 : decode cX11_roundsOn 11 = .ok (.istore 5, 2) := by decide +kernel
theorem dX11_roundsOn_13 : decode cX11_roundsOn 13 = .ok (.iload 5, 2) := by decide +kernel
theorem dX11_roundsOn_15 : decode cX11_roundsOn 15 = .ok (.aload_n 1, 1) := by decide +kernel
theorem dX11_roundsOn_16 : decode cX11_roundsOn 16 = .ok (.getfield 97, 3) := by decide +kernel
theorem dX11_roundsOn_19 : decode cX11_roundsOn 19 = .ok (.getfield 161, 3) := by decide +kernel
theorem dX11_roundsOn_22 : decode cX11_roundsOn 22 = .ok (.if_icmp .ge 54, 3) := by decide +kernel
theorem dX11_roundsOn_25 : decode cX11_roundsOn 25 = .ok (.aload_n 0, 1) := by decide +kernel
theorem dX11_roundsOn_26 : decode cX11_roundsOn 26 = .ok (.aload_n 1, 1) := by decide +kernel
theorem dX11_roundsOn_27 : decode cX11_roundsOn 27 = .ok (.iload 5, 2) := by decide +kernel
theorem dX11_roundsOn_29 : decode cX11_roundsOn 29 = .ok (.iconst 1, 1) := by decide +kernel
theorem dX11_roundsOn_30 : decode cX11_roundsOn 30 = .ok (.invokevirtual 198, 3) := by decide +kernel
theorem dX11_roundsOn_33 : decode cX11_roundsOn 33 = .ok (.istore 6, 2) := by decide +kernel
theorem dX11_roundsOn_35 : decode cX11_roundsOn 35 = .ok (.iload 4, 2) := by decide +kernel
theorem dX11_roundsOn_37 : decode cX11_roundsOn 37 = .ok (.iload 6, 2) := by decide +kernel
theorem dX11_roundsOn_39 : decode cX11_roundsOn 39 = .ok (.aload_n 1, 1) := by decide +kernel
theorem dX11_roundsOn_40 : decode cX11_roundsOn 40 = .ok (.getfield 97, 3) := by decide +kernel
theorem dX11_roundsOn_43 : decode cX11_roundsOn 43 = .ok (.iload 5, 2) := by decide +kernel
theorem dX11_roundsOn_45 : decode cX11_roundsOn 45 = .ok (.invokevirtual 188, 3) := by decide +kernel
theorem dX11_roundsOn_48 : decode cX11_roundsOn 48 = .ok (.if_icmp .eq 7, 3) := by decide +kernel
theorem dX11_roundsOn_51 : decode cX11_roundsOn 51 = .ok (.iconst 1, 1) := by decide +kernel
theorem dX11_roundsOn_52 : decode cX11_roundsOn 52 = .ok (.goto 4, 3) := by decide +kernel
theorem dX11_roundsOn_55 : decode cX11_roundsOn 55 = .ok (.iconst 0, 1) := by decide +kernel
theorem dX11_roundsOn_56 : decode cX11_roundsOn 56 = .ok (.ior, 1) := by decide +kernel
theorem dX11_roundsOn_57 : decode cX11_roundsOn 57 = .ok (.istore 4, 2) := by decide +kernel
theorem dX11_roundsOn_59 : decode cX11_roundsOn 59 = .ok (.aload_n 1, 1) := by decide +kernel
theorem dX11_roundsOn_60 : decode cX11_roundsOn 60 = .ok (.getfield 97, 3) := by decide +kernel
theorem dX11_roundsOn_63 : decode cX11_roundsOn 63 = .ok (.iload 5, 2) := by decide +kernel
theorem dX11_roundsOn_65 : decode cX11_roundsOn 65 = .ok (.iload 6, 2) := by decide +kernel
theorem dX11_roundsOn_67 : decode cX11_roundsOn 67 = .ok (.invokevirtual 191, 3) := by decide +kernel
theorem dX11_roundsOn_70 : decode cX11_roundsOn 70 = .ok (.iinc 5 1, 3) := by decide +kernel
theorem dX11_roundsOn_73 : decode cX11_roundsOn 73 = .ok (.goto (-60), 3) := by decide +kernel
theorem dX11_roundsOn_76 : decode cX11_roundsOn 76 = .ok (.iload 4, 2) := by decide +kernel
theorem dX11_roundsOn_78 : decode cX11_roundsOn 78 = .ok (.ifCond .ne 5, 3) := by decide +kernel
theorem dX11_roundsOn_81 : decode cX11_roundsOn 81 = .ok (.iload_n 3, 1) := by decide +kernel
theorem dX11_roundsOn_82 : decode cX11_roundsOn 82 = .ok (.ireturn, 1) := by decide +kernel
theorem dX11_roundsOn_83 : decode cX11_roundsOn 83 = .ok (.iinc 3 1, 3) := by decide +kernel
theorem dX11_roundsOn_86 : decode cX11_roundsOn 86 = .ok (.goto (-84), 3) := by decide +kernel
theorem dX11_roundsOn_89 : decode cX11_roundsOn 89 = .ok (.iload_n 2, 1) := by decide +kernel
theorem dX11_roundsOn_90 : decode cX11_roundsOn 90 = .ok (.iconst 1, 1) := by decide +kernel
theorem dX11_roundsOn_91 : decode cX11_roundsOn 91 = .ok (.iadd, 1) := by decide +kernel
theorem dX11_roundsOn_92 : decode cX11_roundsOn 92 = .ok (.ireturn, 1) := by decide +kernel
theorem dX11_changesOn_0 : decode cX11_changesOn 0 = .ok (.iconst 0, 1) := by decide +kernel
theorem dX11_changesOn_1 : decode cX11_changesOn 1 = .ok (.istore_n 3, 1) := by decide +kernel
theorem dX11_changesOn_2 : decode cX11_changesOn 2 = .ok (.iload_n 3, 1) := by decide +kernel
theorem dX11_changesOn_3 : decode cX11_changesOn 3 = .ok (.iload_n 2, 1) := by decide +kernel
theorem dX11_changesOn_4 : decode cX11_changesOn 4 = .ok (.if_icmp .ge 19, 3) := by decide +kernel
theorem dX11_changesOn_7 : decode cX11_changesOn 7 = .ok (.aload_n 0, 1) := by decide +kernel
theorem dX11_changesOn_8 : decode cX11_changesOn 8 = .ok (.aload_n 1, 1) := by decide +kernel
theorem dX11_changesOn_9 : decode cX11_changesOn 9 = .ok (.invokevirtual 406, 3) := by decide +kernel
theorem dX11_changesOn_12 : decode cX11_changesOn 12 = .ok (.ifCond .ne 5, 3) := by decide +kernel
theorem dX11_changesOn_15 : decode cX11_changesOn 15 = .ok (.iload_n 3, 1) := by decide +kernel
theorem dX11_changesOn_16 : decode cX11_changesOn 16 = .ok (.ireturn, 1) := by decide +kernel
theorem dX11_changesOn_17 : decode cX11_changesOn 17 = .ok (.iinc 3 1, 3) := by decide +kernel
theorem dX11_changesOn_20 : decode cX11_changesOn 20 = .ok (.goto (-18), 3) := by decide +kernel
theorem dX11_changesOn_23 : decode cX11_changesOn 23 = .ok (.iload_n 2, 1) := by decide +kernel
theorem dX11_changesOn_24 : decode cX11_changesOn 24 = .ok (.ireturn, 1) := by decide +kernel
theorem dX11_changeBetters_0 : decode cX11_changeBetters 0 = .ok (.aload_n 0, 1) := by decide +kernel
theorem dX11_changeBetters_1 : decode cX11_changeBetters 1 = .ok (.getfield 40, 3) := by decide +kernel
theorem dX11_changeBetters_4 : decode cX11_changeBetters 4 = .ok (.aload_n 1, 1) := by decide +kernel
theorem dX11_changeBetters_5 : decode cX11_changeBetters 5 = .ok (.invokevirtual 154, 3) := by decide +kernel
theorem dX11_changeBetters_8 : decode cX11_changeBetters 8 = .ok (.aload_n 0, 1) := by decide +kernel
theorem dX11_changeBetters_9 : decode cX11_changeBetters 9 = .ok (.getfield 40, 3) := by decide +kernel
theorem dX11_changeBetters_12 : decode cX11_changeBetters 12 = .ok (.aload_n 1, 1) := by decide +kernel
theorem dX11_changeBetters_13 : decode cX11_changeBetters 13 = .ok (.iconst 2, 1) := by decide +kernel
theorem dX11_changeBetters_14 : decode cX11_changeBetters 14 = .ok (.invokevirtual 403, 3) := by decide +kernel
theorem dX11_changeBetters_17 : decode cX11_changeBetters 17 = .ok (.lstore_n 2, 1) := by decide +kernel
theorem dX11_changeBetters_18 : decode cX11_changeBetters 18 = .ok (.iconst (-1), 1) := by decide +kernel
theorem dX11_changeBetters_19 : decode cX11_changeBetters 19 = .ok (.istore 4, 2) := by decide +kernel
theorem dX11_changeBetters_21 : decode cX11_changeBetters 21 = .ok (.iconst 0, 1) := by decide +kernel
theorem dX11_changeBetters_22 : decode cX11_changeBetters 22 = .ok (.istore 5, 2) := by decide +kernel
theorem dX11_changeBetters_24 : decode cX11_changeBetters 24 = .ok (.iconst 0, 1) := by decide +kernel
theorem dX11_changeBetters_25 : decode cX11_changeBetters 25 = .ok (.istore 6, 2) := by decide +kernel
theorem dX11_changeBetters_27 : decode cX11_changeBetters 27 = .ok (.iload 6, 2) := by decide +kernel
theorem dX11_changeBetters_29 : decode cX11_changeBetters 29 = .ok (.aload_n 1, 1) := by decide +kernel
theorem dX11_changeBetters_30 : decode cX11_changeBetters 30 = .ok (.getfield 97, 3) := by decide +kernel
theorem dX11_changeBetters_33 : decode cX11_changeBetters 33 = .ok (.getfield 161, 3) := by decide +kernel
theorem dX11_changeBetters_36 : decode cX11_changeBetters 36 = .ok (.if_icmp .ge 97, 3) := by decide +kernel
theorem dX11_changeBetters_39 : decode cX11_changeBetters 39 = .ok (.aload_n 1, 1) := by decide +kernel
theorem dX11_changeBetters_40 : decode cX11_changeBetters 40 = .ok (.getfield 97, 3) := by decide +kernel
theorem dX11_changeBetters_43 : decode cX11_changeBetters 43 = .ok (.iload 6, 2) := by decide +kernel
theorem dX11_changeBetters_45 : decode cX11_changeBetters 45 = .ok (.invokevirtual 188, 3) := by decide +kernel
theorem dX11_changeBetters_48 : decode cX11_changeBetters 48 = .ok (.istore 7, 2) := by decide +kernel
theorem dX11_changeBetters_50 : decode cX11_changeBetters 50 = .ok (.iconst 0, 1) := by decide +kernel
theorem dX11_changeBetters_51 : decode cX11_changeBetters 51 = .ok (.istore 8, 2) := by decide +kernel
theorem dX11_changeBetters_53 : decode cX11_changeBetters 53 = .ok (.iload 8, 2) := by decide +kernel
theorem dX11_changeBetters_55 : decode cX11_changeBetters 55 = .ok (.aload_n 1, 1) := by decide +kernel
theorem dX11_changeBetters_56 : decode cX11_changeBetters 56 = .ok (.invokevirtual 219, 3) := by decide +kernel
theorem dX11_changeBetters_59 : decode cX11_changeBetters 59 = .ok (.if_icmp .ge 57, 3) := by decide +kernel
theorem dX11_changeBetters_62 : decode cX11_changeBetters 62 = .ok (.aload_n 1, 1) := by decide +kernel
theorem dX11_changeBetters_63 : decode cX11_changeBetters 63 = .ok (.getfield 97, 3) := by decide +kernel
theorem dX11_changeBetters_66 : decode cX11_changeBetters 66 = .ok (.iload 6, 2) := by decide +kernel
theorem dX11_changeBetters_68 : decode cX11_changeBetters 68 = .ok (.iload 8, 2) := by decide +kernel
theorem dX11_changeBetters_70 : decode cX11_changeBetters 70 = .ok (.invokevirtual 191, 3) := by decide +kernel
theorem dX11_changeBetters_73 : decode cX11_changeBetters 73 = .ok (.aload_n 0, 1) := by decide +kernel
theorem dX11_changeBetters_74 : decode cX11_changeBetters 74 = .ok (.getfield 40, 3) := by decide +kernel
theorem dX11_changeBetters_77 : decode cX11_changeBetters 77 = .ok (.aload_n 1, 1) := by decide +kernel
theorem dX11_changeBetters_78 : decode cX11_changeBetters 78 = .ok (.invokevirtual 154, 3) := by decide +kernel
theorem dX11_changeBetters_81 : decode cX11_changeBetters 81 = .ok (.aload_n 0, 1) := by decide +kernel
theorem dX11_changeBetters_82 : decode cX11_changeBetters 82 = .ok (.getfield 40, 3) := by decide +kernel
theorem dX11_changeBetters_85 : decode cX11_changeBetters 85 = .ok (.aload_n 1, 1) := by decide +kernel
theorem dX11_changeBetters_86 : decode cX11_changeBetters 86 = .ok (.iconst 2, 1) := by decide +kernel
theorem dX11_changeBetters_87 : decode cX11_changeBetters 87 = .ok (.invokevirtual 403, 3) := by decide +kernel
theorem dX11_changeBetters_90 : decode cX11_changeBetters 90 = .ok (.lstore 9, 2) := by decide +kernel
theorem dX11_changeBetters_92 : decode cX11_changeBetters 92 = .ok (.lload 9, 2) := by decide +kernel
theorem dX11_changeBetters_94 : decode cX11_changeBetters 94 = .ok (.lload_n 2, 1) := by decide +kernel
theorem dX11_changeBetters_95 : decode cX11_changeBetters 95 = .ok (.lcmp, 1) := by decide +kernel
theorem dX11_changeBetters_96 : decode cX11_changeBetters 96 = .ok (.ifCond .ge 14, 3) := by decide +kernel
theorem dX11_changeBetters_99 : decode cX11_changeBetters 99 = .ok (.lload 9, 2) := by decide +kernel
theorem dX11_changeBetters_101 : decode cX11_changeBetters 101 = .ok (.lstore_n 2, 1) := by decide +kernel
theorem dX11_changeBetters_102 : decode cX11_changeBetters 102 = .ok (.iload 6, 2) := by decide +kernel
theorem dX11_changeBetters_104 : decode cX11_changeBetters 104 = .ok (.istore 4, 2) := by decide +kernel
theorem dX11_changeBetters_106 : decode cX11_changeBetters 106 = .ok (.iload 8, 2) := by decide +kernel
theorem dX11_changeBetters_108 : decode cX11_changeBetters 108 = .ok (.istore 5, 2) := by decide +kernel
theorem dX11_changeBetters_110 : decode cX11_changeBetters 110 = .ok (.iinc 8 1, 3) := by decide +kernel
theorem dX11_changeBetters_113 : decode cX11_changeBetters 113 = .ok (.goto (-60), 3) := by decide +kernel
theorem dX11_changeBetters_116 : decode cX11_changeBetters 116 = .ok (.aload_n 1, 1) := by decide +kernel
theorem dX11_changeBetters_117 : decode cX11_changeBetters 117 = .ok (.getfield 97, 3) := by decide +kernel
theorem dX11_changeBetters_120 : decode cX11_changeBetters 120 = .ok (.iload 6, 2) := by decide +kernel
theorem dX11_changeBetters_122 : decode cX11_changeBetters 122 = .ok (.iload 7, 2) := by decide +kernel
theorem dX11_changeBetters_124 : decode cX11_changeBetters 124 = .ok (.invokevirtual 191, 3) := by decide +kernel
theorem dX11_changeBetters_127 : decode cX11_changeBetters 127 = .ok (.iinc 6 1, 3) := by decide +kernel
theorem dX11_changeBetters_130 : decode cX11_changeBetters 130 = .ok (.goto (-103), 3) := by decide +kernel
theorem dX11_changeBetters_133 : decode cX11_changeBetters 133 = .ok (.iload 4, 2) := by decide +kernel
theorem dX11_changeBetters_135 : decode cX11_changeBetters 135 = .ok (.iconst (-1), 1) := by decide +kernel
theorem dX11_changeBetters_136 : decode cX11_changeBetters 136 = .ok (.if_icmp .eq 14, 3) := by decide +kernel
theorem dX11_changeBetters_139 : decode cX11_changeBetters 139 = .ok (.aload_n 1, 1) := by decide +kernel
theorem dX11_changeBetters_140 : decode cX11_changeBetters 140 = .ok (.getfield 97, 3) := by decide +kernel
theorem dX11_changeBetters_143 : decode cX11_changeBetters 143 = .ok (.iload 4, 2) := by decide +kernel
theorem dX11_changeBetters_145 : decode cX11_changeBetters 145 = .ok (.iload 5, 2) := by decide +kernel
theorem dX11_changeBetters_147 : decode cX11_changeBetters 147 = .ok (.invokevirtual 191, 3) := by decide +kernel
theorem dX11_changeBetters_150 : decode cX11_changeBetters 150 = .ok (.iload 4, 2) := by decide +kernel
theorem dX11_changeBetters_152 : decode cX11_changeBetters 152 = .ok (.iconst (-1), 1) := by decide +kernel
theorem dX11_changeBetters_153 : decode cX11_changeBetters 153 = .ok (.if_icmp .eq 7, 3) := by decide +kernel
theorem dX11_changeBetters_156 : decode cX11_changeBetters 156 = .ok (.iconst 1, 1) := by decide +kernel
theorem dX11_changeBetters_157 : decode cX11_changeBetters 157 = .ok (.goto 4, 3) := by decide +kernel
theorem dX11_changeBetters_160 : decode cX11_changeBetters 160 = .ok (.iconst 0, 1) := by decide +kernel
theorem dX11_changeBetters_161 : decode cX11_changeBetters 161 = .ok (.ireturn, 1) := by decide +kernel
theorem dX11_findGrownRisks_0 : decode cX11_findGrownRisks 0 = .ok (.aload_n 0, 1) := by decide +kernel
theorem dX11_findGrownRisks_1 : decode cX11_findGrownRisks 1 = .ok (.getfield 40, 3) := by decide +kernel
theorem dX11_findGrownRisks_4 : decode cX11_findGrownRisks 4 = .ok (.aload_n 0, 1) := by decide +kernel
theorem dX11_findGrownRisks_5 : decode cX11_findGrownRisks 5 = .ok (.getfield 19, 3) := by decide +kernel
theorem dX11_findGrownRisks_8 : decode cX11_findGrownRisks 8 = .ok (.invokevirtual 154, 3) := by decide +kernel
theorem dX11_findGrownRisks_11 : decode cX11_findGrownRisks 11 = .ok (.iconst 0, 1) := by decide +kernel
theorem dX11_findGrownRisks_12 : decode cX11_findGrownRisks 12 = .ok (.istore_n 3, 1) := by decide +kernel
theorem dX11_findGrownRisks_13 : decode cX11_findGrownRisks 13 = .ok (.iload_n 3, 1) := by decide +kernel
theorem dX11_findGrownRisks_14 : decode cX11_findGrownRisks 14 = .ok (.aload_n 0, 1) := by decide +kernel
theorem dX11_findGrownRisks_15 : decode cX11_findGrownRisks 15 = .ok (.getfield 19, 3) := by decide +kernel
theorem dX11_findGrownRisks_18 : decode cX11_findGrownRisks 18 = .ok (.getfield 97, 3) := by decide +kernel
theorem dX11_findGrownRisks_21 : decode cX11_findGrownRisks 21 = .ok (.getfield 161, 3) := by decide +kernel
theorem dX11_findGrownRisks_24 : decode cX11_findGrownRisks 24 = .ok (.if_icmp .ge 24, 3) := by decide +kernel
theorem dX11_findGrownRisks_27 : decode cX11_findGrownRisks 27 = .ok (.aload_n 0, 1) := by decide +kernel
theorem dX11_findGrownRisks_28 : decode cX11_findGrownRisks 28 = .ok (.getfield 51, 3) := by decide +kernel
theorem dX11_findGrownRisks_31 : decode cX11_findGrownRisks 31 = .ok (.iload_n 3, 1) := by decide +kernel
theorem dX11_findGrownRisks_32 : decode cX11_findGrownRisks 32 = .ok (.aload_n 0, 1) := by decide +kernel
theorem dX11_findGrownRisks_33 : decode cX11_findGrownRisks 33 = .ok (.getfield 40, 3) := by decide +kernel
theorem dX11_findGrownRisks_36 : decode cX11_findGrownRisks 36 = .ok (.iload_n 3, 1) := by decide +kernel
theorem dX11_findGrownRisks_37 : decode cX11_findGrownRisks 37 = .ok (.invokevirtual 167, 3) := by decide +kernel
theorem dX11_findGrownRisks_40 : decode cX11_findGrownRisks 40 = .ok (.lneg, 1) := by decide +kernel
theorem dX11_findGrownRisks_41 : decode cX11_findGrownRisks 41 = .ok (.lastore, 1) := by decide +kernel
theorem dX11_findGrownRisks_42 : decode cX11_findGrownRisks 42 = .ok (.iinc 3 1, 3) := by decide +kernel
theorem dX11_findGrownRisks_45 : decode cX11_findGrownRisks 45 = .ok (.goto (-32), 3) := by decide +kernel
theorem dX11_findGrownRisks_48 : decode cX11_findGrownRisks 48 = .ok (.aload_n 0, 1) := by decide +kernel
theorem dX11_findGrownRisks_49 : decode cX11_findGrownRisks 49 = .ok (.getfield 23, 3) := by decide +kernel
theorem dX11_findGrownRisks_52 : decode cX11_findGrownRisks 52 = .ok (.aload_n 0, 1) := by decide +kernel
theorem dX11_findGrownRisks_53 : decode cX11_findGrownRisks 53 = .ok (.getfield 19, 3) := by decide +kernel
theorem dX11_findGrownRisks_56 : decode cX11_findGrownRisks 56 = .ok (.invokevirtual 73, 3) := by decide +kernel
theorem dX11_findGrownRisks_59 : decode cX11_findGrownRisks 59 = .ok (.aload_n 0, 1) := by decide +kernel
theorem dX11_findGrownRisks_60 : decode cX11_findGrownRisks 60 = .ok (.getfield 23, 3) := by decide +kernel
theorem dX11_findGrownRisks_63 : decode cX11_findGrownRisks 63 = .ok (.getfield 97, 3) := by decide +kernel
theorem dX11_findGrownRisks_66 : decode cX11_findGrownRisks 66 = .ok (.iload_n 1, 1) := by decide +kernel
theorem dX11_findGrownRisks_67 : decode cX11_findGrownRisks 67 = .ok (.iload_n 2, 1) := by decide +kernel
theorem dX11_findGrownRisks_68 : decode cX11_findGrownRisks 68 = .ok (.invokevirtual 191, 3) := by decide +kernel
theorem dX11_findGrownRisks_71 : decode cX11_findGrownRisks 71 = .ok (.aload_n 0, 1) := by decide +kernel
theorem dX11_findGrownRisks_72 : decode cX11_findGrownRisks 72 = .ok (.getfield 40, 3) := by decide +kernel
theorem dX11_findGrownRisks_75 : decode cX11_findGrownRisks 75 = .ok (.aload_n 0, 1) := by decide +kernel
theorem dX11_findGrownRisks_76 : decode cX11_findGrownRisks 76 = .ok (.getfield 23, 3) := by decide +kernel
theorem dX11_findGrownRisks_79 : decode cX11_findGrownRisks 79 = .ok (.invokevirtual 154, 3) := by decide +kernel
theorem dX11_findGrownRisks_82 : decode cX11_findGrownRisks 82 = .ok (.iconst 0, 1) := by decide +kernel
theorem dX11_findGrownRisks_83 : decode cX11_findGrownRisks 83 = .ok (.istore_n 3, 1) := by decide +kernel
theorem dX11_findGrownRisks_84 : decode cX11_findGrownRisks 84 = .ok (.iload_n 3, 1) := by decide +kernel
theorem dX11_findGrownRisks_85 : decode cX11_findGrownRisks 85 = .ok (.aload_n 0, 1) := by decide +kernel
theorem dX11_findGrownRisks_86 : decode cX11_findGrownRisks 86 = .ok (.getfield 19, 3) := by decide +kernel
theorem dX11_findGrownRisks_89 : decode cX11_findGrownRisks 89 = .ok (.getfield 97, 3) := by decide +kernel
theorem dX11_findGrownRisks_92 : decode cX11_findGrownRisks 92 = .ok (.getfield 161, 3) := by decide +kernel
theorem dX11_findGrownRisks_95 : decode cX11_findGrownRisks 95 = .ok (.if_icmp .ge 26, 3) := by decide +kernel
theorem dX11_findGrownRisks_98 : decode cX11_findGrownRisks 98 = .ok (.aload_n 0, 1) := by decide +kernel
theorem dX11_findGrownRisks_99 : decode cX11_findGrownRisks 99 = .ok (.getfield 51, 3) := by decide +kernel
theorem dX11_findGrownRisks_102 : decode cX11_findGrownRisks 102 = .ok (.iload_n 3, 1) := by decide +kernel
theorem dX11_findGrownRisks_103 : decode cX11_findGrownRisks 103 = .ok (.dup2, 1) := by decide +kernel
theorem dX11_findGrownRisks_104 : decode cX11_findGrownRisks 104 = .ok (.laload, 1) := by decide +kernel
theorem dX11_findGrownRisks_105 : decode cX11_findGrownRisks 105 = .ok (.aload_n 0, 1) := by decide +kernel
theorem dX11_findGrownRisks_106 : decode cX11_findGrownRisks 106 = .ok (.getfield 40, 3) := by decide +kernel
theorem dX11_findGrownRisks_109 : decode cX11_findGrownRisks 109 = .ok (.iload_n 3, 1) := by decide +kernel
theorem dX11_findGrownRisks_110 : decode cX11_findGrownRisks 110 = .ok (.invokevirtual 167, 3) := by decide +kernel
theorem dX11_findGrownRisks_113 : decode cX11_findGrownRisks 113 = .ok (.ladd, 1) := by decide +kernel
theorem dX11_findGrownRisks_114 : decode cX11_findGrownRisks 114 = .ok (.lastore, 1) := by decide +kernel
theorem dX11_findGrownRisks_115 : decode cX11_findGrownRisks 115 = .ok (.iinc 3 1, 3) := by decide +kernel
theorem dX11_findGrownRisks_118 : decode cX11_findGrownRisks 118 = .ok (.goto (-34), 3) := by decide +kernel
theorem dX11_findGrownRisks_121 : decode cX11_findGrownRisks 121 = .ok (.return_, 1) := by decide +kernel
theorem dX11_lossLit_0 : decode cX11_lossLit 0 = .ok (.aload_n 0, 1) := by decide +kernel
theorem dX11_lossLit_1 : decode cX11_lossLit 1 = .ok (.getfield 23, 3) := by decide +kernel
theorem dX11_lossLit_4 : decode cX11_lossLit 4 = .ok (.aload_n 0, 1) := by decide +kernel
theorem dX11_lossLit_5 : decode cX11_lossLit 5 = .ok (.getfield 19, 3) := by decide +kernel
theorem dX11_lossLit_8 : decode cX11_lossLit 8 = .ok (.invokevirtual 73, 3) := by decide +kernel
theorem dX11_lossLit_11 : decode cX11_lossLit 11 = .ok (.aload_n 0, 1) := by decide +kernel
theorem dX11_lossLit_12 : decode cX11_lossLit 12 = .ok (.getfield 23, 3) := by decide +kernel
theorem dX11_lossLit_15 : decode cX11_lossLit 15 = .ok (.getfield 374, 3) := by decide +kernel
theorem dX11_lossLit_18 : decode cX11_lossLit 18 = .ok (.iload_n 1, 1) := by decide +kernel
theorem dX11_lossLit_19 : decode cX11_lossLit 19 = .ok (.iload_n 2, 1) := by decide +kernel
theorem dX11_lossLit_20 : decode cX11_lossLit 20 = .ok (.invokevirtual 409, 3) := by decide +kernel
theorem dX11_lossLit_23 : decode cX11_lossLit 23 = .ok (.aload_n 0, 1) := by decide +kernel
theorem dX11_lossLit_24 : decode cX11_lossLit 24 = .ok (.aload_n 0, 1) := by decide +kernel
theorem dX11_lossLit_25 : decode cX11_lossLit 25 = .ok (.getfield 23, 3) := by decide +kernel
theorem dX11_lossLit_28 : decode cX11_lossLit 28 = .ok (.iconst 1, 1) := by decide +kernel
theorem dX11_lossLit_29 : decode cX11_lossLit 29 = .ok (.invokevirtual 181, 3) := by decide +kernel
theorem dX11_lossLit_32 : decode cX11_lossLit 32 = .ok (.lreturn, 1) := by decide +kernel
theorem dX11_findSpared_0 : decode cX11_findSpared 0 = .ok (.aload_n 0, 1) := by decide +kernel
theorem dX11_findSpared_1 : decode cX11_findSpared 1 = .ok (.getfield 23, 3) := by decide +kernel
theorem dX11_findSpared_4 : decode cX11_findSpared 4 = .ok (.aload_n 0, 1) := by decide +kernel
theorem dX11_findSpared_5 : decode cX11_findSpared 5 = .ok (.getfield 19, 3) := by decide +kernel
theorem dX11_findSpared_8 : decode cX11_findSpared 8 = .ok (.invokevirtual 73, 3) := by decide +kernel
theorem dX11_findSpared_11 : decode cX11_findSpared 11 = .ok (.aload_n 0, 1) := by decide +kernel
theorem dX11_findSpared_12 : decode cX11_findSpared 12 = .ok (.getfield 23, 3) := by decide +kernel
theorem dX11_findSpared_15 : decode cX11_findSpared 15 = .ok (.iconst 0, 1) := by decide +kernel
theorem dX11_findSpared_16 : decode cX11_findSpared 16 = .ok (.putfield 245, 3) := by decide +kernel
theorem dX11_findSpared_19 : decode cX11_findSpared 19 = .ok (.aload_n 0, 1) := by decide +kernel
theorem dX11_findSpared_20 : decode cX11_findSpared 20 = .ok (.getfield 40, 3) := by decide +kernel
theorem dX11_findSpared_23 : decode cX11_findSpared 23 = .ok (.aload_n 0, 1) := by decide +kernel
theorem dX11_findSpared_24 : decode cX11_findSpared 24 = .ok (.getfield 23, 3) := by decide +kernel
theorem dX11_findSpared_27 : decode cX11_findSpared 27 = .ok (.invokevirtual 154, 3) := by decide +kernel
theorem dX11_findSpared_30 : decode cX11_findSpared 30 = .ok (.iconst 0, 1) := by decide +kernel
theorem dX11_findSpared_31 : decode cX11_findSpared 31 = .ok (.istore_n 1, 1) := by decide +kernel
theorem dX11_findSpared_32 : decode cX11_findSpared 32 = .ok (.iload_n 1, 1) := by decide +kernel
theorem dX11_findSpared_33 : decode cX11_findSpared 33 = .ok (.aload_n 0, 1) := by decide +kernel
theorem dX11_findSpared_34 : decode cX11_findSpared 34 = .ok (.getfield 23, 3) := by decide +kernel
theorem dX11_findSpared_37 : decode cX11_findSpared 37 = .ok (.getfield 97, 3) := by decide +kernel
theorem dX11_findSpared_40 : decode cX11_findSpared 40 = .ok (.getfield 161, 3) := by decide +kernel
theorem dX11_findSpared_43 : decode cX11_findSpared 43 = .ok (.if_icmp .ge 28, 3) := by decide +kernel
theorem dX11_findSpared_46 : decode cX11_findSpared 46 = .ok (.aload_n 0, 1) := by decide +kernel
theorem dX11_findSpared_47 : decode cX11_findSpared 47 = .ok (.getfield 51, 3) := by decide +kernel
theorem dX11_findSpared_50 : decode cX11_findSpared 50 = .ok (.iload_n 1, 1) := by decide +kernel
theorem dX11_findSpared_51 : decode cX11_findSpared 51 = .ok (.aload_n 0, 1) := by decide +kernel
theorem dX11_findSpared_52 : decode cX11_findSpared 52 = .ok (.getfield 40, 3) := by decide +kernel
theorem dX11_findSpared_55 : decode cX11_findSpared 55 = .ok (.aload_n 0, 1) := by decide +kernel
theorem dX11_findSpared_56 : decode cX11_findSpared 56 = .ok (.getfield 23, 3) := by decide +kernel
theorem dX11_findSpared_59 : decode cX11_findSpared 59 = .ok (.iload_n 1, 1) := by decide +kernel
theorem dX11_findSpared_60 : decode cX11_findSpared 60 = .ok (.iconst 1, 1) := by decide +kernel
theorem dX11_findSpared_61 : decode cX11_findSpared 61 = .ok (.invokevirtual 177, 3) := by decide +kernel
theorem dX11_findSpared_64 : decode cX11_findSpared 64 = .ok (.lastore, 1) := by decide +kernel
theorem dX11_findSpared_65 : decode cX11_findSpared 65 = .ok (.iinc 1 1, 3) := by decide +kernel
theorem dX11_findSpared_68 : decode cX11_findSpared 68 = .ok (.goto (-36), 3) := by decide +kernel
theorem dX11_findSpared_71 : decode cX11_findSpared 71 = .ok (.aload_n 0, 1) := by decide +kernel
theorem dX11_findSpared_72 : decode cX11_findSpared 72 = .ok (.getfield 23, 3) := by decide +kernel
theorem dX11_findSpared_75 : decode cX11_findSpared 75 = .ok (.iconst 1, 1) := by decide +kernel
theorem dX11_findSpared_76 : decode cX11_findSpared 76 = .ok (.putfield 245, 3) := by decide +kernel
theorem dX11_findSpared_79 : decode cX11_findSpared 79 = .ok (.aload_n 0, 1) := by decide +kernel
theorem dX11_findSpared_80 : decode cX11_findSpared 80 = .ok (.getfield 40, 3) := by decide +kernel
theorem dX11_findSpared_83 : decode cX11_findSpared 83 = .ok (.aload_n 0, 1) := by decide +kernel
theorem dX11_findSpared_84 : decode cX11_findSpared 84 = .ok (.getfield 23, 3) := by decide +kernel
theorem dX11_findSpared_87 : decode cX11_findSpared 87 = .ok (.invokevirtual 154, 3) := by decide +kernel
theorem dX11_findSpared_90 : decode cX11_findSpared 90 = .ok (.iconst 0, 1) := by decide +kernel
theorem dX11_findSpared_91 : decode cX11_findSpared 91 = .ok (.istore_n 1, 1) := by decide +kernel
theorem dX11_findSpared_92 : decode cX11_findSpared 92 = .ok (.iload_n 1, 1) := by decide +kernel
theorem dX11_findSpared_93 : decode cX11_findSpared 93 = .ok (.aload_n 0, 1) := by decide +kernel
theorem dX11_findSpared_94 : decode cX11_findSpared 94 = .ok (.getfield 23, 3) := by decide +kernel
theorem dX11_findSpared_97 : decode cX11_findSpared 97 = .ok (.getfield 97, 3) := by decide +kernel
theorem dX11_findSpared_100 : decode cX11_findSpared 100 = .ok (.getfield 161, 3) := by decide +kernel
theorem dX11_findSpared_103 : decode cX11_findSpared 103 = .ok (.if_icmp .ge 82, 3) := by decide +kernel
theorem dX11_findSpared_106 : decode cX11_findSpared 106 = .ok (.aload_n 0, 1) := by decide +kernel
theorem dX11_findSpared_107 : decode cX11_findSpared 107 = .ok (.getfield 51, 3) := by decide +kernel
theorem dX11_findSpared_110 : decode cX11_findSpared 110 = .ok (.iload_n 1, 1) := by decide +kernel
theorem dX11_findSpared_111 : decode cX11_findSpared 111 = .ok (.laload, 1) := by decide +kernel
theorem dX11_findSpared_112 : decode cX11_findSpared 112 = .ok (.aload_n 0, 1) := by decide +kernel
theorem dX11_findSpared_113 : decode cX11_findSpared 113 = .ok (.getfield 40, 3) := by decide +kernel
theorem dX11_findSpared_116 : decode cX11_findSpared 116 = .ok (.aload_n 0, 1) := by decide +kernel
theorem dX11_findSpared_117 : decode cX11_findSpared 117 = .ok (.getfield 23, 3) := by decide +kernel
theorem dX11_findSpared_120 : decode cX11_findSpared 120 = .ok (.iload_n 1, 1) := by decide +kernel
theorem dX11_findSpared_121 : decode cX11_findSpared 121 = .ok (.iconst 1, 1) := by decide +kernel
theorem dX11_findSpared_122 : decode cX11_findSpared 122 = .ok (.invokevirtual 177, 3) := by decide +kernel
theorem dX11_findSpared_125 : decode cX11_findSpared 125 = .ok (.lsub, 1) := by decide +kernel
theorem dX11_findSpared_126 : decode cX11_findSpared 126 = .ok (.lstore_n 2, 1) := by decide +kernel
theorem dX11_findSpared_127 : decode cX11_findSpared 127 = .ok (.iload_n 1, 1) := by decide +kernel
theorem dX11_findSpared_128 : decode cX11_findSpared 128 = .ok (.istore 4, 2) := by decide +kernel
theorem dX11_findSpared_130 : decode cX11_findSpared 130 = .ok (.iload 4, 2) := by decide +kernel
theorem dX11_findSpared_132 : decode cX11_findSpared 132 = .ok (.ifCond .le 39, 3) := by decide +kernel
theorem dX11_findSpared_135 : decode cX11_findSpared 135 = .ok (.aload_n 0, 1) := by decide +kernel
theorem dX11_findSpared_136 : decode cX11_findSpared 136 = .ok (.getfield 51, 3) := by decide +kernel
theorem dX11_findSpared_139 : decode cX11_findSpared 139 = .ok (.iload 4, 2) := by decide +kernel
theorem dX11_findSpared_141 : decode cX11_findSpared 141 = .ok (.iconst 1, 1) := by decide +kernel
theorem dX11_findSpared_142 : decode cX11_findSpared 142 = .ok (.isub, 1) := by decide +kernel
theorem dX11_findSpared_143 : decode cX11_findSpared 143 = .ok (.laload, 1) := by decide +kernel
theorem dX11_findSpared_144 : decode cX11_findSpared 144 = .ok (.lload_n 2, 1) := by decide +kernel
theorem dX11_findSpared_145 : decode cX11_findSpared 145 = .ok (.lcmp, 1) := by decide +kernel
theorem dX11_findSpared_146 : decode cX11_findSpared 146 = .ok (.ifCond .ge 25, 3) := by decide +kernel
theorem dX11_findSpared_149 : decode cX11_findSpared 149 = .ok (.aload_n 0, 1) := by decide +kernel
theorem dX11_findSpared_150 : decode cX11_findSpared 150 = .ok (.getfield 51, 3) := by decide +kernel
theorem dX11_findSpared_153 : decode cX11_findSpared 153 = .ok (.iload 4, 2) := by decide +kernel
theorem dX11_findSpared_155 : decode cX11_findSpared 155 = .ok (.aload_n 0, 1) := by decide +kernel
theorem dX11_findSpared_156 : decode cX11_findSpared 156 = .ok (.getfield 51, 3) := by decide +kernel
theorem dX11_findSpared_159 : decode cX11_findSpared 159 = .ok (.iload 4, 2) := by decide +kernel
theorem dX11_findSpared_161 : decode cX11_findSpared 161 = .ok (.iconst 1, 1) := by decide +kernel
theorem dX11_findSpared_162 : decode cX11_findSpared 162 = .ok (.isub, 1) := by decide +kernel
theorem dX11_findSpared_163 : decode cX11_findSpared 163 = .ok (.laload, 1) := by decide +kernel
theorem dX11_findSpared_164 : decode cX11_findSpared 164 = .ok (.lastore, 1) := by decide +kernel
theorem dX11_findSpared_165 : decode cX11_findSpared 165 = .ok (.iinc 4 (-1), 3) := by decide +kernel
theorem dX11_findSpared_168 : decode cX11_findSpared 168 = .ok (.goto (-38), 3) := by decide +kernel
theorem dX11_findSpared_171 : decode cX11_findSpared 171 = .ok (.aload_n 0, 1) := by decide +kernel
theorem dX11_findSpared_172 : decode cX11_findSpared 172 = .ok (.getfield 51, 3) := by decide +kernel
theorem dX11_findSpared_175 : decode cX11_findSpared 175 = .ok (.iload 4, 2) := by decide +kernel
theorem dX11_findSpared_177 : decode cX11_findSpared 177 = .ok (.lload_n 2, 1) := by decide +kernel
theorem dX11_findSpared_178 : decode cX11_findSpared 178 = .ok (.lastore, 1) := by decide +kernel
theorem dX11_findSpared_179 : decode cX11_findSpared 179 = .ok (.iinc 1 1, 3) := by decide +kernel
theorem dX11_findSpared_182 : decode cX11_findSpared 182 = .ok (.goto (-90), 3) := by decide +kernel
theorem dX11_findSpared_185 : decode cX11_findSpared 185 = .ok (.return_, 1) := by decide +kernel
theorem dX11_anyWanted_0 : decode cX11_anyWanted 0 = .ok (.aload_n 0, 1) := by decide +kernel
theorem dX11_anyWanted_1 : decode cX11_anyWanted 1 = .ok (.getfield 40, 3) := by decide +kernel
theorem dX11_anyWanted_4 : decode cX11_anyWanted 4 = .ok (.aload_n 1, 1) := by decide +kernel
theorem dX11_anyWanted_5 : decode cX11_anyWanted 5 = .ok (.invokevirtual 138, 3) := by decide +kernel
theorem dX11_anyWanted_8 : decode cX11_anyWanted 8 = .ok (.iconst 0, 1) := by decide +kernel
theorem dX11_anyWanted_9 : decode cX11_anyWanted 9 = .ok (.istore_n 2, 1) := by decide +kernel
theorem dX11_anyWanted_10 : decode cX11_anyWanted 10 = .ok (.iload_n 2, 1) := by decide +kernel
theorem dX11_anyWanted_11 : decode cX11_anyWanted 11 = .ok (.aload_n 1, 1) := by decide +kernel
theorem dX11_anyWanted_12 : decode cX11_anyWanted 12 = .ok (.getfield 279, 3) := by decide +kernel
theorem dX11_anyWanted_15 : decode cX11_anyWanted 15 = .ok (.getfield 283, 3) := by decide +kernel
theorem dX11_anyWanted_18 : decode cX11_anyWanted 18 = .ok (.if_icmp .ge 23, 3) := by decide +kernel
theorem dX11_anyWanted_21 : decode cX11_anyWanted 21 = .ok (.aload_n 0, 1) := by decide +kernel
theorem dX11_anyWanted_22 : decode cX11_anyWanted 22 = .ok (.getfield 40, 3) := by decide +kernel
theorem dX11_anyWanted_25 : decode cX11_anyWanted 25 = .ok (.aload_n 1, 1) := by decide +kernel
theorem dX11_anyWanted_26 : decode cX11_anyWanted 26 = .ok (.iload_n 2, 1) := by decide +kernel
theorem dX11_anyWanted_27 : decode cX11_anyWanted 27 = .ok (.invokevirtual 144, 3) := by decide +kernel
theorem dX11_anyWanted_30 : decode cX11_anyWanted 30 = .ok (.ifCond .le 5, 3) := by decide +kernel
theorem dX11_anyWanted_33 : decode cX11_anyWanted 33 = .ok (.iconst 1, 1) := by decide +kernel
theorem dX11_anyWanted_34 : decode cX11_anyWanted 34 = .ok (.ireturn, 1) := by decide +kernel
theorem dX11_anyWanted_35 : decode cX11_anyWanted 35 = .ok (.iinc 2 1, 3) := by decide +kernel
theorem dX11_anyWanted_38 : decode cX11_anyWanted 38 = .ok (.goto (-28), 3) := by decide +kernel
theorem dX11_anyWanted_41 : decode cX11_anyWanted 41 = .ok (.iconst 0, 1) := by decide +kernel
theorem dX11_anyWanted_42 : decode cX11_anyWanted 42 = .ok (.ireturn, 1) := by decide +kernel
theorem dX11_coveredOn_0 : decode cX11_coveredOn 0 = .ok (.aload_n 0, 1) := by decide +kernel
theorem dX11_coveredOn_1 : decode cX11_coveredOn 1 = .ok (.getfield 40, 3) := by decide +kernel
theorem dX11_coveredOn_4 : decode cX11_coveredOn 4 = .ok (.aload_n 1, 1) := by decide +kernel
theorem dX11_coveredOn_5 : decode cX11_coveredOn 5 = .ok (.invokevirtual 154, 3) := by decide +kernel
theorem dX11_coveredOn_8 : decode cX11_coveredOn 8 = .ok (.aload_n 0, 1) := by decide +kernel
theorem dX11_coveredOn_9 : decode cX11_coveredOn 9 = .ok (.getfield 40, 3) := by decide +kernel
theorem dX11_coveredOn_12 : decode cX11_coveredOn 12 = .ok (.aload_n 1, 1) := by decide +kernel
theorem dX11_coveredOn_13 : decode cX11_coveredOn 13 = .ok (.iload_n 2, 1) := by decide +kernel
theorem dX11_coveredOn_14 : decode cX11_coveredOn 14 = .ok (.iconst 1, 1) := by decide +kernel
theorem dX11_coveredOn_15 : decode cX11_coveredOn 15 = .ok (.invokevirtual 177, 3) := by decide +kernel
theorem dX11_coveredOn_18 : decode cX11_coveredOn 18 = .ok (.lstore 5, 2) := by decide +kernel
theorem dX11_coveredOn_20 : decode cX11_coveredOn 20 = .ok (.ldc2_w 412, 3) := by decide +kernel
theorem dX11_coveredOn_23 : decode cX11_coveredOn 23 = .ok (.iload_n 3, 1) := by decide +kernel
theorem dX11_coveredOn_24 : decode cX11_coveredOn 24 = .ok (.i2l, 1) := by decide +kernel
theorem dX11_coveredOn_25 : decode cX11_coveredOn 25 = .ok (.lmul, 1) := by decide +kernel
theorem dX11_coveredOn_26 : decode cX11_coveredOn 26 = .ok (.aload_n 0, 1) := by decide +kernel
theorem dX11_coveredOn_27 : decode cX11_coveredOn 27 = .ok (.getfield 40, 3) := by decide +kernel
theorem dX11_coveredOn_30 : decode cX11_coveredOn 30 = .ok (.aload_n 1, 1) := by decide +kernel
theorem dX11_coveredOn_31 : decode cX11_coveredOn 31 = .ok (.iload_n 2, 1) := by decide +kernel
theorem dX11_coveredOn_32 : decode cX11_coveredOn 32 = .ok (.iconst 0, 1) := by decide +kernel
theorem dX11_coveredOn_33 : decode cX11_coveredOn 33 = .ok (.invokevirtual 177, 3) := by decide +kernel
theorem dX11_coveredOn_36 : decode cX11_coveredOn 36 = .ok (.ladd, 1) := by decide +kernel
theorem dX11_coveredOn_37 : decode cX11_coveredOn 37 = .ok (.bipush 100, 2) := by decide +kernel
theorem dX11_coveredOn_39 : decode cX11_coveredOn 39 = .ok (.iload 4, 2) := by decide +kernel
theorem dX11_coveredOn_41 : decode cX11_coveredOn 41 = .ok (.isub, 1) := by decide +kernel
theorem dX11_coveredOn_42 : decode cX11_coveredOn 42 = .ok (.i2l, 1) := by decide +kernel
theorem dX11_coveredOn_43 : decode cX11_coveredOn 43 = .ok (.lload 5, 2) := by decide +kernel
theorem dX11_coveredOn_45 : decode cX11_coveredOn 45 = .ok (.lmul, 1) := by decide +kernel
theorem dX11_coveredOn_46 : decode cX11_coveredOn 46 = .ok (.ldc2_w 414, 3) := by decide +kernel
theorem dX11_coveredOn_49 : decode cX11_coveredOn 49 = .ok (.ldiv, 1) := by decide +kernel
theorem dX11_coveredOn_50 : decode cX11_coveredOn 50 = .ok (.ladd, 1) := by decide +kernel
theorem dX11_coveredOn_51 : decode cX11_coveredOn 51 = .ok (.lreturn, 1) := by decide +kernel
theorem dX11_carelessOption_0 : decode cX11_carelessOption 0 = .ok (.aload_n 0, 1) := by decide +kernel
theorem dX11_carelessOption_1 : decode cX11_carelessOption 1 = .ok (.getfield 23, 3) := by decide +kernel
theorem dX11_carelessOption_4 : decode cX11_carelessOption 4 = .ok (.aload_n 0, 1) := by decide +kernel
theorem dX11_carelessOption_5 : decode cX11_carelessOption 5 = .ok (.getfield 19, 3) := by decide +kernel
theorem dX11_carelessOption_8 : decode cX11_carelessOption 8 = .ok (.invokevirtual 73, 3) := by decide +kernel
theorem dX11_carelessOption_11 : decode cX11_carelessOption 11 = .ok (.iconst 0, 1) := by decide +kernel
theorem dX11_carelessOption_12 : decode cX11_carelessOption 12 = .ok (.istore 4, 2) := by decide +kernel
theorem dX11_carelessOption_14 : decode cX11_carelessOption 14 = .ok (.ldc2_w 222, 3) := by decide +kernel
theorem dX11_carelessOption_17 : decode cX11_carelessOption 17 = .ok (.lstore 5, 2) := by decide +kernel
theorem dX11_carelessOption_19 : decode cX11_carelessOption 19 = .ok (.iconst 0, 1) := by decide +kernel
theorem dX11_carelessOption_20 : decode cX11_carelessOption 20 = .ok (.istore 7, 2) := by decide +kernel
theorem dX11_carelessOption_22 : decode cX11_carelessOption 22 = .ok (.iload 7, 2) := by decide +kernel
theorem dX11_carelessOption_24 : decode cX11_carelessOption 24 = .ok (.aload_n 0, 1) := by decide +kernel
theorem dX11_carelessOption_25 : decode cX11_carelessOption 25 = .ok (.getfield 23, 3) := by decide +kernel
theorem dX11_carelessOption_28 : decode cX11_carelessOption 28 = .ok (.invokevirtual 219, 3) := by decide +kernel
theorem dX11_carelessOption_31 : decode cX11_carelessOption 31 = .ok (.if_icmp .ge 51, 3) := by decide +kernel
theorem dX11_carelessOption_34 : decode cX11_carelessOption 34 = .ok (.aload_n 0, 1) := by decide +kernel
theorem dX11_carelessOption_35 : decode cX11_carelessOption 35 = .ok (.getfield 23, 3) := by decide +kernel
theorem dX11_carelessOption_38 : decode cX11_carelessOption 38 = .ok (.getfield 97, 3) := by decide +kernel
theorem dX11_carelessOption_41 : decode cX11_carelessOption 41 = .ok (.iload_n 1, 1) := by decide +kernel
theorem dX11_carelessOption_42 : decode cX11_carelessOption 42 = .ok (.iload 7, 2) := by decide +kernel
theorem dX11_carelessOption_44 : decode cX11_carelessOption 44 = .ok (.invokevirtual 191, 3) := by decide +kernel
theorem dX11_carelessOption_47 : decode cX11_carelessOption 47 = .ok (.aload_n 0, 1) := by decide +kernel
theorem dX11_carelessOption_48 : decode cX11_carelessOption 48 = .ok (.aload_n 0, 1) := by decide +kernel
theorem dX11_carelessOption_49 : decode cX11_carelessOption 49 = .ok (.getfield 23, 3) := by decide +kernel
theorem dX11_carelessOption_52 : decode cX11_carelessOption 52 = .ok (.iload_n 1, 1) := by decide +kernel
theorem dX11_carelessOption_53 : decode cX11_carelessOption 53 = .ok (.iload_n 2, 1) := by decide +kernel
theorem dX11_carelessOption_54 : decode cX11_carelessOption 54 = .ok (.iload_n 3, 1) := by decide +kernel
theorem dX11_carelessOption_55 : decode cX11_carelessOption 55 = .ok (.invokevirtual 296, 3) := by decide +kernel
theorem dX11_carelessOption_58 : decode cX11_carelessOption 58 = .ok (.lstore 8, 2) := by decide +kernel
theorem dX11_carelessOption_60 : decode cX11_carelessOption 60 = .ok (.lload 8, 2) := by decide +kernel
theorem dX11_carelessOption_62 : decode cX11_carelessOption 62 = .ok (.lload 5, 2) := by decide +kernel
theorem dX11_carelessOption_64 : decode cX11_carelessOption 64 = .ok (.lcmp, 1) := by decide +kernel
theorem dX11_carelessOption_65 : decode cX11_carelessOption 65 = .ok (.ifCond .ge 11, 3) := by decide +kernel
theorem dX11_carelessOption_68 : decode cX11_carelessOption 68 = .ok (.lload 8, 2) := by decide +kernel
theorem dX11_carelessOption_70 : decode cX11_carelessOption 70 = .ok (.lstore 5, 2) := by decide +kernel
theorem dX11_carelessOption_72 : decode cX11_carelessOption 72 = .ok (.iload 7, 2) := by decide +kernel
theorem dX11_carelessOption_74 : decode cX11_carelessOption 74 = .ok (.istore 4, 2) := by decide +kernel
theorem dX11_carelessOption_76 : decode cX11_carelessOption 76 = .ok (.iinc 7 1, 3) := by decide +kernel
theorem dX11_carelessOption_79 : decode cX11_carelessOption 79 = .ok (.goto (-57), 3) := by decide +kernel
theorem dX11_carelessOption_82 : decode cX11_carelessOption 82 = .ok (.iload 4, 2) := by decide +kernel
theorem dX11_carelessOption_84 : decode cX11_carelessOption 84 = .ok (.ireturn, 1) := by decide +kernel
theorem dX11_costByLaw_0 : decode cX11_costByLaw 0 = .ok (.aload_n 0, 1) := by decide +kernel
theorem dX11_costByLaw_1 : decode cX11_costByLaw 1 = .ok (.getfield 23, 3) := by decide +kernel
theorem dX11_costByLaw_4 : decode cX11_costByLaw 4 = .ok (.aload_n 0, 1) := by decide +kernel
theorem dX11_costByLaw_5 : decode cX11_costByLaw 5 = .ok (.getfield 19, 3) := by decide +kernel
theorem dX11_costByLaw_8 : decode cX11_costByLaw 8 = .ok (.invokevirtual 73, 3) := by decide +kernel
theorem dX11_costByLaw_11 : decode cX11_costByLaw 11 = .ok (.iconst 0, 1) := by decide +kernel
theorem dX11_costByLaw_12 : decode cX11_costByLaw 12 = .ok (.istore_n 2, 1) := by decide +kernel
theorem dX11_costByLaw_13 : decode cX11_costByLaw 13 = .ok (.iload_n 2, 1) := by decide +kernel
theorem dX11_costByLaw_14 : decode cX11_costByLaw 14 = .ok (.aload_n 0, 1) := by decide +kernel
theorem dX11_costByLaw_15 : decode cX11_costByLaw 15 = .ok (.getfield 23, 3) := by decide +kernel
theorem dX11_costByLaw_18 : decode cX11_costByLaw 18 = .ok (.getfield 97, 3) := by decide +kernel
theorem dX11_costByLaw_21 : decode cX11_costByLaw 21 = .ok (.getfield 161, 3) := by decide +kernel
theorem dX11_costByLaw_24 : decode cX11_costByLaw 24 = .ok (.if_icmp .ge 37, 3) := by decide +kernel
theorem dX11_costByLaw_27 : decode cX11_costByLaw 27 = .ok (.aload_n 0, 1) := by decide +kernel
theorem dX11_costByLaw_28 : decode cX11_costByLaw 28 = .ok (.getfield 23, 3) := by decide +kernel
theorem dX11_costByLaw_31 : decode cX11_costByLaw 31 = .ok (.getfield 97, 3) := by decide +kernel
theorem dX11_costByLaw_34 : decode cX11_costByLaw 34 = .ok (.getfield 113, 3) := by decide +kernel
theorem dX11_costByLaw_37 : decode cX11_costByLaw 37 = .ok (.iload_n 2, 1) := by decide +kernel
theorem dX11_costByLaw_38 : decode cX11_costByLaw 38 = .ok (.aload_n 0, 1) := by decide +kernel
theorem dX11_costByLaw_39 : decode cX11_costByLaw 39 = .ok (.getfield 23, 3) := by decide +kernel
theorem dX11_costByLaw_42 : decode cX11_costByLaw 42 = .ok (.getfield 97, 3) := by decide +kernel
theorem dX11_costByLaw_45 : decode cX11_costByLaw 45 = .ok (.getfield 113, 3) := by decide +kernel
theorem dX11_costByLaw_48 : decode cX11_costByLaw 48 = .ok (.iload_n 2, 1) := by decide +kernel
theorem dX11_costByLaw_49 : decode cX11_costByLaw 49 = .ok (.iaload, 1) := by decide +kernel
theorem dX11_costByLaw_50 : decode cX11_costByLaw 50 = .ok (.iload_n 1, 1) := by decide +kernel
theorem dX11_costByLaw_51 : decode cX11_costByLaw 51 = .ok (.invokestatic 416, 3) := by decide +kernel
theorem dX11_costByLaw_54 : decode cX11_costByLaw 54 = .ok (.iastore, 1) := by decide +kernel
theorem dX11_costByLaw_55 : decode cX11_costByLaw 55 = .ok (.iinc 2 1, 3) := by decide +kernel
theorem dX11_costByLaw_58 : decode cX11_costByLaw 58 = .ok (.goto (-45), 3) := by decide +kernel
theorem dX11_costByLaw_61 : decode cX11_costByLaw 61 = .ok (.aload_n 0, 1) := by decide +kernel
theorem dX11_costByLaw_62 : decode cX11_costByLaw 62 = .ok (.aload_n 0, 1) := by decide +kernel
theorem dX11_costByLaw_63 : decode cX11_costByLaw 63 = .ok (.getfield 23, 3) := by decide +kernel
theorem dX11_costByLaw_66 : decode cX11_costByLaw 66 = .ok (.iconst 2, 1) := by decide +kernel
theorem dX11_costByLaw_67 : decode cX11_costByLaw 67 = .ok (.invokevirtual 181, 3) := by decide +kernel
theorem dX11_costByLaw_70 : decode cX11_costByLaw 70 = .ok (.lreturn, 1) := by decide +kernel
theorem dX11_netTaken_0 : decode cX11_netTaken 0 = .ok (.aload_n 0, 1) := by decide +kernel
theorem dX11_netTaken_1 : decode cX11_netTaken 1 = .ok (.getfield 40, 3) := by decide +kernel
theorem dX11_netTaken_4 : decode cX11_netTaken 4 = .ok (.aload_n 1, 1) := by decide +kernel
theorem dX11_netTaken_5 : decode cX11_netTaken 5 = .ok (.invokevirtual 138, 3) := by decide +kernel
theorem dX11_netTaken_8 : decode cX11_netTaken 8 = .ok (.aload_n 0, 1) := by decide +kernel
theorem dX11_netTaken_9 : decode cX11_netTaken 9 = .ok (.getfield 40, 3) := by decide +kernel
theorem dX11_netTaken_12 : decode cX11_netTaken 12 = .ok (.iload_n 2, 1) := by decide +kernel
theorem dX11_netTaken_13 : decode cX11_netTaken 13 = .ok (.iconst 0, 1) := by decide +kernel
theorem dX11_netTaken_14 : decode cX11_netTaken 14 = .ok (.invokevirtual 141, 3) := by decide +kernel
theorem dX11_netTaken_17 : decode cX11_netTaken 17 = .ok (.istore_n 3, 1) := by decide +kernel
theorem dX11_netTaken_18 : decode cX11_netTaken 18 = .ok (.iload_n 3, 1) := by decide +kernel
theorem dX11_netTaken_19 : decode cX11_netTaken 19 = .ok (.iconst (-1), 1) := by decide +kernel
theorem dX11_netTaken_20 : decode cX11_netTaken 20 = .ok (.if_icmp .ne 7, 3) := by decide +kernel
theorem dX11_netTaken_23 : decode cX11_netTaken 23 = .ok (.iconst 0, 1) := by decide +kernel
theorem dX11_netTaken_24 : decode cX11_netTaken 24 = .ok (.goto 13, 3) := by decide +kernel
theorem dX11_netTaken_27 : decode cX11_netTaken 27 = .ok (.aload_n 0, 1) := by decide +kernel
theorem dX11_netTaken_28 : decode cX11_netTaken 28 = .ok (.getfield 40, 3) := by decide +kernel
theorem dX11_netTaken_31 : decode cX11_netTaken 31 = .ok (.aload_n 1, 1) := by decide +kernel
theorem dX11_netTaken_32 : decode cX11_netTaken 32 = .ok (.iload_n 2, 1) := by decide +kernel
theorem dX11_netTaken_33 : decode cX11_netTaken 33 = .ok (.iload_n 3, 1) := by decide +kernel
theorem dX11_netTaken_34 : decode cX11_netTaken 34 = .ok (.invokevirtual 418, 3) := by decide +kernel
theorem dX11_netTaken_37 : decode cX11_netTaken 37 = .ok (.ireturn, 1) := by decide +kernel
